set_option maxHeartbeats 4000000 in
set_option maxRecDepth 100000 in
theorem c_X4_isWidth (l : Launch) (w : Int32)  : Met l yX4_isWidth wsX4_isWidth ({ frames := 0, cells := 0, slots := 0, locals := 0 }) (va_Pc [.int w] (fun _ => True)) (vp_Si (fun r => ((w = nI 1 ∨ w = nI 2 ∨ w = nI 4) ∧ r = nI 1) ∨ (¬ (w = nI 1 ∨ w = nI 2 ∨ w = nI 4) ∧ r = nI 0))) 0 0 (fun _ => False) := by
  refine Met.ofW (cc := cX4_isWidth) (maxL := 1) (ret := (some .boolean)) (by decide) rfl ?_
  intro p e s m args below meth c s₁ B hml hv
  obtain ⟨rfl, -⟩ := hv
  have hx := B.exec
  have hb := B.bytes
  have hr := B.returns
  have hts := atoms_spec (ws := wsX4_isWidth) B.pre
  have hown : s.vm.findClass RX4 = some m.cls := findClass_of_methodNamed B.named
  have hlocks := B.notSynchronized
  have hl := lv_entry ([.int w]) (n := 1) (Nat.le_of_ble_eq_true rfl)
  rw [lg_entry_eq]
  generalize (lg_sl ([.int w]) ++ List.replicate (1 - (lg_sl ([.int w])).length) Slot.unset).toArray = ls at hl ⊢
  have hl : lv_has ls 1 [(0, .int w)] := hl
  refine lv_iload_n hx hb dX4_isWidth_0 rfl (lv_at hl 0 rfl) ?_
  refine lv_iconst (v := (nI 1)) hx hb dX4_isWidth_1 (by decide) ?_
  refine lv_icmp_eq (tgt := 15) hx hb dX4_isWidth_2 (by decide) (fun c_2 => ?_) (fun c_2 => ?_)
  · refine lv_iconst (v := (nI 1)) hx hb dX4_isWidth_15 (by decide) ?_
    refine lv_goto (tgt := 20) hx hb dX4_isWidth_16 (by decide) ?_
    exact W.zret (v := (nI 1)) (ty := .boolean) hx hb hr (by decide) (fun t ht hW => ⟨(nI 1), rfl, (Or.inl ⟨by first | (left; assumption) | (right; left; assumption) | (right; right; assumption), rfl⟩), ht⟩) (fun _ h9 => absurd h9 List.not_mem_nil) dX4_isWidth_20
  · refine lv_iload_n hx hb dX4_isWidth_5 rfl (lv_at hl 0 rfl) ?_
    refine lv_iconst (v := (nI 2)) hx hb dX4_isWidth_6 (by decide) ?_
    refine lv_icmp_eq (tgt := 15) hx hb dX4_isWidth_7 (by decide) (fun c_7 => ?_) (fun c_7 => ?_)
    · refine lv_iconst (v := (nI 1)) hx hb dX4_isWidth_15 (by decide) ?_
      refine lv_goto (tgt := 20) hx hb dX4_isWidth_16 (by decide) ?_
      exact W.zret (v := (nI 1)) (ty := .boolean) hx hb hr (by decide) (fun t ht hW => ⟨(nI 1), rfl, (Or.inl ⟨by first | (left; assumption) | (right; left; assumption) | (right; right; assumption), rfl⟩), ht⟩) (fun _ h9 => absurd h9 List.not_mem_nil) dX4_isWidth_20
    · refine lv_iload_n hx hb dX4_isWidth_10 rfl (lv_at hl 0 rfl) ?_
      refine lv_iconst (v := (nI 4)) hx hb dX4_isWidth_11 (by decide) ?_
      refine lv_icmp_ne (tgt := 19) hx hb dX4_isWidth_12 (by decide) (fun c_12 => ?_) (fun c_12 => ?_)
      · refine lv_iconst (v := (nI 0)) hx hb dX4_isWidth_19 (by decide) ?_
        exact W.zret (v := (nI 0)) (ty := .boolean) hx hb hr (by decide) (fun t ht hW => ⟨(nI 0), rfl, (Or.inr ⟨by rintro (h | h | h) <;> contradiction, rfl⟩), ht⟩) (fun _ h9 => absurd h9 List.not_mem_nil) dX4_isWidth_20
      · refine lv_iconst (v := (nI 1)) hx hb dX4_isWidth_15 (by decide) ?_
        refine lv_goto (tgt := 20) hx hb dX4_isWidth_16 (by decide) ?_
        exact W.zret (v := (nI 1)) (ty := .boolean) hx hb hr (by decide) (fun t ht hW => ⟨(nI 1), rfl, (Or.inl ⟨by first | (left; assumption) | (right; left; assumption) | (right; right; assumption), rfl⟩), ht⟩) (fun _ h9 => absurd h9 List.not_mem_nil) dX4_isWidth_20
set_option maxHeartbeats 4000000 in
set_option maxRecDepth 100000 in
theorem c_X4_isSize (l : Launch) (v : Nat) (g1 : v < 2 ^ 31) : Met l yX4_isSize wsX4_isSize ({ frames := 0, cells := 0, slots := 0, locals := 0 }) (va_Pc [.int (nI v)] (fun _ => True)) (vp_Si (fun r => ((256 ≤ v ∧ v ≤ 8192 ∧ v % 256 = 0) ∧ r = nI 1) ∨ (¬ (256 ≤ v ∧ v ≤ 8192 ∧ v % 256 = 0) ∧ r = nI 0))) 0 0 (fun _ => False) := by
  refine Met.ofW (cc := cX4_isSize) (maxL := 1) (ret := (some .boolean)) (by decide) rfl ?_
  intro p e s m args below meth c s₁ B hml hv
  obtain ⟨rfl, -⟩ := hv
  have hx := B.exec
  have hb := B.bytes
  have hr := B.returns
  have hts := atoms_spec (ws := wsX4_isSize) B.pre
  have hown : s.vm.findClass RX4 = some m.cls := findClass_of_methodNamed B.named
  have hlocks := B.notSynchronized
  have hl := lv_entry ([.int (nI v)]) (n := 1) (Nat.le_of_ble_eq_true rfl)
  rw [lg_entry_eq]
  generalize (lg_sl ([.int (nI v)]) ++ List.replicate (1 - (lg_sl ([.int (nI v)])).length) Slot.unset).toArray = ls at hl ⊢
  have hl : lv_has ls 1 [(0, .int (nI v))] := hl
  refine lv_iload_n hx hb dX4_isSize_0 rfl (lv_at hl 0 rfl) ?_
  refine lv_sipush (v := (nI 256)) hx hb dX4_isSize_1 (by decide) ?_
  refine lv_icmp_lt (tgt := 26) hx hb dX4_isSize_4 (by decide) (fun c_4 => ?_) (fun c_4 => ?_)
  · have c_4 : v < 256 := (nI_ltI (a := v) (b := 256) (by omega) (by omega)).mp c_4
    refine lv_iconst (v := (nI 0)) hx hb dX4_isSize_26 (by decide) ?_
    exact W.zret (v := (nI 0)) (ty := .boolean) hx hb hr (by decide) (fun t ht hW => ⟨(nI 0), rfl, (Or.inr ⟨by omega, rfl⟩), ht⟩) (fun _ h9 => absurd h9 List.not_mem_nil) dX4_isSize_27
  · have c_4 : ¬ v < 256 := fun q => c_4 ((nI_ltI (a := v) (b := 256) (by omega) (by omega)).mpr q)
    refine lv_iload_n hx hb dX4_isSize_7 rfl (lv_at hl 0 rfl) ?_
    refine lv_sipush (v := (nI 8192)) hx hb dX4_isSize_8 (by decide) ?_
    refine lv_icmp_gt (tgt := 26) hx hb dX4_isSize_11 (by decide) (fun c_11 => ?_) (fun c_11 => ?_)
    · have c_11 : 8192 < v := (nI_ltI (a := 8192) (b := v) (by omega) (by omega)).mp c_11
      refine lv_iconst (v := (nI 0)) hx hb dX4_isSize_26 (by decide) ?_
      exact W.zret (v := (nI 0)) (ty := .boolean) hx hb hr (by decide) (fun t ht hW => ⟨(nI 0), rfl, (Or.inr ⟨by omega, rfl⟩), ht⟩) (fun _ h9 => absurd h9 List.not_mem_nil) dX4_isSize_27
    · have c_11 : ¬ 8192 < v := fun q => c_11 ((nI_ltI (a := 8192) (b := v) (by omega) (by omega)).mpr q)
      refine lv_iload_n hx hb dX4_isSize_14 rfl (lv_at hl 0 rfl) ?_
      refine lv_sipush (v := (nI 256)) hx hb dX4_isSize_15 (by decide) ?_
      refine lv_irem hx hb dX4_isSize_18 (by decide) ?_
      refine tpi (pk_rem (by omega) (by decide) (by decide)) ?_
      refine lv_if_ne (tgt := 26) hx hb dX4_isSize_19 (by decide) (fun c_19 => ?_) (fun c_19 => ?_)
      · have c_19 : ¬ v % 256 = 0 := fun q => c_19 ((nZ_eq (by omega)).mpr q)
        refine lv_iconst (v := (nI 0)) hx hb dX4_isSize_26 (by decide) ?_
        exact W.zret (v := (nI 0)) (ty := .boolean) hx hb hr (by decide) (fun t ht hW => ⟨(nI 0), rfl, (Or.inr ⟨by omega, rfl⟩), ht⟩) (fun _ h9 => absurd h9 List.not_mem_nil) dX4_isSize_27
      · have c_19 : v % 256 = 0 := (nZ_eq (by omega)).mp c_19
        refine lv_iconst (v := (nI 1)) hx hb dX4_isSize_22 (by decide) ?_
        refine lv_goto (tgt := 27) hx hb dX4_isSize_23 (by decide) ?_
        exact W.zret (v := (nI 1)) (ty := .boolean) hx hb hr (by decide) (fun t ht hW => ⟨(nI 1), rfl, (Or.inl ⟨by omega, rfl⟩), ht⟩) (fun _ h9 => absurd h9 List.not_mem_nil) dX4_isSize_27
set_option maxHeartbeats 4000000 in
set_option maxRecDepth 100000 in
theorem c_X4_isIn (l : Launch) (dC : Nat → ClassId) (dI : Nat → Nat → Nat) (cI : ClassId) (a : Nat → Nat) (sz st us kp ga gl cs : Nat) (mem pl ln km ks kt ku kl kn cd wt : Nat → Nat) (x n : Nat) (g1 : x < 2 ^ 62) (g2 : n < 2 ^ 62) (g3 : sz ≤ 8192) : Met l yX4_isIn wsX4_isIn ({ frames := 0, cells := 0, slots := 0, locals := 0 }) (va_Pc [.ref (a 0), .long (lN x), .long (lN n)] (fun U => va_P (dC, dI) vwCl (mw cI a sz st us kp ga gl cs mem pl ln km ks kt ku kl kn cd wt) U.heap ∧ va_K (dC, dI) vwCl [(cI, .int)] U)) (vp_Si (fun r => ((n = 0 ∨ x + n ≤ sz) ∧ r = nI 1) ∨ (¬ (n = 0 ∨ x + n ≤ sz) ∧ r = nI 0))) 0 0 (fun _ => False) := by
  refine Met.ofW (cc := cX4_isIn) (maxL := 5) (ret := (some .boolean)) (by decide) rfl ?_
  intro p e s m args below meth c s₁ B hml hv
  obtain ⟨rfl, hP, hK⟩ := hv
  have hx := B.exec
  have hb := B.bytes
  have hr := B.returns
  have hts := atoms_spec (ws := wsX4_isIn) B.pre
  have hown : s.vm.findClass RX4 = some m.cls := findClass_of_methodNamed B.named
  have hlocks := B.notSynchronized
  have in_X4 : ∀ w ∈ wsX40, w ∈ wsX4_isIn := fun _ h => List.mem_cons_of_mem _ (List.mem_append_right _ h)
  have lk_1 := hts (.fieldLink RX4 44 "GlulxHeapModel" "size" "I") (List.mem_of_getElem? (i := 1) rfl)
  have hl := lv_entry ([.ref (a 0), .long (lN x), .long (lN n)]) (n := 5) (Nat.le_of_ble_eq_true rfl)
  rw [lg_entry_eq]
  generalize (lg_sl ([.ref (a 0), .long (lN x), .long (lN n)]) ++ List.replicate (5 - (lg_sl ([.ref (a 0), .long (lN x), .long (lN n)])).length) Slot.unset).toArray = ls at hl ⊢
  have hl : lv_has ls 5 [(0, .ref (a 0)), (1, .long (lN x)), (3, .long (lN n))] := hl
  refine lv_lload_n hx hb dX4_isIn_0 rfl (lv_at hl 2 rfl) ?_
  refine lv_lconst (v := lN 0) hx hb dX4_isIn_1 (by decide) ?_
  refine W.lcmp hx hb dX4_isIn_2 ?_
  refine lv_if_eq (tgt := 24) hx hb dX4_isIn_3 (by decide) (fun c_3 => ?_) (fun c_3 => ?_)
  · have c_3 : n = 0 := (pk_lEQ (a := n) (b := 0) (by omega) (by omega)).mp ((lg_cmp_eq _ _).mp c_3)
    refine lv_iconst (v := (nI 1)) hx hb dX4_isIn_24 (by decide) ?_
    refine lv_goto (tgt := 29) hx hb dX4_isIn_25 (by decide) ?_
    exact W.zret (v := (nI 1)) (ty := .boolean) hx hb hr (by decide) (fun t ht hW => ⟨(nI 1), rfl, (Or.inl ⟨by omega, rfl⟩), ht⟩) (fun _ h9 => absurd h9 List.not_mem_nil) dX4_isIn_29
  · have c_3 : ¬ n = 0 := fun q => c_3 ((lg_cmp_eq _ _).mpr ((pk_lEQ (a := n) (b := 0) (by omega) (by omega)).mpr q))
    refine lv_lload_n hx hb dX4_isIn_6 rfl (lv_at hl 1 rfl) ?_
    refine lv_lconst (v := lN 0) hx hb dX4_isIn_7 (by decide) ?_
    refine W.lcmp hx hb dX4_isIn_8 ?_
    refine lv_if_lt (tgt := 28) hx hb dX4_isIn_9 (by decide) (fun c_9 => ?_) (fun c_9 => ?_)
    · have c_9 : x < 0 := (pk_lLT (a := x) (b := 0) (by omega) (by omega)).mp ((lg_cmp_lt _ _).mp c_9)
      refine lv_iconst (v := (nI 0)) hx hb dX4_isIn_28 (by decide) ?_
      exact W.zret (v := (nI 0)) (ty := .boolean) hx hb hr (by decide) (fun t ht hW => ⟨(nI 0), rfl, (Or.inr ⟨by omega, rfl⟩), ht⟩) (fun _ h9 => absurd h9 List.not_mem_nil) dX4_isIn_29
    · have c_9 : ¬ x < 0 := fun q => c_9 ((lg_cmp_lt _ _).mpr ((pk_lLT (a := x) (b := 0) (by omega) (by omega)).mpr q))
      refine lv_lload_n hx hb dX4_isIn_12 rfl (lv_at hl 1 rfl) ?_
      refine lv_lload_n hx hb dX4_isIn_13 rfl (lv_at hl 2 rfl) ?_
      refine lv_ladd hx hb dX4_isIn_14 ?_
      refine tpl (lN_add _ _) ?_
      refine lv_aload_n hx hb dX4_isIn_15 rfl (lv_at hl 0 rfl) ?_
      refine va_get (D := (dC, dI)) (ci := 4) (v := .int (nI sz)) (C := RX4) (T := TX4) (N := 18) hx hb hts in_X4 hown hK hP 0 rfl rfl 1 (by decide) lk_1 (fun _ h9 => h9) rfl dX4_isIn_16 ?_
      refine lv_i2l (v := lN sz) hx hb dX4_isIn_19 (nI_l (by omega)) ?_
      refine W.lcmp hx hb dX4_isIn_20 ?_
      refine lv_if_gt (tgt := 28) hx hb dX4_isIn_21 (by decide) (fun c_21 => ?_) (fun c_21 => ?_)
      · have c_21 : sz < x + n := (pk_lLT (a := sz) (b := x + n) (by omega) (by omega)).mp ((lg_cmp_gt _ _).mp c_21)
        refine lv_iconst (v := (nI 0)) hx hb dX4_isIn_28 (by decide) ?_
        exact W.zret (v := (nI 0)) (ty := .boolean) hx hb hr (by decide) (fun t ht hW => ⟨(nI 0), rfl, (Or.inr ⟨by omega, rfl⟩), ht⟩) (fun _ h9 => absurd h9 List.not_mem_nil) dX4_isIn_29
      · have c_21 : ¬ sz < x + n := fun q => c_21 ((lg_cmp_gt _ _).mpr ((pk_lLT (a := sz) (b := x + n) (by omega) (by omega)).mpr q))
        refine lv_iconst (v := (nI 1)) hx hb dX4_isIn_24 (by decide) ?_
        refine lv_goto (tgt := 29) hx hb dX4_isIn_25 (by decide) ?_
        exact W.zret (v := (nI 1)) (ty := .boolean) hx hb hr (by decide) (fun t ht hW => ⟨(nI 1), rfl, (Or.inl ⟨by omega, rfl⟩), ht⟩) (fun _ h9 => absurd h9 List.not_mem_nil) dX4_isIn_29
set_option maxHeartbeats 4000000 in
set_option maxRecDepth 100000 in
theorem c_X4_isInN (l : Launch) (dC : Nat → ClassId) (dI : Nat → Nat → Nat) (cI : ClassId) (a : Nat → Nat) (sz st us kp ga gl cs : Nat) (mem pl ln km ks kt ku kl kn cd wt : Nat → Nat) (x : Int64) (n : Nat) (g1 : x < lN 0) (g0 : 0 < n) (g2 : n < 2 ^ 62) (g3 : sz ≤ 8192) : Met l yX4_isIn wsX4_isIn ({ frames := 0, cells := 0, slots := 0, locals := 0 }) (va_Pc [.ref (a 0), .long x, .long (lN n)] (fun U => va_P (dC, dI) vwCl (mw cI a sz st us kp ga gl cs mem pl ln km ks kt ku kl kn cd wt) U.heap ∧ va_K (dC, dI) vwCl [(cI, .int)] U)) (vp_Si (fun r => r = nI 0)) 0 0 (fun _ => False) := by
  refine Met.ofW (cc := cX4_isIn) (maxL := 5) (ret := (some .boolean)) (by decide) rfl ?_
  intro p e s m args below meth c s₁ B hml hv
  obtain ⟨rfl, hP, hK⟩ := hv
  have hx := B.exec
  have hb := B.bytes
  have hr := B.returns
  have hts := atoms_spec (ws := wsX4_isIn) B.pre
  have hown : s.vm.findClass RX4 = some m.cls := findClass_of_methodNamed B.named
  have hlocks := B.notSynchronized
  have hl := lv_entry ([.ref (a 0), .long x, .long (lN n)]) (n := 5) (Nat.le_of_ble_eq_true rfl)
  rw [lg_entry_eq]
  generalize (lg_sl ([.ref (a 0), .long x, .long (lN n)]) ++ List.replicate (5 - (lg_sl ([.ref (a 0), .long x, .long (lN n)])).length) Slot.unset).toArray = ls at hl ⊢
  have hl : lv_has ls 5 [(0, .ref (a 0)), (1, .long x), (3, .long (lN n))] := hl
  refine lv_lload_n hx hb dX4_isIn_0 rfl (lv_at hl 2 rfl) ?_
  refine lv_lconst (v := lN 0) hx hb dX4_isIn_1 (by decide) ?_
  refine W.lcmp hx hb dX4_isIn_2 ?_
  refine lv_if_eq (tgt := 24) hx hb dX4_isIn_3 (by decide) (fun c_3 => ?_) (fun c_3 => ?_)
  · have c_3 : n = 0 := (pk_lEQ (a := n) (b := 0) (by omega) (by omega)).mp ((lg_cmp_eq _ _).mp c_3)
    exact absurd c_3 (by omega)
  · have c_3 : ¬ n = 0 := fun q => c_3 ((lg_cmp_eq _ _).mpr ((pk_lEQ (a := n) (b := 0) (by omega) (by omega)).mpr q))
    refine lv_lload_n hx hb dX4_isIn_6 rfl (lv_at hl 1 rfl) ?_
    refine lv_lconst (v := lN 0) hx hb dX4_isIn_7 (by decide) ?_
    refine W.lcmp hx hb dX4_isIn_8 ?_
    refine lv_if_lt (tgt := 28) hx hb dX4_isIn_9 (by decide) (fun c_9 => ?_) (fun c_9 => ?_)
    · have c_9 := (lg_cmp_lt _ _).mp c_9
      refine lv_iconst (v := (nI 0)) hx hb dX4_isIn_28 (by decide) ?_
      exact W.zret (v := (nI 0)) (ty := .boolean) hx hb hr (by decide) (fun t ht hW => ⟨(nI 0), rfl, (show (nI 0) = nI 0 from rfl), ht⟩) (fun _ h9 => absurd h9 List.not_mem_nil) dX4_isIn_29
    · have c_9 : ¬ x < (lN 0) := fun q => c_9 ((lg_cmp_lt _ _).mpr q)
      exact absurd g1 c_9

