set_option maxHeartbeats 4000000 in
set_option maxRecDepth 100000 in
theorem c_J7_rangeCheck_23922 (l : Launch) (n x y : Nat) (g0 : n < 2 ^ 31) (g1 : x ≤ y) (g2 : y ≤ n) : Met l yJ7_rangeCheck_23922 wsJ7_rangeCheck_23922 ({ frames := 0, cells := 0, slots := 0, locals := 0 }) (va_Pc [.int (nI n), .int (nI x), .int (nI y)] (fun _ => True)) sv_S 0 0 (fun _ => False) := by
  refine Met.ofW (cc := cJ7_rangeCheck_23922) (maxL := 3) (ret := none) (by decide) rfl ?_
  intro p e s m args below meth c s₁ B hml hv
  obtain ⟨rfl, -⟩ := hv
  have hx := B.exec
  have hb := B.bytes
  have hr := B.returns
  have hts := atoms_spec (ws := wsJ7_rangeCheck_23922) B.pre
  have hown : s.vm.findClass RJ7 = some m.cls := findClass_of_methodNamed B.named
  have hlocks := B.notSynchronized
  have hl := lv_entry ([.int (nI n), .int (nI x), .int (nI y)]) (n := 3) (Nat.le_of_ble_eq_true rfl)
  rw [lg_entry_eq]
  generalize (lg_sl ([.int (nI n), .int (nI x), .int (nI y)]) ++ List.replicate (3 - (lg_sl ([.int (nI n), .int (nI x), .int (nI y)])).length) Slot.unset).toArray = ls at hl ⊢
  have hl : lv_has ls 3 [(0, .int (nI n)), (1, .int (nI x)), (2, .int (nI y))] := hl
  refine lv_iload_n hx hb dJ7_rangeCheck_23922_0 rfl (lv_at hl 1 rfl) ?_
  refine lv_iload_n hx hb dJ7_rangeCheck_23922_1 rfl (lv_at hl 2 rfl) ?_
  refine lv_icmp_le (tgt := 46) hx hb dJ7_rangeCheck_23922_2 (by decide) (fun c_2 => ?_) (fun c_2 => ?_)
  · have c_2 : x ≤ y := (nI_leI (a := x) (b := y) (by omega) (by omega)).mp c_2
    refine lv_iload_n hx hb dJ7_rangeCheck_23922_46 rfl (lv_at hl 1 rfl) ?_
    refine lv_if_ge (tgt := 59) hx hb dJ7_rangeCheck_23922_47 (by decide) (fun c_47 => ?_) (fun c_47 => ?_)
    · have c_47 : 0 ≤ x := (nZ_ge (by omega)).mp c_47
      refine lv_iload_n hx hb dJ7_rangeCheck_23922_59 rfl (lv_at hl 2 rfl) ?_
      refine lv_iload_n hx hb dJ7_rangeCheck_23922_60 rfl (lv_at hl 0 rfl) ?_
      refine lv_icmp_le (tgt := 73) hx hb dJ7_rangeCheck_23922_61 (by decide) (fun c_61 => ?_) (fun c_61 => ?_)
      · have c_61 : y ≤ n := (nI_leI (a := y) (b := n) (by omega) (by omega)).mp c_61
        exact W.vret hx hb hr (fun t ht hW => ⟨rfl, ht⟩) (fun _ h9 => absurd h9 List.not_mem_nil) dJ7_rangeCheck_23922_73
      · have c_61 : ¬ y ≤ n := fun q => c_61 ((nI_leI (a := y) (b := n) (by omega) (by omega)).mpr q)
        omega
    · have c_47 : ¬ 0 ≤ x := fun q => c_47 ((nZ_ge (by omega)).mpr q)
      omega
  · have c_2 : ¬ x ≤ y := fun q => c_2 ((nI_leI (a := x) (b := y) (by omega) (by omega)).mpr q)
    omega
set_option maxHeartbeats 4000000 in
set_option maxRecDepth 100000 in
theorem c_J7_fill_031fb (l : Launch) (dC : Nat → ClassId) (dI : Nat → Nat → Nat) (cB : ClassId) (q z : Nat) (f : Nat → Nat) (zz : Nat)  (g0 : z < 2 ^ 31) : Met l yJ7_fill_031fb wsJ7_fill_031fb ({ frames := 0, cells := 0, slots := 0, locals := 0 }) (va_Pc [.ref q, .int (nI 0)] (fun U => U.heap.size = zz ∧ va_P (dC, dI) vwCl ([(q, .inl (cB, z, .inl (bf f)))]) U.heap ∧ va_K (dC, dI) vwCl [(cB, .byte)] U ∧ va_D (fun _ => True) ([(q, .inl (cB, z, .inl (bf f)))]))) (va_Qv (fun _ => True) (fun (_ : Unit) t => va_P (dC, dI) vwCl ([(q, .inl (cB, z, .inl (bf (zr f 0 z))))]) t.heap ∧ va_K (dC, dI) vwCl [(cB, .byte)] t ∧ va_D (va_A ([(q, .inl (cB, z, .inl (bf f)))]) zz) ([(q, .inl (cB, z, .inl (bf (zr f 0 z))))])) (va_A ([(q, .inl (cB, z, .inl (bf f)))]) zz)) 0 0 (va_A ([(q, .inl (cB, z, .inl (bf f)))]) zz) := by
  refine Met.ofW (cc := cJ7_fill_031fb) (maxL := 4) (ret := none) (by decide) rfl ?_
  intro p e s m args below meth c s₁ B hml hv
  obtain ⟨rfl, hsz, hP, hK, hD0⟩ := hv
  have hx := B.exec
  have hb := B.bytes
  have hr := B.returns
  have hts := atoms_spec (ws := wsJ7_fill_031fb) B.pre
  have hown : s.vm.findClass RJ7 = some m.cls := findClass_of_methodNamed B.named
  have hlocks := B.notSynchronized
  subst hsz
  have hD := hD0.self (sz := s.heap.size)
  generalize hAe : va_A ([(q, .inl (cB, z, .inl (bf f)))]) s.heap.size = A at hD ⊢
  have hA : ∀ q : Nat, s.heap.size ≤ q → A q := fun q h => by rw [← hAe]; exact Or.inr h
  have hS : va_S A s.heap s.heap [] := va_S.rf
  have hP : va_P (dC, dI) vwCl ([(q, .inl (cB, z, .inl (bf f)))]) s.heap := hP
  have hl := lv_entry ([.ref q, .int (nI 0)]) (n := 4) (Nat.le_of_ble_eq_true rfl)
  rw [lg_entry_eq]
  generalize (lg_sl ([.ref q, .int (nI 0)]) ++ List.replicate (4 - (lg_sl ([.ref q, .int (nI 0)])).length) Slot.unset).toArray = ls at hl ⊢
  have hl : lv_has ls 4 [(0, .ref q), (1, .int (nI 0))] := hl
  refine lv_iconst (v := (nI 0)) hx hb dJ7_fill_031fb_0 (by decide) ?_
  refine lv_istore_n (lv' := [(2, .int (nI 0)), (0, .ref q), (1, .int (nI 0))]) hx hb dJ7_fill_031fb_1 rfl hl (by decide) rfl (fun ls hl => ?_)
  refine lv_aload_n hx hb dJ7_fill_031fb_2 rfl (lv_at hl 1 rfl) ?_
  refine va_alen (v := nI z) hx hb hK hP 0 0 rfl rfl rfl dJ7_fill_031fb_3 ?_
  refine lv_istore_n (lv' := [(3, .int (nI z)), (2, .int (nI 0)), (0, .ref q), (1, .int (nI 0))]) hx hb dJ7_fill_031fb_4 rfl hl (by decide) rfl (fun ls hl => ?_)
  refine lp_world (σ := Nat × (Nat → Nat)) (fun ⟨i, g⟩ => i ≤ z ∧ g = zr f 0 i) (fun ⟨i, g⟩ => z - i) (fun ⟨i, g⟩ => [(3, .int (nI z)), (2, .int (nI i)), (0, .ref q), (1, .int (nI 0))]) (fun ⟨i, g⟩ => [(q, .inl (cB, z, .inl (bf g)))]) ?_ ((0, f)) (⟨by omega, by rw [zr_0]⟩) (hP) (hD) hS (lv_sub hl [0, 1, 2, 3] rfl)
  intro ⟨i, g⟩ hI ih H locs ls hP hD hS hl
  have hl : lv_has ls 4 [(3, .int (nI z)), (2, .int (nI i)), (0, .ref q), (1, .int (nI 0))] := hl
  have hP : va_P (dC, dI) vwCl ([(q, .inl (cB, z, .inl (bf g)))]) H := hP
  have hD : va_D A ([(q, .inl (cB, z, .inl (bf g)))]) := hD
  have hI : i ≤ z ∧ g = zr f 0 i := hI
  obtain ⟨hi, hf⟩ := hI
  have ih_5 := ih
  refine lv_iload_n hx hb dJ7_fill_031fb_5 rfl (lv_at hl 1 rfl) ?_
  refine lv_iload_n hx hb dJ7_fill_031fb_6 rfl (lv_at hl 0 rfl) ?_
  refine lv_icmp_ge (tgt := 20) hx hb dJ7_fill_031fb_7 (by decide) (fun c_7 => ?_) (fun c_7 => ?_)
  · have c_7 : z ≤ i := (nI_leI (a := z) (b := i) (by omega) (by omega)).mp c_7
    have e_f : g = zr f 0 z := by rw [hf, show i = z by omega]
    have hP : va_P (dC, dI) vwCl ([(q, .inl (cB, z, .inl (bf (zr f 0 z))))]) H := by rw [← e_f]; exact hP
    have hD : va_D A ([(q, .inl (cB, z, .inl (bf (zr f 0 z))))]) := by rw [← e_f]; exact hD
    exact W.vret hx hb hr (fun t ht hW => ⟨⟨(), rfl, trivial, by rw [ht]; exact hP, va_K.moved hW.alike hK, hD⟩, hS.F ht⟩) hS.2.2 dJ7_fill_031fb_20
  · have c_7 : ¬ z ≤ i := fun q => c_7 ((nI_leI (a := z) (b := i) (by omega) (by omega)).mpr q)
    refine lv_aload_n hx hb dJ7_fill_031fb_10 rfl (lv_at hl 2 rfl) ?_
    refine lv_iload_n hx hb dJ7_fill_031fb_11 rfl (lv_at hl 1 rfl) ?_
    refine lv_iload_n hx hb dJ7_fill_031fb_12 rfl (lv_at hl 3 rfl) ?_
    refine va_bast hx hb hK hP hD hS 0 0 rfl rfl (vp_in_nI (by omega) (by omega)) dJ7_fill_031fb_13 (fun H locs hP hD hS => ?_)
    rw [bf_up0 (by omega)] at hP hD
    have hP : va_P (dC, dI) vwCl ([(q, .inl (cB, z, .inl (bf (va_up g i 0))))]) H := hP
    have hD : va_D A ([(q, .inl (cB, z, .inl (bf (va_up g i 0))))]) := hD
    refine lv_iinc (v := (nI (i + 1))) (lv' := [(2, .int (nI (i + 1))), (3, .int (nI z)), (0, .ref q), (1, .int (nI 0))]) hx hb dJ7_fill_031fb_14 hl (k := 1) rfl (nI_inc _) (by decide) rfl (fun ls hl => ?_)
    refine lv_goto (tgt := 5) hx hb dJ7_fill_031fb_17 (by decide) ?_
    exact ih_5 (i + 1, va_up g i 0) (⟨by omega, by have q := zr_s f 0 i; rw [Nat.zero_add] at q; rw [hf, q]⟩) (show z - (i + 1) < z - i by omega) H locs ls (hP) (hD) hS (lv_sub hl [1, 0, 2, 3] rfl)
set_option maxHeartbeats 4000000 in
set_option maxRecDepth 100000 in
theorem c_J7_fill_eb02e (l : Launch) (dC : Nat → ClassId) (dI : Nat → Nat → Nat) (cB : ClassId) (q z : Nat) (f : Nat → Nat) (zz : Nat) (x y : Nat) (g0 : z < 2 ^ 31) (g1 : x ≤ y) (g2 : y ≤ z) : Met l yJ7_fill_eb02e wsJ7_fill_eb02e ({ frames := 1, cells := 0, slots := 0, locals := 22 }) (va_Pc [.ref q, .int (nI x), .int (nI y), .int (nI 0)] (fun U => U.heap.size = zz ∧ va_P (dC, dI) vwCl ([(q, .inl (cB, z, .inl (bf f)))]) U.heap ∧ va_K (dC, dI) vwCl [(cB, .byte)] U ∧ va_D (fun _ => True) ([(q, .inl (cB, z, .inl (bf f)))]))) (va_Qv (fun _ => True) (fun (_ : Unit) t => va_P (dC, dI) vwCl ([(q, .inl (cB, z, .inl (bf (zr f x (y - x)))))]) t.heap ∧ va_K (dC, dI) vwCl [(cB, .byte)] t ∧ va_D (va_A ([(q, .inl (cB, z, .inl (bf f)))]) zz) ([(q, .inl (cB, z, .inl (bf (zr f x (y - x)))))])) (va_A ([(q, .inl (cB, z, .inl (bf f)))]) zz)) 0 0 (va_A ([(q, .inl (cB, z, .inl (bf f)))]) zz) := by
  refine Met.ofW (cc := cJ7_fill_eb02e) (maxL := 5) (ret := none) (by decide) rfl ?_
  intro p e s m args below meth c s₁ B hml hv
  obtain ⟨rfl, hsz, hP, hK, hD0⟩ := hv
  have hx := B.exec
  have hb := B.bytes
  have hr := B.returns
  have hts := atoms_spec (ws := wsJ7_fill_eb02e) B.pre
  have hown : s.vm.findClass RJ7 = some m.cls := findClass_of_methodNamed B.named
  have hlocks := B.notSynchronized
  subst hsz
  have hD := hD0.self (sz := s.heap.size)
  generalize hAe : va_A ([(q, .inl (cB, z, .inl (bf f)))]) s.heap.size = A at hD ⊢
  have hA : ∀ q : Nat, s.heap.size ≤ q → A q := fun q h => by rw [← hAe]; exact Or.inr h
  have hS : va_S A s.heap s.heap [] := va_S.rf
  have hP : va_P (dC, dI) vwCl ([(q, .inl (cB, z, .inl (bf f)))]) s.heap := hP
  have hl := lv_entry ([.ref q, .int (nI x), .int (nI y), .int (nI 0)]) (n := 5) (Nat.le_of_ble_eq_true rfl)
  rw [lg_entry_eq]
  generalize (lg_sl ([.ref q, .int (nI x), .int (nI y), .int (nI 0)]) ++ List.replicate (5 - (lg_sl ([.ref q, .int (nI x), .int (nI y), .int (nI 0)])).length) Slot.unset).toArray = ls at hl ⊢
  have hl : lv_has ls 5 [(0, .ref q), (1, .int (nI x)), (2, .int (nI y)), (3, .int (nI 0))] := hl
  refine lv_aload_n hx hb dJ7_fill_eb02e_0 rfl (lv_at hl 0 rfl) ?_
  refine va_alen (v := nI z) hx hb hK hP 0 0 rfl rfl rfl dJ7_fill_eb02e_1 ?_
  refine lv_iload_n hx hb dJ7_fill_eb02e_2 rfl (lv_at hl 1 rfl) ?_
  refine lv_iload_n hx hb dJ7_fill_eb02e_3 rfl (lv_at hl 2 rfl) ?_
  refine sv_call (W.runS (As := [.int (nI z), .int (nI x), .int (nI y)]) (rest := []) ⟨hx, hb, hml, hown, hts⟩ (c_J7_rangeCheck_23922 l z x y (by omega) (by omega) (by omega)) (va_cwS 3 hts gJ7_fill_eb02e_J7_rangeCheck_23922 rfl rfl rfl (by decide +kernel) ⟨Nat.le_of_ble_eq_true rfl, Nat.le_of_ble_eq_true rfl⟩) ⟨fun a9 U g9 mk9 q9 => ⟨q9.1, trivial⟩, fun U hU hW => ⟨rfl, trivial⟩⟩ rfl rfl hl.1 rfl (lv_room (Nat.le_of_ble_eq_true rfl)) dJ7_fill_eb02e_4 ⟨Nat.zero_le _, Nat.zero_le _⟩) ?_
  refine lv_iload_n hx hb dJ7_fill_eb02e_7 rfl (lv_at hl 1 rfl) ?_
  refine lv_istore (lv' := [(4, .int (nI x)), (0, .ref q), (1, .int (nI x)), (2, .int (nI y)), (3, .int (nI 0))]) hx hb dJ7_fill_eb02e_8 hl (by decide) rfl (fun ls hl => ?_)
  refine lp_world (σ := Nat × (Nat → Nat)) (fun ⟨i, g⟩ => x ≤ i ∧ i ≤ y ∧ g = zr f x (i - x)) (fun ⟨i, g⟩ => y - i) (fun ⟨i, g⟩ => [(4, .int (nI i)), (0, .ref q), (1, .int (nI x)), (2, .int (nI y)), (3, .int (nI 0))]) (fun ⟨i, g⟩ => [(q, .inl (cB, z, .inl (bf g)))]) ?_ ((x, f)) (⟨by omega, by omega, by rw [Nat.sub_self, zr_0]⟩) (hP) (hD) hS (lv_sub hl [0, 1, 2, 3, 4] rfl)
  intro ⟨i, g⟩ hI ih H locs ls hP hD hS hl
  have hl : lv_has ls 5 [(4, .int (nI i)), (0, .ref q), (1, .int (nI x)), (2, .int (nI y)), (3, .int (nI 0))] := hl
  have hP : va_P (dC, dI) vwCl ([(q, .inl (cB, z, .inl (bf g)))]) H := hP
  have hD : va_D A ([(q, .inl (cB, z, .inl (bf g)))]) := hD
  have hI : x ≤ i ∧ i ≤ y ∧ g = zr f x (i - x) := hI
  obtain ⟨hi, hi2, hf⟩ := hI
  have ih_10 := ih
  refine lv_iload hx hb dJ7_fill_eb02e_10 (lv_at hl 0 rfl) ?_
  refine lv_iload_n hx hb dJ7_fill_eb02e_12 rfl (lv_at hl 3 rfl) ?_
  refine lv_icmp_ge (tgt := 27) hx hb dJ7_fill_eb02e_13 (by decide) (fun c_13 => ?_) (fun c_13 => ?_)
  · have c_13 : y ≤ i := (nI_leI (a := y) (b := i) (by omega) (by omega)).mp c_13
    have e_f : g = zr f x (y - x) := by rw [hf, show i = y by omega]
    have hP : va_P (dC, dI) vwCl ([(q, .inl (cB, z, .inl (bf (zr f x (y - x)))))]) H := by rw [← e_f]; exact hP
    have hD : va_D A ([(q, .inl (cB, z, .inl (bf (zr f x (y - x)))))]) := by rw [← e_f]; exact hD
    exact W.vret hx hb hr (fun t ht hW => ⟨⟨(), rfl, trivial, by rw [ht]; exact hP, va_K.moved hW.alike hK, hD⟩, hS.F ht⟩) hS.2.2 dJ7_fill_eb02e_27
  · have c_13 : ¬ y ≤ i := fun q => c_13 ((nI_leI (a := y) (b := i) (by omega) (by omega)).mpr q)
    refine lv_aload_n hx hb dJ7_fill_eb02e_16 rfl (lv_at hl 1 rfl) ?_
    refine lv_iload hx hb dJ7_fill_eb02e_17 (lv_at hl 0 rfl) ?_
    refine lv_iload_n hx hb dJ7_fill_eb02e_19 rfl (lv_at hl 4 rfl) ?_
    refine va_bast hx hb hK hP hD hS 0 0 rfl rfl (vp_in_nI (by omega) (by omega)) dJ7_fill_eb02e_20 (fun H locs hP hD hS => ?_)
    rw [bf_up0 (by omega)] at hP hD
    have hP : va_P (dC, dI) vwCl ([(q, .inl (cB, z, .inl (bf (va_up g i 0))))]) H := hP
    have hD : va_D A ([(q, .inl (cB, z, .inl (bf (va_up g i 0))))]) := hD
    refine lv_iinc (v := (nI (i + 1))) (lv' := [(4, .int (nI (i + 1))), (0, .ref q), (1, .int (nI x)), (2, .int (nI y)), (3, .int (nI 0))]) hx hb dJ7_fill_eb02e_21 hl (k := 0) rfl (nI_inc _) (by decide) rfl (fun ls hl => ?_)
    refine lv_goto (tgt := 10) hx hb dJ7_fill_eb02e_24 (by decide) ?_
    exact ih_10 (i + 1, va_up g i 0) (⟨by omega, by omega, by rw [hf, zr_step hi]⟩) (show y - (i + 1) < y - i by omega) H locs ls (hP) (hD) hS (lv_sub hl [0, 1, 2, 3, 4] rfl)
