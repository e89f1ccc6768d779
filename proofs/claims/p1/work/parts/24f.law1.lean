set_option maxHeartbeats 4000000 in
set_option maxRecDepth 100000 in
theorem p1_get {p : Program} {e : Env} {s : State} {m : MethodId} {below : List Frame} {meth : Method} {c : Code} (l : Launch) {q0 L : Nat} {xs : Nat → Int32} (C0 : lw_At p s m meth c q0 L xs) (h8 : L = 8) (dC : Nat → ClassId) (dI : Nat → Nat → Nat) (cB cI cS : ClassId) (h kq : Nat) (k o b a : Nat → Nat) (A : Nat → Prop) (hA : ∀ q : Nat, s.heap.size ≤ q → A q) (hbA : ¬ A q0) (hK : va_K (dC, dI) vwCl [(cI, .int), (cB, .byte), (cS, .object "GlulxHeap$State")] s) {H : Heap} {locs : List Loc} {ls : Array Slot} (hP : va_P (dC, dI) vwCl (gw h kq none k o b 0 0 0 ++ kw cB k 0 zf ++ ow cB o 0 0 zf ++ sw cB cI b 1024 0 0 (inW 8192) zf zf ++ krw cS kq (fun _ => none) ++ mw cI a 1024 0 0 0 0 0 0 (inW 8192) zf zf zf zf zf zf zf zf zf zf) H) (hD : va_D A (gw h kq none k o b 0 0 0 ++ kw cB k 0 zf ++ ow cB o 0 0 zf ++ sw cB cI b 1024 0 0 (inW 8192) zf zf ++ krw cS kq (fun _ => none) ++ mw cI a 1024 0 0 0 0 0 0 (inW 8192) zf zf zf zf zf zf zf zf zf zf)) (hS : va_S A s.heap H locs) (hl : lv_has ls 4 [(3, .int (nI 0)), (2, .ref (a 0)), (1, .ref h), (0, .ref q0)]) (tail : ∀ (H : Heap) (locs : List Loc) (ls : Array Slot) (cells slots : Nat), cells ≤ 600000 → slots ≤ 7302249 → va_S A s.heap H locs → lv_has ls 4 [(3, .int (nI 0)), (2, .ref (a 0)), (1, .ref h), (0, .ref q0)] → W p l e room_1 s m #[Value.ref q0] below meth c H locs cells slots (lw_Z below #[Value.ref q0] s) (F0 m 853 ls [])) : W p l e room_1 s m #[Value.ref q0] below meth c H locs 22 78425 (lw_Z below #[Value.ref q0] s) (F0 m 136 ls []) := by
  obtain ⟨hx, hb, hr, hml, hown, hts0, hX, hbl, hlocks, hgv⟩ := id C0
  have hts : ∀ w ∈ wsL_law, w.before #[Value.ref q0] s = true := fun w h => hts0 w (wsL_law_in w h)
  refine lv_aload_n hx hb dL_law_136 rfl (lv_at hl 2 rfl) ?_
  refine lv_aload_n hx hb dL_law_137 rfl (lv_at hl 3 rfl) ?_
  refine lv_iload_n hx hb dL_law_138 rfl (lv_at hl 0 rfl) ?_
  refine lv_iconst (v := nI 1) hx hb dL_law_139 (by decide) ?_
  refine lv_iadd hx hb dL_law_140 ?_
  refine tpi (show nI 0 + nI 1 = nI 1 by decide) ?_
  refine va_sld hx hb hX hbl hbA hS (vp_in_nI (by omega) (by omega)) dL_law_141 ?_
  refine tpi (show xs (nI 1).toNatClampNeg = xs 1 by rw [nI_clamp (by decide)]) ?_
  refine lv_aload_n hx hb dL_law_142 rfl (lv_at hl 3 rfl) ?_
  refine lv_iload_n hx hb dL_law_143 rfl (lv_at hl 0 rfl) ?_
  refine lv_iconst (v := nI 2) hx hb dL_law_144 (by decide) ?_
  refine lv_iadd hx hb dL_law_145 ?_
  refine tpi (show nI 0 + nI 2 = nI 2 by decide) ?_
  refine va_sld hx hb hX hbl hbA hS (vp_in_nI (by omega) (by omega)) dL_law_146 ?_
  refine tpi (show xs (nI 2).toNatClampNeg = xs 2 by rw [nI_clamp (by decide)]) ?_
  have hPc := hP.sub (ws' := gw h kq none k o b 0 0 0 ++ kw cB k 0 zf ++ ow cB o 0 0 zf ++ sw cB cI b 1024 0 0 (inW 8192) zf zf) [0, 1, 2, 3, 4, 5, 6, 7, 8] rfl
  have hKc := hK.sub (tys' := [(cI, .int), (cB, .byte)]) [0, 1] rfl
  refine vp_callSl (W.runV (As := [.int (xs 1), .int (xs 2)]) (rest := []) ⟨hx, hb, hml, hown, hts⟩ (c_X3_get l dC dI cB cI h kq none k o b 0 0 0 0 zf 0 0 zf 1024 0 0 (inW 8192) zf zf (xs 1) (xs 2) (by decide) (inW_lt 8192)) (cwV 2 hts gL_law_X3_get rfl rfl rfl (by decide +kernel) ⟨Nat.le_of_ble_eq_true rfl, Nat.le_of_ble_eq_true rfl⟩) ⟨fun a9 U g9 mk9 q9 => by obtain ⟨q0, qP, qK⟩ := q9; exact ⟨q0, qP, va_K.moved (u := U) (U := U.calling g9 mk9 a9) (Vm.Alike.refl U.vm) qK⟩, va_recv hKc hPc (ci := 3) (q0 := 0) rfl rfl, fun U hU hW => ⟨rfl, by rw [hU]; exact hPc, va_K.moved hW.alike hKc⟩⟩ rfl rfl hl.1 rfl (lv_room (Nat.le_of_ble_eq_true rfl)) dL_law_147 ⟨Nat.le_of_ble_eq_true rfl, Nat.le_of_ble_eq_true rfl⟩) (fun r1 hw => ?_)
  have hc := hw
  clear hw
  refine lv_aload_n hx hb dL_law_150 rfl (lv_at hl 1 rfl) ?_
  refine lv_aload_n hx hb dL_law_151 rfl (lv_at hl 3 rfl) ?_
  refine lv_iload_n hx hb dL_law_152 rfl (lv_at hl 0 rfl) ?_
  refine lv_iconst (v := nI 1) hx hb dL_law_153 (by decide) ?_
  refine lv_iadd hx hb dL_law_154 ?_
  refine tpi (show nI 0 + nI 1 = nI 1 by decide) ?_
  refine va_sld hx hb hX hbl hbA hS (vp_in_nI (by omega) (by omega)) dL_law_155 ?_
  refine tpi (show xs (nI 1).toNatClampNeg = xs 1 by rw [nI_clamp (by decide)]) ?_
  refine lv_aload_n hx hb dL_law_156 rfl (lv_at hl 3 rfl) ?_
  refine lv_iload_n hx hb dL_law_157 rfl (lv_at hl 0 rfl) ?_
  refine lv_iconst (v := nI 2) hx hb dL_law_158 (by decide) ?_
  refine lv_iadd hx hb dL_law_159 ?_
  refine tpi (show nI 0 + nI 2 = nI 2 by decide) ?_
  refine va_sld hx hb hX hbl hbA hS (vp_in_nI (by omega) (by omega)) dL_law_160 ?_
  refine tpi (show xs (nI 2).toNatClampNeg = xs 2 by rw [nI_clamp (by decide)]) ?_
  have hPc := hP.sub (ws' := mw cI a 1024 0 0 0 0 0 0 (inW 8192) zf zf zf zf zf zf zf zf zf zf) [10, 11, 12, 13, 14, 15, 16, 17, 18, 19, 20, 21] rfl
  have hKc := hK.sub (tys' := [(cI, .int)]) [0] rfl
  refine vp_callSl (W.runV (As := [.int (xs 1), .int (xs 2)]) (rest := [.long r1]) ⟨hx, hb, hml, hown, hts⟩ (c_X4_get l dC dI cI a 1024 0 0 0 0 0 0 (inW 8192) zf zf zf zf zf zf zf zf zf zf (xs 1) (xs 2) (by decide) (inW_lt 8192)) (cwV 2 hts gL_law_X4_get rfl rfl rfl (by decide +kernel) ⟨Nat.le_of_ble_eq_true rfl, Nat.le_of_ble_eq_true rfl⟩) ⟨fun a9 U g9 mk9 q9 => by obtain ⟨q0, qP, qK⟩ := q9; exact ⟨q0, qP, va_K.moved (u := U) (U := U.calling g9 mk9 a9) (Vm.Alike.refl U.vm) qK⟩, va_recv hKc hPc (ci := 4) (q0 := 0) rfl rfl, fun U hU hW => ⟨rfl, by rw [hU]; exact hPc, va_K.moved hW.alike hKc⟩⟩ rfl rfl hl.1 rfl (lv_room (Nat.le_of_ble_eq_true rfl)) dL_law_161 ⟨Nat.le_of_ble_eq_true rfl, Nat.le_of_ble_eq_true rfl⟩) (fun r2 hw => ?_)
  have hm := hw
  clear hw
  refine W.lcmp hx hb dL_law_164 ?_
  have heq : r1 = r2 := hc.trans hm.symm
  refine lv_if_eq (tgt := 853) hx hb dL_law_165 (by decide) (fun _ => ?_) (fun c9 => absurd ((lg_cmp_eq _ _).mpr heq) c9)
  exact tail _ _ _ _ _ (Nat.le_of_ble_eq_true rfl) (Nat.le_of_ble_eq_true rfl) hS hl
set_option maxHeartbeats 4000000 in
set_option maxRecDepth 100000 in
theorem p1_set {p : Program} {e : Env} {s : State} {m : MethodId} {below : List Frame} {meth : Method} {c : Code} (l : Launch) {q0 L : Nat} {xs : Nat → Int32} (C0 : lw_At p s m meth c q0 L xs) (h8 : L = 8) (dC : Nat → ClassId) (dI : Nat → Nat → Nat) (cB cI cS : ClassId) (h kq : Nat) (k o b a : Nat → Nat) (A : Nat → Prop) (hA : ∀ q : Nat, s.heap.size ≤ q → A q) (hbA : ¬ A q0) (hK : va_K (dC, dI) vwCl [(cI, .int), (cB, .byte), (cS, .object "GlulxHeap$State")] s) {H : Heap} {locs : List Loc} {ls : Array Slot} (hP : va_P (dC, dI) vwCl (gw h kq none k o b 0 0 0 ++ kw cB k 0 zf ++ ow cB o 0 0 zf ++ sw cB cI b 1024 0 0 (inW 8192) zf zf ++ krw cS kq (fun _ => none) ++ mw cI a 1024 0 0 0 0 0 0 (inW 8192) zf zf zf zf zf zf zf zf zf zf) H) (hD : va_D A (gw h kq none k o b 0 0 0 ++ kw cB k 0 zf ++ ow cB o 0 0 zf ++ sw cB cI b 1024 0 0 (inW 8192) zf zf ++ krw cS kq (fun _ => none) ++ mw cI a 1024 0 0 0 0 0 0 (inW 8192) zf zf zf zf zf zf zf zf zf zf)) (hS : va_S A s.heap H locs) (hl : lv_has ls 4 [(3, .int (nI 0)), (2, .ref (a 0)), (1, .ref h), (0, .ref q0)]) (tail : ∀ (H : Heap) (locs : List Loc) (ls : Array Slot) (cells slots : Nat), cells ≤ 600000 → slots ≤ 7302249 → va_S A s.heap H locs → lv_has ls 4 [(3, .int (nI 0)), (2, .ref (a 0)), (1, .ref h), (0, .ref q0)] → W p l e room_1 s m #[Value.ref q0] below meth c H locs cells slots (lw_Z below #[Value.ref q0] s) (F0 m 853 ls [])) : W p l e room_1 s m #[Value.ref q0] below meth c H locs 22 78425 (lw_Z below #[Value.ref q0] s) (F0 m 170 ls []) := by
  obtain ⟨hx, hb, hr, hml, hown, hts0, hX, hbl, hlocks, hgv⟩ := id C0
  have hts : ∀ w ∈ wsL_law, w.before #[Value.ref q0] s = true := fun w h => hts0 w (wsL_law_in w h)
  refine lv_aload_n hx hb dL_law_170 rfl (lv_at hl 2 rfl) ?_
  refine lv_aload_n hx hb dL_law_171 rfl (lv_at hl 3 rfl) ?_
  refine lv_iload_n hx hb dL_law_172 rfl (lv_at hl 0 rfl) ?_
  refine lv_iconst (v := nI 1) hx hb dL_law_173 (by decide) ?_
  refine lv_iadd hx hb dL_law_174 ?_
  refine tpi (show nI 0 + nI 1 = nI 1 by decide) ?_
  refine va_sld hx hb hX hbl hbA hS (vp_in_nI (by omega) (by omega)) dL_law_175 ?_
  refine tpi (show xs (nI 1).toNatClampNeg = xs 1 by rw [nI_clamp (by decide)]) ?_
  refine lv_aload_n hx hb dL_law_176 rfl (lv_at hl 3 rfl) ?_
  refine lv_iload_n hx hb dL_law_177 rfl (lv_at hl 0 rfl) ?_
  refine lv_iconst (v := nI 2) hx hb dL_law_178 (by decide) ?_
  refine lv_iadd hx hb dL_law_179 ?_
  refine tpi (show nI 0 + nI 2 = nI 2 by decide) ?_
  refine va_sld hx hb hX hbl hbA hS (vp_in_nI (by omega) (by omega)) dL_law_180 ?_
  refine tpi (show xs (nI 2).toNatClampNeg = xs 2 by rw [nI_clamp (by decide)]) ?_
  refine lv_aload_n hx hb dL_law_181 rfl (lv_at hl 3 rfl) ?_
  refine lv_iload_n hx hb dL_law_182 rfl (lv_at hl 0 rfl) ?_
  refine lv_iconst (v := nI 3) hx hb dL_law_183 (by decide) ?_
  refine lv_iadd hx hb dL_law_184 ?_
  refine tpi (show nI 0 + nI 3 = nI 3 by decide) ?_
  refine va_sld hx hb hX hbl hbA hS (vp_in_nI (by omega) (by omega)) dL_law_185 ?_
  refine tpi (show xs (nI 3).toNatClampNeg = xs 3 by rw [nI_clamp (by decide)]) ?_
  have hPc := hP.sub (ws' := gw h kq none k o b 0 0 0 ++ kw cB k 0 zf ++ ow cB o 0 0 zf ++ sw cB cI b 1024 0 0 (inW 8192) zf zf) [0, 1, 2, 3, 4, 5, 6, 7, 8] rfl
  have hKc := hK.sub (tys' := [(cI, .int), (cB, .byte)]) [0, 1] rfl
  have hDc := hD.sub (ws' := gw h kq none k o b 0 0 0 ++ kw cB k 0 zf ++ ow cB o 0 0 zf ++ sw cB cI b 1024 0 0 (inW 8192) zf zf) [0, 1, 2, 3, 4, 5, 6, 7, 8] (by decide) rfl
  have hFc := va_free (wc := gw h kq none k o b 0 0 0 ++ kw cB k 0 zf ++ ow cB o 0 0 zf ++ sw cB cI b 1024 0 0 (inW 8192) zf zf) hD hS hA [0, 1, 2, 3, 4, 5, 6, 7, 8] rfl
  refine va_calli (va_runV (As := [.int (xs 1), .int (xs 2), .int (xs 3)]) (rest := []) ⟨hx, hb, hml, hown, hts⟩ (c_X3_set l dC dI cB cI h kq none k o b 0 0 0 0 zf 0 0 zf 1024 0 0 (inW 8192) zf zf H.size (xs 1) (xs 2) (xs 3) (by decide)) (cwV 3 hts gL_law_X3_set rfl rfl rfl (by decide +kernel) ⟨Nat.le_of_ble_eq_true rfl, Nat.le_of_ble_eq_true rfl⟩) ⟨fun a9 U g9 mk9 q9 => by obtain ⟨q0, q1, qP, qK, qD⟩ := q9; exact ⟨q0, q1, qP, va_K.moved (u := U) (U := U.calling g9 mk9 a9) (Vm.Alike.refl U.vm) qK, qD⟩, va_recv hKc hPc (ci := 3) (q0 := 0) rfl rfl, fun U hU hW => ⟨rfl, by rw [hU], by rw [hU]; exact hPc, va_K.moved hW.alike hKc, hDc.weaken (fun _ _ _ _ => trivial)⟩⟩ rfl rfl hl.1 rfl (lv_room (Nat.le_of_ble_eq_true rfl)) dL_law_186 ⟨Nat.le_of_ble_eq_true rfl, Nat.le_of_ble_eq_true rfl⟩) hS (fun q _ h => hFc q h) hFc (fun r1 u t H1 locs ht9 hvm9 hw hB hz9 hk9 hS => ?_)
  try dsimp only at hw
  obtain ⟨hP1, hK1, hD1⟩ := hB
  rw [ht9] at hP1
  obtain ⟨hP, hD⟩ := va_join (wr := mw cI a 1024 0 0 0 0 0 0 (inW 8192) zf zf zf zf zf zf zf zf zf zf) hP hD [0, 1, 2, 3, 4, 5, 6, 7, 8] [10, 11, 12, 13, 14, 15, 16, 17, 18, 19, 20, 21] rfl rfl (by decide) (by decide) hk9 hFc hP1 hD1
  have hP := hP.sub (ws' := mw cI a 1024 0 0 0 0 0 0 (inW 8192) zf zf zf zf zf zf zf zf zf zf) [0, 1, 2, 3, 4, 5, 6, 7, 8, 9, 10, 11] rfl
  have hD := hD.sub (ws' := mw cI a 1024 0 0 0 0 0 0 (inW 8192) zf zf zf zf zf zf zf zf zf zf) [0, 1, 2, 3, 4, 5, 6, 7, 8, 9, 10, 11] (by decide) rfl
  generalize H1 = H at hP hS ⊢
  have hc := hw
  clear hw
  refine lv_aload_n hx hb dL_law_189 rfl (lv_at hl 1 rfl) ?_
  refine lv_aload_n hx hb dL_law_190 rfl (lv_at hl 3 rfl) ?_
  refine lv_iload_n hx hb dL_law_191 rfl (lv_at hl 0 rfl) ?_
  refine lv_iconst (v := nI 1) hx hb dL_law_192 (by decide) ?_
  refine lv_iadd hx hb dL_law_193 ?_
  refine tpi (show nI 0 + nI 1 = nI 1 by decide) ?_
  refine va_sld hx hb hX hbl hbA hS (vp_in_nI (by omega) (by omega)) dL_law_194 ?_
  refine tpi (show xs (nI 1).toNatClampNeg = xs 1 by rw [nI_clamp (by decide)]) ?_
  refine lv_aload_n hx hb dL_law_195 rfl (lv_at hl 3 rfl) ?_
  refine lv_iload_n hx hb dL_law_196 rfl (lv_at hl 0 rfl) ?_
  refine lv_iconst (v := nI 2) hx hb dL_law_197 (by decide) ?_
  refine lv_iadd hx hb dL_law_198 ?_
  refine tpi (show nI 0 + nI 2 = nI 2 by decide) ?_
  refine va_sld hx hb hX hbl hbA hS (vp_in_nI (by omega) (by omega)) dL_law_199 ?_
  refine tpi (show xs (nI 2).toNatClampNeg = xs 2 by rw [nI_clamp (by decide)]) ?_
  refine lv_aload_n hx hb dL_law_200 rfl (lv_at hl 3 rfl) ?_
  refine lv_iload_n hx hb dL_law_201 rfl (lv_at hl 0 rfl) ?_
  refine lv_iconst (v := nI 3) hx hb dL_law_202 (by decide) ?_
  refine lv_iadd hx hb dL_law_203 ?_
  refine tpi (show nI 0 + nI 3 = nI 3 by decide) ?_
  refine va_sld hx hb hX hbl hbA hS (vp_in_nI (by omega) (by omega)) dL_law_204 ?_
  refine tpi (show xs (nI 3).toNatClampNeg = xs 3 by rw [nI_clamp (by decide)]) ?_
  have hPc := hP.sub (ws' := mw cI a 1024 0 0 0 0 0 0 (inW 8192) zf zf zf zf zf zf zf zf zf zf) [0, 1, 2, 3, 4, 5, 6, 7, 8, 9, 10, 11] rfl
  have hKc := hK.sub (tys' := [(cI, .int)]) [0] rfl
  have hDc := hD.sub (ws' := mw cI a 1024 0 0 0 0 0 0 (inW 8192) zf zf zf zf zf zf zf zf zf zf) [0, 1, 2, 3, 4, 5, 6, 7, 8, 9, 10, 11] (by decide) rfl
  have hFc := va_free (wc := mw cI a 1024 0 0 0 0 0 0 (inW 8192) zf zf zf zf zf zf zf zf zf zf) hD hS hA [0, 1, 2, 3, 4, 5, 6, 7, 8, 9, 10, 11] rfl
  refine va_calli (va_runV (As := [.int (xs 1), .int (xs 2), .int (xs 3)]) (rest := [.int r1]) ⟨hx, hb, hml, hown, hts⟩ (c_X4_set l dC dI cI a 1024 0 0 0 0 0 0 (inW 8192) zf zf zf zf zf zf zf zf zf zf H.size (xs 1) (xs 2) (xs 3) (by decide)) (cwV 3 hts gL_law_X4_set rfl rfl rfl (by decide +kernel) ⟨Nat.le_of_ble_eq_true rfl, Nat.le_of_ble_eq_true rfl⟩) ⟨fun a9 U g9 mk9 q9 => by obtain ⟨q0, q1, qP, qK, qD⟩ := q9; exact ⟨q0, q1, qP, va_K.moved (u := U) (U := U.calling g9 mk9 a9) (Vm.Alike.refl U.vm) qK, qD⟩, va_recv hKc hPc (ci := 4) (q0 := 0) rfl rfl, fun U hU hW => ⟨rfl, by rw [hU], by rw [hU]; exact hPc, va_K.moved hW.alike hKc, hDc.weaken (fun _ _ _ _ => trivial)⟩⟩ rfl rfl hl.1 rfl (lv_room (Nat.le_of_ble_eq_true rfl)) dL_law_205 ⟨Nat.le_of_ble_eq_true rfl, Nat.le_of_ble_eq_true rfl⟩) hS (fun q _ h => hFc q h) hFc (fun r2 u t H1 locs ht9 hvm9 hw hB hz9 hk9 hS => ?_)
  try dsimp only at hw
  generalize H1 = H at hS ⊢
  have hm := hw
  clear hw
  have heq : r1 = r2 := hc.trans hm.symm
  refine lv_icmp_eq (tgt := 853) hx hb dL_law_208 (by decide) (fun _ => ?_) (fun c9 => absurd heq c9)
  exact tail _ _ _ _ _ (Nat.le_of_ble_eq_true rfl) (Nat.le_of_ble_eq_true rfl) hS hl
set_option maxHeartbeats 4000000 in
set_option maxRecDepth 100000 in
theorem p1_zero {p : Program} {e : Env} {s : State} {m : MethodId} {below : List Frame} {meth : Method} {c : Code} (l : Launch) {q0 L : Nat} {xs : Nat → Int32} (C0 : lw_At p s m meth c q0 L xs) (h8 : L = 8) (dC : Nat → ClassId) (dI : Nat → Nat → Nat) (cB cI cS : ClassId) (h kq : Nat) (k o b a : Nat → Nat) (A : Nat → Prop) (hA : ∀ q : Nat, s.heap.size ≤ q → A q) (hbA : ¬ A q0) (hK : va_K (dC, dI) vwCl [(cI, .int), (cB, .byte), (cS, .object "GlulxHeap$State")] s) {H : Heap} {locs : List Loc} {ls : Array Slot} (hP : va_P (dC, dI) vwCl (gw h kq none k o b 0 0 0 ++ kw cB k 0 zf ++ ow cB o 0 0 zf ++ sw cB cI b 1024 0 0 (inW 8192) zf zf ++ krw cS kq (fun _ => none) ++ mw cI a 1024 0 0 0 0 0 0 (inW 8192) zf zf zf zf zf zf zf zf zf zf) H) (hD : va_D A (gw h kq none k o b 0 0 0 ++ kw cB k 0 zf ++ ow cB o 0 0 zf ++ sw cB cI b 1024 0 0 (inW 8192) zf zf ++ krw cS kq (fun _ => none) ++ mw cI a 1024 0 0 0 0 0 0 (inW 8192) zf zf zf zf zf zf zf zf zf zf)) (hS : va_S A s.heap H locs) (hl : lv_has ls 4 [(3, .int (nI 0)), (2, .ref (a 0)), (1, .ref h), (0, .ref q0)]) (tail : ∀ (H : Heap) (locs : List Loc) (ls : Array Slot) (cells slots : Nat), cells ≤ 600000 → slots ≤ 7302249 → va_S A s.heap H locs → lv_has ls 4 [(3, .int (nI 0)), (2, .ref (a 0)), (1, .ref h), (0, .ref q0)] → W p l e room_1 s m #[Value.ref q0] below meth c H locs cells slots (lw_Z below #[Value.ref q0] s) (F0 m 853 ls [])) : W p l e room_1 s m #[Value.ref q0] below meth c H locs 22 78425 (lw_Z below #[Value.ref q0] s) (F0 m 213 ls []) := by
  obtain ⟨hx, hb, hr, hml, hown, hts0, hX, hbl, hlocks, hgv⟩ := id C0
  have hts : ∀ w ∈ wsL_law, w.before #[Value.ref q0] s = true := fun w h => hts0 w (wsL_law_in w h)
  refine lv_aload_n hx hb dL_law_213 rfl (lv_at hl 2 rfl) ?_
  refine lv_aload_n hx hb dL_law_214 rfl (lv_at hl 3 rfl) ?_
  refine lv_iload_n hx hb dL_law_215 rfl (lv_at hl 0 rfl) ?_
  refine lv_iconst (v := nI 1) hx hb dL_law_216 (by decide) ?_
  refine lv_iadd hx hb dL_law_217 ?_
  refine tpi (show nI 0 + nI 1 = nI 1 by decide) ?_
  refine va_sld hx hb hX hbl hbA hS (vp_in_nI (by omega) (by omega)) dL_law_218 ?_
  refine tpi (show xs (nI 1).toNatClampNeg = xs 1 by rw [nI_clamp (by decide)]) ?_
  refine lv_aload_n hx hb dL_law_219 rfl (lv_at hl 3 rfl) ?_
  refine lv_iload_n hx hb dL_law_220 rfl (lv_at hl 0 rfl) ?_
  refine lv_iconst (v := nI 2) hx hb dL_law_221 (by decide) ?_
  refine lv_iadd hx hb dL_law_222 ?_
  refine tpi (show nI 0 + nI 2 = nI 2 by decide) ?_
  refine va_sld hx hb hX hbl hbA hS (vp_in_nI (by omega) (by omega)) dL_law_223 ?_
  refine tpi (show xs (nI 2).toNatClampNeg = xs 2 by rw [nI_clamp (by decide)]) ?_
  have hPc := hP.sub (ws' := gw h kq none k o b 0 0 0 ++ kw cB k 0 zf ++ ow cB o 0 0 zf ++ sw cB cI b 1024 0 0 (inW 8192) zf zf) [0, 1, 2, 3, 4, 5, 6, 7, 8] rfl
  have hKc := hK.sub (tys' := [(cI, .int), (cB, .byte)]) [0, 1] rfl
  have hDc := hD.sub (ws' := gw h kq none k o b 0 0 0 ++ kw cB k 0 zf ++ ow cB o 0 0 zf ++ sw cB cI b 1024 0 0 (inW 8192) zf zf) [0, 1, 2, 3, 4, 5, 6, 7, 8] (by decide) rfl
  have hFc := va_free (wc := gw h kq none k o b 0 0 0 ++ kw cB k 0 zf ++ ow cB o 0 0 zf ++ sw cB cI b 1024 0 0 (inW 8192) zf zf) hD hS hA [0, 1, 2, 3, 4, 5, 6, 7, 8] rfl
  refine va_calli (va_runV (As := [.int (xs 1), .int (xs 2)]) (rest := []) ⟨hx, hb, hml, hown, hts⟩ (c_X3_zero l dC dI cB cI h kq none k o b 0 0 0 0 zf 0 0 zf 1024 0 0 (inW 8192) zf zf H.size (xs 1) (xs 2) (by decide)) (cwV 2 hts gL_law_X3_zero rfl rfl rfl (by decide +kernel) ⟨Nat.le_of_ble_eq_true rfl, Nat.le_of_ble_eq_true rfl⟩) ⟨fun a9 U g9 mk9 q9 => by obtain ⟨q0, q1, qP, qK, qD⟩ := q9; exact ⟨q0, q1, qP, va_K.moved (u := U) (U := U.calling g9 mk9 a9) (Vm.Alike.refl U.vm) qK, qD⟩, va_recv hKc hPc (ci := 3) (q0 := 0) rfl rfl, fun U hU hW => ⟨rfl, by rw [hU], by rw [hU]; exact hPc, va_K.moved hW.alike hKc, hDc.weaken (fun _ _ _ _ => trivial)⟩⟩ rfl rfl hl.1 rfl (lv_room (Nat.le_of_ble_eq_true rfl)) dL_law_224 ⟨Nat.le_of_ble_eq_true rfl, Nat.le_of_ble_eq_true rfl⟩) hS (fun q _ h => hFc q h) hFc (fun r1 u t H1 locs ht9 hvm9 hw hB hz9 hk9 hS => ?_)
  try dsimp only at hw
  obtain ⟨hP1, hK1, hD1⟩ := hB
  rw [ht9] at hP1
  obtain ⟨hP, hD⟩ := va_join (wr := mw cI a 1024 0 0 0 0 0 0 (inW 8192) zf zf zf zf zf zf zf zf zf zf) hP hD [0, 1, 2, 3, 4, 5, 6, 7, 8] [10, 11, 12, 13, 14, 15, 16, 17, 18, 19, 20, 21] rfl rfl (by decide) (by decide) hk9 hFc hP1 hD1
  have hP := hP.sub (ws' := mw cI a 1024 0 0 0 0 0 0 (inW 8192) zf zf zf zf zf zf zf zf zf zf) [0, 1, 2, 3, 4, 5, 6, 7, 8, 9, 10, 11] rfl
  have hD := hD.sub (ws' := mw cI a 1024 0 0 0 0 0 0 (inW 8192) zf zf zf zf zf zf zf zf zf zf) [0, 1, 2, 3, 4, 5, 6, 7, 8, 9, 10, 11] (by decide) rfl
  generalize H1 = H at hP hS ⊢
  have hc := hw
  clear hw
  refine lv_aload_n hx hb dL_law_227 rfl (lv_at hl 1 rfl) ?_
  refine lv_aload_n hx hb dL_law_228 rfl (lv_at hl 3 rfl) ?_
  refine lv_iload_n hx hb dL_law_229 rfl (lv_at hl 0 rfl) ?_
  refine lv_iconst (v := nI 1) hx hb dL_law_230 (by decide) ?_
  refine lv_iadd hx hb dL_law_231 ?_
  refine tpi (show nI 0 + nI 1 = nI 1 by decide) ?_
  refine va_sld hx hb hX hbl hbA hS (vp_in_nI (by omega) (by omega)) dL_law_232 ?_
  refine tpi (show xs (nI 1).toNatClampNeg = xs 1 by rw [nI_clamp (by decide)]) ?_
  refine lv_aload_n hx hb dL_law_233 rfl (lv_at hl 3 rfl) ?_
  refine lv_iload_n hx hb dL_law_234 rfl (lv_at hl 0 rfl) ?_
  refine lv_iconst (v := nI 2) hx hb dL_law_235 (by decide) ?_
  refine lv_iadd hx hb dL_law_236 ?_
  refine tpi (show nI 0 + nI 2 = nI 2 by decide) ?_
  refine va_sld hx hb hX hbl hbA hS (vp_in_nI (by omega) (by omega)) dL_law_237 ?_
  refine tpi (show xs (nI 2).toNatClampNeg = xs 2 by rw [nI_clamp (by decide)]) ?_
  have hPc := hP.sub (ws' := mw cI a 1024 0 0 0 0 0 0 (inW 8192) zf zf zf zf zf zf zf zf zf zf) [0, 1, 2, 3, 4, 5, 6, 7, 8, 9, 10, 11] rfl
  have hKc := hK.sub (tys' := [(cI, .int)]) [0] rfl
  have hDc := hD.sub (ws' := mw cI a 1024 0 0 0 0 0 0 (inW 8192) zf zf zf zf zf zf zf zf zf zf) [0, 1, 2, 3, 4, 5, 6, 7, 8, 9, 10, 11] (by decide) rfl
  have hFc := va_free (wc := mw cI a 1024 0 0 0 0 0 0 (inW 8192) zf zf zf zf zf zf zf zf zf zf) hD hS hA [0, 1, 2, 3, 4, 5, 6, 7, 8, 9, 10, 11] rfl
  refine va_calli (va_runV (As := [.int (xs 1), .int (xs 2)]) (rest := [.int r1]) ⟨hx, hb, hml, hown, hts⟩ (c_X4_zero l dC dI cI a 1024 0 0 0 0 0 0 (inW 8192) zf zf zf zf zf zf zf zf zf zf H.size (xs 1) (xs 2) (by decide)) (cwV 2 hts gL_law_X4_zero rfl rfl rfl (by decide +kernel) ⟨Nat.le_of_ble_eq_true rfl, Nat.le_of_ble_eq_true rfl⟩) ⟨fun a9 U g9 mk9 q9 => by obtain ⟨q0, q1, qP, qK, qD⟩ := q9; exact ⟨q0, q1, qP, va_K.moved (u := U) (U := U.calling g9 mk9 a9) (Vm.Alike.refl U.vm) qK, qD⟩, va_recv hKc hPc (ci := 4) (q0 := 0) rfl rfl, fun U hU hW => ⟨rfl, by rw [hU], by rw [hU]; exact hPc, va_K.moved hW.alike hKc, hDc.weaken (fun _ _ _ _ => trivial)⟩⟩ rfl rfl hl.1 rfl (lv_room (Nat.le_of_ble_eq_true rfl)) dL_law_238 ⟨Nat.le_of_ble_eq_true rfl, Nat.le_of_ble_eq_true rfl⟩) hS (fun q _ h => hFc q h) hFc (fun r2 u t H1 locs ht9 hvm9 hw hB hz9 hk9 hS => ?_)
  try dsimp only at hw
  generalize H1 = H at hS ⊢
  have hm := hw
  clear hw
  have heq : r1 = r2 := hc.trans hm.symm
  refine lv_icmp_eq (tgt := 853) hx hb dL_law_241 (by decide) (fun _ => ?_) (fun c9 => absurd heq c9)
  exact tail _ _ _ _ _ (Nat.le_of_ble_eq_true rfl) (Nat.le_of_ble_eq_true rfl) hS hl
set_option maxHeartbeats 4000000 in
set_option maxRecDepth 100000 in
theorem p1_copy {p : Program} {e : Env} {s : State} {m : MethodId} {below : List Frame} {meth : Method} {c : Code} (l : Launch) {q0 L : Nat} {xs : Nat → Int32} (C0 : lw_At p s m meth c q0 L xs) (h8 : L = 8) (dC : Nat → ClassId) (dI : Nat → Nat → Nat) (cB cI cS : ClassId) (h kq : Nat) (k o b a : Nat → Nat) (A : Nat → Prop) (hA : ∀ q : Nat, s.heap.size ≤ q → A q) (hbA : ¬ A q0) (hK : va_K (dC, dI) vwCl [(cI, .int), (cB, .byte), (cS, .object "GlulxHeap$State")] s) {H : Heap} {locs : List Loc} {ls : Array Slot} (hP : va_P (dC, dI) vwCl (gw h kq none k o b 0 0 0 ++ kw cB k 0 zf ++ ow cB o 0 0 zf ++ sw cB cI b 1024 0 0 (inW 8192) zf zf ++ krw cS kq (fun _ => none) ++ mw cI a 1024 0 0 0 0 0 0 (inW 8192) zf zf zf zf zf zf zf zf zf zf) H) (hD : va_D A (gw h kq none k o b 0 0 0 ++ kw cB k 0 zf ++ ow cB o 0 0 zf ++ sw cB cI b 1024 0 0 (inW 8192) zf zf ++ krw cS kq (fun _ => none) ++ mw cI a 1024 0 0 0 0 0 0 (inW 8192) zf zf zf zf zf zf zf zf zf zf)) (hS : va_S A s.heap H locs) (hl : lv_has ls 4 [(3, .int (nI 0)), (2, .ref (a 0)), (1, .ref h), (0, .ref q0)]) (tail : ∀ (H : Heap) (locs : List Loc) (ls : Array Slot) (cells slots : Nat), cells ≤ 600000 → slots ≤ 7302249 → va_S A s.heap H locs → lv_has ls 4 [(3, .int (nI 0)), (2, .ref (a 0)), (1, .ref h), (0, .ref q0)] → W p l e room_1 s m #[Value.ref q0] below meth c H locs cells slots (lw_Z below #[Value.ref q0] s) (F0 m 853 ls [])) : W p l e room_1 s m #[Value.ref q0] below meth c H locs 22 78425 (lw_Z below #[Value.ref q0] s) (F0 m 246 ls []) := by
  obtain ⟨hx, hb, hr, hml, hown, hts0, hX, hbl, hlocks, hgv⟩ := id C0
  have hts : ∀ w ∈ wsL_law, w.before #[Value.ref q0] s = true := fun w h => hts0 w (wsL_law_in w h)
  refine lv_aload_n hx hb dL_law_246 rfl (lv_at hl 2 rfl) ?_
  refine lv_aload_n hx hb dL_law_247 rfl (lv_at hl 3 rfl) ?_
  refine lv_iload_n hx hb dL_law_248 rfl (lv_at hl 0 rfl) ?_
  refine lv_iconst (v := nI 1) hx hb dL_law_249 (by decide) ?_
  refine lv_iadd hx hb dL_law_250 ?_
  refine tpi (show nI 0 + nI 1 = nI 1 by decide) ?_
  refine va_sld hx hb hX hbl hbA hS (vp_in_nI (by omega) (by omega)) dL_law_251 ?_
  refine tpi (show xs (nI 1).toNatClampNeg = xs 1 by rw [nI_clamp (by decide)]) ?_
  refine lv_aload_n hx hb dL_law_252 rfl (lv_at hl 3 rfl) ?_
  refine lv_iload_n hx hb dL_law_253 rfl (lv_at hl 0 rfl) ?_
  refine lv_iconst (v := nI 2) hx hb dL_law_254 (by decide) ?_
  refine lv_iadd hx hb dL_law_255 ?_
  refine tpi (show nI 0 + nI 2 = nI 2 by decide) ?_
  refine va_sld hx hb hX hbl hbA hS (vp_in_nI (by omega) (by omega)) dL_law_256 ?_
  refine tpi (show xs (nI 2).toNatClampNeg = xs 2 by rw [nI_clamp (by decide)]) ?_
  refine lv_aload_n hx hb dL_law_257 rfl (lv_at hl 3 rfl) ?_
  refine lv_iload_n hx hb dL_law_258 rfl (lv_at hl 0 rfl) ?_
  refine lv_iconst (v := nI 3) hx hb dL_law_259 (by decide) ?_
  refine lv_iadd hx hb dL_law_260 ?_
  refine tpi (show nI 0 + nI 3 = nI 3 by decide) ?_
  refine va_sld hx hb hX hbl hbA hS (vp_in_nI (by omega) (by omega)) dL_law_261 ?_
  refine tpi (show xs (nI 3).toNatClampNeg = xs 3 by rw [nI_clamp (by decide)]) ?_
  have hPc := hP.sub (ws' := gw h kq none k o b 0 0 0 ++ kw cB k 0 zf ++ ow cB o 0 0 zf ++ sw cB cI b 1024 0 0 (inW 8192) zf zf) [0, 1, 2, 3, 4, 5, 6, 7, 8] rfl
  have hKc := hK.sub (tys' := [(cI, .int), (cB, .byte)]) [0, 1] rfl
  have hDc := hD.sub (ws' := gw h kq none k o b 0 0 0 ++ kw cB k 0 zf ++ ow cB o 0 0 zf ++ sw cB cI b 1024 0 0 (inW 8192) zf zf) [0, 1, 2, 3, 4, 5, 6, 7, 8] (by decide) rfl
  have hFc := va_free (wc := gw h kq none k o b 0 0 0 ++ kw cB k 0 zf ++ ow cB o 0 0 zf ++ sw cB cI b 1024 0 0 (inW 8192) zf zf) hD hS hA [0, 1, 2, 3, 4, 5, 6, 7, 8] rfl
  refine va_calli (va_runV (As := [.int (xs 1), .int (xs 2), .int (xs 3)]) (rest := []) ⟨hx, hb, hml, hown, hts⟩ (c_X3_copy l dC dI cB cI h kq none k o b 0 0 0 0 zf 0 0 zf 1024 0 0 (inW 8192) zf zf H.size (xs 1) (xs 2) (xs 3) (by decide)) (cwV 3 hts gL_law_X3_copy rfl rfl rfl (by decide +kernel) ⟨Nat.le_of_ble_eq_true rfl, Nat.le_of_ble_eq_true rfl⟩) ⟨fun a9 U g9 mk9 q9 => by obtain ⟨q0, q1, qP, qK, qD⟩ := q9; exact ⟨q0, q1, qP, va_K.moved (u := U) (U := U.calling g9 mk9 a9) (Vm.Alike.refl U.vm) qK, qD⟩, va_recv hKc hPc (ci := 3) (q0 := 0) rfl rfl, fun U hU hW => ⟨rfl, by rw [hU], by rw [hU]; exact hPc, va_K.moved hW.alike hKc, hDc.weaken (fun _ _ _ _ => trivial)⟩⟩ rfl rfl hl.1 rfl (lv_room (Nat.le_of_ble_eq_true rfl)) dL_law_262 ⟨Nat.le_of_ble_eq_true rfl, Nat.le_of_ble_eq_true rfl⟩) hS (fun q _ h => hFc q h) hFc (fun r1 u t H1 locs ht9 hvm9 hw hB hz9 hk9 hS => ?_)
  try dsimp only at hw
  obtain ⟨hP1, hK1, hD1⟩ := hB
  rw [ht9] at hP1
  obtain ⟨hP, hD⟩ := va_join (wr := mw cI a 1024 0 0 0 0 0 0 (inW 8192) zf zf zf zf zf zf zf zf zf zf) hP hD [0, 1, 2, 3, 4, 5, 6, 7, 8] [10, 11, 12, 13, 14, 15, 16, 17, 18, 19, 20, 21] rfl rfl (by decide) (by decide) hk9 hFc hP1 hD1
  have hP := hP.sub (ws' := mw cI a 1024 0 0 0 0 0 0 (inW 8192) zf zf zf zf zf zf zf zf zf zf) [0, 1, 2, 3, 4, 5, 6, 7, 8, 9, 10, 11] rfl
  have hD := hD.sub (ws' := mw cI a 1024 0 0 0 0 0 0 (inW 8192) zf zf zf zf zf zf zf zf zf zf) [0, 1, 2, 3, 4, 5, 6, 7, 8, 9, 10, 11] (by decide) rfl
  generalize H1 = H at hP hS ⊢
  have hc := hw
  clear hw
  refine lv_aload_n hx hb dL_law_265 rfl (lv_at hl 1 rfl) ?_
  refine lv_aload_n hx hb dL_law_266 rfl (lv_at hl 3 rfl) ?_
  refine lv_iload_n hx hb dL_law_267 rfl (lv_at hl 0 rfl) ?_
  refine lv_iconst (v := nI 1) hx hb dL_law_268 (by decide) ?_
  refine lv_iadd hx hb dL_law_269 ?_
  refine tpi (show nI 0 + nI 1 = nI 1 by decide) ?_
  refine va_sld hx hb hX hbl hbA hS (vp_in_nI (by omega) (by omega)) dL_law_270 ?_
  refine tpi (show xs (nI 1).toNatClampNeg = xs 1 by rw [nI_clamp (by decide)]) ?_
  refine lv_aload_n hx hb dL_law_271 rfl (lv_at hl 3 rfl) ?_
  refine lv_iload_n hx hb dL_law_272 rfl (lv_at hl 0 rfl) ?_
  refine lv_iconst (v := nI 2) hx hb dL_law_273 (by decide) ?_
  refine lv_iadd hx hb dL_law_274 ?_
  refine tpi (show nI 0 + nI 2 = nI 2 by decide) ?_
  refine va_sld hx hb hX hbl hbA hS (vp_in_nI (by omega) (by omega)) dL_law_275 ?_
  refine tpi (show xs (nI 2).toNatClampNeg = xs 2 by rw [nI_clamp (by decide)]) ?_
  refine lv_aload_n hx hb dL_law_276 rfl (lv_at hl 3 rfl) ?_
  refine lv_iload_n hx hb dL_law_277 rfl (lv_at hl 0 rfl) ?_
  refine lv_iconst (v := nI 3) hx hb dL_law_278 (by decide) ?_
  refine lv_iadd hx hb dL_law_279 ?_
  refine tpi (show nI 0 + nI 3 = nI 3 by decide) ?_
  refine va_sld hx hb hX hbl hbA hS (vp_in_nI (by omega) (by omega)) dL_law_280 ?_
  refine tpi (show xs (nI 3).toNatClampNeg = xs 3 by rw [nI_clamp (by decide)]) ?_
  have hPc := hP.sub (ws' := mw cI a 1024 0 0 0 0 0 0 (inW 8192) zf zf zf zf zf zf zf zf zf zf) [0, 1, 2, 3, 4, 5, 6, 7, 8, 9, 10, 11] rfl
  have hKc := hK.sub (tys' := [(cI, .int)]) [0] rfl
  have hDc := hD.sub (ws' := mw cI a 1024 0 0 0 0 0 0 (inW 8192) zf zf zf zf zf zf zf zf zf zf) [0, 1, 2, 3, 4, 5, 6, 7, 8, 9, 10, 11] (by decide) rfl
  have hFc := va_free (wc := mw cI a 1024 0 0 0 0 0 0 (inW 8192) zf zf zf zf zf zf zf zf zf zf) hD hS hA [0, 1, 2, 3, 4, 5, 6, 7, 8, 9, 10, 11] rfl
  refine va_calli (va_runV (As := [.int (xs 1), .int (xs 2), .int (xs 3)]) (rest := [.int r1]) ⟨hx, hb, hml, hown, hts⟩ (c_X4_copy l dC dI cI a 1024 0 0 0 0 0 0 (inW 8192) zf zf zf zf zf zf zf zf zf zf H.size (xs 1) (xs 2) (xs 3) (by decide)) (cwV 3 hts gL_law_X4_copy rfl rfl rfl (by decide +kernel) ⟨Nat.le_of_ble_eq_true rfl, Nat.le_of_ble_eq_true rfl⟩) ⟨fun a9 U g9 mk9 q9 => by obtain ⟨q0, q1, qP, qK, qD⟩ := q9; exact ⟨q0, q1, qP, va_K.moved (u := U) (U := U.calling g9 mk9 a9) (Vm.Alike.refl U.vm) qK, qD⟩, va_recv hKc hPc (ci := 4) (q0 := 0) rfl rfl, fun U hU hW => ⟨rfl, by rw [hU], by rw [hU]; exact hPc, va_K.moved hW.alike hKc, hDc.weaken (fun _ _ _ _ => trivial)⟩⟩ rfl rfl hl.1 rfl (lv_room (Nat.le_of_ble_eq_true rfl)) dL_law_281 ⟨Nat.le_of_ble_eq_true rfl, Nat.le_of_ble_eq_true rfl⟩) hS (fun q _ h => hFc q h) hFc (fun r2 u t H1 locs ht9 hvm9 hw hB hz9 hk9 hS => ?_)
  try dsimp only at hw
  generalize H1 = H at hS ⊢
  have hm := hw
  clear hw
  have heq : r1 = r2 := hc.trans hm.symm
  refine lv_icmp_eq (tgt := 853) hx hb dL_law_284 (by decide) (fun _ => ?_) (fun c9 => absurd heq c9)
  exact tail _ _ _ _ _ (Nat.le_of_ble_eq_true rfl) (Nat.le_of_ble_eq_true rfl) hS hl
set_option maxHeartbeats 4000000 in
set_option maxRecDepth 100000 in
theorem p1_resize {p : Program} {e : Env} {s : State} {m : MethodId} {below : List Frame} {meth : Method} {c : Code} (l : Launch) {q0 L : Nat} {xs : Nat → Int32} (C0 : lw_At p s m meth c q0 L xs) (h8 : L = 8) (dC : Nat → ClassId) (dI : Nat → Nat → Nat) (cB cI cS : ClassId) (h kq : Nat) (k o b a : Nat → Nat) (A : Nat → Prop) (hA : ∀ q : Nat, s.heap.size ≤ q → A q) (hbA : ¬ A q0) (hK : va_K (dC, dI) vwCl [(cI, .int), (cB, .byte), (cS, .object "GlulxHeap$State")] s) {H : Heap} {locs : List Loc} {ls : Array Slot} (hP : va_P (dC, dI) vwCl (gw h kq none k o b 0 0 0 ++ kw cB k 0 zf ++ ow cB o 0 0 zf ++ sw cB cI b 1024 0 0 (inW 8192) zf zf ++ krw cS kq (fun _ => none) ++ mw cI a 1024 0 0 0 0 0 0 (inW 8192) zf zf zf zf zf zf zf zf zf zf) H) (hD : va_D A (gw h kq none k o b 0 0 0 ++ kw cB k 0 zf ++ ow cB o 0 0 zf ++ sw cB cI b 1024 0 0 (inW 8192) zf zf ++ krw cS kq (fun _ => none) ++ mw cI a 1024 0 0 0 0 0 0 (inW 8192) zf zf zf zf zf zf zf zf zf zf)) (hS : va_S A s.heap H locs) (hl : lv_has ls 4 [(3, .int (nI 0)), (2, .ref (a 0)), (1, .ref h), (0, .ref q0)]) (tail : ∀ (H : Heap) (locs : List Loc) (ls : Array Slot) (cells slots : Nat), cells ≤ 600000 → slots ≤ 7302249 → va_S A s.heap H locs → lv_has ls 4 [(3, .int (nI 0)), (2, .ref (a 0)), (1, .ref h), (0, .ref q0)] → W p l e room_1 s m #[Value.ref q0] below meth c H locs cells slots (lw_Z below #[Value.ref q0] s) (F0 m 853 ls [])) : W p l e room_1 s m #[Value.ref q0] below meth c H locs 22 78425 (lw_Z below #[Value.ref q0] s) (F0 m 289 ls []) := by
  obtain ⟨hx, hb, hr, hml, hown, hts0, hX, hbl, hlocks, hgv⟩ := id C0
  have hts : ∀ w ∈ wsL_law, w.before #[Value.ref q0] s = true := fun w h => hts0 w (wsL_law_in w h)
  refine lv_aload_n hx hb dL_law_289 rfl (lv_at hl 2 rfl) ?_
  refine lv_aload_n hx hb dL_law_290 rfl (lv_at hl 3 rfl) ?_
  refine lv_iload_n hx hb dL_law_291 rfl (lv_at hl 0 rfl) ?_
  refine lv_iconst (v := nI 1) hx hb dL_law_292 (by decide) ?_
  refine lv_iadd hx hb dL_law_293 ?_
  refine tpi (show nI 0 + nI 1 = nI 1 by decide) ?_
  refine va_sld hx hb hX hbl hbA hS (vp_in_nI (by omega) (by omega)) dL_law_294 ?_
  refine tpi (show xs (nI 1).toNatClampNeg = xs 1 by rw [nI_clamp (by decide)]) ?_
  have hPc := hP.sub (ws' := gw h kq none k o b 0 0 0 ++ kw cB k 0 zf ++ ow cB o 0 0 zf ++ sw cB cI b 1024 0 0 (inW 8192) zf zf) [0, 1, 2, 3, 4, 5, 6, 7, 8] rfl
  have hKc := hK.sub (tys' := [(cI, .int), (cB, .byte)]) [0, 1] rfl
  have hDc := hD.sub (ws' := gw h kq none k o b 0 0 0 ++ kw cB k 0 zf ++ ow cB o 0 0 zf ++ sw cB cI b 1024 0 0 (inW 8192) zf zf) [0, 1, 2, 3, 4, 5, 6, 7, 8] (by decide) rfl
  have hFc := va_free (wc := gw h kq none k o b 0 0 0 ++ kw cB k 0 zf ++ ow cB o 0 0 zf ++ sw cB cI b 1024 0 0 (inW 8192) zf zf) hD hS hA [0, 1, 2, 3, 4, 5, 6, 7, 8] rfl
  refine va_calli (va_runV (As := [.int (xs 1)]) (rest := []) ⟨hx, hb, hml, hown, hts⟩ (c_X3_resize l dC dI cB cI h kq none k o b 0 0 0 0 zf 0 0 zf 1024 0 0 (inW 8192) zf zf H.size (xs 1) (by decide) (by decide)) (cwV 1 hts gL_law_X3_resize rfl rfl rfl (by decide +kernel) ⟨Nat.le_of_ble_eq_true rfl, Nat.le_of_ble_eq_true rfl⟩) ⟨fun a9 U g9 mk9 q9 => by obtain ⟨q0, q1, qP, qK, qD⟩ := q9; exact ⟨q0, q1, qP, va_K.moved (u := U) (U := U.calling g9 mk9 a9) (Vm.Alike.refl U.vm) qK, qD⟩, va_recv hKc hPc (ci := 3) (q0 := 0) rfl rfl, fun U hU hW => ⟨rfl, by rw [hU], by rw [hU]; exact hPc, va_K.moved hW.alike hKc, hDc.weaken (fun _ _ _ _ => trivial)⟩⟩ rfl rfl hl.1 rfl (lv_room (Nat.le_of_ble_eq_true rfl)) dL_law_295 ⟨Nat.le_of_ble_eq_true rfl, Nat.le_of_ble_eq_true rfl⟩) hS (fun q _ h => hFc q h) hFc (fun r1 u t H1 locs ht9 hvm9 hw hB hz9 hk9 hS => ?_)
  try dsimp only at hw
  obtain ⟨hP1, hK1, hD1⟩ := hB
  rw [ht9] at hP1
  obtain ⟨hP, hD⟩ := va_join (wr := mw cI a 1024 0 0 0 0 0 0 (inW 8192) zf zf zf zf zf zf zf zf zf zf) hP hD [0, 1, 2, 3, 4, 5, 6, 7, 8] [10, 11, 12, 13, 14, 15, 16, 17, 18, 19, 20, 21] rfl rfl (by decide) (by decide) hk9 hFc hP1 hD1
  have hP := hP.sub (ws' := mw cI a 1024 0 0 0 0 0 0 (inW 8192) zf zf zf zf zf zf zf zf zf zf) [0, 1, 2, 3, 4, 5, 6, 7, 8, 9, 10, 11] rfl
  have hD := hD.sub (ws' := mw cI a 1024 0 0 0 0 0 0 (inW 8192) zf zf zf zf zf zf zf zf zf zf) [0, 1, 2, 3, 4, 5, 6, 7, 8, 9, 10, 11] (by decide) rfl
  generalize H1 = H at hP hS ⊢
  have hc := hw
  clear hw
  refine lv_aload_n hx hb dL_law_298 rfl (lv_at hl 1 rfl) ?_
  refine lv_aload_n hx hb dL_law_299 rfl (lv_at hl 3 rfl) ?_
  refine lv_iload_n hx hb dL_law_300 rfl (lv_at hl 0 rfl) ?_
  refine lv_iconst (v := nI 1) hx hb dL_law_301 (by decide) ?_
  refine lv_iadd hx hb dL_law_302 ?_
  refine tpi (show nI 0 + nI 1 = nI 1 by decide) ?_
  refine va_sld hx hb hX hbl hbA hS (vp_in_nI (by omega) (by omega)) dL_law_303 ?_
  refine tpi (show xs (nI 1).toNatClampNeg = xs 1 by rw [nI_clamp (by decide)]) ?_
  have hPc := hP.sub (ws' := mw cI a 1024 0 0 0 0 0 0 (inW 8192) zf zf zf zf zf zf zf zf zf zf) [0, 1, 2, 3, 4, 5, 6, 7, 8, 9, 10, 11] rfl
  have hKc := hK.sub (tys' := [(cI, .int)]) [0] rfl
  have hDc := hD.sub (ws' := mw cI a 1024 0 0 0 0 0 0 (inW 8192) zf zf zf zf zf zf zf zf zf zf) [0, 1, 2, 3, 4, 5, 6, 7, 8, 9, 10, 11] (by decide) rfl
  have hFc := va_free (wc := mw cI a 1024 0 0 0 0 0 0 (inW 8192) zf zf zf zf zf zf zf zf zf zf) hD hS hA [0, 1, 2, 3, 4, 5, 6, 7, 8, 9, 10, 11] rfl
  refine va_calli (va_runV (As := [.int (xs 1)]) (rest := [.int r1]) ⟨hx, hb, hml, hown, hts⟩ (c_X4_resize l dC dI cI a 1024 0 0 0 0 0 0 (inW 8192) zf zf zf zf zf zf zf zf zf zf H.size (xs 1) (by decide) (by decide)) (cwV 1 hts gL_law_X4_resize rfl rfl rfl (by decide +kernel) ⟨Nat.le_of_ble_eq_true rfl, Nat.le_of_ble_eq_true rfl⟩) ⟨fun a9 U g9 mk9 q9 => by obtain ⟨q0, q1, qP, qK, qD⟩ := q9; exact ⟨q0, q1, qP, va_K.moved (u := U) (U := U.calling g9 mk9 a9) (Vm.Alike.refl U.vm) qK, qD⟩, va_recv hKc hPc (ci := 4) (q0 := 0) rfl rfl, fun U hU hW => ⟨rfl, by rw [hU], by rw [hU]; exact hPc, va_K.moved hW.alike hKc, hDc.weaken (fun _ _ _ _ => trivial)⟩⟩ rfl rfl hl.1 rfl (lv_room (Nat.le_of_ble_eq_true rfl)) dL_law_304 ⟨Nat.le_of_ble_eq_true rfl, Nat.le_of_ble_eq_true rfl⟩) hS (fun q _ h => hFc q h) hFc (fun r2 u t H1 locs ht9 hvm9 hw hB hz9 hk9 hS => ?_)
  try dsimp only at hw
  generalize H1 = H at hS ⊢
  have hm := hw
  clear hw
  have heq : r1 = r2 := hc.trans hm.symm
  refine lv_icmp_eq (tgt := 853) hx hb dL_law_307 (by decide) (fun _ => ?_) (fun c9 => absurd heq c9)
  exact tail _ _ _ _ _ (Nat.le_of_ble_eq_true rfl) (Nat.le_of_ble_eq_true rfl) hS hl
set_option maxHeartbeats 4000000 in
set_option maxRecDepth 100000 in
theorem p1_make {p : Program} {e : Env} {s : State} {m : MethodId} {below : List Frame} {meth : Method} {c : Code} (l : Launch) {q0 L : Nat} {xs : Nat → Int32} (C0 : lw_At p s m meth c q0 L xs) (h8 : L = 8) (dC : Nat → ClassId) (dI : Nat → Nat → Nat) (cB cI cS : ClassId) (h kq : Nat) (k o b a : Nat → Nat) (A : Nat → Prop) (hA : ∀ q : Nat, s.heap.size ≤ q → A q) (hbA : ¬ A q0) (hK : va_K (dC, dI) vwCl [(cI, .int), (cB, .byte), (cS, .object "GlulxHeap$State")] s) {H : Heap} {locs : List Loc} {ls : Array Slot} (hP : va_P (dC, dI) vwCl (gw h kq none k o b 0 0 0 ++ kw cB k 0 zf ++ ow cB o 0 0 zf ++ sw cB cI b 1024 0 0 (inW 8192) zf zf ++ krw cS kq (fun _ => none) ++ mw cI a 1024 0 0 0 0 0 0 (inW 8192) zf zf zf zf zf zf zf zf zf zf) H) (hD : va_D A (gw h kq none k o b 0 0 0 ++ kw cB k 0 zf ++ ow cB o 0 0 zf ++ sw cB cI b 1024 0 0 (inW 8192) zf zf ++ krw cS kq (fun _ => none) ++ mw cI a 1024 0 0 0 0 0 0 (inW 8192) zf zf zf zf zf zf zf zf zf zf)) (hS : va_S A s.heap H locs) (hl : lv_has ls 4 [(3, .int (nI 0)), (2, .ref (a 0)), (1, .ref h), (0, .ref q0)]) (tail : ∀ (H : Heap) (locs : List Loc) (ls : Array Slot) (cells slots : Nat), cells ≤ 600000 → slots ≤ 7302249 → va_S A s.heap H locs → lv_has ls 4 [(3, .int (nI 0)), (2, .ref (a 0)), (1, .ref h), (0, .ref q0)] → W p l e room_1 s m #[Value.ref q0] below meth c H locs cells slots (lw_Z below #[Value.ref q0] s) (F0 m 853 ls [])) : W p l e room_1 s m #[Value.ref q0] below meth c H locs 22 78425 (lw_Z below #[Value.ref q0] s) (F0 m 312 ls []) := by
  obtain ⟨hx, hb, hr, hml, hown, hts0, hX, hbl, hlocks, hgv⟩ := id C0
  have hts : ∀ w ∈ wsL_law, w.before #[Value.ref q0] s = true := fun w h => hts0 w (wsL_law_in w h)
  refine lv_aload_n hx hb dL_law_312 rfl (lv_at hl 2 rfl) ?_
  refine lv_aload_n hx hb dL_law_313 rfl (lv_at hl 3 rfl) ?_
  refine lv_iload_n hx hb dL_law_314 rfl (lv_at hl 0 rfl) ?_
  refine lv_iconst (v := nI 1) hx hb dL_law_315 (by decide) ?_
  refine lv_iadd hx hb dL_law_316 ?_
  refine tpi (show nI 0 + nI 1 = nI 1 by decide) ?_
  refine va_sld hx hb hX hbl hbA hS (vp_in_nI (by omega) (by omega)) dL_law_317 ?_
  refine tpi (show xs (nI 1).toNatClampNeg = xs 1 by rw [nI_clamp (by decide)]) ?_
  have hPc := hP.sub (ws' := gw h kq none k o b 0 0 0 ++ kw cB k 0 zf ++ ow cB o 0 0 zf ++ sw cB cI b 1024 0 0 (inW 8192) zf zf) [0, 1, 2, 3, 4, 5, 6, 7, 8] rfl
  have hKc := hK.sub (tys' := [(cI, .int), (cB, .byte)]) [0, 1] rfl
  have hDc := hD.sub (ws' := gw h kq none k o b 0 0 0 ++ kw cB k 0 zf ++ ow cB o 0 0 zf ++ sw cB cI b 1024 0 0 (inW 8192) zf zf) [0, 1, 2, 3, 4, 5, 6, 7, 8] (by decide) rfl
  have hFc := va_free (wc := gw h kq none k o b 0 0 0 ++ kw cB k 0 zf ++ ow cB o 0 0 zf ++ sw cB cI b 1024 0 0 (inW 8192) zf zf) hD hS hA [0, 1, 2, 3, 4, 5, 6, 7, 8] rfl
  refine va_calli (va_runV (As := [.int (xs 1)]) (rest := []) ⟨hx, hb, hml, hown, hts⟩ (c_X3_make l dC dI cB cI h kq none k o b 0 0 0 0 zf 0 0 zf 1024 0 0 (inW 8192) zf zf H.size (xs 1) wfB_00) (cwV 1 hts gL_law_X3_make rfl rfl rfl (by decide +kernel) ⟨Nat.le_of_ble_eq_true rfl, Nat.le_of_ble_eq_true rfl⟩) ⟨fun a9 U g9 mk9 q9 => by obtain ⟨q0, q1, qP, qK, qD⟩ := q9; exact ⟨q0, q1, qP, va_K.moved (u := U) (U := U.calling g9 mk9 a9) (Vm.Alike.refl U.vm) qK, qD⟩, va_recv hKc hPc (ci := 3) (q0 := 0) rfl rfl, fun U hU hW => ⟨rfl, by rw [hU], by rw [hU]; exact hPc, va_K.moved hW.alike hKc, hDc.weaken (fun _ _ _ _ => trivial)⟩⟩ rfl rfl hl.1 rfl (lv_room (Nat.le_of_ble_eq_true rfl)) dL_law_318 ⟨Nat.le_of_ble_eq_true rfl, Nat.le_of_ble_eq_true rfl⟩) hS (fun q _ h => hFc q h) hFc (fun r1 u t H1 locs ht9 hvm9 hw hB hz9 hk9 hS => ?_)
  try dsimp only at hw
  obtain ⟨hP1, hK1, hD1⟩ := hB
  rw [ht9] at hP1
  obtain ⟨hP, hD⟩ := va_join (wr := mw cI a 1024 0 0 0 0 0 0 (inW 8192) zf zf zf zf zf zf zf zf zf zf) hP hD [0, 1, 2, 3, 4, 5, 6, 7, 8] [10, 11, 12, 13, 14, 15, 16, 17, 18, 19, 20, 21] rfl rfl (by decide) (by decide) hk9 hFc hP1 hD1
  have hP := hP.sub (ws' := mw cI a 1024 0 0 0 0 0 0 (inW 8192) zf zf zf zf zf zf zf zf zf zf) [0, 1, 2, 3, 4, 5, 6, 7, 8, 9, 10, 11] rfl
  have hD := hD.sub (ws' := mw cI a 1024 0 0 0 0 0 0 (inW 8192) zf zf zf zf zf zf zf zf zf zf) [0, 1, 2, 3, 4, 5, 6, 7, 8, 9, 10, 11] (by decide) rfl
  generalize H1 = H at hP hS ⊢
  have hc := hw
  clear hw
  refine lv_aload_n hx hb dL_law_321 rfl (lv_at hl 1 rfl) ?_
  refine lv_aload_n hx hb dL_law_322 rfl (lv_at hl 3 rfl) ?_
  refine lv_iload_n hx hb dL_law_323 rfl (lv_at hl 0 rfl) ?_
  refine lv_iconst (v := nI 1) hx hb dL_law_324 (by decide) ?_
  refine lv_iadd hx hb dL_law_325 ?_
  refine tpi (show nI 0 + nI 1 = nI 1 by decide) ?_
  refine va_sld hx hb hX hbl hbA hS (vp_in_nI (by omega) (by omega)) dL_law_326 ?_
  refine tpi (show xs (nI 1).toNatClampNeg = xs 1 by rw [nI_clamp (by decide)]) ?_
  have hPc := hP.sub (ws' := mw cI a 1024 0 0 0 0 0 0 (inW 8192) zf zf zf zf zf zf zf zf zf zf) [0, 1, 2, 3, 4, 5, 6, 7, 8, 9, 10, 11] rfl
  have hKc := hK.sub (tys' := [(cI, .int)]) [0] rfl
  have hDc := hD.sub (ws' := mw cI a 1024 0 0 0 0 0 0 (inW 8192) zf zf zf zf zf zf zf zf zf zf) [0, 1, 2, 3, 4, 5, 6, 7, 8, 9, 10, 11] (by decide) rfl
  have hFc := va_free (wc := mw cI a 1024 0 0 0 0 0 0 (inW 8192) zf zf zf zf zf zf zf zf zf zf) hD hS hA [0, 1, 2, 3, 4, 5, 6, 7, 8, 9, 10, 11] rfl
  refine va_calli (va_runV (As := [.int (xs 1)]) (rest := [.int r1]) ⟨hx, hb, hml, hown, hts⟩ (c_X4_make l dC dI cI a 1024 0 0 0 0 0 0 (inW 8192) zf zf zf zf zf zf zf zf zf zf H.size (xs 1) wfB_00) (cwV 1 hts gL_law_X4_make rfl rfl rfl (by decide +kernel) ⟨Nat.le_of_ble_eq_true rfl, Nat.le_of_ble_eq_true rfl⟩) ⟨fun a9 U g9 mk9 q9 => by obtain ⟨q0, q1, qP, qK, qD⟩ := q9; exact ⟨q0, q1, qP, va_K.moved (u := U) (U := U.calling g9 mk9 a9) (Vm.Alike.refl U.vm) qK, qD⟩, va_recv hKc hPc (ci := 4) (q0 := 0) rfl rfl, fun U hU hW => ⟨rfl, by rw [hU], by rw [hU]; exact hPc, va_K.moved hW.alike hKc, hDc.weaken (fun _ _ _ _ => trivial)⟩⟩ rfl rfl hl.1 rfl (lv_room (Nat.le_of_ble_eq_true rfl)) dL_law_327 ⟨Nat.le_of_ble_eq_true rfl, Nat.le_of_ble_eq_true rfl⟩) hS (fun q _ h => hFc q h) hFc (fun r2 u t H1 locs ht9 hvm9 hw hB hz9 hk9 hS => ?_)
  try dsimp only at hw
  generalize H1 = H at hS ⊢
  have hm := hw
  clear hw
  have heq : r1 = r2 := hc.trans hm.symm
  refine lv_icmp_eq (tgt := 853) hx hb dL_law_330 (by decide) (fun _ => ?_) (fun c9 => absurd heq c9)
  exact tail _ _ _ _ _ (Nat.le_of_ble_eq_true rfl) (Nat.le_of_ble_eq_true rfl) hS hl
set_option maxHeartbeats 4000000 in
set_option maxRecDepth 100000 in
theorem p1_free {p : Program} {e : Env} {s : State} {m : MethodId} {below : List Frame} {meth : Method} {c : Code} (l : Launch) {q0 L : Nat} {xs : Nat → Int32} (C0 : lw_At p s m meth c q0 L xs) (h8 : L = 8) (dC : Nat → ClassId) (dI : Nat → Nat → Nat) (cB cI cS : ClassId) (h kq : Nat) (k o b a : Nat → Nat) (A : Nat → Prop) (hA : ∀ q : Nat, s.heap.size ≤ q → A q) (hbA : ¬ A q0) (hK : va_K (dC, dI) vwCl [(cI, .int), (cB, .byte), (cS, .object "GlulxHeap$State")] s) {H : Heap} {locs : List Loc} {ls : Array Slot} (hP : va_P (dC, dI) vwCl (gw h kq none k o b 0 0 0 ++ kw cB k 0 zf ++ ow cB o 0 0 zf ++ sw cB cI b 1024 0 0 (inW 8192) zf zf ++ krw cS kq (fun _ => none) ++ mw cI a 1024 0 0 0 0 0 0 (inW 8192) zf zf zf zf zf zf zf zf zf zf) H) (hD : va_D A (gw h kq none k o b 0 0 0 ++ kw cB k 0 zf ++ ow cB o 0 0 zf ++ sw cB cI b 1024 0 0 (inW 8192) zf zf ++ krw cS kq (fun _ => none) ++ mw cI a 1024 0 0 0 0 0 0 (inW 8192) zf zf zf zf zf zf zf zf zf zf)) (hS : va_S A s.heap H locs) (hl : lv_has ls 4 [(3, .int (nI 0)), (2, .ref (a 0)), (1, .ref h), (0, .ref q0)]) (tail : ∀ (H : Heap) (locs : List Loc) (ls : Array Slot) (cells slots : Nat), cells ≤ 600000 → slots ≤ 7302249 → va_S A s.heap H locs → lv_has ls 4 [(3, .int (nI 0)), (2, .ref (a 0)), (1, .ref h), (0, .ref q0)] → W p l e room_1 s m #[Value.ref q0] below meth c H locs cells slots (lw_Z below #[Value.ref q0] s) (F0 m 853 ls [])) : W p l e room_1 s m #[Value.ref q0] below meth c H locs 22 78425 (lw_Z below #[Value.ref q0] s) (F0 m 335 ls []) := by
  obtain ⟨hx, hb, hr, hml, hown, hts0, hX, hbl, hlocks, hgv⟩ := id C0
  have hts : ∀ w ∈ wsL_law, w.before #[Value.ref q0] s = true := fun w h => hts0 w (wsL_law_in w h)
  refine lv_aload_n hx hb dL_law_335 rfl (lv_at hl 2 rfl) ?_
  refine lv_aload_n hx hb dL_law_336 rfl (lv_at hl 3 rfl) ?_
  refine lv_iload_n hx hb dL_law_337 rfl (lv_at hl 0 rfl) ?_
  refine lv_iconst (v := nI 1) hx hb dL_law_338 (by decide) ?_
  refine lv_iadd hx hb dL_law_339 ?_
  refine tpi (show nI 0 + nI 1 = nI 1 by decide) ?_
  refine va_sld hx hb hX hbl hbA hS (vp_in_nI (by omega) (by omega)) dL_law_340 ?_
  refine tpi (show xs (nI 1).toNatClampNeg = xs 1 by rw [nI_clamp (by decide)]) ?_
  have hPc := hP.sub (ws' := gw h kq none k o b 0 0 0 ++ kw cB k 0 zf ++ ow cB o 0 0 zf ++ sw cB cI b 1024 0 0 (inW 8192) zf zf) [0, 1, 2, 3, 4, 5, 6, 7, 8] rfl
  have hKc := hK.sub (tys' := [(cI, .int), (cB, .byte)]) [0, 1] rfl
  have hDc := hD.sub (ws' := gw h kq none k o b 0 0 0 ++ kw cB k 0 zf ++ ow cB o 0 0 zf ++ sw cB cI b 1024 0 0 (inW 8192) zf zf) [0, 1, 2, 3, 4, 5, 6, 7, 8] (by decide) rfl
  have hFc := va_free (wc := gw h kq none k o b 0 0 0 ++ kw cB k 0 zf ++ ow cB o 0 0 zf ++ sw cB cI b 1024 0 0 (inW 8192) zf zf) hD hS hA [0, 1, 2, 3, 4, 5, 6, 7, 8] rfl
  refine va_calli (va_runV (As := [.int (xs 1)]) (rest := []) ⟨hx, hb, hml, hown, hts⟩ (c_X3_free l dC dI cB cI h kq none k o b 0 0 0 0 zf 0 0 zf 1024 0 0 (inW 8192) zf zf H.size (xs 1) wfB_00) (cwV 1 hts gL_law_X3_free rfl rfl rfl (by decide +kernel) ⟨Nat.le_of_ble_eq_true rfl, Nat.le_of_ble_eq_true rfl⟩) ⟨fun a9 U g9 mk9 q9 => by obtain ⟨q0, q1, qP, qK, qD⟩ := q9; exact ⟨q0, q1, qP, va_K.moved (u := U) (U := U.calling g9 mk9 a9) (Vm.Alike.refl U.vm) qK, qD⟩, va_recv hKc hPc (ci := 3) (q0 := 0) rfl rfl, fun U hU hW => ⟨rfl, by rw [hU], by rw [hU]; exact hPc, va_K.moved hW.alike hKc, hDc.weaken (fun _ _ _ _ => trivial)⟩⟩ rfl rfl hl.1 rfl (lv_room (Nat.le_of_ble_eq_true rfl)) dL_law_341 ⟨Nat.le_of_ble_eq_true rfl, Nat.le_of_ble_eq_true rfl⟩) hS (fun q _ h => hFc q h) hFc (fun r1 u t H1 locs ht9 hvm9 hw hB hz9 hk9 hS => ?_)
  try dsimp only at hw
  obtain ⟨hP1, hK1, hD1⟩ := hB
  rw [ht9] at hP1
  obtain ⟨hP, hD⟩ := va_join (wr := mw cI a 1024 0 0 0 0 0 0 (inW 8192) zf zf zf zf zf zf zf zf zf zf) hP hD [0, 1, 2, 3, 4, 5, 6, 7, 8] [10, 11, 12, 13, 14, 15, 16, 17, 18, 19, 20, 21] rfl rfl (by decide) (by decide) hk9 hFc hP1 hD1
  have hP := hP.sub (ws' := mw cI a 1024 0 0 0 0 0 0 (inW 8192) zf zf zf zf zf zf zf zf zf zf) [0, 1, 2, 3, 4, 5, 6, 7, 8, 9, 10, 11] rfl
  have hD := hD.sub (ws' := mw cI a 1024 0 0 0 0 0 0 (inW 8192) zf zf zf zf zf zf zf zf zf zf) [0, 1, 2, 3, 4, 5, 6, 7, 8, 9, 10, 11] (by decide) rfl
  generalize H1 = H at hP hS ⊢
  have hc := hw
  clear hw
  refine lv_aload_n hx hb dL_law_344 rfl (lv_at hl 1 rfl) ?_
  refine lv_aload_n hx hb dL_law_345 rfl (lv_at hl 3 rfl) ?_
  refine lv_iload_n hx hb dL_law_346 rfl (lv_at hl 0 rfl) ?_
  refine lv_iconst (v := nI 1) hx hb dL_law_347 (by decide) ?_
  refine lv_iadd hx hb dL_law_348 ?_
  refine tpi (show nI 0 + nI 1 = nI 1 by decide) ?_
  refine va_sld hx hb hX hbl hbA hS (vp_in_nI (by omega) (by omega)) dL_law_349 ?_
  refine tpi (show xs (nI 1).toNatClampNeg = xs 1 by rw [nI_clamp (by decide)]) ?_
  have hPc := hP.sub (ws' := mw cI a 1024 0 0 0 0 0 0 (inW 8192) zf zf zf zf zf zf zf zf zf zf) [0, 1, 2, 3, 4, 5, 6, 7, 8, 9, 10, 11] rfl
  have hKc := hK.sub (tys' := [(cI, .int)]) [0] rfl
  have hDc := hD.sub (ws' := mw cI a 1024 0 0 0 0 0 0 (inW 8192) zf zf zf zf zf zf zf zf zf zf) [0, 1, 2, 3, 4, 5, 6, 7, 8, 9, 10, 11] (by decide) rfl
  have hFc := va_free (wc := mw cI a 1024 0 0 0 0 0 0 (inW 8192) zf zf zf zf zf zf zf zf zf zf) hD hS hA [0, 1, 2, 3, 4, 5, 6, 7, 8, 9, 10, 11] rfl
  refine va_calli (va_runV (As := [.int (xs 1)]) (rest := [.int r1]) ⟨hx, hb, hml, hown, hts⟩ (c_X4_free l dC dI cI a 1024 0 0 0 0 0 0 (inW 8192) zf zf zf zf zf zf zf zf zf zf H.size (xs 1) wfB_00) (cwV 1 hts gL_law_X4_free rfl rfl rfl (by decide +kernel) ⟨Nat.le_of_ble_eq_true rfl, Nat.le_of_ble_eq_true rfl⟩) ⟨fun a9 U g9 mk9 q9 => by obtain ⟨q0, q1, qP, qK, qD⟩ := q9; exact ⟨q0, q1, qP, va_K.moved (u := U) (U := U.calling g9 mk9 a9) (Vm.Alike.refl U.vm) qK, qD⟩, va_recv hKc hPc (ci := 4) (q0 := 0) rfl rfl, fun U hU hW => ⟨rfl, by rw [hU], by rw [hU]; exact hPc, va_K.moved hW.alike hKc, hDc.weaken (fun _ _ _ _ => trivial)⟩⟩ rfl rfl hl.1 rfl (lv_room (Nat.le_of_ble_eq_true rfl)) dL_law_350 ⟨Nat.le_of_ble_eq_true rfl, Nat.le_of_ble_eq_true rfl⟩) hS (fun q _ h => hFc q h) hFc (fun r2 u t H1 locs ht9 hvm9 hw hB hz9 hk9 hS => ?_)
  try dsimp only at hw
  generalize H1 = H at hS ⊢
  have hm := hw
  clear hw
  have heq : r1 = r2 := hc.trans hm.symm
  refine lv_icmp_eq (tgt := 853) hx hb dL_law_353 (by decide) (fun _ => ?_) (fun c9 => absurd heq c9)
  exact tail _ _ _ _ _ (Nat.le_of_ble_eq_true rfl) (Nat.le_of_ble_eq_true rfl) hS hl
set_option maxHeartbeats 4000000 in
set_option maxRecDepth 100000 in
theorem p1_block {p : Program} {e : Env} {s : State} {m : MethodId} {below : List Frame} {meth : Method} {c : Code} (l : Launch) {q0 L : Nat} {xs : Nat → Int32} (C0 : lw_At p s m meth c q0 L xs) (h8 : L = 8) (dC : Nat → ClassId) (dI : Nat → Nat → Nat) (cB cI cS : ClassId) (h kq : Nat) (k o b a : Nat → Nat) (A : Nat → Prop) (hA : ∀ q : Nat, s.heap.size ≤ q → A q) (hbA : ¬ A q0) (hK : va_K (dC, dI) vwCl [(cI, .int), (cB, .byte), (cS, .object "GlulxHeap$State")] s) {H : Heap} {locs : List Loc} {ls : Array Slot} (hP : va_P (dC, dI) vwCl (gw h kq none k o b 0 0 0 ++ kw cB k 0 zf ++ ow cB o 0 0 zf ++ sw cB cI b 1024 0 0 (inW 8192) zf zf ++ krw cS kq (fun _ => none) ++ mw cI a 1024 0 0 0 0 0 0 (inW 8192) zf zf zf zf zf zf zf zf zf zf) H) (hD : va_D A (gw h kq none k o b 0 0 0 ++ kw cB k 0 zf ++ ow cB o 0 0 zf ++ sw cB cI b 1024 0 0 (inW 8192) zf zf ++ krw cS kq (fun _ => none) ++ mw cI a 1024 0 0 0 0 0 0 (inW 8192) zf zf zf zf zf zf zf zf zf zf)) (hS : va_S A s.heap H locs) (hl : lv_has ls 4 [(3, .int (nI 0)), (2, .ref (a 0)), (1, .ref h), (0, .ref q0)]) (tail : ∀ (H : Heap) (locs : List Loc) (ls : Array Slot) (cells slots : Nat), cells ≤ 600000 → slots ≤ 7302249 → va_S A s.heap H locs → lv_has ls 4 [(3, .int (nI 0)), (2, .ref (a 0)), (1, .ref h), (0, .ref q0)] → W p l e room_1 s m #[Value.ref q0] below meth c H locs cells slots (lw_Z below #[Value.ref q0] s) (F0 m 853 ls [])) : W p l e room_1 s m #[Value.ref q0] below meth c H locs 22 78425 (lw_Z below #[Value.ref q0] s) (F0 m 358 ls []) := by
  obtain ⟨hx, hb, hr, hml, hown, hts0, hX, hbl, hlocks, hgv⟩ := id C0
  have hts : ∀ w ∈ wsL_law, w.before #[Value.ref q0] s = true := fun w h => hts0 w (wsL_law_in w h)
  refine lv_aload_n hx hb dL_law_358 rfl (lv_at hl 2 rfl) ?_
  refine lv_aload_n hx hb dL_law_359 rfl (lv_at hl 3 rfl) ?_
  refine lv_iload_n hx hb dL_law_360 rfl (lv_at hl 0 rfl) ?_
  refine lv_iconst (v := nI 1) hx hb dL_law_361 (by decide) ?_
  refine lv_iadd hx hb dL_law_362 ?_
  refine tpi (show nI 0 + nI 1 = nI 1 by decide) ?_
  refine va_sld hx hb hX hbl hbA hS (vp_in_nI (by omega) (by omega)) dL_law_363 ?_
  refine tpi (show xs (nI 1).toNatClampNeg = xs 1 by rw [nI_clamp (by decide)]) ?_
  refine lv_aload_n hx hb dL_law_364 rfl (lv_at hl 3 rfl) ?_
  refine lv_iload_n hx hb dL_law_365 rfl (lv_at hl 0 rfl) ?_
  refine lv_iconst (v := nI 2) hx hb dL_law_366 (by decide) ?_
  refine lv_iadd hx hb dL_law_367 ?_
  refine tpi (show nI 0 + nI 2 = nI 2 by decide) ?_
  refine va_sld hx hb hX hbl hbA hS (vp_in_nI (by omega) (by omega)) dL_law_368 ?_
  refine tpi (show xs (nI 2).toNatClampNeg = xs 2 by rw [nI_clamp (by decide)]) ?_
  have hPc := hP.sub (ws' := gw h kq none k o b 0 0 0 ++ kw cB k 0 zf ++ ow cB o 0 0 zf ++ sw cB cI b 1024 0 0 (inW 8192) zf zf) [0, 1, 2, 3, 4, 5, 6, 7, 8] rfl
  have hKc := hK.sub (tys' := [(cI, .int), (cB, .byte)]) [0, 1] rfl
  refine vp_callSi (W.runV (As := [.int (xs 1), .int (xs 2)]) (rest := []) ⟨hx, hb, hml, hown, hts⟩ (c_X3_block l dC dI cB cI h kq none k o b 0 0 0 0 zf 0 0 zf 1024 0 0 (inW 8192) zf zf (xs 1) (xs 2) wfB_00) (cwV 2 hts gL_law_X3_block rfl rfl rfl (by decide +kernel) ⟨Nat.le_of_ble_eq_true rfl, Nat.le_of_ble_eq_true rfl⟩) ⟨fun a9 U g9 mk9 q9 => by obtain ⟨q0, qP, qK⟩ := q9; exact ⟨q0, qP, va_K.moved (u := U) (U := U.calling g9 mk9 a9) (Vm.Alike.refl U.vm) qK⟩, va_recv hKc hPc (ci := 3) (q0 := 0) rfl rfl, fun U hU hW => ⟨rfl, by rw [hU]; exact hPc, va_K.moved hW.alike hKc⟩⟩ rfl rfl hl.1 rfl (lv_room (Nat.le_of_ble_eq_true rfl)) dL_law_369 ⟨Nat.le_of_ble_eq_true rfl, Nat.le_of_ble_eq_true rfl⟩) (fun r1 hw => ?_)
  have hc := hw
  clear hw
  refine lv_aload_n hx hb dL_law_372 rfl (lv_at hl 1 rfl) ?_
  refine lv_aload_n hx hb dL_law_373 rfl (lv_at hl 3 rfl) ?_
  refine lv_iload_n hx hb dL_law_374 rfl (lv_at hl 0 rfl) ?_
  refine lv_iconst (v := nI 1) hx hb dL_law_375 (by decide) ?_
  refine lv_iadd hx hb dL_law_376 ?_
  refine tpi (show nI 0 + nI 1 = nI 1 by decide) ?_
  refine va_sld hx hb hX hbl hbA hS (vp_in_nI (by omega) (by omega)) dL_law_377 ?_
  refine tpi (show xs (nI 1).toNatClampNeg = xs 1 by rw [nI_clamp (by decide)]) ?_
  refine lv_aload_n hx hb dL_law_378 rfl (lv_at hl 3 rfl) ?_
  refine lv_iload_n hx hb dL_law_379 rfl (lv_at hl 0 rfl) ?_
  refine lv_iconst (v := nI 2) hx hb dL_law_380 (by decide) ?_
  refine lv_iadd hx hb dL_law_381 ?_
  refine tpi (show nI 0 + nI 2 = nI 2 by decide) ?_
  refine va_sld hx hb hX hbl hbA hS (vp_in_nI (by omega) (by omega)) dL_law_382 ?_
  refine tpi (show xs (nI 2).toNatClampNeg = xs 2 by rw [nI_clamp (by decide)]) ?_
  have hPc := hP.sub (ws' := mw cI a 1024 0 0 0 0 0 0 (inW 8192) zf zf zf zf zf zf zf zf zf zf) [10, 11, 12, 13, 14, 15, 16, 17, 18, 19, 20, 21] rfl
  have hKc := hK.sub (tys' := [(cI, .int)]) [0] rfl
  refine vp_callSi (W.runV (As := [.int (xs 1), .int (xs 2)]) (rest := [.int r1]) ⟨hx, hb, hml, hown, hts⟩ (c_X4_block l dC dI cI a 1024 0 0 0 0 0 0 (inW 8192) zf zf zf zf zf zf zf zf zf zf (xs 1) (xs 2) wfB_00) (cwV 2 hts gL_law_X4_block rfl rfl rfl (by decide +kernel) ⟨Nat.le_of_ble_eq_true rfl, Nat.le_of_ble_eq_true rfl⟩) ⟨fun a9 U g9 mk9 q9 => by obtain ⟨q0, qP, qK⟩ := q9; exact ⟨q0, qP, va_K.moved (u := U) (U := U.calling g9 mk9 a9) (Vm.Alike.refl U.vm) qK⟩, va_recv hKc hPc (ci := 4) (q0 := 0) rfl rfl, fun U hU hW => ⟨rfl, by rw [hU]; exact hPc, va_K.moved hW.alike hKc⟩⟩ rfl rfl hl.1 rfl (lv_room (Nat.le_of_ble_eq_true rfl)) dL_law_383 ⟨Nat.le_of_ble_eq_true rfl, Nat.le_of_ble_eq_true rfl⟩) (fun r2 hw => ?_)
  have hm := hw
  clear hw
  have heq : r1 = r2 := hc.trans hm.symm
  refine lv_icmp_eq (tgt := 853) hx hb dL_law_386 (by decide) (fun _ => ?_) (fun c9 => absurd heq c9)
  exact tail _ _ _ _ _ (Nat.le_of_ble_eq_true rfl) (Nat.le_of_ble_eq_true rfl) hS hl
set_option maxHeartbeats 4000000 in
set_option maxRecDepth 100000 in
theorem p1_linear {p : Program} {e : Env} {s : State} {m : MethodId} {below : List Frame} {meth : Method} {c : Code} (l : Launch) {q0 L : Nat} {xs : Nat → Int32} (C0 : lw_At p s m meth c q0 L xs) (h8 : L = 8) (dC : Nat → ClassId) (dI : Nat → Nat → Nat) (cB cI cS : ClassId) (h kq : Nat) (k o b a : Nat → Nat) (A : Nat → Prop) (hA : ∀ q : Nat, s.heap.size ≤ q → A q) (hbA : ¬ A q0) (hK : va_K (dC, dI) vwCl [(cI, .int), (cB, .byte), (cS, .object "GlulxHeap$State")] s) {H : Heap} {locs : List Loc} {ls : Array Slot} (hP : va_P (dC, dI) vwCl (gw h kq none k o b 0 0 0 ++ kw cB k 0 zf ++ ow cB o 0 0 zf ++ sw cB cI b 1024 0 0 (inW 8192) zf zf ++ krw cS kq (fun _ => none) ++ mw cI a 1024 0 0 0 0 0 0 (inW 8192) zf zf zf zf zf zf zf zf zf zf) H) (hD : va_D A (gw h kq none k o b 0 0 0 ++ kw cB k 0 zf ++ ow cB o 0 0 zf ++ sw cB cI b 1024 0 0 (inW 8192) zf zf ++ krw cS kq (fun _ => none) ++ mw cI a 1024 0 0 0 0 0 0 (inW 8192) zf zf zf zf zf zf zf zf zf zf)) (hS : va_S A s.heap H locs) (hl : lv_has ls 4 [(3, .int (nI 0)), (2, .ref (a 0)), (1, .ref h), (0, .ref q0)]) (tail : ∀ (H : Heap) (locs : List Loc) (ls : Array Slot) (cells slots : Nat), cells ≤ 600000 → slots ≤ 7302249 → va_S A s.heap H locs → lv_has ls 4 [(3, .int (nI 0)), (2, .ref (a 0)), (1, .ref h), (0, .ref q0)] → W p l e room_1 s m #[Value.ref q0] below meth c H locs cells slots (lw_Z below #[Value.ref q0] s) (F0 m 853 ls [])) : W p l e room_1 s m #[Value.ref q0] below meth c H locs 22 78425 (lw_Z below #[Value.ref q0] s) (F0 m 391 ls []) := by
  obtain ⟨hx, hb, hr, hml, hown, hts0, hX, hbl, hlocks, hgv⟩ := id C0
  have hts : ∀ w ∈ wsL_law, w.before #[Value.ref q0] s = true := fun w h => hts0 w (wsL_law_in w h)
  refine lv_aload_n hx hb dL_law_391 rfl (lv_at hl 2 rfl) ?_
  refine lv_aload_n hx hb dL_law_392 rfl (lv_at hl 3 rfl) ?_
  refine lv_iload_n hx hb dL_law_393 rfl (lv_at hl 0 rfl) ?_
  refine lv_iconst (v := nI 1) hx hb dL_law_394 (by decide) ?_
  refine lv_iadd hx hb dL_law_395 ?_
  refine tpi (show nI 0 + nI 1 = nI 1 by decide) ?_
  refine va_sld hx hb hX hbl hbA hS (vp_in_nI (by omega) (by omega)) dL_law_396 ?_
  refine tpi (show xs (nI 1).toNatClampNeg = xs 1 by rw [nI_clamp (by decide)]) ?_
  refine lv_aload_n hx hb dL_law_397 rfl (lv_at hl 3 rfl) ?_
  refine lv_iload_n hx hb dL_law_398 rfl (lv_at hl 0 rfl) ?_
  refine lv_iconst (v := nI 2) hx hb dL_law_399 (by decide) ?_
  refine lv_iadd hx hb dL_law_400 ?_
  refine tpi (show nI 0 + nI 2 = nI 2 by decide) ?_
  refine va_sld hx hb hX hbl hbA hS (vp_in_nI (by omega) (by omega)) dL_law_401 ?_
  refine tpi (show xs (nI 2).toNatClampNeg = xs 2 by rw [nI_clamp (by decide)]) ?_
  refine lv_aload_n hx hb dL_law_402 rfl (lv_at hl 3 rfl) ?_
  refine lv_iload_n hx hb dL_law_403 rfl (lv_at hl 0 rfl) ?_
  refine lv_iconst (v := nI 3) hx hb dL_law_404 (by decide) ?_
  refine lv_iadd hx hb dL_law_405 ?_
  refine tpi (show nI 0 + nI 3 = nI 3 by decide) ?_
  refine va_sld hx hb hX hbl hbA hS (vp_in_nI (by omega) (by omega)) dL_law_406 ?_
  refine tpi (show xs (nI 3).toNatClampNeg = xs 3 by rw [nI_clamp (by decide)]) ?_
  refine lv_aload_n hx hb dL_law_407 rfl (lv_at hl 3 rfl) ?_
  refine lv_iload_n hx hb dL_law_408 rfl (lv_at hl 0 rfl) ?_
  refine lv_iconst (v := nI 4) hx hb dL_law_409 (by decide) ?_
  refine lv_iadd hx hb dL_law_410 ?_
  refine tpi (show nI 0 + nI 4 = nI 4 by decide) ?_
  refine va_sld hx hb hX hbl hbA hS (vp_in_nI (by omega) (by omega)) dL_law_411 ?_
  refine tpi (show xs (nI 4).toNatClampNeg = xs 4 by rw [nI_clamp (by decide)]) ?_
  refine lv_aload_n hx hb dL_law_412 rfl (lv_at hl 3 rfl) ?_
  refine lv_iload_n hx hb dL_law_413 rfl (lv_at hl 0 rfl) ?_
  refine lv_iconst (v := nI 5) hx hb dL_law_414 (by decide) ?_
  refine lv_iadd hx hb dL_law_415 ?_
  refine tpi (show nI 0 + nI 5 = nI 5 by decide) ?_
  refine va_sld hx hb hX hbl hbA hS (vp_in_nI (by omega) (by omega)) dL_law_416 ?_
  refine tpi (show xs (nI 5).toNatClampNeg = xs 5 by rw [nI_clamp (by decide)]) ?_
  refine lv_aload_n hx hb dL_law_417 rfl (lv_at hl 3 rfl) ?_
  refine lv_iload_n hx hb dL_law_418 rfl (lv_at hl 0 rfl) ?_
  refine lv_bipush (v := nI 6) hx hb dL_law_419 (by decide) ?_
  refine lv_iadd hx hb dL_law_421 ?_
  refine tpi (show nI 0 + nI 6 = nI 6 by decide) ?_
  refine va_sld hx hb hX hbl hbA hS (vp_in_nI (by omega) (by omega)) dL_law_422 ?_
  refine tpi (show xs (nI 6).toNatClampNeg = xs 6 by rw [nI_clamp (by decide)]) ?_
  refine lv_aload_n hx hb dL_law_423 rfl (lv_at hl 3 rfl) ?_
  refine lv_iload_n hx hb dL_law_424 rfl (lv_at hl 0 rfl) ?_
  refine lv_bipush (v := nI 7) hx hb dL_law_425 (by decide) ?_
  refine lv_iadd hx hb dL_law_427 ?_
  refine tpi (show nI 0 + nI 7 = nI 7 by decide) ?_
  refine va_sld hx hb hX hbl hbA hS (vp_in_nI (by omega) (by omega)) dL_law_428 ?_
  refine tpi (show xs (nI 7).toNatClampNeg = xs 7 by rw [nI_clamp (by decide)]) ?_
  have hPc := hP.sub (ws' := gw h kq none k o b 0 0 0 ++ kw cB k 0 zf ++ ow cB o 0 0 zf ++ sw cB cI b 1024 0 0 (inW 8192) zf zf) [0, 1, 2, 3, 4, 5, 6, 7, 8] rfl
  have hKc := hK.sub (tys' := [(cI, .int), (cB, .byte)]) [0, 1] rfl
  have hDc := hD.sub (ws' := gw h kq none k o b 0 0 0 ++ kw cB k 0 zf ++ ow cB o 0 0 zf ++ sw cB cI b 1024 0 0 (inW 8192) zf zf) [0, 1, 2, 3, 4, 5, 6, 7, 8] (by decide) rfl
  have hFc := va_free (wc := gw h kq none k o b 0 0 0 ++ kw cB k 0 zf ++ ow cB o 0 0 zf ++ sw cB cI b 1024 0 0 (inW 8192) zf zf) hD hS hA [0, 1, 2, 3, 4, 5, 6, 7, 8] rfl
  refine va_calli (va_runV (As := [.int (xs 1), .int (xs 2), .int (xs 3), .int (xs 4), .int (xs 5), .int (xs 6), .int (xs 7)]) (rest := []) ⟨hx, hb, hml, hown, hts⟩ (c_X3_linear l dC dI cB cI h kq none k o b 0 0 0 0 zf 0 0 zf 1024 0 0 (inW 8192) zf zf H.size (xs 1) (xs 2) (xs 3) (xs 4) (xs 5) (xs 6) (xs 7) (inW_lt 8192) (zf_lt 256 (by decide)) (by decide)) (cwV 7 hts gL_law_X3_linear rfl rfl rfl (by decide +kernel) ⟨Nat.le_of_ble_eq_true rfl, Nat.le_of_ble_eq_true rfl⟩) ⟨fun a9 U g9 mk9 q9 => by obtain ⟨q0, q1, qP, qK, qD⟩ := q9; exact ⟨q0, q1, qP, va_K.moved (u := U) (U := U.calling g9 mk9 a9) (Vm.Alike.refl U.vm) qK, qD⟩, va_recv hKc hPc (ci := 3) (q0 := 0) rfl rfl, fun U hU hW => ⟨rfl, by rw [hU], by rw [hU]; exact hPc, va_K.moved hW.alike hKc, hDc.weaken (fun _ _ _ _ => trivial)⟩⟩ rfl rfl hl.1 rfl (lv_room (Nat.le_of_ble_eq_true rfl)) dL_law_429 ⟨Nat.le_of_ble_eq_true rfl, Nat.le_of_ble_eq_true rfl⟩) hS (fun q _ h => hFc q h) hFc (fun r1 u t H1 locs ht9 hvm9 hw hB hz9 hk9 hS => ?_)
  try dsimp only at hw
  obtain ⟨hP1, hK1, hD1⟩ := hB
  rw [ht9] at hP1
  obtain ⟨hP, hD⟩ := va_join (wr := mw cI a 1024 0 0 0 0 0 0 (inW 8192) zf zf zf zf zf zf zf zf zf zf) hP hD [0, 1, 2, 3, 4, 5, 6, 7, 8] [10, 11, 12, 13, 14, 15, 16, 17, 18, 19, 20, 21] rfl rfl (by decide) (by decide) hk9 hFc hP1 hD1
  have hP := hP.sub (ws' := mw cI a 1024 0 0 0 0 0 0 (inW 8192) zf zf zf zf zf zf zf zf zf zf) [0, 1, 2, 3, 4, 5, 6, 7, 8, 9, 10, 11] rfl
  have hD := hD.sub (ws' := mw cI a 1024 0 0 0 0 0 0 (inW 8192) zf zf zf zf zf zf zf zf zf zf) [0, 1, 2, 3, 4, 5, 6, 7, 8, 9, 10, 11] (by decide) rfl
  generalize H1 = H at hP hS ⊢
  have hc := hw
  clear hw
  refine lv_aload_n hx hb dL_law_432 rfl (lv_at hl 1 rfl) ?_
  refine lv_aload_n hx hb dL_law_433 rfl (lv_at hl 3 rfl) ?_
  refine lv_iload_n hx hb dL_law_434 rfl (lv_at hl 0 rfl) ?_
  refine lv_iconst (v := nI 1) hx hb dL_law_435 (by decide) ?_
  refine lv_iadd hx hb dL_law_436 ?_
  refine tpi (show nI 0 + nI 1 = nI 1 by decide) ?_
  refine va_sld hx hb hX hbl hbA hS (vp_in_nI (by omega) (by omega)) dL_law_437 ?_
  refine tpi (show xs (nI 1).toNatClampNeg = xs 1 by rw [nI_clamp (by decide)]) ?_
  refine lv_aload_n hx hb dL_law_438 rfl (lv_at hl 3 rfl) ?_
  refine lv_iload_n hx hb dL_law_439 rfl (lv_at hl 0 rfl) ?_
  refine lv_iconst (v := nI 2) hx hb dL_law_440 (by decide) ?_
  refine lv_iadd hx hb dL_law_441 ?_
  refine tpi (show nI 0 + nI 2 = nI 2 by decide) ?_
  refine va_sld hx hb hX hbl hbA hS (vp_in_nI (by omega) (by omega)) dL_law_442 ?_
  refine tpi (show xs (nI 2).toNatClampNeg = xs 2 by rw [nI_clamp (by decide)]) ?_
  refine lv_aload_n hx hb dL_law_443 rfl (lv_at hl 3 rfl) ?_
  refine lv_iload_n hx hb dL_law_444 rfl (lv_at hl 0 rfl) ?_
  refine lv_iconst (v := nI 3) hx hb dL_law_445 (by decide) ?_
  refine lv_iadd hx hb dL_law_446 ?_
  refine tpi (show nI 0 + nI 3 = nI 3 by decide) ?_
  refine va_sld hx hb hX hbl hbA hS (vp_in_nI (by omega) (by omega)) dL_law_447 ?_
  refine tpi (show xs (nI 3).toNatClampNeg = xs 3 by rw [nI_clamp (by decide)]) ?_
  refine lv_aload_n hx hb dL_law_448 rfl (lv_at hl 3 rfl) ?_
  refine lv_iload_n hx hb dL_law_449 rfl (lv_at hl 0 rfl) ?_
  refine lv_iconst (v := nI 4) hx hb dL_law_450 (by decide) ?_
  refine lv_iadd hx hb dL_law_451 ?_
  refine tpi (show nI 0 + nI 4 = nI 4 by decide) ?_
  refine va_sld hx hb hX hbl hbA hS (vp_in_nI (by omega) (by omega)) dL_law_452 ?_
  refine tpi (show xs (nI 4).toNatClampNeg = xs 4 by rw [nI_clamp (by decide)]) ?_
  refine lv_aload_n hx hb dL_law_453 rfl (lv_at hl 3 rfl) ?_
  refine lv_iload_n hx hb dL_law_454 rfl (lv_at hl 0 rfl) ?_
  refine lv_iconst (v := nI 5) hx hb dL_law_455 (by decide) ?_
  refine lv_iadd hx hb dL_law_456 ?_
  refine tpi (show nI 0 + nI 5 = nI 5 by decide) ?_
  refine va_sld hx hb hX hbl hbA hS (vp_in_nI (by omega) (by omega)) dL_law_457 ?_
  refine tpi (show xs (nI 5).toNatClampNeg = xs 5 by rw [nI_clamp (by decide)]) ?_
  refine lv_aload_n hx hb dL_law_458 rfl (lv_at hl 3 rfl) ?_
  refine lv_iload_n hx hb dL_law_459 rfl (lv_at hl 0 rfl) ?_
  refine lv_bipush (v := nI 6) hx hb dL_law_460 (by decide) ?_
  refine lv_iadd hx hb dL_law_462 ?_
  refine tpi (show nI 0 + nI 6 = nI 6 by decide) ?_
  refine va_sld hx hb hX hbl hbA hS (vp_in_nI (by omega) (by omega)) dL_law_463 ?_
  refine tpi (show xs (nI 6).toNatClampNeg = xs 6 by rw [nI_clamp (by decide)]) ?_
  refine lv_aload_n hx hb dL_law_464 rfl (lv_at hl 3 rfl) ?_
  refine lv_iload_n hx hb dL_law_465 rfl (lv_at hl 0 rfl) ?_
  refine lv_bipush (v := nI 7) hx hb dL_law_466 (by decide) ?_
  refine lv_iadd hx hb dL_law_468 ?_
  refine tpi (show nI 0 + nI 7 = nI 7 by decide) ?_
  refine va_sld hx hb hX hbl hbA hS (vp_in_nI (by omega) (by omega)) dL_law_469 ?_
  refine tpi (show xs (nI 7).toNatClampNeg = xs 7 by rw [nI_clamp (by decide)]) ?_
  have hPc := hP.sub (ws' := mw cI a 1024 0 0 0 0 0 0 (inW 8192) zf zf zf zf zf zf zf zf zf zf) [0, 1, 2, 3, 4, 5, 6, 7, 8, 9, 10, 11] rfl
  have hKc := hK.sub (tys' := [(cI, .int)]) [0] rfl
  have hDc := hD.sub (ws' := mw cI a 1024 0 0 0 0 0 0 (inW 8192) zf zf zf zf zf zf zf zf zf zf) [0, 1, 2, 3, 4, 5, 6, 7, 8, 9, 10, 11] (by decide) rfl
  have hFc := va_free (wc := mw cI a 1024 0 0 0 0 0 0 (inW 8192) zf zf zf zf zf zf zf zf zf zf) hD hS hA [0, 1, 2, 3, 4, 5, 6, 7, 8, 9, 10, 11] rfl
  refine va_calli (va_runV (As := [.int (xs 1), .int (xs 2), .int (xs 3), .int (xs 4), .int (xs 5), .int (xs 6), .int (xs 7)]) (rest := [.int r1]) ⟨hx, hb, hml, hown, hts⟩ (c_X4_linear l dC dI cI a 1024 0 0 0 0 0 0 (inW 8192) zf zf zf zf zf zf zf zf zf zf H.size (xs 1) (xs 2) (xs 3) (xs 4) (xs 5) (xs 6) (xs 7) (inW_lt 8192) (zf_lt 256 (by decide)) (by decide)) (cwV 7 hts gL_law_X4_linear rfl rfl rfl (by decide +kernel) ⟨Nat.le_of_ble_eq_true rfl, Nat.le_of_ble_eq_true rfl⟩) ⟨fun a9 U g9 mk9 q9 => by obtain ⟨q0, q1, qP, qK, qD⟩ := q9; exact ⟨q0, q1, qP, va_K.moved (u := U) (U := U.calling g9 mk9 a9) (Vm.Alike.refl U.vm) qK, qD⟩, va_recv hKc hPc (ci := 4) (q0 := 0) rfl rfl, fun U hU hW => ⟨rfl, by rw [hU], by rw [hU]; exact hPc, va_K.moved hW.alike hKc, hDc.weaken (fun _ _ _ _ => trivial)⟩⟩ rfl rfl hl.1 rfl (lv_room (Nat.le_of_ble_eq_true rfl)) dL_law_470 ⟨Nat.le_of_ble_eq_true rfl, Nat.le_of_ble_eq_true rfl⟩) hS (fun q _ h => hFc q h) hFc (fun r2 u t H1 locs ht9 hvm9 hw hB hz9 hk9 hS => ?_)
  try dsimp only at hw
  generalize H1 = H at hS ⊢
  have hm := hw
  clear hw
  have heq : r1 = r2 := hc.trans hm.symm
  refine lv_icmp_eq (tgt := 853) hx hb dL_law_473 (by decide) (fun _ => ?_) (fun c9 => absurd heq c9)
  exact tail _ _ _ _ _ (Nat.le_of_ble_eq_true rfl) (Nat.le_of_ble_eq_true rfl) hS hl
set_option maxHeartbeats 4000000 in
set_option maxRecDepth 100000 in
theorem p1_binary {p : Program} {e : Env} {s : State} {m : MethodId} {below : List Frame} {meth : Method} {c : Code} (l : Launch) {q0 L : Nat} {xs : Nat → Int32} (C0 : lw_At p s m meth c q0 L xs) (h8 : L = 8) (dC : Nat → ClassId) (dI : Nat → Nat → Nat) (cB cI cS : ClassId) (h kq : Nat) (k o b a : Nat → Nat) (A : Nat → Prop) (hA : ∀ q : Nat, s.heap.size ≤ q → A q) (hbA : ¬ A q0) (hK : va_K (dC, dI) vwCl [(cI, .int), (cB, .byte), (cS, .object "GlulxHeap$State")] s) {H : Heap} {locs : List Loc} {ls : Array Slot} (hP : va_P (dC, dI) vwCl (gw h kq none k o b 0 0 0 ++ kw cB k 0 zf ++ ow cB o 0 0 zf ++ sw cB cI b 1024 0 0 (inW 8192) zf zf ++ krw cS kq (fun _ => none) ++ mw cI a 1024 0 0 0 0 0 0 (inW 8192) zf zf zf zf zf zf zf zf zf zf) H) (hD : va_D A (gw h kq none k o b 0 0 0 ++ kw cB k 0 zf ++ ow cB o 0 0 zf ++ sw cB cI b 1024 0 0 (inW 8192) zf zf ++ krw cS kq (fun _ => none) ++ mw cI a 1024 0 0 0 0 0 0 (inW 8192) zf zf zf zf zf zf zf zf zf zf)) (hS : va_S A s.heap H locs) (hl : lv_has ls 4 [(3, .int (nI 0)), (2, .ref (a 0)), (1, .ref h), (0, .ref q0)]) (tail : ∀ (H : Heap) (locs : List Loc) (ls : Array Slot) (cells slots : Nat), cells ≤ 600000 → slots ≤ 7302249 → va_S A s.heap H locs → lv_has ls 4 [(3, .int (nI 0)), (2, .ref (a 0)), (1, .ref h), (0, .ref q0)] → W p l e room_1 s m #[Value.ref q0] below meth c H locs cells slots (lw_Z below #[Value.ref q0] s) (F0 m 853 ls [])) : W p l e room_1 s m #[Value.ref q0] below meth c H locs 22 78425 (lw_Z below #[Value.ref q0] s) (F0 m 478 ls []) := by
  obtain ⟨hx, hb, hr, hml, hown, hts0, hX, hbl, hlocks, hgv⟩ := id C0
  have hts : ∀ w ∈ wsL_law, w.before #[Value.ref q0] s = true := fun w h => hts0 w (wsL_law_in w h)
  refine lv_aload_n hx hb dL_law_478 rfl (lv_at hl 2 rfl) ?_
  refine lv_aload_n hx hb dL_law_479 rfl (lv_at hl 3 rfl) ?_
  refine lv_iload_n hx hb dL_law_480 rfl (lv_at hl 0 rfl) ?_
  refine lv_iconst (v := nI 1) hx hb dL_law_481 (by decide) ?_
  refine lv_iadd hx hb dL_law_482 ?_
  refine tpi (show nI 0 + nI 1 = nI 1 by decide) ?_
  refine va_sld hx hb hX hbl hbA hS (vp_in_nI (by omega) (by omega)) dL_law_483 ?_
  refine tpi (show xs (nI 1).toNatClampNeg = xs 1 by rw [nI_clamp (by decide)]) ?_
  refine lv_aload_n hx hb dL_law_484 rfl (lv_at hl 3 rfl) ?_
  refine lv_iload_n hx hb dL_law_485 rfl (lv_at hl 0 rfl) ?_
  refine lv_iconst (v := nI 2) hx hb dL_law_486 (by decide) ?_
  refine lv_iadd hx hb dL_law_487 ?_
  refine tpi (show nI 0 + nI 2 = nI 2 by decide) ?_
  refine va_sld hx hb hX hbl hbA hS (vp_in_nI (by omega) (by omega)) dL_law_488 ?_
  refine tpi (show xs (nI 2).toNatClampNeg = xs 2 by rw [nI_clamp (by decide)]) ?_
  refine lv_aload_n hx hb dL_law_489 rfl (lv_at hl 3 rfl) ?_
  refine lv_iload_n hx hb dL_law_490 rfl (lv_at hl 0 rfl) ?_
  refine lv_iconst (v := nI 3) hx hb dL_law_491 (by decide) ?_
  refine lv_iadd hx hb dL_law_492 ?_
  refine tpi (show nI 0 + nI 3 = nI 3 by decide) ?_
  refine va_sld hx hb hX hbl hbA hS (vp_in_nI (by omega) (by omega)) dL_law_493 ?_
  refine tpi (show xs (nI 3).toNatClampNeg = xs 3 by rw [nI_clamp (by decide)]) ?_
  refine lv_aload_n hx hb dL_law_494 rfl (lv_at hl 3 rfl) ?_
  refine lv_iload_n hx hb dL_law_495 rfl (lv_at hl 0 rfl) ?_
  refine lv_iconst (v := nI 4) hx hb dL_law_496 (by decide) ?_
  refine lv_iadd hx hb dL_law_497 ?_
  refine tpi (show nI 0 + nI 4 = nI 4 by decide) ?_
  refine va_sld hx hb hX hbl hbA hS (vp_in_nI (by omega) (by omega)) dL_law_498 ?_
  refine tpi (show xs (nI 4).toNatClampNeg = xs 4 by rw [nI_clamp (by decide)]) ?_
  refine lv_aload_n hx hb dL_law_499 rfl (lv_at hl 3 rfl) ?_
  refine lv_iload_n hx hb dL_law_500 rfl (lv_at hl 0 rfl) ?_
  refine lv_iconst (v := nI 5) hx hb dL_law_501 (by decide) ?_
  refine lv_iadd hx hb dL_law_502 ?_
  refine tpi (show nI 0 + nI 5 = nI 5 by decide) ?_
  refine va_sld hx hb hX hbl hbA hS (vp_in_nI (by omega) (by omega)) dL_law_503 ?_
  refine tpi (show xs (nI 5).toNatClampNeg = xs 5 by rw [nI_clamp (by decide)]) ?_
  refine lv_aload_n hx hb dL_law_504 rfl (lv_at hl 3 rfl) ?_
  refine lv_iload_n hx hb dL_law_505 rfl (lv_at hl 0 rfl) ?_
  refine lv_bipush (v := nI 6) hx hb dL_law_506 (by decide) ?_
  refine lv_iadd hx hb dL_law_508 ?_
  refine tpi (show nI 0 + nI 6 = nI 6 by decide) ?_
  refine va_sld hx hb hX hbl hbA hS (vp_in_nI (by omega) (by omega)) dL_law_509 ?_
  refine tpi (show xs (nI 6).toNatClampNeg = xs 6 by rw [nI_clamp (by decide)]) ?_
  refine lv_aload_n hx hb dL_law_510 rfl (lv_at hl 3 rfl) ?_
  refine lv_iload_n hx hb dL_law_511 rfl (lv_at hl 0 rfl) ?_
  refine lv_bipush (v := nI 7) hx hb dL_law_512 (by decide) ?_
  refine lv_iadd hx hb dL_law_514 ?_
  refine tpi (show nI 0 + nI 7 = nI 7 by decide) ?_
  refine va_sld hx hb hX hbl hbA hS (vp_in_nI (by omega) (by omega)) dL_law_515 ?_
  refine tpi (show xs (nI 7).toNatClampNeg = xs 7 by rw [nI_clamp (by decide)]) ?_
  have hPc := hP.sub (ws' := gw h kq none k o b 0 0 0 ++ kw cB k 0 zf ++ ow cB o 0 0 zf ++ sw cB cI b 1024 0 0 (inW 8192) zf zf) [0, 1, 2, 3, 4, 5, 6, 7, 8] rfl
  have hKc := hK.sub (tys' := [(cI, .int), (cB, .byte)]) [0, 1] rfl
  have hDc := hD.sub (ws' := gw h kq none k o b 0 0 0 ++ kw cB k 0 zf ++ ow cB o 0 0 zf ++ sw cB cI b 1024 0 0 (inW 8192) zf zf) [0, 1, 2, 3, 4, 5, 6, 7, 8] (by decide) rfl
  have hFc := va_free (wc := gw h kq none k o b 0 0 0 ++ kw cB k 0 zf ++ ow cB o 0 0 zf ++ sw cB cI b 1024 0 0 (inW 8192) zf zf) hD hS hA [0, 1, 2, 3, 4, 5, 6, 7, 8] rfl
  refine va_calli (va_runV (As := [.int (xs 1), .int (xs 2), .int (xs 3), .int (xs 4), .int (xs 5), .int (xs 6), .int (xs 7)]) (rest := []) ⟨hx, hb, hml, hown, hts⟩ (c_X3_binary l dC dI cB cI h kq none k o b 0 0 0 0 zf 0 0 zf 1024 0 0 (inW 8192) zf zf H.size (xs 1) (xs 2) (xs 3) (xs 4) (xs 5) (xs 6) (xs 7) (inW_lt 8192) (zf_lt 256 (by decide)) (by decide)) (cwV 7 hts gL_law_X3_binary rfl rfl rfl (by decide +kernel) ⟨Nat.le_of_ble_eq_true rfl, Nat.le_of_ble_eq_true rfl⟩) ⟨fun a9 U g9 mk9 q9 => by obtain ⟨q0, q1, qP, qK, qD⟩ := q9; exact ⟨q0, q1, qP, va_K.moved (u := U) (U := U.calling g9 mk9 a9) (Vm.Alike.refl U.vm) qK, qD⟩, va_recv hKc hPc (ci := 3) (q0 := 0) rfl rfl, fun U hU hW => ⟨rfl, by rw [hU], by rw [hU]; exact hPc, va_K.moved hW.alike hKc, hDc.weaken (fun _ _ _ _ => trivial)⟩⟩ rfl rfl hl.1 rfl (lv_room (Nat.le_of_ble_eq_true rfl)) dL_law_516 ⟨Nat.le_of_ble_eq_true rfl, Nat.le_of_ble_eq_true rfl⟩) hS (fun q _ h => hFc q h) hFc (fun r1 u t H1 locs ht9 hvm9 hw hB hz9 hk9 hS => ?_)
  try dsimp only at hw
  obtain ⟨hP1, hK1, hD1⟩ := hB
  rw [ht9] at hP1
  obtain ⟨hP, hD⟩ := va_join (wr := mw cI a 1024 0 0 0 0 0 0 (inW 8192) zf zf zf zf zf zf zf zf zf zf) hP hD [0, 1, 2, 3, 4, 5, 6, 7, 8] [10, 11, 12, 13, 14, 15, 16, 17, 18, 19, 20, 21] rfl rfl (by decide) (by decide) hk9 hFc hP1 hD1
  have hP := hP.sub (ws' := mw cI a 1024 0 0 0 0 0 0 (inW 8192) zf zf zf zf zf zf zf zf zf zf) [0, 1, 2, 3, 4, 5, 6, 7, 8, 9, 10, 11] rfl
  have hD := hD.sub (ws' := mw cI a 1024 0 0 0 0 0 0 (inW 8192) zf zf zf zf zf zf zf zf zf zf) [0, 1, 2, 3, 4, 5, 6, 7, 8, 9, 10, 11] (by decide) rfl
  generalize H1 = H at hP hS ⊢
  have hc := hw
  clear hw
  refine lv_aload_n hx hb dL_law_519 rfl (lv_at hl 1 rfl) ?_
  refine lv_aload_n hx hb dL_law_520 rfl (lv_at hl 3 rfl) ?_
  refine lv_iload_n hx hb dL_law_521 rfl (lv_at hl 0 rfl) ?_
  refine lv_iconst (v := nI 1) hx hb dL_law_522 (by decide) ?_
  refine lv_iadd hx hb dL_law_523 ?_
  refine tpi (show nI 0 + nI 1 = nI 1 by decide) ?_
  refine va_sld hx hb hX hbl hbA hS (vp_in_nI (by omega) (by omega)) dL_law_524 ?_
  refine tpi (show xs (nI 1).toNatClampNeg = xs 1 by rw [nI_clamp (by decide)]) ?_
  refine lv_aload_n hx hb dL_law_525 rfl (lv_at hl 3 rfl) ?_
  refine lv_iload_n hx hb dL_law_526 rfl (lv_at hl 0 rfl) ?_
  refine lv_iconst (v := nI 2) hx hb dL_law_527 (by decide) ?_
  refine lv_iadd hx hb dL_law_528 ?_
  refine tpi (show nI 0 + nI 2 = nI 2 by decide) ?_
  refine va_sld hx hb hX hbl hbA hS (vp_in_nI (by omega) (by omega)) dL_law_529 ?_
  refine tpi (show xs (nI 2).toNatClampNeg = xs 2 by rw [nI_clamp (by decide)]) ?_
  refine lv_aload_n hx hb dL_law_530 rfl (lv_at hl 3 rfl) ?_
  refine lv_iload_n hx hb dL_law_531 rfl (lv_at hl 0 rfl) ?_
  refine lv_iconst (v := nI 3) hx hb dL_law_532 (by decide) ?_
  refine lv_iadd hx hb dL_law_533 ?_
  refine tpi (show nI 0 + nI 3 = nI 3 by decide) ?_
  refine va_sld hx hb hX hbl hbA hS (vp_in_nI (by omega) (by omega)) dL_law_534 ?_
  refine tpi (show xs (nI 3).toNatClampNeg = xs 3 by rw [nI_clamp (by decide)]) ?_
  refine lv_aload_n hx hb dL_law_535 rfl (lv_at hl 3 rfl) ?_
  refine lv_iload_n hx hb dL_law_536 rfl (lv_at hl 0 rfl) ?_
  refine lv_iconst (v := nI 4) hx hb dL_law_537 (by decide) ?_
  refine lv_iadd hx hb dL_law_538 ?_
  refine tpi (show nI 0 + nI 4 = nI 4 by decide) ?_
  refine va_sld hx hb hX hbl hbA hS (vp_in_nI (by omega) (by omega)) dL_law_539 ?_
  refine tpi (show xs (nI 4).toNatClampNeg = xs 4 by rw [nI_clamp (by decide)]) ?_
  refine lv_aload_n hx hb dL_law_540 rfl (lv_at hl 3 rfl) ?_
  refine lv_iload_n hx hb dL_law_541 rfl (lv_at hl 0 rfl) ?_
  refine lv_iconst (v := nI 5) hx hb dL_law_542 (by decide) ?_
  refine lv_iadd hx hb dL_law_543 ?_
  refine tpi (show nI 0 + nI 5 = nI 5 by decide) ?_
  refine va_sld hx hb hX hbl hbA hS (vp_in_nI (by omega) (by omega)) dL_law_544 ?_
  refine tpi (show xs (nI 5).toNatClampNeg = xs 5 by rw [nI_clamp (by decide)]) ?_
  refine lv_aload_n hx hb dL_law_545 rfl (lv_at hl 3 rfl) ?_
  refine lv_iload_n hx hb dL_law_546 rfl (lv_at hl 0 rfl) ?_
  refine lv_bipush (v := nI 6) hx hb dL_law_547 (by decide) ?_
  refine lv_iadd hx hb dL_law_549 ?_
  refine tpi (show nI 0 + nI 6 = nI 6 by decide) ?_
  refine va_sld hx hb hX hbl hbA hS (vp_in_nI (by omega) (by omega)) dL_law_550 ?_
  refine tpi (show xs (nI 6).toNatClampNeg = xs 6 by rw [nI_clamp (by decide)]) ?_
  refine lv_aload_n hx hb dL_law_551 rfl (lv_at hl 3 rfl) ?_
  refine lv_iload_n hx hb dL_law_552 rfl (lv_at hl 0 rfl) ?_
  refine lv_bipush (v := nI 7) hx hb dL_law_553 (by decide) ?_
  refine lv_iadd hx hb dL_law_555 ?_
  refine tpi (show nI 0 + nI 7 = nI 7 by decide) ?_
  refine va_sld hx hb hX hbl hbA hS (vp_in_nI (by omega) (by omega)) dL_law_556 ?_
  refine tpi (show xs (nI 7).toNatClampNeg = xs 7 by rw [nI_clamp (by decide)]) ?_
  have hPc := hP.sub (ws' := mw cI a 1024 0 0 0 0 0 0 (inW 8192) zf zf zf zf zf zf zf zf zf zf) [0, 1, 2, 3, 4, 5, 6, 7, 8, 9, 10, 11] rfl
  have hKc := hK.sub (tys' := [(cI, .int)]) [0] rfl
  have hDc := hD.sub (ws' := mw cI a 1024 0 0 0 0 0 0 (inW 8192) zf zf zf zf zf zf zf zf zf zf) [0, 1, 2, 3, 4, 5, 6, 7, 8, 9, 10, 11] (by decide) rfl
  have hFc := va_free (wc := mw cI a 1024 0 0 0 0 0 0 (inW 8192) zf zf zf zf zf zf zf zf zf zf) hD hS hA [0, 1, 2, 3, 4, 5, 6, 7, 8, 9, 10, 11] rfl
  refine va_calli (va_runV (As := [.int (xs 1), .int (xs 2), .int (xs 3), .int (xs 4), .int (xs 5), .int (xs 6), .int (xs 7)]) (rest := [.int r1]) ⟨hx, hb, hml, hown, hts⟩ (c_X4_binary l dC dI cI a 1024 0 0 0 0 0 0 (inW 8192) zf zf zf zf zf zf zf zf zf zf H.size (xs 1) (xs 2) (xs 3) (xs 4) (xs 5) (xs 6) (xs 7) (inW_lt 8192) (zf_lt 256 (by decide)) (by decide)) (cwV 7 hts gL_law_X4_binary rfl rfl rfl (by decide +kernel) ⟨Nat.le_of_ble_eq_true rfl, Nat.le_of_ble_eq_true rfl⟩) ⟨fun a9 U g9 mk9 q9 => by obtain ⟨q0, q1, qP, qK, qD⟩ := q9; exact ⟨q0, q1, qP, va_K.moved (u := U) (U := U.calling g9 mk9 a9) (Vm.Alike.refl U.vm) qK, qD⟩, va_recv hKc hPc (ci := 4) (q0 := 0) rfl rfl, fun U hU hW => ⟨rfl, by rw [hU], by rw [hU]; exact hPc, va_K.moved hW.alike hKc, hDc.weaken (fun _ _ _ _ => trivial)⟩⟩ rfl rfl hl.1 rfl (lv_room (Nat.le_of_ble_eq_true rfl)) dL_law_557 ⟨Nat.le_of_ble_eq_true rfl, Nat.le_of_ble_eq_true rfl⟩) hS (fun q _ h => hFc q h) hFc (fun r2 u t H1 locs ht9 hvm9 hw hB hz9 hk9 hS => ?_)
  try dsimp only at hw
  generalize H1 = H at hS ⊢
  have hm := hw
  clear hw
  have heq : r1 = r2 := hc.trans hm.symm
  refine lv_icmp_eq (tgt := 853) hx hb dL_law_560 (by decide) (fun _ => ?_) (fun c9 => absurd heq c9)
  exact tail _ _ _ _ _ (Nat.le_of_ble_eq_true rfl) (Nat.le_of_ble_eq_true rfl) hS hl
set_option maxHeartbeats 4000000 in
set_option maxRecDepth 100000 in
theorem p1_linked {p : Program} {e : Env} {s : State} {m : MethodId} {below : List Frame} {meth : Method} {c : Code} (l : Launch) {q0 L : Nat} {xs : Nat → Int32} (C0 : lw_At p s m meth c q0 L xs) (h8 : L = 8) (dC : Nat → ClassId) (dI : Nat → Nat → Nat) (cB cI cS : ClassId) (h kq : Nat) (k o b a : Nat → Nat) (A : Nat → Prop) (hA : ∀ q : Nat, s.heap.size ≤ q → A q) (hbA : ¬ A q0) (hK : va_K (dC, dI) vwCl [(cI, .int), (cB, .byte), (cS, .object "GlulxHeap$State")] s) {H : Heap} {locs : List Loc} {ls : Array Slot} (hP : va_P (dC, dI) vwCl (gw h kq none k o b 0 0 0 ++ kw cB k 0 zf ++ ow cB o 0 0 zf ++ sw cB cI b 1024 0 0 (inW 8192) zf zf ++ krw cS kq (fun _ => none) ++ mw cI a 1024 0 0 0 0 0 0 (inW 8192) zf zf zf zf zf zf zf zf zf zf) H) (hD : va_D A (gw h kq none k o b 0 0 0 ++ kw cB k 0 zf ++ ow cB o 0 0 zf ++ sw cB cI b 1024 0 0 (inW 8192) zf zf ++ krw cS kq (fun _ => none) ++ mw cI a 1024 0 0 0 0 0 0 (inW 8192) zf zf zf zf zf zf zf zf zf zf)) (hS : va_S A s.heap H locs) (hl : lv_has ls 4 [(3, .int (nI 0)), (2, .ref (a 0)), (1, .ref h), (0, .ref q0)]) (tail : ∀ (H : Heap) (locs : List Loc) (ls : Array Slot) (cells slots : Nat), cells ≤ 600000 → slots ≤ 7302249 → va_S A s.heap H locs → lv_has ls 4 [(3, .int (nI 0)), (2, .ref (a 0)), (1, .ref h), (0, .ref q0)] → W p l e room_1 s m #[Value.ref q0] below meth c H locs cells slots (lw_Z below #[Value.ref q0] s) (F0 m 853 ls [])) : W p l e room_1 s m #[Value.ref q0] below meth c H locs 22 78425 (lw_Z below #[Value.ref q0] s) (F0 m 565 ls []) := by
  obtain ⟨hx, hb, hr, hml, hown, hts0, hX, hbl, hlocks, hgv⟩ := id C0
  have hts : ∀ w ∈ wsL_law, w.before #[Value.ref q0] s = true := fun w h => hts0 w (wsL_law_in w h)
  refine lv_aload_n hx hb dL_law_565 rfl (lv_at hl 2 rfl) ?_
  refine lv_aload_n hx hb dL_law_566 rfl (lv_at hl 3 rfl) ?_
  refine lv_iload_n hx hb dL_law_567 rfl (lv_at hl 0 rfl) ?_
  refine lv_iconst (v := nI 1) hx hb dL_law_568 (by decide) ?_
  refine lv_iadd hx hb dL_law_569 ?_
  refine tpi (show nI 0 + nI 1 = nI 1 by decide) ?_
  refine va_sld hx hb hX hbl hbA hS (vp_in_nI (by omega) (by omega)) dL_law_570 ?_
  refine tpi (show xs (nI 1).toNatClampNeg = xs 1 by rw [nI_clamp (by decide)]) ?_
  refine lv_aload_n hx hb dL_law_571 rfl (lv_at hl 3 rfl) ?_
  refine lv_iload_n hx hb dL_law_572 rfl (lv_at hl 0 rfl) ?_
  refine lv_iconst (v := nI 2) hx hb dL_law_573 (by decide) ?_
  refine lv_iadd hx hb dL_law_574 ?_
  refine tpi (show nI 0 + nI 2 = nI 2 by decide) ?_
  refine va_sld hx hb hX hbl hbA hS (vp_in_nI (by omega) (by omega)) dL_law_575 ?_
  refine tpi (show xs (nI 2).toNatClampNeg = xs 2 by rw [nI_clamp (by decide)]) ?_
  refine lv_aload_n hx hb dL_law_576 rfl (lv_at hl 3 rfl) ?_
  refine lv_iload_n hx hb dL_law_577 rfl (lv_at hl 0 rfl) ?_
  refine lv_iconst (v := nI 3) hx hb dL_law_578 (by decide) ?_
  refine lv_iadd hx hb dL_law_579 ?_
  refine tpi (show nI 0 + nI 3 = nI 3 by decide) ?_
  refine va_sld hx hb hX hbl hbA hS (vp_in_nI (by omega) (by omega)) dL_law_580 ?_
  refine tpi (show xs (nI 3).toNatClampNeg = xs 3 by rw [nI_clamp (by decide)]) ?_
  refine lv_aload_n hx hb dL_law_581 rfl (lv_at hl 3 rfl) ?_
  refine lv_iload_n hx hb dL_law_582 rfl (lv_at hl 0 rfl) ?_
  refine lv_iconst (v := nI 4) hx hb dL_law_583 (by decide) ?_
  refine lv_iadd hx hb dL_law_584 ?_
  refine tpi (show nI 0 + nI 4 = nI 4 by decide) ?_
  refine va_sld hx hb hX hbl hbA hS (vp_in_nI (by omega) (by omega)) dL_law_585 ?_
  refine tpi (show xs (nI 4).toNatClampNeg = xs 4 by rw [nI_clamp (by decide)]) ?_
  refine lv_aload_n hx hb dL_law_586 rfl (lv_at hl 3 rfl) ?_
  refine lv_iload_n hx hb dL_law_587 rfl (lv_at hl 0 rfl) ?_
  refine lv_iconst (v := nI 5) hx hb dL_law_588 (by decide) ?_
  refine lv_iadd hx hb dL_law_589 ?_
  refine tpi (show nI 0 + nI 5 = nI 5 by decide) ?_
  refine va_sld hx hb hX hbl hbA hS (vp_in_nI (by omega) (by omega)) dL_law_590 ?_
  refine tpi (show xs (nI 5).toNatClampNeg = xs 5 by rw [nI_clamp (by decide)]) ?_
  refine lv_aload_n hx hb dL_law_591 rfl (lv_at hl 3 rfl) ?_
  refine lv_iload_n hx hb dL_law_592 rfl (lv_at hl 0 rfl) ?_
  refine lv_bipush (v := nI 6) hx hb dL_law_593 (by decide) ?_
  refine lv_iadd hx hb dL_law_595 ?_
  refine tpi (show nI 0 + nI 6 = nI 6 by decide) ?_
  refine va_sld hx hb hX hbl hbA hS (vp_in_nI (by omega) (by omega)) dL_law_596 ?_
  refine tpi (show xs (nI 6).toNatClampNeg = xs 6 by rw [nI_clamp (by decide)]) ?_
  have hPc := hP.sub (ws' := gw h kq none k o b 0 0 0 ++ kw cB k 0 zf ++ ow cB o 0 0 zf ++ sw cB cI b 1024 0 0 (inW 8192) zf zf) [0, 1, 2, 3, 4, 5, 6, 7, 8] rfl
  have hKc := hK.sub (tys' := [(cI, .int), (cB, .byte)]) [0, 1] rfl
  have hDc := hD.sub (ws' := gw h kq none k o b 0 0 0 ++ kw cB k 0 zf ++ ow cB o 0 0 zf ++ sw cB cI b 1024 0 0 (inW 8192) zf zf) [0, 1, 2, 3, 4, 5, 6, 7, 8] (by decide) rfl
  have hFc := va_free (wc := gw h kq none k o b 0 0 0 ++ kw cB k 0 zf ++ ow cB o 0 0 zf ++ sw cB cI b 1024 0 0 (inW 8192) zf zf) hD hS hA [0, 1, 2, 3, 4, 5, 6, 7, 8] rfl
  refine va_calli (va_runV (As := [.int (xs 1), .int (xs 2), .int (xs 3), .int (xs 4), .int (xs 5), .int (xs 6)]) (rest := []) ⟨hx, hb, hml, hown, hts⟩ (c_X3_linked l dC dI cB cI h kq none k o b 0 0 0 0 zf 0 0 zf 1024 0 0 (inW 8192) zf zf H.size (xs 1) (xs 2) (xs 3) (xs 4) (xs 5) (xs 6) (inW_lt 8192) (zf_lt 256 (by decide)) (by decide)) (cwV 6 hts gL_law_X3_linked rfl rfl rfl (by decide +kernel) ⟨Nat.le_of_ble_eq_true rfl, Nat.le_of_ble_eq_true rfl⟩) ⟨fun a9 U g9 mk9 q9 => by obtain ⟨q0, q1, qP, qK, qD⟩ := q9; exact ⟨q0, q1, qP, va_K.moved (u := U) (U := U.calling g9 mk9 a9) (Vm.Alike.refl U.vm) qK, qD⟩, va_recv hKc hPc (ci := 3) (q0 := 0) rfl rfl, fun U hU hW => ⟨rfl, by rw [hU], by rw [hU]; exact hPc, va_K.moved hW.alike hKc, hDc.weaken (fun _ _ _ _ => trivial)⟩⟩ rfl rfl hl.1 rfl (lv_room (Nat.le_of_ble_eq_true rfl)) dL_law_597 ⟨Nat.le_of_ble_eq_true rfl, Nat.le_of_ble_eq_true rfl⟩) hS (fun q _ h => hFc q h) hFc (fun r1 u t H1 locs ht9 hvm9 hw hB hz9 hk9 hS => ?_)
  try dsimp only at hw
  obtain ⟨hP1, hK1, hD1⟩ := hB
  rw [ht9] at hP1
  obtain ⟨hP, hD⟩ := va_join (wr := mw cI a 1024 0 0 0 0 0 0 (inW 8192) zf zf zf zf zf zf zf zf zf zf) hP hD [0, 1, 2, 3, 4, 5, 6, 7, 8] [10, 11, 12, 13, 14, 15, 16, 17, 18, 19, 20, 21] rfl rfl (by decide) (by decide) hk9 hFc hP1 hD1
  have hP := hP.sub (ws' := mw cI a 1024 0 0 0 0 0 0 (inW 8192) zf zf zf zf zf zf zf zf zf zf) [0, 1, 2, 3, 4, 5, 6, 7, 8, 9, 10, 11] rfl
  have hD := hD.sub (ws' := mw cI a 1024 0 0 0 0 0 0 (inW 8192) zf zf zf zf zf zf zf zf zf zf) [0, 1, 2, 3, 4, 5, 6, 7, 8, 9, 10, 11] (by decide) rfl
  generalize H1 = H at hP hS ⊢
  have hc := hw
  clear hw
  refine lv_aload_n hx hb dL_law_600 rfl (lv_at hl 1 rfl) ?_
  refine lv_aload_n hx hb dL_law_601 rfl (lv_at hl 3 rfl) ?_
  refine lv_iload_n hx hb dL_law_602 rfl (lv_at hl 0 rfl) ?_
  refine lv_iconst (v := nI 1) hx hb dL_law_603 (by decide) ?_
  refine lv_iadd hx hb dL_law_604 ?_
  refine tpi (show nI 0 + nI 1 = nI 1 by decide) ?_
  refine va_sld hx hb hX hbl hbA hS (vp_in_nI (by omega) (by omega)) dL_law_605 ?_
  refine tpi (show xs (nI 1).toNatClampNeg = xs 1 by rw [nI_clamp (by decide)]) ?_
  refine lv_aload_n hx hb dL_law_606 rfl (lv_at hl 3 rfl) ?_
  refine lv_iload_n hx hb dL_law_607 rfl (lv_at hl 0 rfl) ?_
  refine lv_iconst (v := nI 2) hx hb dL_law_608 (by decide) ?_
  refine lv_iadd hx hb dL_law_609 ?_
  refine tpi (show nI 0 + nI 2 = nI 2 by decide) ?_
  refine va_sld hx hb hX hbl hbA hS (vp_in_nI (by omega) (by omega)) dL_law_610 ?_
  refine tpi (show xs (nI 2).toNatClampNeg = xs 2 by rw [nI_clamp (by decide)]) ?_
  refine lv_aload_n hx hb dL_law_611 rfl (lv_at hl 3 rfl) ?_
  refine lv_iload_n hx hb dL_law_612 rfl (lv_at hl 0 rfl) ?_
  refine lv_iconst (v := nI 3) hx hb dL_law_613 (by decide) ?_
  refine lv_iadd hx hb dL_law_614 ?_
  refine tpi (show nI 0 + nI 3 = nI 3 by decide) ?_
  refine va_sld hx hb hX hbl hbA hS (vp_in_nI (by omega) (by omega)) dL_law_615 ?_
  refine tpi (show xs (nI 3).toNatClampNeg = xs 3 by rw [nI_clamp (by decide)]) ?_
  refine lv_aload_n hx hb dL_law_616 rfl (lv_at hl 3 rfl) ?_
  refine lv_iload_n hx hb dL_law_617 rfl (lv_at hl 0 rfl) ?_
  refine lv_iconst (v := nI 4) hx hb dL_law_618 (by decide) ?_
  refine lv_iadd hx hb dL_law_619 ?_
  refine tpi (show nI 0 + nI 4 = nI 4 by decide) ?_
  refine va_sld hx hb hX hbl hbA hS (vp_in_nI (by omega) (by omega)) dL_law_620 ?_
  refine tpi (show xs (nI 4).toNatClampNeg = xs 4 by rw [nI_clamp (by decide)]) ?_
  refine lv_aload_n hx hb dL_law_621 rfl (lv_at hl 3 rfl) ?_
  refine lv_iload_n hx hb dL_law_622 rfl (lv_at hl 0 rfl) ?_
  refine lv_iconst (v := nI 5) hx hb dL_law_623 (by decide) ?_
  refine lv_iadd hx hb dL_law_624 ?_
  refine tpi (show nI 0 + nI 5 = nI 5 by decide) ?_
  refine va_sld hx hb hX hbl hbA hS (vp_in_nI (by omega) (by omega)) dL_law_625 ?_
  refine tpi (show xs (nI 5).toNatClampNeg = xs 5 by rw [nI_clamp (by decide)]) ?_
  refine lv_aload_n hx hb dL_law_626 rfl (lv_at hl 3 rfl) ?_
  refine lv_iload_n hx hb dL_law_627 rfl (lv_at hl 0 rfl) ?_
  refine lv_bipush (v := nI 6) hx hb dL_law_628 (by decide) ?_
  refine lv_iadd hx hb dL_law_630 ?_
  refine tpi (show nI 0 + nI 6 = nI 6 by decide) ?_
  refine va_sld hx hb hX hbl hbA hS (vp_in_nI (by omega) (by omega)) dL_law_631 ?_
  refine tpi (show xs (nI 6).toNatClampNeg = xs 6 by rw [nI_clamp (by decide)]) ?_
  have hPc := hP.sub (ws' := mw cI a 1024 0 0 0 0 0 0 (inW 8192) zf zf zf zf zf zf zf zf zf zf) [0, 1, 2, 3, 4, 5, 6, 7, 8, 9, 10, 11] rfl
  have hKc := hK.sub (tys' := [(cI, .int)]) [0] rfl
  have hDc := hD.sub (ws' := mw cI a 1024 0 0 0 0 0 0 (inW 8192) zf zf zf zf zf zf zf zf zf zf) [0, 1, 2, 3, 4, 5, 6, 7, 8, 9, 10, 11] (by decide) rfl
  have hFc := va_free (wc := mw cI a 1024 0 0 0 0 0 0 (inW 8192) zf zf zf zf zf zf zf zf zf zf) hD hS hA [0, 1, 2, 3, 4, 5, 6, 7, 8, 9, 10, 11] rfl
  refine va_calli (va_runV (As := [.int (xs 1), .int (xs 2), .int (xs 3), .int (xs 4), .int (xs 5), .int (xs 6)]) (rest := [.int r1]) ⟨hx, hb, hml, hown, hts⟩ (c_X4_linked l dC dI cI a 1024 0 0 0 0 0 0 (inW 8192) zf zf zf zf zf zf zf zf zf zf H.size (xs 1) (xs 2) (xs 3) (xs 4) (xs 5) (xs 6) (inW_lt 8192) (zf_lt 256 (by decide)) (by decide)) (cwV 6 hts gL_law_X4_linked rfl rfl rfl (by decide +kernel) ⟨Nat.le_of_ble_eq_true rfl, Nat.le_of_ble_eq_true rfl⟩) ⟨fun a9 U g9 mk9 q9 => by obtain ⟨q0, q1, qP, qK, qD⟩ := q9; exact ⟨q0, q1, qP, va_K.moved (u := U) (U := U.calling g9 mk9 a9) (Vm.Alike.refl U.vm) qK, qD⟩, va_recv hKc hPc (ci := 4) (q0 := 0) rfl rfl, fun U hU hW => ⟨rfl, by rw [hU], by rw [hU]; exact hPc, va_K.moved hW.alike hKc, hDc.weaken (fun _ _ _ _ => trivial)⟩⟩ rfl rfl hl.1 rfl (lv_room (Nat.le_of_ble_eq_true rfl)) dL_law_632 ⟨Nat.le_of_ble_eq_true rfl, Nat.le_of_ble_eq_true rfl⟩) hS (fun q _ h => hFc q h) hFc (fun r2 u t H1 locs ht9 hvm9 hw hB hz9 hk9 hS => ?_)
  try dsimp only at hw
  generalize H1 = H at hS ⊢
  have hm := hw
  clear hw
  have heq : r1 = r2 := hc.trans hm.symm
  refine lv_icmp_eq (tgt := 853) hx hb dL_law_635 (by decide) (fun _ => ?_) (fun c9 => absurd heq c9)
  exact tail _ _ _ _ _ (Nat.le_of_ble_eq_true rfl) (Nat.le_of_ble_eq_true rfl) hS hl
set_option maxHeartbeats 4000000 in
set_option maxRecDepth 100000 in
theorem p1_protect {p : Program} {e : Env} {s : State} {m : MethodId} {below : List Frame} {meth : Method} {c : Code} (l : Launch) {q0 L : Nat} {xs : Nat → Int32} (C0 : lw_At p s m meth c q0 L xs) (h8 : L = 8) (dC : Nat → ClassId) (dI : Nat → Nat → Nat) (cB cI cS : ClassId) (h kq : Nat) (k o b a : Nat → Nat) (A : Nat → Prop) (hA : ∀ q : Nat, s.heap.size ≤ q → A q) (hbA : ¬ A q0) (hK : va_K (dC, dI) vwCl [(cI, .int), (cB, .byte), (cS, .object "GlulxHeap$State")] s) {H : Heap} {locs : List Loc} {ls : Array Slot} (hP : va_P (dC, dI) vwCl (gw h kq none k o b 0 0 0 ++ kw cB k 0 zf ++ ow cB o 0 0 zf ++ sw cB cI b 1024 0 0 (inW 8192) zf zf ++ krw cS kq (fun _ => none) ++ mw cI a 1024 0 0 0 0 0 0 (inW 8192) zf zf zf zf zf zf zf zf zf zf) H) (hD : va_D A (gw h kq none k o b 0 0 0 ++ kw cB k 0 zf ++ ow cB o 0 0 zf ++ sw cB cI b 1024 0 0 (inW 8192) zf zf ++ krw cS kq (fun _ => none) ++ mw cI a 1024 0 0 0 0 0 0 (inW 8192) zf zf zf zf zf zf zf zf zf zf)) (hS : va_S A s.heap H locs) (hl : lv_has ls 4 [(3, .int (nI 0)), (2, .ref (a 0)), (1, .ref h), (0, .ref q0)]) (tail : ∀ (H : Heap) (locs : List Loc) (ls : Array Slot) (cells slots : Nat), cells ≤ 600000 → slots ≤ 7302249 → va_S A s.heap H locs → lv_has ls 4 [(3, .int (nI 0)), (2, .ref (a 0)), (1, .ref h), (0, .ref q0)] → W p l e room_1 s m #[Value.ref q0] below meth c H locs cells slots (lw_Z below #[Value.ref q0] s) (F0 m 853 ls [])) : W p l e room_1 s m #[Value.ref q0] below meth c H locs 22 78425 (lw_Z below #[Value.ref q0] s) (F0 m 640 ls []) := by
  obtain ⟨hx, hb, hr, hml, hown, hts0, hX, hbl, hlocks, hgv⟩ := id C0
  have hts : ∀ w ∈ wsL_law, w.before #[Value.ref q0] s = true := fun w h => hts0 w (wsL_law_in w h)
  refine lv_aload_n hx hb dL_law_640 rfl (lv_at hl 2 rfl) ?_
  refine lv_aload_n hx hb dL_law_641 rfl (lv_at hl 3 rfl) ?_
  refine lv_iload_n hx hb dL_law_642 rfl (lv_at hl 0 rfl) ?_
  refine lv_iconst (v := nI 1) hx hb dL_law_643 (by decide) ?_
  refine lv_iadd hx hb dL_law_644 ?_
  refine tpi (show nI 0 + nI 1 = nI 1 by decide) ?_
  refine va_sld hx hb hX hbl hbA hS (vp_in_nI (by omega) (by omega)) dL_law_645 ?_
  refine tpi (show xs (nI 1).toNatClampNeg = xs 1 by rw [nI_clamp (by decide)]) ?_
  refine lv_aload_n hx hb dL_law_646 rfl (lv_at hl 3 rfl) ?_
  refine lv_iload_n hx hb dL_law_647 rfl (lv_at hl 0 rfl) ?_
  refine lv_iconst (v := nI 2) hx hb dL_law_648 (by decide) ?_
  refine lv_iadd hx hb dL_law_649 ?_
  refine tpi (show nI 0 + nI 2 = nI 2 by decide) ?_
  refine va_sld hx hb hX hbl hbA hS (vp_in_nI (by omega) (by omega)) dL_law_650 ?_
  refine tpi (show xs (nI 2).toNatClampNeg = xs 2 by rw [nI_clamp (by decide)]) ?_
  have hPc := hP.sub (ws' := gw h kq none k o b 0 0 0 ++ kw cB k 0 zf ++ ow cB o 0 0 zf ++ sw cB cI b 1024 0 0 (inW 8192) zf zf) [0, 1, 2, 3, 4, 5, 6, 7, 8] rfl
  have hKc := hK.sub (tys' := [(cI, .int), (cB, .byte)]) [0, 1] rfl
  have hDc := hD.sub (ws' := gw h kq none k o b 0 0 0 ++ kw cB k 0 zf ++ ow cB o 0 0 zf ++ sw cB cI b 1024 0 0 (inW 8192) zf zf) [0, 1, 2, 3, 4, 5, 6, 7, 8] (by decide) rfl
  have hFc := va_free (wc := gw h kq none k o b 0 0 0 ++ kw cB k 0 zf ++ ow cB o 0 0 zf ++ sw cB cI b 1024 0 0 (inW 8192) zf zf) hD hS hA [0, 1, 2, 3, 4, 5, 6, 7, 8] rfl
  refine va_calli (va_runV (As := [.int (xs 1), .int (xs 2)]) (rest := []) ⟨hx, hb, hml, hown, hts⟩ (c_X3_protect l dC dI cB cI h kq none k o b 0 0 0 0 zf 0 0 zf 1024 0 0 (inW 8192) zf zf H.size (xs 1) (xs 2) ) (cwV 2 hts gL_law_X3_protect rfl rfl rfl (by decide +kernel) ⟨Nat.le_of_ble_eq_true rfl, Nat.le_of_ble_eq_true rfl⟩) ⟨fun a9 U g9 mk9 q9 => by obtain ⟨q0, q1, qP, qK, qD⟩ := q9; exact ⟨q0, q1, qP, va_K.moved (u := U) (U := U.calling g9 mk9 a9) (Vm.Alike.refl U.vm) qK, qD⟩, va_recv hKc hPc (ci := 3) (q0 := 0) rfl rfl, fun U hU hW => ⟨rfl, by rw [hU], by rw [hU]; exact hPc, va_K.moved hW.alike hKc, hDc.weaken (fun _ _ _ _ => trivial)⟩⟩ rfl rfl hl.1 rfl (lv_room (Nat.le_of_ble_eq_true rfl)) dL_law_651 ⟨Nat.le_of_ble_eq_true rfl, Nat.le_of_ble_eq_true rfl⟩) hS (fun q _ h => hFc q h) hFc (fun r1 u t H1 locs ht9 hvm9 hw hB hz9 hk9 hS => ?_)
  try dsimp only at hw
  obtain ⟨hP1, hK1, hD1⟩ := hB
  rw [ht9] at hP1
  obtain ⟨hP, hD⟩ := va_join (wr := mw cI a 1024 0 0 0 0 0 0 (inW 8192) zf zf zf zf zf zf zf zf zf zf) hP hD [0, 1, 2, 3, 4, 5, 6, 7, 8] [10, 11, 12, 13, 14, 15, 16, 17, 18, 19, 20, 21] rfl rfl (by decide) (by decide) hk9 hFc hP1 hD1
  have hP := hP.sub (ws' := mw cI a 1024 0 0 0 0 0 0 (inW 8192) zf zf zf zf zf zf zf zf zf zf) [0, 1, 2, 3, 4, 5, 6, 7, 8, 9, 10, 11] rfl
  have hD := hD.sub (ws' := mw cI a 1024 0 0 0 0 0 0 (inW 8192) zf zf zf zf zf zf zf zf zf zf) [0, 1, 2, 3, 4, 5, 6, 7, 8, 9, 10, 11] (by decide) rfl
  generalize H1 = H at hP hS ⊢
  have hc := hw
  clear hw
  refine lv_aload_n hx hb dL_law_654 rfl (lv_at hl 1 rfl) ?_
  refine lv_aload_n hx hb dL_law_655 rfl (lv_at hl 3 rfl) ?_
  refine lv_iload_n hx hb dL_law_656 rfl (lv_at hl 0 rfl) ?_
  refine lv_iconst (v := nI 1) hx hb dL_law_657 (by decide) ?_
  refine lv_iadd hx hb dL_law_658 ?_
  refine tpi (show nI 0 + nI 1 = nI 1 by decide) ?_
  refine va_sld hx hb hX hbl hbA hS (vp_in_nI (by omega) (by omega)) dL_law_659 ?_
  refine tpi (show xs (nI 1).toNatClampNeg = xs 1 by rw [nI_clamp (by decide)]) ?_
  refine lv_aload_n hx hb dL_law_660 rfl (lv_at hl 3 rfl) ?_
  refine lv_iload_n hx hb dL_law_661 rfl (lv_at hl 0 rfl) ?_
  refine lv_iconst (v := nI 2) hx hb dL_law_662 (by decide) ?_
  refine lv_iadd hx hb dL_law_663 ?_
  refine tpi (show nI 0 + nI 2 = nI 2 by decide) ?_
  refine va_sld hx hb hX hbl hbA hS (vp_in_nI (by omega) (by omega)) dL_law_664 ?_
  refine tpi (show xs (nI 2).toNatClampNeg = xs 2 by rw [nI_clamp (by decide)]) ?_
  have hPc := hP.sub (ws' := mw cI a 1024 0 0 0 0 0 0 (inW 8192) zf zf zf zf zf zf zf zf zf zf) [0, 1, 2, 3, 4, 5, 6, 7, 8, 9, 10, 11] rfl
  have hKc := hK.sub (tys' := [(cI, .int)]) [0] rfl
  have hDc := hD.sub (ws' := mw cI a 1024 0 0 0 0 0 0 (inW 8192) zf zf zf zf zf zf zf zf zf zf) [0, 1, 2, 3, 4, 5, 6, 7, 8, 9, 10, 11] (by decide) rfl
  have hFc := va_free (wc := mw cI a 1024 0 0 0 0 0 0 (inW 8192) zf zf zf zf zf zf zf zf zf zf) hD hS hA [0, 1, 2, 3, 4, 5, 6, 7, 8, 9, 10, 11] rfl
  refine va_calli (va_runV (As := [.int (xs 1), .int (xs 2)]) (rest := [.int r1]) ⟨hx, hb, hml, hown, hts⟩ (c_X4_protect l dC dI cI a 1024 0 0 0 0 0 0 (inW 8192) zf zf zf zf zf zf zf zf zf zf H.size (xs 1) (xs 2) ) (cwV 2 hts gL_law_X4_protect rfl rfl rfl (by decide +kernel) ⟨Nat.le_of_ble_eq_true rfl, Nat.le_of_ble_eq_true rfl⟩) ⟨fun a9 U g9 mk9 q9 => by obtain ⟨q0, q1, qP, qK, qD⟩ := q9; exact ⟨q0, q1, qP, va_K.moved (u := U) (U := U.calling g9 mk9 a9) (Vm.Alike.refl U.vm) qK, qD⟩, va_recv hKc hPc (ci := 4) (q0 := 0) rfl rfl, fun U hU hW => ⟨rfl, by rw [hU], by rw [hU]; exact hPc, va_K.moved hW.alike hKc, hDc.weaken (fun _ _ _ _ => trivial)⟩⟩ rfl rfl hl.1 rfl (lv_room (Nat.le_of_ble_eq_true rfl)) dL_law_665 ⟨Nat.le_of_ble_eq_true rfl, Nat.le_of_ble_eq_true rfl⟩) hS (fun q _ h => hFc q h) hFc (fun r2 u t H1 locs ht9 hvm9 hw hB hz9 hk9 hS => ?_)
  try dsimp only at hw
  generalize H1 = H at hS ⊢
  have hm := hw
  clear hw
  have heq : r1 = r2 := hc.trans hm.symm
  refine lv_icmp_eq (tgt := 853) hx hb dL_law_668 (by decide) (fun _ => ?_) (fun c9 => absurd heq c9)
  exact tail _ _ _ _ _ (Nat.le_of_ble_eq_true rfl) (Nat.le_of_ble_eq_true rfl) hS hl
set_option maxHeartbeats 4000000 in
set_option maxRecDepth 100000 in
theorem p1_keep {p : Program} {e : Env} {s : State} {m : MethodId} {below : List Frame} {meth : Method} {c : Code} (l : Launch) {q0 L : Nat} {xs : Nat → Int32} (C0 : lw_At p s m meth c q0 L xs) (h8 : L = 8) (dC : Nat → ClassId) (dI : Nat → Nat → Nat) (cB cI cS : ClassId) (h kq : Nat) (k o b a : Nat → Nat) (A : Nat → Prop) (hA : ∀ q : Nat, s.heap.size ≤ q → A q) (hbA : ¬ A q0) (hK : va_K (dC, dI) vwCl [(cI, .int), (cB, .byte), (cS, .object "GlulxHeap$State")] s) {H : Heap} {locs : List Loc} {ls : Array Slot} (hP : va_P (dC, dI) vwCl (gw h kq none k o b 0 0 0 ++ kw cB k 0 zf ++ ow cB o 0 0 zf ++ sw cB cI b 1024 0 0 (inW 8192) zf zf ++ krw cS kq (fun _ => none) ++ mw cI a 1024 0 0 0 0 0 0 (inW 8192) zf zf zf zf zf zf zf zf zf zf) H) (hD : va_D A (gw h kq none k o b 0 0 0 ++ kw cB k 0 zf ++ ow cB o 0 0 zf ++ sw cB cI b 1024 0 0 (inW 8192) zf zf ++ krw cS kq (fun _ => none) ++ mw cI a 1024 0 0 0 0 0 0 (inW 8192) zf zf zf zf zf zf zf zf zf zf)) (hS : va_S A s.heap H locs) (hl : lv_has ls 4 [(3, .int (nI 0)), (2, .ref (a 0)), (1, .ref h), (0, .ref q0)]) (tail : ∀ (H : Heap) (locs : List Loc) (ls : Array Slot) (cells slots : Nat), cells ≤ 600000 → slots ≤ 7302249 → va_S A s.heap H locs → lv_has ls 4 [(3, .int (nI 0)), (2, .ref (a 0)), (1, .ref h), (0, .ref q0)] → W p l e room_1 s m #[Value.ref q0] below meth c H locs cells slots (lw_Z below #[Value.ref q0] s) (F0 m 853 ls [])) : W p l e room_1 s m #[Value.ref q0] below meth c H locs 22 78425 (lw_Z below #[Value.ref q0] s) (F0 m 673 ls []) := by
  obtain ⟨hx, hb, hr, hml, hown, hts0, hX, hbl, hlocks, hgv⟩ := id C0
  have hts : ∀ w ∈ wsL_law, w.before #[Value.ref q0] s = true := fun w h => hts0 w (wsL_law_in w h)
  refine lv_aload_n hx hb dL_law_673 rfl (lv_at hl 2 rfl) ?_
  have hPc := hP.sub (ws' := gw h kq none k o b 0 0 0 ++ krw cS kq (fun _ => none) ++ sw cB cI b 1024 0 0 (inW 8192) zf zf) [0, 9, 5, 6, 7, 8] rfl
  have hKc := hK.sub (tys' := [(cI, .int), (cB, .byte), (cS, .object "GlulxHeap$State")]) [0, 1, 2] rfl
  have hN29 := va_Nw.of (w := .methodLinkNest RX3 29 yX2_init "GlulxHeap") rfl (hts0 _ (List.mem_of_getElem? (i := 75) (by decide +kernel)))
  have hDc := hD.sub (ws' := gw h kq none k o b 0 0 0 ++ krw cS kq (fun _ => none) ++ sw cB cI b 1024 0 0 (inW 8192) zf zf) [0, 9, 5, 6, 7, 8] (by decide) rfl
  have hFc := va_free (wc := gw h kq none k o b 0 0 0 ++ krw cS kq (fun _ => none) ++ sw cB cI b 1024 0 0 (inW 8192) zf zf) hD hS hA [0, 9, 5, 6, 7, 8] rfl
  refine va_calli (va_runV (As := []) (rest := []) ⟨hx, hb, hml, hown, hts⟩ (c_X3_keepN l dC dI cB cI cS h kq none k o b 0 0 0 (fun _ => none) 1024 0 0 (inW 8192) zf zf H.size  (by decide) rfl) (cwV 0 hts gL_law_X3_keep rfl rfl rfl (by decide +kernel) ⟨Nat.le_of_ble_eq_true rfl, Nat.le_of_ble_eq_true rfl⟩) ⟨fun a9 U g9 mk9 q9 => by obtain ⟨q0, q1, qP, qK, qD, qN29⟩ := q9; exact ⟨q0, q1, qP, va_K.moved (u := U) (U := U.calling g9 mk9 a9) (Vm.Alike.refl U.vm) qK, qD, va_Nw.same rfl rfl qN29⟩, va_recv hKc hPc (ci := 3) (q0 := 0) rfl rfl, fun U hU hW => ⟨rfl, by rw [hU], by rw [hU]; exact hPc, va_K.moved hW.alike hKc, hDc.weaken (fun _ _ _ _ => trivial), va_Nw.warmM hW hN29⟩⟩ rfl rfl hl.1 rfl (lv_room (Nat.le_of_ble_eq_true rfl)) dL_law_674 ⟨Nat.le_of_ble_eq_true rfl, Nat.le_of_ble_eq_true rfl⟩) hS (fun q _ h => hFc q h) hFc (fun r1 u t H1 locs ht9 hvm9 hw hB hz9 hk9 hS => ?_)
  try dsimp only at hw
  obtain ⟨hP1, hK1, hD1⟩ := hB
  rw [ht9] at hP1
  obtain ⟨hP, hD⟩ := va_join (wr := mw cI a 1024 0 0 0 0 0 0 (inW 8192) zf zf zf zf zf zf zf zf zf zf) hP hD [0, 9, 5, 6, 7, 8] [10, 11, 12, 13, 14, 15, 16, 17, 18, 19, 20, 21] rfl rfl (by decide) (by decide) hk9 hFc hP1 hD1
  have hP := hP.sub (ws' := mw cI a 1024 0 0 0 0 0 0 (inW 8192) zf zf zf zf zf zf zf zf zf zf) [0, 1, 2, 3, 4, 5, 6, 7, 8, 9, 10, 11] rfl
  have hD := hD.sub (ws' := mw cI a 1024 0 0 0 0 0 0 (inW 8192) zf zf zf zf zf zf zf zf zf zf) [0, 1, 2, 3, 4, 5, 6, 7, 8, 9, 10, 11] (by decide) rfl
  generalize H1 = H at hP hS ⊢
  have hc := hw
  clear hw
  refine lv_aload_n hx hb dL_law_677 rfl (lv_at hl 1 rfl) ?_
  have hPc := hP.sub (ws' := mw cI a 1024 0 0 0 0 0 0 (inW 8192) zf zf zf zf zf zf zf zf zf zf) [0, 1, 2, 3, 4, 5, 6, 7, 8, 9, 10, 11] rfl
  have hKc := hK.sub (tys' := [(cI, .int)]) [0] rfl
  have hDc := hD.sub (ws' := mw cI a 1024 0 0 0 0 0 0 (inW 8192) zf zf zf zf zf zf zf zf zf zf) [0, 1, 2, 3, 4, 5, 6, 7, 8, 9, 10, 11] (by decide) rfl
  have hFc := va_free (wc := mw cI a 1024 0 0 0 0 0 0 (inW 8192) zf zf zf zf zf zf zf zf zf zf) hD hS hA [0, 1, 2, 3, 4, 5, 6, 7, 8, 9, 10, 11] rfl
  refine va_calli (va_runV (As := []) (rest := [.int r1]) ⟨hx, hb, hml, hown, hts⟩ (c_X4_keep l dC dI cI a 1024 0 0 0 0 0 0 (inW 8192) zf zf zf zf zf zf zf zf zf zf H.size  (by decide) (by decide) (by decide)) (cwV 0 hts gL_law_X4_keep rfl rfl rfl (by decide +kernel) ⟨Nat.le_of_ble_eq_true rfl, Nat.le_of_ble_eq_true rfl⟩) ⟨fun a9 U g9 mk9 q9 => by obtain ⟨q0, q1, qP, qK, qD⟩ := q9; exact ⟨q0, q1, qP, va_K.moved (u := U) (U := U.calling g9 mk9 a9) (Vm.Alike.refl U.vm) qK, qD⟩, va_recv hKc hPc (ci := 4) (q0 := 0) rfl rfl, fun U hU hW => ⟨rfl, by rw [hU], by rw [hU]; exact hPc, va_K.moved hW.alike hKc, hDc.weaken (fun _ _ _ _ => trivial)⟩⟩ rfl rfl hl.1 rfl (lv_room (Nat.le_of_ble_eq_true rfl)) dL_law_678 ⟨Nat.le_of_ble_eq_true rfl, Nat.le_of_ble_eq_true rfl⟩) hS (fun q _ h => hFc q h) hFc (fun r2 u t H1 locs ht9 hvm9 hw hB hz9 hk9 hS => ?_)
  try dsimp only at hw
  generalize H1 = H at hS ⊢
  have hm := hw
  clear hw
  have heq : r1 = r2 := by rw [hc, hm]; decide
  refine lv_icmp_eq (tgt := 853) hx hb dL_law_681 (by decide) (fun _ => ?_) (fun c9 => absurd heq c9)
  exact tail _ _ _ _ _ (Nat.le_of_ble_eq_true rfl) (Nat.le_of_ble_eq_true rfl) hS hl
set_option maxHeartbeats 4000000 in
set_option maxRecDepth 100000 in
theorem p1_back {p : Program} {e : Env} {s : State} {m : MethodId} {below : List Frame} {meth : Method} {c : Code} (l : Launch) {q0 L : Nat} {xs : Nat → Int32} (C0 : lw_At p s m meth c q0 L xs) (h8 : L = 8) (dC : Nat → ClassId) (dI : Nat → Nat → Nat) (cB cI cS : ClassId) (h kq : Nat) (k o b a : Nat → Nat) (A : Nat → Prop) (hA : ∀ q : Nat, s.heap.size ≤ q → A q) (hbA : ¬ A q0) (hK : va_K (dC, dI) vwCl [(cI, .int), (cB, .byte), (cS, .object "GlulxHeap$State")] s) {H : Heap} {locs : List Loc} {ls : Array Slot} (hP : va_P (dC, dI) vwCl (gw h kq none k o b 0 0 0 ++ kw cB k 0 zf ++ ow cB o 0 0 zf ++ sw cB cI b 1024 0 0 (inW 8192) zf zf ++ krw cS kq (fun _ => none) ++ mw cI a 1024 0 0 0 0 0 0 (inW 8192) zf zf zf zf zf zf zf zf zf zf) H) (hD : va_D A (gw h kq none k o b 0 0 0 ++ kw cB k 0 zf ++ ow cB o 0 0 zf ++ sw cB cI b 1024 0 0 (inW 8192) zf zf ++ krw cS kq (fun _ => none) ++ mw cI a 1024 0 0 0 0 0 0 (inW 8192) zf zf zf zf zf zf zf zf zf zf)) (hS : va_S A s.heap H locs) (hl : lv_has ls 4 [(3, .int (nI 0)), (2, .ref (a 0)), (1, .ref h), (0, .ref q0)]) (tail : ∀ (H : Heap) (locs : List Loc) (ls : Array Slot) (cells slots : Nat), cells ≤ 600000 → slots ≤ 7302249 → va_S A s.heap H locs → lv_has ls 4 [(3, .int (nI 0)), (2, .ref (a 0)), (1, .ref h), (0, .ref q0)] → W p l e room_1 s m #[Value.ref q0] below meth c H locs cells slots (lw_Z below #[Value.ref q0] s) (F0 m 853 ls [])) : W p l e room_1 s m #[Value.ref q0] below meth c H locs 22 78425 (lw_Z below #[Value.ref q0] s) (F0 m 686 ls []) := by
  obtain ⟨hx, hb, hr, hml, hown, hts0, hX, hbl, hlocks, hgv⟩ := id C0
  have hts : ∀ w ∈ wsL_law, w.before #[Value.ref q0] s = true := fun w h => hts0 w (wsL_law_in w h)
  refine lv_aload_n hx hb dL_law_686 rfl (lv_at hl 2 rfl) ?_
  have hPc := hP.sub (ws' := gw h kq none k o b 0 0 0 ++ krw cS kq (fun _ => none)) [0, 9] rfl
  have hKc := hK.sub (tys' := [(cI, .int), (cB, .byte), (cS, .object "GlulxHeap$State")]) [0, 1, 2] rfl
  refine vp_callSi (W.runV (As := []) (rest := []) ⟨hx, hb, hml, hown, hts⟩ (c_X3_back0 l dC dI cB cI cS h kq none k o b 0 0 0 (fun _ => none)  rfl) (cwV 0 hts gL_law_X3_back rfl rfl rfl (by decide +kernel) ⟨Nat.le_of_ble_eq_true rfl, Nat.le_of_ble_eq_true rfl⟩) ⟨fun a9 U g9 mk9 q9 => by obtain ⟨q0, qP, qK⟩ := q9; exact ⟨q0, qP, va_K.moved (u := U) (U := U.calling g9 mk9 a9) (Vm.Alike.refl U.vm) qK⟩, va_recv hKc hPc (ci := 3) (q0 := 0) rfl rfl, fun U hU hW => ⟨rfl, by rw [hU]; exact hPc, va_K.moved hW.alike hKc⟩⟩ rfl rfl hl.1 rfl (lv_room (Nat.le_of_ble_eq_true rfl)) dL_law_687 ⟨Nat.le_of_ble_eq_true rfl, Nat.le_of_ble_eq_true rfl⟩) (fun r1 hw => ?_)
  have hc := hw
  clear hw
  refine lv_aload_n hx hb dL_law_690 rfl (lv_at hl 1 rfl) ?_
  have hPc := hP.sub (ws' := mw cI a 1024 0 0 0 0 0 0 (inW 8192) zf zf zf zf zf zf zf zf zf zf) [10, 11, 12, 13, 14, 15, 16, 17, 18, 19, 20, 21] rfl
  have hKc := hK.sub (tys' := [(cI, .int)]) [0] rfl
  have hDc := hD.sub (ws' := mw cI a 1024 0 0 0 0 0 0 (inW 8192) zf zf zf zf zf zf zf zf zf zf) [10, 11, 12, 13, 14, 15, 16, 17, 18, 19, 20, 21] (by decide) rfl
  have hFc := va_free (wc := mw cI a 1024 0 0 0 0 0 0 (inW 8192) zf zf zf zf zf zf zf zf zf zf) hD hS hA [10, 11, 12, 13, 14, 15, 16, 17, 18, 19, 20, 21] rfl
  refine va_calli (va_runV (As := []) (rest := [.int r1]) ⟨hx, hb, hml, hown, hts⟩ (c_X4_back l dC dI cI a 1024 0 0 0 0 0 0 (inW 8192) zf zf zf zf zf zf zf zf zf zf H.size  (by decide) (by decide) (by decide) (by decide) (fun i h => absurd h (by omega))) (cwV 0 hts gL_law_X4_back rfl rfl rfl (by decide +kernel) ⟨Nat.le_of_ble_eq_true rfl, Nat.le_of_ble_eq_true rfl⟩) ⟨fun a9 U g9 mk9 q9 => by obtain ⟨q0, q1, qP, qK, qD⟩ := q9; exact ⟨q0, q1, qP, va_K.moved (u := U) (U := U.calling g9 mk9 a9) (Vm.Alike.refl U.vm) qK, qD⟩, va_recv hKc hPc (ci := 4) (q0 := 0) rfl rfl, fun U hU hW => ⟨rfl, by rw [hU], by rw [hU]; exact hPc, va_K.moved hW.alike hKc, hDc.weaken (fun _ _ _ _ => trivial)⟩⟩ rfl rfl hl.1 rfl (lv_room (Nat.le_of_ble_eq_true rfl)) dL_law_691 ⟨Nat.le_of_ble_eq_true rfl, Nat.le_of_ble_eq_true rfl⟩) hS (fun q _ h => hFc q h) hFc (fun r2 u t H1 locs ht9 hvm9 hw hB hz9 hk9 hS => ?_)
  try dsimp only at hw
  generalize H1 = H at hS ⊢
  have hm := hw
  clear hw
  have heq : r1 = r2 := by rw [hc, hm]; decide
  refine lv_icmp_eq (tgt := 853) hx hb dL_law_694 (by decide) (fun _ => ?_) (fun c9 => absurd heq c9)
  exact tail _ _ _ _ _ (Nat.le_of_ble_eq_true rfl) (Nat.le_of_ble_eq_true rfl) hS hl
set_option maxHeartbeats 4000000 in
set_option maxRecDepth 100000 in
theorem p1_restart {p : Program} {e : Env} {s : State} {m : MethodId} {below : List Frame} {meth : Method} {c : Code} (l : Launch) {q0 L : Nat} {xs : Nat → Int32} (C0 : lw_At p s m meth c q0 L xs) (h8 : L = 8) (dC : Nat → ClassId) (dI : Nat → Nat → Nat) (cB cI cS : ClassId) (h kq : Nat) (k o b a : Nat → Nat) (A : Nat → Prop) (hA : ∀ q : Nat, s.heap.size ≤ q → A q) (hbA : ¬ A q0) (hK : va_K (dC, dI) vwCl [(cI, .int), (cB, .byte), (cS, .object "GlulxHeap$State")] s) {H : Heap} {locs : List Loc} {ls : Array Slot} (hP : va_P (dC, dI) vwCl (gw h kq none k o b 0 0 0 ++ kw cB k 0 zf ++ ow cB o 0 0 zf ++ sw cB cI b 1024 0 0 (inW 8192) zf zf ++ krw cS kq (fun _ => none) ++ mw cI a 1024 0 0 0 0 0 0 (inW 8192) zf zf zf zf zf zf zf zf zf zf) H) (hD : va_D A (gw h kq none k o b 0 0 0 ++ kw cB k 0 zf ++ ow cB o 0 0 zf ++ sw cB cI b 1024 0 0 (inW 8192) zf zf ++ krw cS kq (fun _ => none) ++ mw cI a 1024 0 0 0 0 0 0 (inW 8192) zf zf zf zf zf zf zf zf zf zf)) (hS : va_S A s.heap H locs) (hl : lv_has ls 4 [(3, .int (nI 0)), (2, .ref (a 0)), (1, .ref h), (0, .ref q0)]) (tail : ∀ (H : Heap) (locs : List Loc) (ls : Array Slot) (cells slots : Nat), cells ≤ 600000 → slots ≤ 7302249 → va_S A s.heap H locs → lv_has ls 4 [(3, .int (nI 0)), (2, .ref (a 0)), (1, .ref h), (0, .ref q0)] → W p l e room_1 s m #[Value.ref q0] below meth c H locs cells slots (lw_Z below #[Value.ref q0] s) (F0 m 853 ls [])) : W p l e room_1 s m #[Value.ref q0] below meth c H locs 22 78425 (lw_Z below #[Value.ref q0] s) (F0 m 699 ls []) := by
  obtain ⟨hx, hb, hr, hml, hown, hts0, hX, hbl, hlocks, hgv⟩ := id C0
  have hts : ∀ w ∈ wsL_law, w.before #[Value.ref q0] s = true := fun w h => hts0 w (wsL_law_in w h)
  refine lv_aload_n hx hb dL_law_699 rfl (lv_at hl 2 rfl) ?_
  have hPc := hP.sub (ws' := gw h kq none k o b 0 0 0 ++ sw cB cI b 1024 0 0 (inW 8192) zf zf) [0, 5, 6, 7, 8] rfl
  have hKc := hK.sub (tys' := [(cI, .int), (cB, .byte)]) [0, 1] rfl
  have hN29 := va_Nw.of (w := .methodLinkNest RX3 29 yX2_init "GlulxHeap") rfl (hts0 _ (List.mem_of_getElem? (i := 75) (by decide +kernel)))
  have hDc := hD.sub (ws' := gw h kq none k o b 0 0 0 ++ sw cB cI b 1024 0 0 (inW 8192) zf zf) [0, 5, 6, 7, 8] (by decide) rfl
  have hFc := va_free (wc := gw h kq none k o b 0 0 0 ++ sw cB cI b 1024 0 0 (inW 8192) zf zf) hD hS hA [0, 5, 6, 7, 8] rfl
  refine va_calli (va_runV (As := []) (rest := []) ⟨hx, hb, hml, hown, hts⟩ (c_X3_restartN l dC dI cB cI cS h kq k o b 0 0 0 1024 0 0 (inW 8192) zf zf H.size  (by decide) (by decide) (by decide)) (cwV 0 hts gL_law_X3_restart rfl rfl rfl (by decide +kernel) ⟨Nat.le_of_ble_eq_true rfl, Nat.le_of_ble_eq_true rfl⟩) ⟨fun a9 U g9 mk9 q9 => by obtain ⟨q0, q1, qP, qK, qD, qN29⟩ := q9; exact ⟨q0, q1, qP, va_K.moved (u := U) (U := U.calling g9 mk9 a9) (Vm.Alike.refl U.vm) qK, qD, va_Nw.same rfl rfl qN29⟩, va_recv hKc hPc (ci := 3) (q0 := 0) rfl rfl, fun U hU hW => ⟨rfl, by rw [hU], by rw [hU]; exact hPc, va_K.moved hW.alike hKc, hDc.weaken (fun _ _ _ _ => trivial), va_Nw.warmM hW hN29⟩⟩ rfl rfl hl.1 rfl (lv_room (Nat.le_of_ble_eq_true rfl)) dL_law_700 ⟨Nat.le_of_ble_eq_true rfl, Nat.le_of_ble_eq_true rfl⟩) hS (fun q _ h => hFc q h) hFc (fun r1 u t H1 locs ht9 hvm9 hw hB hz9 hk9 hS => ?_)
  try dsimp only at hw
  obtain ⟨hP1, hK1, hD1⟩ := hB
  rw [ht9] at hP1
  obtain ⟨hP, hD⟩ := va_join (wr := mw cI a 1024 0 0 0 0 0 0 (inW 8192) zf zf zf zf zf zf zf zf zf zf) hP hD [0, 5, 6, 7, 8] [10, 11, 12, 13, 14, 15, 16, 17, 18, 19, 20, 21] rfl rfl (by decide) (by decide) hk9 hFc hP1 hD1
  have hP := hP.sub (ws' := mw cI a 1024 0 0 0 0 0 0 (inW 8192) zf zf zf zf zf zf zf zf zf zf) [0, 1, 2, 3, 4, 5, 6, 7, 8, 9, 10, 11] rfl
  have hD := hD.sub (ws' := mw cI a 1024 0 0 0 0 0 0 (inW 8192) zf zf zf zf zf zf zf zf zf zf) [0, 1, 2, 3, 4, 5, 6, 7, 8, 9, 10, 11] (by decide) rfl
  generalize H1 = H at hP hS ⊢
  have hc := hw
  clear hw
  refine lv_aload_n hx hb dL_law_703 rfl (lv_at hl 1 rfl) ?_
  have hPc := hP.sub (ws' := mw cI a 1024 0 0 0 0 0 0 (inW 8192) zf zf zf zf zf zf zf zf zf zf) [0, 1, 2, 3, 4, 5, 6, 7, 8, 9, 10, 11] rfl
  have hKc := hK.sub (tys' := [(cI, .int)]) [0] rfl
  have hDc := hD.sub (ws' := mw cI a 1024 0 0 0 0 0 0 (inW 8192) zf zf zf zf zf zf zf zf zf zf) [0, 1, 2, 3, 4, 5, 6, 7, 8, 9, 10, 11] (by decide) rfl
  have hFc := va_free (wc := mw cI a 1024 0 0 0 0 0 0 (inW 8192) zf zf zf zf zf zf zf zf zf zf) hD hS hA [0, 1, 2, 3, 4, 5, 6, 7, 8, 9, 10, 11] rfl
  refine va_calli (va_runV (As := []) (rest := [.int r1]) ⟨hx, hb, hml, hown, hts⟩ (c_X4_restart l dC dI cI a 1024 0 0 0 0 0 0 (inW 8192) zf zf zf zf zf zf zf zf zf zf H.size  (by decide) (by decide) (by decide)) (cwV 0 hts gL_law_X4_restart rfl rfl rfl (by decide +kernel) ⟨Nat.le_of_ble_eq_true rfl, Nat.le_of_ble_eq_true rfl⟩) ⟨fun a9 U g9 mk9 q9 => by obtain ⟨q0, q1, qP, qK, qD⟩ := q9; exact ⟨q0, q1, qP, va_K.moved (u := U) (U := U.calling g9 mk9 a9) (Vm.Alike.refl U.vm) qK, qD⟩, va_recv hKc hPc (ci := 4) (q0 := 0) rfl rfl, fun U hU hW => ⟨rfl, by rw [hU], by rw [hU]; exact hPc, va_K.moved hW.alike hKc, hDc.weaken (fun _ _ _ _ => trivial)⟩⟩ rfl rfl hl.1 rfl (lv_room (Nat.le_of_ble_eq_true rfl)) dL_law_704 ⟨Nat.le_of_ble_eq_true rfl, Nat.le_of_ble_eq_true rfl⟩) hS (fun q _ h => hFc q h) hFc (fun r2 u t H1 locs ht9 hvm9 hw hB hz9 hk9 hS => ?_)
  try dsimp only at hw
  generalize H1 = H at hS ⊢
  have hm := hw
  clear hw
  have heq : r1 = r2 := hc.trans hm.symm
  refine lv_icmp_eq (tgt := 853) hx hb dL_law_707 (by decide) (fun _ => ?_) (fun c9 => absurd heq c9)
  exact tail _ _ _ _ _ (Nat.le_of_ble_eq_true rfl) (Nat.le_of_ble_eq_true rfl) hS hl
set_option maxHeartbeats 4000000 in
set_option maxRecDepth 100000 in
theorem p1_same {p : Program} {e : Env} {s : State} {m : MethodId} {below : List Frame} {meth : Method} {c : Code} (l : Launch) {q0 L : Nat} {xs : Nat → Int32} (C0 : lw_At p s m meth c q0 L xs) (h8 : L = 8) (dC : Nat → ClassId) (dI : Nat → Nat → Nat) (cB cI cS : ClassId) (h kq : Nat) (k o b a : Nat → Nat) (A : Nat → Prop) (hA : ∀ q : Nat, s.heap.size ≤ q → A q) (hbA : ¬ A q0) (hK : va_K (dC, dI) vwCl [(cI, .int), (cB, .byte), (cS, .object "GlulxHeap$State")] s) {H : Heap} {locs : List Loc} {ls : Array Slot} (hP : va_P (dC, dI) vwCl (gw h kq none k o b 0 0 0 ++ kw cB k 0 zf ++ ow cB o 0 0 zf ++ sw cB cI b 1024 0 0 (inW 8192) zf zf ++ krw cS kq (fun _ => none) ++ mw cI a 1024 0 0 0 0 0 0 (inW 8192) zf zf zf zf zf zf zf zf zf zf) H) (hD : va_D A (gw h kq none k o b 0 0 0 ++ kw cB k 0 zf ++ ow cB o 0 0 zf ++ sw cB cI b 1024 0 0 (inW 8192) zf zf ++ krw cS kq (fun _ => none) ++ mw cI a 1024 0 0 0 0 0 0 (inW 8192) zf zf zf zf zf zf zf zf zf zf)) (hS : va_S A s.heap H locs) (hl : lv_has ls 4 [(3, .int (nI 0)), (2, .ref (a 0)), (1, .ref h), (0, .ref q0)]) (tail : ∀ (H : Heap) (locs : List Loc) (ls : Array Slot) (cells slots : Nat), cells ≤ 600000 → slots ≤ 7302249 → va_S A s.heap H locs → lv_has ls 4 [(3, .int (nI 0)), (2, .ref (a 0)), (1, .ref h), (0, .ref q0)] → W p l e room_1 s m #[Value.ref q0] below meth c H locs cells slots (lw_Z below #[Value.ref q0] s) (F0 m 853 ls [])) : W p l e room_1 s m #[Value.ref q0] below meth c H locs 22 78425 (lw_Z below #[Value.ref q0] s) (F0 m 712 ls []) := by
  obtain ⟨hx, hb, hr, hml, hown, hts0, hX, hbl, hlocks, hgv⟩ := id C0
  have hts : ∀ w ∈ wsL_law, w.before #[Value.ref q0] s = true := fun w h => hts0 w (wsL_law_in w h)
  refine lv_aload_n hx hb dL_law_712 rfl (lv_at hl 2 rfl) ?_
  have hPc := hP.sub (ws' := gw h kq none k o b 0 0 0 ++ krw cS kq (fun _ => none)) [0, 9] rfl
  have hKc := hK.sub (tys' := [(cI, .int), (cB, .byte), (cS, .object "GlulxHeap$State")]) [0, 1, 2] rfl
  refine vp_callSi (W.runV (As := []) (rest := []) ⟨hx, hb, hml, hown, hts⟩ (c_X3_same0 l dC dI cB cI cS h kq none k o b 0 0 0 (fun _ => none)  rfl) (cwV 0 hts gL_law_X3_same rfl rfl rfl (by decide +kernel) ⟨Nat.le_of_ble_eq_true rfl, Nat.le_of_ble_eq_true rfl⟩) ⟨fun a9 U g9 mk9 q9 => by obtain ⟨q0, qP, qK⟩ := q9; exact ⟨q0, qP, va_K.moved (u := U) (U := U.calling g9 mk9 a9) (Vm.Alike.refl U.vm) qK⟩, va_recv hKc hPc (ci := 3) (q0 := 0) rfl rfl, fun U hU hW => ⟨rfl, by rw [hU]; exact hPc, va_K.moved hW.alike hKc⟩⟩ rfl rfl hl.1 rfl (lv_room (Nat.le_of_ble_eq_true rfl)) dL_law_713 ⟨Nat.le_of_ble_eq_true rfl, Nat.le_of_ble_eq_true rfl⟩) (fun r1 hw => ?_)
  have hc := hw
  clear hw
  refine lv_aload_n hx hb dL_law_716 rfl (lv_at hl 1 rfl) ?_
  have hPc := hP.sub (ws' := mw cI a 1024 0 0 0 0 0 0 (inW 8192) zf zf zf zf zf zf zf zf zf zf) [10, 11, 12, 13, 14, 15, 16, 17, 18, 19, 20, 21] rfl
  have hKc := hK.sub (tys' := [(cI, .int)]) [0] rfl
  refine vp_callSi (W.runV (As := []) (rest := [.int r1]) ⟨hx, hb, hml, hown, hts⟩ (c_X4_same l dC dI cI a 1024 0 0 0 0 0 0 (inW 8192) zf zf zf zf zf zf zf zf zf zf  (by decide) (by decide) (by decide) (inW_lt 8192) (zf_lt 256 (by decide)) (zf_lt (2 ^ 31) (by decide)) (zf_lt (2 ^ 31) (by decide)) (zf_lt (2 ^ 31) (by decide)) (zf_lt (2 ^ 31) (by decide)) (zf_lt (2 ^ 31) (by decide)) (zf_lt (2 ^ 31) (by decide)) (zf_lt (2 ^ 31) (by decide)) (by decide)) (cwV 0 hts gL_law_X4_same rfl rfl rfl (by decide +kernel) ⟨Nat.le_of_ble_eq_true rfl, Nat.le_of_ble_eq_true rfl⟩) ⟨fun a9 U g9 mk9 q9 => by obtain ⟨q0, qP, qK⟩ := q9; exact ⟨q0, qP, va_K.moved (u := U) (U := U.calling g9 mk9 a9) (Vm.Alike.refl U.vm) qK⟩, va_recv hKc hPc (ci := 4) (q0 := 0) rfl rfl, fun U hU hW => ⟨rfl, by rw [hU]; exact hPc, va_K.moved hW.alike hKc⟩⟩ rfl rfl hl.1 rfl (lv_room (Nat.le_of_ble_eq_true rfl)) dL_law_717 ⟨Nat.le_of_ble_eq_true rfl, Nat.le_of_ble_eq_true rfl⟩) (fun r2 hw => ?_)
  have hm := hw
  clear hw
  have heq : r1 = r2 := hm.elim (fun q => hc.trans q.2.symm) (fun q => absurd rfl q.1)
  refine lv_icmp_eq (tgt := 853) hx hb dL_law_720 (by decide) (fun _ => ?_) (fun c9 => absurd heq c9)
  exact tail _ _ _ _ _ (Nat.le_of_ble_eq_true rfl) (Nat.le_of_ble_eq_true rfl) hS hl
set_option maxHeartbeats 4000000 in
set_option maxRecDepth 100000 in
theorem p1_write {p : Program} {e : Env} {s : State} {m : MethodId} {below : List Frame} {meth : Method} {c : Code} (l : Launch) {q0 L : Nat} {xs : Nat → Int32} (C0 : lw_At p s m meth c q0 L xs) (h8 : L = 8) (dC : Nat → ClassId) (dI : Nat → Nat → Nat) (cB cI cS : ClassId) (h kq : Nat) (k o b a : Nat → Nat) (A : Nat → Prop) (hA : ∀ q : Nat, s.heap.size ≤ q → A q) (hbA : ¬ A q0) (hK : va_K (dC, dI) vwCl [(cI, .int), (cB, .byte), (cS, .object "GlulxHeap$State")] s) {H : Heap} {locs : List Loc} {ls : Array Slot} (hP : va_P (dC, dI) vwCl (gw h kq none k o b 0 0 0 ++ kw cB k 0 zf ++ ow cB o 0 0 zf ++ sw cB cI b 1024 0 0 (inW 8192) zf zf ++ krw cS kq (fun _ => none) ++ mw cI a 1024 0 0 0 0 0 0 (inW 8192) zf zf zf zf zf zf zf zf zf zf) H) (hD : va_D A (gw h kq none k o b 0 0 0 ++ kw cB k 0 zf ++ ow cB o 0 0 zf ++ sw cB cI b 1024 0 0 (inW 8192) zf zf ++ krw cS kq (fun _ => none) ++ mw cI a 1024 0 0 0 0 0 0 (inW 8192) zf zf zf zf zf zf zf zf zf zf)) (hS : va_S A s.heap H locs) (hl : lv_has ls 4 [(3, .int (nI 0)), (2, .ref (a 0)), (1, .ref h), (0, .ref q0)]) (tail : ∀ (H : Heap) (locs : List Loc) (ls : Array Slot) (cells slots : Nat), cells ≤ 600000 → slots ≤ 7302249 → va_S A s.heap H locs → lv_has ls 4 [(3, .int (nI 0)), (2, .ref (a 0)), (1, .ref h), (0, .ref q0)] → W p l e room_1 s m #[Value.ref q0] below meth c H locs cells slots (lw_Z below #[Value.ref q0] s) (F0 m 853 ls [])) : W p l e room_1 s m #[Value.ref q0] below meth c H locs 22 78425 (lw_Z below #[Value.ref q0] s) (F0 m 725 ls []) := by
  obtain ⟨hx, hb, hr, hml, hown, hts0, hX, hbl, hlocks, hgv⟩ := id C0
  have hts : ∀ w ∈ wsL_law, w.before #[Value.ref q0] s = true := fun w h => hts0 w (wsL_law_in w h)
  refine lv_aload_n hx hb dL_law_725 rfl (lv_at hl 2 rfl) ?_
  have hPc := hP.sub (ws' := gw h kq none k o b 0 0 0 ++ ow cB o 0 0 zf ++ sw cB cI b 1024 0 0 (inW 8192) zf zf) [0, 3, 4, 5, 6, 7, 8] rfl
  have hKc := hK.sub (tys' := [(cI, .int), (cB, .byte)]) [0, 1] rfl
  have hDc := hD.sub (ws' := gw h kq none k o b 0 0 0 ++ ow cB o 0 0 zf ++ sw cB cI b 1024 0 0 (inW 8192) zf zf) [0, 3, 4, 5, 6, 7, 8] (by decide) rfl
  have hFc := va_free (wc := gw h kq none k o b 0 0 0 ++ ow cB o 0 0 zf ++ sw cB cI b 1024 0 0 (inW 8192) zf zf) hD hS hA [0, 3, 4, 5, 6, 7, 8] rfl
  refine va_calli (va_runV (As := []) (rest := []) ⟨hx, hb, hml, hown, hts⟩ (c_X3_writeN l dC dI cB cI cS h kq none k o b 0 0 0 0 0 zf 1024 0 0 (inW 8192) zf zf H.size  wfB_00 (inW_lt 8192) (zf_lt (2 ^ 31) (by decide)) (zf_lt (2 ^ 31) (by decide)) (by decide)) (cwV 0 hts gL_law_X3_write rfl rfl rfl (by decide +kernel) ⟨Nat.le_of_ble_eq_true rfl, Nat.le_of_ble_eq_true rfl⟩) ⟨fun a9 U g9 mk9 q9 => by obtain ⟨q0, q1, qP, qK, qD⟩ := q9; exact ⟨q0, q1, qP, va_K.moved (u := U) (U := U.calling g9 mk9 a9) (Vm.Alike.refl U.vm) qK, qD⟩, va_recv hKc hPc (ci := 3) (q0 := 0) rfl rfl, fun U hU hW => ⟨rfl, by rw [hU], by rw [hU]; exact hPc, va_K.moved hW.alike hKc, hDc.weaken (fun _ _ _ _ => trivial)⟩⟩ rfl rfl hl.1 rfl (lv_room (Nat.le_of_ble_eq_true rfl)) dL_law_726 ⟨Nat.le_of_ble_eq_true rfl, Nat.le_of_ble_eq_true rfl⟩) hS (fun q _ h => hFc q h) hFc (fun r1 u t H1 locs ht9 hvm9 hw hB hz9 hk9 hS => ?_)
  try dsimp only at hw
  obtain ⟨hP1, hK1, hD1⟩ := hB
  rw [ht9] at hP1
  obtain ⟨hP, hD⟩ := va_join (wr := mw cI a 1024 0 0 0 0 0 0 (inW 8192) zf zf zf zf zf zf zf zf zf zf) hP hD [0, 3, 4, 5, 6, 7, 8] [10, 11, 12, 13, 14, 15, 16, 17, 18, 19, 20, 21] rfl rfl (by decide) (by decide) hk9 hFc hP1 hD1
  have hP := hP.sub (ws' := mw cI a 1024 0 0 0 0 0 0 (inW 8192) zf zf zf zf zf zf zf zf zf zf) [0, 1, 2, 3, 4, 5, 6, 7, 8, 9, 10, 11] rfl
  have hD := hD.sub (ws' := mw cI a 1024 0 0 0 0 0 0 (inW 8192) zf zf zf zf zf zf zf zf zf zf) [0, 1, 2, 3, 4, 5, 6, 7, 8, 9, 10, 11] (by decide) rfl
  generalize H1 = H at hP hS ⊢
  have hc := hw
  clear hw
  refine lv_aload_n hx hb dL_law_729 rfl (lv_at hl 1 rfl) ?_
  have hPc := hP.sub (ws' := mw cI a 1024 0 0 0 0 0 0 (inW 8192) zf zf zf zf zf zf zf zf zf zf) [0, 1, 2, 3, 4, 5, 6, 7, 8, 9, 10, 11] rfl
  have hKc := hK.sub (tys' := [(cI, .int)]) [0] rfl
  have hDc := hD.sub (ws' := mw cI a 1024 0 0 0 0 0 0 (inW 8192) zf zf zf zf zf zf zf zf zf zf) [0, 1, 2, 3, 4, 5, 6, 7, 8, 9, 10, 11] (by decide) rfl
  have hFc := va_free (wc := mw cI a 1024 0 0 0 0 0 0 (inW 8192) zf zf zf zf zf zf zf zf zf zf) hD hS hA [0, 1, 2, 3, 4, 5, 6, 7, 8, 9, 10, 11] rfl
  refine va_calli (va_runV (As := []) (rest := [.int r1]) ⟨hx, hb, hml, hown, hts⟩ (c_X4_write l dC dI cI a 1024 0 0 0 0 0 0 (inW 8192) zf zf zf zf zf zf zf zf zf zf H.size  wfB_00 (inW_lt 8192) (zf_lt (2 ^ 31) (by decide)) (zf_lt (2 ^ 31) (by decide)) (zf_lt 256 (by decide))) (cwV 0 hts gL_law_X4_write rfl rfl rfl (by decide +kernel) ⟨Nat.le_of_ble_eq_true rfl, Nat.le_of_ble_eq_true rfl⟩) ⟨fun a9 U g9 mk9 q9 => by obtain ⟨q0, q1, qP, qK, qD⟩ := q9; exact ⟨q0, q1, qP, va_K.moved (u := U) (U := U.calling g9 mk9 a9) (Vm.Alike.refl U.vm) qK, qD⟩, va_recv hKc hPc (ci := 4) (q0 := 0) rfl rfl, fun U hU hW => ⟨rfl, by rw [hU], by rw [hU]; exact hPc, va_K.moved hW.alike hKc, hDc.weaken (fun _ _ _ _ => trivial)⟩⟩ rfl rfl hl.1 rfl (lv_room (Nat.le_of_ble_eq_true rfl)) dL_law_730 ⟨Nat.le_of_ble_eq_true rfl, Nat.le_of_ble_eq_true rfl⟩) hS (fun q _ h => hFc q h) hFc (fun r2 u t H1 locs ht9 hvm9 hw hB hz9 hk9 hS => ?_)
  try dsimp only at hw
  generalize H1 = H at hS ⊢
  have hm := hw
  clear hw
  have heq : r1 = r2 := by rw [hc.1.1, hm.1, Pre_len hc.2.1 hm.2.1]
  refine lv_icmp_eq (tgt := 853) hx hb dL_law_733 (by decide) (fun _ => ?_) (fun c9 => absurd heq c9)
  exact tail _ _ _ _ _ (Nat.le_of_ble_eq_true rfl) (Nat.le_of_ble_eq_true rfl) hS hl
set_option maxHeartbeats 4000000 in
set_option maxRecDepth 100000 in
theorem p1_code {p : Program} {e : Env} {s : State} {m : MethodId} {below : List Frame} {meth : Method} {c : Code} (l : Launch) {q0 L : Nat} {xs : Nat → Int32} (C0 : lw_At p s m meth c q0 L xs) (h8 : L = 8) (dC : Nat → ClassId) (dI : Nat → Nat → Nat) (cB cI cS : ClassId) (h kq : Nat) (k o b a : Nat → Nat) (A : Nat → Prop) (hA : ∀ q : Nat, s.heap.size ≤ q → A q) (hbA : ¬ A q0) (hK : va_K (dC, dI) vwCl [(cI, .int), (cB, .byte), (cS, .object "GlulxHeap$State")] s) {H : Heap} {locs : List Loc} {ls : Array Slot} (hP : va_P (dC, dI) vwCl (gw h kq none k o b 0 0 0 ++ kw cB k 0 zf ++ ow cB o 0 0 zf ++ sw cB cI b 1024 0 0 (inW 8192) zf zf ++ krw cS kq (fun _ => none) ++ mw cI a 1024 0 0 0 0 0 0 (inW 8192) zf zf zf zf zf zf zf zf zf zf) H) (hD : va_D A (gw h kq none k o b 0 0 0 ++ kw cB k 0 zf ++ ow cB o 0 0 zf ++ sw cB cI b 1024 0 0 (inW 8192) zf zf ++ krw cS kq (fun _ => none) ++ mw cI a 1024 0 0 0 0 0 0 (inW 8192) zf zf zf zf zf zf zf zf zf zf)) (hS : va_S A s.heap H locs) (hl : lv_has ls 4 [(3, .int (nI 0)), (2, .ref (a 0)), (1, .ref h), (0, .ref q0)]) (tail : ∀ (H : Heap) (locs : List Loc) (ls : Array Slot) (cells slots : Nat), cells ≤ 600000 → slots ≤ 7302249 → va_S A s.heap H locs → lv_has ls 4 [(3, .int (nI 0)), (2, .ref (a 0)), (1, .ref h), (0, .ref q0)] → W p l e room_1 s m #[Value.ref q0] below meth c H locs cells slots (lw_Z below #[Value.ref q0] s) (F0 m 853 ls [])) : W p l e room_1 s m #[Value.ref q0] below meth c H locs 22 78425 (lw_Z below #[Value.ref q0] s) (F0 m 738 ls []) := by
  obtain ⟨hx, hb, hr, hml, hown, hts0, hX, hbl, hlocks, hgv⟩ := id C0
  have hts : ∀ w ∈ wsL_law, w.before #[Value.ref q0] s = true := fun w h => hts0 w (wsL_law_in w h)
  refine lv_aload_n hx hb dL_law_738 rfl (lv_at hl 2 rfl) ?_
  refine lv_aload_n hx hb dL_law_739 rfl (lv_at hl 3 rfl) ?_
  refine lv_iload_n hx hb dL_law_740 rfl (lv_at hl 0 rfl) ?_
  refine lv_iconst (v := nI 1) hx hb dL_law_741 (by decide) ?_
  refine lv_iadd hx hb dL_law_742 ?_
  refine tpi (show nI 0 + nI 1 = nI 1 by decide) ?_
  refine va_sld hx hb hX hbl hbA hS (vp_in_nI (by omega) (by omega)) dL_law_743 ?_
  refine tpi (show xs (nI 1).toNatClampNeg = xs 1 by rw [nI_clamp (by decide)]) ?_
  have hPc := hP.sub (ws' := gw h kq none k o b 0 0 0 ++ kw cB k 0 zf ++ ow cB o 0 0 zf ++ sw cB cI b 1024 0 0 (inW 8192) zf zf) [0, 1, 2, 3, 4, 5, 6, 7, 8] rfl
  have hKc := hK.sub (tys' := [(cI, .int), (cB, .byte)]) [0, 1] rfl
  refine vp_callSi (W.runV (As := [.int (xs 1)]) (rest := []) ⟨hx, hb, hml, hown, hts⟩ (c_X3_code l dC dI cB cI h kq none k o b 0 0 0 0 zf 0 0 zf 1024 0 0 (inW 8192) zf zf (xs 1) (by decide) (by decide) (zf_lt 256 (by decide))) (cwV 1 hts gL_law_X3_code rfl rfl rfl (by decide +kernel) ⟨Nat.le_of_ble_eq_true rfl, Nat.le_of_ble_eq_true rfl⟩) ⟨fun a9 U g9 mk9 q9 => by obtain ⟨q0, qP, qK⟩ := q9; exact ⟨q0, qP, va_K.moved (u := U) (U := U.calling g9 mk9 a9) (Vm.Alike.refl U.vm) qK⟩, va_recv hKc hPc (ci := 3) (q0 := 0) rfl rfl, fun U hU hW => ⟨rfl, by rw [hU]; exact hPc, va_K.moved hW.alike hKc⟩⟩ rfl rfl hl.1 rfl (lv_room (Nat.le_of_ble_eq_true rfl)) dL_law_744 ⟨Nat.le_of_ble_eq_true rfl, Nat.le_of_ble_eq_true rfl⟩) (fun r1 hw => ?_)
  have hc := hw
  clear hw
  refine lv_aload_n hx hb dL_law_747 rfl (lv_at hl 1 rfl) ?_
  refine lv_aload_n hx hb dL_law_748 rfl (lv_at hl 3 rfl) ?_
  refine lv_iload_n hx hb dL_law_749 rfl (lv_at hl 0 rfl) ?_
  refine lv_iconst (v := nI 1) hx hb dL_law_750 (by decide) ?_
  refine lv_iadd hx hb dL_law_751 ?_
  refine tpi (show nI 0 + nI 1 = nI 1 by decide) ?_
  refine va_sld hx hb hX hbl hbA hS (vp_in_nI (by omega) (by omega)) dL_law_752 ?_
  refine tpi (show xs (nI 1).toNatClampNeg = xs 1 by rw [nI_clamp (by decide)]) ?_
  have hPc := hP.sub (ws' := mw cI a 1024 0 0 0 0 0 0 (inW 8192) zf zf zf zf zf zf zf zf zf zf) [10, 11, 12, 13, 14, 15, 16, 17, 18, 19, 20, 21] rfl
  have hKc := hK.sub (tys' := [(cI, .int)]) [0] rfl
  refine vp_callSi (W.runV (As := [.int (xs 1)]) (rest := [.int r1]) ⟨hx, hb, hml, hown, hts⟩ (c_X4_code l dC dI cI a 1024 0 0 0 0 0 0 (inW 8192) zf zf zf zf zf zf zf zf zf zf (xs 1) (by decide)) (cwV 1 hts gL_law_X4_code rfl rfl rfl (by decide +kernel) ⟨Nat.le_of_ble_eq_true rfl, Nat.le_of_ble_eq_true rfl⟩) ⟨fun a9 U g9 mk9 q9 => by obtain ⟨q0, qP, qK⟩ := q9; exact ⟨q0, qP, va_K.moved (u := U) (U := U.calling g9 mk9 a9) (Vm.Alike.refl U.vm) qK⟩, va_recv hKc hPc (ci := 4) (q0 := 0) rfl rfl, fun U hU hW => ⟨rfl, by rw [hU]; exact hPc, va_K.moved hW.alike hKc⟩⟩ rfl rfl hl.1 rfl (lv_room (Nat.le_of_ble_eq_true rfl)) dL_law_753 ⟨Nat.le_of_ble_eq_true rfl, Nat.le_of_ble_eq_true rfl⟩) (fun r2 hw => ?_)
  have hm := hw
  clear hw
  have heq : r1 = r2 := hc.trans hm.symm
  refine lv_icmp_eq (tgt := 853) hx hb dL_law_756 (by decide) (fun _ => ?_) (fun c9 => absurd heq c9)
  exact tail _ _ _ _ _ (Nat.le_of_ble_eq_true rfl) (Nat.le_of_ble_eq_true rfl) hS hl
set_option maxHeartbeats 4000000 in
set_option maxRecDepth 100000 in
theorem p1_poke {p : Program} {e : Env} {s : State} {m : MethodId} {below : List Frame} {meth : Method} {c : Code} (l : Launch) {q0 L : Nat} {xs : Nat → Int32} (C0 : lw_At p s m meth c q0 L xs) (h8 : L = 8) (dC : Nat → ClassId) (dI : Nat → Nat → Nat) (cB cI cS : ClassId) (h kq : Nat) (k o b a : Nat → Nat) (A : Nat → Prop) (hA : ∀ q : Nat, s.heap.size ≤ q → A q) (hbA : ¬ A q0) (hK : va_K (dC, dI) vwCl [(cI, .int), (cB, .byte), (cS, .object "GlulxHeap$State")] s) {H : Heap} {locs : List Loc} {ls : Array Slot} (hP : va_P (dC, dI) vwCl (gw h kq none k o b 0 0 0 ++ kw cB k 0 zf ++ ow cB o 0 0 zf ++ sw cB cI b 1024 0 0 (inW 8192) zf zf ++ krw cS kq (fun _ => none) ++ mw cI a 1024 0 0 0 0 0 0 (inW 8192) zf zf zf zf zf zf zf zf zf zf) H) (hD : va_D A (gw h kq none k o b 0 0 0 ++ kw cB k 0 zf ++ ow cB o 0 0 zf ++ sw cB cI b 1024 0 0 (inW 8192) zf zf ++ krw cS kq (fun _ => none) ++ mw cI a 1024 0 0 0 0 0 0 (inW 8192) zf zf zf zf zf zf zf zf zf zf)) (hS : va_S A s.heap H locs) (hl : lv_has ls 4 [(3, .int (nI 0)), (2, .ref (a 0)), (1, .ref h), (0, .ref q0)]) (tail : ∀ (H : Heap) (locs : List Loc) (ls : Array Slot) (cells slots : Nat), cells ≤ 600000 → slots ≤ 7302249 → va_S A s.heap H locs → lv_has ls 4 [(3, .int (nI 0)), (2, .ref (a 0)), (1, .ref h), (0, .ref q0)] → W p l e room_1 s m #[Value.ref q0] below meth c H locs cells slots (lw_Z below #[Value.ref q0] s) (F0 m 853 ls [])) : W p l e room_1 s m #[Value.ref q0] below meth c H locs 22 78425 (lw_Z below #[Value.ref q0] s) (F0 m 761 ls []) := by
  obtain ⟨hx, hb, hr, hml, hown, hts0, hX, hbl, hlocks, hgv⟩ := id C0
  have hts : ∀ w ∈ wsL_law, w.before #[Value.ref q0] s = true := fun w h => hts0 w (wsL_law_in w h)
  refine lv_aload_n hx hb dL_law_761 rfl (lv_at hl 2 rfl) ?_
  refine lv_aload_n hx hb dL_law_762 rfl (lv_at hl 3 rfl) ?_
  refine lv_iload_n hx hb dL_law_763 rfl (lv_at hl 0 rfl) ?_
  refine lv_iconst (v := nI 1) hx hb dL_law_764 (by decide) ?_
  refine lv_iadd hx hb dL_law_765 ?_
  refine tpi (show nI 0 + nI 1 = nI 1 by decide) ?_
  refine va_sld hx hb hX hbl hbA hS (vp_in_nI (by omega) (by omega)) dL_law_766 ?_
  refine tpi (show xs (nI 1).toNatClampNeg = xs 1 by rw [nI_clamp (by decide)]) ?_
  refine lv_aload_n hx hb dL_law_767 rfl (lv_at hl 3 rfl) ?_
  refine lv_iload_n hx hb dL_law_768 rfl (lv_at hl 0 rfl) ?_
  refine lv_iconst (v := nI 2) hx hb dL_law_769 (by decide) ?_
  refine lv_iadd hx hb dL_law_770 ?_
  refine tpi (show nI 0 + nI 2 = nI 2 by decide) ?_
  refine va_sld hx hb hX hbl hbA hS (vp_in_nI (by omega) (by omega)) dL_law_771 ?_
  refine tpi (show xs (nI 2).toNatClampNeg = xs 2 by rw [nI_clamp (by decide)]) ?_
  have hPc := hP.sub (ws' := gw h kq none k o b 0 0 0 ++ kw cB k 0 zf ++ ow cB o 0 0 zf ++ sw cB cI b 1024 0 0 (inW 8192) zf zf) [0, 1, 2, 3, 4, 5, 6, 7, 8] rfl
  have hKc := hK.sub (tys' := [(cI, .int), (cB, .byte)]) [0, 1] rfl
  have hDc := hD.sub (ws' := gw h kq none k o b 0 0 0 ++ kw cB k 0 zf ++ ow cB o 0 0 zf ++ sw cB cI b 1024 0 0 (inW 8192) zf zf) [0, 1, 2, 3, 4, 5, 6, 7, 8] (by decide) rfl
  have hFc := va_free (wc := gw h kq none k o b 0 0 0 ++ kw cB k 0 zf ++ ow cB o 0 0 zf ++ sw cB cI b 1024 0 0 (inW 8192) zf zf) hD hS hA [0, 1, 2, 3, 4, 5, 6, 7, 8] rfl
  refine va_calli (va_runV (As := [.int (xs 1), .int (xs 2)]) (rest := []) ⟨hx, hb, hml, hown, hts⟩ (c_X3_poke l dC dI cB cI h kq none k o b 0 0 0 0 zf 0 0 zf 1024 0 0 (inW 8192) zf zf H.size (xs 1) (xs 2) (by decide) (by decide) (zf_lt 256 (by decide))) (cwV 2 hts gL_law_X3_poke rfl rfl rfl (by decide +kernel) ⟨Nat.le_of_ble_eq_true rfl, Nat.le_of_ble_eq_true rfl⟩) ⟨fun a9 U g9 mk9 q9 => by obtain ⟨q0, q1, qP, qK, qD⟩ := q9; exact ⟨q0, q1, qP, va_K.moved (u := U) (U := U.calling g9 mk9 a9) (Vm.Alike.refl U.vm) qK, qD⟩, va_recv hKc hPc (ci := 3) (q0 := 0) rfl rfl, fun U hU hW => ⟨rfl, by rw [hU], by rw [hU]; exact hPc, va_K.moved hW.alike hKc, hDc.weaken (fun _ _ _ _ => trivial)⟩⟩ rfl rfl hl.1 rfl (lv_room (Nat.le_of_ble_eq_true rfl)) dL_law_772 ⟨Nat.le_of_ble_eq_true rfl, Nat.le_of_ble_eq_true rfl⟩) hS (fun q _ h => hFc q h) hFc (fun r1 u t H1 locs ht9 hvm9 hw hB hz9 hk9 hS => ?_)
  try dsimp only at hw
  obtain ⟨hP1, hK1, hD1⟩ := hB
  rw [ht9] at hP1
  obtain ⟨hP, hD⟩ := va_join (wr := mw cI a 1024 0 0 0 0 0 0 (inW 8192) zf zf zf zf zf zf zf zf zf zf) hP hD [0, 1, 2, 3, 4, 5, 6, 7, 8] [10, 11, 12, 13, 14, 15, 16, 17, 18, 19, 20, 21] rfl rfl (by decide) (by decide) hk9 hFc hP1 hD1
  have hP := hP.sub (ws' := mw cI a 1024 0 0 0 0 0 0 (inW 8192) zf zf zf zf zf zf zf zf zf zf) [0, 1, 2, 3, 4, 5, 6, 7, 8, 9, 10, 11] rfl
  have hD := hD.sub (ws' := mw cI a 1024 0 0 0 0 0 0 (inW 8192) zf zf zf zf zf zf zf zf zf zf) [0, 1, 2, 3, 4, 5, 6, 7, 8, 9, 10, 11] (by decide) rfl
  generalize H1 = H at hP hS ⊢
  have hc := hw
  clear hw
  refine lv_aload_n hx hb dL_law_775 rfl (lv_at hl 1 rfl) ?_
  refine lv_aload_n hx hb dL_law_776 rfl (lv_at hl 3 rfl) ?_
  refine lv_iload_n hx hb dL_law_777 rfl (lv_at hl 0 rfl) ?_
  refine lv_iconst (v := nI 1) hx hb dL_law_778 (by decide) ?_
  refine lv_iadd hx hb dL_law_779 ?_
  refine tpi (show nI 0 + nI 1 = nI 1 by decide) ?_
  refine va_sld hx hb hX hbl hbA hS (vp_in_nI (by omega) (by omega)) dL_law_780 ?_
  refine tpi (show xs (nI 1).toNatClampNeg = xs 1 by rw [nI_clamp (by decide)]) ?_
  refine lv_aload_n hx hb dL_law_781 rfl (lv_at hl 3 rfl) ?_
  refine lv_iload_n hx hb dL_law_782 rfl (lv_at hl 0 rfl) ?_
  refine lv_iconst (v := nI 2) hx hb dL_law_783 (by decide) ?_
  refine lv_iadd hx hb dL_law_784 ?_
  refine tpi (show nI 0 + nI 2 = nI 2 by decide) ?_
  refine va_sld hx hb hX hbl hbA hS (vp_in_nI (by omega) (by omega)) dL_law_785 ?_
  refine tpi (show xs (nI 2).toNatClampNeg = xs 2 by rw [nI_clamp (by decide)]) ?_
  have hPc := hP.sub (ws' := mw cI a 1024 0 0 0 0 0 0 (inW 8192) zf zf zf zf zf zf zf zf zf zf) [0, 1, 2, 3, 4, 5, 6, 7, 8, 9, 10, 11] rfl
  have hKc := hK.sub (tys' := [(cI, .int)]) [0] rfl
  have hDc := hD.sub (ws' := mw cI a 1024 0 0 0 0 0 0 (inW 8192) zf zf zf zf zf zf zf zf zf zf) [0, 1, 2, 3, 4, 5, 6, 7, 8, 9, 10, 11] (by decide) rfl
  have hFc := va_free (wc := mw cI a 1024 0 0 0 0 0 0 (inW 8192) zf zf zf zf zf zf zf zf zf zf) hD hS hA [0, 1, 2, 3, 4, 5, 6, 7, 8, 9, 10, 11] rfl
  refine va_calli (va_runV (As := [.int (xs 1), .int (xs 2)]) (rest := [.int r1]) ⟨hx, hb, hml, hown, hts⟩ (c_X4_poke l dC dI cI a 1024 0 0 0 0 0 0 (inW 8192) zf zf zf zf zf zf zf zf zf zf H.size (xs 1) (xs 2) (by decide)) (cwV 2 hts gL_law_X4_poke rfl rfl rfl (by decide +kernel) ⟨Nat.le_of_ble_eq_true rfl, Nat.le_of_ble_eq_true rfl⟩) ⟨fun a9 U g9 mk9 q9 => by obtain ⟨q0, q1, qP, qK, qD⟩ := q9; exact ⟨q0, q1, qP, va_K.moved (u := U) (U := U.calling g9 mk9 a9) (Vm.Alike.refl U.vm) qK, qD⟩, va_recv hKc hPc (ci := 4) (q0 := 0) rfl rfl, fun U hU hW => ⟨rfl, by rw [hU], by rw [hU]; exact hPc, va_K.moved hW.alike hKc, hDc.weaken (fun _ _ _ _ => trivial)⟩⟩ rfl rfl hl.1 rfl (lv_room (Nat.le_of_ble_eq_true rfl)) dL_law_786 ⟨Nat.le_of_ble_eq_true rfl, Nat.le_of_ble_eq_true rfl⟩) hS (fun q _ h => hFc q h) hFc (fun r2 u t H1 locs ht9 hvm9 hw hB hz9 hk9 hS => ?_)
  try dsimp only at hw
  generalize H1 = H at hS ⊢
  have hm := hw
  clear hw
  have heq : r1 = r2 := hc.trans hm.symm
  refine lv_icmp_eq (tgt := 853) hx hb dL_law_789 (by decide) (fun _ => ?_) (fun c9 => absurd heq c9)
  exact tail _ _ _ _ _ (Nat.le_of_ble_eq_true rfl) (Nat.le_of_ble_eq_true rfl) hS hl
set_option maxHeartbeats 4000000 in
set_option maxRecDepth 100000 in
theorem p1_cut {p : Program} {e : Env} {s : State} {m : MethodId} {below : List Frame} {meth : Method} {c : Code} (l : Launch) {q0 L : Nat} {xs : Nat → Int32} (C0 : lw_At p s m meth c q0 L xs) (h8 : L = 8) (dC : Nat → ClassId) (dI : Nat → Nat → Nat) (cB cI cS : ClassId) (h kq : Nat) (k o b a : Nat → Nat) (A : Nat → Prop) (hA : ∀ q : Nat, s.heap.size ≤ q → A q) (hbA : ¬ A q0) (hK : va_K (dC, dI) vwCl [(cI, .int), (cB, .byte), (cS, .object "GlulxHeap$State")] s) {H : Heap} {locs : List Loc} {ls : Array Slot} (hP : va_P (dC, dI) vwCl (gw h kq none k o b 0 0 0 ++ kw cB k 0 zf ++ ow cB o 0 0 zf ++ sw cB cI b 1024 0 0 (inW 8192) zf zf ++ krw cS kq (fun _ => none) ++ mw cI a 1024 0 0 0 0 0 0 (inW 8192) zf zf zf zf zf zf zf zf zf zf) H) (hD : va_D A (gw h kq none k o b 0 0 0 ++ kw cB k 0 zf ++ ow cB o 0 0 zf ++ sw cB cI b 1024 0 0 (inW 8192) zf zf ++ krw cS kq (fun _ => none) ++ mw cI a 1024 0 0 0 0 0 0 (inW 8192) zf zf zf zf zf zf zf zf zf zf)) (hS : va_S A s.heap H locs) (hl : lv_has ls 4 [(3, .int (nI 0)), (2, .ref (a 0)), (1, .ref h), (0, .ref q0)]) (tail : ∀ (H : Heap) (locs : List Loc) (ls : Array Slot) (cells slots : Nat), cells ≤ 600000 → slots ≤ 7302249 → va_S A s.heap H locs → lv_has ls 4 [(3, .int (nI 0)), (2, .ref (a 0)), (1, .ref h), (0, .ref q0)] → W p l e room_1 s m #[Value.ref q0] below meth c H locs cells slots (lw_Z below #[Value.ref q0] s) (F0 m 853 ls [])) : W p l e room_1 s m #[Value.ref q0] below meth c H locs 22 78425 (lw_Z below #[Value.ref q0] s) (F0 m 794 ls []) := by
  obtain ⟨hx, hb, hr, hml, hown, hts0, hX, hbl, hlocks, hgv⟩ := id C0
  have hts : ∀ w ∈ wsL_law, w.before #[Value.ref q0] s = true := fun w h => hts0 w (wsL_law_in w h)
  refine lv_aload_n hx hb dL_law_794 rfl (lv_at hl 2 rfl) ?_
  refine lv_aload_n hx hb dL_law_795 rfl (lv_at hl 3 rfl) ?_
  refine lv_iload_n hx hb dL_law_796 rfl (lv_at hl 0 rfl) ?_
  refine lv_iconst (v := nI 1) hx hb dL_law_797 (by decide) ?_
  refine lv_iadd hx hb dL_law_798 ?_
  refine tpi (show nI 0 + nI 1 = nI 1 by decide) ?_
  refine va_sld hx hb hX hbl hbA hS (vp_in_nI (by omega) (by omega)) dL_law_799 ?_
  refine tpi (show xs (nI 1).toNatClampNeg = xs 1 by rw [nI_clamp (by decide)]) ?_
  have hPc := hP.sub (ws' := gw h kq none k o b 0 0 0 ++ kw cB k 0 zf ++ ow cB o 0 0 zf ++ sw cB cI b 1024 0 0 (inW 8192) zf zf) [0, 1, 2, 3, 4, 5, 6, 7, 8] rfl
  have hKc := hK.sub (tys' := [(cI, .int), (cB, .byte)]) [0, 1] rfl
  have hDc := hD.sub (ws' := gw h kq none k o b 0 0 0 ++ kw cB k 0 zf ++ ow cB o 0 0 zf ++ sw cB cI b 1024 0 0 (inW 8192) zf zf) [0, 1, 2, 3, 4, 5, 6, 7, 8] (by decide) rfl
  have hFc := va_free (wc := gw h kq none k o b 0 0 0 ++ kw cB k 0 zf ++ ow cB o 0 0 zf ++ sw cB cI b 1024 0 0 (inW 8192) zf zf) hD hS hA [0, 1, 2, 3, 4, 5, 6, 7, 8] rfl
  refine va_calli (va_runV (As := [.int (xs 1)]) (rest := []) ⟨hx, hb, hml, hown, hts⟩ (c_X3_cut l dC dI cB cI h kq none k o b 0 0 0 0 zf 0 0 zf 1024 0 0 (inW 8192) zf zf H.size (xs 1) (by decide)) (cwV 1 hts gL_law_X3_cut rfl rfl rfl (by decide +kernel) ⟨Nat.le_of_ble_eq_true rfl, Nat.le_of_ble_eq_true rfl⟩) ⟨fun a9 U g9 mk9 q9 => by obtain ⟨q0, q1, qP, qK, qD⟩ := q9; exact ⟨q0, q1, qP, va_K.moved (u := U) (U := U.calling g9 mk9 a9) (Vm.Alike.refl U.vm) qK, qD⟩, va_recv hKc hPc (ci := 3) (q0 := 0) rfl rfl, fun U hU hW => ⟨rfl, by rw [hU], by rw [hU]; exact hPc, va_K.moved hW.alike hKc, hDc.weaken (fun _ _ _ _ => trivial)⟩⟩ rfl rfl hl.1 rfl (lv_room (Nat.le_of_ble_eq_true rfl)) dL_law_800 ⟨Nat.le_of_ble_eq_true rfl, Nat.le_of_ble_eq_true rfl⟩) hS (fun q _ h => hFc q h) hFc (fun r1 u t H1 locs ht9 hvm9 hw hB hz9 hk9 hS => ?_)
  try dsimp only at hw
  obtain ⟨hP1, hK1, hD1⟩ := hB
  rw [ht9] at hP1
  obtain ⟨hP, hD⟩ := va_join (wr := mw cI a 1024 0 0 0 0 0 0 (inW 8192) zf zf zf zf zf zf zf zf zf zf) hP hD [0, 1, 2, 3, 4, 5, 6, 7, 8] [10, 11, 12, 13, 14, 15, 16, 17, 18, 19, 20, 21] rfl rfl (by decide) (by decide) hk9 hFc hP1 hD1
  have hP := hP.sub (ws' := mw cI a 1024 0 0 0 0 0 0 (inW 8192) zf zf zf zf zf zf zf zf zf zf) [0, 1, 2, 3, 4, 5, 6, 7, 8, 9, 10, 11] rfl
  have hD := hD.sub (ws' := mw cI a 1024 0 0 0 0 0 0 (inW 8192) zf zf zf zf zf zf zf zf zf zf) [0, 1, 2, 3, 4, 5, 6, 7, 8, 9, 10, 11] (by decide) rfl
  generalize H1 = H at hP hS ⊢
  have hc := hw
  clear hw
  refine lv_aload_n hx hb dL_law_803 rfl (lv_at hl 1 rfl) ?_
  refine lv_aload_n hx hb dL_law_804 rfl (lv_at hl 3 rfl) ?_
  refine lv_iload_n hx hb dL_law_805 rfl (lv_at hl 0 rfl) ?_
  refine lv_iconst (v := nI 1) hx hb dL_law_806 (by decide) ?_
  refine lv_iadd hx hb dL_law_807 ?_
  refine tpi (show nI 0 + nI 1 = nI 1 by decide) ?_
  refine va_sld hx hb hX hbl hbA hS (vp_in_nI (by omega) (by omega)) dL_law_808 ?_
  refine tpi (show xs (nI 1).toNatClampNeg = xs 1 by rw [nI_clamp (by decide)]) ?_
  have hPc := hP.sub (ws' := mw cI a 1024 0 0 0 0 0 0 (inW 8192) zf zf zf zf zf zf zf zf zf zf) [0, 1, 2, 3, 4, 5, 6, 7, 8, 9, 10, 11] rfl
  have hKc := hK.sub (tys' := [(cI, .int)]) [0] rfl
  have hDc := hD.sub (ws' := mw cI a 1024 0 0 0 0 0 0 (inW 8192) zf zf zf zf zf zf zf zf zf zf) [0, 1, 2, 3, 4, 5, 6, 7, 8, 9, 10, 11] (by decide) rfl
  have hFc := va_free (wc := mw cI a 1024 0 0 0 0 0 0 (inW 8192) zf zf zf zf zf zf zf zf zf zf) hD hS hA [0, 1, 2, 3, 4, 5, 6, 7, 8, 9, 10, 11] rfl
  refine va_calli (va_runV (As := [.int (xs 1)]) (rest := [.int r1]) ⟨hx, hb, hml, hown, hts⟩ (c_X4_cut l dC dI cI a 1024 0 0 0 0 0 0 (inW 8192) zf zf zf zf zf zf zf zf zf zf H.size (xs 1) (by decide)) (cwV 1 hts gL_law_X4_cut rfl rfl rfl (by decide +kernel) ⟨Nat.le_of_ble_eq_true rfl, Nat.le_of_ble_eq_true rfl⟩) ⟨fun a9 U g9 mk9 q9 => by obtain ⟨q0, q1, qP, qK, qD⟩ := q9; exact ⟨q0, q1, qP, va_K.moved (u := U) (U := U.calling g9 mk9 a9) (Vm.Alike.refl U.vm) qK, qD⟩, va_recv hKc hPc (ci := 4) (q0 := 0) rfl rfl, fun U hU hW => ⟨rfl, by rw [hU], by rw [hU]; exact hPc, va_K.moved hW.alike hKc, hDc.weaken (fun _ _ _ _ => trivial)⟩⟩ rfl rfl hl.1 rfl (lv_room (Nat.le_of_ble_eq_true rfl)) dL_law_809 ⟨Nat.le_of_ble_eq_true rfl, Nat.le_of_ble_eq_true rfl⟩) hS (fun q _ h => hFc q h) hFc (fun r2 u t H1 locs ht9 hvm9 hw hB hz9 hk9 hS => ?_)
  try dsimp only at hw
  generalize H1 = H at hS ⊢
  have hm := hw
  clear hw
  have heq : r1 = r2 := hc.trans hm.symm
  refine lv_icmp_eq (tgt := 853) hx hb dL_law_812 (by decide) (fun _ => ?_) (fun c9 => absurd heq c9)
  exact tail _ _ _ _ _ (Nat.le_of_ble_eq_true rfl) (Nat.le_of_ble_eq_true rfl) hS hl
set_option maxHeartbeats 4000000 in
set_option maxRecDepth 100000 in
theorem p1_read {p : Program} {e : Env} {s : State} {m : MethodId} {below : List Frame} {meth : Method} {c : Code} (l : Launch) {q0 L : Nat} {xs : Nat → Int32} (C0 : lw_At p s m meth c q0 L xs) (h8 : L = 8) (dC : Nat → ClassId) (dI : Nat → Nat → Nat) (cB cI cS : ClassId) (h kq : Nat) (k o b a : Nat → Nat) (A : Nat → Prop) (hA : ∀ q : Nat, s.heap.size ≤ q → A q) (hbA : ¬ A q0) (hK : va_K (dC, dI) vwCl [(cI, .int), (cB, .byte), (cS, .object "GlulxHeap$State")] s) {H : Heap} {locs : List Loc} {ls : Array Slot} (hP : va_P (dC, dI) vwCl (gw h kq none k o b 0 0 0 ++ kw cB k 0 zf ++ ow cB o 0 0 zf ++ sw cB cI b 1024 0 0 (inW 8192) zf zf ++ krw cS kq (fun _ => none) ++ mw cI a 1024 0 0 0 0 0 0 (inW 8192) zf zf zf zf zf zf zf zf zf zf) H) (hD : va_D A (gw h kq none k o b 0 0 0 ++ kw cB k 0 zf ++ ow cB o 0 0 zf ++ sw cB cI b 1024 0 0 (inW 8192) zf zf ++ krw cS kq (fun _ => none) ++ mw cI a 1024 0 0 0 0 0 0 (inW 8192) zf zf zf zf zf zf zf zf zf zf)) (hS : va_S A s.heap H locs) (hl : lv_has ls 4 [(3, .int (nI 0)), (2, .ref (a 0)), (1, .ref h), (0, .ref q0)]) (tail : ∀ (H : Heap) (locs : List Loc) (ls : Array Slot) (cells slots : Nat), cells ≤ 600000 → slots ≤ 7302249 → va_S A s.heap H locs → lv_has ls 4 [(3, .int (nI 0)), (2, .ref (a 0)), (1, .ref h), (0, .ref q0)] → W p l e room_1 s m #[Value.ref q0] below meth c H locs cells slots (lw_Z below #[Value.ref q0] s) (F0 m 853 ls [])) : W p l e room_1 s m #[Value.ref q0] below meth c H locs 22 78425 (lw_Z below #[Value.ref q0] s) (F0 m 817 ls []) := by
  obtain ⟨hx, hb, hr, hml, hown, hts0, hX, hbl, hlocks, hgv⟩ := id C0
  have hts : ∀ w ∈ wsL_law, w.before #[Value.ref q0] s = true := fun w h => hts0 w (wsL_law_in w h)
  refine lv_aload_n hx hb dL_law_817 rfl (lv_at hl 2 rfl) ?_
  have hPc := hP.sub (ws' := gw h kq none k o b 0 0 0 ++ ow cB o 0 0 zf ++ sw cB cI b 1024 0 0 (inW 8192) zf zf) [0, 3, 4, 5, 6, 7, 8] rfl
  have hKc := hK.sub (tys' := [(cI, .int), (cB, .byte)]) [0, 1] rfl
  have hN29 := va_Nw.of (w := .methodLinkNest RX3 29 yX2_init "GlulxHeap") rfl (hts0 _ (List.mem_of_getElem? (i := 75) (by decide +kernel)))
  have hN79 := va_Nw.of (w := .methodLinkNest RX0 79 yX3_isSize "GlulxHeap") rfl (hts0 _ (List.mem_of_getElem? (i := 400) (by decide +kernel)))
  have hDc := hD.sub (ws' := gw h kq none k o b 0 0 0 ++ ow cB o 0 0 zf ++ sw cB cI b 1024 0 0 (inW 8192) zf zf) [0, 3, 4, 5, 6, 7, 8] (by decide) rfl
  have hFc := va_free (wc := gw h kq none k o b 0 0 0 ++ ow cB o 0 0 zf ++ sw cB cI b 1024 0 0 (inW 8192) zf zf) hD hS hA [0, 3, 4, 5, 6, 7, 8] rfl
  refine va_calli (va_runV (As := []) (rest := []) ⟨hx, hb, hml, hown, hts⟩ (c_X3_readWN l dC dI cB cI cS h kq k o b 0 0 0 0 0 zf 1024 0 0 (inW 8192) zf zf H.size  0 (by decide) (by decide) (zf_lt 256 (by decide)) (rdKS_00 _)) (cwV 0 hts gL_law_X3_read rfl rfl rfl (by decide +kernel) ⟨Nat.le_of_ble_eq_true rfl, Nat.le_of_ble_eq_true rfl⟩) ⟨fun a9 U g9 mk9 q9 => by obtain ⟨q0, q1, qP, qK, qD, qN29, qN79⟩ := q9; exact ⟨q0, q1, qP, va_K.moved (u := U) (U := U.calling g9 mk9 a9) (Vm.Alike.refl U.vm) qK, qD, va_Nw.same rfl rfl qN29, va_Nw.same rfl rfl qN79⟩, va_recv hKc hPc (ci := 3) (q0 := 0) rfl rfl, fun U hU hW => ⟨rfl, by rw [hU], by rw [hU]; exact hPc, va_K.moved hW.alike hKc, hDc.weaken (fun _ _ _ _ => trivial), va_Nw.warmM hW hN29, va_Nw.warmM hW hN79⟩⟩ rfl rfl hl.1 rfl (lv_room (Nat.le_of_ble_eq_true rfl)) dL_law_818 ⟨Nat.le_of_ble_eq_true rfl, Nat.le_of_ble_eq_true rfl⟩) hS (fun q _ h => hFc q h) hFc (fun r1 u t H1 locs ht9 hvm9 hw hB hz9 hk9 hS => ?_)
  try dsimp only at hw
  obtain ⟨hP1, hK1, hD1⟩ := hB
  rw [ht9] at hP1
  obtain ⟨hP, hD⟩ := va_join (wr := mw cI a 1024 0 0 0 0 0 0 (inW 8192) zf zf zf zf zf zf zf zf zf zf) hP hD [0, 3, 4, 5, 6, 7, 8] [10, 11, 12, 13, 14, 15, 16, 17, 18, 19, 20, 21] rfl rfl (by decide) (by decide) hk9 hFc hP1 hD1
  have hP := hP.sub (ws' := mw cI a 1024 0 0 0 0 0 0 (inW 8192) zf zf zf zf zf zf zf zf zf zf) [0, 1, 2, 3, 4, 5, 6, 7, 8, 9, 10, 11] rfl
  have hD := hD.sub (ws' := mw cI a 1024 0 0 0 0 0 0 (inW 8192) zf zf zf zf zf zf zf zf zf zf) [0, 1, 2, 3, 4, 5, 6, 7, 8, 9, 10, 11] (by decide) rfl
  generalize H1 = H at hP hS ⊢
  have hc := hw
  clear hw
  refine lv_aload_n hx hb dL_law_821 rfl (lv_at hl 1 rfl) ?_
  have hPc := hP.sub (ws' := mw cI a 1024 0 0 0 0 0 0 (inW 8192) zf zf zf zf zf zf zf zf zf zf) [0, 1, 2, 3, 4, 5, 6, 7, 8, 9, 10, 11] rfl
  have hKc := hK.sub (tys' := [(cI, .int)]) [0] rfl
  have hDc := hD.sub (ws' := mw cI a 1024 0 0 0 0 0 0 (inW 8192) zf zf zf zf zf zf zf zf zf zf) [0, 1, 2, 3, 4, 5, 6, 7, 8, 9, 10, 11] (by decide) rfl
  have hFc := va_free (wc := mw cI a 1024 0 0 0 0 0 0 (inW 8192) zf zf zf zf zf zf zf zf zf zf) hD hS hA [0, 1, 2, 3, 4, 5, 6, 7, 8, 9, 10, 11] rfl
  refine va_calli (va_runV (As := []) (rest := [.int r1]) ⟨hx, hb, hml, hown, hts⟩ (c_X4_read l dC dI cI a 1024 0 0 0 0 0 0 (inW 8192) zf zf zf zf zf zf zf zf zf zf H.size  (by decide) (by decide) (by decide) (by decide) (zf_lt 256 (by decide)) (zf_lt (2 ^ 31) (by decide)) (zf_lt (2 ^ 31) (by decide)) (zf_lt (2 ^ 31) (by decide)) (zf_lt (2 ^ 31) (by decide)) (zf_lt (2 ^ 31) (by decide)) (inW_lt 8192) (zf_lt 256 (by decide)) (zf_lt (2 ^ 31) (by decide)) (zf_lt (2 ^ 31) (by decide))) (cwV 0 hts gL_law_X4_read rfl rfl rfl (by decide +kernel) ⟨Nat.le_of_ble_eq_true rfl, Nat.le_of_ble_eq_true rfl⟩) ⟨fun a9 U g9 mk9 q9 => by obtain ⟨q0, q1, qP, qK, qD⟩ := q9; exact ⟨q0, q1, qP, va_K.moved (u := U) (U := U.calling g9 mk9 a9) (Vm.Alike.refl U.vm) qK, qD⟩, va_recv hKc hPc (ci := 4) (q0 := 0) rfl rfl, fun U hU hW => ⟨rfl, by rw [hU], by rw [hU]; exact hPc, va_K.moved hW.alike hKc, hDc.weaken (fun _ _ _ _ => trivial)⟩⟩ rfl rfl hl.1 rfl (lv_room (Nat.le_of_ble_eq_true rfl)) dL_law_822 ⟨Nat.le_of_ble_eq_true rfl, Nat.le_of_ble_eq_true rfl⟩) hS (fun q _ h => hFc q h) hFc (fun r2 u t H1 locs ht9 hvm9 hw hB hz9 hk9 hS => ?_)
  try dsimp only at hw
  generalize H1 = H at hS ⊢
  have hm := hw
  clear hw
  have heq : r1 = r2 := by rw [rdS_00] at hm; rw [hc.1.1, hm.2.2.2.2.2.1]
  refine lv_icmp_eq (tgt := 853) hx hb dL_law_825 (by decide) (fun _ => ?_) (fun c9 => absurd heq c9)
  exact tail _ _ _ _ _ (Nat.le_of_ble_eq_true rfl) (Nat.le_of_ble_eq_true rfl) hS hl
set_option maxHeartbeats 4000000 in
set_option maxRecDepth 100000 in
theorem p1_told {p : Program} {e : Env} {s : State} {m : MethodId} {below : List Frame} {meth : Method} {c : Code} (l : Launch) {q0 L : Nat} {xs : Nat → Int32} (C0 : lw_At p s m meth c q0 L xs) (h8 : L = 8) (dC : Nat → ClassId) (dI : Nat → Nat → Nat) (cB cI cS : ClassId) (h kq : Nat) (k o b a : Nat → Nat) (A : Nat → Prop) (hA : ∀ q : Nat, s.heap.size ≤ q → A q) (hbA : ¬ A q0) (hK : va_K (dC, dI) vwCl [(cI, .int), (cB, .byte), (cS, .object "GlulxHeap$State")] s) {H : Heap} {locs : List Loc} {ls : Array Slot} (hP : va_P (dC, dI) vwCl (gw h kq none k o b 0 0 0 ++ kw cB k 0 zf ++ ow cB o 0 0 zf ++ sw cB cI b 1024 0 0 (inW 8192) zf zf ++ krw cS kq (fun _ => none) ++ mw cI a 1024 0 0 0 0 0 0 (inW 8192) zf zf zf zf zf zf zf zf zf zf) H) (hD : va_D A (gw h kq none k o b 0 0 0 ++ kw cB k 0 zf ++ ow cB o 0 0 zf ++ sw cB cI b 1024 0 0 (inW 8192) zf zf ++ krw cS kq (fun _ => none) ++ mw cI a 1024 0 0 0 0 0 0 (inW 8192) zf zf zf zf zf zf zf zf zf zf)) (hS : va_S A s.heap H locs) (hl : lv_has ls 4 [(3, .int (nI 0)), (2, .ref (a 0)), (1, .ref h), (0, .ref q0)]) (tail : ∀ (H : Heap) (locs : List Loc) (ls : Array Slot) (cells slots : Nat), cells ≤ 600000 → slots ≤ 7302249 → va_S A s.heap H locs → lv_has ls 4 [(3, .int (nI 0)), (2, .ref (a 0)), (1, .ref h), (0, .ref q0)] → W p l e room_1 s m #[Value.ref q0] below meth c H locs cells slots (lw_Z below #[Value.ref q0] s) (F0 m 853 ls [])) : W p l e room_1 s m #[Value.ref q0] below meth c H locs 22 78425 (lw_Z below #[Value.ref q0] s) (F0 m 830 ls []) := by
  obtain ⟨hx, hb, hr, hml, hown, hts0, hX, hbl, hlocks, hgv⟩ := id C0
  have hts : ∀ w ∈ wsL_law, w.before #[Value.ref q0] s = true := fun w h => hts0 w (wsL_law_in w h)
  refine lv_aload_n hx hb dL_law_830 rfl (lv_at hl 2 rfl) ?_
  refine lv_aload_n hx hb dL_law_831 rfl (lv_at hl 3 rfl) ?_
  refine lv_iload_n hx hb dL_law_832 rfl (lv_at hl 0 rfl) ?_
  refine lv_iconst (v := nI 1) hx hb dL_law_833 (by decide) ?_
  refine lv_iadd hx hb dL_law_834 ?_
  refine tpi (show nI 0 + nI 1 = nI 1 by decide) ?_
  refine va_sld hx hb hX hbl hbA hS (vp_in_nI (by omega) (by omega)) dL_law_835 ?_
  refine tpi (show xs (nI 1).toNatClampNeg = xs 1 by rw [nI_clamp (by decide)]) ?_
  have hPc := hP.sub (ws' := gw h kq none k o b 0 0 0 ++ kw cB k 0 zf ++ ow cB o 0 0 zf ++ sw cB cI b 1024 0 0 (inW 8192) zf zf) [0, 1, 2, 3, 4, 5, 6, 7, 8] rfl
  have hKc := hK.sub (tys' := [(cI, .int), (cB, .byte)]) [0, 1] rfl
  refine vp_callSi (W.runV (As := [.int (xs 1)]) (rest := []) ⟨hx, hb, hml, hown, hts⟩ (c_X3_told l dC dI cB cI h kq none k o b 0 0 0 0 zf 0 0 zf 1024 0 0 (inW 8192) zf zf (xs 1) wfB_00) (cwV 1 hts gL_law_X3_told rfl rfl rfl (by decide +kernel) ⟨Nat.le_of_ble_eq_true rfl, Nat.le_of_ble_eq_true rfl⟩) ⟨fun a9 U g9 mk9 q9 => by obtain ⟨q0, qP, qK⟩ := q9; exact ⟨q0, qP, va_K.moved (u := U) (U := U.calling g9 mk9 a9) (Vm.Alike.refl U.vm) qK⟩, va_recv hKc hPc (ci := 3) (q0 := 0) rfl rfl, fun U hU hW => ⟨rfl, by rw [hU]; exact hPc, va_K.moved hW.alike hKc⟩⟩ rfl rfl hl.1 rfl (lv_room (Nat.le_of_ble_eq_true rfl)) dL_law_836 ⟨Nat.le_of_ble_eq_true rfl, Nat.le_of_ble_eq_true rfl⟩) (fun r1 hw => ?_)
  have hc := hw
  clear hw
  refine lv_aload_n hx hb dL_law_839 rfl (lv_at hl 1 rfl) ?_
  refine lv_aload_n hx hb dL_law_840 rfl (lv_at hl 3 rfl) ?_
  refine lv_iload_n hx hb dL_law_841 rfl (lv_at hl 0 rfl) ?_
  refine lv_iconst (v := nI 1) hx hb dL_law_842 (by decide) ?_
  refine lv_iadd hx hb dL_law_843 ?_
  refine tpi (show nI 0 + nI 1 = nI 1 by decide) ?_
  refine va_sld hx hb hX hbl hbA hS (vp_in_nI (by omega) (by omega)) dL_law_844 ?_
  refine tpi (show xs (nI 1).toNatClampNeg = xs 1 by rw [nI_clamp (by decide)]) ?_
  have hPc := hP.sub (ws' := mw cI a 1024 0 0 0 0 0 0 (inW 8192) zf zf zf zf zf zf zf zf zf zf) [10, 11, 12, 13, 14, 15, 16, 17, 18, 19, 20, 21] rfl
  have hKc := hK.sub (tys' := [(cI, .int)]) [0] rfl
  refine vp_callSi (W.runV (As := [.int (xs 1)]) (rest := [.int r1]) ⟨hx, hb, hml, hown, hts⟩ (c_X4_told l dC dI cI a 1024 0 0 0 0 0 0 (inW 8192) zf zf zf zf zf zf zf zf zf zf (xs 1) wfB_00) (cwV 1 hts gL_law_X4_told rfl rfl rfl (by decide +kernel) ⟨Nat.le_of_ble_eq_true rfl, Nat.le_of_ble_eq_true rfl⟩) ⟨fun a9 U g9 mk9 q9 => by obtain ⟨q0, qP, qK⟩ := q9; exact ⟨q0, qP, va_K.moved (u := U) (U := U.calling g9 mk9 a9) (Vm.Alike.refl U.vm) qK⟩, va_recv hKc hPc (ci := 4) (q0 := 0) rfl rfl, fun U hU hW => ⟨rfl, by rw [hU]; exact hPc, va_K.moved hW.alike hKc⟩⟩ rfl rfl hl.1 rfl (lv_room (Nat.le_of_ble_eq_true rfl)) dL_law_845 ⟨Nat.le_of_ble_eq_true rfl, Nat.le_of_ble_eq_true rfl⟩) (fun r2 hw => ?_)
  have hm := hw
  clear hw
  have heq : r1 = r2 := hc.trans hm.symm
  refine lv_icmp_eq (tgt := 853) hx hb dL_law_848 (by decide) (fun _ => ?_) (fun c9 => absurd heq c9)
  exact tail _ _ _ _ _ (Nat.le_of_ble_eq_true rfl) (Nat.le_of_ble_eq_true rfl) hS hl
set_option maxHeartbeats 4000000 in
set_option maxRecDepth 100000 in
theorem p1_tail {p : Program} {e : Env} {s : State} {m : MethodId} {below : List Frame} {meth : Method} {c : Code} (l : Launch) {q0 L : Nat} {xs : Nat → Int32} (C0 : lw_At p s m meth c q0 L xs) (h8 : L ≤ 8) (h : Nat) (a : Nat → Nat) (A : Nat → Prop) (hAs : ∀ q : Nat, A q → s.heap.size ≤ q) (hbA : ¬ A q0) (H : Heap) (locs : List Loc) (ls : Array Slot) (cells slots : Nat) (hc : cells ≤ 600000) (hs : slots ≤ 7302249) (hS : va_S A s.heap H locs) (hl : lv_has ls 4 [(3, .int (nI 0)), (2, .ref (a 0)), (1, .ref h), (0, .ref q0)]) : W p l e room_1 s m #[Value.ref q0] below meth c H locs cells slots (lw_Z below #[Value.ref q0] s) (F0 m 853 ls []) := by
  obtain ⟨hx, hb, hr, hml, hown, hts0, hX, hbl, hlocks, hgv⟩ := id C0
  refine lv_iinc (v := nI 8) (lv' := [(3, .int (nI 8)), (2, .ref (a 0)), (1, .ref h), (0, .ref q0)]) hx hb dL_law_853 hl (k := 0) rfl (by decide) (by decide) rfl (fun ls hl => ?_)
  refine lv_goto (tgt := 18) hx hb dL_law_856 (by decide) ?_
  refine lv_iload_n hx hb dL_law_18 rfl (lv_at hl 0 rfl) ?_
  refine lv_aload_n hx hb dL_law_19 rfl (lv_at hl 3 rfl) ?_
  refine va_slen hx hb hX hbl hbA hS dL_law_20 ?_
  refine tpi (show Int32.ofNat L = nI L from rfl) ?_
  refine lv_bipush (v := nI 8) hx hb dL_law_21 (by decide) ?_
  refine lv_isub hx hb dL_law_23 ?_
  refine lv_icmp_gt (tgt := 859) hx hb dL_law_24 (by decide) (fun c9 => ?_) (fun c9 => absurd ((gt8 (by decide) (by omega)).mpr (by omega)) c9)
  refine lv_iconst (v := 1) hx hb dL_law_859 (by decide) ?_
  refine va_forget (fun q hq => hAs _ (hS.2.2 q hq)) ?_
  refine W.widen (k := 600000) (n := 7302249) hc hs ?_
  exact lw_ret hx hb hr hlocks dL_law_860
set_option maxHeartbeats 8000000 in
set_option maxRecDepth 100000 in
theorem p1_start {p : Program} {e : Env} {s : State} {m : MethodId} {below : List Frame} {meth : Method} {c : Code} (l : Launch) {q0 L : Nat} {xs : Nat → Int32} (hL : L ≤ 8) (C0 : lw_At p s m meth c q0 L xs) : W p l e room_1 s m #[Value.ref q0] below meth c s.heap [] 0 0 (lw_Z below #[Value.ref q0] s) (entryFrame m ([Value.ref q0] : List Value).toArray 4) := by
  obtain ⟨hx, hb, hr, hml, hown, hts0, hX, hbl, hlocks, hgv⟩ := id C0
  have hts : ∀ w ∈ wsL_law, w.before #[Value.ref q0] s = true := fun w h => hts0 w (wsL_law_in w h)
  obtain ⟨A, hAe⟩ : ∃ A : Nat → Prop, A = (fun q : Nat => s.heap.size ≤ q) := ⟨_, rfl⟩
  have hA : ∀ q : Nat, s.heap.size ≤ q → A q := fun q h => by rw [hAe]; exact h
  have hAs : ∀ q : Nat, A q → s.heap.size ≤ q := fun q h => by rw [hAe] at h; exact h
  have hbA : ¬ A q0 := fun q => Nat.not_le.mpr hbl (hAs _ q)
  obtain ⟨c0, iS0, hKn0⟩ := u_known (C := RX0) (T := TX0) (N := 2) (n := 2) hts inlX0 (hts0 _ (List.mem_of_getElem? (i := 60) (by decide +kernel)))
  obtain ⟨c1, iS1, hKn1⟩ := u_known (C := RX1) (T := TX1) (N := 2) (n := 2) hts inlX1 (hts0 _ (List.mem_of_getElem? (i := 45) (by decide +kernel)))
  obtain ⟨c2, iS2, hKn2⟩ := u_known (C := RX2) (T := TX2) (N := 6) (n := 6) hts inlX2 (hts0 _ (List.mem_of_getElem? (i := 74) (by decide +kernel)))
  obtain ⟨c3, iS3, hKn3⟩ := u_known (C := RX3) (T := TX3) (N := 8) (n := 8) hts inlX3 (hts0 _ (List.mem_of_getElem? (i := 35) (by decide +kernel)))
  obtain ⟨c4, iS4, hKn4⟩ := u_known (C := RX4) (T := TX4) (N := 18) (n := 18) hts inlX4 (hts0 _ (List.mem_of_getElem? (i := 422) (by decide +kernel)))
  obtain ⟨dC, dI, hKc⟩ : ∃ (dC : Nat → ClassId) (dI : Nat → Nat → Nat), ∀ (k : Nat) (q : vw_C), vwCl[k]? = some q → u_Kn s q.1 q.2.1 q.2.2 (dC k) (dI k) := by
    refine ⟨fun k => match k with | 0 => c0 | 1 => c1 | 2 => c2 | 3 => c3 | _ => c4, fun k => match k with | 0 => iS0 | 1 => iS1 | 2 => iS2 | 3 => iS3 | _ => iS4, ?_⟩
    intro k q hq
    match k, hq with
    | 0, hq => cases hq; exact hKn0
    | 1, hq => cases hq; exact hKn1
    | 2, hq => cases hq; exact hKn2
    | 3, hq => cases hq; exact hKn3
    | 4, hq => cases hq; exact hKn4
    | k + 5, hq => simp [vwCl] at hq
  have hS : va_S A s.heap s.heap [] := va_S.rf
  have hK : va_K (dC, dI) vwCl [] s := ⟨hKc, fun k q h => by simp at h⟩
  have hP : va_P (dC, dI) vwCl [] s.heap := fun k q h => by simp at h
  have hD : va_D A [] := ⟨fun i j p q h => by simp at h, fun k q h => by simp at h⟩
  have hl := lv_entry ([.ref q0]) (n := 4) (Nat.le_of_ble_eq_true rfl)
  rw [lg_entry_eq]
  generalize (lg_sl ([.ref q0]) ++ List.replicate (4 - (lg_sl ([.ref q0])).length) Slot.unset).toArray = ls at hl ⊢
  have hl : lv_has ls 4 [(0, .ref q0)] := hl
  refine va_new (ci := 3) (fs := [.null, .null, .null, .null, .null, .int (nI 0), .int (nI 0), .int (nI 0)]) (C := RX3) (T := TX3) (N := 8) hx hb hts inlX3 tyX3 tyX3_ok hown (hts0 _ (wsL_law_r1_in (.classLink RL 7 RX3) (List.mem_of_getElem? (i := 0) rfl))) (hts0 _ (wsL_law_r1_in (.instantiable RX3 8) (List.mem_of_getElem? (i := 1) rfl))) (hts0 _ (wsL_law_r1_in (.initialized RX3) (List.mem_of_getElem? (i := 2) rfl))) hK hP hD hS hA rfl (fun j hj => by rcases (show j = 0 ∨ j = 1 ∨ j = 2 ∨ j = 3 ∨ j = 4 ∨ j = 5 ∨ j = 6 ∨ j = 7 by omega) with rfl | rfl | rfl | rfl | rfl | rfl | rfl | rfl <;> rfl) (Nat.le_of_ble_eq_true rfl) (Nat.le_of_ble_eq_true rfl) dL_law_0 (fun h H hP hD hS => ?_)
  have hP : va_P (dC, dI) vwCl [(h, .inr (3, [.null, .null, .null, .null, .null, .int (nI 0), .int (nI 0), .int (nI 0)]))] H := hP
  have hD : va_D A [(h, .inr (3, [.null, .null, .null, .null, .null, .int (nI 0), .int (nI 0), .int (nI 0)]))] := hD
  refine lv_dup hx hb dL_law_3 rfl ?_
  have hN17 := va_Nw.of (w := .methodLinkNest RX3 17 yX1_init "GlulxHeap") rfl (hts0 _ (List.mem_of_getElem? (i := 46) (by decide +kernel)))
  have hN24 := va_Nw.of (w := .methodLinkNest RX3 24 yX0_init "GlulxHeap") rfl (hts0 _ (List.mem_of_getElem? (i := 61) (by decide +kernel)))
  have hN29 := va_Nw.of (w := .methodLinkNest RX3 29 yX2_init "GlulxHeap") rfl (hts0 _ (List.mem_of_getElem? (i := 75) (by decide +kernel)))
  have hAO : va_AO RX2 s := va_AO.of (hts0 _ (List.mem_of_getElem? (i := 43) (by decide +kernel)))
  have hFc := va_free (wc := [(h, .inr (3, [.null, .null, .null, .null, .null, .int (nI 0), .int (nI 0), .int (nI 0)]))]) hD hS hA [0] rfl
  refine va_callv (va_runI (As := []) (rest := [.ref h]) ⟨hx, hb, hml, hown, hts⟩ (c_X3_init l dC dI h H.size) (cwI 0 hts gL_law_X3_init rfl rfl rfl (hts0 _ (wsL_law_r1_in (.initialized RX3) (List.mem_of_getElem? (i := 2) rfl))) (hts0 _ (wsL_law_r1_in (.methodLink RL 9 yX3_init) (List.mem_of_getElem? (i := 6) rfl))) (hts0 _ (wsL_law_r1_in (.instanceMethod yX3_init) (List.mem_of_getElem? (i := 7) rfl))) rfl (by decide +kernel) ⟨Nat.le_of_ble_eq_true rfl, Nat.le_of_ble_eq_true rfl⟩) ⟨fun a9 U g9 mk9 q9 => by obtain ⟨q0, q1, qP, qK, qD, qO, qN0, qN1, qN2⟩ := q9; exact ⟨q0, q1, qP, va_K.moved (u := U) (U := U.calling g9 mk9 a9) (Vm.Alike.refl U.vm) qK, qD, va_AO.moved (u := U) (U := U.calling g9 mk9 a9) (Vm.Alike.refl U.vm) qO, va_Nw.same rfl rfl qN0, va_Nw.same rfl rfl qN1, va_Nw.same rfl rfl qN2⟩, fun U hU hW => ⟨rfl, by rw [hU], by rw [hU]; exact hP, va_K.moved hW.alike hK, hD.weaken (fun _ _ _ _ => trivial), va_AO.moved hW.alike hAO, va_Nw.warmM hW hN17, va_Nw.warmM hW hN24, va_Nw.warmM hW hN29⟩⟩ rfl rfl hl.1 rfl (lv_room (Nat.le_of_ble_eq_true rfl)) dL_law_4 ⟨Nat.le_of_ble_eq_true rfl, Nat.le_of_ble_eq_true rfl⟩) hS (fun q _ h => hFc q h) hFc (fun u t H1 locs ht9 hvm9 hw hB hz9 hk9 hS => ?_)
  obtain ⟨cB, cI, cS, kq, k, o, b⟩ := u
  obtain ⟨hP1, hK1, hD1⟩ := hB
  rw [ht9] at hP1
  have hK := va_K.moved hvm9.symm hK1
  obtain ⟨hP, hD⟩ := va_join (wr := []) (w1 := gw h kq none k o b 0 0 0 ++ kw cB k 0 zf ++ ow cB o 0 0 zf ++ sw cB cI b 1024 0 0 (outW (zr zf 0 8192) fst 0 64) zf zf ++ krw cS kq (fun _ => none)) hP hD [0] [] rfl rfl (by decide) (by decide) hk9 hFc hP1 hD1
  generalize H1 = H at hP hS ⊢
  rw [beg_in] at hP hD
  have hP : va_P (dC, dI) vwCl (gw h kq none k o b 0 0 0 ++ kw cB k 0 zf ++ ow cB o 0 0 zf ++ sw cB cI b 1024 0 0 (inW 8192) zf zf ++ krw cS kq (fun _ => none)) H := hP
  have hD : va_D A (gw h kq none k o b 0 0 0 ++ kw cB k 0 zf ++ ow cB o 0 0 zf ++ sw cB cI b 1024 0 0 (inW 8192) zf zf ++ krw cS kq (fun _ => none)) := hD
  refine lv_astore_n (lv' := [(1, .ref h), (0, .ref q0)]) hx hb dL_law_7 rfl hl (by decide) rfl (fun ls hl => ?_)
  refine va_new (ci := 4) (fs := [.null, .int (nI 0), .int (nI 0), .int (nI 0), .null, .null, .int (nI 0), .null, .null, .null, .null, .null, .null, .int (nI 0), .int (nI 0), .null, .int (nI 0), .null]) (C := RX4) (T := TX4) (N := 18) hx hb hts inlX4 tyX4 tyX4_ok hown (hts0 _ (wsL_law_r1_in (.classLink RL 10 RX4) (List.mem_of_getElem? (i := 3) rfl))) (hts0 _ (wsL_law_r1_in (.instantiable RX4 18) (List.mem_of_getElem? (i := 4) rfl))) (hts0 _ (wsL_law_r1_in (.initialized RX4) (List.mem_of_getElem? (i := 5) rfl))) hK hP hD hS hA rfl (fun j hj => by rcases (show j = 0 ∨ j = 1 ∨ j = 2 ∨ j = 3 ∨ j = 4 ∨ j = 5 ∨ j = 6 ∨ j = 7 ∨ j = 8 ∨ j = 9 ∨ j = 10 ∨ j = 11 ∨ j = 12 ∨ j = 13 ∨ j = 14 ∨ j = 15 ∨ j = 16 ∨ j = 17 by omega) with rfl | rfl | rfl | rfl | rfl | rfl | rfl | rfl | rfl | rfl | rfl | rfl | rfl | rfl | rfl | rfl | rfl | rfl <;> rfl) (Nat.le_of_ble_eq_true rfl) (Nat.le_of_ble_eq_true rfl) dL_law_8 (fun a0 H hP hD hS => ?_)
  have hP : va_P (dC, dI) vwCl (gw h kq none k o b 0 0 0 ++ kw cB k 0 zf ++ ow cB o 0 0 zf ++ sw cB cI b 1024 0 0 (inW 8192) zf zf ++ krw cS kq (fun _ => none) ++ [(a0, .inr (4, [.null, .int (nI 0), .int (nI 0), .int (nI 0), .null, .null, .int (nI 0), .null, .null, .null, .null, .null, .null, .int (nI 0), .int (nI 0), .null, .int (nI 0), .null]))]) H := hP
  have hD : va_D A (gw h kq none k o b 0 0 0 ++ kw cB k 0 zf ++ ow cB o 0 0 zf ++ sw cB cI b 1024 0 0 (inW 8192) zf zf ++ krw cS kq (fun _ => none) ++ [(a0, .inr (4, [.null, .int (nI 0), .int (nI 0), .int (nI 0), .null, .null, .int (nI 0), .null, .null, .null, .null, .null, .null, .int (nI 0), .int (nI 0), .null, .int (nI 0), .null]))]) := hD
  refine lv_dup hx hb dL_law_11 rfl ?_
  have hPc := hP.sub (ws' := [(a0, .inr (4, [.null, .int (nI 0), .int (nI 0), .int (nI 0), .null, .null, .int (nI 0), .null, .null, .null, .null, .null, .null, .int (nI 0), .int (nI 0), .null, .int (nI 0), .null]))]) [10] rfl
  have hDc := hD.sub (ws' := [(a0, .inr (4, [.null, .int (nI 0), .int (nI 0), .int (nI 0), .null, .null, .int (nI 0), .null, .null, .null, .null, .null, .null, .int (nI 0), .int (nI 0), .null, .int (nI 0), .null]))]) [10] (by decide) rfl
  have hK0 := hK.sub (tys' := []) [] rfl
  have hFc := va_free (wc := [(a0, .inr (4, [.null, .int (nI 0), .int (nI 0), .int (nI 0), .null, .null, .int (nI 0), .null, .null, .null, .null, .null, .null, .int (nI 0), .int (nI 0), .null, .int (nI 0), .null]))]) hD hS hA [10] rfl
  refine va_callv (va_runI (As := []) (rest := [.ref a0]) ⟨hx, hb, hml, hown, hts⟩ (c_X4_init l dC dI a0 H.size) (cwI 0 hts gL_law_X4_init rfl rfl rfl (hts0 _ (wsL_law_r1_in (.initialized RX4) (List.mem_of_getElem? (i := 5) rfl))) (hts0 _ (wsL_law_r3_in (.methodLink RL 12 yX4_init) (List.mem_of_getElem? (i := 7) rfl))) (hts0 _ (wsL_law_r3_in (.instanceMethod yX4_init) (List.mem_of_getElem? (i := 8) rfl))) rfl (by decide +kernel) ⟨Nat.le_of_ble_eq_true rfl, Nat.le_of_ble_eq_true rfl⟩) ⟨fun a9 U g9 mk9 q9 => by obtain ⟨q0, q1, qP, qK, qD⟩ := q9; exact ⟨q0, q1, qP, va_K.moved (u := U) (U := U.calling g9 mk9 a9) (Vm.Alike.refl U.vm) qK, qD⟩, fun U hU hW => ⟨rfl, by rw [hU], by rw [hU]; exact hPc, va_K.moved hW.alike hK0, hDc.weaken (fun _ _ _ _ => trivial)⟩⟩ rfl rfl hl.1 rfl (lv_room (Nat.le_of_ble_eq_true rfl)) dL_law_12 ⟨Nat.le_of_ble_eq_true rfl, Nat.le_of_ble_eq_true rfl⟩) hS (fun q _ h => hFc q h) hFc (fun u t H1 locs ht9 hvm9 hw hB hz9 hk9 hS => ?_)
  obtain ⟨cJ, a⟩ := u
  obtain ⟨hP1, hK1, hD1⟩ := hB
  rw [ht9] at hP1
  try dsimp only at hw hP1 hK1 hD1
  have hKK := hK.app (va_K.moved hvm9.symm hK1)
  obtain rfl : cI = cJ := (va_one hKK 0 3 rfl rfl).symm
  subst hw
  obtain ⟨hP, hD⟩ := va_join (wr := gw h kq none k o b 0 0 0 ++ kw cB k 0 zf ++ ow cB o 0 0 zf ++ sw cB cI b 1024 0 0 (inW 8192) zf zf ++ krw cS kq (fun _ => none)) (w1 := mw cI a 1024 0 0 0 0 0 0 (inW 8192) zf zf zf zf zf zf zf zf zf zf) hP hD [10] [0, 1, 2, 3, 4, 5, 6, 7, 8, 9] rfl rfl (by decide) (by decide) hk9 hFc hP1 hD1
  generalize H1 = H at hP hS ⊢
  have hP : va_P (dC, dI) vwCl (gw h kq none k o b 0 0 0 ++ kw cB k 0 zf ++ ow cB o 0 0 zf ++ sw cB cI b 1024 0 0 (inW 8192) zf zf ++ krw cS kq (fun _ => none) ++ mw cI a 1024 0 0 0 0 0 0 (inW 8192) zf zf zf zf zf zf zf zf zf zf) H := hP.sub [0, 1, 2, 3, 4, 5, 6, 7, 8, 9, 10, 11, 12, 13, 14, 15, 16, 17, 18, 19, 20, 21] rfl
  have hD : va_D A (gw h kq none k o b 0 0 0 ++ kw cB k 0 zf ++ ow cB o 0 0 zf ++ sw cB cI b 1024 0 0 (inW 8192) zf zf ++ krw cS kq (fun _ => none) ++ mw cI a 1024 0 0 0 0 0 0 (inW 8192) zf zf zf zf zf zf zf zf zf zf) := hD.sub [0, 1, 2, 3, 4, 5, 6, 7, 8, 9, 10, 11, 12, 13, 14, 15, 16, 17, 18, 19, 20, 21] (by decide) rfl
  refine lv_astore_n (lv' := [(2, .ref (a 0)), (1, .ref h), (0, .ref q0)]) hx hb dL_law_15 rfl hl (by decide) rfl (fun ls hl => ?_)
  refine lv_iconst (v := nI 0) hx hb dL_law_16 (by decide) ?_
  refine lv_istore_n (lv' := [(3, .int (nI 0)), (2, .ref (a 0)), (1, .ref h), (0, .ref q0)]) hx hb dL_law_17 rfl hl (by decide) rfl (fun ls hl => ?_)
  refine W.widen (k := 22) (n := 78425) (Nat.le_of_ble_eq_true rfl) (Nat.le_of_ble_eq_true rfl) ?_
  refine lv_iload_n hx hb dL_law_18 rfl (lv_at hl 0 rfl) ?_
  refine lv_aload_n hx hb dL_law_19 rfl (lv_at hl 3 rfl) ?_
  refine va_slen hx hb hX hbl hbA hS dL_law_20 ?_
  refine tpi (show Int32.ofNat L = nI L from rfl) ?_
  refine lv_bipush (v := nI 8) hx hb dL_law_21 (by decide) ?_
  refine lv_isub hx hb dL_law_23 ?_
  refine lv_icmp_gt (tgt := 859) hx hb dL_law_24 (by decide) (fun c9 => ?_) (fun c9 => ?_)
  · have hc : 22 ≤ 600000 := by decide
    have hs : 78425 ≤ 7302249 := by decide
    refine lv_iconst (v := 1) hx hb dL_law_859 (by decide) ?_
    refine va_forget (fun q hq => hAs _ (hS.2.2 q hq)) ?_
    refine W.widen (k := 600000) (n := 7302249) hc hs ?_
    exact lw_ret hx hb hr hlocks dL_law_860
  · have h8 : L = 8 := by have q := mt (gt8 (i := 0) (L := L) (by decide) (by omega)).mpr c9; omega
    have tail := fun H locs ls cells slots hc hs hS hl => p1_tail (p := p) (e := e) (below := below) l C0 hL h a A hAs hbA H locs ls cells slots hc hs hS hl
    refine lv_aload_n hx hb dL_law_27 rfl (lv_at hl 3 rfl) ?_
    refine lv_iload_n hx hb dL_law_28 rfl (lv_at hl 0 rfl) ?_
    refine va_sld hx hb hX hbl hbA hS (vp_in_nI (by omega) (by omega)) dL_law_29 ?_
    refine lv_bipush (v := nI 31) hx hb dL_law_30 (by decide) ?_
    refine lv_iand hx hb dL_law_32 ?_
    obtain ⟨n, hn, e9⟩ := and31 (xs (nI 0).toNatClampNeg)
    refine tpi e9 ?_
    by_cases h22 : n < 22
    · rcases (show n = 0 ∨ n = 1 ∨ n = 2 ∨ n = 3 ∨ n = 4 ∨ n = 5 ∨ n = 6 ∨ n = 7 ∨ n = 8 ∨ n = 9 ∨ n = 10 ∨ n = 11 ∨ n = 12 ∨ n = 13 ∨ n = 14 ∨ n = 15 ∨ n = 16 ∨ n = 17 ∨ n = 18 ∨ n = 19 ∨ n = 20 ∨ n = 21 by omega) with rfl | rfl | rfl | rfl | rfl | rfl | rfl | rfl | rfl | rfl | rfl | rfl | rfl | rfl | rfl | rfl | rfl | rfl | rfl | rfl | rfl | rfl
      · refine lv_tableIn (off := 103) (tgt := 136) hx hb dL_law_33 (by decide) (by decide) (by decide) (by decide) ?_
        exact p1_get l C0 h8 dC dI cB cI cS h kq k o b a A hA hbA hK hP hD hS hl tail
      · refine lv_tableIn (off := 137) (tgt := 170) hx hb dL_law_33 (by decide) (by decide) (by decide) (by decide) ?_
        exact p1_set l C0 h8 dC dI cB cI cS h kq k o b a A hA hbA hK hP hD hS hl tail
      · refine lv_tableIn (off := 180) (tgt := 213) hx hb dL_law_33 (by decide) (by decide) (by decide) (by decide) ?_
        exact p1_zero l C0 h8 dC dI cB cI cS h kq k o b a A hA hbA hK hP hD hS hl tail
      · refine lv_tableIn (off := 213) (tgt := 246) hx hb dL_law_33 (by decide) (by decide) (by decide) (by decide) ?_
        exact p1_copy l C0 h8 dC dI cB cI cS h kq k o b a A hA hbA hK hP hD hS hl tail
      · refine lv_tableIn (off := 256) (tgt := 289) hx hb dL_law_33 (by decide) (by decide) (by decide) (by decide) ?_
        exact p1_resize l C0 h8 dC dI cB cI cS h kq k o b a A hA hbA hK hP hD hS hl tail
      · refine lv_tableIn (off := 279) (tgt := 312) hx hb dL_law_33 (by decide) (by decide) (by decide) (by decide) ?_
        exact p1_make l C0 h8 dC dI cB cI cS h kq k o b a A hA hbA hK hP hD hS hl tail
      · refine lv_tableIn (off := 302) (tgt := 335) hx hb dL_law_33 (by decide) (by decide) (by decide) (by decide) ?_
        exact p1_free l C0 h8 dC dI cB cI cS h kq k o b a A hA hbA hK hP hD hS hl tail
      · refine lv_tableIn (off := 325) (tgt := 358) hx hb dL_law_33 (by decide) (by decide) (by decide) (by decide) ?_
        exact p1_block l C0 h8 dC dI cB cI cS h kq k o b a A hA hbA hK hP hD hS hl tail
      · refine lv_tableIn (off := 358) (tgt := 391) hx hb dL_law_33 (by decide) (by decide) (by decide) (by decide) ?_
        exact p1_linear l C0 h8 dC dI cB cI cS h kq k o b a A hA hbA hK hP hD hS hl tail
      · refine lv_tableIn (off := 445) (tgt := 478) hx hb dL_law_33 (by decide) (by decide) (by decide) (by decide) ?_
        exact p1_binary l C0 h8 dC dI cB cI cS h kq k o b a A hA hbA hK hP hD hS hl tail
      · refine lv_tableIn (off := 532) (tgt := 565) hx hb dL_law_33 (by decide) (by decide) (by decide) (by decide) ?_
        exact p1_linked l C0 h8 dC dI cB cI cS h kq k o b a A hA hbA hK hP hD hS hl tail
      · refine lv_tableIn (off := 607) (tgt := 640) hx hb dL_law_33 (by decide) (by decide) (by decide) (by decide) ?_
        exact p1_protect l C0 h8 dC dI cB cI cS h kq k o b a A hA hbA hK hP hD hS hl tail
      · refine lv_tableIn (off := 640) (tgt := 673) hx hb dL_law_33 (by decide) (by decide) (by decide) (by decide) ?_
        exact p1_keep l C0 h8 dC dI cB cI cS h kq k o b a A hA hbA hK hP hD hS hl tail
      · refine lv_tableIn (off := 653) (tgt := 686) hx hb dL_law_33 (by decide) (by decide) (by decide) (by decide) ?_
        exact p1_back l C0 h8 dC dI cB cI cS h kq k o b a A hA hbA hK hP hD hS hl tail
      · refine lv_tableIn (off := 666) (tgt := 699) hx hb dL_law_33 (by decide) (by decide) (by decide) (by decide) ?_
        exact p1_restart l C0 h8 dC dI cB cI cS h kq k o b a A hA hbA hK hP hD hS hl tail
      · refine lv_tableIn (off := 679) (tgt := 712) hx hb dL_law_33 (by decide) (by decide) (by decide) (by decide) ?_
        exact p1_same l C0 h8 dC dI cB cI cS h kq k o b a A hA hbA hK hP hD hS hl tail
      · refine lv_tableIn (off := 692) (tgt := 725) hx hb dL_law_33 (by decide) (by decide) (by decide) (by decide) ?_
        exact p1_write l C0 h8 dC dI cB cI cS h kq k o b a A hA hbA hK hP hD hS hl tail
      · refine lv_tableIn (off := 705) (tgt := 738) hx hb dL_law_33 (by decide) (by decide) (by decide) (by decide) ?_
        exact p1_code l C0 h8 dC dI cB cI cS h kq k o b a A hA hbA hK hP hD hS hl tail
      · refine lv_tableIn (off := 728) (tgt := 761) hx hb dL_law_33 (by decide) (by decide) (by decide) (by decide) ?_
        exact p1_poke l C0 h8 dC dI cB cI cS h kq k o b a A hA hbA hK hP hD hS hl tail
      · refine lv_tableIn (off := 761) (tgt := 794) hx hb dL_law_33 (by decide) (by decide) (by decide) (by decide) ?_
        exact p1_cut l C0 h8 dC dI cB cI cS h kq k o b a A hA hbA hK hP hD hS hl tail
      · refine lv_tableIn (off := 784) (tgt := 817) hx hb dL_law_33 (by decide) (by decide) (by decide) (by decide) ?_
        exact p1_read l C0 h8 dC dI cB cI cS h kq k o b a A hA hbA hK hP hD hS hl tail
      · refine lv_tableIn (off := 797) (tgt := 830) hx hb dL_law_33 (by decide) (by decide) (by decide) (by decide) ?_
        exact p1_told l C0 h8 dC dI cB cI cS h kq k o b a A hA hbA hK hP hD hS hl tail
    · refine lv_tableOut (tgt := 853) hx hb dL_law_33 (Or.inr ?_) (by decide) ?_
      · rcases (show n = 22 ∨ n = 23 ∨ n = 24 ∨ n = 25 ∨ n = 26 ∨ n = 27 ∨ n = 28 ∨ n = 29 ∨ n = 30 ∨ n = 31 by omega) with rfl | rfl | rfl | rfl | rfl | rfl | rfl | rfl | rfl | rfl <;> decide
      · exact tail _ _ _ _ _ (Nat.le_of_ble_eq_true rfl) (Nat.le_of_ble_eq_true rfl) hS hl
theorem whole_start {p : Program} {e : Env} {s : State} {m : MethodId} {below : List Frame} {meth : Method} {c : Code} (l : Launch) {b L : Nat} {xs : Nat → Int32} (hL : L ≤ 8) (C0 : lw_At p s m meth c b L xs) : W p l e room_1 s m #[Value.ref b] below meth c s.heap [] 0 0 (lw_Z below #[Value.ref b] s) (entryFrame m ([Value.ref b] : List Value).toArray 4) := p1_start l hL C0
