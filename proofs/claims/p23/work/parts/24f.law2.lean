theorem xR_le {x : Option SX} {i : Nat} {km ks kt ku kl kn : Nat → Nat} (h : xR x i km ks kt ku kl kn) : ks i ≤ 8192 ∧ ku i ≤ 64 := by
  match x, h with
  | some ⟨d, z, s, u, m, p, l⟩, h => exact ⟨by rw [← h.1.1]; exact h.2.sz8, by rw [← h.1.2.2]; exact h.2.us64⟩
theorem upA_id {f : Nat → Option Nat} {i : Nat} {y : Option Nat} (h : f i = y) : va_up f i y = f := by
  funext j; unfold va_up; split
  · rename_i q; rw [q, h]
  · rfl
theorem same_eq {kp : Nat} {r1 r2 : Int32} {a b : Prop} (h0 : ¬ kp = 0) (h : a ↔ b) (hc : (a ∧ r1 = nI 1) ∨ (¬ a ∧ r1 = nI 0)) (hm : (kp = 0 ∧ r2 = (-11)) ∨ (¬ kp = 0 ∧ ((b ∧ r2 = nI 1) ∨ (¬ b ∧ r2 = nI 0)))) : r1 = r2 := by
  rcases hm with ⟨q, -⟩ | ⟨-, q⟩
  · exact absurd q h0
  · rcases hc with ⟨p1, e1⟩ | ⟨p1, e1⟩
    · rcases q with ⟨p2, e2⟩ | ⟨p2, e2⟩
      · rw [e1, e2]
      · exact absurd (h.mp p1) p2
    · rcases q with ⟨p2, e2⟩ | ⟨p2, e2⟩
      · exact absurd (h.mpr p2) p1
      · rw [e1, e2]
set_option maxHeartbeats 4000000 in
set_option maxRecDepth 100000 in
theorem lc_get {p : Program} {e : Env} {s : State} {m : MethodId} {below : List Frame} {meth : Method} {c : Code} (l : Launch) {q0 L : Nat} {xs : Nat → Int32} (hL : L ≤ 4096) (C0 : lw_At p s m meth c q0 L xs) (dC : Nat → ClassId) (dI : Nat → Nat → Nat) (cB cI cS : ClassId) (h kq : Nat) (k a : Nat → Nat) (A : Nat → Prop) (hA : ∀ q : Nat, s.heap.size ≤ q → A q) (hbA : ¬ A q0) (hK : va_K (dC, dI) vwCl [(cI, .int), (cB, .byte), (cS, .object "GlulxHeap$State")] s) {i jj : Nat} (hi : i = 8 * jj) (hiL : i + 8 ≤ L) {ws : va_W} {H : Heap} {locs : List Loc} {ls : Array Slot} (hJ : J cB cI cS h kq k a ws) (hP : va_P (dC, dI) vwCl ws H) (hD : va_D A ws) (hS : va_S A s.heap H locs) (hl : lv_has ls 4 [(3, .int (nI i)), (2, .ref (a 0)), (1, .ref h), (0, .ref q0)]) (tail : ∀ (ws : va_W) (H : Heap) (locs : List Loc) (ls : Array Slot), J cB cI cS h kq k a ws → va_P (dC, dI) vwCl ws H → va_D A ws → va_S A s.heap H locs → lv_has ls 4 [(3, .int (nI i)), (2, .ref (a 0)), (1, .ref h), (0, .ref q0)] → W p l e room_1 s m #[Value.ref q0] below meth c H locs (22 + 4 * (jj + 1)) (78425 + 12550 * (jj + 1)) (lw_Z below #[Value.ref q0] s) (F0 m 852 ls [])) : W p l e room_1 s m #[Value.ref q0] below meth c H locs (22 + 4 * jj) (78425 + 12550 * jj) (lw_Z below #[Value.ref q0] s) (F0 m 136 ls []) := by
  obtain ⟨hx, hb, hr, hml, hown, hts0, hX, hbl, hlocks, hgv⟩ := id C0
  have hts : ∀ w ∈ wsL_law, w.before #[Value.ref q0] s = true := fun w h => hts0 w (wsL_law_in w h)
  obtain ⟨o, b, sz, st, us, kp, ga, gl, kL, oz, cs, mK, pK, lK, kb, cK, mem, pl, ln, km, ks, kt, ku, kl, kn, cd, wt, sp, kf, rfl, c1, c2, c3, c4, c5, c6, c7, c8⟩ := hJ
  have hcs : cs ≤ 12550 ∧ oz ≤ 12550 := by have := c6.2.1; rcases c6.1 with q | q <;> omega
  have hst9 := wfB_st c1.1
  refine lv_aload_n hx hb dL_law_136 rfl (lv_at hl 2 rfl) ?_
  refine lv_aload_n hx hb dL_law_137 rfl (lv_at hl 3 rfl) ?_
  refine lv_iload_n hx hb dL_law_138 rfl (lv_at hl 0 rfl) ?_
  refine lv_iconst (v := nI 1) hx hb dL_law_139 (by decide) ?_
  refine lv_iadd hx hb dL_law_140 ?_
  refine tpi (nI_add i 1) ?_
  refine va_sld hx hb hX hbl hbA hS (vp_in_nI (by omega) (by omega)) dL_law_141 ?_
  refine tpi (show xs (nI (i + 1)).toNatClampNeg = xs (i + 1) by rw [nI_clamp (by omega)]) ?_
  refine lv_aload_n hx hb dL_law_142 rfl (lv_at hl 3 rfl) ?_
  refine lv_iload_n hx hb dL_law_143 rfl (lv_at hl 0 rfl) ?_
  refine lv_iconst (v := nI 2) hx hb dL_law_144 (by decide) ?_
  refine lv_iadd hx hb dL_law_145 ?_
  refine tpi (nI_add i 2) ?_
  refine va_sld hx hb hX hbl hbA hS (vp_in_nI (by omega) (by omega)) dL_law_146 ?_
  refine tpi (show xs (nI (i + 2)).toNatClampNeg = xs (i + 2) by rw [nI_clamp (by omega)]) ?_
  have hKc := hK.sub (tys' := [(cI, .int), (cB, .byte)]) [0, 1] rfl
  have hPc : va_P (dC, dI) vwCl (gw h kq (xA sp) k o b kp ga gl ++ kw cB k kL kb ++ ow cB o oz cs cK ++ sw cB cI b sz st us mK pK lK) H := va_P_left (va_P_perm (pGKOS) hP)
  refine vp_callSl (W.runV (As := [.int (xs (i + 1)), .int (xs (i + 2))]) (rest := []) ⟨hx, hb, hml, hown, hts⟩ (c_X3_get l dC dI cB cI h kq (xA sp) k o b kp ga gl kL kb oz cs cK sz st us mK pK lK (xs (i + 1)) (xs (i + 2)) c1.sz8 c2.1) (cwV 2 hts gL_law_X3_get rfl rfl rfl (by decide +kernel) ⟨Nat.le_of_ble_eq_true rfl, Nat.le_of_ble_eq_true rfl⟩) ⟨fun a9 U g9 mk9 q9 => by obtain ⟨q0, qP, qK⟩ := q9; exact ⟨q0, qP, va_K.moved (u := U) (U := U.calling g9 mk9 a9) (Vm.Alike.refl U.vm) qK⟩, va_recv hKc hPc (ci := 3) (q0 := 0) rfl rfl, fun U hU hW => ⟨rfl, by rw [hU]; exact hPc, va_K.moved hW.alike hKc⟩⟩ rfl rfl hl.1 rfl (lv_room (Nat.le_of_ble_eq_true rfl)) dL_law_147 ⟨by show 22 + 4 * jj + 0 ≤ 60000; omega, by show 78425 + 12550 * jj + 0 ≤ 8922250; omega⟩) (fun r1 hw => ?_)
  have hc := hw
  clear hw
  refine lv_pop2_2 hx hb dL_law_150 rfl ?_
  refine lv_aload_n hx hb dL_law_151 rfl (lv_at hl 1 rfl) ?_
  refine lv_aload_n hx hb dL_law_152 rfl (lv_at hl 3 rfl) ?_
  refine lv_iload_n hx hb dL_law_153 rfl (lv_at hl 0 rfl) ?_
  refine lv_iconst (v := nI 1) hx hb dL_law_154 (by decide) ?_
  refine lv_iadd hx hb dL_law_155 ?_
  refine tpi (nI_add i 1) ?_
  refine va_sld hx hb hX hbl hbA hS (vp_in_nI (by omega) (by omega)) dL_law_156 ?_
  refine tpi (show xs (nI (i + 1)).toNatClampNeg = xs (i + 1) by rw [nI_clamp (by omega)]) ?_
  refine lv_aload_n hx hb dL_law_157 rfl (lv_at hl 3 rfl) ?_
  refine lv_iload_n hx hb dL_law_158 rfl (lv_at hl 0 rfl) ?_
  refine lv_iconst (v := nI 2) hx hb dL_law_159 (by decide) ?_
  refine lv_iadd hx hb dL_law_160 ?_
  refine tpi (nI_add i 2) ?_
  refine va_sld hx hb hX hbl hbA hS (vp_in_nI (by omega) (by omega)) dL_law_161 ?_
  refine tpi (show xs (nI (i + 2)).toNatClampNeg = xs (i + 2) by rw [nI_clamp (by omega)]) ?_
  have hKc := hK.sub (tys' := [(cI, .int)]) [0] rfl
  have hPc : va_P (dC, dI) vwCl (mw cI a sz st us kp ga gl cs mem pl ln km ks kt ku kl kn cd wt) H := va_P_left (va_P_perm (pM) hP)
  refine vp_callSl (W.runV (As := [.int (xs (i + 1)), .int (xs (i + 2))]) (rest := []) ⟨hx, hb, hml, hown, hts⟩ (c_X4_get l dC dI cI a sz st us kp ga gl cs mem pl ln km ks kt ku kl kn cd wt (xs (i + 1)) (xs (i + 2)) c1.sz8 c3.1) (cwV 2 hts gL_law_X4_get rfl rfl rfl (by decide +kernel) ⟨Nat.le_of_ble_eq_true rfl, Nat.le_of_ble_eq_true rfl⟩) ⟨fun a9 U g9 mk9 q9 => by obtain ⟨q0, qP, qK⟩ := q9; exact ⟨q0, qP, va_K.moved (u := U) (U := U.calling g9 mk9 a9) (Vm.Alike.refl U.vm) qK⟩, va_recv hKc hPc (ci := 4) (q0 := 0) rfl rfl, fun U hU hW => ⟨rfl, by rw [hU]; exact hPc, va_K.moved hW.alike hKc⟩⟩ rfl rfl hl.1 rfl (lv_room (Nat.le_of_ble_eq_true rfl)) dL_law_162 ⟨by show 22 + 4 * jj + 0 ≤ 60000; omega, by show 78425 + 12550 * jj + 0 ≤ 8922250; omega⟩) (fun r2 hw => ?_)
  have hm := hw
  clear hw
  refine lv_pop2_2 hx hb dL_law_165 rfl ?_
  refine lv_goto (tgt := 852) hx hb dL_law_166 (by decide) ?_
  refine W.widen (k := 22 + 4 * (jj + 1)) (n := 78425 + 12550 * (jj + 1)) (by omega) (by omega) ?_
  exact tail _ H locs ls ⟨o, b, sz, st, us, kp, ga, gl, kL, oz, cs, mK, pK, lK, kb, cK, mem, pl, ln, km, ks, kt, ku, kl, kn, cd, wt, sp, kf, rfl, ⟨c1, c2, c3, c4, c5, c6, c7, c8⟩⟩ hP hD hS hl
set_option maxHeartbeats 4000000 in
set_option maxRecDepth 100000 in
theorem lc_set {p : Program} {e : Env} {s : State} {m : MethodId} {below : List Frame} {meth : Method} {c : Code} (l : Launch) {q0 L : Nat} {xs : Nat → Int32} (hL : L ≤ 4096) (C0 : lw_At p s m meth c q0 L xs) (dC : Nat → ClassId) (dI : Nat → Nat → Nat) (cB cI cS : ClassId) (h kq : Nat) (k a : Nat → Nat) (A : Nat → Prop) (hA : ∀ q : Nat, s.heap.size ≤ q → A q) (hbA : ¬ A q0) (hK : va_K (dC, dI) vwCl [(cI, .int), (cB, .byte), (cS, .object "GlulxHeap$State")] s) {i jj : Nat} (hi : i = 8 * jj) (hiL : i + 8 ≤ L) {ws : va_W} {H : Heap} {locs : List Loc} {ls : Array Slot} (hJ : J cB cI cS h kq k a ws) (hP : va_P (dC, dI) vwCl ws H) (hD : va_D A ws) (hS : va_S A s.heap H locs) (hl : lv_has ls 4 [(3, .int (nI i)), (2, .ref (a 0)), (1, .ref h), (0, .ref q0)]) (tail : ∀ (ws : va_W) (H : Heap) (locs : List Loc) (ls : Array Slot), J cB cI cS h kq k a ws → va_P (dC, dI) vwCl ws H → va_D A ws → va_S A s.heap H locs → lv_has ls 4 [(3, .int (nI i)), (2, .ref (a 0)), (1, .ref h), (0, .ref q0)] → W p l e room_1 s m #[Value.ref q0] below meth c H locs (22 + 4 * (jj + 1)) (78425 + 12550 * (jj + 1)) (lw_Z below #[Value.ref q0] s) (F0 m 852 ls [])) : W p l e room_1 s m #[Value.ref q0] below meth c H locs (22 + 4 * jj) (78425 + 12550 * jj) (lw_Z below #[Value.ref q0] s) (F0 m 169 ls []) := by
  obtain ⟨hx, hb, hr, hml, hown, hts0, hX, hbl, hlocks, hgv⟩ := id C0
  have hts : ∀ w ∈ wsL_law, w.before #[Value.ref q0] s = true := fun w h => hts0 w (wsL_law_in w h)
  obtain ⟨o, b, sz, st, us, kp, ga, gl, kL, oz, cs, mK, pK, lK, kb, cK, mem, pl, ln, km, ks, kt, ku, kl, kn, cd, wt, sp, kf, rfl, c1, c2, c3, c4, c5, c6, c7, c8⟩ := hJ
  have hcs : cs ≤ 12550 ∧ oz ≤ 12550 := by have := c6.2.1; rcases c6.1 with q | q <;> omega
  have hst9 := wfB_st c1.1
  refine lv_aload_n hx hb dL_law_169 rfl (lv_at hl 2 rfl) ?_
  refine lv_aload_n hx hb dL_law_170 rfl (lv_at hl 3 rfl) ?_
  refine lv_iload_n hx hb dL_law_171 rfl (lv_at hl 0 rfl) ?_
  refine lv_iconst (v := nI 1) hx hb dL_law_172 (by decide) ?_
  refine lv_iadd hx hb dL_law_173 ?_
  refine tpi (nI_add i 1) ?_
  refine va_sld hx hb hX hbl hbA hS (vp_in_nI (by omega) (by omega)) dL_law_174 ?_
  refine tpi (show xs (nI (i + 1)).toNatClampNeg = xs (i + 1) by rw [nI_clamp (by omega)]) ?_
  refine lv_aload_n hx hb dL_law_175 rfl (lv_at hl 3 rfl) ?_
  refine lv_iload_n hx hb dL_law_176 rfl (lv_at hl 0 rfl) ?_
  refine lv_iconst (v := nI 2) hx hb dL_law_177 (by decide) ?_
  refine lv_iadd hx hb dL_law_178 ?_
  refine tpi (nI_add i 2) ?_
  refine va_sld hx hb hX hbl hbA hS (vp_in_nI (by omega) (by omega)) dL_law_179 ?_
  refine tpi (show xs (nI (i + 2)).toNatClampNeg = xs (i + 2) by rw [nI_clamp (by omega)]) ?_
  refine lv_aload_n hx hb dL_law_180 rfl (lv_at hl 3 rfl) ?_
  refine lv_iload_n hx hb dL_law_181 rfl (lv_at hl 0 rfl) ?_
  refine lv_iconst (v := nI 3) hx hb dL_law_182 (by decide) ?_
  refine lv_iadd hx hb dL_law_183 ?_
  refine tpi (nI_add i 3) ?_
  refine va_sld hx hb hX hbl hbA hS (vp_in_nI (by omega) (by omega)) dL_law_184 ?_
  refine tpi (show xs (nI (i + 3)).toNatClampNeg = xs (i + 3) by rw [nI_clamp (by omega)]) ?_
  have hKc := hK.sub (tys' := [(cI, .int), (cB, .byte)]) [0, 1] rfl
  refine fr_calli (wc := gw h kq (xA sp) k o b kp ga gl ++ kw cB k kL kb ++ ow cB o oz cs cK ++ sw cB cI b sz st us mK pK lK) (wr := krw cS kq (fun j => xA (kf j)) ++ (xW cB cI sp ++ kW cB cI kf) ++ mw cI a sz st us kp ga gl cs mem pl ln km ks kt ku kl kn cd wt) (w1 := fun _ => gw h kq (xA sp) k o b kp ga gl ++ kw cB k kL kb ++ ow cB o oz cs cK ++ sw cB cI b sz st us (stM sz mK (xs (i + 1)) (xs (i + 2)) (xs (i + 3))) pK lK) (Z := fun _ t9 => va_K (dC, dI) vwCl [(cI, .int), (cB, .byte)] t9) (fun _ _ q9 => q9) (pGKOS) hP hD hS hA (fun hPc hDc => va_runV (As := [.int (xs (i + 1)), .int (xs (i + 2)), .int (xs (i + 3))]) (rest := []) ⟨hx, hb, hml, hown, hts⟩ (c_X3_set l dC dI cB cI h kq (xA sp) k o b kp ga gl kL kb oz cs cK sz st us mK pK lK H.size (xs (i + 1)) (xs (i + 2)) (xs (i + 3)) c1.sz8) (cwV 3 hts gL_law_X3_set rfl rfl rfl (by decide +kernel) ⟨Nat.le_of_ble_eq_true rfl, Nat.le_of_ble_eq_true rfl⟩) ⟨fun a9 U g9 mk9 q9 => by obtain ⟨q0, q1, qP, qK, qD⟩ := q9; exact ⟨q0, q1, qP, va_K.moved (u := U) (U := U.calling g9 mk9 a9) (Vm.Alike.refl U.vm) qK, qD⟩, va_recv hKc hPc (ci := 3) (q0 := 0) rfl rfl, fun U hU hW => ⟨rfl, by rw [hU], by rw [hU]; exact hPc, va_K.moved hW.alike hKc, hDc⟩⟩ rfl rfl hl.1 rfl (lv_room (Nat.le_of_ble_eq_true rfl)) dL_law_185 ⟨by show 22 + 4 * jj + 0 ≤ 60000; omega, by show 78425 + 12550 * jj + 0 ≤ 8922250; omega⟩) (fun r1 _ H locs hw hP hD hS => ?_)
  try dsimp only at hw hP hD
  have hc := hw
  clear hw
  refine lv_pop hx hb dL_law_188 rfl ?_
  have hP := va_P_perm pGKOS.symm hP
  have hD := va_D_perm pGKOS.symm hD
  have hP : va_P (dC, dI) vwCl (gw h kq (xA sp) k o b kp ga gl ++ kw cB k kL kb ++ ow cB o oz cs cK ++ sw cB cI b sz st us (stM sz mK (xs (i + 1)) (xs (i + 2)) (xs (i + 3))) pK lK ++ (krw cS kq (fun j => xA (kf j)) ++ (xW cB cI sp ++ kW cB cI kf)) ++ mw cI a sz st us kp ga gl cs mem pl ln km ks kt ku kl kn cd wt) H := hP
  have hD : va_D A (gw h kq (xA sp) k o b kp ga gl ++ kw cB k kL kb ++ ow cB o oz cs cK ++ sw cB cI b sz st us (stM sz mK (xs (i + 1)) (xs (i + 2)) (xs (i + 3))) pK lK ++ (krw cS kq (fun j => xA (kf j)) ++ (xW cB cI sp ++ kW cB cI kf)) ++ mw cI a sz st us kp ga gl cs mem pl ln km ks kt ku kl kn cd wt) := hD
  refine lv_aload_n hx hb dL_law_189 rfl (lv_at hl 1 rfl) ?_
  refine lv_aload_n hx hb dL_law_190 rfl (lv_at hl 3 rfl) ?_
  refine lv_iload_n hx hb dL_law_191 rfl (lv_at hl 0 rfl) ?_
  refine lv_iconst (v := nI 1) hx hb dL_law_192 (by decide) ?_
  refine lv_iadd hx hb dL_law_193 ?_
  refine tpi (nI_add i 1) ?_
  refine va_sld hx hb hX hbl hbA hS (vp_in_nI (by omega) (by omega)) dL_law_194 ?_
  refine tpi (show xs (nI (i + 1)).toNatClampNeg = xs (i + 1) by rw [nI_clamp (by omega)]) ?_
  refine lv_aload_n hx hb dL_law_195 rfl (lv_at hl 3 rfl) ?_
  refine lv_iload_n hx hb dL_law_196 rfl (lv_at hl 0 rfl) ?_
  refine lv_iconst (v := nI 2) hx hb dL_law_197 (by decide) ?_
  refine lv_iadd hx hb dL_law_198 ?_
  refine tpi (nI_add i 2) ?_
  refine va_sld hx hb hX hbl hbA hS (vp_in_nI (by omega) (by omega)) dL_law_199 ?_
  refine tpi (show xs (nI (i + 2)).toNatClampNeg = xs (i + 2) by rw [nI_clamp (by omega)]) ?_
  refine lv_aload_n hx hb dL_law_200 rfl (lv_at hl 3 rfl) ?_
  refine lv_iload_n hx hb dL_law_201 rfl (lv_at hl 0 rfl) ?_
  refine lv_iconst (v := nI 3) hx hb dL_law_202 (by decide) ?_
  refine lv_iadd hx hb dL_law_203 ?_
  refine tpi (nI_add i 3) ?_
  refine va_sld hx hb hX hbl hbA hS (vp_in_nI (by omega) (by omega)) dL_law_204 ?_
  refine tpi (show xs (nI (i + 3)).toNatClampNeg = xs (i + 3) by rw [nI_clamp (by omega)]) ?_
  have hKc := hK.sub (tys' := [(cI, .int)]) [0] rfl
  refine fr_calli (wc := mw cI a sz st us kp ga gl cs mem pl ln km ks kt ku kl kn cd wt) (wr := gw h kq (xA sp) k o b kp ga gl ++ kw cB k kL kb ++ ow cB o oz cs cK ++ sw cB cI b sz st us (stM sz mK (xs (i + 1)) (xs (i + 2)) (xs (i + 3))) pK lK ++ (krw cS kq (fun j => xA (kf j)) ++ (xW cB cI sp ++ kW cB cI kf))) (w1 := fun _ => mw cI a sz st us kp ga gl cs (stM sz mem (xs (i + 1)) (xs (i + 2)) (xs (i + 3))) pl ln km ks kt ku kl kn cd wt) (Z := fun _ t9 => va_K (dC, dI) vwCl [(cI, .int)] t9) (fun _ _ q9 => q9) (pM) hP hD hS hA (fun hPc hDc => va_runV (As := [.int (xs (i + 1)), .int (xs (i + 2)), .int (xs (i + 3))]) (rest := []) ⟨hx, hb, hml, hown, hts⟩ (c_X4_set l dC dI cI a sz st us kp ga gl cs mem pl ln km ks kt ku kl kn cd wt H.size (xs (i + 1)) (xs (i + 2)) (xs (i + 3)) c1.sz8) (cwV 3 hts gL_law_X4_set rfl rfl rfl (by decide +kernel) ⟨Nat.le_of_ble_eq_true rfl, Nat.le_of_ble_eq_true rfl⟩) ⟨fun a9 U g9 mk9 q9 => by obtain ⟨q0, q1, qP, qK, qD⟩ := q9; exact ⟨q0, q1, qP, va_K.moved (u := U) (U := U.calling g9 mk9 a9) (Vm.Alike.refl U.vm) qK, qD⟩, va_recv hKc hPc (ci := 4) (q0 := 0) rfl rfl, fun U hU hW => ⟨rfl, by rw [hU], by rw [hU]; exact hPc, va_K.moved hW.alike hKc, hDc⟩⟩ rfl rfl hl.1 rfl (lv_room (Nat.le_of_ble_eq_true rfl)) dL_law_205 ⟨by show 22 + 4 * jj + 0 + 0 ≤ 60000; omega, by show 78425 + 12550 * jj + 0 + 0 ≤ 8922250; omega⟩) (fun r2 _ H locs hw hP hD hS => ?_)
  try dsimp only at hw hP hD
  have hm := hw
  clear hw
  refine lv_pop hx hb dL_law_208 rfl ?_
  have hP := va_P_perm pM hP
  have hD := va_D_perm pM hD
  have hP : va_P (dC, dI) vwCl (gw h kq (xA sp) k o b kp ga gl ++ kw cB k kL kb ++ ow cB o oz cs cK ++ sw cB cI b sz st us (stM sz mK (xs (i + 1)) (xs (i + 2)) (xs (i + 3))) pK lK ++ (krw cS kq (fun j => xA (kf j)) ++ (xW cB cI sp ++ kW cB cI kf)) ++ mw cI a sz st us kp ga gl cs (stM sz mem (xs (i + 1)) (xs (i + 2)) (xs (i + 3))) pl ln km ks kt ku kl kn cd wt) H := hP
  have hD : va_D A (gw h kq (xA sp) k o b kp ga gl ++ kw cB k kL kb ++ ow cB o oz cs cK ++ sw cB cI b sz st us (stM sz mK (xs (i + 1)) (xs (i + 2)) (xs (i + 3))) pK lK ++ (krw cS kq (fun j => xA (kf j)) ++ (xW cB cI sp ++ kW cB cI kf)) ++ mw cI a sz st us kp ga gl cs (stM sz mem (xs (i + 1)) (xs (i + 2)) (xs (i + 3))) pl ln km ks kt ku kl kn cd wt) := hD
  refine lv_goto (tgt := 852) hx hb dL_law_209 (by decide) ?_
  refine W.widen (k := 22 + 4 * (jj + 1)) (n := 78425 + 12550 * (jj + 1)) (by omega) (by omega) ?_
  exact tail _ H locs ls ⟨o, b, sz, st, us, kp, ga, gl, kL, oz, cs, stM sz mK (xs (i + 1)) (xs (i + 2)) (xs (i + 3)), pK, lK, kb, cK, stM sz mem (xs (i + 1)) (xs (i + 2)) (xs (i + 3)), pl, ln, km, ks, kt, ku, kl, kn, cd, wt, sp, kf, rfl, ⟨c1.set _ _ _, ⟨stM_lt c2.1 _ _ _, c2.2⟩, ⟨stM_lt c3.1 _ _ _, c3.2⟩, c4, c5, c6, c7, c8⟩⟩ hP hD hS hl
set_option maxHeartbeats 4000000 in
set_option maxRecDepth 100000 in
theorem lc_zero {p : Program} {e : Env} {s : State} {m : MethodId} {below : List Frame} {meth : Method} {c : Code} (l : Launch) {q0 L : Nat} {xs : Nat → Int32} (hL : L ≤ 4096) (C0 : lw_At p s m meth c q0 L xs) (dC : Nat → ClassId) (dI : Nat → Nat → Nat) (cB cI cS : ClassId) (h kq : Nat) (k a : Nat → Nat) (A : Nat → Prop) (hA : ∀ q : Nat, s.heap.size ≤ q → A q) (hbA : ¬ A q0) (hK : va_K (dC, dI) vwCl [(cI, .int), (cB, .byte), (cS, .object "GlulxHeap$State")] s) {i jj : Nat} (hi : i = 8 * jj) (hiL : i + 8 ≤ L) {ws : va_W} {H : Heap} {locs : List Loc} {ls : Array Slot} (hJ : J cB cI cS h kq k a ws) (hP : va_P (dC, dI) vwCl ws H) (hD : va_D A ws) (hS : va_S A s.heap H locs) (hl : lv_has ls 4 [(3, .int (nI i)), (2, .ref (a 0)), (1, .ref h), (0, .ref q0)]) (tail : ∀ (ws : va_W) (H : Heap) (locs : List Loc) (ls : Array Slot), J cB cI cS h kq k a ws → va_P (dC, dI) vwCl ws H → va_D A ws → va_S A s.heap H locs → lv_has ls 4 [(3, .int (nI i)), (2, .ref (a 0)), (1, .ref h), (0, .ref q0)] → W p l e room_1 s m #[Value.ref q0] below meth c H locs (22 + 4 * (jj + 1)) (78425 + 12550 * (jj + 1)) (lw_Z below #[Value.ref q0] s) (F0 m 852 ls [])) : W p l e room_1 s m #[Value.ref q0] below meth c H locs (22 + 4 * jj) (78425 + 12550 * jj) (lw_Z below #[Value.ref q0] s) (F0 m 212 ls []) := by
  obtain ⟨hx, hb, hr, hml, hown, hts0, hX, hbl, hlocks, hgv⟩ := id C0
  have hts : ∀ w ∈ wsL_law, w.before #[Value.ref q0] s = true := fun w h => hts0 w (wsL_law_in w h)
  obtain ⟨o, b, sz, st, us, kp, ga, gl, kL, oz, cs, mK, pK, lK, kb, cK, mem, pl, ln, km, ks, kt, ku, kl, kn, cd, wt, sp, kf, rfl, c1, c2, c3, c4, c5, c6, c7, c8⟩ := hJ
  have hcs : cs ≤ 12550 ∧ oz ≤ 12550 := by have := c6.2.1; rcases c6.1 with q | q <;> omega
  have hst9 := wfB_st c1.1
  refine lv_aload_n hx hb dL_law_212 rfl (lv_at hl 2 rfl) ?_
  refine lv_aload_n hx hb dL_law_213 rfl (lv_at hl 3 rfl) ?_
  refine lv_iload_n hx hb dL_law_214 rfl (lv_at hl 0 rfl) ?_
  refine lv_iconst (v := nI 1) hx hb dL_law_215 (by decide) ?_
  refine lv_iadd hx hb dL_law_216 ?_
  refine tpi (nI_add i 1) ?_
  refine va_sld hx hb hX hbl hbA hS (vp_in_nI (by omega) (by omega)) dL_law_217 ?_
  refine tpi (show xs (nI (i + 1)).toNatClampNeg = xs (i + 1) by rw [nI_clamp (by omega)]) ?_
  refine lv_aload_n hx hb dL_law_218 rfl (lv_at hl 3 rfl) ?_
  refine lv_iload_n hx hb dL_law_219 rfl (lv_at hl 0 rfl) ?_
  refine lv_iconst (v := nI 2) hx hb dL_law_220 (by decide) ?_
  refine lv_iadd hx hb dL_law_221 ?_
  refine tpi (nI_add i 2) ?_
  refine va_sld hx hb hX hbl hbA hS (vp_in_nI (by omega) (by omega)) dL_law_222 ?_
  refine tpi (show xs (nI (i + 2)).toNatClampNeg = xs (i + 2) by rw [nI_clamp (by omega)]) ?_
  have hKc := hK.sub (tys' := [(cI, .int), (cB, .byte)]) [0, 1] rfl
  refine fr_calli (wc := gw h kq (xA sp) k o b kp ga gl ++ kw cB k kL kb ++ ow cB o oz cs cK ++ sw cB cI b sz st us mK pK lK) (wr := krw cS kq (fun j => xA (kf j)) ++ (xW cB cI sp ++ kW cB cI kf) ++ mw cI a sz st us kp ga gl cs mem pl ln km ks kt ku kl kn cd wt) (w1 := fun _ => gw h kq (xA sp) k o b kp ga gl ++ kw cB k kL kb ++ ow cB o oz cs cK ++ sw cB cI b sz st us (zrM sz mK (xs (i + 1)) (xs (i + 2))) pK lK) (Z := fun _ t9 => va_K (dC, dI) vwCl [(cI, .int), (cB, .byte)] t9) (fun _ _ q9 => q9) (pGKOS) hP hD hS hA (fun hPc hDc => va_runV (As := [.int (xs (i + 1)), .int (xs (i + 2))]) (rest := []) ⟨hx, hb, hml, hown, hts⟩ (c_X3_zero l dC dI cB cI h kq (xA sp) k o b kp ga gl kL kb oz cs cK sz st us mK pK lK H.size (xs (i + 1)) (xs (i + 2)) c1.sz8) (cwV 2 hts gL_law_X3_zero rfl rfl rfl (by decide +kernel) ⟨Nat.le_of_ble_eq_true rfl, Nat.le_of_ble_eq_true rfl⟩) ⟨fun a9 U g9 mk9 q9 => by obtain ⟨q0, q1, qP, qK, qD⟩ := q9; exact ⟨q0, q1, qP, va_K.moved (u := U) (U := U.calling g9 mk9 a9) (Vm.Alike.refl U.vm) qK, qD⟩, va_recv hKc hPc (ci := 3) (q0 := 0) rfl rfl, fun U hU hW => ⟨rfl, by rw [hU], by rw [hU]; exact hPc, va_K.moved hW.alike hKc, hDc⟩⟩ rfl rfl hl.1 rfl (lv_room (Nat.le_of_ble_eq_true rfl)) dL_law_223 ⟨by show 22 + 4 * jj + 0 ≤ 60000; omega, by show 78425 + 12550 * jj + 0 ≤ 8922250; omega⟩) (fun r1 _ H locs hw hP hD hS => ?_)
  try dsimp only at hw hP hD
  have hc := hw
  clear hw
  refine lv_pop hx hb dL_law_226 rfl ?_
  have hP := va_P_perm pGKOS.symm hP
  have hD := va_D_perm pGKOS.symm hD
  have hP : va_P (dC, dI) vwCl (gw h kq (xA sp) k o b kp ga gl ++ kw cB k kL kb ++ ow cB o oz cs cK ++ sw cB cI b sz st us (zrM sz mK (xs (i + 1)) (xs (i + 2))) pK lK ++ (krw cS kq (fun j => xA (kf j)) ++ (xW cB cI sp ++ kW cB cI kf)) ++ mw cI a sz st us kp ga gl cs mem pl ln km ks kt ku kl kn cd wt) H := hP
  have hD : va_D A (gw h kq (xA sp) k o b kp ga gl ++ kw cB k kL kb ++ ow cB o oz cs cK ++ sw cB cI b sz st us (zrM sz mK (xs (i + 1)) (xs (i + 2))) pK lK ++ (krw cS kq (fun j => xA (kf j)) ++ (xW cB cI sp ++ kW cB cI kf)) ++ mw cI a sz st us kp ga gl cs mem pl ln km ks kt ku kl kn cd wt) := hD
  refine lv_aload_n hx hb dL_law_227 rfl (lv_at hl 1 rfl) ?_
  refine lv_aload_n hx hb dL_law_228 rfl (lv_at hl 3 rfl) ?_
  refine lv_iload_n hx hb dL_law_229 rfl (lv_at hl 0 rfl) ?_
  refine lv_iconst (v := nI 1) hx hb dL_law_230 (by decide) ?_
  refine lv_iadd hx hb dL_law_231 ?_
  refine tpi (nI_add i 1) ?_
  refine va_sld hx hb hX hbl hbA hS (vp_in_nI (by omega) (by omega)) dL_law_232 ?_
  refine tpi (show xs (nI (i + 1)).toNatClampNeg = xs (i + 1) by rw [nI_clamp (by omega)]) ?_
  refine lv_aload_n hx hb dL_law_233 rfl (lv_at hl 3 rfl) ?_
  refine lv_iload_n hx hb dL_law_234 rfl (lv_at hl 0 rfl) ?_
  refine lv_iconst (v := nI 2) hx hb dL_law_235 (by decide) ?_
  refine lv_iadd hx hb dL_law_236 ?_
  refine tpi (nI_add i 2) ?_
  refine va_sld hx hb hX hbl hbA hS (vp_in_nI (by omega) (by omega)) dL_law_237 ?_
  refine tpi (show xs (nI (i + 2)).toNatClampNeg = xs (i + 2) by rw [nI_clamp (by omega)]) ?_
  have hKc := hK.sub (tys' := [(cI, .int)]) [0] rfl
  refine fr_calli (wc := mw cI a sz st us kp ga gl cs mem pl ln km ks kt ku kl kn cd wt) (wr := gw h kq (xA sp) k o b kp ga gl ++ kw cB k kL kb ++ ow cB o oz cs cK ++ sw cB cI b sz st us (zrM sz mK (xs (i + 1)) (xs (i + 2))) pK lK ++ (krw cS kq (fun j => xA (kf j)) ++ (xW cB cI sp ++ kW cB cI kf))) (w1 := fun _ => mw cI a sz st us kp ga gl cs (zrM sz mem (xs (i + 1)) (xs (i + 2))) pl ln km ks kt ku kl kn cd wt) (Z := fun _ t9 => va_K (dC, dI) vwCl [(cI, .int)] t9) (fun _ _ q9 => q9) (pM) hP hD hS hA (fun hPc hDc => va_runV (As := [.int (xs (i + 1)), .int (xs (i + 2))]) (rest := []) ⟨hx, hb, hml, hown, hts⟩ (c_X4_zero l dC dI cI a sz st us kp ga gl cs mem pl ln km ks kt ku kl kn cd wt H.size (xs (i + 1)) (xs (i + 2)) c1.sz8) (cwV 2 hts gL_law_X4_zero rfl rfl rfl (by decide +kernel) ⟨Nat.le_of_ble_eq_true rfl, Nat.le_of_ble_eq_true rfl⟩) ⟨fun a9 U g9 mk9 q9 => by obtain ⟨q0, q1, qP, qK, qD⟩ := q9; exact ⟨q0, q1, qP, va_K.moved (u := U) (U := U.calling g9 mk9 a9) (Vm.Alike.refl U.vm) qK, qD⟩, va_recv hKc hPc (ci := 4) (q0 := 0) rfl rfl, fun U hU hW => ⟨rfl, by rw [hU], by rw [hU]; exact hPc, va_K.moved hW.alike hKc, hDc⟩⟩ rfl rfl hl.1 rfl (lv_room (Nat.le_of_ble_eq_true rfl)) dL_law_238 ⟨by show 22 + 4 * jj + 0 + 0 ≤ 60000; omega, by show 78425 + 12550 * jj + 0 + 0 ≤ 8922250; omega⟩) (fun r2 _ H locs hw hP hD hS => ?_)
  try dsimp only at hw hP hD
  have hm := hw
  clear hw
  refine lv_pop hx hb dL_law_241 rfl ?_
  have hP := va_P_perm pM hP
  have hD := va_D_perm pM hD
  have hP : va_P (dC, dI) vwCl (gw h kq (xA sp) k o b kp ga gl ++ kw cB k kL kb ++ ow cB o oz cs cK ++ sw cB cI b sz st us (zrM sz mK (xs (i + 1)) (xs (i + 2))) pK lK ++ (krw cS kq (fun j => xA (kf j)) ++ (xW cB cI sp ++ kW cB cI kf)) ++ mw cI a sz st us kp ga gl cs (zrM sz mem (xs (i + 1)) (xs (i + 2))) pl ln km ks kt ku kl kn cd wt) H := hP
  have hD : va_D A (gw h kq (xA sp) k o b kp ga gl ++ kw cB k kL kb ++ ow cB o oz cs cK ++ sw cB cI b sz st us (zrM sz mK (xs (i + 1)) (xs (i + 2))) pK lK ++ (krw cS kq (fun j => xA (kf j)) ++ (xW cB cI sp ++ kW cB cI kf)) ++ mw cI a sz st us kp ga gl cs (zrM sz mem (xs (i + 1)) (xs (i + 2))) pl ln km ks kt ku kl kn cd wt) := hD
  refine lv_goto (tgt := 852) hx hb dL_law_242 (by decide) ?_
  refine W.widen (k := 22 + 4 * (jj + 1)) (n := 78425 + 12550 * (jj + 1)) (by omega) (by omega) ?_
  exact tail _ H locs ls ⟨o, b, sz, st, us, kp, ga, gl, kL, oz, cs, zrM sz mK (xs (i + 1)) (xs (i + 2)), pK, lK, kb, cK, zrM sz mem (xs (i + 1)) (xs (i + 2)), pl, ln, km, ks, kt, ku, kl, kn, cd, wt, sp, kf, rfl, ⟨c1.zero _ _, ⟨zrM_lt c2.1 _ _, c2.2⟩, ⟨zrM_lt c3.1 _ _, c3.2⟩, c4, c5, c6, c7, c8⟩⟩ hP hD hS hl
set_option maxHeartbeats 4000000 in
set_option maxRecDepth 100000 in
theorem lc_copy {p : Program} {e : Env} {s : State} {m : MethodId} {below : List Frame} {meth : Method} {c : Code} (l : Launch) {q0 L : Nat} {xs : Nat → Int32} (hL : L ≤ 4096) (C0 : lw_At p s m meth c q0 L xs) (dC : Nat → ClassId) (dI : Nat → Nat → Nat) (cB cI cS : ClassId) (h kq : Nat) (k a : Nat → Nat) (A : Nat → Prop) (hA : ∀ q : Nat, s.heap.size ≤ q → A q) (hbA : ¬ A q0) (hK : va_K (dC, dI) vwCl [(cI, .int), (cB, .byte), (cS, .object "GlulxHeap$State")] s) {i jj : Nat} (hi : i = 8 * jj) (hiL : i + 8 ≤ L) {ws : va_W} {H : Heap} {locs : List Loc} {ls : Array Slot} (hJ : J cB cI cS h kq k a ws) (hP : va_P (dC, dI) vwCl ws H) (hD : va_D A ws) (hS : va_S A s.heap H locs) (hl : lv_has ls 4 [(3, .int (nI i)), (2, .ref (a 0)), (1, .ref h), (0, .ref q0)]) (tail : ∀ (ws : va_W) (H : Heap) (locs : List Loc) (ls : Array Slot), J cB cI cS h kq k a ws → va_P (dC, dI) vwCl ws H → va_D A ws → va_S A s.heap H locs → lv_has ls 4 [(3, .int (nI i)), (2, .ref (a 0)), (1, .ref h), (0, .ref q0)] → W p l e room_1 s m #[Value.ref q0] below meth c H locs (22 + 4 * (jj + 1)) (78425 + 12550 * (jj + 1)) (lw_Z below #[Value.ref q0] s) (F0 m 852 ls [])) : W p l e room_1 s m #[Value.ref q0] below meth c H locs (22 + 4 * jj) (78425 + 12550 * jj) (lw_Z below #[Value.ref q0] s) (F0 m 245 ls []) := by
  obtain ⟨hx, hb, hr, hml, hown, hts0, hX, hbl, hlocks, hgv⟩ := id C0
  have hts : ∀ w ∈ wsL_law, w.before #[Value.ref q0] s = true := fun w h => hts0 w (wsL_law_in w h)
  obtain ⟨o, b, sz, st, us, kp, ga, gl, kL, oz, cs, mK, pK, lK, kb, cK, mem, pl, ln, km, ks, kt, ku, kl, kn, cd, wt, sp, kf, rfl, c1, c2, c3, c4, c5, c6, c7, c8⟩ := hJ
  have hcs : cs ≤ 12550 ∧ oz ≤ 12550 := by have := c6.2.1; rcases c6.1 with q | q <;> omega
  have hst9 := wfB_st c1.1
  refine lv_aload_n hx hb dL_law_245 rfl (lv_at hl 2 rfl) ?_
  refine lv_aload_n hx hb dL_law_246 rfl (lv_at hl 3 rfl) ?_
  refine lv_iload_n hx hb dL_law_247 rfl (lv_at hl 0 rfl) ?_
  refine lv_iconst (v := nI 1) hx hb dL_law_248 (by decide) ?_
  refine lv_iadd hx hb dL_law_249 ?_
  refine tpi (nI_add i 1) ?_
  refine va_sld hx hb hX hbl hbA hS (vp_in_nI (by omega) (by omega)) dL_law_250 ?_
  refine tpi (show xs (nI (i + 1)).toNatClampNeg = xs (i + 1) by rw [nI_clamp (by omega)]) ?_
  refine lv_aload_n hx hb dL_law_251 rfl (lv_at hl 3 rfl) ?_
  refine lv_iload_n hx hb dL_law_252 rfl (lv_at hl 0 rfl) ?_
  refine lv_iconst (v := nI 2) hx hb dL_law_253 (by decide) ?_
  refine lv_iadd hx hb dL_law_254 ?_
  refine tpi (nI_add i 2) ?_
  refine va_sld hx hb hX hbl hbA hS (vp_in_nI (by omega) (by omega)) dL_law_255 ?_
  refine tpi (show xs (nI (i + 2)).toNatClampNeg = xs (i + 2) by rw [nI_clamp (by omega)]) ?_
  refine lv_aload_n hx hb dL_law_256 rfl (lv_at hl 3 rfl) ?_
  refine lv_iload_n hx hb dL_law_257 rfl (lv_at hl 0 rfl) ?_
  refine lv_iconst (v := nI 3) hx hb dL_law_258 (by decide) ?_
  refine lv_iadd hx hb dL_law_259 ?_
  refine tpi (nI_add i 3) ?_
  refine va_sld hx hb hX hbl hbA hS (vp_in_nI (by omega) (by omega)) dL_law_260 ?_
  refine tpi (show xs (nI (i + 3)).toNatClampNeg = xs (i + 3) by rw [nI_clamp (by omega)]) ?_
  have hKc := hK.sub (tys' := [(cI, .int), (cB, .byte)]) [0, 1] rfl
  refine fr_calli (wc := gw h kq (xA sp) k o b kp ga gl ++ kw cB k kL kb ++ ow cB o oz cs cK ++ sw cB cI b sz st us mK pK lK) (wr := krw cS kq (fun j => xA (kf j)) ++ (xW cB cI sp ++ kW cB cI kf) ++ mw cI a sz st us kp ga gl cs mem pl ln km ks kt ku kl kn cd wt) (w1 := fun _ => gw h kq (xA sp) k o b kp ga gl ++ kw cB k kL kb ++ ow cB o oz cs cK ++ sw cB cI b sz st us (cpM sz mK (xs (i + 1)) (xs (i + 2)) (xs (i + 3))) pK lK) (Z := fun _ t9 => va_K (dC, dI) vwCl [(cI, .int), (cB, .byte)] t9) (fun _ _ q9 => q9) (pGKOS) hP hD hS hA (fun hPc hDc => va_runV (As := [.int (xs (i + 1)), .int (xs (i + 2)), .int (xs (i + 3))]) (rest := []) ⟨hx, hb, hml, hown, hts⟩ (c_X3_copy l dC dI cB cI h kq (xA sp) k o b kp ga gl kL kb oz cs cK sz st us mK pK lK H.size (xs (i + 1)) (xs (i + 2)) (xs (i + 3)) c1.sz8) (cwV 3 hts gL_law_X3_copy rfl rfl rfl (by decide +kernel) ⟨Nat.le_of_ble_eq_true rfl, Nat.le_of_ble_eq_true rfl⟩) ⟨fun a9 U g9 mk9 q9 => by obtain ⟨q0, q1, qP, qK, qD⟩ := q9; exact ⟨q0, q1, qP, va_K.moved (u := U) (U := U.calling g9 mk9 a9) (Vm.Alike.refl U.vm) qK, qD⟩, va_recv hKc hPc (ci := 3) (q0 := 0) rfl rfl, fun U hU hW => ⟨rfl, by rw [hU], by rw [hU]; exact hPc, va_K.moved hW.alike hKc, hDc⟩⟩ rfl rfl hl.1 rfl (lv_room (Nat.le_of_ble_eq_true rfl)) dL_law_261 ⟨by show 22 + 4 * jj + 0 ≤ 60000; omega, by show 78425 + 12550 * jj + 0 ≤ 8922250; omega⟩) (fun r1 _ H locs hw hP hD hS => ?_)
  try dsimp only at hw hP hD
  have hc := hw
  clear hw
  refine lv_pop hx hb dL_law_264 rfl ?_
  have hP := va_P_perm pGKOS.symm hP
  have hD := va_D_perm pGKOS.symm hD
  have hP : va_P (dC, dI) vwCl (gw h kq (xA sp) k o b kp ga gl ++ kw cB k kL kb ++ ow cB o oz cs cK ++ sw cB cI b sz st us (cpM sz mK (xs (i + 1)) (xs (i + 2)) (xs (i + 3))) pK lK ++ (krw cS kq (fun j => xA (kf j)) ++ (xW cB cI sp ++ kW cB cI kf)) ++ mw cI a sz st us kp ga gl cs mem pl ln km ks kt ku kl kn cd wt) H := hP
  have hD : va_D A (gw h kq (xA sp) k o b kp ga gl ++ kw cB k kL kb ++ ow cB o oz cs cK ++ sw cB cI b sz st us (cpM sz mK (xs (i + 1)) (xs (i + 2)) (xs (i + 3))) pK lK ++ (krw cS kq (fun j => xA (kf j)) ++ (xW cB cI sp ++ kW cB cI kf)) ++ mw cI a sz st us kp ga gl cs mem pl ln km ks kt ku kl kn cd wt) := hD
  refine lv_aload_n hx hb dL_law_265 rfl (lv_at hl 1 rfl) ?_
  refine lv_aload_n hx hb dL_law_266 rfl (lv_at hl 3 rfl) ?_
  refine lv_iload_n hx hb dL_law_267 rfl (lv_at hl 0 rfl) ?_
  refine lv_iconst (v := nI 1) hx hb dL_law_268 (by decide) ?_
  refine lv_iadd hx hb dL_law_269 ?_
  refine tpi (nI_add i 1) ?_
  refine va_sld hx hb hX hbl hbA hS (vp_in_nI (by omega) (by omega)) dL_law_270 ?_
  refine tpi (show xs (nI (i + 1)).toNatClampNeg = xs (i + 1) by rw [nI_clamp (by omega)]) ?_
  refine lv_aload_n hx hb dL_law_271 rfl (lv_at hl 3 rfl) ?_
  refine lv_iload_n hx hb dL_law_272 rfl (lv_at hl 0 rfl) ?_
  refine lv_iconst (v := nI 2) hx hb dL_law_273 (by decide) ?_
  refine lv_iadd hx hb dL_law_274 ?_
  refine tpi (nI_add i 2) ?_
  refine va_sld hx hb hX hbl hbA hS (vp_in_nI (by omega) (by omega)) dL_law_275 ?_
  refine tpi (show xs (nI (i + 2)).toNatClampNeg = xs (i + 2) by rw [nI_clamp (by omega)]) ?_
  refine lv_aload_n hx hb dL_law_276 rfl (lv_at hl 3 rfl) ?_
  refine lv_iload_n hx hb dL_law_277 rfl (lv_at hl 0 rfl) ?_
  refine lv_iconst (v := nI 3) hx hb dL_law_278 (by decide) ?_
  refine lv_iadd hx hb dL_law_279 ?_
  refine tpi (nI_add i 3) ?_
  refine va_sld hx hb hX hbl hbA hS (vp_in_nI (by omega) (by omega)) dL_law_280 ?_
  refine tpi (show xs (nI (i + 3)).toNatClampNeg = xs (i + 3) by rw [nI_clamp (by omega)]) ?_
  have hKc := hK.sub (tys' := [(cI, .int)]) [0] rfl
  refine fr_calli (wc := mw cI a sz st us kp ga gl cs mem pl ln km ks kt ku kl kn cd wt) (wr := gw h kq (xA sp) k o b kp ga gl ++ kw cB k kL kb ++ ow cB o oz cs cK ++ sw cB cI b sz st us (cpM sz mK (xs (i + 1)) (xs (i + 2)) (xs (i + 3))) pK lK ++ (krw cS kq (fun j => xA (kf j)) ++ (xW cB cI sp ++ kW cB cI kf))) (w1 := fun _ => mw cI a sz st us kp ga gl cs (cpM sz mem (xs (i + 1)) (xs (i + 2)) (xs (i + 3))) pl ln km ks kt ku kl kn cd wt) (Z := fun _ t9 => va_K (dC, dI) vwCl [(cI, .int)] t9) (fun _ _ q9 => q9) (pM) hP hD hS hA (fun hPc hDc => va_runV (As := [.int (xs (i + 1)), .int (xs (i + 2)), .int (xs (i + 3))]) (rest := []) ⟨hx, hb, hml, hown, hts⟩ (c_X4_copy l dC dI cI a sz st us kp ga gl cs mem pl ln km ks kt ku kl kn cd wt H.size (xs (i + 1)) (xs (i + 2)) (xs (i + 3)) c1.sz8) (cwV 3 hts gL_law_X4_copy rfl rfl rfl (by decide +kernel) ⟨Nat.le_of_ble_eq_true rfl, Nat.le_of_ble_eq_true rfl⟩) ⟨fun a9 U g9 mk9 q9 => by obtain ⟨q0, q1, qP, qK, qD⟩ := q9; exact ⟨q0, q1, qP, va_K.moved (u := U) (U := U.calling g9 mk9 a9) (Vm.Alike.refl U.vm) qK, qD⟩, va_recv hKc hPc (ci := 4) (q0 := 0) rfl rfl, fun U hU hW => ⟨rfl, by rw [hU], by rw [hU]; exact hPc, va_K.moved hW.alike hKc, hDc⟩⟩ rfl rfl hl.1 rfl (lv_room (Nat.le_of_ble_eq_true rfl)) dL_law_281 ⟨by show 22 + 4 * jj + 0 + 0 ≤ 60000; omega, by show 78425 + 12550 * jj + 0 + 0 ≤ 8922250; omega⟩) (fun r2 _ H locs hw hP hD hS => ?_)
  try dsimp only at hw hP hD
  have hm := hw
  clear hw
  refine lv_pop hx hb dL_law_284 rfl ?_
  have hP := va_P_perm pM hP
  have hD := va_D_perm pM hD
  have hP : va_P (dC, dI) vwCl (gw h kq (xA sp) k o b kp ga gl ++ kw cB k kL kb ++ ow cB o oz cs cK ++ sw cB cI b sz st us (cpM sz mK (xs (i + 1)) (xs (i + 2)) (xs (i + 3))) pK lK ++ (krw cS kq (fun j => xA (kf j)) ++ (xW cB cI sp ++ kW cB cI kf)) ++ mw cI a sz st us kp ga gl cs (cpM sz mem (xs (i + 1)) (xs (i + 2)) (xs (i + 3))) pl ln km ks kt ku kl kn cd wt) H := hP
  have hD : va_D A (gw h kq (xA sp) k o b kp ga gl ++ kw cB k kL kb ++ ow cB o oz cs cK ++ sw cB cI b sz st us (cpM sz mK (xs (i + 1)) (xs (i + 2)) (xs (i + 3))) pK lK ++ (krw cS kq (fun j => xA (kf j)) ++ (xW cB cI sp ++ kW cB cI kf)) ++ mw cI a sz st us kp ga gl cs (cpM sz mem (xs (i + 1)) (xs (i + 2)) (xs (i + 3))) pl ln km ks kt ku kl kn cd wt) := hD
  refine lv_goto (tgt := 852) hx hb dL_law_285 (by decide) ?_
  refine W.widen (k := 22 + 4 * (jj + 1)) (n := 78425 + 12550 * (jj + 1)) (by omega) (by omega) ?_
  exact tail _ H locs ls ⟨o, b, sz, st, us, kp, ga, gl, kL, oz, cs, cpM sz mK (xs (i + 1)) (xs (i + 2)) (xs (i + 3)), pK, lK, kb, cK, cpM sz mem (xs (i + 1)) (xs (i + 2)) (xs (i + 3)), pl, ln, km, ks, kt, ku, kl, kn, cd, wt, sp, kf, rfl, ⟨c1.copy _ _ _, ⟨cpM_lt c2.1 _ _ _, c2.2⟩, ⟨cpM_lt c3.1 _ _ _, c3.2⟩, c4, c5, c6, c7, c8⟩⟩ hP hD hS hl
set_option maxHeartbeats 4000000 in
set_option maxRecDepth 100000 in
theorem lc_resize {p : Program} {e : Env} {s : State} {m : MethodId} {below : List Frame} {meth : Method} {c : Code} (l : Launch) {q0 L : Nat} {xs : Nat → Int32} (hL : L ≤ 4096) (C0 : lw_At p s m meth c q0 L xs) (dC : Nat → ClassId) (dI : Nat → Nat → Nat) (cB cI cS : ClassId) (h kq : Nat) (k a : Nat → Nat) (A : Nat → Prop) (hA : ∀ q : Nat, s.heap.size ≤ q → A q) (hbA : ¬ A q0) (hK : va_K (dC, dI) vwCl [(cI, .int), (cB, .byte), (cS, .object "GlulxHeap$State")] s) {i jj : Nat} (hi : i = 8 * jj) (hiL : i + 8 ≤ L) {ws : va_W} {H : Heap} {locs : List Loc} {ls : Array Slot} (hJ : J cB cI cS h kq k a ws) (hP : va_P (dC, dI) vwCl ws H) (hD : va_D A ws) (hS : va_S A s.heap H locs) (hl : lv_has ls 4 [(3, .int (nI i)), (2, .ref (a 0)), (1, .ref h), (0, .ref q0)]) (tail : ∀ (ws : va_W) (H : Heap) (locs : List Loc) (ls : Array Slot), J cB cI cS h kq k a ws → va_P (dC, dI) vwCl ws H → va_D A ws → va_S A s.heap H locs → lv_has ls 4 [(3, .int (nI i)), (2, .ref (a 0)), (1, .ref h), (0, .ref q0)] → W p l e room_1 s m #[Value.ref q0] below meth c H locs (22 + 4 * (jj + 1)) (78425 + 12550 * (jj + 1)) (lw_Z below #[Value.ref q0] s) (F0 m 852 ls [])) : W p l e room_1 s m #[Value.ref q0] below meth c H locs (22 + 4 * jj) (78425 + 12550 * jj) (lw_Z below #[Value.ref q0] s) (F0 m 288 ls []) := by
  obtain ⟨hx, hb, hr, hml, hown, hts0, hX, hbl, hlocks, hgv⟩ := id C0
  have hts : ∀ w ∈ wsL_law, w.before #[Value.ref q0] s = true := fun w h => hts0 w (wsL_law_in w h)
  obtain ⟨o, b, sz, st, us, kp, ga, gl, kL, oz, cs, mK, pK, lK, kb, cK, mem, pl, ln, km, ks, kt, ku, kl, kn, cd, wt, sp, kf, rfl, c1, c2, c3, c4, c5, c6, c7, c8⟩ := hJ
  have hcs : cs ≤ 12550 ∧ oz ≤ 12550 := by have := c6.2.1; rcases c6.1 with q | q <;> omega
  have hst9 := wfB_st c1.1
  refine lv_aload_n hx hb dL_law_288 rfl (lv_at hl 2 rfl) ?_
  refine lv_aload_n hx hb dL_law_289 rfl (lv_at hl 3 rfl) ?_
  refine lv_iload_n hx hb dL_law_290 rfl (lv_at hl 0 rfl) ?_
  refine lv_iconst (v := nI 1) hx hb dL_law_291 (by decide) ?_
  refine lv_iadd hx hb dL_law_292 ?_
  refine tpi (nI_add i 1) ?_
  refine va_sld hx hb hX hbl hbA hS (vp_in_nI (by omega) (by omega)) dL_law_293 ?_
  refine tpi (show xs (nI (i + 1)).toNatClampNeg = xs (i + 1) by rw [nI_clamp (by omega)]) ?_
  have hKc := hK.sub (tys' := [(cI, .int), (cB, .byte)]) [0, 1] rfl
  refine fr_calli (wc := gw h kq (xA sp) k o b kp ga gl ++ kw cB k kL kb ++ ow cB o oz cs cK ++ sw cB cI b sz st us mK pK lK) (wr := krw cS kq (fun j => xA (kf j)) ++ (xW cB cI sp ++ kW cB cI kf) ++ mw cI a sz st us kp ga gl cs mem pl ln km ks kt ku kl kn cd wt) (w1 := fun _ => gw h kq (xA sp) k o b kp ga gl ++ kw cB k kL kb ++ ow cB o oz cs cK ++ sw cB cI b (rzZ sz us (xs (i + 1))) st us (rzC sz us mK (xs (i + 1))) pK lK) (Z := fun _ t9 => va_K (dC, dI) vwCl [(cI, .int), (cB, .byte)] t9) (fun _ _ q9 => q9) (pGKOS) hP hD hS hA (fun hPc hDc => va_runV (As := [.int (xs (i + 1))]) (rest := []) ⟨hx, hb, hml, hown, hts⟩ (c_X3_resize l dC dI cB cI h kq (xA sp) k o b kp ga gl kL kb oz cs cK sz st us mK pK lK H.size (xs (i + 1)) c1.sz8 c1.us64) (cwV 1 hts gL_law_X3_resize rfl rfl rfl (by decide +kernel) ⟨Nat.le_of_ble_eq_true rfl, Nat.le_of_ble_eq_true rfl⟩) ⟨fun a9 U g9 mk9 q9 => by obtain ⟨q0, q1, qP, qK, qD⟩ := q9; exact ⟨q0, q1, qP, va_K.moved (u := U) (U := U.calling g9 mk9 a9) (Vm.Alike.refl U.vm) qK, qD⟩, va_recv hKc hPc (ci := 3) (q0 := 0) rfl rfl, fun U hU hW => ⟨rfl, by rw [hU], by rw [hU]; exact hPc, va_K.moved hW.alike hKc, hDc⟩⟩ rfl rfl hl.1 rfl (lv_room (Nat.le_of_ble_eq_true rfl)) dL_law_294 ⟨by show 22 + 4 * jj + 0 ≤ 60000; omega, by show 78425 + 12550 * jj + 0 ≤ 8922250; omega⟩) (fun r1 _ H locs hw hP hD hS => ?_)
  try dsimp only at hw hP hD
  have hc := hw
  clear hw
  refine lv_pop hx hb dL_law_297 rfl ?_
  have hP := va_P_perm pGKOS.symm hP
  have hD := va_D_perm pGKOS.symm hD
  have hP : va_P (dC, dI) vwCl (gw h kq (xA sp) k o b kp ga gl ++ kw cB k kL kb ++ ow cB o oz cs cK ++ sw cB cI b (rzZ sz us (xs (i + 1))) st us (rzC sz us mK (xs (i + 1))) pK lK ++ (krw cS kq (fun j => xA (kf j)) ++ (xW cB cI sp ++ kW cB cI kf)) ++ mw cI a sz st us kp ga gl cs mem pl ln km ks kt ku kl kn cd wt) H := hP
  have hD : va_D A (gw h kq (xA sp) k o b kp ga gl ++ kw cB k kL kb ++ ow cB o oz cs cK ++ sw cB cI b (rzZ sz us (xs (i + 1))) st us (rzC sz us mK (xs (i + 1))) pK lK ++ (krw cS kq (fun j => xA (kf j)) ++ (xW cB cI sp ++ kW cB cI kf)) ++ mw cI a sz st us kp ga gl cs mem pl ln km ks kt ku kl kn cd wt) := hD
  refine lv_aload_n hx hb dL_law_298 rfl (lv_at hl 1 rfl) ?_
  refine lv_aload_n hx hb dL_law_299 rfl (lv_at hl 3 rfl) ?_
  refine lv_iload_n hx hb dL_law_300 rfl (lv_at hl 0 rfl) ?_
  refine lv_iconst (v := nI 1) hx hb dL_law_301 (by decide) ?_
  refine lv_iadd hx hb dL_law_302 ?_
  refine tpi (nI_add i 1) ?_
  refine va_sld hx hb hX hbl hbA hS (vp_in_nI (by omega) (by omega)) dL_law_303 ?_
  refine tpi (show xs (nI (i + 1)).toNatClampNeg = xs (i + 1) by rw [nI_clamp (by omega)]) ?_
  have hKc := hK.sub (tys' := [(cI, .int)]) [0] rfl
  refine fr_calli (wc := mw cI a sz st us kp ga gl cs mem pl ln km ks kt ku kl kn cd wt) (wr := gw h kq (xA sp) k o b kp ga gl ++ kw cB k kL kb ++ ow cB o oz cs cK ++ sw cB cI b (rzZ sz us (xs (i + 1))) st us (rzC sz us mK (xs (i + 1))) pK lK ++ (krw cS kq (fun j => xA (kf j)) ++ (xW cB cI sp ++ kW cB cI kf))) (w1 := fun _ => mw cI a (rzZ sz us (xs (i + 1))) st us kp ga gl cs (rzM sz us mem (xs (i + 1))) pl ln km ks kt ku kl kn cd wt) (Z := fun _ t9 => va_K (dC, dI) vwCl [(cI, .int)] t9) (fun _ _ q9 => q9) (pM) hP hD hS hA (fun hPc hDc => va_runV (As := [.int (xs (i + 1))]) (rest := []) ⟨hx, hb, hml, hown, hts⟩ (c_X4_resize l dC dI cI a sz st us kp ga gl cs mem pl ln km ks kt ku kl kn cd wt H.size (xs (i + 1)) c1.sz8 c1.us64) (cwV 1 hts gL_law_X4_resize rfl rfl rfl (by decide +kernel) ⟨Nat.le_of_ble_eq_true rfl, Nat.le_of_ble_eq_true rfl⟩) ⟨fun a9 U g9 mk9 q9 => by obtain ⟨q0, q1, qP, qK, qD⟩ := q9; exact ⟨q0, q1, qP, va_K.moved (u := U) (U := U.calling g9 mk9 a9) (Vm.Alike.refl U.vm) qK, qD⟩, va_recv hKc hPc (ci := 4) (q0 := 0) rfl rfl, fun U hU hW => ⟨rfl, by rw [hU], by rw [hU]; exact hPc, va_K.moved hW.alike hKc, hDc⟩⟩ rfl rfl hl.1 rfl (lv_room (Nat.le_of_ble_eq_true rfl)) dL_law_304 ⟨by show 22 + 4 * jj + 0 + 0 ≤ 60000; omega, by show 78425 + 12550 * jj + 0 + 0 ≤ 8922250; omega⟩) (fun r2 _ H locs hw hP hD hS => ?_)
  try dsimp only at hw hP hD
  have hm := hw
  clear hw
  refine lv_pop hx hb dL_law_307 rfl ?_
  have hP := va_P_perm pM hP
  have hD := va_D_perm pM hD
  have hP : va_P (dC, dI) vwCl (gw h kq (xA sp) k o b kp ga gl ++ kw cB k kL kb ++ ow cB o oz cs cK ++ sw cB cI b (rzZ sz us (xs (i + 1))) st us (rzC sz us mK (xs (i + 1))) pK lK ++ (krw cS kq (fun j => xA (kf j)) ++ (xW cB cI sp ++ kW cB cI kf)) ++ mw cI a (rzZ sz us (xs (i + 1))) st us kp ga gl cs (rzM sz us mem (xs (i + 1))) pl ln km ks kt ku kl kn cd wt) H := hP
  have hD : va_D A (gw h kq (xA sp) k o b kp ga gl ++ kw cB k kL kb ++ ow cB o oz cs cK ++ sw cB cI b (rzZ sz us (xs (i + 1))) st us (rzC sz us mK (xs (i + 1))) pK lK ++ (krw cS kq (fun j => xA (kf j)) ++ (xW cB cI sp ++ kW cB cI kf)) ++ mw cI a (rzZ sz us (xs (i + 1))) st us kp ga gl cs (rzM sz us mem (xs (i + 1))) pl ln km ks kt ku kl kn cd wt) := hD
  refine lv_goto (tgt := 852) hx hb dL_law_308 (by decide) ?_
  refine W.widen (k := 22 + 4 * (jj + 1)) (n := 78425 + 12550 * (jj + 1)) (by omega) (by omega) ?_
  exact tail _ H locs ls ⟨o, b, rzZ sz us (xs (i + 1)), st, us, kp, ga, gl, kL, oz, cs, rzC sz us mK (xs (i + 1)), pK, lK, kb, cK, rzM sz us mem (xs (i + 1)), pl, ln, km, ks, kt, ku, kl, kn, cd, wt, sp, kf, rfl, ⟨c1.resize _, ⟨rzC_lt c2.1 _, c2.2⟩, ⟨rzM_lt c3.1 _, c3.2⟩, c4, c5, c6, c7, c8⟩⟩ hP hD hS hl
set_option maxHeartbeats 4000000 in
set_option maxRecDepth 100000 in
theorem lc_make {p : Program} {e : Env} {s : State} {m : MethodId} {below : List Frame} {meth : Method} {c : Code} (l : Launch) {q0 L : Nat} {xs : Nat → Int32} (hL : L ≤ 4096) (C0 : lw_At p s m meth c q0 L xs) (dC : Nat → ClassId) (dI : Nat → Nat → Nat) (cB cI cS : ClassId) (h kq : Nat) (k a : Nat → Nat) (A : Nat → Prop) (hA : ∀ q : Nat, s.heap.size ≤ q → A q) (hbA : ¬ A q0) (hK : va_K (dC, dI) vwCl [(cI, .int), (cB, .byte), (cS, .object "GlulxHeap$State")] s) {i jj : Nat} (hi : i = 8 * jj) (hiL : i + 8 ≤ L) {ws : va_W} {H : Heap} {locs : List Loc} {ls : Array Slot} (hJ : J cB cI cS h kq k a ws) (hP : va_P (dC, dI) vwCl ws H) (hD : va_D A ws) (hS : va_S A s.heap H locs) (hl : lv_has ls 4 [(3, .int (nI i)), (2, .ref (a 0)), (1, .ref h), (0, .ref q0)]) (tail : ∀ (ws : va_W) (H : Heap) (locs : List Loc) (ls : Array Slot), J cB cI cS h kq k a ws → va_P (dC, dI) vwCl ws H → va_D A ws → va_S A s.heap H locs → lv_has ls 4 [(3, .int (nI i)), (2, .ref (a 0)), (1, .ref h), (0, .ref q0)] → W p l e room_1 s m #[Value.ref q0] below meth c H locs (22 + 4 * (jj + 1)) (78425 + 12550 * (jj + 1)) (lw_Z below #[Value.ref q0] s) (F0 m 852 ls [])) : W p l e room_1 s m #[Value.ref q0] below meth c H locs (22 + 4 * jj) (78425 + 12550 * jj) (lw_Z below #[Value.ref q0] s) (F0 m 311 ls []) := by
  obtain ⟨hx, hb, hr, hml, hown, hts0, hX, hbl, hlocks, hgv⟩ := id C0
  have hts : ∀ w ∈ wsL_law, w.before #[Value.ref q0] s = true := fun w h => hts0 w (wsL_law_in w h)
  obtain ⟨o, b, sz, st, us, kp, ga, gl, kL, oz, cs, mK, pK, lK, kb, cK, mem, pl, ln, km, ks, kt, ku, kl, kn, cd, wt, sp, kf, rfl, c1, c2, c3, c4, c5, c6, c7, c8⟩ := hJ
  have hcs : cs ≤ 12550 ∧ oz ≤ 12550 := by have := c6.2.1; rcases c6.1 with q | q <;> omega
  have hst9 := wfB_st c1.1
  refine lv_aload_n hx hb dL_law_311 rfl (lv_at hl 2 rfl) ?_
  refine lv_aload_n hx hb dL_law_312 rfl (lv_at hl 3 rfl) ?_
  refine lv_iload_n hx hb dL_law_313 rfl (lv_at hl 0 rfl) ?_
  refine lv_iconst (v := nI 1) hx hb dL_law_314 (by decide) ?_
  refine lv_iadd hx hb dL_law_315 ?_
  refine tpi (nI_add i 1) ?_
  refine va_sld hx hb hX hbl hbA hS (vp_in_nI (by omega) (by omega)) dL_law_316 ?_
  refine tpi (show xs (nI (i + 1)).toNatClampNeg = xs (i + 1) by rw [nI_clamp (by omega)]) ?_
  have hKc := hK.sub (tys' := [(cI, .int), (cB, .byte)]) [0, 1] rfl
  refine fr_calli (wc := gw h kq (xA sp) k o b kp ga gl ++ kw cB k kL kb ++ ow cB o oz cs cK ++ sw cB cI b sz st us mK pK lK) (wr := krw cS kq (fun j => xA (kf j)) ++ (xW cB cI sp ++ kW cB cI kf) ++ mw cI a sz st us kp ga gl cs mem pl ln km ks kt ku kl kn cd wt) (w1 := fun _ => gw h kq (xA sp) k o b kp ga gl ++ kw cB k kL kb ++ ow cB o oz cs cK ++ sw cB cI b (mkZ sz st us pK lK (xs (i + 1))) (mkS sz st us pK lK (xs (i + 1))) (mkU sz st us pK lK (xs (i + 1))) mK (mkQ sz st us pK lK (xs (i + 1))) (mkL sz st us pK lK (xs (i + 1)))) (Z := fun _ t9 => va_K (dC, dI) vwCl [(cI, .int), (cB, .byte)] t9) (fun _ _ q9 => q9) (pGKOS) hP hD hS hA (fun hPc hDc => va_runV (As := [.int (xs (i + 1))]) (rest := []) ⟨hx, hb, hml, hown, hts⟩ (c_X3_make l dC dI cB cI h kq (xA sp) k o b kp ga gl kL kb oz cs cK sz st us mK pK lK H.size (xs (i + 1)) c1.wfK) (cwV 1 hts gL_law_X3_make rfl rfl rfl (by decide +kernel) ⟨Nat.le_of_ble_eq_true rfl, Nat.le_of_ble_eq_true rfl⟩) ⟨fun a9 U g9 mk9 q9 => by obtain ⟨q0, q1, qP, qK, qD⟩ := q9; exact ⟨q0, q1, qP, va_K.moved (u := U) (U := U.calling g9 mk9 a9) (Vm.Alike.refl U.vm) qK, qD⟩, va_recv hKc hPc (ci := 3) (q0 := 0) rfl rfl, fun U hU hW => ⟨rfl, by rw [hU], by rw [hU]; exact hPc, va_K.moved hW.alike hKc, hDc⟩⟩ rfl rfl hl.1 rfl (lv_room (Nat.le_of_ble_eq_true rfl)) dL_law_317 ⟨by show 22 + 4 * jj + 0 ≤ 60000; omega, by show 78425 + 12550 * jj + 0 ≤ 8922250; omega⟩) (fun r1 _ H locs hw hP hD hS => ?_)
  try dsimp only at hw hP hD
  have hc := hw
  clear hw
  refine lv_pop hx hb dL_law_320 rfl ?_
  have hP := va_P_perm pGKOS.symm hP
  have hD := va_D_perm pGKOS.symm hD
  have hP : va_P (dC, dI) vwCl (gw h kq (xA sp) k o b kp ga gl ++ kw cB k kL kb ++ ow cB o oz cs cK ++ sw cB cI b (mkZ sz st us pK lK (xs (i + 1))) (mkS sz st us pK lK (xs (i + 1))) (mkU sz st us pK lK (xs (i + 1))) mK (mkQ sz st us pK lK (xs (i + 1))) (mkL sz st us pK lK (xs (i + 1))) ++ (krw cS kq (fun j => xA (kf j)) ++ (xW cB cI sp ++ kW cB cI kf)) ++ mw cI a sz st us kp ga gl cs mem pl ln km ks kt ku kl kn cd wt) H := hP
  have hD : va_D A (gw h kq (xA sp) k o b kp ga gl ++ kw cB k kL kb ++ ow cB o oz cs cK ++ sw cB cI b (mkZ sz st us pK lK (xs (i + 1))) (mkS sz st us pK lK (xs (i + 1))) (mkU sz st us pK lK (xs (i + 1))) mK (mkQ sz st us pK lK (xs (i + 1))) (mkL sz st us pK lK (xs (i + 1))) ++ (krw cS kq (fun j => xA (kf j)) ++ (xW cB cI sp ++ kW cB cI kf)) ++ mw cI a sz st us kp ga gl cs mem pl ln km ks kt ku kl kn cd wt) := hD
  rw [mk_z c1.2.2.2.1 c1.2.2.2.2] at hP hD
  rw [mk_s c1.2.2.2.1 c1.2.2.2.2] at hP hD
  rw [mk_u c1.2.2.2.1 c1.2.2.2.2] at hP hD
  have hP : va_P (dC, dI) vwCl (gw h kq (xA sp) k o b kp ga gl ++ kw cB k kL kb ++ ow cB o oz cs cK ++ sw cB cI b (mkZ sz st us pl ln (xs (i + 1))) (mkS sz st us pl ln (xs (i + 1))) (mkU sz st us pl ln (xs (i + 1))) mK (mkQ sz st us pK lK (xs (i + 1))) (mkL sz st us pK lK (xs (i + 1))) ++ (krw cS kq (fun j => xA (kf j)) ++ (xW cB cI sp ++ kW cB cI kf)) ++ mw cI a sz st us kp ga gl cs mem pl ln km ks kt ku kl kn cd wt) H := hP
  have hD : va_D A (gw h kq (xA sp) k o b kp ga gl ++ kw cB k kL kb ++ ow cB o oz cs cK ++ sw cB cI b (mkZ sz st us pl ln (xs (i + 1))) (mkS sz st us pl ln (xs (i + 1))) (mkU sz st us pl ln (xs (i + 1))) mK (mkQ sz st us pK lK (xs (i + 1))) (mkL sz st us pK lK (xs (i + 1))) ++ (krw cS kq (fun j => xA (kf j)) ++ (xW cB cI sp ++ kW cB cI kf)) ++ mw cI a sz st us kp ga gl cs mem pl ln km ks kt ku kl kn cd wt) := hD
  refine lv_aload_n hx hb dL_law_321 rfl (lv_at hl 1 rfl) ?_
  refine lv_aload_n hx hb dL_law_322 rfl (lv_at hl 3 rfl) ?_
  refine lv_iload_n hx hb dL_law_323 rfl (lv_at hl 0 rfl) ?_
  refine lv_iconst (v := nI 1) hx hb dL_law_324 (by decide) ?_
  refine lv_iadd hx hb dL_law_325 ?_
  refine tpi (nI_add i 1) ?_
  refine va_sld hx hb hX hbl hbA hS (vp_in_nI (by omega) (by omega)) dL_law_326 ?_
  refine tpi (show xs (nI (i + 1)).toNatClampNeg = xs (i + 1) by rw [nI_clamp (by omega)]) ?_
  have hKc := hK.sub (tys' := [(cI, .int)]) [0] rfl
  refine fr_calli (wc := mw cI a sz st us kp ga gl cs mem pl ln km ks kt ku kl kn cd wt) (wr := gw h kq (xA sp) k o b kp ga gl ++ kw cB k kL kb ++ ow cB o oz cs cK ++ sw cB cI b (mkZ sz st us pl ln (xs (i + 1))) (mkS sz st us pl ln (xs (i + 1))) (mkU sz st us pl ln (xs (i + 1))) mK (mkQ sz st us pK lK (xs (i + 1))) (mkL sz st us pK lK (xs (i + 1))) ++ (krw cS kq (fun j => xA (kf j)) ++ (xW cB cI sp ++ kW cB cI kf))) (w1 := fun _ => mw cI a (mkZ sz st us pl ln (xs (i + 1))) (mkS sz st us pl ln (xs (i + 1))) (mkU sz st us pl ln (xs (i + 1))) kp ga gl cs (mkM sz st us pl ln mem (xs (i + 1))) (mkQ sz st us pl ln (xs (i + 1))) (mkL sz st us pl ln (xs (i + 1))) km ks kt ku kl kn cd wt) (Z := fun _ t9 => va_K (dC, dI) vwCl [(cI, .int)] t9) (fun _ _ q9 => q9) (pM) hP hD hS hA (fun hPc hDc => va_runV (As := [.int (xs (i + 1))]) (rest := []) ⟨hx, hb, hml, hown, hts⟩ (c_X4_make l dC dI cI a sz st us kp ga gl cs mem pl ln km ks kt ku kl kn cd wt H.size (xs (i + 1)) c1.1) (cwV 1 hts gL_law_X4_make rfl rfl rfl (by decide +kernel) ⟨Nat.le_of_ble_eq_true rfl, Nat.le_of_ble_eq_true rfl⟩) ⟨fun a9 U g9 mk9 q9 => by obtain ⟨q0, q1, qP, qK, qD⟩ := q9; exact ⟨q0, q1, qP, va_K.moved (u := U) (U := U.calling g9 mk9 a9) (Vm.Alike.refl U.vm) qK, qD⟩, va_recv hKc hPc (ci := 4) (q0 := 0) rfl rfl, fun U hU hW => ⟨rfl, by rw [hU], by rw [hU]; exact hPc, va_K.moved hW.alike hKc, hDc⟩⟩ rfl rfl hl.1 rfl (lv_room (Nat.le_of_ble_eq_true rfl)) dL_law_327 ⟨by show 22 + 4 * jj + 0 + 0 ≤ 60000; omega, by show 78425 + 12550 * jj + 0 + 0 ≤ 8922250; omega⟩) (fun r2 _ H locs hw hP hD hS => ?_)
  try dsimp only at hw hP hD
  have hm := hw
  clear hw
  refine lv_pop hx hb dL_law_330 rfl ?_
  have hP := va_P_perm pM hP
  have hD := va_D_perm pM hD
  have hP : va_P (dC, dI) vwCl (gw h kq (xA sp) k o b kp ga gl ++ kw cB k kL kb ++ ow cB o oz cs cK ++ sw cB cI b (mkZ sz st us pl ln (xs (i + 1))) (mkS sz st us pl ln (xs (i + 1))) (mkU sz st us pl ln (xs (i + 1))) mK (mkQ sz st us pK lK (xs (i + 1))) (mkL sz st us pK lK (xs (i + 1))) ++ (krw cS kq (fun j => xA (kf j)) ++ (xW cB cI sp ++ kW cB cI kf)) ++ mw cI a (mkZ sz st us pl ln (xs (i + 1))) (mkS sz st us pl ln (xs (i + 1))) (mkU sz st us pl ln (xs (i + 1))) kp ga gl cs (mkM sz st us pl ln mem (xs (i + 1))) (mkQ sz st us pl ln (xs (i + 1))) (mkL sz st us pl ln (xs (i + 1))) km ks kt ku kl kn cd wt) H := hP
  have hD : va_D A (gw h kq (xA sp) k o b kp ga gl ++ kw cB k kL kb ++ ow cB o oz cs cK ++ sw cB cI b (mkZ sz st us pl ln (xs (i + 1))) (mkS sz st us pl ln (xs (i + 1))) (mkU sz st us pl ln (xs (i + 1))) mK (mkQ sz st us pK lK (xs (i + 1))) (mkL sz st us pK lK (xs (i + 1))) ++ (krw cS kq (fun j => xA (kf j)) ++ (xW cB cI sp ++ kW cB cI kf)) ++ mw cI a (mkZ sz st us pl ln (xs (i + 1))) (mkS sz st us pl ln (xs (i + 1))) (mkU sz st us pl ln (xs (i + 1))) kp ga gl cs (mkM sz st us pl ln mem (xs (i + 1))) (mkQ sz st us pl ln (xs (i + 1))) (mkL sz st us pl ln (xs (i + 1))) km ks kt ku kl kn cd wt) := hD
  refine lv_goto (tgt := 852) hx hb dL_law_331 (by decide) ?_
  refine W.widen (k := 22 + 4 * (jj + 1)) (n := 78425 + 12550 * (jj + 1)) (by omega) (by omega) ?_
  exact tail _ H locs ls ⟨o, b, mkZ sz st us pl ln (xs (i + 1)), mkS sz st us pl ln (xs (i + 1)), mkU sz st us pl ln (xs (i + 1)), kp, ga, gl, kL, oz, cs, mK, mkQ sz st us pK lK (xs (i + 1)), mkL sz st us pK lK (xs (i + 1)), kb, cK, mkM sz st us pl ln mem (xs (i + 1)), mkQ sz st us pl ln (xs (i + 1)), mkL sz st us pl ln (xs (i + 1)), km, ks, kt, ku, kl, kn, cd, wt, sp, kf, rfl, ⟨c1.make _, mk_SB c2 _, ⟨mkM_lt c3.1 _, (mk_SB c3 _).2⟩, c4, c5, c6, c7, c8⟩⟩ hP hD hS hl
set_option maxHeartbeats 4000000 in
set_option maxRecDepth 100000 in
theorem lc_free {p : Program} {e : Env} {s : State} {m : MethodId} {below : List Frame} {meth : Method} {c : Code} (l : Launch) {q0 L : Nat} {xs : Nat → Int32} (hL : L ≤ 4096) (C0 : lw_At p s m meth c q0 L xs) (dC : Nat → ClassId) (dI : Nat → Nat → Nat) (cB cI cS : ClassId) (h kq : Nat) (k a : Nat → Nat) (A : Nat → Prop) (hA : ∀ q : Nat, s.heap.size ≤ q → A q) (hbA : ¬ A q0) (hK : va_K (dC, dI) vwCl [(cI, .int), (cB, .byte), (cS, .object "GlulxHeap$State")] s) {i jj : Nat} (hi : i = 8 * jj) (hiL : i + 8 ≤ L) {ws : va_W} {H : Heap} {locs : List Loc} {ls : Array Slot} (hJ : J cB cI cS h kq k a ws) (hP : va_P (dC, dI) vwCl ws H) (hD : va_D A ws) (hS : va_S A s.heap H locs) (hl : lv_has ls 4 [(3, .int (nI i)), (2, .ref (a 0)), (1, .ref h), (0, .ref q0)]) (tail : ∀ (ws : va_W) (H : Heap) (locs : List Loc) (ls : Array Slot), J cB cI cS h kq k a ws → va_P (dC, dI) vwCl ws H → va_D A ws → va_S A s.heap H locs → lv_has ls 4 [(3, .int (nI i)), (2, .ref (a 0)), (1, .ref h), (0, .ref q0)] → W p l e room_1 s m #[Value.ref q0] below meth c H locs (22 + 4 * (jj + 1)) (78425 + 12550 * (jj + 1)) (lw_Z below #[Value.ref q0] s) (F0 m 852 ls [])) : W p l e room_1 s m #[Value.ref q0] below meth c H locs (22 + 4 * jj) (78425 + 12550 * jj) (lw_Z below #[Value.ref q0] s) (F0 m 334 ls []) := by
  obtain ⟨hx, hb, hr, hml, hown, hts0, hX, hbl, hlocks, hgv⟩ := id C0
  have hts : ∀ w ∈ wsL_law, w.before #[Value.ref q0] s = true := fun w h => hts0 w (wsL_law_in w h)
  obtain ⟨o, b, sz, st, us, kp, ga, gl, kL, oz, cs, mK, pK, lK, kb, cK, mem, pl, ln, km, ks, kt, ku, kl, kn, cd, wt, sp, kf, rfl, c1, c2, c3, c4, c5, c6, c7, c8⟩ := hJ
  have hcs : cs ≤ 12550 ∧ oz ≤ 12550 := by have := c6.2.1; rcases c6.1 with q | q <;> omega
  have hst9 := wfB_st c1.1
  refine lv_aload_n hx hb dL_law_334 rfl (lv_at hl 2 rfl) ?_
  refine lv_aload_n hx hb dL_law_335 rfl (lv_at hl 3 rfl) ?_
  refine lv_iload_n hx hb dL_law_336 rfl (lv_at hl 0 rfl) ?_
  refine lv_iconst (v := nI 1) hx hb dL_law_337 (by decide) ?_
  refine lv_iadd hx hb dL_law_338 ?_
  refine tpi (nI_add i 1) ?_
  refine va_sld hx hb hX hbl hbA hS (vp_in_nI (by omega) (by omega)) dL_law_339 ?_
  refine tpi (show xs (nI (i + 1)).toNatClampNeg = xs (i + 1) by rw [nI_clamp (by omega)]) ?_
  have hKc := hK.sub (tys' := [(cI, .int), (cB, .byte)]) [0, 1] rfl
  refine fr_calli (wc := gw h kq (xA sp) k o b kp ga gl ++ kw cB k kL kb ++ ow cB o oz cs cK ++ sw cB cI b sz st us mK pK lK) (wr := krw cS kq (fun j => xA (kf j)) ++ (xW cB cI sp ++ kW cB cI kf) ++ mw cI a sz st us kp ga gl cs mem pl ln km ks kt ku kl kn cd wt) (w1 := fun _ => gw h kq (xA sp) k o b kp ga gl ++ kw cB k kL kb ++ ow cB o oz cs cK ++ sw cB cI b (frZ sz st us pK (xs (i + 1))) (frS st us pK (xs (i + 1))) (frU us pK (xs (i + 1))) (frM sz st us pK mK (xs (i + 1))) (frA us pK pK (xs (i + 1))) (frA us pK lK (xs (i + 1)))) (Z := fun _ t9 => va_K (dC, dI) vwCl [(cI, .int), (cB, .byte)] t9) (fun _ _ q9 => q9) (pGKOS) hP hD hS hA (fun hPc hDc => va_runV (As := [.int (xs (i + 1))]) (rest := []) ⟨hx, hb, hml, hown, hts⟩ (c_X3_free l dC dI cB cI h kq (xA sp) k o b kp ga gl kL kb oz cs cK sz st us mK pK lK H.size (xs (i + 1)) c1.wfK) (cwV 1 hts gL_law_X3_free rfl rfl rfl (by decide +kernel) ⟨Nat.le_of_ble_eq_true rfl, Nat.le_of_ble_eq_true rfl⟩) ⟨fun a9 U g9 mk9 q9 => by obtain ⟨q0, q1, qP, qK, qD⟩ := q9; exact ⟨q0, q1, qP, va_K.moved (u := U) (U := U.calling g9 mk9 a9) (Vm.Alike.refl U.vm) qK, qD⟩, va_recv hKc hPc (ci := 3) (q0 := 0) rfl rfl, fun U hU hW => ⟨rfl, by rw [hU], by rw [hU]; exact hPc, va_K.moved hW.alike hKc, hDc⟩⟩ rfl rfl hl.1 rfl (lv_room (Nat.le_of_ble_eq_true rfl)) dL_law_340 ⟨by show 22 + 4 * jj + 0 ≤ 60000; omega, by show 78425 + 12550 * jj + 0 ≤ 8922250; omega⟩) (fun r1 _ H locs hw hP hD hS => ?_)
  try dsimp only at hw hP hD
  have hc := hw
  clear hw
  refine lv_pop hx hb dL_law_343 rfl ?_
  have hP := va_P_perm pGKOS.symm hP
  have hD := va_D_perm pGKOS.symm hD
  have hP : va_P (dC, dI) vwCl (gw h kq (xA sp) k o b kp ga gl ++ kw cB k kL kb ++ ow cB o oz cs cK ++ sw cB cI b (frZ sz st us pK (xs (i + 1))) (frS st us pK (xs (i + 1))) (frU us pK (xs (i + 1))) (frM sz st us pK mK (xs (i + 1))) (frA us pK pK (xs (i + 1))) (frA us pK lK (xs (i + 1))) ++ (krw cS kq (fun j => xA (kf j)) ++ (xW cB cI sp ++ kW cB cI kf)) ++ mw cI a sz st us kp ga gl cs mem pl ln km ks kt ku kl kn cd wt) H := hP
  have hD : va_D A (gw h kq (xA sp) k o b kp ga gl ++ kw cB k kL kb ++ ow cB o oz cs cK ++ sw cB cI b (frZ sz st us pK (xs (i + 1))) (frS st us pK (xs (i + 1))) (frU us pK (xs (i + 1))) (frM sz st us pK mK (xs (i + 1))) (frA us pK pK (xs (i + 1))) (frA us pK lK (xs (i + 1))) ++ (krw cS kq (fun j => xA (kf j)) ++ (xW cB cI sp ++ kW cB cI kf)) ++ mw cI a sz st us kp ga gl cs mem pl ln km ks kt ku kl kn cd wt) := hD
  have f1 := fr_c c1.2.2.2.1 (xs (i + 1)) sz st pK mK
  have f2 := fr_c c1.2.2.2.1 (xs (i + 1)) sz st lK mK
  rw [f1.1, f1.2.1, f1.2.2.1, f1.2.2.2.1, f1.2.2.2.2, f2.2.2.2.2] at hP hD
  have hP : va_P (dC, dI) vwCl (gw h kq (xA sp) k o b kp ga gl ++ kw cB k kL kb ++ ow cB o oz cs cK ++ sw cB cI b (frZ sz st us pl (xs (i + 1))) (frS st us pl (xs (i + 1))) (frU us pl (xs (i + 1))) (frM sz st us pl mK (xs (i + 1))) (frA us pl pK (xs (i + 1))) (frA us pl lK (xs (i + 1))) ++ (krw cS kq (fun j => xA (kf j)) ++ (xW cB cI sp ++ kW cB cI kf)) ++ mw cI a sz st us kp ga gl cs mem pl ln km ks kt ku kl kn cd wt) H := hP
  have hD : va_D A (gw h kq (xA sp) k o b kp ga gl ++ kw cB k kL kb ++ ow cB o oz cs cK ++ sw cB cI b (frZ sz st us pl (xs (i + 1))) (frS st us pl (xs (i + 1))) (frU us pl (xs (i + 1))) (frM sz st us pl mK (xs (i + 1))) (frA us pl pK (xs (i + 1))) (frA us pl lK (xs (i + 1))) ++ (krw cS kq (fun j => xA (kf j)) ++ (xW cB cI sp ++ kW cB cI kf)) ++ mw cI a sz st us kp ga gl cs mem pl ln km ks kt ku kl kn cd wt) := hD
  refine lv_aload_n hx hb dL_law_344 rfl (lv_at hl 1 rfl) ?_
  refine lv_aload_n hx hb dL_law_345 rfl (lv_at hl 3 rfl) ?_
  refine lv_iload_n hx hb dL_law_346 rfl (lv_at hl 0 rfl) ?_
  refine lv_iconst (v := nI 1) hx hb dL_law_347 (by decide) ?_
  refine lv_iadd hx hb dL_law_348 ?_
  refine tpi (nI_add i 1) ?_
  refine va_sld hx hb hX hbl hbA hS (vp_in_nI (by omega) (by omega)) dL_law_349 ?_
  refine tpi (show xs (nI (i + 1)).toNatClampNeg = xs (i + 1) by rw [nI_clamp (by omega)]) ?_
  have hKc := hK.sub (tys' := [(cI, .int)]) [0] rfl
  refine fr_calli (wc := mw cI a sz st us kp ga gl cs mem pl ln km ks kt ku kl kn cd wt) (wr := gw h kq (xA sp) k o b kp ga gl ++ kw cB k kL kb ++ ow cB o oz cs cK ++ sw cB cI b (frZ sz st us pl (xs (i + 1))) (frS st us pl (xs (i + 1))) (frU us pl (xs (i + 1))) (frM sz st us pl mK (xs (i + 1))) (frA us pl pK (xs (i + 1))) (frA us pl lK (xs (i + 1))) ++ (krw cS kq (fun j => xA (kf j)) ++ (xW cB cI sp ++ kW cB cI kf))) (w1 := fun _ => mw cI a (frZ sz st us pl (xs (i + 1))) (frS st us pl (xs (i + 1))) (frU us pl (xs (i + 1))) kp ga gl cs mem (frA us pl pl (xs (i + 1))) (frA us pl ln (xs (i + 1))) km ks kt ku kl kn cd wt) (Z := fun _ t9 => va_K (dC, dI) vwCl [(cI, .int)] t9) (fun _ _ q9 => q9) (pM) hP hD hS hA (fun hPc hDc => va_runV (As := [.int (xs (i + 1))]) (rest := []) ⟨hx, hb, hml, hown, hts⟩ (c_X4_free l dC dI cI a sz st us kp ga gl cs mem pl ln km ks kt ku kl kn cd wt H.size (xs (i + 1)) c1.1) (cwV 1 hts gL_law_X4_free rfl rfl rfl (by decide +kernel) ⟨Nat.le_of_ble_eq_true rfl, Nat.le_of_ble_eq_true rfl⟩) ⟨fun a9 U g9 mk9 q9 => by obtain ⟨q0, q1, qP, qK, qD⟩ := q9; exact ⟨q0, q1, qP, va_K.moved (u := U) (U := U.calling g9 mk9 a9) (Vm.Alike.refl U.vm) qK, qD⟩, va_recv hKc hPc (ci := 4) (q0 := 0) rfl rfl, fun U hU hW => ⟨rfl, by rw [hU], by rw [hU]; exact hPc, va_K.moved hW.alike hKc, hDc⟩⟩ rfl rfl hl.1 rfl (lv_room (Nat.le_of_ble_eq_true rfl)) dL_law_350 ⟨by show 22 + 4 * jj + 0 + 0 ≤ 60000; omega, by show 78425 + 12550 * jj + 0 + 0 ≤ 8922250; omega⟩) (fun r2 _ H locs hw hP hD hS => ?_)
  try dsimp only at hw hP hD
  have hm := hw
  clear hw
  refine lv_pop hx hb dL_law_353 rfl ?_
  have hP := va_P_perm pM hP
  have hD := va_D_perm pM hD
  have hP : va_P (dC, dI) vwCl (gw h kq (xA sp) k o b kp ga gl ++ kw cB k kL kb ++ ow cB o oz cs cK ++ sw cB cI b (frZ sz st us pl (xs (i + 1))) (frS st us pl (xs (i + 1))) (frU us pl (xs (i + 1))) (frM sz st us pl mK (xs (i + 1))) (frA us pl pK (xs (i + 1))) (frA us pl lK (xs (i + 1))) ++ (krw cS kq (fun j => xA (kf j)) ++ (xW cB cI sp ++ kW cB cI kf)) ++ mw cI a (frZ sz st us pl (xs (i + 1))) (frS st us pl (xs (i + 1))) (frU us pl (xs (i + 1))) kp ga gl cs mem (frA us pl pl (xs (i + 1))) (frA us pl ln (xs (i + 1))) km ks kt ku kl kn cd wt) H := hP
  have hD : va_D A (gw h kq (xA sp) k o b kp ga gl ++ kw cB k kL kb ++ ow cB o oz cs cK ++ sw cB cI b (frZ sz st us pl (xs (i + 1))) (frS st us pl (xs (i + 1))) (frU us pl (xs (i + 1))) (frM sz st us pl mK (xs (i + 1))) (frA us pl pK (xs (i + 1))) (frA us pl lK (xs (i + 1))) ++ (krw cS kq (fun j => xA (kf j)) ++ (xW cB cI sp ++ kW cB cI kf)) ++ mw cI a (frZ sz st us pl (xs (i + 1))) (frS st us pl (xs (i + 1))) (frU us pl (xs (i + 1))) kp ga gl cs mem (frA us pl pl (xs (i + 1))) (frA us pl ln (xs (i + 1))) km ks kt ku kl kn cd wt) := hD
  refine lv_goto (tgt := 852) hx hb dL_law_354 (by decide) ?_
  refine W.widen (k := 22 + 4 * (jj + 1)) (n := 78425 + 12550 * (jj + 1)) (by omega) (by omega) ?_
  exact tail _ H locs ls ⟨o, b, frZ sz st us pl (xs (i + 1)), frS st us pl (xs (i + 1)), frU us pl (xs (i + 1)), kp, ga, gl, kL, oz, cs, frM sz st us pl mK (xs (i + 1)), frA us pl pK (xs (i + 1)), frA us pl lK (xs (i + 1)), kb, cK, mem, frA us pl pl (xs (i + 1)), frA us pl ln (xs (i + 1)), km, ks, kt, ku, kl, kn, cd, wt, sp, kf, rfl, ⟨c1.free _, ⟨frM_lt c2.1 _, frA_lt c2.2.1 _, frA_lt c2.2.2 _⟩, ⟨c3.1, frA_lt c3.2.1 _, frA_lt c3.2.2 _⟩, c4, c5, c6, c7, c8⟩⟩ hP hD hS hl
set_option maxHeartbeats 4000000 in
set_option maxRecDepth 100000 in
theorem lc_block {p : Program} {e : Env} {s : State} {m : MethodId} {below : List Frame} {meth : Method} {c : Code} (l : Launch) {q0 L : Nat} {xs : Nat → Int32} (hL : L ≤ 4096) (C0 : lw_At p s m meth c q0 L xs) (dC : Nat → ClassId) (dI : Nat → Nat → Nat) (cB cI cS : ClassId) (h kq : Nat) (k a : Nat → Nat) (A : Nat → Prop) (hA : ∀ q : Nat, s.heap.size ≤ q → A q) (hbA : ¬ A q0) (hK : va_K (dC, dI) vwCl [(cI, .int), (cB, .byte), (cS, .object "GlulxHeap$State")] s) {i jj : Nat} (hi : i = 8 * jj) (hiL : i + 8 ≤ L) {ws : va_W} {H : Heap} {locs : List Loc} {ls : Array Slot} (hJ : J cB cI cS h kq k a ws) (hP : va_P (dC, dI) vwCl ws H) (hD : va_D A ws) (hS : va_S A s.heap H locs) (hl : lv_has ls 4 [(3, .int (nI i)), (2, .ref (a 0)), (1, .ref h), (0, .ref q0)]) (tail : ∀ (ws : va_W) (H : Heap) (locs : List Loc) (ls : Array Slot), J cB cI cS h kq k a ws → va_P (dC, dI) vwCl ws H → va_D A ws → va_S A s.heap H locs → lv_has ls 4 [(3, .int (nI i)), (2, .ref (a 0)), (1, .ref h), (0, .ref q0)] → W p l e room_1 s m #[Value.ref q0] below meth c H locs (22 + 4 * (jj + 1)) (78425 + 12550 * (jj + 1)) (lw_Z below #[Value.ref q0] s) (F0 m 852 ls [])) : W p l e room_1 s m #[Value.ref q0] below meth c H locs (22 + 4 * jj) (78425 + 12550 * jj) (lw_Z below #[Value.ref q0] s) (F0 m 357 ls []) := by
  obtain ⟨hx, hb, hr, hml, hown, hts0, hX, hbl, hlocks, hgv⟩ := id C0
  have hts : ∀ w ∈ wsL_law, w.before #[Value.ref q0] s = true := fun w h => hts0 w (wsL_law_in w h)
  obtain ⟨o, b, sz, st, us, kp, ga, gl, kL, oz, cs, mK, pK, lK, kb, cK, mem, pl, ln, km, ks, kt, ku, kl, kn, cd, wt, sp, kf, rfl, c1, c2, c3, c4, c5, c6, c7, c8⟩ := hJ
  have hcs : cs ≤ 12550 ∧ oz ≤ 12550 := by have := c6.2.1; rcases c6.1 with q | q <;> omega
  have hst9 := wfB_st c1.1
  refine lv_aload_n hx hb dL_law_357 rfl (lv_at hl 2 rfl) ?_
  refine lv_aload_n hx hb dL_law_358 rfl (lv_at hl 3 rfl) ?_
  refine lv_iload_n hx hb dL_law_359 rfl (lv_at hl 0 rfl) ?_
  refine lv_iconst (v := nI 1) hx hb dL_law_360 (by decide) ?_
  refine lv_iadd hx hb dL_law_361 ?_
  refine tpi (nI_add i 1) ?_
  refine va_sld hx hb hX hbl hbA hS (vp_in_nI (by omega) (by omega)) dL_law_362 ?_
  refine tpi (show xs (nI (i + 1)).toNatClampNeg = xs (i + 1) by rw [nI_clamp (by omega)]) ?_
  refine lv_aload_n hx hb dL_law_363 rfl (lv_at hl 3 rfl) ?_
  refine lv_iload_n hx hb dL_law_364 rfl (lv_at hl 0 rfl) ?_
  refine lv_iconst (v := nI 2) hx hb dL_law_365 (by decide) ?_
  refine lv_iadd hx hb dL_law_366 ?_
  refine tpi (nI_add i 2) ?_
  refine va_sld hx hb hX hbl hbA hS (vp_in_nI (by omega) (by omega)) dL_law_367 ?_
  refine tpi (show xs (nI (i + 2)).toNatClampNeg = xs (i + 2) by rw [nI_clamp (by omega)]) ?_
  have hKc := hK.sub (tys' := [(cI, .int), (cB, .byte)]) [0, 1] rfl
  have hPc : va_P (dC, dI) vwCl (gw h kq (xA sp) k o b kp ga gl ++ kw cB k kL kb ++ ow cB o oz cs cK ++ sw cB cI b sz st us mK pK lK) H := va_P_left (va_P_perm (pGKOS) hP)
  refine vp_callSi (W.runV (As := [.int (xs (i + 1)), .int (xs (i + 2))]) (rest := []) ⟨hx, hb, hml, hown, hts⟩ (c_X3_block l dC dI cB cI h kq (xA sp) k o b kp ga gl kL kb oz cs cK sz st us mK pK lK (xs (i + 1)) (xs (i + 2)) c1.wfK) (cwV 2 hts gL_law_X3_block rfl rfl rfl (by decide +kernel) ⟨Nat.le_of_ble_eq_true rfl, Nat.le_of_ble_eq_true rfl⟩) ⟨fun a9 U g9 mk9 q9 => by obtain ⟨q0, qP, qK⟩ := q9; exact ⟨q0, qP, va_K.moved (u := U) (U := U.calling g9 mk9 a9) (Vm.Alike.refl U.vm) qK⟩, va_recv hKc hPc (ci := 3) (q0 := 0) rfl rfl, fun U hU hW => ⟨rfl, by rw [hU]; exact hPc, va_K.moved hW.alike hKc⟩⟩ rfl rfl hl.1 rfl (lv_room (Nat.le_of_ble_eq_true rfl)) dL_law_368 ⟨by show 22 + 4 * jj + 0 ≤ 60000; omega, by show 78425 + 12550 * jj + 0 ≤ 8922250; omega⟩) (fun r1 hw => ?_)
  have hc := hw
  clear hw
  refine lv_pop hx hb dL_law_371 rfl ?_
  refine lv_aload_n hx hb dL_law_372 rfl (lv_at hl 1 rfl) ?_
  refine lv_aload_n hx hb dL_law_373 rfl (lv_at hl 3 rfl) ?_
  refine lv_iload_n hx hb dL_law_374 rfl (lv_at hl 0 rfl) ?_
  refine lv_iconst (v := nI 1) hx hb dL_law_375 (by decide) ?_
  refine lv_iadd hx hb dL_law_376 ?_
  refine tpi (nI_add i 1) ?_
  refine va_sld hx hb hX hbl hbA hS (vp_in_nI (by omega) (by omega)) dL_law_377 ?_
  refine tpi (show xs (nI (i + 1)).toNatClampNeg = xs (i + 1) by rw [nI_clamp (by omega)]) ?_
  refine lv_aload_n hx hb dL_law_378 rfl (lv_at hl 3 rfl) ?_
  refine lv_iload_n hx hb dL_law_379 rfl (lv_at hl 0 rfl) ?_
  refine lv_iconst (v := nI 2) hx hb dL_law_380 (by decide) ?_
  refine lv_iadd hx hb dL_law_381 ?_
  refine tpi (nI_add i 2) ?_
  refine va_sld hx hb hX hbl hbA hS (vp_in_nI (by omega) (by omega)) dL_law_382 ?_
  refine tpi (show xs (nI (i + 2)).toNatClampNeg = xs (i + 2) by rw [nI_clamp (by omega)]) ?_
  have hKc := hK.sub (tys' := [(cI, .int)]) [0] rfl
  have hPc : va_P (dC, dI) vwCl (mw cI a sz st us kp ga gl cs mem pl ln km ks kt ku kl kn cd wt) H := va_P_left (va_P_perm (pM) hP)
  refine vp_callSi (W.runV (As := [.int (xs (i + 1)), .int (xs (i + 2))]) (rest := []) ⟨hx, hb, hml, hown, hts⟩ (c_X4_block l dC dI cI a sz st us kp ga gl cs mem pl ln km ks kt ku kl kn cd wt (xs (i + 1)) (xs (i + 2)) c1.1) (cwV 2 hts gL_law_X4_block rfl rfl rfl (by decide +kernel) ⟨Nat.le_of_ble_eq_true rfl, Nat.le_of_ble_eq_true rfl⟩) ⟨fun a9 U g9 mk9 q9 => by obtain ⟨q0, qP, qK⟩ := q9; exact ⟨q0, qP, va_K.moved (u := U) (U := U.calling g9 mk9 a9) (Vm.Alike.refl U.vm) qK⟩, va_recv hKc hPc (ci := 4) (q0 := 0) rfl rfl, fun U hU hW => ⟨rfl, by rw [hU]; exact hPc, va_K.moved hW.alike hKc⟩⟩ rfl rfl hl.1 rfl (lv_room (Nat.le_of_ble_eq_true rfl)) dL_law_383 ⟨by show 22 + 4 * jj + 0 ≤ 60000; omega, by show 78425 + 12550 * jj + 0 ≤ 8922250; omega⟩) (fun r2 hw => ?_)
  have hm := hw
  clear hw
  refine lv_pop hx hb dL_law_386 rfl ?_
  refine lv_goto (tgt := 852) hx hb dL_law_387 (by decide) ?_
  refine W.widen (k := 22 + 4 * (jj + 1)) (n := 78425 + 12550 * (jj + 1)) (by omega) (by omega) ?_
  exact tail _ H locs ls ⟨o, b, sz, st, us, kp, ga, gl, kL, oz, cs, mK, pK, lK, kb, cK, mem, pl, ln, km, ks, kt, ku, kl, kn, cd, wt, sp, kf, rfl, ⟨c1, c2, c3, c4, c5, c6, c7, c8⟩⟩ hP hD hS hl
set_option maxHeartbeats 4000000 in
set_option maxRecDepth 100000 in
theorem lc_linear {p : Program} {e : Env} {s : State} {m : MethodId} {below : List Frame} {meth : Method} {c : Code} (l : Launch) {q0 L : Nat} {xs : Nat → Int32} (hL : L ≤ 4096) (C0 : lw_At p s m meth c q0 L xs) (dC : Nat → ClassId) (dI : Nat → Nat → Nat) (cB cI cS : ClassId) (h kq : Nat) (k a : Nat → Nat) (A : Nat → Prop) (hA : ∀ q : Nat, s.heap.size ≤ q → A q) (hbA : ¬ A q0) (hK : va_K (dC, dI) vwCl [(cI, .int), (cB, .byte), (cS, .object "GlulxHeap$State")] s) {i jj : Nat} (hi : i = 8 * jj) (hiL : i + 8 ≤ L) {ws : va_W} {H : Heap} {locs : List Loc} {ls : Array Slot} (hJ : J cB cI cS h kq k a ws) (hP : va_P (dC, dI) vwCl ws H) (hD : va_D A ws) (hS : va_S A s.heap H locs) (hl : lv_has ls 4 [(3, .int (nI i)), (2, .ref (a 0)), (1, .ref h), (0, .ref q0)]) (tail : ∀ (ws : va_W) (H : Heap) (locs : List Loc) (ls : Array Slot), J cB cI cS h kq k a ws → va_P (dC, dI) vwCl ws H → va_D A ws → va_S A s.heap H locs → lv_has ls 4 [(3, .int (nI i)), (2, .ref (a 0)), (1, .ref h), (0, .ref q0)] → W p l e room_1 s m #[Value.ref q0] below meth c H locs (22 + 4 * (jj + 1)) (78425 + 12550 * (jj + 1)) (lw_Z below #[Value.ref q0] s) (F0 m 852 ls [])) : W p l e room_1 s m #[Value.ref q0] below meth c H locs (22 + 4 * jj) (78425 + 12550 * jj) (lw_Z below #[Value.ref q0] s) (F0 m 390 ls []) := by
  obtain ⟨hx, hb, hr, hml, hown, hts0, hX, hbl, hlocks, hgv⟩ := id C0
  have hts : ∀ w ∈ wsL_law, w.before #[Value.ref q0] s = true := fun w h => hts0 w (wsL_law_in w h)
  obtain ⟨o, b, sz, st, us, kp, ga, gl, kL, oz, cs, mK, pK, lK, kb, cK, mem, pl, ln, km, ks, kt, ku, kl, kn, cd, wt, sp, kf, rfl, c1, c2, c3, c4, c5, c6, c7, c8⟩ := hJ
  have hcs : cs ≤ 12550 ∧ oz ≤ 12550 := by have := c6.2.1; rcases c6.1 with q | q <;> omega
  have hst9 := wfB_st c1.1
  refine lv_aload_n hx hb dL_law_390 rfl (lv_at hl 2 rfl) ?_
  refine lv_aload_n hx hb dL_law_391 rfl (lv_at hl 3 rfl) ?_
  refine lv_iload_n hx hb dL_law_392 rfl (lv_at hl 0 rfl) ?_
  refine lv_iconst (v := nI 1) hx hb dL_law_393 (by decide) ?_
  refine lv_iadd hx hb dL_law_394 ?_
  refine tpi (nI_add i 1) ?_
  refine va_sld hx hb hX hbl hbA hS (vp_in_nI (by omega) (by omega)) dL_law_395 ?_
  refine tpi (show xs (nI (i + 1)).toNatClampNeg = xs (i + 1) by rw [nI_clamp (by omega)]) ?_
  refine lv_aload_n hx hb dL_law_396 rfl (lv_at hl 3 rfl) ?_
  refine lv_iload_n hx hb dL_law_397 rfl (lv_at hl 0 rfl) ?_
  refine lv_iconst (v := nI 2) hx hb dL_law_398 (by decide) ?_
  refine lv_iadd hx hb dL_law_399 ?_
  refine tpi (nI_add i 2) ?_
  refine va_sld hx hb hX hbl hbA hS (vp_in_nI (by omega) (by omega)) dL_law_400 ?_
  refine tpi (show xs (nI (i + 2)).toNatClampNeg = xs (i + 2) by rw [nI_clamp (by omega)]) ?_
  refine lv_aload_n hx hb dL_law_401 rfl (lv_at hl 3 rfl) ?_
  refine lv_iload_n hx hb dL_law_402 rfl (lv_at hl 0 rfl) ?_
  refine lv_iconst (v := nI 3) hx hb dL_law_403 (by decide) ?_
  refine lv_iadd hx hb dL_law_404 ?_
  refine tpi (nI_add i 3) ?_
  refine va_sld hx hb hX hbl hbA hS (vp_in_nI (by omega) (by omega)) dL_law_405 ?_
  refine tpi (show xs (nI (i + 3)).toNatClampNeg = xs (i + 3) by rw [nI_clamp (by omega)]) ?_
  refine lv_aload_n hx hb dL_law_406 rfl (lv_at hl 3 rfl) ?_
  refine lv_iload_n hx hb dL_law_407 rfl (lv_at hl 0 rfl) ?_
  refine lv_iconst (v := nI 4) hx hb dL_law_408 (by decide) ?_
  refine lv_iadd hx hb dL_law_409 ?_
  refine tpi (nI_add i 4) ?_
  refine va_sld hx hb hX hbl hbA hS (vp_in_nI (by omega) (by omega)) dL_law_410 ?_
  refine tpi (show xs (nI (i + 4)).toNatClampNeg = xs (i + 4) by rw [nI_clamp (by omega)]) ?_
  refine lv_aload_n hx hb dL_law_411 rfl (lv_at hl 3 rfl) ?_
  refine lv_iload_n hx hb dL_law_412 rfl (lv_at hl 0 rfl) ?_
  refine lv_iconst (v := nI 5) hx hb dL_law_413 (by decide) ?_
  refine lv_iadd hx hb dL_law_414 ?_
  refine tpi (nI_add i 5) ?_
  refine va_sld hx hb hX hbl hbA hS (vp_in_nI (by omega) (by omega)) dL_law_415 ?_
  refine tpi (show xs (nI (i + 5)).toNatClampNeg = xs (i + 5) by rw [nI_clamp (by omega)]) ?_
  refine lv_aload_n hx hb dL_law_416 rfl (lv_at hl 3 rfl) ?_
  refine lv_iload_n hx hb dL_law_417 rfl (lv_at hl 0 rfl) ?_
  refine lv_bipush (v := nI 6) hx hb dL_law_418 (by decide) ?_
  refine lv_iadd hx hb dL_law_420 ?_
  refine tpi (nI_add i 6) ?_
  refine va_sld hx hb hX hbl hbA hS (vp_in_nI (by omega) (by omega)) dL_law_421 ?_
  refine tpi (show xs (nI (i + 6)).toNatClampNeg = xs (i + 6) by rw [nI_clamp (by omega)]) ?_
  refine lv_aload_n hx hb dL_law_422 rfl (lv_at hl 3 rfl) ?_
  refine lv_iload_n hx hb dL_law_423 rfl (lv_at hl 0 rfl) ?_
  refine lv_bipush (v := nI 7) hx hb dL_law_424 (by decide) ?_
  refine lv_iadd hx hb dL_law_426 ?_
  refine tpi (nI_add i 7) ?_
  refine va_sld hx hb hX hbl hbA hS (vp_in_nI (by omega) (by omega)) dL_law_427 ?_
  refine tpi (show xs (nI (i + 7)).toNatClampNeg = xs (i + 7) by rw [nI_clamp (by omega)]) ?_
  have hKc := hK.sub (tys' := [(cI, .int), (cB, .byte)]) [0, 1] rfl
  refine fr_calli (wc := gw h kq (xA sp) k o b kp ga gl ++ kw cB k kL kb ++ ow cB o oz cs cK ++ sw cB cI b sz st us mK pK lK) (wr := krw cS kq (fun j => xA (kf j)) ++ (xW cB cI sp ++ kW cB cI kf) ++ mw cI a sz st us kp ga gl cs mem pl ln km ks kt ku kl kn cd wt) (w1 := fun _ => gw h kq (xA sp) k o b kp ga gl ++ kw cB k (lnKl kL (xs (i + 2)) (xs (i + 3)) (xs (i + 4)) (xs (i + 5)) (xs (i + 6)) (xs (i + 7))) (lnW sz mK kb (xs (i + 1)) (xs (i + 2)) (xs (i + 3)) (xs (i + 4)) (xs (i + 5)) (xs (i + 6)) (xs (i + 7))) ++ ow cB o oz cs cK ++ sw cB cI b sz st us mK pK lK) (Z := fun _ t9 => va_K (dC, dI) vwCl [(cI, .int), (cB, .byte)] t9) (fun _ _ q9 => q9) (pGKOS) hP hD hS hA (fun hPc hDc => va_runV (As := [.int (xs (i + 1)), .int (xs (i + 2)), .int (xs (i + 3)), .int (xs (i + 4)), .int (xs (i + 5)), .int (xs (i + 6)), .int (xs (i + 7))]) (rest := []) ⟨hx, hb, hml, hown, hts⟩ (c_X3_linear l dC dI cB cI h kq (xA sp) k o b kp ga gl kL kb oz cs cK sz st us mK pK lK H.size (xs (i + 1)) (xs (i + 2)) (xs (i + 3)) (xs (i + 4)) (xs (i + 5)) (xs (i + 6)) (xs (i + 7)) c2.1 c5.1 c1.sz8) (cwV 7 hts gL_law_X3_linear rfl rfl rfl (by decide +kernel) ⟨Nat.le_of_ble_eq_true rfl, Nat.le_of_ble_eq_true rfl⟩) ⟨fun a9 U g9 mk9 q9 => by obtain ⟨q0, q1, qP, qK, qD⟩ := q9; exact ⟨q0, q1, qP, va_K.moved (u := U) (U := U.calling g9 mk9 a9) (Vm.Alike.refl U.vm) qK, qD⟩, va_recv hKc hPc (ci := 3) (q0 := 0) rfl rfl, fun U hU hW => ⟨rfl, by rw [hU], by rw [hU]; exact hPc, va_K.moved hW.alike hKc, hDc⟩⟩ rfl rfl hl.1 rfl (lv_room (Nat.le_of_ble_eq_true rfl)) dL_law_428 ⟨by show 22 + 4 * jj + 0 ≤ 60000; omega, by show 78425 + 12550 * jj + 0 ≤ 8922250; omega⟩) (fun r1 _ H locs hw hP hD hS => ?_)
  try dsimp only at hw hP hD
  have hc := hw
  clear hw
  refine lv_pop hx hb dL_law_431 rfl ?_
  have hP := va_P_perm pGKOS.symm hP
  have hD := va_D_perm pGKOS.symm hD
  have hP : va_P (dC, dI) vwCl (gw h kq (xA sp) k o b kp ga gl ++ kw cB k (lnKl kL (xs (i + 2)) (xs (i + 3)) (xs (i + 4)) (xs (i + 5)) (xs (i + 6)) (xs (i + 7))) (lnW sz mK kb (xs (i + 1)) (xs (i + 2)) (xs (i + 3)) (xs (i + 4)) (xs (i + 5)) (xs (i + 6)) (xs (i + 7))) ++ ow cB o oz cs cK ++ sw cB cI b sz st us mK pK lK ++ (krw cS kq (fun j => xA (kf j)) ++ (xW cB cI sp ++ kW cB cI kf)) ++ mw cI a sz st us kp ga gl cs mem pl ln km ks kt ku kl kn cd wt) H := hP
  have hD : va_D A (gw h kq (xA sp) k o b kp ga gl ++ kw cB k (lnKl kL (xs (i + 2)) (xs (i + 3)) (xs (i + 4)) (xs (i + 5)) (xs (i + 6)) (xs (i + 7))) (lnW sz mK kb (xs (i + 1)) (xs (i + 2)) (xs (i + 3)) (xs (i + 4)) (xs (i + 5)) (xs (i + 6)) (xs (i + 7))) ++ ow cB o oz cs cK ++ sw cB cI b sz st us mK pK lK ++ (krw cS kq (fun j => xA (kf j)) ++ (xW cB cI sp ++ kW cB cI kf)) ++ mw cI a sz st us kp ga gl cs mem pl ln km ks kt ku kl kn cd wt) := hD
  refine lv_aload_n hx hb dL_law_432 rfl (lv_at hl 1 rfl) ?_
  refine lv_aload_n hx hb dL_law_433 rfl (lv_at hl 3 rfl) ?_
  refine lv_iload_n hx hb dL_law_434 rfl (lv_at hl 0 rfl) ?_
  refine lv_iconst (v := nI 1) hx hb dL_law_435 (by decide) ?_
  refine lv_iadd hx hb dL_law_436 ?_
  refine tpi (nI_add i 1) ?_
  refine va_sld hx hb hX hbl hbA hS (vp_in_nI (by omega) (by omega)) dL_law_437 ?_
  refine tpi (show xs (nI (i + 1)).toNatClampNeg = xs (i + 1) by rw [nI_clamp (by omega)]) ?_
  refine lv_aload_n hx hb dL_law_438 rfl (lv_at hl 3 rfl) ?_
  refine lv_iload_n hx hb dL_law_439 rfl (lv_at hl 0 rfl) ?_
  refine lv_iconst (v := nI 2) hx hb dL_law_440 (by decide) ?_
  refine lv_iadd hx hb dL_law_441 ?_
  refine tpi (nI_add i 2) ?_
  refine va_sld hx hb hX hbl hbA hS (vp_in_nI (by omega) (by omega)) dL_law_442 ?_
  refine tpi (show xs (nI (i + 2)).toNatClampNeg = xs (i + 2) by rw [nI_clamp (by omega)]) ?_
  refine lv_aload_n hx hb dL_law_443 rfl (lv_at hl 3 rfl) ?_
  refine lv_iload_n hx hb dL_law_444 rfl (lv_at hl 0 rfl) ?_
  refine lv_iconst (v := nI 3) hx hb dL_law_445 (by decide) ?_
  refine lv_iadd hx hb dL_law_446 ?_
  refine tpi (nI_add i 3) ?_
  refine va_sld hx hb hX hbl hbA hS (vp_in_nI (by omega) (by omega)) dL_law_447 ?_
  refine tpi (show xs (nI (i + 3)).toNatClampNeg = xs (i + 3) by rw [nI_clamp (by omega)]) ?_
  refine lv_aload_n hx hb dL_law_448 rfl (lv_at hl 3 rfl) ?_
  refine lv_iload_n hx hb dL_law_449 rfl (lv_at hl 0 rfl) ?_
  refine lv_iconst (v := nI 4) hx hb dL_law_450 (by decide) ?_
  refine lv_iadd hx hb dL_law_451 ?_
  refine tpi (nI_add i 4) ?_
  refine va_sld hx hb hX hbl hbA hS (vp_in_nI (by omega) (by omega)) dL_law_452 ?_
  refine tpi (show xs (nI (i + 4)).toNatClampNeg = xs (i + 4) by rw [nI_clamp (by omega)]) ?_
  refine lv_aload_n hx hb dL_law_453 rfl (lv_at hl 3 rfl) ?_
  refine lv_iload_n hx hb dL_law_454 rfl (lv_at hl 0 rfl) ?_
  refine lv_iconst (v := nI 5) hx hb dL_law_455 (by decide) ?_
  refine lv_iadd hx hb dL_law_456 ?_
  refine tpi (nI_add i 5) ?_
  refine va_sld hx hb hX hbl hbA hS (vp_in_nI (by omega) (by omega)) dL_law_457 ?_
  refine tpi (show xs (nI (i + 5)).toNatClampNeg = xs (i + 5) by rw [nI_clamp (by omega)]) ?_
  refine lv_aload_n hx hb dL_law_458 rfl (lv_at hl 3 rfl) ?_
  refine lv_iload_n hx hb dL_law_459 rfl (lv_at hl 0 rfl) ?_
  refine lv_bipush (v := nI 6) hx hb dL_law_460 (by decide) ?_
  refine lv_iadd hx hb dL_law_462 ?_
  refine tpi (nI_add i 6) ?_
  refine va_sld hx hb hX hbl hbA hS (vp_in_nI (by omega) (by omega)) dL_law_463 ?_
  refine tpi (show xs (nI (i + 6)).toNatClampNeg = xs (i + 6) by rw [nI_clamp (by omega)]) ?_
  refine lv_aload_n hx hb dL_law_464 rfl (lv_at hl 3 rfl) ?_
  refine lv_iload_n hx hb dL_law_465 rfl (lv_at hl 0 rfl) ?_
  refine lv_bipush (v := nI 7) hx hb dL_law_466 (by decide) ?_
  refine lv_iadd hx hb dL_law_468 ?_
  refine tpi (nI_add i 7) ?_
  refine va_sld hx hb hX hbl hbA hS (vp_in_nI (by omega) (by omega)) dL_law_469 ?_
  refine tpi (show xs (nI (i + 7)).toNatClampNeg = xs (i + 7) by rw [nI_clamp (by omega)]) ?_
  have hKc := hK.sub (tys' := [(cI, .int)]) [0] rfl
  refine fr_calli (wc := mw cI a sz st us kp ga gl cs mem pl ln km ks kt ku kl kn cd wt) (wr := gw h kq (xA sp) k o b kp ga gl ++ kw cB k (lnKl kL (xs (i + 2)) (xs (i + 3)) (xs (i + 4)) (xs (i + 5)) (xs (i + 6)) (xs (i + 7))) (lnW sz mK kb (xs (i + 1)) (xs (i + 2)) (xs (i + 3)) (xs (i + 4)) (xs (i + 5)) (xs (i + 6)) (xs (i + 7))) ++ ow cB o oz cs cK ++ sw cB cI b sz st us mK pK lK ++ (krw cS kq (fun j => xA (kf j)) ++ (xW cB cI sp ++ kW cB cI kf))) (w1 := fun _ => mw cI a sz st us kp ga gl cs mem pl ln km ks kt ku kl kn cd (lnW sz mem wt (xs (i + 1)) (xs (i + 2)) (xs (i + 3)) (xs (i + 4)) (xs (i + 5)) (xs (i + 6)) (xs (i + 7)))) (Z := fun _ t9 => va_K (dC, dI) vwCl [(cI, .int)] t9) (fun _ _ q9 => q9) (pM) hP hD hS hA (fun hPc hDc => va_runV (As := [.int (xs (i + 1)), .int (xs (i + 2)), .int (xs (i + 3)), .int (xs (i + 4)), .int (xs (i + 5)), .int (xs (i + 6)), .int (xs (i + 7))]) (rest := []) ⟨hx, hb, hml, hown, hts⟩ (c_X4_linear l dC dI cI a sz st us kp ga gl cs mem pl ln km ks kt ku kl kn cd wt H.size (xs (i + 1)) (xs (i + 2)) (xs (i + 3)) (xs (i + 4)) (xs (i + 5)) (xs (i + 6)) (xs (i + 7)) c3.1 c5.2 c1.sz8) (cwV 7 hts gL_law_X4_linear rfl rfl rfl (by decide +kernel) ⟨Nat.le_of_ble_eq_true rfl, Nat.le_of_ble_eq_true rfl⟩) ⟨fun a9 U g9 mk9 q9 => by obtain ⟨q0, q1, qP, qK, qD⟩ := q9; exact ⟨q0, q1, qP, va_K.moved (u := U) (U := U.calling g9 mk9 a9) (Vm.Alike.refl U.vm) qK, qD⟩, va_recv hKc hPc (ci := 4) (q0 := 0) rfl rfl, fun U hU hW => ⟨rfl, by rw [hU], by rw [hU]; exact hPc, va_K.moved hW.alike hKc, hDc⟩⟩ rfl rfl hl.1 rfl (lv_room (Nat.le_of_ble_eq_true rfl)) dL_law_470 ⟨by show 22 + 4 * jj + 0 + 0 ≤ 60000; omega, by show 78425 + 12550 * jj + 0 + 0 ≤ 8922250; omega⟩) (fun r2 _ H locs hw hP hD hS => ?_)
  try dsimp only at hw hP hD
  have hm := hw
  clear hw
  refine lv_pop hx hb dL_law_473 rfl ?_
  have hP := va_P_perm pM hP
  have hD := va_D_perm pM hD
  have hP : va_P (dC, dI) vwCl (gw h kq (xA sp) k o b kp ga gl ++ kw cB k (lnKl kL (xs (i + 2)) (xs (i + 3)) (xs (i + 4)) (xs (i + 5)) (xs (i + 6)) (xs (i + 7))) (lnW sz mK kb (xs (i + 1)) (xs (i + 2)) (xs (i + 3)) (xs (i + 4)) (xs (i + 5)) (xs (i + 6)) (xs (i + 7))) ++ ow cB o oz cs cK ++ sw cB cI b sz st us mK pK lK ++ (krw cS kq (fun j => xA (kf j)) ++ (xW cB cI sp ++ kW cB cI kf)) ++ mw cI a sz st us kp ga gl cs mem pl ln km ks kt ku kl kn cd (lnW sz mem wt (xs (i + 1)) (xs (i + 2)) (xs (i + 3)) (xs (i + 4)) (xs (i + 5)) (xs (i + 6)) (xs (i + 7)))) H := hP
  have hD : va_D A (gw h kq (xA sp) k o b kp ga gl ++ kw cB k (lnKl kL (xs (i + 2)) (xs (i + 3)) (xs (i + 4)) (xs (i + 5)) (xs (i + 6)) (xs (i + 7))) (lnW sz mK kb (xs (i + 1)) (xs (i + 2)) (xs (i + 3)) (xs (i + 4)) (xs (i + 5)) (xs (i + 6)) (xs (i + 7))) ++ ow cB o oz cs cK ++ sw cB cI b sz st us mK pK lK ++ (krw cS kq (fun j => xA (kf j)) ++ (xW cB cI sp ++ kW cB cI kf)) ++ mw cI a sz st us kp ga gl cs mem pl ln km ks kt ku kl kn cd (lnW sz mem wt (xs (i + 1)) (xs (i + 2)) (xs (i + 3)) (xs (i + 4)) (xs (i + 5)) (xs (i + 6)) (xs (i + 7)))) := hD
  refine lv_goto (tgt := 852) hx hb dL_law_474 (by decide) ?_
  refine W.widen (k := 22 + 4 * (jj + 1)) (n := 78425 + 12550 * (jj + 1)) (by omega) (by omega) ?_
  exact tail _ H locs ls ⟨o, b, sz, st, us, kp, ga, gl, lnKl kL (xs (i + 2)) (xs (i + 3)) (xs (i + 4)) (xs (i + 5)) (xs (i + 6)) (xs (i + 7)), oz, cs, mK, pK, lK, lnW sz mK kb (xs (i + 1)) (xs (i + 2)) (xs (i + 3)) (xs (i + 4)) (xs (i + 5)) (xs (i + 6)) (xs (i + 7)), cK, mem, pl, ln, km, ks, kt, ku, kl, kn, cd, lnW sz mem wt (xs (i + 1)) (xs (i + 2)) (xs (i + 3)) (xs (i + 4)) (xs (i + 5)) (xs (i + 6)) (xs (i + 7)), sp, kf, rfl, ⟨c1, c2, c3, c4, ⟨lnW_lt c2.1 c5.1 _ _ _ _ _ _ _, lnW_lt c3.1 c5.2 _ _ _ _ _ _ _⟩, c6, c7, c8⟩⟩ hP hD hS hl
set_option maxHeartbeats 4000000 in
set_option maxRecDepth 100000 in
theorem lc_binary {p : Program} {e : Env} {s : State} {m : MethodId} {below : List Frame} {meth : Method} {c : Code} (l : Launch) {q0 L : Nat} {xs : Nat → Int32} (hL : L ≤ 4096) (C0 : lw_At p s m meth c q0 L xs) (dC : Nat → ClassId) (dI : Nat → Nat → Nat) (cB cI cS : ClassId) (h kq : Nat) (k a : Nat → Nat) (A : Nat → Prop) (hA : ∀ q : Nat, s.heap.size ≤ q → A q) (hbA : ¬ A q0) (hK : va_K (dC, dI) vwCl [(cI, .int), (cB, .byte), (cS, .object "GlulxHeap$State")] s) {i jj : Nat} (hi : i = 8 * jj) (hiL : i + 8 ≤ L) {ws : va_W} {H : Heap} {locs : List Loc} {ls : Array Slot} (hJ : J cB cI cS h kq k a ws) (hP : va_P (dC, dI) vwCl ws H) (hD : va_D A ws) (hS : va_S A s.heap H locs) (hl : lv_has ls 4 [(3, .int (nI i)), (2, .ref (a 0)), (1, .ref h), (0, .ref q0)]) (tail : ∀ (ws : va_W) (H : Heap) (locs : List Loc) (ls : Array Slot), J cB cI cS h kq k a ws → va_P (dC, dI) vwCl ws H → va_D A ws → va_S A s.heap H locs → lv_has ls 4 [(3, .int (nI i)), (2, .ref (a 0)), (1, .ref h), (0, .ref q0)] → W p l e room_1 s m #[Value.ref q0] below meth c H locs (22 + 4 * (jj + 1)) (78425 + 12550 * (jj + 1)) (lw_Z below #[Value.ref q0] s) (F0 m 852 ls [])) : W p l e room_1 s m #[Value.ref q0] below meth c H locs (22 + 4 * jj) (78425 + 12550 * jj) (lw_Z below #[Value.ref q0] s) (F0 m 477 ls []) := by
  obtain ⟨hx, hb, hr, hml, hown, hts0, hX, hbl, hlocks, hgv⟩ := id C0
  have hts : ∀ w ∈ wsL_law, w.before #[Value.ref q0] s = true := fun w h => hts0 w (wsL_law_in w h)
  obtain ⟨o, b, sz, st, us, kp, ga, gl, kL, oz, cs, mK, pK, lK, kb, cK, mem, pl, ln, km, ks, kt, ku, kl, kn, cd, wt, sp, kf, rfl, c1, c2, c3, c4, c5, c6, c7, c8⟩ := hJ
  have hcs : cs ≤ 12550 ∧ oz ≤ 12550 := by have := c6.2.1; rcases c6.1 with q | q <;> omega
  have hst9 := wfB_st c1.1
  refine lv_aload_n hx hb dL_law_477 rfl (lv_at hl 2 rfl) ?_
  refine lv_aload_n hx hb dL_law_478 rfl (lv_at hl 3 rfl) ?_
  refine lv_iload_n hx hb dL_law_479 rfl (lv_at hl 0 rfl) ?_
  refine lv_iconst (v := nI 1) hx hb dL_law_480 (by decide) ?_
  refine lv_iadd hx hb dL_law_481 ?_
  refine tpi (nI_add i 1) ?_
  refine va_sld hx hb hX hbl hbA hS (vp_in_nI (by omega) (by omega)) dL_law_482 ?_
  refine tpi (show xs (nI (i + 1)).toNatClampNeg = xs (i + 1) by rw [nI_clamp (by omega)]) ?_
  refine lv_aload_n hx hb dL_law_483 rfl (lv_at hl 3 rfl) ?_
  refine lv_iload_n hx hb dL_law_484 rfl (lv_at hl 0 rfl) ?_
  refine lv_iconst (v := nI 2) hx hb dL_law_485 (by decide) ?_
  refine lv_iadd hx hb dL_law_486 ?_
  refine tpi (nI_add i 2) ?_
  refine va_sld hx hb hX hbl hbA hS (vp_in_nI (by omega) (by omega)) dL_law_487 ?_
  refine tpi (show xs (nI (i + 2)).toNatClampNeg = xs (i + 2) by rw [nI_clamp (by omega)]) ?_
  refine lv_aload_n hx hb dL_law_488 rfl (lv_at hl 3 rfl) ?_
  refine lv_iload_n hx hb dL_law_489 rfl (lv_at hl 0 rfl) ?_
  refine lv_iconst (v := nI 3) hx hb dL_law_490 (by decide) ?_
  refine lv_iadd hx hb dL_law_491 ?_
  refine tpi (nI_add i 3) ?_
  refine va_sld hx hb hX hbl hbA hS (vp_in_nI (by omega) (by omega)) dL_law_492 ?_
  refine tpi (show xs (nI (i + 3)).toNatClampNeg = xs (i + 3) by rw [nI_clamp (by omega)]) ?_
  refine lv_aload_n hx hb dL_law_493 rfl (lv_at hl 3 rfl) ?_
  refine lv_iload_n hx hb dL_law_494 rfl (lv_at hl 0 rfl) ?_
  refine lv_iconst (v := nI 4) hx hb dL_law_495 (by decide) ?_
  refine lv_iadd hx hb dL_law_496 ?_
  refine tpi (nI_add i 4) ?_
  refine va_sld hx hb hX hbl hbA hS (vp_in_nI (by omega) (by omega)) dL_law_497 ?_
  refine tpi (show xs (nI (i + 4)).toNatClampNeg = xs (i + 4) by rw [nI_clamp (by omega)]) ?_
  refine lv_aload_n hx hb dL_law_498 rfl (lv_at hl 3 rfl) ?_
  refine lv_iload_n hx hb dL_law_499 rfl (lv_at hl 0 rfl) ?_
  refine lv_iconst (v := nI 5) hx hb dL_law_500 (by decide) ?_
  refine lv_iadd hx hb dL_law_501 ?_
  refine tpi (nI_add i 5) ?_
  refine va_sld hx hb hX hbl hbA hS (vp_in_nI (by omega) (by omega)) dL_law_502 ?_
  refine tpi (show xs (nI (i + 5)).toNatClampNeg = xs (i + 5) by rw [nI_clamp (by omega)]) ?_
  refine lv_aload_n hx hb dL_law_503 rfl (lv_at hl 3 rfl) ?_
  refine lv_iload_n hx hb dL_law_504 rfl (lv_at hl 0 rfl) ?_
  refine lv_bipush (v := nI 6) hx hb dL_law_505 (by decide) ?_
  refine lv_iadd hx hb dL_law_507 ?_
  refine tpi (nI_add i 6) ?_
  refine va_sld hx hb hX hbl hbA hS (vp_in_nI (by omega) (by omega)) dL_law_508 ?_
  refine tpi (show xs (nI (i + 6)).toNatClampNeg = xs (i + 6) by rw [nI_clamp (by omega)]) ?_
  refine lv_aload_n hx hb dL_law_509 rfl (lv_at hl 3 rfl) ?_
  refine lv_iload_n hx hb dL_law_510 rfl (lv_at hl 0 rfl) ?_
  refine lv_bipush (v := nI 7) hx hb dL_law_511 (by decide) ?_
  refine lv_iadd hx hb dL_law_513 ?_
  refine tpi (nI_add i 7) ?_
  refine va_sld hx hb hX hbl hbA hS (vp_in_nI (by omega) (by omega)) dL_law_514 ?_
  refine tpi (show xs (nI (i + 7)).toNatClampNeg = xs (i + 7) by rw [nI_clamp (by omega)]) ?_
  have hKc := hK.sub (tys' := [(cI, .int), (cB, .byte)]) [0, 1] rfl
  refine fr_calli (wc := gw h kq (xA sp) k o b kp ga gl ++ kw cB k kL kb ++ ow cB o oz cs cK ++ sw cB cI b sz st us mK pK lK) (wr := krw cS kq (fun j => xA (kf j)) ++ (xW cB cI sp ++ kW cB cI kf) ++ mw cI a sz st us kp ga gl cs mem pl ln km ks kt ku kl kn cd wt) (w1 := fun _ => gw h kq (xA sp) k o b kp ga gl ++ kw cB k (bnKl kL (xs (i + 2)) (xs (i + 3)) (xs (i + 4)) (xs (i + 5)) (xs (i + 6)) (xs (i + 7))) (bnW sz mK kb (xs (i + 1)) (xs (i + 2)) (xs (i + 3)) (xs (i + 4)) (xs (i + 5)) (xs (i + 6)) (xs (i + 7))) ++ ow cB o oz cs cK ++ sw cB cI b sz st us mK pK lK) (Z := fun _ t9 => va_K (dC, dI) vwCl [(cI, .int), (cB, .byte)] t9) (fun _ _ q9 => q9) (pGKOS) hP hD hS hA (fun hPc hDc => va_runV (As := [.int (xs (i + 1)), .int (xs (i + 2)), .int (xs (i + 3)), .int (xs (i + 4)), .int (xs (i + 5)), .int (xs (i + 6)), .int (xs (i + 7))]) (rest := []) ⟨hx, hb, hml, hown, hts⟩ (c_X3_binary l dC dI cB cI h kq (xA sp) k o b kp ga gl kL kb oz cs cK sz st us mK pK lK H.size (xs (i + 1)) (xs (i + 2)) (xs (i + 3)) (xs (i + 4)) (xs (i + 5)) (xs (i + 6)) (xs (i + 7)) c2.1 c5.1 c1.sz8) (cwV 7 hts gL_law_X3_binary rfl rfl rfl (by decide +kernel) ⟨Nat.le_of_ble_eq_true rfl, Nat.le_of_ble_eq_true rfl⟩) ⟨fun a9 U g9 mk9 q9 => by obtain ⟨q0, q1, qP, qK, qD⟩ := q9; exact ⟨q0, q1, qP, va_K.moved (u := U) (U := U.calling g9 mk9 a9) (Vm.Alike.refl U.vm) qK, qD⟩, va_recv hKc hPc (ci := 3) (q0 := 0) rfl rfl, fun U hU hW => ⟨rfl, by rw [hU], by rw [hU]; exact hPc, va_K.moved hW.alike hKc, hDc⟩⟩ rfl rfl hl.1 rfl (lv_room (Nat.le_of_ble_eq_true rfl)) dL_law_515 ⟨by show 22 + 4 * jj + 0 ≤ 60000; omega, by show 78425 + 12550 * jj + 0 ≤ 8922250; omega⟩) (fun r1 _ H locs hw hP hD hS => ?_)
  try dsimp only at hw hP hD
  have hc := hw
  clear hw
  refine lv_pop hx hb dL_law_518 rfl ?_
  have hP := va_P_perm pGKOS.symm hP
  have hD := va_D_perm pGKOS.symm hD
  have hP : va_P (dC, dI) vwCl (gw h kq (xA sp) k o b kp ga gl ++ kw cB k (bnKl kL (xs (i + 2)) (xs (i + 3)) (xs (i + 4)) (xs (i + 5)) (xs (i + 6)) (xs (i + 7))) (bnW sz mK kb (xs (i + 1)) (xs (i + 2)) (xs (i + 3)) (xs (i + 4)) (xs (i + 5)) (xs (i + 6)) (xs (i + 7))) ++ ow cB o oz cs cK ++ sw cB cI b sz st us mK pK lK ++ (krw cS kq (fun j => xA (kf j)) ++ (xW cB cI sp ++ kW cB cI kf)) ++ mw cI a sz st us kp ga gl cs mem pl ln km ks kt ku kl kn cd wt) H := hP
  have hD : va_D A (gw h kq (xA sp) k o b kp ga gl ++ kw cB k (bnKl kL (xs (i + 2)) (xs (i + 3)) (xs (i + 4)) (xs (i + 5)) (xs (i + 6)) (xs (i + 7))) (bnW sz mK kb (xs (i + 1)) (xs (i + 2)) (xs (i + 3)) (xs (i + 4)) (xs (i + 5)) (xs (i + 6)) (xs (i + 7))) ++ ow cB o oz cs cK ++ sw cB cI b sz st us mK pK lK ++ (krw cS kq (fun j => xA (kf j)) ++ (xW cB cI sp ++ kW cB cI kf)) ++ mw cI a sz st us kp ga gl cs mem pl ln km ks kt ku kl kn cd wt) := hD
  refine lv_aload_n hx hb dL_law_519 rfl (lv_at hl 1 rfl) ?_
  refine lv_aload_n hx hb dL_law_520 rfl (lv_at hl 3 rfl) ?_
  refine lv_iload_n hx hb dL_law_521 rfl (lv_at hl 0 rfl) ?_
  refine lv_iconst (v := nI 1) hx hb dL_law_522 (by decide) ?_
  refine lv_iadd hx hb dL_law_523 ?_
  refine tpi (nI_add i 1) ?_
  refine va_sld hx hb hX hbl hbA hS (vp_in_nI (by omega) (by omega)) dL_law_524 ?_
  refine tpi (show xs (nI (i + 1)).toNatClampNeg = xs (i + 1) by rw [nI_clamp (by omega)]) ?_
  refine lv_aload_n hx hb dL_law_525 rfl (lv_at hl 3 rfl) ?_
  refine lv_iload_n hx hb dL_law_526 rfl (lv_at hl 0 rfl) ?_
  refine lv_iconst (v := nI 2) hx hb dL_law_527 (by decide) ?_
  refine lv_iadd hx hb dL_law_528 ?_
  refine tpi (nI_add i 2) ?_
  refine va_sld hx hb hX hbl hbA hS (vp_in_nI (by omega) (by omega)) dL_law_529 ?_
  refine tpi (show xs (nI (i + 2)).toNatClampNeg = xs (i + 2) by rw [nI_clamp (by omega)]) ?_
  refine lv_aload_n hx hb dL_law_530 rfl (lv_at hl 3 rfl) ?_
  refine lv_iload_n hx hb dL_law_531 rfl (lv_at hl 0 rfl) ?_
  refine lv_iconst (v := nI 3) hx hb dL_law_532 (by decide) ?_
  refine lv_iadd hx hb dL_law_533 ?_
  refine tpi (nI_add i 3) ?_
  refine va_sld hx hb hX hbl hbA hS (vp_in_nI (by omega) (by omega)) dL_law_534 ?_
  refine tpi (show xs (nI (i + 3)).toNatClampNeg = xs (i + 3) by rw [nI_clamp (by omega)]) ?_
  refine lv_aload_n hx hb dL_law_535 rfl (lv_at hl 3 rfl) ?_
  refine lv_iload_n hx hb dL_law_536 rfl (lv_at hl 0 rfl) ?_
  refine lv_iconst (v := nI 4) hx hb dL_law_537 (by decide) ?_
  refine lv_iadd hx hb dL_law_538 ?_
  refine tpi (nI_add i 4) ?_
  refine va_sld hx hb hX hbl hbA hS (vp_in_nI (by omega) (by omega)) dL_law_539 ?_
  refine tpi (show xs (nI (i + 4)).toNatClampNeg = xs (i + 4) by rw [nI_clamp (by omega)]) ?_
  refine lv_aload_n hx hb dL_law_540 rfl (lv_at hl 3 rfl) ?_
  refine lv_iload_n hx hb dL_law_541 rfl (lv_at hl 0 rfl) ?_
  refine lv_iconst (v := nI 5) hx hb dL_law_542 (by decide) ?_
  refine lv_iadd hx hb dL_law_543 ?_
  refine tpi (nI_add i 5) ?_
  refine va_sld hx hb hX hbl hbA hS (vp_in_nI (by omega) (by omega)) dL_law_544 ?_
  refine tpi (show xs (nI (i + 5)).toNatClampNeg = xs (i + 5) by rw [nI_clamp (by omega)]) ?_
  refine lv_aload_n hx hb dL_law_545 rfl (lv_at hl 3 rfl) ?_
  refine lv_iload_n hx hb dL_law_546 rfl (lv_at hl 0 rfl) ?_
  refine lv_bipush (v := nI 6) hx hb dL_law_547 (by decide) ?_
  refine lv_iadd hx hb dL_law_549 ?_
  refine tpi (nI_add i 6) ?_
  refine va_sld hx hb hX hbl hbA hS (vp_in_nI (by omega) (by omega)) dL_law_550 ?_
  refine tpi (show xs (nI (i + 6)).toNatClampNeg = xs (i + 6) by rw [nI_clamp (by omega)]) ?_
  refine lv_aload_n hx hb dL_law_551 rfl (lv_at hl 3 rfl) ?_
  refine lv_iload_n hx hb dL_law_552 rfl (lv_at hl 0 rfl) ?_
  refine lv_bipush (v := nI 7) hx hb dL_law_553 (by decide) ?_
  refine lv_iadd hx hb dL_law_555 ?_
  refine tpi (nI_add i 7) ?_
  refine va_sld hx hb hX hbl hbA hS (vp_in_nI (by omega) (by omega)) dL_law_556 ?_
  refine tpi (show xs (nI (i + 7)).toNatClampNeg = xs (i + 7) by rw [nI_clamp (by omega)]) ?_
  have hKc := hK.sub (tys' := [(cI, .int)]) [0] rfl
  refine fr_calli (wc := mw cI a sz st us kp ga gl cs mem pl ln km ks kt ku kl kn cd wt) (wr := gw h kq (xA sp) k o b kp ga gl ++ kw cB k (bnKl kL (xs (i + 2)) (xs (i + 3)) (xs (i + 4)) (xs (i + 5)) (xs (i + 6)) (xs (i + 7))) (bnW sz mK kb (xs (i + 1)) (xs (i + 2)) (xs (i + 3)) (xs (i + 4)) (xs (i + 5)) (xs (i + 6)) (xs (i + 7))) ++ ow cB o oz cs cK ++ sw cB cI b sz st us mK pK lK ++ (krw cS kq (fun j => xA (kf j)) ++ (xW cB cI sp ++ kW cB cI kf))) (w1 := fun _ => mw cI a sz st us kp ga gl cs mem pl ln km ks kt ku kl kn cd (bnW sz mem wt (xs (i + 1)) (xs (i + 2)) (xs (i + 3)) (xs (i + 4)) (xs (i + 5)) (xs (i + 6)) (xs (i + 7)))) (Z := fun _ t9 => va_K (dC, dI) vwCl [(cI, .int)] t9) (fun _ _ q9 => q9) (pM) hP hD hS hA (fun hPc hDc => va_runV (As := [.int (xs (i + 1)), .int (xs (i + 2)), .int (xs (i + 3)), .int (xs (i + 4)), .int (xs (i + 5)), .int (xs (i + 6)), .int (xs (i + 7))]) (rest := []) ⟨hx, hb, hml, hown, hts⟩ (c_X4_binary l dC dI cI a sz st us kp ga gl cs mem pl ln km ks kt ku kl kn cd wt H.size (xs (i + 1)) (xs (i + 2)) (xs (i + 3)) (xs (i + 4)) (xs (i + 5)) (xs (i + 6)) (xs (i + 7)) c3.1 c5.2 c1.sz8) (cwV 7 hts gL_law_X4_binary rfl rfl rfl (by decide +kernel) ⟨Nat.le_of_ble_eq_true rfl, Nat.le_of_ble_eq_true rfl⟩) ⟨fun a9 U g9 mk9 q9 => by obtain ⟨q0, q1, qP, qK, qD⟩ := q9; exact ⟨q0, q1, qP, va_K.moved (u := U) (U := U.calling g9 mk9 a9) (Vm.Alike.refl U.vm) qK, qD⟩, va_recv hKc hPc (ci := 4) (q0 := 0) rfl rfl, fun U hU hW => ⟨rfl, by rw [hU], by rw [hU]; exact hPc, va_K.moved hW.alike hKc, hDc⟩⟩ rfl rfl hl.1 rfl (lv_room (Nat.le_of_ble_eq_true rfl)) dL_law_557 ⟨by show 22 + 4 * jj + 0 + 0 ≤ 60000; omega, by show 78425 + 12550 * jj + 0 + 0 ≤ 8922250; omega⟩) (fun r2 _ H locs hw hP hD hS => ?_)
  try dsimp only at hw hP hD
  have hm := hw
  clear hw
  refine lv_pop hx hb dL_law_560 rfl ?_
  have hP := va_P_perm pM hP
  have hD := va_D_perm pM hD
  have hP : va_P (dC, dI) vwCl (gw h kq (xA sp) k o b kp ga gl ++ kw cB k (bnKl kL (xs (i + 2)) (xs (i + 3)) (xs (i + 4)) (xs (i + 5)) (xs (i + 6)) (xs (i + 7))) (bnW sz mK kb (xs (i + 1)) (xs (i + 2)) (xs (i + 3)) (xs (i + 4)) (xs (i + 5)) (xs (i + 6)) (xs (i + 7))) ++ ow cB o oz cs cK ++ sw cB cI b sz st us mK pK lK ++ (krw cS kq (fun j => xA (kf j)) ++ (xW cB cI sp ++ kW cB cI kf)) ++ mw cI a sz st us kp ga gl cs mem pl ln km ks kt ku kl kn cd (bnW sz mem wt (xs (i + 1)) (xs (i + 2)) (xs (i + 3)) (xs (i + 4)) (xs (i + 5)) (xs (i + 6)) (xs (i + 7)))) H := hP
  have hD : va_D A (gw h kq (xA sp) k o b kp ga gl ++ kw cB k (bnKl kL (xs (i + 2)) (xs (i + 3)) (xs (i + 4)) (xs (i + 5)) (xs (i + 6)) (xs (i + 7))) (bnW sz mK kb (xs (i + 1)) (xs (i + 2)) (xs (i + 3)) (xs (i + 4)) (xs (i + 5)) (xs (i + 6)) (xs (i + 7))) ++ ow cB o oz cs cK ++ sw cB cI b sz st us mK pK lK ++ (krw cS kq (fun j => xA (kf j)) ++ (xW cB cI sp ++ kW cB cI kf)) ++ mw cI a sz st us kp ga gl cs mem pl ln km ks kt ku kl kn cd (bnW sz mem wt (xs (i + 1)) (xs (i + 2)) (xs (i + 3)) (xs (i + 4)) (xs (i + 5)) (xs (i + 6)) (xs (i + 7)))) := hD
  refine lv_goto (tgt := 852) hx hb dL_law_561 (by decide) ?_
  refine W.widen (k := 22 + 4 * (jj + 1)) (n := 78425 + 12550 * (jj + 1)) (by omega) (by omega) ?_
  exact tail _ H locs ls ⟨o, b, sz, st, us, kp, ga, gl, bnKl kL (xs (i + 2)) (xs (i + 3)) (xs (i + 4)) (xs (i + 5)) (xs (i + 6)) (xs (i + 7)), oz, cs, mK, pK, lK, bnW sz mK kb (xs (i + 1)) (xs (i + 2)) (xs (i + 3)) (xs (i + 4)) (xs (i + 5)) (xs (i + 6)) (xs (i + 7)), cK, mem, pl, ln, km, ks, kt, ku, kl, kn, cd, bnW sz mem wt (xs (i + 1)) (xs (i + 2)) (xs (i + 3)) (xs (i + 4)) (xs (i + 5)) (xs (i + 6)) (xs (i + 7)), sp, kf, rfl, ⟨c1, c2, c3, c4, ⟨bnW_lt c2.1 c5.1 _ _ _ _ _ _ _, bnW_lt c3.1 c5.2 _ _ _ _ _ _ _⟩, c6, c7, c8⟩⟩ hP hD hS hl
set_option maxHeartbeats 4000000 in
set_option maxRecDepth 100000 in
theorem lc_linked {p : Program} {e : Env} {s : State} {m : MethodId} {below : List Frame} {meth : Method} {c : Code} (l : Launch) {q0 L : Nat} {xs : Nat → Int32} (hL : L ≤ 4096) (C0 : lw_At p s m meth c q0 L xs) (dC : Nat → ClassId) (dI : Nat → Nat → Nat) (cB cI cS : ClassId) (h kq : Nat) (k a : Nat → Nat) (A : Nat → Prop) (hA : ∀ q : Nat, s.heap.size ≤ q → A q) (hbA : ¬ A q0) (hK : va_K (dC, dI) vwCl [(cI, .int), (cB, .byte), (cS, .object "GlulxHeap$State")] s) {i jj : Nat} (hi : i = 8 * jj) (hiL : i + 8 ≤ L) {ws : va_W} {H : Heap} {locs : List Loc} {ls : Array Slot} (hJ : J cB cI cS h kq k a ws) (hP : va_P (dC, dI) vwCl ws H) (hD : va_D A ws) (hS : va_S A s.heap H locs) (hl : lv_has ls 4 [(3, .int (nI i)), (2, .ref (a 0)), (1, .ref h), (0, .ref q0)]) (tail : ∀ (ws : va_W) (H : Heap) (locs : List Loc) (ls : Array Slot), J cB cI cS h kq k a ws → va_P (dC, dI) vwCl ws H → va_D A ws → va_S A s.heap H locs → lv_has ls 4 [(3, .int (nI i)), (2, .ref (a 0)), (1, .ref h), (0, .ref q0)] → W p l e room_1 s m #[Value.ref q0] below meth c H locs (22 + 4 * (jj + 1)) (78425 + 12550 * (jj + 1)) (lw_Z below #[Value.ref q0] s) (F0 m 852 ls [])) : W p l e room_1 s m #[Value.ref q0] below meth c H locs (22 + 4 * jj) (78425 + 12550 * jj) (lw_Z below #[Value.ref q0] s) (F0 m 564 ls []) := by
  obtain ⟨hx, hb, hr, hml, hown, hts0, hX, hbl, hlocks, hgv⟩ := id C0
  have hts : ∀ w ∈ wsL_law, w.before #[Value.ref q0] s = true := fun w h => hts0 w (wsL_law_in w h)
  obtain ⟨o, b, sz, st, us, kp, ga, gl, kL, oz, cs, mK, pK, lK, kb, cK, mem, pl, ln, km, ks, kt, ku, kl, kn, cd, wt, sp, kf, rfl, c1, c2, c3, c4, c5, c6, c7, c8⟩ := hJ
  have hcs : cs ≤ 12550 ∧ oz ≤ 12550 := by have := c6.2.1; rcases c6.1 with q | q <;> omega
  have hst9 := wfB_st c1.1
  refine lv_aload_n hx hb dL_law_564 rfl (lv_at hl 2 rfl) ?_
  refine lv_aload_n hx hb dL_law_565 rfl (lv_at hl 3 rfl) ?_
  refine lv_iload_n hx hb dL_law_566 rfl (lv_at hl 0 rfl) ?_
  refine lv_iconst (v := nI 1) hx hb dL_law_567 (by decide) ?_
  refine lv_iadd hx hb dL_law_568 ?_
  refine tpi (nI_add i 1) ?_
  refine va_sld hx hb hX hbl hbA hS (vp_in_nI (by omega) (by omega)) dL_law_569 ?_
  refine tpi (show xs (nI (i + 1)).toNatClampNeg = xs (i + 1) by rw [nI_clamp (by omega)]) ?_
  refine lv_aload_n hx hb dL_law_570 rfl (lv_at hl 3 rfl) ?_
  refine lv_iload_n hx hb dL_law_571 rfl (lv_at hl 0 rfl) ?_
  refine lv_iconst (v := nI 2) hx hb dL_law_572 (by decide) ?_
  refine lv_iadd hx hb dL_law_573 ?_
  refine tpi (nI_add i 2) ?_
  refine va_sld hx hb hX hbl hbA hS (vp_in_nI (by omega) (by omega)) dL_law_574 ?_
  refine tpi (show xs (nI (i + 2)).toNatClampNeg = xs (i + 2) by rw [nI_clamp (by omega)]) ?_
  refine lv_aload_n hx hb dL_law_575 rfl (lv_at hl 3 rfl) ?_
  refine lv_iload_n hx hb dL_law_576 rfl (lv_at hl 0 rfl) ?_
  refine lv_iconst (v := nI 3) hx hb dL_law_577 (by decide) ?_
  refine lv_iadd hx hb dL_law_578 ?_
  refine tpi (nI_add i 3) ?_
  refine va_sld hx hb hX hbl hbA hS (vp_in_nI (by omega) (by omega)) dL_law_579 ?_
  refine tpi (show xs (nI (i + 3)).toNatClampNeg = xs (i + 3) by rw [nI_clamp (by omega)]) ?_
  refine lv_aload_n hx hb dL_law_580 rfl (lv_at hl 3 rfl) ?_
  refine lv_iload_n hx hb dL_law_581 rfl (lv_at hl 0 rfl) ?_
  refine lv_iconst (v := nI 4) hx hb dL_law_582 (by decide) ?_
  refine lv_iadd hx hb dL_law_583 ?_
  refine tpi (nI_add i 4) ?_
  refine va_sld hx hb hX hbl hbA hS (vp_in_nI (by omega) (by omega)) dL_law_584 ?_
  refine tpi (show xs (nI (i + 4)).toNatClampNeg = xs (i + 4) by rw [nI_clamp (by omega)]) ?_
  refine lv_aload_n hx hb dL_law_585 rfl (lv_at hl 3 rfl) ?_
  refine lv_iload_n hx hb dL_law_586 rfl (lv_at hl 0 rfl) ?_
  refine lv_iconst (v := nI 5) hx hb dL_law_587 (by decide) ?_
  refine lv_iadd hx hb dL_law_588 ?_
  refine tpi (nI_add i 5) ?_
  refine va_sld hx hb hX hbl hbA hS (vp_in_nI (by omega) (by omega)) dL_law_589 ?_
  refine tpi (show xs (nI (i + 5)).toNatClampNeg = xs (i + 5) by rw [nI_clamp (by omega)]) ?_
  refine lv_aload_n hx hb dL_law_590 rfl (lv_at hl 3 rfl) ?_
  refine lv_iload_n hx hb dL_law_591 rfl (lv_at hl 0 rfl) ?_
  refine lv_bipush (v := nI 6) hx hb dL_law_592 (by decide) ?_
  refine lv_iadd hx hb dL_law_594 ?_
  refine tpi (nI_add i 6) ?_
  refine va_sld hx hb hX hbl hbA hS (vp_in_nI (by omega) (by omega)) dL_law_595 ?_
  refine tpi (show xs (nI (i + 6)).toNatClampNeg = xs (i + 6) by rw [nI_clamp (by omega)]) ?_
  have hKc := hK.sub (tys' := [(cI, .int), (cB, .byte)]) [0, 1] rfl
  refine fr_calli (wc := gw h kq (xA sp) k o b kp ga gl ++ kw cB k kL kb ++ ow cB o oz cs cK ++ sw cB cI b sz st us mK pK lK) (wr := krw cS kq (fun j => xA (kf j)) ++ (xW cB cI sp ++ kW cB cI kf) ++ mw cI a sz st us kp ga gl cs mem pl ln km ks kt ku kl kn cd wt) (w1 := fun _ => gw h kq (xA sp) k o b kp ga gl ++ kw cB k (lkKl kL (xs (i + 2)) (xs (i + 3)) (xs (i + 4)) (xs (i + 5)) (xs (i + 6))) (lkW sz mK kb (xs (i + 1)) (xs (i + 2)) (xs (i + 3)) (xs (i + 4)) (xs (i + 5)) (xs (i + 6))) ++ ow cB o oz cs cK ++ sw cB cI b sz st us mK pK lK) (Z := fun _ t9 => va_K (dC, dI) vwCl [(cI, .int), (cB, .byte)] t9) (fun _ _ q9 => q9) (pGKOS) hP hD hS hA (fun hPc hDc => va_runV (As := [.int (xs (i + 1)), .int (xs (i + 2)), .int (xs (i + 3)), .int (xs (i + 4)), .int (xs (i + 5)), .int (xs (i + 6))]) (rest := []) ⟨hx, hb, hml, hown, hts⟩ (c_X3_linked l dC dI cB cI h kq (xA sp) k o b kp ga gl kL kb oz cs cK sz st us mK pK lK H.size (xs (i + 1)) (xs (i + 2)) (xs (i + 3)) (xs (i + 4)) (xs (i + 5)) (xs (i + 6)) c2.1 c5.1 c1.sz8) (cwV 6 hts gL_law_X3_linked rfl rfl rfl (by decide +kernel) ⟨Nat.le_of_ble_eq_true rfl, Nat.le_of_ble_eq_true rfl⟩) ⟨fun a9 U g9 mk9 q9 => by obtain ⟨q0, q1, qP, qK, qD⟩ := q9; exact ⟨q0, q1, qP, va_K.moved (u := U) (U := U.calling g9 mk9 a9) (Vm.Alike.refl U.vm) qK, qD⟩, va_recv hKc hPc (ci := 3) (q0 := 0) rfl rfl, fun U hU hW => ⟨rfl, by rw [hU], by rw [hU]; exact hPc, va_K.moved hW.alike hKc, hDc⟩⟩ rfl rfl hl.1 rfl (lv_room (Nat.le_of_ble_eq_true rfl)) dL_law_596 ⟨by show 22 + 4 * jj + 0 ≤ 60000; omega, by show 78425 + 12550 * jj + 0 ≤ 8922250; omega⟩) (fun r1 _ H locs hw hP hD hS => ?_)
  try dsimp only at hw hP hD
  have hc := hw
  clear hw
  refine lv_pop hx hb dL_law_599 rfl ?_
  have hP := va_P_perm pGKOS.symm hP
  have hD := va_D_perm pGKOS.symm hD
  have hP : va_P (dC, dI) vwCl (gw h kq (xA sp) k o b kp ga gl ++ kw cB k (lkKl kL (xs (i + 2)) (xs (i + 3)) (xs (i + 4)) (xs (i + 5)) (xs (i + 6))) (lkW sz mK kb (xs (i + 1)) (xs (i + 2)) (xs (i + 3)) (xs (i + 4)) (xs (i + 5)) (xs (i + 6))) ++ ow cB o oz cs cK ++ sw cB cI b sz st us mK pK lK ++ (krw cS kq (fun j => xA (kf j)) ++ (xW cB cI sp ++ kW cB cI kf)) ++ mw cI a sz st us kp ga gl cs mem pl ln km ks kt ku kl kn cd wt) H := hP
  have hD : va_D A (gw h kq (xA sp) k o b kp ga gl ++ kw cB k (lkKl kL (xs (i + 2)) (xs (i + 3)) (xs (i + 4)) (xs (i + 5)) (xs (i + 6))) (lkW sz mK kb (xs (i + 1)) (xs (i + 2)) (xs (i + 3)) (xs (i + 4)) (xs (i + 5)) (xs (i + 6))) ++ ow cB o oz cs cK ++ sw cB cI b sz st us mK pK lK ++ (krw cS kq (fun j => xA (kf j)) ++ (xW cB cI sp ++ kW cB cI kf)) ++ mw cI a sz st us kp ga gl cs mem pl ln km ks kt ku kl kn cd wt) := hD
  refine lv_aload_n hx hb dL_law_600 rfl (lv_at hl 1 rfl) ?_
  refine lv_aload_n hx hb dL_law_601 rfl (lv_at hl 3 rfl) ?_
  refine lv_iload_n hx hb dL_law_602 rfl (lv_at hl 0 rfl) ?_
  refine lv_iconst (v := nI 1) hx hb dL_law_603 (by decide) ?_
  refine lv_iadd hx hb dL_law_604 ?_
  refine tpi (nI_add i 1) ?_
  refine va_sld hx hb hX hbl hbA hS (vp_in_nI (by omega) (by omega)) dL_law_605 ?_
  refine tpi (show xs (nI (i + 1)).toNatClampNeg = xs (i + 1) by rw [nI_clamp (by omega)]) ?_
  refine lv_aload_n hx hb dL_law_606 rfl (lv_at hl 3 rfl) ?_
  refine lv_iload_n hx hb dL_law_607 rfl (lv_at hl 0 rfl) ?_
  refine lv_iconst (v := nI 2) hx hb dL_law_608 (by decide) ?_
  refine lv_iadd hx hb dL_law_609 ?_
  refine tpi (nI_add i 2) ?_
  refine va_sld hx hb hX hbl hbA hS (vp_in_nI (by omega) (by omega)) dL_law_610 ?_
  refine tpi (show xs (nI (i + 2)).toNatClampNeg = xs (i + 2) by rw [nI_clamp (by omega)]) ?_
  refine lv_aload_n hx hb dL_law_611 rfl (lv_at hl 3 rfl) ?_
  refine lv_iload_n hx hb dL_law_612 rfl (lv_at hl 0 rfl) ?_
  refine lv_iconst (v := nI 3) hx hb dL_law_613 (by decide) ?_
  refine lv_iadd hx hb dL_law_614 ?_
  refine tpi (nI_add i 3) ?_
  refine va_sld hx hb hX hbl hbA hS (vp_in_nI (by omega) (by omega)) dL_law_615 ?_
  refine tpi (show xs (nI (i + 3)).toNatClampNeg = xs (i + 3) by rw [nI_clamp (by omega)]) ?_
  refine lv_aload_n hx hb dL_law_616 rfl (lv_at hl 3 rfl) ?_
  refine lv_iload_n hx hb dL_law_617 rfl (lv_at hl 0 rfl) ?_
  refine lv_iconst (v := nI 4) hx hb dL_law_618 (by decide) ?_
  refine lv_iadd hx hb dL_law_619 ?_
  refine tpi (nI_add i 4) ?_
  refine va_sld hx hb hX hbl hbA hS (vp_in_nI (by omega) (by omega)) dL_law_620 ?_
  refine tpi (show xs (nI (i + 4)).toNatClampNeg = xs (i + 4) by rw [nI_clamp (by omega)]) ?_
  refine lv_aload_n hx hb dL_law_621 rfl (lv_at hl 3 rfl) ?_
  refine lv_iload_n hx hb dL_law_622 rfl (lv_at hl 0 rfl) ?_
  refine lv_iconst (v := nI 5) hx hb dL_law_623 (by decide) ?_
  refine lv_iadd hx hb dL_law_624 ?_
  refine tpi (nI_add i 5) ?_
  refine va_sld hx hb hX hbl hbA hS (vp_in_nI (by omega) (by omega)) dL_law_625 ?_
  refine tpi (show xs (nI (i + 5)).toNatClampNeg = xs (i + 5) by rw [nI_clamp (by omega)]) ?_
  refine lv_aload_n hx hb dL_law_626 rfl (lv_at hl 3 rfl) ?_
  refine lv_iload_n hx hb dL_law_627 rfl (lv_at hl 0 rfl) ?_
  refine lv_bipush (v := nI 6) hx hb dL_law_628 (by decide) ?_
  refine lv_iadd hx hb dL_law_630 ?_
  refine tpi (nI_add i 6) ?_
  refine va_sld hx hb hX hbl hbA hS (vp_in_nI (by omega) (by omega)) dL_law_631 ?_
  refine tpi (show xs (nI (i + 6)).toNatClampNeg = xs (i + 6) by rw [nI_clamp (by omega)]) ?_
  have hKc := hK.sub (tys' := [(cI, .int)]) [0] rfl
  refine fr_calli (wc := mw cI a sz st us kp ga gl cs mem pl ln km ks kt ku kl kn cd wt) (wr := gw h kq (xA sp) k o b kp ga gl ++ kw cB k (lkKl kL (xs (i + 2)) (xs (i + 3)) (xs (i + 4)) (xs (i + 5)) (xs (i + 6))) (lkW sz mK kb (xs (i + 1)) (xs (i + 2)) (xs (i + 3)) (xs (i + 4)) (xs (i + 5)) (xs (i + 6))) ++ ow cB o oz cs cK ++ sw cB cI b sz st us mK pK lK ++ (krw cS kq (fun j => xA (kf j)) ++ (xW cB cI sp ++ kW cB cI kf))) (w1 := fun _ => mw cI a sz st us kp ga gl cs mem pl ln km ks kt ku kl kn cd (lkW sz mem wt (xs (i + 1)) (xs (i + 2)) (xs (i + 3)) (xs (i + 4)) (xs (i + 5)) (xs (i + 6)))) (Z := fun _ t9 => va_K (dC, dI) vwCl [(cI, .int)] t9) (fun _ _ q9 => q9) (pM) hP hD hS hA (fun hPc hDc => va_runV (As := [.int (xs (i + 1)), .int (xs (i + 2)), .int (xs (i + 3)), .int (xs (i + 4)), .int (xs (i + 5)), .int (xs (i + 6))]) (rest := []) ⟨hx, hb, hml, hown, hts⟩ (c_X4_linked l dC dI cI a sz st us kp ga gl cs mem pl ln km ks kt ku kl kn cd wt H.size (xs (i + 1)) (xs (i + 2)) (xs (i + 3)) (xs (i + 4)) (xs (i + 5)) (xs (i + 6)) c3.1 c5.2 c1.sz8) (cwV 6 hts gL_law_X4_linked rfl rfl rfl (by decide +kernel) ⟨Nat.le_of_ble_eq_true rfl, Nat.le_of_ble_eq_true rfl⟩) ⟨fun a9 U g9 mk9 q9 => by obtain ⟨q0, q1, qP, qK, qD⟩ := q9; exact ⟨q0, q1, qP, va_K.moved (u := U) (U := U.calling g9 mk9 a9) (Vm.Alike.refl U.vm) qK, qD⟩, va_recv hKc hPc (ci := 4) (q0 := 0) rfl rfl, fun U hU hW => ⟨rfl, by rw [hU], by rw [hU]; exact hPc, va_K.moved hW.alike hKc, hDc⟩⟩ rfl rfl hl.1 rfl (lv_room (Nat.le_of_ble_eq_true rfl)) dL_law_632 ⟨by show 22 + 4 * jj + 0 + 0 ≤ 60000; omega, by show 78425 + 12550 * jj + 0 + 0 ≤ 8922250; omega⟩) (fun r2 _ H locs hw hP hD hS => ?_)
  try dsimp only at hw hP hD
  have hm := hw
  clear hw
  refine lv_pop hx hb dL_law_635 rfl ?_
  have hP := va_P_perm pM hP
  have hD := va_D_perm pM hD
  have hP : va_P (dC, dI) vwCl (gw h kq (xA sp) k o b kp ga gl ++ kw cB k (lkKl kL (xs (i + 2)) (xs (i + 3)) (xs (i + 4)) (xs (i + 5)) (xs (i + 6))) (lkW sz mK kb (xs (i + 1)) (xs (i + 2)) (xs (i + 3)) (xs (i + 4)) (xs (i + 5)) (xs (i + 6))) ++ ow cB o oz cs cK ++ sw cB cI b sz st us mK pK lK ++ (krw cS kq (fun j => xA (kf j)) ++ (xW cB cI sp ++ kW cB cI kf)) ++ mw cI a sz st us kp ga gl cs mem pl ln km ks kt ku kl kn cd (lkW sz mem wt (xs (i + 1)) (xs (i + 2)) (xs (i + 3)) (xs (i + 4)) (xs (i + 5)) (xs (i + 6)))) H := hP
  have hD : va_D A (gw h kq (xA sp) k o b kp ga gl ++ kw cB k (lkKl kL (xs (i + 2)) (xs (i + 3)) (xs (i + 4)) (xs (i + 5)) (xs (i + 6))) (lkW sz mK kb (xs (i + 1)) (xs (i + 2)) (xs (i + 3)) (xs (i + 4)) (xs (i + 5)) (xs (i + 6))) ++ ow cB o oz cs cK ++ sw cB cI b sz st us mK pK lK ++ (krw cS kq (fun j => xA (kf j)) ++ (xW cB cI sp ++ kW cB cI kf)) ++ mw cI a sz st us kp ga gl cs mem pl ln km ks kt ku kl kn cd (lkW sz mem wt (xs (i + 1)) (xs (i + 2)) (xs (i + 3)) (xs (i + 4)) (xs (i + 5)) (xs (i + 6)))) := hD
  refine lv_goto (tgt := 852) hx hb dL_law_636 (by decide) ?_
  refine W.widen (k := 22 + 4 * (jj + 1)) (n := 78425 + 12550 * (jj + 1)) (by omega) (by omega) ?_
  exact tail _ H locs ls ⟨o, b, sz, st, us, kp, ga, gl, lkKl kL (xs (i + 2)) (xs (i + 3)) (xs (i + 4)) (xs (i + 5)) (xs (i + 6)), oz, cs, mK, pK, lK, lkW sz mK kb (xs (i + 1)) (xs (i + 2)) (xs (i + 3)) (xs (i + 4)) (xs (i + 5)) (xs (i + 6)), cK, mem, pl, ln, km, ks, kt, ku, kl, kn, cd, lkW sz mem wt (xs (i + 1)) (xs (i + 2)) (xs (i + 3)) (xs (i + 4)) (xs (i + 5)) (xs (i + 6)), sp, kf, rfl, ⟨c1, c2, c3, c4, ⟨lkW_lt c2.1 c5.1 _ _ _ _ _ _, lkW_lt c3.1 c5.2 _ _ _ _ _ _⟩, c6, c7, c8⟩⟩ hP hD hS hl
set_option maxHeartbeats 4000000 in
set_option maxRecDepth 100000 in
theorem lc_protect {p : Program} {e : Env} {s : State} {m : MethodId} {below : List Frame} {meth : Method} {c : Code} (l : Launch) {q0 L : Nat} {xs : Nat → Int32} (hL : L ≤ 4096) (C0 : lw_At p s m meth c q0 L xs) (dC : Nat → ClassId) (dI : Nat → Nat → Nat) (cB cI cS : ClassId) (h kq : Nat) (k a : Nat → Nat) (A : Nat → Prop) (hA : ∀ q : Nat, s.heap.size ≤ q → A q) (hbA : ¬ A q0) (hK : va_K (dC, dI) vwCl [(cI, .int), (cB, .byte), (cS, .object "GlulxHeap$State")] s) {i jj : Nat} (hi : i = 8 * jj) (hiL : i + 8 ≤ L) {ws : va_W} {H : Heap} {locs : List Loc} {ls : Array Slot} (hJ : J cB cI cS h kq k a ws) (hP : va_P (dC, dI) vwCl ws H) (hD : va_D A ws) (hS : va_S A s.heap H locs) (hl : lv_has ls 4 [(3, .int (nI i)), (2, .ref (a 0)), (1, .ref h), (0, .ref q0)]) (tail : ∀ (ws : va_W) (H : Heap) (locs : List Loc) (ls : Array Slot), J cB cI cS h kq k a ws → va_P (dC, dI) vwCl ws H → va_D A ws → va_S A s.heap H locs → lv_has ls 4 [(3, .int (nI i)), (2, .ref (a 0)), (1, .ref h), (0, .ref q0)] → W p l e room_1 s m #[Value.ref q0] below meth c H locs (22 + 4 * (jj + 1)) (78425 + 12550 * (jj + 1)) (lw_Z below #[Value.ref q0] s) (F0 m 852 ls [])) : W p l e room_1 s m #[Value.ref q0] below meth c H locs (22 + 4 * jj) (78425 + 12550 * jj) (lw_Z below #[Value.ref q0] s) (F0 m 639 ls []) := by
  obtain ⟨hx, hb, hr, hml, hown, hts0, hX, hbl, hlocks, hgv⟩ := id C0
  have hts : ∀ w ∈ wsL_law, w.before #[Value.ref q0] s = true := fun w h => hts0 w (wsL_law_in w h)
  obtain ⟨o, b, sz, st, us, kp, ga, gl, kL, oz, cs, mK, pK, lK, kb, cK, mem, pl, ln, km, ks, kt, ku, kl, kn, cd, wt, sp, kf, rfl, c1, c2, c3, c4, c5, c6, c7, c8⟩ := hJ
  have hcs : cs ≤ 12550 ∧ oz ≤ 12550 := by have := c6.2.1; rcases c6.1 with q | q <;> omega
  have hst9 := wfB_st c1.1
  refine lv_aload_n hx hb dL_law_639 rfl (lv_at hl 2 rfl) ?_
  refine lv_aload_n hx hb dL_law_640 rfl (lv_at hl 3 rfl) ?_
  refine lv_iload_n hx hb dL_law_641 rfl (lv_at hl 0 rfl) ?_
  refine lv_iconst (v := nI 1) hx hb dL_law_642 (by decide) ?_
  refine lv_iadd hx hb dL_law_643 ?_
  refine tpi (nI_add i 1) ?_
  refine va_sld hx hb hX hbl hbA hS (vp_in_nI (by omega) (by omega)) dL_law_644 ?_
  refine tpi (show xs (nI (i + 1)).toNatClampNeg = xs (i + 1) by rw [nI_clamp (by omega)]) ?_
  refine lv_aload_n hx hb dL_law_645 rfl (lv_at hl 3 rfl) ?_
  refine lv_iload_n hx hb dL_law_646 rfl (lv_at hl 0 rfl) ?_
  refine lv_iconst (v := nI 2) hx hb dL_law_647 (by decide) ?_
  refine lv_iadd hx hb dL_law_648 ?_
  refine tpi (nI_add i 2) ?_
  refine va_sld hx hb hX hbl hbA hS (vp_in_nI (by omega) (by omega)) dL_law_649 ?_
  refine tpi (show xs (nI (i + 2)).toNatClampNeg = xs (i + 2) by rw [nI_clamp (by omega)]) ?_
  have hKc := hK.sub (tys' := [(cI, .int), (cB, .byte)]) [0, 1] rfl
  refine fr_calli (wc := gw h kq (xA sp) k o b kp ga gl ++ kw cB k kL kb ++ ow cB o oz cs cK ++ sw cB cI b sz st us mK pK lK) (wr := krw cS kq (fun j => xA (kf j)) ++ (xW cB cI sp ++ kW cB cI kf) ++ mw cI a sz st us kp ga gl cs mem pl ln km ks kt ku kl kn cd wt) (w1 := fun _ => gw h kq (xA sp) k o b kp (pcA ga (xs (i + 1)) (xs (i + 2))) (pcL gl (xs (i + 1)) (xs (i + 2))) ++ kw cB k kL kb ++ ow cB o oz cs cK ++ sw cB cI b sz st us mK pK lK) (Z := fun _ t9 => va_K (dC, dI) vwCl [(cI, .int), (cB, .byte)] t9) (fun _ _ q9 => q9) (pGKOS) hP hD hS hA (fun hPc hDc => va_runV (As := [.int (xs (i + 1)), .int (xs (i + 2))]) (rest := []) ⟨hx, hb, hml, hown, hts⟩ (c_X3_protect l dC dI cB cI h kq (xA sp) k o b kp ga gl kL kb oz cs cK sz st us mK pK lK H.size (xs (i + 1)) (xs (i + 2)) ) (cwV 2 hts gL_law_X3_protect rfl rfl rfl (by decide +kernel) ⟨Nat.le_of_ble_eq_true rfl, Nat.le_of_ble_eq_true rfl⟩) ⟨fun a9 U g9 mk9 q9 => by obtain ⟨q0, q1, qP, qK, qD⟩ := q9; exact ⟨q0, q1, qP, va_K.moved (u := U) (U := U.calling g9 mk9 a9) (Vm.Alike.refl U.vm) qK, qD⟩, va_recv hKc hPc (ci := 3) (q0 := 0) rfl rfl, fun U hU hW => ⟨rfl, by rw [hU], by rw [hU]; exact hPc, va_K.moved hW.alike hKc, hDc⟩⟩ rfl rfl hl.1 rfl (lv_room (Nat.le_of_ble_eq_true rfl)) dL_law_650 ⟨by show 22 + 4 * jj + 0 ≤ 60000; omega, by show 78425 + 12550 * jj + 0 ≤ 8922250; omega⟩) (fun r1 _ H locs hw hP hD hS => ?_)
  try dsimp only at hw hP hD
  have hc := hw
  clear hw
  refine lv_pop hx hb dL_law_653 rfl ?_
  have hP := va_P_perm pGKOS.symm hP
  have hD := va_D_perm pGKOS.symm hD
  have hP : va_P (dC, dI) vwCl (gw h kq (xA sp) k o b kp (pcA ga (xs (i + 1)) (xs (i + 2))) (pcL gl (xs (i + 1)) (xs (i + 2))) ++ kw cB k kL kb ++ ow cB o oz cs cK ++ sw cB cI b sz st us mK pK lK ++ (krw cS kq (fun j => xA (kf j)) ++ (xW cB cI sp ++ kW cB cI kf)) ++ mw cI a sz st us kp ga gl cs mem pl ln km ks kt ku kl kn cd wt) H := hP
  have hD : va_D A (gw h kq (xA sp) k o b kp (pcA ga (xs (i + 1)) (xs (i + 2))) (pcL gl (xs (i + 1)) (xs (i + 2))) ++ kw cB k kL kb ++ ow cB o oz cs cK ++ sw cB cI b sz st us mK pK lK ++ (krw cS kq (fun j => xA (kf j)) ++ (xW cB cI sp ++ kW cB cI kf)) ++ mw cI a sz st us kp ga gl cs mem pl ln km ks kt ku kl kn cd wt) := hD
  refine lv_aload_n hx hb dL_law_654 rfl (lv_at hl 1 rfl) ?_
  refine lv_aload_n hx hb dL_law_655 rfl (lv_at hl 3 rfl) ?_
  refine lv_iload_n hx hb dL_law_656 rfl (lv_at hl 0 rfl) ?_
  refine lv_iconst (v := nI 1) hx hb dL_law_657 (by decide) ?_
  refine lv_iadd hx hb dL_law_658 ?_
  refine tpi (nI_add i 1) ?_
  refine va_sld hx hb hX hbl hbA hS (vp_in_nI (by omega) (by omega)) dL_law_659 ?_
  refine tpi (show xs (nI (i + 1)).toNatClampNeg = xs (i + 1) by rw [nI_clamp (by omega)]) ?_
  refine lv_aload_n hx hb dL_law_660 rfl (lv_at hl 3 rfl) ?_
  refine lv_iload_n hx hb dL_law_661 rfl (lv_at hl 0 rfl) ?_
  refine lv_iconst (v := nI 2) hx hb dL_law_662 (by decide) ?_
  refine lv_iadd hx hb dL_law_663 ?_
  refine tpi (nI_add i 2) ?_
  refine va_sld hx hb hX hbl hbA hS (vp_in_nI (by omega) (by omega)) dL_law_664 ?_
  refine tpi (show xs (nI (i + 2)).toNatClampNeg = xs (i + 2) by rw [nI_clamp (by omega)]) ?_
  have hKc := hK.sub (tys' := [(cI, .int)]) [0] rfl
  refine fr_calli (wc := mw cI a sz st us kp ga gl cs mem pl ln km ks kt ku kl kn cd wt) (wr := gw h kq (xA sp) k o b kp (pcA ga (xs (i + 1)) (xs (i + 2))) (pcL gl (xs (i + 1)) (xs (i + 2))) ++ kw cB k kL kb ++ ow cB o oz cs cK ++ sw cB cI b sz st us mK pK lK ++ (krw cS kq (fun j => xA (kf j)) ++ (xW cB cI sp ++ kW cB cI kf))) (w1 := fun _ => mw cI a sz st us kp (pcA ga (xs (i + 1)) (xs (i + 2))) (pcL gl (xs (i + 1)) (xs (i + 2))) cs mem pl ln km ks kt ku kl kn cd wt) (Z := fun _ t9 => va_K (dC, dI) vwCl [(cI, .int)] t9) (fun _ _ q9 => q9) (pM) hP hD hS hA (fun hPc hDc => va_runV (As := [.int (xs (i + 1)), .int (xs (i + 2))]) (rest := []) ⟨hx, hb, hml, hown, hts⟩ (c_X4_protect l dC dI cI a sz st us kp ga gl cs mem pl ln km ks kt ku kl kn cd wt H.size (xs (i + 1)) (xs (i + 2)) ) (cwV 2 hts gL_law_X4_protect rfl rfl rfl (by decide +kernel) ⟨Nat.le_of_ble_eq_true rfl, Nat.le_of_ble_eq_true rfl⟩) ⟨fun a9 U g9 mk9 q9 => by obtain ⟨q0, q1, qP, qK, qD⟩ := q9; exact ⟨q0, q1, qP, va_K.moved (u := U) (U := U.calling g9 mk9 a9) (Vm.Alike.refl U.vm) qK, qD⟩, va_recv hKc hPc (ci := 4) (q0 := 0) rfl rfl, fun U hU hW => ⟨rfl, by rw [hU], by rw [hU]; exact hPc, va_K.moved hW.alike hKc, hDc⟩⟩ rfl rfl hl.1 rfl (lv_room (Nat.le_of_ble_eq_true rfl)) dL_law_665 ⟨by show 22 + 4 * jj + 0 + 0 ≤ 60000; omega, by show 78425 + 12550 * jj + 0 + 0 ≤ 8922250; omega⟩) (fun r2 _ H locs hw hP hD hS => ?_)
  try dsimp only at hw hP hD
  have hm := hw
  clear hw
  refine lv_pop hx hb dL_law_668 rfl ?_
  have hP := va_P_perm pM hP
  have hD := va_D_perm pM hD
  have hP : va_P (dC, dI) vwCl (gw h kq (xA sp) k o b kp (pcA ga (xs (i + 1)) (xs (i + 2))) (pcL gl (xs (i + 1)) (xs (i + 2))) ++ kw cB k kL kb ++ ow cB o oz cs cK ++ sw cB cI b sz st us mK pK lK ++ (krw cS kq (fun j => xA (kf j)) ++ (xW cB cI sp ++ kW cB cI kf)) ++ mw cI a sz st us kp (pcA ga (xs (i + 1)) (xs (i + 2))) (pcL gl (xs (i + 1)) (xs (i + 2))) cs mem pl ln km ks kt ku kl kn cd wt) H := hP
  have hD : va_D A (gw h kq (xA sp) k o b kp (pcA ga (xs (i + 1)) (xs (i + 2))) (pcL gl (xs (i + 1)) (xs (i + 2))) ++ kw cB k kL kb ++ ow cB o oz cs cK ++ sw cB cI b sz st us mK pK lK ++ (krw cS kq (fun j => xA (kf j)) ++ (xW cB cI sp ++ kW cB cI kf)) ++ mw cI a sz st us kp (pcA ga (xs (i + 1)) (xs (i + 2))) (pcL gl (xs (i + 1)) (xs (i + 2))) cs mem pl ln km ks kt ku kl kn cd wt) := hD
  refine lv_goto (tgt := 852) hx hb dL_law_669 (by decide) ?_
  refine W.widen (k := 22 + 4 * (jj + 1)) (n := 78425 + 12550 * (jj + 1)) (by omega) (by omega) ?_
  exact tail _ H locs ls ⟨o, b, sz, st, us, kp, pcA ga (xs (i + 1)) (xs (i + 2)), pcL gl (xs (i + 1)) (xs (i + 2)), kL, oz, cs, mK, pK, lK, kb, cK, mem, pl, ln, km, ks, kt, ku, kl, kn, cd, wt, sp, kf, rfl, ⟨c1, c2, c3, ⟨c4.1, pcA_le c4.2.1 _ _, pcL_le c4.2.2 _ _⟩, c5, c6, c7, c8⟩⟩ hP hD hS hl
set_option maxHeartbeats 4000000 in
set_option maxRecDepth 100000 in
theorem lc_keep {p : Program} {e : Env} {s : State} {m : MethodId} {below : List Frame} {meth : Method} {c : Code} (l : Launch) {q0 L : Nat} {xs : Nat → Int32} (hL : L ≤ 4096) (C0 : lw_At p s m meth c q0 L xs) (dC : Nat → ClassId) (dI : Nat → Nat → Nat) (cB cI cS : ClassId) (h kq : Nat) (k a : Nat → Nat) (A : Nat → Prop) (hA : ∀ q : Nat, s.heap.size ≤ q → A q) (hbA : ¬ A q0) (hK : va_K (dC, dI) vwCl [(cI, .int), (cB, .byte), (cS, .object "GlulxHeap$State")] s) {i jj : Nat} (hi : i = 8 * jj) (hiL : i + 8 ≤ L) {ws : va_W} {H : Heap} {locs : List Loc} {ls : Array Slot} (hJ : J cB cI cS h kq k a ws) (hP : va_P (dC, dI) vwCl ws H) (hD : va_D A ws) (hS : va_S A s.heap H locs) (hl : lv_has ls 4 [(3, .int (nI i)), (2, .ref (a 0)), (1, .ref h), (0, .ref q0)]) (tail : ∀ (ws : va_W) (H : Heap) (locs : List Loc) (ls : Array Slot), J cB cI cS h kq k a ws → va_P (dC, dI) vwCl ws H → va_D A ws → va_S A s.heap H locs → lv_has ls 4 [(3, .int (nI i)), (2, .ref (a 0)), (1, .ref h), (0, .ref q0)] → W p l e room_1 s m #[Value.ref q0] below meth c H locs (22 + 4 * (jj + 1)) (78425 + 12550 * (jj + 1)) (lw_Z below #[Value.ref q0] s) (F0 m 852 ls [])) : W p l e room_1 s m #[Value.ref q0] below meth c H locs (22 + 4 * jj) (78425 + 12550 * jj) (lw_Z below #[Value.ref q0] s) (F0 m 672 ls []) := by
  obtain ⟨hx, hb, hr, hml, hown, hts0, hX, hbl, hlocks, hgv⟩ := id C0
  have hts : ∀ w ∈ wsL_law, w.before #[Value.ref q0] s = true := fun w h => hts0 w (wsL_law_in w h)
  obtain ⟨o, b, sz, st, us, kp, ga, gl, kL, oz, cs, mK, pK, lK, kb, cK, mem, pl, ln, km, ks, kt, ku, kl, kn, cd, wt, sp, kf, rfl, c1, c2, c3, c4, c5, c6, c7, c8⟩ := hJ
  have hcs : cs ≤ 12550 ∧ oz ≤ 12550 := by have := c6.2.1; rcases c6.1 with q | q <;> omega
  have hst9 := wfB_st c1.1
  by_cases h4 : kp = 4
  · refine lv_aload_n hx hb dL_law_672 rfl (lv_at hl 2 rfl) ?_
    have hKc := hK.sub (tys' := [(cI, .int), (cB, .byte), (cS, .object "GlulxHeap$State")]) [0, 1, 2] rfl
    have hPc : va_P (dC, dI) vwCl (gw h kq (xA sp) k o b kp ga gl) H := va_P_left (va_P_perm (pGKOS.trans (.of_eq (by rw [List.append_assoc, List.append_assoc, List.append_assoc]))) hP)
    refine vp_callSi (W.runV (As := []) (rest := []) ⟨hx, hb, hml, hown, hts⟩ (c_X3_keepF l dC dI cB cI cS h kq (xA sp) k o b kp ga gl  h4) (cwV 0 hts gL_law_X3_keep rfl rfl rfl (by decide +kernel) ⟨Nat.le_of_ble_eq_true rfl, Nat.le_of_ble_eq_true rfl⟩) ⟨fun a9 U g9 mk9 q9 => by obtain ⟨q0, qP, qK⟩ := q9; exact ⟨q0, qP, va_K.moved (u := U) (U := U.calling g9 mk9 a9) (Vm.Alike.refl U.vm) qK⟩, va_recv hKc hPc (ci := 3) (q0 := 0) rfl rfl, fun U hU hW => ⟨rfl, by rw [hU]; exact hPc, va_K.moved hW.alike hKc⟩⟩ rfl rfl hl.1 rfl (lv_room (Nat.le_of_ble_eq_true rfl)) dL_law_673 ⟨by show 22 + 4 * jj + 0 ≤ 60000; omega, by show 78425 + 12550 * jj + 0 ≤ 8922250; omega⟩) (fun r1 hw => ?_)
    have hc := hw
    clear hw
    refine lv_pop hx hb dL_law_676 rfl ?_
    refine lv_aload_n hx hb dL_law_677 rfl (lv_at hl 1 rfl) ?_
    have hKc := hK.sub (tys' := [(cI, .int)]) [0] rfl
    refine fr_calli (wc := mw cI a sz st us kp ga gl cs mem pl ln km ks kt ku kl kn cd wt) (wr := gw h kq (xA sp) k o b kp ga gl ++ kw cB k kL kb ++ ow cB o oz cs cK ++ sw cB cI b sz st us mK pK lK ++ (krw cS kq (fun j => xA (kf j)) ++ (xW cB cI sp ++ kW cB cI kf))) (w1 := fun _ => mw cI a sz st us (if kp = 4 then kp else kp + 1) ga gl cs mem pl ln (if kp = 4 then km else blkW km (8192 * kp) (upto sz mem) 8192) (if kp = 4 then ks else va_up ks kp sz) (if kp = 4 then kt else va_up kt kp st) (if kp = 4 then ku else va_up ku kp us) (if kp = 4 then kl else blkW kl (64 * kp) pl us) (if kp = 4 then kn else blkW kn (64 * kp) ln us) cd wt) (Z := fun _ t9 => va_K (dC, dI) vwCl [(cI, .int)] t9) (fun _ _ q9 => q9) (pM) hP hD hS hA (fun hPc hDc => va_runV (As := []) (rest := []) ⟨hx, hb, hml, hown, hts⟩ (c_X4_keep l dC dI cI a sz st us kp ga gl cs mem pl ln km ks kt ku kl kn cd wt H.size  c1.sz8 c4.1 c1.us64) (cwV 0 hts gL_law_X4_keep rfl rfl rfl (by decide +kernel) ⟨Nat.le_of_ble_eq_true rfl, Nat.le_of_ble_eq_true rfl⟩) ⟨fun a9 U g9 mk9 q9 => by obtain ⟨q0, q1, qP, qK, qD⟩ := q9; exact ⟨q0, q1, qP, va_K.moved (u := U) (U := U.calling g9 mk9 a9) (Vm.Alike.refl U.vm) qK, qD⟩, va_recv hKc hPc (ci := 4) (q0 := 0) rfl rfl, fun U hU hW => ⟨rfl, by rw [hU], by rw [hU]; exact hPc, va_K.moved hW.alike hKc, hDc⟩⟩ rfl rfl hl.1 rfl (lv_room (Nat.le_of_ble_eq_true rfl)) dL_law_678 ⟨by show 22 + 4 * jj + 0 ≤ 60000; omega, by show 78425 + 12550 * jj + 0 ≤ 8922250; omega⟩) (fun r2 _ H locs hw hP hD hS => ?_)
    try dsimp only at hw hP hD
    have hm := hw
    clear hw
    refine lv_pop hx hb dL_law_681 rfl ?_
    have hP := va_P_perm pM hP
    have hD := va_D_perm pM hD
    have hP : va_P (dC, dI) vwCl (gw h kq (xA sp) k o b kp ga gl ++ kw cB k kL kb ++ ow cB o oz cs cK ++ sw cB cI b sz st us mK pK lK ++ (krw cS kq (fun j => xA (kf j)) ++ (xW cB cI sp ++ kW cB cI kf)) ++ mw cI a sz st us (if kp = 4 then kp else kp + 1) ga gl cs mem pl ln (if kp = 4 then km else blkW km (8192 * kp) (upto sz mem) 8192) (if kp = 4 then ks else va_up ks kp sz) (if kp = 4 then kt else va_up kt kp st) (if kp = 4 then ku else va_up ku kp us) (if kp = 4 then kl else blkW kl (64 * kp) pl us) (if kp = 4 then kn else blkW kn (64 * kp) ln us) cd wt) H := hP
    have hD : va_D A (gw h kq (xA sp) k o b kp ga gl ++ kw cB k kL kb ++ ow cB o oz cs cK ++ sw cB cI b sz st us mK pK lK ++ (krw cS kq (fun j => xA (kf j)) ++ (xW cB cI sp ++ kW cB cI kf)) ++ mw cI a sz st us (if kp = 4 then kp else kp + 1) ga gl cs mem pl ln (if kp = 4 then km else blkW km (8192 * kp) (upto sz mem) 8192) (if kp = 4 then ks else va_up ks kp sz) (if kp = 4 then kt else va_up kt kp st) (if kp = 4 then ku else va_up ku kp us) (if kp = 4 then kl else blkW kl (64 * kp) pl us) (if kp = 4 then kn else blkW kn (64 * kp) ln us) cd wt) := hD
    simp only [if_pos h4] at hP hD
    have hP : va_P (dC, dI) vwCl (gw h kq (xA sp) k o b kp ga gl ++ kw cB k kL kb ++ ow cB o oz cs cK ++ sw cB cI b sz st us mK pK lK ++ (krw cS kq (fun j => xA (kf j)) ++ (xW cB cI sp ++ kW cB cI kf)) ++ mw cI a sz st us kp ga gl cs mem pl ln km ks kt ku kl kn cd wt) H := hP
    have hD : va_D A (gw h kq (xA sp) k o b kp ga gl ++ kw cB k kL kb ++ ow cB o oz cs cK ++ sw cB cI b sz st us mK pK lK ++ (krw cS kq (fun j => xA (kf j)) ++ (xW cB cI sp ++ kW cB cI kf)) ++ mw cI a sz st us kp ga gl cs mem pl ln km ks kt ku kl kn cd wt) := hD
    refine lv_goto (tgt := 852) hx hb dL_law_682 (by decide) ?_
    refine W.widen (k := 22 + 4 * (jj + 1)) (n := 78425 + 12550 * (jj + 1)) (by omega) (by omega) ?_
    exact tail _ H locs ls ⟨o, b, sz, st, us, kp, ga, gl, kL, oz, cs, mK, pK, lK, kb, cK, mem, pl, ln, km, ks, kt, ku, kl, kn, cd, wt, sp, kf, rfl, ⟨c1, c2, c3, c4, c5, c6, c7, c8⟩⟩ hP hD hS hl
  · have h4l : kp < 4 := by omega
    rcases hkf : kf kp with _ | ⟨d, z, s9, u9, m9, p9, l9⟩
    · refine lv_aload_n hx hb dL_law_672 rfl (lv_at hl 2 rfl) ?_
      have hKc := hK.sub (tys' := [(cI, .int), (cB, .byte), (cS, .object "GlulxHeap$State")]) [0, 1, 2] rfl
      have hN29 := va_Nw.of (w := .methodLinkNest RX3 29 yX2_init "GlulxHeap") rfl (hts0 _ (List.mem_of_getElem? (i := 75) (by decide +kernel)))
      refine fr_calli (wc := gw h kq (xA sp) k o b kp ga gl ++ krw cS kq (fun j => xA (kf j)) ++ sw cB cI b sz st us mK pK lK) (wr := kw cB k kL kb ++ ow cB o oz cs cK ++ xW cB cI sp ++ kW cB cI kf ++ mw cI a sz st us kp ga gl cs mem pl ln km ks kt ku kl kn cd wt) (w1 := fun d => gw h kq (xA sp) k o b (kp + 1) ga gl ++ krw cS kq (va_up (fun j => xA (kf j)) kp (some (d 0))) ++ sw cB cI b sz st us mK pK lK ++ sw cB cI d sz st us (va_cpy mK zf 0 0 8192) (va_cpy pK zf 0 0 64) (va_cpy lK zf 0 0 64)) (Z := fun _ t9 => va_K (dC, dI) vwCl [(cI, .int), (cB, .byte), (cS, .object "GlulxHeap$State")] t9) (fun _ _ q9 => q9) (pGRS) hP hD hS hA (fun hPc hDc => va_runV (As := []) (rest := []) ⟨hx, hb, hml, hown, hts⟩ (c_X3_keepN l dC dI cB cI cS h kq (xA sp) k o b kp ga gl (fun j => xA (kf j)) sz st us mK pK lK H.size  h4l (by show xA (kf kp) = none; rw [hkf]; rfl)) (cwV 0 hts gL_law_X3_keep rfl rfl rfl (by decide +kernel) ⟨Nat.le_of_ble_eq_true rfl, Nat.le_of_ble_eq_true rfl⟩) ⟨fun a9 U g9 mk9 q9 => by obtain ⟨q0, q1, qP, qK, qD, qN29⟩ := q9; exact ⟨q0, q1, qP, va_K.moved (u := U) (U := U.calling g9 mk9 a9) (Vm.Alike.refl U.vm) qK, qD, va_Nw.same rfl rfl qN29⟩, va_recv hKc hPc (ci := 3) (q0 := 0) rfl rfl, fun U hU hW => ⟨rfl, by rw [hU], by rw [hU]; exact hPc, va_K.moved hW.alike hKc, hDc, va_Nw.warmM hW hN29⟩⟩ rfl rfl hl.1 rfl (lv_room (Nat.le_of_ble_eq_true rfl)) dL_law_673 ⟨by show 22 + 4 * jj + 4 ≤ 60000; omega, by show 78425 + 12550 * jj + 8326 ≤ 8922250; omega⟩) (fun r1 d H locs hw hP hD hS => ?_)
      try dsimp only at hw hP hD
      have hc := hw
      clear hw
      refine lv_pop hx hb dL_law_676 rfl ?_
      have hF : (kW cB cI (va_up kf kp (some (d, sz, st, us, va_cpy mK zf 0 0 8192, va_cpy pK zf 0 0 64, va_cpy lK zf 0 0 64)))).Perm (sw cB cI d sz st us (va_cpy mK zf 0 0 8192) (va_cpy pK zf 0 0 64) (va_cpy lK zf 0 0 64) ++ kW cB cI kf) := by have q := kW_up (cB := cB) (cI := cI) (kf := kf) h4l (some (d, sz, st, us, va_cpy mK zf 0 0 8192, va_cpy pK zf 0 0 64, va_cpy lK zf 0 0 64)); rw [up_id hkf] at q; exact q
      have eR : va_up (fun j => xA (kf j)) kp (some (d 0)) = (fun j => xA (va_up kf kp (some (d, sz, st, us, va_cpy mK zf 0 0 8192, va_cpy pK zf 0 0 64, va_cpy lK zf 0 0 64)) j)) := (xA_up kf kp (some (d, sz, st, us, va_cpy mK zf 0 0 8192, va_cpy pK zf 0 0 64, va_cpy lK zf 0 0 64))).symm
      rw [eR] at hP hD
      have hP := va_P_perm (pGRSD hF).symm hP
      have hD := va_D_perm (pGRSD hF).symm hD
      have hP : va_P (dC, dI) vwCl (gw h kq (xA sp) k o b (kp + 1) ga gl ++ kw cB k kL kb ++ ow cB o oz cs cK ++ sw cB cI b sz st us mK pK lK ++ (krw cS kq (fun j => xA (va_up kf kp (some (d, sz, st, us, va_cpy mK zf 0 0 8192, va_cpy pK zf 0 0 64, va_cpy lK zf 0 0 64)) j)) ++ (xW cB cI sp ++ kW cB cI (va_up kf kp (some (d, sz, st, us, va_cpy mK zf 0 0 8192, va_cpy pK zf 0 0 64, va_cpy lK zf 0 0 64))))) ++ mw cI a sz st us kp ga gl cs mem pl ln km ks kt ku kl kn cd wt) H := hP
      have hD : va_D A (gw h kq (xA sp) k o b (kp + 1) ga gl ++ kw cB k kL kb ++ ow cB o oz cs cK ++ sw cB cI b sz st us mK pK lK ++ (krw cS kq (fun j => xA (va_up kf kp (some (d, sz, st, us, va_cpy mK zf 0 0 8192, va_cpy pK zf 0 0 64, va_cpy lK zf 0 0 64)) j)) ++ (xW cB cI sp ++ kW cB cI (va_up kf kp (some (d, sz, st, us, va_cpy mK zf 0 0 8192, va_cpy pK zf 0 0 64, va_cpy lK zf 0 0 64))))) ++ mw cI a sz st us kp ga gl cs mem pl ln km ks kt ku kl kn cd wt) := hD
      refine lv_aload_n hx hb dL_law_677 rfl (lv_at hl 1 rfl) ?_
      have hKc := hK.sub (tys' := [(cI, .int)]) [0] rfl
      refine fr_calli (wc := mw cI a sz st us kp ga gl cs mem pl ln km ks kt ku kl kn cd wt) (wr := gw h kq (xA sp) k o b (kp + 1) ga gl ++ kw cB k kL kb ++ ow cB o oz cs cK ++ sw cB cI b sz st us mK pK lK ++ (krw cS kq (fun j => xA (va_up kf kp (some (d, sz, st, us, va_cpy mK zf 0 0 8192, va_cpy pK zf 0 0 64, va_cpy lK zf 0 0 64)) j)) ++ (xW cB cI sp ++ kW cB cI (va_up kf kp (some (d, sz, st, us, va_cpy mK zf 0 0 8192, va_cpy pK zf 0 0 64, va_cpy lK zf 0 0 64)))))) (w1 := fun _ => mw cI a sz st us (if kp = 4 then kp else kp + 1) ga gl cs mem pl ln (if kp = 4 then km else blkW km (8192 * kp) (upto sz mem) 8192) (if kp = 4 then ks else va_up ks kp sz) (if kp = 4 then kt else va_up kt kp st) (if kp = 4 then ku else va_up ku kp us) (if kp = 4 then kl else blkW kl (64 * kp) pl us) (if kp = 4 then kn else blkW kn (64 * kp) ln us) cd wt) (Z := fun _ t9 => va_K (dC, dI) vwCl [(cI, .int)] t9) (fun _ _ q9 => q9) (pM) hP hD hS hA (fun hPc hDc => va_runV (As := []) (rest := []) ⟨hx, hb, hml, hown, hts⟩ (c_X4_keep l dC dI cI a sz st us kp ga gl cs mem pl ln km ks kt ku kl kn cd wt H.size  c1.sz8 c4.1 c1.us64) (cwV 0 hts gL_law_X4_keep rfl rfl rfl (by decide +kernel) ⟨Nat.le_of_ble_eq_true rfl, Nat.le_of_ble_eq_true rfl⟩) ⟨fun a9 U g9 mk9 q9 => by obtain ⟨q0, q1, qP, qK, qD⟩ := q9; exact ⟨q0, q1, qP, va_K.moved (u := U) (U := U.calling g9 mk9 a9) (Vm.Alike.refl U.vm) qK, qD⟩, va_recv hKc hPc (ci := 4) (q0 := 0) rfl rfl, fun U hU hW => ⟨rfl, by rw [hU], by rw [hU]; exact hPc, va_K.moved hW.alike hKc, hDc⟩⟩ rfl rfl hl.1 rfl (lv_room (Nat.le_of_ble_eq_true rfl)) dL_law_678 ⟨by show 22 + 4 * jj + 4 + 0 ≤ 60000; omega, by show 78425 + 12550 * jj + 8326 + 0 ≤ 8922250; omega⟩) (fun r2 _ H locs hw hP hD hS => ?_)
      try dsimp only at hw hP hD
      have hm := hw
      clear hw
      refine lv_pop hx hb dL_law_681 rfl ?_
      have hP := va_P_perm pM hP
      have hD := va_D_perm pM hD
      have hP : va_P (dC, dI) vwCl (gw h kq (xA sp) k o b (kp + 1) ga gl ++ kw cB k kL kb ++ ow cB o oz cs cK ++ sw cB cI b sz st us mK pK lK ++ (krw cS kq (fun j => xA (va_up kf kp (some (d, sz, st, us, va_cpy mK zf 0 0 8192, va_cpy pK zf 0 0 64, va_cpy lK zf 0 0 64)) j)) ++ (xW cB cI sp ++ kW cB cI (va_up kf kp (some (d, sz, st, us, va_cpy mK zf 0 0 8192, va_cpy pK zf 0 0 64, va_cpy lK zf 0 0 64))))) ++ mw cI a sz st us (if kp = 4 then kp else kp + 1) ga gl cs mem pl ln (if kp = 4 then km else blkW km (8192 * kp) (upto sz mem) 8192) (if kp = 4 then ks else va_up ks kp sz) (if kp = 4 then kt else va_up kt kp st) (if kp = 4 then ku else va_up ku kp us) (if kp = 4 then kl else blkW kl (64 * kp) pl us) (if kp = 4 then kn else blkW kn (64 * kp) ln us) cd wt) H := hP
      have hD : va_D A (gw h kq (xA sp) k o b (kp + 1) ga gl ++ kw cB k kL kb ++ ow cB o oz cs cK ++ sw cB cI b sz st us mK pK lK ++ (krw cS kq (fun j => xA (va_up kf kp (some (d, sz, st, us, va_cpy mK zf 0 0 8192, va_cpy pK zf 0 0 64, va_cpy lK zf 0 0 64)) j)) ++ (xW cB cI sp ++ kW cB cI (va_up kf kp (some (d, sz, st, us, va_cpy mK zf 0 0 8192, va_cpy pK zf 0 0 64, va_cpy lK zf 0 0 64))))) ++ mw cI a sz st us (if kp = 4 then kp else kp + 1) ga gl cs mem pl ln (if kp = 4 then km else blkW km (8192 * kp) (upto sz mem) 8192) (if kp = 4 then ks else va_up ks kp sz) (if kp = 4 then kt else va_up kt kp st) (if kp = 4 then ku else va_up ku kp us) (if kp = 4 then kl else blkW kl (64 * kp) pl us) (if kp = 4 then kn else blkW kn (64 * kp) ln us) cd wt) := hD
      simp only [if_neg h4] at hP hD
      have hP : va_P (dC, dI) vwCl (gw h kq (xA sp) k o b (kp + 1) ga gl ++ kw cB k kL kb ++ ow cB o oz cs cK ++ sw cB cI b sz st us mK pK lK ++ (krw cS kq (fun j => xA (va_up kf kp (some (d, sz, st, us, va_cpy mK zf 0 0 8192, va_cpy pK zf 0 0 64, va_cpy lK zf 0 0 64)) j)) ++ (xW cB cI sp ++ kW cB cI (va_up kf kp (some (d, sz, st, us, va_cpy mK zf 0 0 8192, va_cpy pK zf 0 0 64, va_cpy lK zf 0 0 64))))) ++ mw cI a sz st us (kp + 1) ga gl cs mem pl ln (blkW km (8192 * kp) (upto sz mem) 8192) (va_up ks kp sz) (va_up kt kp st) (va_up ku kp us) (blkW kl (64 * kp) pl us) (blkW kn (64 * kp) ln us) cd wt) H := hP
      have hD : va_D A (gw h kq (xA sp) k o b (kp + 1) ga gl ++ kw cB k kL kb ++ ow cB o oz cs cK ++ sw cB cI b sz st us mK pK lK ++ (krw cS kq (fun j => xA (va_up kf kp (some (d, sz, st, us, va_cpy mK zf 0 0 8192, va_cpy pK zf 0 0 64, va_cpy lK zf 0 0 64)) j)) ++ (xW cB cI sp ++ kW cB cI (va_up kf kp (some (d, sz, st, us, va_cpy mK zf 0 0 8192, va_cpy pK zf 0 0 64, va_cpy lK zf 0 0 64))))) ++ mw cI a sz st us (kp + 1) ga gl cs mem pl ln (blkW km (8192 * kp) (upto sz mem) 8192) (va_up ks kp sz) (va_up kt kp st) (va_up ku kp us) (blkW kl (64 * kp) pl us) (blkW kn (64 * kp) ln us) cd wt) := hD
      have hz8 := c1.sz8
      have hu6 := c1.us64
      have hst := wfB_st c1.1
      have hb9 : SB zf zf zf := ⟨zf_lt 256 (by decide), zf_lt (2 ^ 31) (by decide), zf_lt (2 ^ 31) (by decide)⟩
      refine lv_goto (tgt := 852) hx hb dL_law_682 (by decide) ?_
      refine W.widen (k := 22 + 4 * (jj + 1)) (n := 78425 + 12550 * (jj + 1)) (by omega) (by omega) ?_
      exact tail _ H locs ls ⟨o, b, sz, st, us, kp + 1, ga, gl, kL, oz, cs, mK, pK, lK, kb, cK, mem, pl, ln, blkW km (8192 * kp) (upto sz mem) 8192, va_up ks kp sz, va_up kt kp st, va_up ku kp us, blkW kl (64 * kp) pl us, blkW kn (64 * kp) ln us, cd, wt, sp, (va_up kf kp (some (d, sz, st, us, va_cpy mK zf 0 0 8192, va_cpy pK zf 0 0 64, va_cpy lK zf 0 0 64))), rfl, ⟨c1, c2, c3, ⟨by omega, c4.2⟩, c5, c6, ⟨KR_keep c1.us64 c7.1 (c1.kept d kp km ks kt ku kl kn), c7.2.1, fun i => xB_up (n := kp) (y := (some (d, sz, st, us, va_cpy mK zf 0 0 8192, va_cpy pK zf 0 0 64, va_cpy lK zf 0 0 64))) c7.2.2 (show SB _ _ _ from ⟨cpy_lt c2.1 hb9.1, cpy_lt c2.2.1 hb9.2.1, cpy_lt c2.2.2 hb9.2.2⟩) i⟩, blkW_lt c8.1 (fun j => upto_lt c3.1 j), K5_up c8.2 (by omega) (by omega) (by omega) c3.2.1 c3.2.2⟩⟩ hP hD hS hl
    · have hF0 : (kW cB cI kf).Perm (sw cB cI d z s9 u9 m9 p9 l9 ++ kW cB cI (va_up kf kp none)) := by have q := kW_up (cB := cB) (cI := cI) (kf := kf) h4l (some (d, z, s9, u9, m9, p9, l9)); rw [up_id hkf] at q; exact q
      refine lv_aload_n hx hb dL_law_672 rfl (lv_at hl 2 rfl) ?_
      have hKc := hK.sub (tys' := [(cI, .int), (cB, .byte), (cS, .object "GlulxHeap$State")]) [0, 1, 2] rfl
      refine fr_calli (wc := gw h kq (xA sp) k o b kp ga gl ++ krw cS kq (fun j => xA (kf j)) ++ sw cB cI b sz st us mK pK lK ++ sw cB cI d z s9 u9 m9 p9 l9) (wr := kw cB k kL kb ++ ow cB o oz cs cK ++ xW cB cI sp ++ kW cB cI (va_up kf kp none) ++ mw cI a sz st us kp ga gl cs mem pl ln km ks kt ku kl kn cd wt) (w1 := fun _ => gw h kq (xA sp) k o b (kp + 1) ga gl ++ krw cS kq (fun j => xA (kf j)) ++ sw cB cI b sz st us mK pK lK ++ sw cB cI d sz st us (va_cpy mK m9 0 0 8192) (va_cpy pK p9 0 0 64) (va_cpy lK l9 0 0 64)) (Z := fun _ t9 => va_K (dC, dI) vwCl [(cI, .int), (cB, .byte), (cS, .object "GlulxHeap$State")] t9) (fun _ _ q9 => q9) (pGRSD hF0) hP hD hS hA (fun hPc hDc => va_runV (As := []) (rest := []) ⟨hx, hb, hml, hown, hts⟩ (c_X3_keepO l dC dI cB cI cS h kq (xA sp) k o b d kp ga gl (fun j => xA (kf j)) sz st us mK pK lK z s9 u9 m9 p9 l9 H.size  h4l (by show xA (kf kp) = some (d 0); rw [hkf]; rfl)) (cwV 0 hts gL_law_X3_keep rfl rfl rfl (by decide +kernel) ⟨Nat.le_of_ble_eq_true rfl, Nat.le_of_ble_eq_true rfl⟩) ⟨fun a9 U g9 mk9 q9 => by obtain ⟨q0, q1, qP, qK, qD⟩ := q9; exact ⟨q0, q1, qP, va_K.moved (u := U) (U := U.calling g9 mk9 a9) (Vm.Alike.refl U.vm) qK, qD⟩, va_recv hKc hPc (ci := 3) (q0 := 0) rfl rfl, fun U hU hW => ⟨rfl, by rw [hU], by rw [hU]; exact hPc, va_K.moved hW.alike hKc, hDc⟩⟩ rfl rfl hl.1 rfl (lv_room (Nat.le_of_ble_eq_true rfl)) dL_law_673 ⟨by show 22 + 4 * jj + 0 ≤ 60000; omega, by show 78425 + 12550 * jj + 0 ≤ 8922250; omega⟩) (fun r1 _ H locs hw hP hD hS => ?_)
      try dsimp only at hw hP hD
      have hc := hw
      clear hw
      refine lv_pop hx hb dL_law_676 rfl ?_
      have hF : (kW cB cI (va_up kf kp (some (d, sz, st, us, va_cpy mK m9 0 0 8192, va_cpy pK p9 0 0 64, va_cpy lK l9 0 0 64)))).Perm (sw cB cI d sz st us (va_cpy mK m9 0 0 8192) (va_cpy pK p9 0 0 64) (va_cpy lK l9 0 0 64) ++ kW cB cI (va_up kf kp none)) := kW_up h4l (some (d, sz, st, us, va_cpy mK m9 0 0 8192, va_cpy pK p9 0 0 64, va_cpy lK l9 0 0 64))
      have eR : (fun j => xA (kf j)) = (fun j => xA (va_up kf kp (some (d, sz, st, us, va_cpy mK m9 0 0 8192, va_cpy pK p9 0 0 64, va_cpy lK l9 0 0 64)) j)) := by rw [xA_up]; exact (upA_id (by rw [hkf]; rfl)).symm
      rw [eR] at hP hD
      have hP := va_P_perm (pGRSD hF).symm hP
      have hD := va_D_perm (pGRSD hF).symm hD
      have hP : va_P (dC, dI) vwCl (gw h kq (xA sp) k o b (kp + 1) ga gl ++ kw cB k kL kb ++ ow cB o oz cs cK ++ sw cB cI b sz st us mK pK lK ++ (krw cS kq (fun j => xA (va_up kf kp (some (d, sz, st, us, va_cpy mK m9 0 0 8192, va_cpy pK p9 0 0 64, va_cpy lK l9 0 0 64)) j)) ++ (xW cB cI sp ++ kW cB cI (va_up kf kp (some (d, sz, st, us, va_cpy mK m9 0 0 8192, va_cpy pK p9 0 0 64, va_cpy lK l9 0 0 64))))) ++ mw cI a sz st us kp ga gl cs mem pl ln km ks kt ku kl kn cd wt) H := hP
      have hD : va_D A (gw h kq (xA sp) k o b (kp + 1) ga gl ++ kw cB k kL kb ++ ow cB o oz cs cK ++ sw cB cI b sz st us mK pK lK ++ (krw cS kq (fun j => xA (va_up kf kp (some (d, sz, st, us, va_cpy mK m9 0 0 8192, va_cpy pK p9 0 0 64, va_cpy lK l9 0 0 64)) j)) ++ (xW cB cI sp ++ kW cB cI (va_up kf kp (some (d, sz, st, us, va_cpy mK m9 0 0 8192, va_cpy pK p9 0 0 64, va_cpy lK l9 0 0 64))))) ++ mw cI a sz st us kp ga gl cs mem pl ln km ks kt ku kl kn cd wt) := hD
      refine lv_aload_n hx hb dL_law_677 rfl (lv_at hl 1 rfl) ?_
      have hKc := hK.sub (tys' := [(cI, .int)]) [0] rfl
      refine fr_calli (wc := mw cI a sz st us kp ga gl cs mem pl ln km ks kt ku kl kn cd wt) (wr := gw h kq (xA sp) k o b (kp + 1) ga gl ++ kw cB k kL kb ++ ow cB o oz cs cK ++ sw cB cI b sz st us mK pK lK ++ (krw cS kq (fun j => xA (va_up kf kp (some (d, sz, st, us, va_cpy mK m9 0 0 8192, va_cpy pK p9 0 0 64, va_cpy lK l9 0 0 64)) j)) ++ (xW cB cI sp ++ kW cB cI (va_up kf kp (some (d, sz, st, us, va_cpy mK m9 0 0 8192, va_cpy pK p9 0 0 64, va_cpy lK l9 0 0 64)))))) (w1 := fun _ => mw cI a sz st us (if kp = 4 then kp else kp + 1) ga gl cs mem pl ln (if kp = 4 then km else blkW km (8192 * kp) (upto sz mem) 8192) (if kp = 4 then ks else va_up ks kp sz) (if kp = 4 then kt else va_up kt kp st) (if kp = 4 then ku else va_up ku kp us) (if kp = 4 then kl else blkW kl (64 * kp) pl us) (if kp = 4 then kn else blkW kn (64 * kp) ln us) cd wt) (Z := fun _ t9 => va_K (dC, dI) vwCl [(cI, .int)] t9) (fun _ _ q9 => q9) (pM) hP hD hS hA (fun hPc hDc => va_runV (As := []) (rest := []) ⟨hx, hb, hml, hown, hts⟩ (c_X4_keep l dC dI cI a sz st us kp ga gl cs mem pl ln km ks kt ku kl kn cd wt H.size  c1.sz8 c4.1 c1.us64) (cwV 0 hts gL_law_X4_keep rfl rfl rfl (by decide +kernel) ⟨Nat.le_of_ble_eq_true rfl, Nat.le_of_ble_eq_true rfl⟩) ⟨fun a9 U g9 mk9 q9 => by obtain ⟨q0, q1, qP, qK, qD⟩ := q9; exact ⟨q0, q1, qP, va_K.moved (u := U) (U := U.calling g9 mk9 a9) (Vm.Alike.refl U.vm) qK, qD⟩, va_recv hKc hPc (ci := 4) (q0 := 0) rfl rfl, fun U hU hW => ⟨rfl, by rw [hU], by rw [hU]; exact hPc, va_K.moved hW.alike hKc, hDc⟩⟩ rfl rfl hl.1 rfl (lv_room (Nat.le_of_ble_eq_true rfl)) dL_law_678 ⟨by show 22 + 4 * jj + 0 + 0 ≤ 60000; omega, by show 78425 + 12550 * jj + 0 + 0 ≤ 8922250; omega⟩) (fun r2 _ H locs hw hP hD hS => ?_)
      try dsimp only at hw hP hD
      have hm := hw
      clear hw
      refine lv_pop hx hb dL_law_681 rfl ?_
      have hP := va_P_perm pM hP
      have hD := va_D_perm pM hD
      have hP : va_P (dC, dI) vwCl (gw h kq (xA sp) k o b (kp + 1) ga gl ++ kw cB k kL kb ++ ow cB o oz cs cK ++ sw cB cI b sz st us mK pK lK ++ (krw cS kq (fun j => xA (va_up kf kp (some (d, sz, st, us, va_cpy mK m9 0 0 8192, va_cpy pK p9 0 0 64, va_cpy lK l9 0 0 64)) j)) ++ (xW cB cI sp ++ kW cB cI (va_up kf kp (some (d, sz, st, us, va_cpy mK m9 0 0 8192, va_cpy pK p9 0 0 64, va_cpy lK l9 0 0 64))))) ++ mw cI a sz st us (if kp = 4 then kp else kp + 1) ga gl cs mem pl ln (if kp = 4 then km else blkW km (8192 * kp) (upto sz mem) 8192) (if kp = 4 then ks else va_up ks kp sz) (if kp = 4 then kt else va_up kt kp st) (if kp = 4 then ku else va_up ku kp us) (if kp = 4 then kl else blkW kl (64 * kp) pl us) (if kp = 4 then kn else blkW kn (64 * kp) ln us) cd wt) H := hP
      have hD : va_D A (gw h kq (xA sp) k o b (kp + 1) ga gl ++ kw cB k kL kb ++ ow cB o oz cs cK ++ sw cB cI b sz st us mK pK lK ++ (krw cS kq (fun j => xA (va_up kf kp (some (d, sz, st, us, va_cpy mK m9 0 0 8192, va_cpy pK p9 0 0 64, va_cpy lK l9 0 0 64)) j)) ++ (xW cB cI sp ++ kW cB cI (va_up kf kp (some (d, sz, st, us, va_cpy mK m9 0 0 8192, va_cpy pK p9 0 0 64, va_cpy lK l9 0 0 64))))) ++ mw cI a sz st us (if kp = 4 then kp else kp + 1) ga gl cs mem pl ln (if kp = 4 then km else blkW km (8192 * kp) (upto sz mem) 8192) (if kp = 4 then ks else va_up ks kp sz) (if kp = 4 then kt else va_up kt kp st) (if kp = 4 then ku else va_up ku kp us) (if kp = 4 then kl else blkW kl (64 * kp) pl us) (if kp = 4 then kn else blkW kn (64 * kp) ln us) cd wt) := hD
      simp only [if_neg h4] at hP hD
      have hP : va_P (dC, dI) vwCl (gw h kq (xA sp) k o b (kp + 1) ga gl ++ kw cB k kL kb ++ ow cB o oz cs cK ++ sw cB cI b sz st us mK pK lK ++ (krw cS kq (fun j => xA (va_up kf kp (some (d, sz, st, us, va_cpy mK m9 0 0 8192, va_cpy pK p9 0 0 64, va_cpy lK l9 0 0 64)) j)) ++ (xW cB cI sp ++ kW cB cI (va_up kf kp (some (d, sz, st, us, va_cpy mK m9 0 0 8192, va_cpy pK p9 0 0 64, va_cpy lK l9 0 0 64))))) ++ mw cI a sz st us (kp + 1) ga gl cs mem pl ln (blkW km (8192 * kp) (upto sz mem) 8192) (va_up ks kp sz) (va_up kt kp st) (va_up ku kp us) (blkW kl (64 * kp) pl us) (blkW kn (64 * kp) ln us) cd wt) H := hP
      have hD : va_D A (gw h kq (xA sp) k o b (kp + 1) ga gl ++ kw cB k kL kb ++ ow cB o oz cs cK ++ sw cB cI b sz st us mK pK lK ++ (krw cS kq (fun j => xA (va_up kf kp (some (d, sz, st, us, va_cpy mK m9 0 0 8192, va_cpy pK p9 0 0 64, va_cpy lK l9 0 0 64)) j)) ++ (xW cB cI sp ++ kW cB cI (va_up kf kp (some (d, sz, st, us, va_cpy mK m9 0 0 8192, va_cpy pK p9 0 0 64, va_cpy lK l9 0 0 64))))) ++ mw cI a sz st us (kp + 1) ga gl cs mem pl ln (blkW km (8192 * kp) (upto sz mem) 8192) (va_up ks kp sz) (va_up kt kp st) (va_up ku kp us) (blkW kl (64 * kp) pl us) (blkW kn (64 * kp) ln us) cd wt) := hD
      have hz8 := c1.sz8
      have hu6 := c1.us64
      have hst := wfB_st c1.1
      have hb9 : SB m9 p9 l9 := (by have q := c7.2.2 kp; rw [hkf] at q; exact q)
      refine lv_goto (tgt := 852) hx hb dL_law_682 (by decide) ?_
      refine W.widen (k := 22 + 4 * (jj + 1)) (n := 78425 + 12550 * (jj + 1)) (by omega) (by omega) ?_
      exact tail _ H locs ls ⟨o, b, sz, st, us, kp + 1, ga, gl, kL, oz, cs, mK, pK, lK, kb, cK, mem, pl, ln, blkW km (8192 * kp) (upto sz mem) 8192, va_up ks kp sz, va_up kt kp st, va_up ku kp us, blkW kl (64 * kp) pl us, blkW kn (64 * kp) ln us, cd, wt, sp, (va_up kf kp (some (d, sz, st, us, va_cpy mK m9 0 0 8192, va_cpy pK p9 0 0 64, va_cpy lK l9 0 0 64))), rfl, ⟨c1, c2, c3, ⟨by omega, c4.2⟩, c5, c6, ⟨KR_keep c1.us64 c7.1 (c1.kept d kp km ks kt ku kl kn), c7.2.1, fun i => xB_up (n := kp) (y := (some (d, sz, st, us, va_cpy mK m9 0 0 8192, va_cpy pK p9 0 0 64, va_cpy lK l9 0 0 64))) c7.2.2 (show SB _ _ _ from ⟨cpy_lt c2.1 hb9.1, cpy_lt c2.2.1 hb9.2.1, cpy_lt c2.2.2 hb9.2.2⟩) i⟩, blkW_lt c8.1 (fun j => upto_lt c3.1 j), K5_up c8.2 (by omega) (by omega) (by omega) c3.2.1 c3.2.2⟩⟩ hP hD hS hl
set_option maxHeartbeats 4000000 in
set_option maxRecDepth 100000 in
theorem lc_back {p : Program} {e : Env} {s : State} {m : MethodId} {below : List Frame} {meth : Method} {c : Code} (l : Launch) {q0 L : Nat} {xs : Nat → Int32} (hL : L ≤ 4096) (C0 : lw_At p s m meth c q0 L xs) (dC : Nat → ClassId) (dI : Nat → Nat → Nat) (cB cI cS : ClassId) (h kq : Nat) (k a : Nat → Nat) (A : Nat → Prop) (hA : ∀ q : Nat, s.heap.size ≤ q → A q) (hbA : ¬ A q0) (hK : va_K (dC, dI) vwCl [(cI, .int), (cB, .byte), (cS, .object "GlulxHeap$State")] s) {i jj : Nat} (hi : i = 8 * jj) (hiL : i + 8 ≤ L) {ws : va_W} {H : Heap} {locs : List Loc} {ls : Array Slot} (hJ : J cB cI cS h kq k a ws) (hP : va_P (dC, dI) vwCl ws H) (hD : va_D A ws) (hS : va_S A s.heap H locs) (hl : lv_has ls 4 [(3, .int (nI i)), (2, .ref (a 0)), (1, .ref h), (0, .ref q0)]) (tail : ∀ (ws : va_W) (H : Heap) (locs : List Loc) (ls : Array Slot), J cB cI cS h kq k a ws → va_P (dC, dI) vwCl ws H → va_D A ws → va_S A s.heap H locs → lv_has ls 4 [(3, .int (nI i)), (2, .ref (a 0)), (1, .ref h), (0, .ref q0)] → W p l e room_1 s m #[Value.ref q0] below meth c H locs (22 + 4 * (jj + 1)) (78425 + 12550 * (jj + 1)) (lw_Z below #[Value.ref q0] s) (F0 m 852 ls [])) : W p l e room_1 s m #[Value.ref q0] below meth c H locs (22 + 4 * jj) (78425 + 12550 * jj) (lw_Z below #[Value.ref q0] s) (F0 m 685 ls []) := by
  obtain ⟨hx, hb, hr, hml, hown, hts0, hX, hbl, hlocks, hgv⟩ := id C0
  have hts : ∀ w ∈ wsL_law, w.before #[Value.ref q0] s = true := fun w h => hts0 w (wsL_law_in w h)
  obtain ⟨o, b, sz, st, us, kp, ga, gl, kL, oz, cs, mK, pK, lK, kb, cK, mem, pl, ln, km, ks, kt, ku, kl, kn, cd, wt, sp, kf, rfl, c1, c2, c3, c4, c5, c6, c7, c8⟩ := hJ
  have hcs : cs ≤ 12550 ∧ oz ≤ 12550 := by have := c6.2.1; rcases c6.1 with q | q <;> omega
  have hst9 := wfB_st c1.1
  have hgks : ∀ i, i < kp → ks i ≤ 8192 ∧ ku i ≤ 64 := fun i hi => xR_le (c7.1 i hi)
  by_cases h0 : kp = 0
  · refine lv_aload_n hx hb dL_law_685 rfl (lv_at hl 2 rfl) ?_
    have hKc := hK.sub (tys' := [(cI, .int), (cB, .byte), (cS, .object "GlulxHeap$State")]) [0, 1, 2] rfl
    have hPc : va_P (dC, dI) vwCl (gw h kq (xA sp) k o b kp ga gl ++ krw cS kq (fun j => xA (kf j))) H := va_P_left (va_P_perm (pGRS.trans (.of_eq (List.append_assoc _ _ _))) hP)
    refine vp_callSi (W.runV (As := []) (rest := []) ⟨hx, hb, hml, hown, hts⟩ (c_X3_back0 l dC dI cB cI cS h kq (xA sp) k o b kp ga gl (fun j => xA (kf j))  h0) (cwV 0 hts gL_law_X3_back rfl rfl rfl (by decide +kernel) ⟨Nat.le_of_ble_eq_true rfl, Nat.le_of_ble_eq_true rfl⟩) ⟨fun a9 U g9 mk9 q9 => by obtain ⟨q0, qP, qK⟩ := q9; exact ⟨q0, qP, va_K.moved (u := U) (U := U.calling g9 mk9 a9) (Vm.Alike.refl U.vm) qK⟩, va_recv hKc hPc (ci := 3) (q0 := 0) rfl rfl, fun U hU hW => ⟨rfl, by rw [hU]; exact hPc, va_K.moved hW.alike hKc⟩⟩ rfl rfl hl.1 rfl (lv_room (Nat.le_of_ble_eq_true rfl)) dL_law_686 ⟨by show 22 + 4 * jj + 0 ≤ 60000; omega, by show 78425 + 12550 * jj + 0 ≤ 8922250; omega⟩) (fun r1 hw => ?_)
    have hc := hw
    clear hw
    refine lv_pop hx hb dL_law_689 rfl ?_
    refine lv_aload_n hx hb dL_law_690 rfl (lv_at hl 1 rfl) ?_
    have hKc := hK.sub (tys' := [(cI, .int)]) [0] rfl
    refine fr_calli (wc := mw cI a sz st us kp ga gl cs mem pl ln km ks kt ku kl kn cd wt) (wr := gw h kq (xA sp) k o b kp ga gl ++ kw cB k kL kb ++ ow cB o oz cs cK ++ sw cB cI b sz st us mK pK lK ++ (krw cS kq (fun j => xA (kf j)) ++ (xW cB cI sp ++ kW cB cI kf))) (w1 := fun _ => mw cI a (if kp = 0 then sz else ks (kp - 1)) (if kp = 0 then st else kt (kp - 1)) (if kp = 0 then us else ku (kp - 1)) (if kp = 0 then kp else kp - 1) ga gl cs (if kp = 0 then mem else cmW mem km (8192 * (kp - 1)) ga gl (bth sz (ks (kp - 1))) 8192) (if kp = 0 then pl else outW pl kl (64 * (kp - 1)) (ku (kp - 1))) (if kp = 0 then ln else outW ln kn (64 * (kp - 1)) (ku (kp - 1))) km ks kt ku kl kn cd wt) (Z := fun _ t9 => va_K (dC, dI) vwCl [(cI, .int)] t9) (fun _ _ q9 => q9) (pM) hP hD hS hA (fun hPc hDc => va_runV (As := []) (rest := []) ⟨hx, hb, hml, hown, hts⟩ (c_X4_back l dC dI cI a sz st us kp ga gl cs mem pl ln km ks kt ku kl kn cd wt H.size  c1.sz8 c4.1 c4.2.1 c4.2.2 hgks) (cwV 0 hts gL_law_X4_back rfl rfl rfl (by decide +kernel) ⟨Nat.le_of_ble_eq_true rfl, Nat.le_of_ble_eq_true rfl⟩) ⟨fun a9 U g9 mk9 q9 => by obtain ⟨q0, q1, qP, qK, qD⟩ := q9; exact ⟨q0, q1, qP, va_K.moved (u := U) (U := U.calling g9 mk9 a9) (Vm.Alike.refl U.vm) qK, qD⟩, va_recv hKc hPc (ci := 4) (q0 := 0) rfl rfl, fun U hU hW => ⟨rfl, by rw [hU], by rw [hU]; exact hPc, va_K.moved hW.alike hKc, hDc⟩⟩ rfl rfl hl.1 rfl (lv_room (Nat.le_of_ble_eq_true rfl)) dL_law_691 ⟨by show 22 + 4 * jj + 0 ≤ 60000; omega, by show 78425 + 12550 * jj + 0 ≤ 8922250; omega⟩) (fun r2 _ H locs hw hP hD hS => ?_)
    try dsimp only at hw hP hD
    have hm := hw
    clear hw
    refine lv_pop hx hb dL_law_694 rfl ?_
    have hP := va_P_perm pM hP
    have hD := va_D_perm pM hD
    have hP : va_P (dC, dI) vwCl (gw h kq (xA sp) k o b kp ga gl ++ kw cB k kL kb ++ ow cB o oz cs cK ++ sw cB cI b sz st us mK pK lK ++ (krw cS kq (fun j => xA (kf j)) ++ (xW cB cI sp ++ kW cB cI kf)) ++ mw cI a (if kp = 0 then sz else ks (kp - 1)) (if kp = 0 then st else kt (kp - 1)) (if kp = 0 then us else ku (kp - 1)) (if kp = 0 then kp else kp - 1) ga gl cs (if kp = 0 then mem else cmW mem km (8192 * (kp - 1)) ga gl (bth sz (ks (kp - 1))) 8192) (if kp = 0 then pl else outW pl kl (64 * (kp - 1)) (ku (kp - 1))) (if kp = 0 then ln else outW ln kn (64 * (kp - 1)) (ku (kp - 1))) km ks kt ku kl kn cd wt) H := hP
    have hD : va_D A (gw h kq (xA sp) k o b kp ga gl ++ kw cB k kL kb ++ ow cB o oz cs cK ++ sw cB cI b sz st us mK pK lK ++ (krw cS kq (fun j => xA (kf j)) ++ (xW cB cI sp ++ kW cB cI kf)) ++ mw cI a (if kp = 0 then sz else ks (kp - 1)) (if kp = 0 then st else kt (kp - 1)) (if kp = 0 then us else ku (kp - 1)) (if kp = 0 then kp else kp - 1) ga gl cs (if kp = 0 then mem else cmW mem km (8192 * (kp - 1)) ga gl (bth sz (ks (kp - 1))) 8192) (if kp = 0 then pl else outW pl kl (64 * (kp - 1)) (ku (kp - 1))) (if kp = 0 then ln else outW ln kn (64 * (kp - 1)) (ku (kp - 1))) km ks kt ku kl kn cd wt) := hD
    simp only [if_pos h0] at hP hD
    have hP : va_P (dC, dI) vwCl (gw h kq (xA sp) k o b kp ga gl ++ kw cB k kL kb ++ ow cB o oz cs cK ++ sw cB cI b sz st us mK pK lK ++ (krw cS kq (fun j => xA (kf j)) ++ (xW cB cI sp ++ kW cB cI kf)) ++ mw cI a sz st us kp ga gl cs mem pl ln km ks kt ku kl kn cd wt) H := hP
    have hD : va_D A (gw h kq (xA sp) k o b kp ga gl ++ kw cB k kL kb ++ ow cB o oz cs cK ++ sw cB cI b sz st us mK pK lK ++ (krw cS kq (fun j => xA (kf j)) ++ (xW cB cI sp ++ kW cB cI kf)) ++ mw cI a sz st us kp ga gl cs mem pl ln km ks kt ku kl kn cd wt) := hD
    refine lv_goto (tgt := 852) hx hb dL_law_695 (by decide) ?_
    refine W.widen (k := 22 + 4 * (jj + 1)) (n := 78425 + 12550 * (jj + 1)) (by omega) (by omega) ?_
    exact tail _ H locs ls ⟨o, b, sz, st, us, kp, ga, gl, kL, oz, cs, mK, pK, lK, kb, cK, mem, pl, ln, km, ks, kt, ku, kl, kn, cd, wt, sp, kf, rfl, ⟨c1, c2, c3, c4, c5, c6, c7, c8⟩⟩ hP hD hS hl
  · have h0l : kp - 1 < 4 := by have := c4.1; omega
    have hx7 := c7.1 (kp - 1) (by omega)
    rcases hkf : kf (kp - 1) with _ | ⟨d, z, s9, u9, m9, p9, l9⟩
    · rw [hkf] at hx7; exact hx7.elim
    · rw [hkf] at hx7
      obtain ⟨⟨e1, e2, e3⟩, hx8⟩ := hx7
      have hF0 : (kW cB cI kf).Perm (sw cB cI d z s9 u9 m9 p9 l9 ++ kW cB cI (va_up kf (kp - 1) none)) := by have q := kW_up (cB := cB) (cI := cI) (kf := kf) h0l (some (d, z, s9, u9, m9, p9, l9)); rw [up_id hkf] at q; exact q
      refine lv_aload_n hx hb dL_law_685 rfl (lv_at hl 2 rfl) ?_
      have hKc := hK.sub (tys' := [(cI, .int), (cB, .byte), (cS, .object "GlulxHeap$State")]) [0, 1, 2] rfl
      refine fr_calli (wc := gw h kq (xA sp) k o b kp ga gl ++ krw cS kq (fun j => xA (kf j)) ++ sw cB cI b sz st us mK pK lK ++ sw cB cI d z s9 u9 m9 p9 l9) (wr := kw cB k kL kb ++ ow cB o oz cs cK ++ xW cB cI sp ++ kW cB cI (va_up kf (kp - 1) none) ++ mw cI a sz st us kp ga gl cs mem pl ln km ks kt ku kl kn cd wt) (w1 := fun _ => gw h kq (xA sp) k o d (kp - 1) ga gl ++ krw cS kq (va_up (fun j => xA (kf j)) (kp - 1) (some (b 0))) ++ sw cB cI b sz st us mK pK lK ++ sw cB cI d z s9 u9 (cbM mK m9 ga gl (bth2 sz z)) p9 l9) (Z := fun _ t9 => va_K (dC, dI) vwCl [(cI, .int), (cB, .byte), (cS, .object "GlulxHeap$State")] t9) (fun _ _ q9 => q9) (pGRSD hF0) hP hD hS hA (fun hPc hDc => va_runV (As := []) (rest := []) ⟨hx, hb, hml, hown, hts⟩ (c_X3_back1 l dC dI cB cI cS h kq (xA sp) k o b d kp ga gl (fun j => xA (kf j)) sz st us mK pK lK z s9 u9 m9 p9 l9 H.size  c4.1 (by omega) (by show xA (kf (kp - 1)) = some (d 0); rw [hkf]; rfl) c1.sz8 c4.2.1 c4.2.2 hx8.sz8) (cwV 0 hts gL_law_X3_back rfl rfl rfl (by decide +kernel) ⟨Nat.le_of_ble_eq_true rfl, Nat.le_of_ble_eq_true rfl⟩) ⟨fun a9 U g9 mk9 q9 => by obtain ⟨q0, q1, qP, qK, qD⟩ := q9; exact ⟨q0, q1, qP, va_K.moved (u := U) (U := U.calling g9 mk9 a9) (Vm.Alike.refl U.vm) qK, qD⟩, va_recv hKc hPc (ci := 3) (q0 := 0) rfl rfl, fun U hU hW => ⟨rfl, by rw [hU], by rw [hU]; exact hPc, va_K.moved hW.alike hKc, hDc⟩⟩ rfl rfl hl.1 rfl (lv_room (Nat.le_of_ble_eq_true rfl)) dL_law_686 ⟨by show 22 + 4 * jj + 0 ≤ 60000; omega, by show 78425 + 12550 * jj + 0 ≤ 8922250; omega⟩) (fun r1 _ H locs hw hP hD hS => ?_)
      try dsimp only at hw hP hD
      have hc := hw
      clear hw
      refine lv_pop hx hb dL_law_689 rfl ?_
      have hF : (kW cB cI (va_up kf (kp - 1) (some (b, sz, st, us, mK, pK, lK)))).Perm (sw cB cI b sz st us mK pK lK ++ kW cB cI (va_up kf (kp - 1) none)) := kW_up h0l (some (b, sz, st, us, mK, pK, lK))
      have eR : va_up (fun j => xA (kf j)) (kp - 1) (some (b 0)) = (fun j => xA (va_up kf (kp - 1) (some (b, sz, st, us, mK, pK, lK)) j)) := (xA_up kf (kp - 1) (some (b, sz, st, us, mK, pK, lK))).symm
      rw [eR] at hP hD
      have hP := va_P_perm (pGRDS hF).symm hP
      have hD := va_D_perm (pGRDS hF).symm hD
      have hP : va_P (dC, dI) vwCl (gw h kq (xA sp) k o d (kp - 1) ga gl ++ kw cB k kL kb ++ ow cB o oz cs cK ++ sw cB cI d z s9 u9 (cbM mK m9 ga gl (bth2 sz z)) p9 l9 ++ (krw cS kq (fun j => xA (va_up kf (kp - 1) (some (b, sz, st, us, mK, pK, lK)) j)) ++ (xW cB cI sp ++ kW cB cI (va_up kf (kp - 1) (some (b, sz, st, us, mK, pK, lK))))) ++ mw cI a sz st us kp ga gl cs mem pl ln km ks kt ku kl kn cd wt) H := hP
      have hD : va_D A (gw h kq (xA sp) k o d (kp - 1) ga gl ++ kw cB k kL kb ++ ow cB o oz cs cK ++ sw cB cI d z s9 u9 (cbM mK m9 ga gl (bth2 sz z)) p9 l9 ++ (krw cS kq (fun j => xA (va_up kf (kp - 1) (some (b, sz, st, us, mK, pK, lK)) j)) ++ (xW cB cI sp ++ kW cB cI (va_up kf (kp - 1) (some (b, sz, st, us, mK, pK, lK))))) ++ mw cI a sz st us kp ga gl cs mem pl ln km ks kt ku kl kn cd wt) := hD
      refine lv_aload_n hx hb dL_law_690 rfl (lv_at hl 1 rfl) ?_
      have hKc := hK.sub (tys' := [(cI, .int)]) [0] rfl
      refine fr_calli (wc := mw cI a sz st us kp ga gl cs mem pl ln km ks kt ku kl kn cd wt) (wr := gw h kq (xA sp) k o d (kp - 1) ga gl ++ kw cB k kL kb ++ ow cB o oz cs cK ++ sw cB cI d z s9 u9 (cbM mK m9 ga gl (bth2 sz z)) p9 l9 ++ (krw cS kq (fun j => xA (va_up kf (kp - 1) (some (b, sz, st, us, mK, pK, lK)) j)) ++ (xW cB cI sp ++ kW cB cI (va_up kf (kp - 1) (some (b, sz, st, us, mK, pK, lK)))))) (w1 := fun _ => mw cI a (if kp = 0 then sz else ks (kp - 1)) (if kp = 0 then st else kt (kp - 1)) (if kp = 0 then us else ku (kp - 1)) (if kp = 0 then kp else kp - 1) ga gl cs (if kp = 0 then mem else cmW mem km (8192 * (kp - 1)) ga gl (bth sz (ks (kp - 1))) 8192) (if kp = 0 then pl else outW pl kl (64 * (kp - 1)) (ku (kp - 1))) (if kp = 0 then ln else outW ln kn (64 * (kp - 1)) (ku (kp - 1))) km ks kt ku kl kn cd wt) (Z := fun _ t9 => va_K (dC, dI) vwCl [(cI, .int)] t9) (fun _ _ q9 => q9) (pM) hP hD hS hA (fun hPc hDc => va_runV (As := []) (rest := []) ⟨hx, hb, hml, hown, hts⟩ (c_X4_back l dC dI cI a sz st us kp ga gl cs mem pl ln km ks kt ku kl kn cd wt H.size  c1.sz8 c4.1 c4.2.1 c4.2.2 hgks) (cwV 0 hts gL_law_X4_back rfl rfl rfl (by decide +kernel) ⟨Nat.le_of_ble_eq_true rfl, Nat.le_of_ble_eq_true rfl⟩) ⟨fun a9 U g9 mk9 q9 => by obtain ⟨q0, q1, qP, qK, qD⟩ := q9; exact ⟨q0, q1, qP, va_K.moved (u := U) (U := U.calling g9 mk9 a9) (Vm.Alike.refl U.vm) qK, qD⟩, va_recv hKc hPc (ci := 4) (q0 := 0) rfl rfl, fun U hU hW => ⟨rfl, by rw [hU], by rw [hU]; exact hPc, va_K.moved hW.alike hKc, hDc⟩⟩ rfl rfl hl.1 rfl (lv_room (Nat.le_of_ble_eq_true rfl)) dL_law_691 ⟨by show 22 + 4 * jj + 0 + 0 ≤ 60000; omega, by show 78425 + 12550 * jj + 0 + 0 ≤ 8922250; omega⟩) (fun r2 _ H locs hw hP hD hS => ?_)
      try dsimp only at hw hP hD
      have hm := hw
      clear hw
      refine lv_pop hx hb dL_law_694 rfl ?_
      have hP := va_P_perm pM hP
      have hD := va_D_perm pM hD
      have hP : va_P (dC, dI) vwCl (gw h kq (xA sp) k o d (kp - 1) ga gl ++ kw cB k kL kb ++ ow cB o oz cs cK ++ sw cB cI d z s9 u9 (cbM mK m9 ga gl (bth2 sz z)) p9 l9 ++ (krw cS kq (fun j => xA (va_up kf (kp - 1) (some (b, sz, st, us, mK, pK, lK)) j)) ++ (xW cB cI sp ++ kW cB cI (va_up kf (kp - 1) (some (b, sz, st, us, mK, pK, lK))))) ++ mw cI a (if kp = 0 then sz else ks (kp - 1)) (if kp = 0 then st else kt (kp - 1)) (if kp = 0 then us else ku (kp - 1)) (if kp = 0 then kp else kp - 1) ga gl cs (if kp = 0 then mem else cmW mem km (8192 * (kp - 1)) ga gl (bth sz (ks (kp - 1))) 8192) (if kp = 0 then pl else outW pl kl (64 * (kp - 1)) (ku (kp - 1))) (if kp = 0 then ln else outW ln kn (64 * (kp - 1)) (ku (kp - 1))) km ks kt ku kl kn cd wt) H := hP
      have hD : va_D A (gw h kq (xA sp) k o d (kp - 1) ga gl ++ kw cB k kL kb ++ ow cB o oz cs cK ++ sw cB cI d z s9 u9 (cbM mK m9 ga gl (bth2 sz z)) p9 l9 ++ (krw cS kq (fun j => xA (va_up kf (kp - 1) (some (b, sz, st, us, mK, pK, lK)) j)) ++ (xW cB cI sp ++ kW cB cI (va_up kf (kp - 1) (some (b, sz, st, us, mK, pK, lK))))) ++ mw cI a (if kp = 0 then sz else ks (kp - 1)) (if kp = 0 then st else kt (kp - 1)) (if kp = 0 then us else ku (kp - 1)) (if kp = 0 then kp else kp - 1) ga gl cs (if kp = 0 then mem else cmW mem km (8192 * (kp - 1)) ga gl (bth sz (ks (kp - 1))) 8192) (if kp = 0 then pl else outW pl kl (64 * (kp - 1)) (ku (kp - 1))) (if kp = 0 then ln else outW ln kn (64 * (kp - 1)) (ku (kp - 1))) km ks kt ku kl kn cd wt) := hD
      simp only [if_neg h0] at hP hD
      rw [← e1, ← e2, ← e3] at hP hD
      have hP : va_P (dC, dI) vwCl (gw h kq (xA sp) k o d (kp - 1) ga gl ++ kw cB k kL kb ++ ow cB o oz cs cK ++ sw cB cI d z s9 u9 (cbM mK m9 ga gl (bth2 sz z)) p9 l9 ++ (krw cS kq (fun j => xA (va_up kf (kp - 1) (some (b, sz, st, us, mK, pK, lK)) j)) ++ (xW cB cI sp ++ kW cB cI (va_up kf (kp - 1) (some (b, sz, st, us, mK, pK, lK))))) ++ mw cI a z s9 u9 (kp - 1) ga gl cs (cmW mem km (8192 * (kp - 1)) ga gl (bth sz z) 8192) (outW pl kl (64 * (kp - 1)) u9) (outW ln kn (64 * (kp - 1)) u9) km ks kt ku kl kn cd wt) H := hP
      have hD : va_D A (gw h kq (xA sp) k o d (kp - 1) ga gl ++ kw cB k kL kb ++ ow cB o oz cs cK ++ sw cB cI d z s9 u9 (cbM mK m9 ga gl (bth2 sz z)) p9 l9 ++ (krw cS kq (fun j => xA (va_up kf (kp - 1) (some (b, sz, st, us, mK, pK, lK)) j)) ++ (xW cB cI sp ++ kW cB cI (va_up kf (kp - 1) (some (b, sz, st, us, mK, pK, lK))))) ++ mw cI a z s9 u9 (kp - 1) ga gl cs (cmW mem km (8192 * (kp - 1)) ga gl (bth sz z) 8192) (outW pl kl (64 * (kp - 1)) u9) (outW ln kn (64 * (kp - 1)) u9) km ks kt ku kl kn cd wt) := hD
      have hb9 : SB m9 p9 l9 := by have q := c7.2.2 (kp - 1); rw [hkf] at q; exact q
      refine lv_goto (tgt := 852) hx hb dL_law_695 (by decide) ?_
      refine W.widen (k := 22 + 4 * (jj + 1)) (n := 78425 + 12550 * (jj + 1)) (by omega) (by omega) ?_
      exact tail _ H locs ls ⟨o, d, z, s9, u9, kp - 1, ga, gl, kL, oz, cs, cbM mK m9 ga gl (bth2 sz z), p9, l9, kb, cK, cmW mem km (8192 * (kp - 1)) ga gl (bth sz z) 8192, outW pl kl (64 * (kp - 1)) u9, outW ln kn (64 * (kp - 1)) u9, km, ks, kt, ku, kl, kn, cd, wt, sp, (va_up kf (kp - 1) (some (b, sz, st, us, mK, pK, lK))), rfl, ⟨c1.back hx8, ⟨cbM_lt c2.1 hb9.1 _ _ _, hb9.2⟩, ⟨cmW_lt c3.1 c8.1, outW_lt c3.2.1 (fun j => (c8.2 j).2.2.2.1), outW_lt c3.2.2 (fun j => (c8.2 j).2.2.2.2)⟩, ⟨by omega, c4.2⟩, c5, c6, ⟨KR_less c7.1, c7.2.1, fun i => xB_up (n := kp - 1) (y := (some (b, sz, st, us, mK, pK, lK))) c7.2.2 (show SB _ _ _ from c2) i⟩, c8⟩⟩ hP hD hS hl
set_option maxHeartbeats 4000000 in
set_option maxRecDepth 100000 in
theorem lc_restart {p : Program} {e : Env} {s : State} {m : MethodId} {below : List Frame} {meth : Method} {c : Code} (l : Launch) {q0 L : Nat} {xs : Nat → Int32} (hL : L ≤ 4096) (C0 : lw_At p s m meth c q0 L xs) (dC : Nat → ClassId) (dI : Nat → Nat → Nat) (cB cI cS : ClassId) (h kq : Nat) (k a : Nat → Nat) (A : Nat → Prop) (hA : ∀ q : Nat, s.heap.size ≤ q → A q) (hbA : ¬ A q0) (hK : va_K (dC, dI) vwCl [(cI, .int), (cB, .byte), (cS, .object "GlulxHeap$State")] s) {i jj : Nat} (hi : i = 8 * jj) (hiL : i + 8 ≤ L) {ws : va_W} {H : Heap} {locs : List Loc} {ls : Array Slot} (hJ : J cB cI cS h kq k a ws) (hP : va_P (dC, dI) vwCl ws H) (hD : va_D A ws) (hS : va_S A s.heap H locs) (hl : lv_has ls 4 [(3, .int (nI i)), (2, .ref (a 0)), (1, .ref h), (0, .ref q0)]) (tail : ∀ (ws : va_W) (H : Heap) (locs : List Loc) (ls : Array Slot), J cB cI cS h kq k a ws → va_P (dC, dI) vwCl ws H → va_D A ws → va_S A s.heap H locs → lv_has ls 4 [(3, .int (nI i)), (2, .ref (a 0)), (1, .ref h), (0, .ref q0)] → W p l e room_1 s m #[Value.ref q0] below meth c H locs (22 + 4 * (jj + 1)) (78425 + 12550 * (jj + 1)) (lw_Z below #[Value.ref q0] s) (F0 m 852 ls [])) : W p l e room_1 s m #[Value.ref q0] below meth c H locs (22 + 4 * jj) (78425 + 12550 * jj) (lw_Z below #[Value.ref q0] s) (F0 m 698 ls []) := by
  obtain ⟨hx, hb, hr, hml, hown, hts0, hX, hbl, hlocks, hgv⟩ := id C0
  have hts : ∀ w ∈ wsL_law, w.before #[Value.ref q0] s = true := fun w h => hts0 w (wsL_law_in w h)
  obtain ⟨o, b, sz, st, us, kp, ga, gl, kL, oz, cs, mK, pK, lK, kb, cK, mem, pl, ln, km, ks, kt, ku, kl, kn, cd, wt, sp, kf, rfl, c1, c2, c3, c4, c5, c6, c7, c8⟩ := hJ
  have hcs : cs ≤ 12550 ∧ oz ≤ 12550 := by have := c6.2.1; rcases c6.1 with q | q <;> omega
  have hst9 := wfB_st c1.1
  rcases sp with _ | ⟨d, z, s9, u9, m9, p9, l9⟩
  · have hP : va_P (dC, dI) vwCl (gw h kq none k o b kp ga gl ++ kw cB k kL kb ++ ow cB o oz cs cK ++ sw cB cI b sz st us mK pK lK ++ (krw cS kq (fun j => xA (kf j)) ++ ([] ++ kW cB cI kf)) ++ mw cI a sz st us kp ga gl cs mem pl ln km ks kt ku kl kn cd wt) H := hP
    have hD : va_D A (gw h kq none k o b kp ga gl ++ kw cB k kL kb ++ ow cB o oz cs cK ++ sw cB cI b sz st us mK pK lK ++ (krw cS kq (fun j => xA (kf j)) ++ ([] ++ kW cB cI kf)) ++ mw cI a sz st us kp ga gl cs mem pl ln km ks kt ku kl kn cd wt) := hD
    refine lv_aload_n hx hb dL_law_698 rfl (lv_at hl 2 rfl) ?_
    have hKc := hK.sub (tys' := [(cI, .int), (cB, .byte)]) [0, 1] rfl
    have hN29 := va_Nw.of (w := .methodLinkNest RX3 29 yX2_init "GlulxHeap") rfl (hts0 _ (List.mem_of_getElem? (i := 75) (by decide +kernel)))
    refine fr_calli (wc := gw h kq none k o b kp ga gl ++ sw cB cI b sz st us mK pK lK) (wr := kw cB k kL kb ++ ow cB o oz cs cK ++ krw cS kq (fun j => xA (kf j)) ++ kW cB cI kf ++ mw cI a sz st us kp ga gl cs mem pl ln km ks kt ku kl kn cd wt) (w1 := fun d => gw h kq (some (b 0)) k o d kp ga gl ++ sw cB cI b sz st us mK pK lK ++ sw cB cI d 1024 0 0 (cbM mK (outW (zr zf 0 8192) fst 0 64) ga gl (bth2 sz 1024)) zf zf) (Z := fun _ t9 => va_K (dC, dI) vwCl [(cI, .int), (cB, .byte)] t9) (fun _ _ q9 => q9) (pGS) hP hD hS hA (fun hPc hDc => va_runV (As := []) (rest := []) ⟨hx, hb, hml, hown, hts⟩ (c_X3_restartN l dC dI cB cI cS h kq k o b kp ga gl sz st us mK pK lK H.size  c1.sz8 c4.2.1 c4.2.2) (cwV 0 hts gL_law_X3_restart rfl rfl rfl (by decide +kernel) ⟨Nat.le_of_ble_eq_true rfl, Nat.le_of_ble_eq_true rfl⟩) ⟨fun a9 U g9 mk9 q9 => by obtain ⟨q0, q1, qP, qK, qD, qN29⟩ := q9; exact ⟨q0, q1, qP, va_K.moved (u := U) (U := U.calling g9 mk9 a9) (Vm.Alike.refl U.vm) qK, qD, va_Nw.same rfl rfl qN29⟩, va_recv hKc hPc (ci := 3) (q0 := 0) rfl rfl, fun U hU hW => ⟨rfl, by rw [hU], by rw [hU]; exact hPc, va_K.moved hW.alike hKc, hDc, va_Nw.warmM hW hN29⟩⟩ rfl rfl hl.1 rfl (lv_room (Nat.le_of_ble_eq_true rfl)) dL_law_699 ⟨by show 22 + 4 * jj + 4 ≤ 60000; omega, by show 78425 + 12550 * jj + 8326 ≤ 8922250; omega⟩) (fun r1 d H locs hw hP hD hS => ?_)
    try dsimp only at hw hP hD
    have hc := hw
    clear hw
    refine lv_pop hx hb dL_law_702 rfl ?_
    have hP := va_P_perm pGPS.symm hP
    have hD := va_D_perm pGPS.symm hD
    have hP : va_P (dC, dI) vwCl (gw h kq (some (b 0)) k o d kp ga gl ++ kw cB k kL kb ++ ow cB o oz cs cK ++ sw cB cI d 1024 0 0 (cbM mK (outW (zr zf 0 8192) fst 0 64) ga gl (bth2 sz 1024)) zf zf ++ (krw cS kq (fun j => xA (kf j)) ++ (sw cB cI b sz st us mK pK lK ++ kW cB cI kf)) ++ mw cI a sz st us kp ga gl cs mem pl ln km ks kt ku kl kn cd wt) H := hP
    have hD : va_D A (gw h kq (some (b 0)) k o d kp ga gl ++ kw cB k kL kb ++ ow cB o oz cs cK ++ sw cB cI d 1024 0 0 (cbM mK (outW (zr zf 0 8192) fst 0 64) ga gl (bth2 sz 1024)) zf zf ++ (krw cS kq (fun j => xA (kf j)) ++ (sw cB cI b sz st us mK pK lK ++ kW cB cI kf)) ++ mw cI a sz st us kp ga gl cs mem pl ln km ks kt ku kl kn cd wt) := hD
    refine lv_aload_n hx hb dL_law_703 rfl (lv_at hl 1 rfl) ?_
    have hKc := hK.sub (tys' := [(cI, .int)]) [0] rfl
    refine fr_calli (wc := mw cI a sz st us kp ga gl cs mem pl ln km ks kt ku kl kn cd wt) (wr := gw h kq (some (b 0)) k o d kp ga gl ++ kw cB k kL kb ++ ow cB o oz cs cK ++ sw cB cI d 1024 0 0 (cbM mK (outW (zr zf 0 8192) fst 0 64) ga gl (bth2 sz 1024)) zf zf ++ (krw cS kq (fun j => xA (kf j)) ++ (sw cB cI b sz st us mK pK lK ++ kW cB cI kf))) (w1 := fun _ => mw cI a ((va_up ks 4 1024) 4) ((va_up kt 4 0) 4) ((va_up ku 4 0) 4) kp ga gl cs (cmW mem (blkW km 32768 fst 8192) (8192 * 4) ga gl (bth sz ((va_up ks 4 1024) 4)) 8192) (outW pl kl (64 * 4) ((va_up ku 4 0) 4)) (outW ln kn (64 * 4) ((va_up ku 4 0) 4)) (blkW km 32768 fst 8192) (va_up ks 4 1024) (va_up kt 4 0) (va_up ku 4 0) kl kn cd wt) (Z := fun _ t9 => va_K (dC, dI) vwCl [(cI, .int)] t9) (fun _ _ q9 => q9) (pM) hP hD hS hA (fun hPc hDc => va_runV (As := []) (rest := []) ⟨hx, hb, hml, hown, hts⟩ (c_X4_restart l dC dI cI a sz st us kp ga gl cs mem pl ln km ks kt ku kl kn cd wt H.size  c1.sz8 c4.2.1 c4.2.2) (cwV 0 hts gL_law_X4_restart rfl rfl rfl (by decide +kernel) ⟨Nat.le_of_ble_eq_true rfl, Nat.le_of_ble_eq_true rfl⟩) ⟨fun a9 U g9 mk9 q9 => by obtain ⟨q0, q1, qP, qK, qD⟩ := q9; exact ⟨q0, q1, qP, va_K.moved (u := U) (U := U.calling g9 mk9 a9) (Vm.Alike.refl U.vm) qK, qD⟩, va_recv hKc hPc (ci := 4) (q0 := 0) rfl rfl, fun U hU hW => ⟨rfl, by rw [hU], by rw [hU]; exact hPc, va_K.moved hW.alike hKc, hDc⟩⟩ rfl rfl hl.1 rfl (lv_room (Nat.le_of_ble_eq_true rfl)) dL_law_704 ⟨by show 22 + 4 * jj + 4 + 0 ≤ 60000; omega, by show 78425 + 12550 * jj + 8326 + 0 ≤ 8922250; omega⟩) (fun r2 _ H locs hw hP hD hS => ?_)
    try dsimp only at hw hP hD
    have hm := hw
    clear hw
    refine lv_pop hx hb dL_law_707 rfl ?_
    have hP := va_P_perm pM hP
    have hD := va_D_perm pM hD
    have hP : va_P (dC, dI) vwCl (gw h kq (some (b 0)) k o d kp ga gl ++ kw cB k kL kb ++ ow cB o oz cs cK ++ sw cB cI d 1024 0 0 (cbM mK (outW (zr zf 0 8192) fst 0 64) ga gl (bth2 sz 1024)) zf zf ++ (krw cS kq (fun j => xA (kf j)) ++ (sw cB cI b sz st us mK pK lK ++ kW cB cI kf)) ++ mw cI a ((va_up ks 4 1024) 4) ((va_up kt 4 0) 4) ((va_up ku 4 0) 4) kp ga gl cs (cmW mem (blkW km 32768 fst 8192) (8192 * 4) ga gl (bth sz ((va_up ks 4 1024) 4)) 8192) (outW pl kl (64 * 4) ((va_up ku 4 0) 4)) (outW ln kn (64 * 4) ((va_up ku 4 0) 4)) (blkW km 32768 fst 8192) (va_up ks 4 1024) (va_up kt 4 0) (va_up ku 4 0) kl kn cd wt) H := hP
    have hD : va_D A (gw h kq (some (b 0)) k o d kp ga gl ++ kw cB k kL kb ++ ow cB o oz cs cK ++ sw cB cI d 1024 0 0 (cbM mK (outW (zr zf 0 8192) fst 0 64) ga gl (bth2 sz 1024)) zf zf ++ (krw cS kq (fun j => xA (kf j)) ++ (sw cB cI b sz st us mK pK lK ++ kW cB cI kf)) ++ mw cI a ((va_up ks 4 1024) 4) ((va_up kt 4 0) 4) ((va_up ku 4 0) 4) kp ga gl cs (cmW mem (blkW km 32768 fst 8192) (8192 * 4) ga gl (bth sz ((va_up ks 4 1024) 4)) 8192) (outW pl kl (64 * 4) ((va_up ku 4 0) 4)) (outW ln kn (64 * 4) ((va_up ku 4 0) 4)) (blkW km 32768 fst 8192) (va_up ks 4 1024) (va_up kt 4 0) (va_up ku 4 0) kl kn cd wt) := hD
    simp only [up_at] at hP hD
    have hP : va_P (dC, dI) vwCl (gw h kq (some (b 0)) k o d kp ga gl ++ kw cB k kL kb ++ ow cB o oz cs cK ++ sw cB cI d 1024 0 0 (cbM mK (outW (zr zf 0 8192) fst 0 64) ga gl (bth2 sz 1024)) zf zf ++ (krw cS kq (fun j => xA (kf j)) ++ (sw cB cI b sz st us mK pK lK ++ kW cB cI kf)) ++ mw cI a 1024 0 0 kp ga gl cs (cmW mem (blkW km 32768 fst 8192) (8192 * 4) ga gl (bth sz 1024) 8192) (outW pl kl (64 * 4) 0) (outW ln kn (64 * 4) 0) (blkW km 32768 fst 8192) (va_up ks 4 1024) (va_up kt 4 0) (va_up ku 4 0) kl kn cd wt) H := hP
    have hD : va_D A (gw h kq (some (b 0)) k o d kp ga gl ++ kw cB k kL kb ++ ow cB o oz cs cK ++ sw cB cI d 1024 0 0 (cbM mK (outW (zr zf 0 8192) fst 0 64) ga gl (bth2 sz 1024)) zf zf ++ (krw cS kq (fun j => xA (kf j)) ++ (sw cB cI b sz st us mK pK lK ++ kW cB cI kf)) ++ mw cI a 1024 0 0 kp ga gl cs (cmW mem (blkW km 32768 fst 8192) (8192 * 4) ga gl (bth sz 1024) 8192) (outW pl kl (64 * 4) 0) (outW ln kn (64 * 4) 0) (blkW km 32768 fst 8192) (va_up ks 4 1024) (va_up kt 4 0) (va_up ku 4 0) kl kn cd wt) := hD
    have hb9 : SB zf zf zf := ⟨zf_lt 256 (by decide), zf_lt (2 ^ 31) (by decide), zf_lt (2 ^ 31) (by decide)⟩
    refine lv_goto (tgt := 852) hx hb dL_law_708 (by decide) ?_
    refine W.widen (k := 22 + 4 * (jj + 1)) (n := 78425 + 12550 * (jj + 1)) (by omega) (by omega) ?_
    exact tail _ H locs ls ⟨o, d, 1024, 0, 0, kp, ga, gl, kL, oz, cs, cbM mK (outW (zr zf 0 8192) fst 0 64) ga gl (bth2 sz 1024), zf, zf, kb, cK, cmW mem (blkW km 32768 fst 8192) (8192 * 4) ga gl (bth sz 1024) 8192, outW pl kl (64 * 4) 0, outW ln kn (64 * 4) 0, blkW km 32768 fst 8192, va_up ks 4 1024, va_up kt 4 0, va_up ku 4 0, kl, kn, cd, wt, (some (b, sz, st, us, mK, pK, lK)), kf, rfl, ⟨c1.restart, ⟨cbM_lt c2.1 (bgW_lt hb9.1) _ _ _, hb9.2⟩, ⟨cmW_lt c3.1 (blkW_lt c8.1 fst_lt), outW_lt c3.2.1 (fun j => (c8.2 j).2.2.2.1), outW_lt c3.2.2 (fun j => (c8.2 j).2.2.2.2)⟩, c4, c5, c6, ⟨KR_scratch c4.1 c7.1 (fun j hj => by unfold blkW; rw [if_neg (by omega)]) (fun j hj => ⟨up_ne hj, up_ne hj, up_ne hj⟩) (fun j _ => ⟨rfl, rfl⟩), (show SB _ _ _ from c2), c7.2.2⟩, blkW_lt c8.1 fst_lt, K5_up3 c8.2 (by decide) (by decide) (by decide)⟩⟩ hP hD hS hl
  · have hP : va_P (dC, dI) vwCl (gw h kq (some (d 0)) k o b kp ga gl ++ kw cB k kL kb ++ ow cB o oz cs cK ++ sw cB cI b sz st us mK pK lK ++ (krw cS kq (fun j => xA (kf j)) ++ (sw cB cI d z s9 u9 m9 p9 l9 ++ kW cB cI kf)) ++ mw cI a sz st us kp ga gl cs mem pl ln km ks kt ku kl kn cd wt) H := hP
    have hD : va_D A (gw h kq (some (d 0)) k o b kp ga gl ++ kw cB k kL kb ++ ow cB o oz cs cK ++ sw cB cI b sz st us mK pK lK ++ (krw cS kq (fun j => xA (kf j)) ++ (sw cB cI d z s9 u9 m9 p9 l9 ++ kW cB cI kf)) ++ mw cI a sz st us kp ga gl cs mem pl ln km ks kt ku kl kn cd wt) := hD
    refine lv_aload_n hx hb dL_law_698 rfl (lv_at hl 2 rfl) ?_
    have hKc := hK.sub (tys' := [(cI, .int), (cB, .byte)]) [0, 1] rfl
    refine fr_calli (wc := gw h kq (some (d 0)) k o b kp ga gl ++ sw cB cI b sz st us mK pK lK ++ sw cB cI d z s9 u9 m9 p9 l9) (wr := kw cB k kL kb ++ ow cB o oz cs cK ++ krw cS kq (fun j => xA (kf j)) ++ kW cB cI kf ++ mw cI a sz st us kp ga gl cs mem pl ln km ks kt ku kl kn cd wt) (w1 := fun _ => gw h kq (some (b 0)) k o d kp ga gl ++ sw cB cI b sz st us mK pK lK ++ sw cB cI d 1024 0 0 (cbM mK (outW (zr m9 0 8192) fst 0 64) ga gl (bth2 sz 1024)) p9 l9) (Z := fun _ t9 => va_K (dC, dI) vwCl [(cI, .int), (cB, .byte)] t9) (fun _ _ q9 => q9) (pGSP) hP hD hS hA (fun hPc hDc => va_runV (As := []) (rest := []) ⟨hx, hb, hml, hown, hts⟩ (c_X3_restartO l dC dI cB cI cS h kq k o b d kp ga gl sz st us mK pK lK z s9 u9 m9 p9 l9 H.size  c1.sz8 c4.2.1 c4.2.2) (cwV 0 hts gL_law_X3_restart rfl rfl rfl (by decide +kernel) ⟨Nat.le_of_ble_eq_true rfl, Nat.le_of_ble_eq_true rfl⟩) ⟨fun a9 U g9 mk9 q9 => by obtain ⟨q0, q1, qP, qK, qD⟩ := q9; exact ⟨q0, q1, qP, va_K.moved (u := U) (U := U.calling g9 mk9 a9) (Vm.Alike.refl U.vm) qK, qD⟩, va_recv hKc hPc (ci := 3) (q0 := 0) rfl rfl, fun U hU hW => ⟨rfl, by rw [hU], by rw [hU]; exact hPc, va_K.moved hW.alike hKc, hDc⟩⟩ rfl rfl hl.1 rfl (lv_room (Nat.le_of_ble_eq_true rfl)) dL_law_699 ⟨by show 22 + 4 * jj + 0 ≤ 60000; omega, by show 78425 + 12550 * jj + 0 ≤ 8922250; omega⟩) (fun r1 _ H locs hw hP hD hS => ?_)
    try dsimp only at hw hP hD
    have hc := hw
    clear hw
    refine lv_pop hx hb dL_law_702 rfl ?_
    have hP := va_P_perm pGPS.symm hP
    have hD := va_D_perm pGPS.symm hD
    have hP : va_P (dC, dI) vwCl (gw h kq (some (b 0)) k o d kp ga gl ++ kw cB k kL kb ++ ow cB o oz cs cK ++ sw cB cI d 1024 0 0 (cbM mK (outW (zr m9 0 8192) fst 0 64) ga gl (bth2 sz 1024)) p9 l9 ++ (krw cS kq (fun j => xA (kf j)) ++ (sw cB cI b sz st us mK pK lK ++ kW cB cI kf)) ++ mw cI a sz st us kp ga gl cs mem pl ln km ks kt ku kl kn cd wt) H := hP
    have hD : va_D A (gw h kq (some (b 0)) k o d kp ga gl ++ kw cB k kL kb ++ ow cB o oz cs cK ++ sw cB cI d 1024 0 0 (cbM mK (outW (zr m9 0 8192) fst 0 64) ga gl (bth2 sz 1024)) p9 l9 ++ (krw cS kq (fun j => xA (kf j)) ++ (sw cB cI b sz st us mK pK lK ++ kW cB cI kf)) ++ mw cI a sz st us kp ga gl cs mem pl ln km ks kt ku kl kn cd wt) := hD
    refine lv_aload_n hx hb dL_law_703 rfl (lv_at hl 1 rfl) ?_
    have hKc := hK.sub (tys' := [(cI, .int)]) [0] rfl
    refine fr_calli (wc := mw cI a sz st us kp ga gl cs mem pl ln km ks kt ku kl kn cd wt) (wr := gw h kq (some (b 0)) k o d kp ga gl ++ kw cB k kL kb ++ ow cB o oz cs cK ++ sw cB cI d 1024 0 0 (cbM mK (outW (zr m9 0 8192) fst 0 64) ga gl (bth2 sz 1024)) p9 l9 ++ (krw cS kq (fun j => xA (kf j)) ++ (sw cB cI b sz st us mK pK lK ++ kW cB cI kf))) (w1 := fun _ => mw cI a ((va_up ks 4 1024) 4) ((va_up kt 4 0) 4) ((va_up ku 4 0) 4) kp ga gl cs (cmW mem (blkW km 32768 fst 8192) (8192 * 4) ga gl (bth sz ((va_up ks 4 1024) 4)) 8192) (outW pl kl (64 * 4) ((va_up ku 4 0) 4)) (outW ln kn (64 * 4) ((va_up ku 4 0) 4)) (blkW km 32768 fst 8192) (va_up ks 4 1024) (va_up kt 4 0) (va_up ku 4 0) kl kn cd wt) (Z := fun _ t9 => va_K (dC, dI) vwCl [(cI, .int)] t9) (fun _ _ q9 => q9) (pM) hP hD hS hA (fun hPc hDc => va_runV (As := []) (rest := []) ⟨hx, hb, hml, hown, hts⟩ (c_X4_restart l dC dI cI a sz st us kp ga gl cs mem pl ln km ks kt ku kl kn cd wt H.size  c1.sz8 c4.2.1 c4.2.2) (cwV 0 hts gL_law_X4_restart rfl rfl rfl (by decide +kernel) ⟨Nat.le_of_ble_eq_true rfl, Nat.le_of_ble_eq_true rfl⟩) ⟨fun a9 U g9 mk9 q9 => by obtain ⟨q0, q1, qP, qK, qD⟩ := q9; exact ⟨q0, q1, qP, va_K.moved (u := U) (U := U.calling g9 mk9 a9) (Vm.Alike.refl U.vm) qK, qD⟩, va_recv hKc hPc (ci := 4) (q0 := 0) rfl rfl, fun U hU hW => ⟨rfl, by rw [hU], by rw [hU]; exact hPc, va_K.moved hW.alike hKc, hDc⟩⟩ rfl rfl hl.1 rfl (lv_room (Nat.le_of_ble_eq_true rfl)) dL_law_704 ⟨by show 22 + 4 * jj + 0 + 0 ≤ 60000; omega, by show 78425 + 12550 * jj + 0 + 0 ≤ 8922250; omega⟩) (fun r2 _ H locs hw hP hD hS => ?_)
    try dsimp only at hw hP hD
    have hm := hw
    clear hw
    refine lv_pop hx hb dL_law_707 rfl ?_
    have hP := va_P_perm pM hP
    have hD := va_D_perm pM hD
    have hP : va_P (dC, dI) vwCl (gw h kq (some (b 0)) k o d kp ga gl ++ kw cB k kL kb ++ ow cB o oz cs cK ++ sw cB cI d 1024 0 0 (cbM mK (outW (zr m9 0 8192) fst 0 64) ga gl (bth2 sz 1024)) p9 l9 ++ (krw cS kq (fun j => xA (kf j)) ++ (sw cB cI b sz st us mK pK lK ++ kW cB cI kf)) ++ mw cI a ((va_up ks 4 1024) 4) ((va_up kt 4 0) 4) ((va_up ku 4 0) 4) kp ga gl cs (cmW mem (blkW km 32768 fst 8192) (8192 * 4) ga gl (bth sz ((va_up ks 4 1024) 4)) 8192) (outW pl kl (64 * 4) ((va_up ku 4 0) 4)) (outW ln kn (64 * 4) ((va_up ku 4 0) 4)) (blkW km 32768 fst 8192) (va_up ks 4 1024) (va_up kt 4 0) (va_up ku 4 0) kl kn cd wt) H := hP
    have hD : va_D A (gw h kq (some (b 0)) k o d kp ga gl ++ kw cB k kL kb ++ ow cB o oz cs cK ++ sw cB cI d 1024 0 0 (cbM mK (outW (zr m9 0 8192) fst 0 64) ga gl (bth2 sz 1024)) p9 l9 ++ (krw cS kq (fun j => xA (kf j)) ++ (sw cB cI b sz st us mK pK lK ++ kW cB cI kf)) ++ mw cI a ((va_up ks 4 1024) 4) ((va_up kt 4 0) 4) ((va_up ku 4 0) 4) kp ga gl cs (cmW mem (blkW km 32768 fst 8192) (8192 * 4) ga gl (bth sz ((va_up ks 4 1024) 4)) 8192) (outW pl kl (64 * 4) ((va_up ku 4 0) 4)) (outW ln kn (64 * 4) ((va_up ku 4 0) 4)) (blkW km 32768 fst 8192) (va_up ks 4 1024) (va_up kt 4 0) (va_up ku 4 0) kl kn cd wt) := hD
    simp only [up_at] at hP hD
    have hP : va_P (dC, dI) vwCl (gw h kq (some (b 0)) k o d kp ga gl ++ kw cB k kL kb ++ ow cB o oz cs cK ++ sw cB cI d 1024 0 0 (cbM mK (outW (zr m9 0 8192) fst 0 64) ga gl (bth2 sz 1024)) p9 l9 ++ (krw cS kq (fun j => xA (kf j)) ++ (sw cB cI b sz st us mK pK lK ++ kW cB cI kf)) ++ mw cI a 1024 0 0 kp ga gl cs (cmW mem (blkW km 32768 fst 8192) (8192 * 4) ga gl (bth sz 1024) 8192) (outW pl kl (64 * 4) 0) (outW ln kn (64 * 4) 0) (blkW km 32768 fst 8192) (va_up ks 4 1024) (va_up kt 4 0) (va_up ku 4 0) kl kn cd wt) H := hP
    have hD : va_D A (gw h kq (some (b 0)) k o d kp ga gl ++ kw cB k kL kb ++ ow cB o oz cs cK ++ sw cB cI d 1024 0 0 (cbM mK (outW (zr m9 0 8192) fst 0 64) ga gl (bth2 sz 1024)) p9 l9 ++ (krw cS kq (fun j => xA (kf j)) ++ (sw cB cI b sz st us mK pK lK ++ kW cB cI kf)) ++ mw cI a 1024 0 0 kp ga gl cs (cmW mem (blkW km 32768 fst 8192) (8192 * 4) ga gl (bth sz 1024) 8192) (outW pl kl (64 * 4) 0) (outW ln kn (64 * 4) 0) (blkW km 32768 fst 8192) (va_up ks 4 1024) (va_up kt 4 0) (va_up ku 4 0) kl kn cd wt) := hD
    have hb9 : SB m9 p9 l9 := c7.2.1
    refine lv_goto (tgt := 852) hx hb dL_law_708 (by decide) ?_
    refine W.widen (k := 22 + 4 * (jj + 1)) (n := 78425 + 12550 * (jj + 1)) (by omega) (by omega) ?_
    exact tail _ H locs ls ⟨o, d, 1024, 0, 0, kp, ga, gl, kL, oz, cs, cbM mK (outW (zr m9 0 8192) fst 0 64) ga gl (bth2 sz 1024), p9, l9, kb, cK, cmW mem (blkW km 32768 fst 8192) (8192 * 4) ga gl (bth sz 1024) 8192, outW pl kl (64 * 4) 0, outW ln kn (64 * 4) 0, blkW km 32768 fst 8192, va_up ks 4 1024, va_up kt 4 0, va_up ku 4 0, kl, kn, cd, wt, (some (b, sz, st, us, mK, pK, lK)), kf, rfl, ⟨c1.restart, ⟨cbM_lt c2.1 (bgW_lt hb9.1) _ _ _, hb9.2⟩, ⟨cmW_lt c3.1 (blkW_lt c8.1 fst_lt), outW_lt c3.2.1 (fun j => (c8.2 j).2.2.2.1), outW_lt c3.2.2 (fun j => (c8.2 j).2.2.2.2)⟩, c4, c5, c6, ⟨KR_scratch c4.1 c7.1 (fun j hj => by unfold blkW; rw [if_neg (by omega)]) (fun j hj => ⟨up_ne hj, up_ne hj, up_ne hj⟩) (fun j _ => ⟨rfl, rfl⟩), (show SB _ _ _ from c2), c7.2.2⟩, blkW_lt c8.1 fst_lt, K5_up3 c8.2 (by decide) (by decide) (by decide)⟩⟩ hP hD hS hl
set_option maxHeartbeats 4000000 in
set_option maxRecDepth 100000 in
theorem lc_same {p : Program} {e : Env} {s : State} {m : MethodId} {below : List Frame} {meth : Method} {c : Code} (l : Launch) {q0 L : Nat} {xs : Nat → Int32} (hL : L ≤ 4096) (C0 : lw_At p s m meth c q0 L xs) (dC : Nat → ClassId) (dI : Nat → Nat → Nat) (cB cI cS : ClassId) (h kq : Nat) (k a : Nat → Nat) (A : Nat → Prop) (hA : ∀ q : Nat, s.heap.size ≤ q → A q) (hbA : ¬ A q0) (hK : va_K (dC, dI) vwCl [(cI, .int), (cB, .byte), (cS, .object "GlulxHeap$State")] s) {i jj : Nat} (hi : i = 8 * jj) (hiL : i + 8 ≤ L) {ws : va_W} {H : Heap} {locs : List Loc} {ls : Array Slot} (hJ : J cB cI cS h kq k a ws) (hP : va_P (dC, dI) vwCl ws H) (hD : va_D A ws) (hS : va_S A s.heap H locs) (hl : lv_has ls 4 [(3, .int (nI i)), (2, .ref (a 0)), (1, .ref h), (0, .ref q0)]) (tail : ∀ (ws : va_W) (H : Heap) (locs : List Loc) (ls : Array Slot), J cB cI cS h kq k a ws → va_P (dC, dI) vwCl ws H → va_D A ws → va_S A s.heap H locs → lv_has ls 4 [(3, .int (nI i)), (2, .ref (a 0)), (1, .ref h), (0, .ref q0)] → W p l e room_1 s m #[Value.ref q0] below meth c H locs (22 + 4 * (jj + 1)) (78425 + 12550 * (jj + 1)) (lw_Z below #[Value.ref q0] s) (F0 m 852 ls [])) : W p l e room_1 s m #[Value.ref q0] below meth c H locs (22 + 4 * jj) (78425 + 12550 * jj) (lw_Z below #[Value.ref q0] s) (F0 m 711 ls []) := by
  obtain ⟨hx, hb, hr, hml, hown, hts0, hX, hbl, hlocks, hgv⟩ := id C0
  have hts : ∀ w ∈ wsL_law, w.before #[Value.ref q0] s = true := fun w h => hts0 w (wsL_law_in w h)
  obtain ⟨o, b, sz, st, us, kp, ga, gl, kL, oz, cs, mK, pK, lK, kb, cK, mem, pl, ln, km, ks, kt, ku, kl, kn, cd, wt, sp, kf, rfl, c1, c2, c3, c4, c5, c6, c7, c8⟩ := hJ
  have hcs : cs ≤ 12550 ∧ oz ≤ 12550 := by have := c6.2.1; rcases c6.1 with q | q <;> omega
  have hst9 := wfB_st c1.1
  have hst := wfB_st c1.1
  by_cases h0 : kp = 0
  · refine lv_aload_n hx hb dL_law_711 rfl (lv_at hl 2 rfl) ?_
    have hKc := hK.sub (tys' := [(cI, .int), (cB, .byte), (cS, .object "GlulxHeap$State")]) [0, 1, 2] rfl
    have hPc : va_P (dC, dI) vwCl (gw h kq (xA sp) k o b kp ga gl ++ krw cS kq (fun j => xA (kf j))) H := va_P_left (va_P_perm (pGRS.trans (.of_eq (List.append_assoc _ _ _))) hP)
    refine vp_callSi (W.runV (As := []) (rest := []) ⟨hx, hb, hml, hown, hts⟩ (c_X3_same0 l dC dI cB cI cS h kq (xA sp) k o b kp ga gl (fun j => xA (kf j))  h0) (cwV 0 hts gL_law_X3_same rfl rfl rfl (by decide +kernel) ⟨Nat.le_of_ble_eq_true rfl, Nat.le_of_ble_eq_true rfl⟩) ⟨fun a9 U g9 mk9 q9 => by obtain ⟨q0, qP, qK⟩ := q9; exact ⟨q0, qP, va_K.moved (u := U) (U := U.calling g9 mk9 a9) (Vm.Alike.refl U.vm) qK⟩, va_recv hKc hPc (ci := 3) (q0 := 0) rfl rfl, fun U hU hW => ⟨rfl, by rw [hU]; exact hPc, va_K.moved hW.alike hKc⟩⟩ rfl rfl hl.1 rfl (lv_room (Nat.le_of_ble_eq_true rfl)) dL_law_712 ⟨by show 22 + 4 * jj + 0 ≤ 60000; omega, by show 78425 + 12550 * jj + 0 ≤ 8922250; omega⟩) (fun r1 hw => ?_)
    have hc := hw
    clear hw
    refine lv_pop hx hb dL_law_715 rfl ?_
    refine lv_aload_n hx hb dL_law_716 rfl (lv_at hl 1 rfl) ?_
    have hKc := hK.sub (tys' := [(cI, .int)]) [0] rfl
    have hPc : va_P (dC, dI) vwCl (mw cI a sz st us kp ga gl cs mem pl ln km ks kt ku kl kn cd wt) H := va_P_left (va_P_perm (pM) hP)
    refine vp_callSi (W.runV (As := []) (rest := []) ⟨hx, hb, hml, hown, hts⟩ (c_X4_same l dC dI cI a sz st us kp ga gl cs mem pl ln km ks kt ku kl kn cd wt  c1.sz8 c4.1 c1.us64 c3.1 c8.1 c3.2.1 c3.2.2 (fun j => (c8.2 j).2.2.2.1) (fun j => (c8.2 j).2.2.2.2) (fun j => (c8.2 j).1) (fun j => (c8.2 j).2.1) (fun j => (c8.2 j).2.2.1) (by omega)) (cwV 0 hts gL_law_X4_same rfl rfl rfl (by decide +kernel) ⟨Nat.le_of_ble_eq_true rfl, Nat.le_of_ble_eq_true rfl⟩) ⟨fun a9 U g9 mk9 q9 => by obtain ⟨q0, qP, qK⟩ := q9; exact ⟨q0, qP, va_K.moved (u := U) (U := U.calling g9 mk9 a9) (Vm.Alike.refl U.vm) qK⟩, va_recv hKc hPc (ci := 4) (q0 := 0) rfl rfl, fun U hU hW => ⟨rfl, by rw [hU]; exact hPc, va_K.moved hW.alike hKc⟩⟩ rfl rfl hl.1 rfl (lv_room (Nat.le_of_ble_eq_true rfl)) dL_law_717 ⟨by show 22 + 4 * jj + 0 ≤ 60000; omega, by show 78425 + 12550 * jj + 0 ≤ 8922250; omega⟩) (fun r2 hw => ?_)
    have hm := hw
    clear hw
    refine lv_pop hx hb dL_law_720 rfl ?_
    refine lv_goto (tgt := 852) hx hb dL_law_721 (by decide) ?_
    refine W.widen (k := 22 + 4 * (jj + 1)) (n := 78425 + 12550 * (jj + 1)) (by omega) (by omega) ?_
    exact tail _ H locs ls ⟨o, b, sz, st, us, kp, ga, gl, kL, oz, cs, mK, pK, lK, kb, cK, mem, pl, ln, km, ks, kt, ku, kl, kn, cd, wt, sp, kf, rfl, ⟨c1, c2, c3, c4, c5, c6, c7, c8⟩⟩ hP hD hS hl
  · have h0l : kp - 1 < 4 := by have := c4.1; omega
    have hx7 := c7.1 (kp - 1) (by omega)
    rcases hkf : kf (kp - 1) with _ | ⟨d, z, s9, u9, m9, p9, l9⟩
    · rw [hkf] at hx7; exact hx7.elim
    · rw [hkf] at hx7
      obtain ⟨he, hx8⟩ := hx7
      have hst2 := wfB_st hx8.1
      have hb9 : SB m9 p9 l9 := by have q := c7.2.2 (kp - 1); rw [hkf] at q; exact q
      have hF0 : (kW cB cI kf).Perm (sw cB cI d z s9 u9 m9 p9 l9 ++ kW cB cI (va_up kf (kp - 1) none)) := by have q := kW_up (cB := cB) (cI := cI) (kf := kf) h0l (some (d, z, s9, u9, m9, p9, l9)); rw [up_id hkf] at q; exact q
      refine lv_aload_n hx hb dL_law_711 rfl (lv_at hl 2 rfl) ?_
      have hKc := hK.sub (tys' := [(cI, .int), (cB, .byte), (cS, .object "GlulxHeap$State")]) [0, 1, 2] rfl
      have hPc : va_P (dC, dI) vwCl (gw h kq (xA sp) k o b kp ga gl ++ krw cS kq (fun j => xA (kf j)) ++ sw cB cI b sz st us mK pK lK ++ sw cB cI d z s9 u9 m9 p9 l9) H := va_P_left (va_P_perm (pGRSD hF0) hP)
      refine vp_callSi (W.runV (As := []) (rest := []) ⟨hx, hb, hml, hown, hts⟩ (c_X3_same1 l dC dI cB cI cS h kq (xA sp) k o b d kp ga gl (fun j => xA (kf j)) sz st us mK pK lK z s9 u9 m9 p9 l9  c4.1 (by omega) (by show xA (kf (kp - 1)) = some (d 0); rw [hkf]; rfl) c1.sz8 c1.us64 (by omega) hx8.sz8 hx8.us64 (by omega) c2.1 c2.2.1 c2.2.2 hb9.1 hb9.2.1 hb9.2.2) (cwV 0 hts gL_law_X3_same rfl rfl rfl (by decide +kernel) ⟨Nat.le_of_ble_eq_true rfl, Nat.le_of_ble_eq_true rfl⟩) ⟨fun a9 U g9 mk9 q9 => by obtain ⟨q0, qP, qK⟩ := q9; exact ⟨q0, qP, va_K.moved (u := U) (U := U.calling g9 mk9 a9) (Vm.Alike.refl U.vm) qK⟩, va_recv hKc hPc (ci := 3) (q0 := 0) rfl rfl, fun U hU hW => ⟨rfl, by rw [hU]; exact hPc, va_K.moved hW.alike hKc⟩⟩ rfl rfl hl.1 rfl (lv_room (Nat.le_of_ble_eq_true rfl)) dL_law_712 ⟨by show 22 + 4 * jj + 0 ≤ 60000; omega, by show 78425 + 12550 * jj + 0 ≤ 8922250; omega⟩) (fun r1 hw => ?_)
      have hc := hw
      clear hw
      refine lv_pop hx hb dL_law_715 rfl ?_
      refine lv_aload_n hx hb dL_law_716 rfl (lv_at hl 1 rfl) ?_
      have hKc := hK.sub (tys' := [(cI, .int)]) [0] rfl
      have hPc : va_P (dC, dI) vwCl (mw cI a sz st us kp ga gl cs mem pl ln km ks kt ku kl kn cd wt) H := va_P_left (va_P_perm (pM) hP)
      refine vp_callSi (W.runV (As := []) (rest := []) ⟨hx, hb, hml, hown, hts⟩ (c_X4_same l dC dI cI a sz st us kp ga gl cs mem pl ln km ks kt ku kl kn cd wt  c1.sz8 c4.1 c1.us64 c3.1 c8.1 c3.2.1 c3.2.2 (fun j => (c8.2 j).2.2.2.1) (fun j => (c8.2 j).2.2.2.2) (fun j => (c8.2 j).1) (fun j => (c8.2 j).2.1) (fun j => (c8.2 j).2.2.1) (by omega)) (cwV 0 hts gL_law_X4_same rfl rfl rfl (by decide +kernel) ⟨Nat.le_of_ble_eq_true rfl, Nat.le_of_ble_eq_true rfl⟩) ⟨fun a9 U g9 mk9 q9 => by obtain ⟨q0, qP, qK⟩ := q9; exact ⟨q0, qP, va_K.moved (u := U) (U := U.calling g9 mk9 a9) (Vm.Alike.refl U.vm) qK⟩, va_recv hKc hPc (ci := 4) (q0 := 0) rfl rfl, fun U hU hW => ⟨rfl, by rw [hU]; exact hPc, va_K.moved hW.alike hKc⟩⟩ rfl rfl hl.1 rfl (lv_room (Nat.le_of_ble_eq_true rfl)) dL_law_717 ⟨by show 22 + 4 * jj + 0 ≤ 60000; omega, by show 78425 + 12550 * jj + 0 ≤ 8922250; omega⟩) (fun r2 hw => ?_)
      have hm := hw
      clear hw
      refine lv_pop hx hb dL_law_720 rfl ?_
      refine lv_goto (tgt := 852) hx hb dL_law_721 (by decide) ?_
      refine W.widen (k := 22 + 4 * (jj + 1)) (n := 78425 + 12550 * (jj + 1)) (by omega) (by omega) ?_
      exact tail _ H locs ls ⟨o, b, sz, st, us, kp, ga, gl, kL, oz, cs, mK, pK, lK, kb, cK, mem, pl, ln, km, ks, kt, ku, kl, kn, cd, wt, sp, kf, rfl, ⟨c1, c2, c3, c4, c5, c6, c7, c8⟩⟩ hP hD hS hl
set_option maxHeartbeats 4000000 in
set_option maxRecDepth 100000 in
theorem lc_write {p : Program} {e : Env} {s : State} {m : MethodId} {below : List Frame} {meth : Method} {c : Code} (l : Launch) {q0 L : Nat} {xs : Nat → Int32} (hL : L ≤ 4096) (C0 : lw_At p s m meth c q0 L xs) (dC : Nat → ClassId) (dI : Nat → Nat → Nat) (cB cI cS : ClassId) (h kq : Nat) (k a : Nat → Nat) (A : Nat → Prop) (hA : ∀ q : Nat, s.heap.size ≤ q → A q) (hbA : ¬ A q0) (hK : va_K (dC, dI) vwCl [(cI, .int), (cB, .byte), (cS, .object "GlulxHeap$State")] s) {i jj : Nat} (hi : i = 8 * jj) (hiL : i + 8 ≤ L) {ws : va_W} {H : Heap} {locs : List Loc} {ls : Array Slot} (hJ : J cB cI cS h kq k a ws) (hP : va_P (dC, dI) vwCl ws H) (hD : va_D A ws) (hS : va_S A s.heap H locs) (hl : lv_has ls 4 [(3, .int (nI i)), (2, .ref (a 0)), (1, .ref h), (0, .ref q0)]) (tail : ∀ (ws : va_W) (H : Heap) (locs : List Loc) (ls : Array Slot), J cB cI cS h kq k a ws → va_P (dC, dI) vwCl ws H → va_D A ws → va_S A s.heap H locs → lv_has ls 4 [(3, .int (nI i)), (2, .ref (a 0)), (1, .ref h), (0, .ref q0)] → W p l e room_1 s m #[Value.ref q0] below meth c H locs (22 + 4 * (jj + 1)) (78425 + 12550 * (jj + 1)) (lw_Z below #[Value.ref q0] s) (F0 m 852 ls [])) : W p l e room_1 s m #[Value.ref q0] below meth c H locs (22 + 4 * jj) (78425 + 12550 * jj) (lw_Z below #[Value.ref q0] s) (F0 m 724 ls []) := by
  obtain ⟨hx, hb, hr, hml, hown, hts0, hX, hbl, hlocks, hgv⟩ := id C0
  have hts : ∀ w ∈ wsL_law, w.before #[Value.ref q0] s = true := fun w h => hts0 w (wsL_law_in w h)
  obtain ⟨o, b, sz, st, us, kp, ga, gl, kL, oz, cs, mK, pK, lK, kb, cK, mem, pl, ln, km, ks, kt, ku, kl, kn, cd, wt, sp, kf, rfl, c1, c2, c3, c4, c5, c6, c7, c8⟩ := hJ
  have hcs : cs ≤ 12550 ∧ oz ≤ 12550 := by have := c6.2.1; rcases c6.1 with q | q <;> omega
  have hst9 := wfB_st c1.1
  rcases c6.1 with ho | ho
  · refine lv_aload_n hx hb dL_law_724 rfl (lv_at hl 2 rfl) ?_
    have hKc := hK.sub (tys' := [(cI, .int), (cB, .byte)]) [0, 1] rfl
    refine fr_calli (wc := gw h kq (xA sp) k o b kp ga gl ++ ow cB o oz cs cK ++ sw cB cI b sz st us mK pK lK) (wr := kw cB k kL kb ++ krw cS kq (fun j => xA (kf j)) ++ xW cB cI sp ++ kW cB cI kf ++ mw cI a sz st us kp ga gl cs mem pl ln km ks kt ku kl kn cd wt) (w1 := fun u9 => match u9 with | ⟨o2, cs2, cd2⟩ => gw h kq (xA sp) k o2 b kp ga gl ++ ow cB o2 12550 cs2 cd2 ++ sw cB cI b sz st us mK pK lK) (Z := fun _ t9 => va_K (dC, dI) vwCl [(cI, .int), (cB, .byte)] t9) (fun u9 t9 q9 => by obtain ⟨o2, cs2, cd2⟩ := u9; exact q9) (pGOS) hP hD hS hA (fun hPc hDc => va_runV (As := []) (rest := []) ⟨hx, hb, hml, hown, hts⟩ (c_X3_writeN l dC dI cB cI cS h kq (xA sp) k o b kp ga gl oz cs cK sz st us mK pK lK H.size  c1.wfK c2.1 c2.2.1 c2.2.2 (by omega)) (cwV 0 hts gL_law_X3_write rfl rfl rfl (by decide +kernel) ⟨Nat.le_of_ble_eq_true rfl, Nat.le_of_ble_eq_true rfl⟩) ⟨fun a9 U g9 mk9 q9 => by obtain ⟨q0, q1, qP, qK, qD⟩ := q9; exact ⟨q0, q1, qP, va_K.moved (u := U) (U := U.calling g9 mk9 a9) (Vm.Alike.refl U.vm) qK, qD⟩, va_recv hKc hPc (ci := 3) (q0 := 0) rfl rfl, fun U hU hW => ⟨rfl, by rw [hU], by rw [hU]; exact hPc, va_K.moved hW.alike hKc, hDc⟩⟩ rfl rfl hl.1 rfl (lv_room (Nat.le_of_ble_eq_true rfl)) dL_law_725 ⟨by show 22 + 4 * jj + 1 ≤ 60000; omega, by show 78425 + 12550 * jj + 12550 ≤ 8922250; omega⟩) (fun r1 u9 H locs hw hP hD hS => ?_)
    obtain ⟨o2, cs2, cd2⟩ := u9
    try dsimp only at hw hP hD
    have hc := hw
    clear hw
    refine lv_pop hx hb dL_law_728 rfl ?_
    have hP := va_P_perm pGOS.symm hP
    have hD := va_D_perm pGOS.symm hD
    have hP : va_P (dC, dI) vwCl (gw h kq (xA sp) k o2 b kp ga gl ++ kw cB k kL kb ++ ow cB o2 12550 cs2 cd2 ++ sw cB cI b sz st us mK pK lK ++ (krw cS kq (fun j => xA (kf j)) ++ (xW cB cI sp ++ kW cB cI kf)) ++ mw cI a sz st us kp ga gl cs mem pl ln km ks kt ku kl kn cd wt) H := hP
    have hD : va_D A (gw h kq (xA sp) k o2 b kp ga gl ++ kw cB k kL kb ++ ow cB o2 12550 cs2 cd2 ++ sw cB cI b sz st us mK pK lK ++ (krw cS kq (fun j => xA (kf j)) ++ (xW cB cI sp ++ kW cB cI kf)) ++ mw cI a sz st us kp ga gl cs mem pl ln km ks kt ku kl kn cd wt) := hD
    refine lv_aload_n hx hb dL_law_729 rfl (lv_at hl 1 rfl) ?_
    have hKc := hK.sub (tys' := [(cI, .int)]) [0] rfl
    refine fr_calli (wc := mw cI a sz st us kp ga gl cs mem pl ln km ks kt ku kl kn cd wt) (wr := gw h kq (xA sp) k o2 b kp ga gl ++ kw cB k kL kb ++ ow cB o2 12550 cs2 cd2 ++ sw cB cI b sz st us mK pK lK ++ (krw cS kq (fun j => xA (kf j)) ++ (xW cB cI sp ++ kW cB cI kf))) (w1 := fun u9 => match u9 with | ⟨cs3, cd3⟩ => mw cI a sz st us kp ga gl cs3 mem pl ln km ks kt ku kl kn cd3 wt) (Z := fun _ t9 => va_K (dC, dI) vwCl [(cI, .int)] t9) (fun u9 t9 q9 => by obtain ⟨cs3, cd3⟩ := u9; exact q9) (pM) hP hD hS hA (fun hPc hDc => va_runV (As := []) (rest := []) ⟨hx, hb, hml, hown, hts⟩ (c_X4_write l dC dI cI a sz st us kp ga gl cs mem pl ln km ks kt ku kl kn cd wt H.size  c1.1 c3.1 c3.2.1 c3.2.2 c6.2.2.2.2) (cwV 0 hts gL_law_X4_write rfl rfl rfl (by decide +kernel) ⟨Nat.le_of_ble_eq_true rfl, Nat.le_of_ble_eq_true rfl⟩) ⟨fun a9 U g9 mk9 q9 => by obtain ⟨q0, q1, qP, qK, qD⟩ := q9; exact ⟨q0, q1, qP, va_K.moved (u := U) (U := U.calling g9 mk9 a9) (Vm.Alike.refl U.vm) qK, qD⟩, va_recv hKc hPc (ci := 4) (q0 := 0) rfl rfl, fun U hU hW => ⟨rfl, by rw [hU], by rw [hU]; exact hPc, va_K.moved hW.alike hKc, hDc⟩⟩ rfl rfl hl.1 rfl (lv_room (Nat.le_of_ble_eq_true rfl)) dL_law_730 ⟨by show 22 + 4 * jj + 1 + 0 ≤ 60000; omega, by show 78425 + 12550 * jj + 12550 + 0 ≤ 8922250; omega⟩) (fun r2 u9 H locs hw hP hD hS => ?_)
    obtain ⟨cs3, cd3⟩ := u9
    try dsimp only at hw hP hD
    have hm := hw
    clear hw
    refine lv_pop hx hb dL_law_733 rfl ?_
    have hP := va_P_perm pM hP
    have hD := va_D_perm pM hD
    have hP : va_P (dC, dI) vwCl (gw h kq (xA sp) k o2 b kp ga gl ++ kw cB k kL kb ++ ow cB o2 12550 cs2 cd2 ++ sw cB cI b sz st us mK pK lK ++ (krw cS kq (fun j => xA (kf j)) ++ (xW cB cI sp ++ kW cB cI kf)) ++ mw cI a sz st us kp ga gl cs3 mem pl ln km ks kt ku kl kn cd3 wt) H := hP
    have hD : va_D A (gw h kq (xA sp) k o2 b kp ga gl ++ kw cB k kL kb ++ ow cB o2 12550 cs2 cd2 ++ sw cB cI b sz st us mK pK lK ++ (krw cS kq (fun j => xA (kf j)) ++ (xW cB cI sp ++ kW cB cI kf)) ++ mw cI a sz st us kp ga gl cs3 mem pl ln km ks kt ku kl kn cd3 wt) := hD
    have hcp := hc.2.1
    rw [wcode_c c1.2.1 c1.2.2.2.1 c1.2.2.2.2] at hcp
    obtain rfl : cs2 = cs3 := Pre_len hcp hm.2.1
    have hP : va_P (dC, dI) vwCl (gw h kq (xA sp) k o2 b kp ga gl ++ kw cB k kL kb ++ ow cB o2 12550 cs2 cd2 ++ sw cB cI b sz st us mK pK lK ++ (krw cS kq (fun j => xA (kf j)) ++ (xW cB cI sp ++ kW cB cI kf)) ++ mw cI a sz st us kp ga gl cs2 mem pl ln km ks kt ku kl kn cd3 wt) H := hP
    have hD : va_D A (gw h kq (xA sp) k o2 b kp ga gl ++ kw cB k kL kb ++ ow cB o2 12550 cs2 cd2 ++ sw cB cI b sz st us mK pK lK ++ (krw cS kq (fun j => xA (kf j)) ++ (xW cB cI sp ++ kW cB cI kf)) ++ mw cI a sz st us kp ga gl cs2 mem pl ln km ks kt ku kl kn cd3 wt) := hD
    refine lv_goto (tgt := 852) hx hb dL_law_734 (by decide) ?_
    refine W.widen (k := 22 + 4 * (jj + 1)) (n := 78425 + 12550 * (jj + 1)) (by omega) (by omega) ?_
    exact tail _ H locs ls ⟨o2, b, sz, st, us, kp, ga, gl, kL, 12550, cs2, mK, pK, lK, kb, cd2, mem, pl, ln, km, ks, kt, ku, kl, kn, cd3, wt, sp, kf, rfl, ⟨c1, c2, c3, c4, c5, ⟨Or.inr rfl, hc.2.2.1, Pre_ag hcp hm.2.1, hc.2.2.2, hm.2.2.2⟩, c7, c8⟩⟩ hP hD hS hl
  · refine lv_aload_n hx hb dL_law_724 rfl (lv_at hl 2 rfl) ?_
    have hKc := hK.sub (tys' := [(cI, .int), (cB, .byte)]) [0, 1] rfl
    refine fr_calli (wc := gw h kq (xA sp) k o b kp ga gl ++ ow cB o oz cs cK ++ sw cB cI b sz st us mK pK lK) (wr := kw cB k kL kb ++ krw cS kq (fun j => xA (kf j)) ++ xW cB cI sp ++ kW cB cI kf ++ mw cI a sz st us kp ga gl cs mem pl ln km ks kt ku kl kn cd wt) (w1 := fun u9 => match u9 with | ⟨cs2, cd2⟩ => gw h kq (xA sp) k o b kp ga gl ++ ow cB o oz cs2 cd2 ++ sw cB cI b sz st us mK pK lK) (Z := fun _ t9 => va_K (dC, dI) vwCl [(cI, .int), (cB, .byte)] t9) (fun u9 t9 q9 => by obtain ⟨cs2, cd2⟩ := u9; exact q9) (pGOS) hP hD hS hA (fun hPc hDc => va_runV (As := []) (rest := []) ⟨hx, hb, hml, hown, hts⟩ (c_X3_writeO l dC dI cB cI cS h kq (xA sp) k o b kp ga gl oz cs cK sz st us mK pK lK H.size  c1.wfK c2.1 c2.2.1 c2.2.2 ho c6.2.2.2.1) (cwV 0 hts gL_law_X3_write rfl rfl rfl (by decide +kernel) ⟨Nat.le_of_ble_eq_true rfl, Nat.le_of_ble_eq_true rfl⟩) ⟨fun a9 U g9 mk9 q9 => by obtain ⟨q0, q1, qP, qK, qD⟩ := q9; exact ⟨q0, q1, qP, va_K.moved (u := U) (U := U.calling g9 mk9 a9) (Vm.Alike.refl U.vm) qK, qD⟩, va_recv hKc hPc (ci := 3) (q0 := 0) rfl rfl, fun U hU hW => ⟨rfl, by rw [hU], by rw [hU]; exact hPc, va_K.moved hW.alike hKc, hDc⟩⟩ rfl rfl hl.1 rfl (lv_room (Nat.le_of_ble_eq_true rfl)) dL_law_725 ⟨by show 22 + 4 * jj + 0 ≤ 60000; omega, by show 78425 + 12550 * jj + 0 ≤ 8922250; omega⟩) (fun r1 u9 H locs hw hP hD hS => ?_)
    obtain ⟨cs2, cd2⟩ := u9
    try dsimp only at hw hP hD
    have hc := hw
    clear hw
    refine lv_pop hx hb dL_law_728 rfl ?_
    have hP := va_P_perm pGOS.symm hP
    have hD := va_D_perm pGOS.symm hD
    have hP : va_P (dC, dI) vwCl (gw h kq (xA sp) k o b kp ga gl ++ kw cB k kL kb ++ ow cB o oz cs2 cd2 ++ sw cB cI b sz st us mK pK lK ++ (krw cS kq (fun j => xA (kf j)) ++ (xW cB cI sp ++ kW cB cI kf)) ++ mw cI a sz st us kp ga gl cs mem pl ln km ks kt ku kl kn cd wt) H := hP
    have hD : va_D A (gw h kq (xA sp) k o b kp ga gl ++ kw cB k kL kb ++ ow cB o oz cs2 cd2 ++ sw cB cI b sz st us mK pK lK ++ (krw cS kq (fun j => xA (kf j)) ++ (xW cB cI sp ++ kW cB cI kf)) ++ mw cI a sz st us kp ga gl cs mem pl ln km ks kt ku kl kn cd wt) := hD
    refine lv_aload_n hx hb dL_law_729 rfl (lv_at hl 1 rfl) ?_
    have hKc := hK.sub (tys' := [(cI, .int)]) [0] rfl
    refine fr_calli (wc := mw cI a sz st us kp ga gl cs mem pl ln km ks kt ku kl kn cd wt) (wr := gw h kq (xA sp) k o b kp ga gl ++ kw cB k kL kb ++ ow cB o oz cs2 cd2 ++ sw cB cI b sz st us mK pK lK ++ (krw cS kq (fun j => xA (kf j)) ++ (xW cB cI sp ++ kW cB cI kf))) (w1 := fun u9 => match u9 with | ⟨cs3, cd3⟩ => mw cI a sz st us kp ga gl cs3 mem pl ln km ks kt ku kl kn cd3 wt) (Z := fun _ t9 => va_K (dC, dI) vwCl [(cI, .int)] t9) (fun u9 t9 q9 => by obtain ⟨cs3, cd3⟩ := u9; exact q9) (pM) hP hD hS hA (fun hPc hDc => va_runV (As := []) (rest := []) ⟨hx, hb, hml, hown, hts⟩ (c_X4_write l dC dI cI a sz st us kp ga gl cs mem pl ln km ks kt ku kl kn cd wt H.size  c1.1 c3.1 c3.2.1 c3.2.2 c6.2.2.2.2) (cwV 0 hts gL_law_X4_write rfl rfl rfl (by decide +kernel) ⟨Nat.le_of_ble_eq_true rfl, Nat.le_of_ble_eq_true rfl⟩) ⟨fun a9 U g9 mk9 q9 => by obtain ⟨q0, q1, qP, qK, qD⟩ := q9; exact ⟨q0, q1, qP, va_K.moved (u := U) (U := U.calling g9 mk9 a9) (Vm.Alike.refl U.vm) qK, qD⟩, va_recv hKc hPc (ci := 4) (q0 := 0) rfl rfl, fun U hU hW => ⟨rfl, by rw [hU], by rw [hU]; exact hPc, va_K.moved hW.alike hKc, hDc⟩⟩ rfl rfl hl.1 rfl (lv_room (Nat.le_of_ble_eq_true rfl)) dL_law_730 ⟨by show 22 + 4 * jj + 0 + 0 ≤ 60000; omega, by show 78425 + 12550 * jj + 0 + 0 ≤ 8922250; omega⟩) (fun r2 u9 H locs hw hP hD hS => ?_)
    obtain ⟨cs3, cd3⟩ := u9
    try dsimp only at hw hP hD
    have hm := hw
    clear hw
    refine lv_pop hx hb dL_law_733 rfl ?_
    have hP := va_P_perm pM hP
    have hD := va_D_perm pM hD
    have hP : va_P (dC, dI) vwCl (gw h kq (xA sp) k o b kp ga gl ++ kw cB k kL kb ++ ow cB o oz cs2 cd2 ++ sw cB cI b sz st us mK pK lK ++ (krw cS kq (fun j => xA (kf j)) ++ (xW cB cI sp ++ kW cB cI kf)) ++ mw cI a sz st us kp ga gl cs3 mem pl ln km ks kt ku kl kn cd3 wt) H := hP
    have hD : va_D A (gw h kq (xA sp) k o b kp ga gl ++ kw cB k kL kb ++ ow cB o oz cs2 cd2 ++ sw cB cI b sz st us mK pK lK ++ (krw cS kq (fun j => xA (kf j)) ++ (xW cB cI sp ++ kW cB cI kf)) ++ mw cI a sz st us kp ga gl cs3 mem pl ln km ks kt ku kl kn cd3 wt) := hD
    have hcp := hc.2.1
    rw [wcode_c c1.2.1 c1.2.2.2.1 c1.2.2.2.2] at hcp
    obtain rfl : cs2 = cs3 := Pre_len hcp hm.2.1
    have hP : va_P (dC, dI) vwCl (gw h kq (xA sp) k o b kp ga gl ++ kw cB k kL kb ++ ow cB o oz cs2 cd2 ++ sw cB cI b sz st us mK pK lK ++ (krw cS kq (fun j => xA (kf j)) ++ (xW cB cI sp ++ kW cB cI kf)) ++ mw cI a sz st us kp ga gl cs2 mem pl ln km ks kt ku kl kn cd3 wt) H := hP
    have hD : va_D A (gw h kq (xA sp) k o b kp ga gl ++ kw cB k kL kb ++ ow cB o oz cs2 cd2 ++ sw cB cI b sz st us mK pK lK ++ (krw cS kq (fun j => xA (kf j)) ++ (xW cB cI sp ++ kW cB cI kf)) ++ mw cI a sz st us kp ga gl cs2 mem pl ln km ks kt ku kl kn cd3 wt) := hD
    refine lv_goto (tgt := 852) hx hb dL_law_734 (by decide) ?_
    refine W.widen (k := 22 + 4 * (jj + 1)) (n := 78425 + 12550 * (jj + 1)) (by omega) (by omega) ?_
    exact tail _ H locs ls ⟨o, b, sz, st, us, kp, ga, gl, kL, oz, cs2, mK, pK, lK, kb, cd2, mem, pl, ln, km, ks, kt, ku, kl, kn, cd3, wt, sp, kf, rfl, ⟨c1, c2, c3, c4, c5, ⟨c6.1, hc.2.2.1, Pre_ag hcp hm.2.1, hc.2.2.2, hm.2.2.2⟩, c7, c8⟩⟩ hP hD hS hl
set_option maxHeartbeats 4000000 in
set_option maxRecDepth 100000 in
theorem lc_code {p : Program} {e : Env} {s : State} {m : MethodId} {below : List Frame} {meth : Method} {c : Code} (l : Launch) {q0 L : Nat} {xs : Nat → Int32} (hL : L ≤ 4096) (C0 : lw_At p s m meth c q0 L xs) (dC : Nat → ClassId) (dI : Nat → Nat → Nat) (cB cI cS : ClassId) (h kq : Nat) (k a : Nat → Nat) (A : Nat → Prop) (hA : ∀ q : Nat, s.heap.size ≤ q → A q) (hbA : ¬ A q0) (hK : va_K (dC, dI) vwCl [(cI, .int), (cB, .byte), (cS, .object "GlulxHeap$State")] s) {i jj : Nat} (hi : i = 8 * jj) (hiL : i + 8 ≤ L) {ws : va_W} {H : Heap} {locs : List Loc} {ls : Array Slot} (hJ : J cB cI cS h kq k a ws) (hP : va_P (dC, dI) vwCl ws H) (hD : va_D A ws) (hS : va_S A s.heap H locs) (hl : lv_has ls 4 [(3, .int (nI i)), (2, .ref (a 0)), (1, .ref h), (0, .ref q0)]) (tail : ∀ (ws : va_W) (H : Heap) (locs : List Loc) (ls : Array Slot), J cB cI cS h kq k a ws → va_P (dC, dI) vwCl ws H → va_D A ws → va_S A s.heap H locs → lv_has ls 4 [(3, .int (nI i)), (2, .ref (a 0)), (1, .ref h), (0, .ref q0)] → W p l e room_1 s m #[Value.ref q0] below meth c H locs (22 + 4 * (jj + 1)) (78425 + 12550 * (jj + 1)) (lw_Z below #[Value.ref q0] s) (F0 m 852 ls [])) : W p l e room_1 s m #[Value.ref q0] below meth c H locs (22 + 4 * jj) (78425 + 12550 * jj) (lw_Z below #[Value.ref q0] s) (F0 m 737 ls []) := by
  obtain ⟨hx, hb, hr, hml, hown, hts0, hX, hbl, hlocks, hgv⟩ := id C0
  have hts : ∀ w ∈ wsL_law, w.before #[Value.ref q0] s = true := fun w h => hts0 w (wsL_law_in w h)
  obtain ⟨o, b, sz, st, us, kp, ga, gl, kL, oz, cs, mK, pK, lK, kb, cK, mem, pl, ln, km, ks, kt, ku, kl, kn, cd, wt, sp, kf, rfl, c1, c2, c3, c4, c5, c6, c7, c8⟩ := hJ
  have hcs : cs ≤ 12550 ∧ oz ≤ 12550 := by have := c6.2.1; rcases c6.1 with q | q <;> omega
  have hst9 := wfB_st c1.1
  refine lv_aload_n hx hb dL_law_737 rfl (lv_at hl 2 rfl) ?_
  refine lv_aload_n hx hb dL_law_738 rfl (lv_at hl 3 rfl) ?_
  refine lv_iload_n hx hb dL_law_739 rfl (lv_at hl 0 rfl) ?_
  refine lv_iconst (v := nI 1) hx hb dL_law_740 (by decide) ?_
  refine lv_iadd hx hb dL_law_741 ?_
  refine tpi (nI_add i 1) ?_
  refine va_sld hx hb hX hbl hbA hS (vp_in_nI (by omega) (by omega)) dL_law_742 ?_
  refine tpi (show xs (nI (i + 1)).toNatClampNeg = xs (i + 1) by rw [nI_clamp (by omega)]) ?_
  have hKc := hK.sub (tys' := [(cI, .int), (cB, .byte)]) [0, 1] rfl
  have hPc : va_P (dC, dI) vwCl (gw h kq (xA sp) k o b kp ga gl ++ kw cB k kL kb ++ ow cB o oz cs cK ++ sw cB cI b sz st us mK pK lK) H := va_P_left (va_P_perm (pGKOS) hP)
  refine vp_callSi (W.runV (As := [.int (xs (i + 1))]) (rest := []) ⟨hx, hb, hml, hown, hts⟩ (c_X3_code l dC dI cB cI h kq (xA sp) k o b kp ga gl kL kb oz cs cK sz st us mK pK lK (xs (i + 1)) c6.2.1 (by omega) c6.2.2.2.1) (cwV 1 hts gL_law_X3_code rfl rfl rfl (by decide +kernel) ⟨Nat.le_of_ble_eq_true rfl, Nat.le_of_ble_eq_true rfl⟩) ⟨fun a9 U g9 mk9 q9 => by obtain ⟨q0, qP, qK⟩ := q9; exact ⟨q0, qP, va_K.moved (u := U) (U := U.calling g9 mk9 a9) (Vm.Alike.refl U.vm) qK⟩, va_recv hKc hPc (ci := 3) (q0 := 0) rfl rfl, fun U hU hW => ⟨rfl, by rw [hU]; exact hPc, va_K.moved hW.alike hKc⟩⟩ rfl rfl hl.1 rfl (lv_room (Nat.le_of_ble_eq_true rfl)) dL_law_743 ⟨by show 22 + 4 * jj + 0 ≤ 60000; omega, by show 78425 + 12550 * jj + 0 ≤ 8922250; omega⟩) (fun r1 hw => ?_)
  have hc := hw
  clear hw
  refine lv_pop hx hb dL_law_746 rfl ?_
  refine lv_aload_n hx hb dL_law_747 rfl (lv_at hl 1 rfl) ?_
  refine lv_aload_n hx hb dL_law_748 rfl (lv_at hl 3 rfl) ?_
  refine lv_iload_n hx hb dL_law_749 rfl (lv_at hl 0 rfl) ?_
  refine lv_iconst (v := nI 1) hx hb dL_law_750 (by decide) ?_
  refine lv_iadd hx hb dL_law_751 ?_
  refine tpi (nI_add i 1) ?_
  refine va_sld hx hb hX hbl hbA hS (vp_in_nI (by omega) (by omega)) dL_law_752 ?_
  refine tpi (show xs (nI (i + 1)).toNatClampNeg = xs (i + 1) by rw [nI_clamp (by omega)]) ?_
  have hKc := hK.sub (tys' := [(cI, .int)]) [0] rfl
  have hPc : va_P (dC, dI) vwCl (mw cI a sz st us kp ga gl cs mem pl ln km ks kt ku kl kn cd wt) H := va_P_left (va_P_perm (pM) hP)
  refine vp_callSi (W.runV (As := [.int (xs (i + 1))]) (rest := []) ⟨hx, hb, hml, hown, hts⟩ (c_X4_code l dC dI cI a sz st us kp ga gl cs mem pl ln km ks kt ku kl kn cd wt (xs (i + 1)) (by omega)) (cwV 1 hts gL_law_X4_code rfl rfl rfl (by decide +kernel) ⟨Nat.le_of_ble_eq_true rfl, Nat.le_of_ble_eq_true rfl⟩) ⟨fun a9 U g9 mk9 q9 => by obtain ⟨q0, qP, qK⟩ := q9; exact ⟨q0, qP, va_K.moved (u := U) (U := U.calling g9 mk9 a9) (Vm.Alike.refl U.vm) qK⟩, va_recv hKc hPc (ci := 4) (q0 := 0) rfl rfl, fun U hU hW => ⟨rfl, by rw [hU]; exact hPc, va_K.moved hW.alike hKc⟩⟩ rfl rfl hl.1 rfl (lv_room (Nat.le_of_ble_eq_true rfl)) dL_law_753 ⟨by show 22 + 4 * jj + 0 ≤ 60000; omega, by show 78425 + 12550 * jj + 0 ≤ 8922250; omega⟩) (fun r2 hw => ?_)
  have hm := hw
  clear hw
  refine lv_pop hx hb dL_law_756 rfl ?_
  refine lv_goto (tgt := 852) hx hb dL_law_757 (by decide) ?_
  refine W.widen (k := 22 + 4 * (jj + 1)) (n := 78425 + 12550 * (jj + 1)) (by omega) (by omega) ?_
  exact tail _ H locs ls ⟨o, b, sz, st, us, kp, ga, gl, kL, oz, cs, mK, pK, lK, kb, cK, mem, pl, ln, km, ks, kt, ku, kl, kn, cd, wt, sp, kf, rfl, ⟨c1, c2, c3, c4, c5, c6, c7, c8⟩⟩ hP hD hS hl
set_option maxHeartbeats 4000000 in
set_option maxRecDepth 100000 in
theorem lc_poke {p : Program} {e : Env} {s : State} {m : MethodId} {below : List Frame} {meth : Method} {c : Code} (l : Launch) {q0 L : Nat} {xs : Nat → Int32} (hL : L ≤ 4096) (C0 : lw_At p s m meth c q0 L xs) (dC : Nat → ClassId) (dI : Nat → Nat → Nat) (cB cI cS : ClassId) (h kq : Nat) (k a : Nat → Nat) (A : Nat → Prop) (hA : ∀ q : Nat, s.heap.size ≤ q → A q) (hbA : ¬ A q0) (hK : va_K (dC, dI) vwCl [(cI, .int), (cB, .byte), (cS, .object "GlulxHeap$State")] s) {i jj : Nat} (hi : i = 8 * jj) (hiL : i + 8 ≤ L) {ws : va_W} {H : Heap} {locs : List Loc} {ls : Array Slot} (hJ : J cB cI cS h kq k a ws) (hP : va_P (dC, dI) vwCl ws H) (hD : va_D A ws) (hS : va_S A s.heap H locs) (hl : lv_has ls 4 [(3, .int (nI i)), (2, .ref (a 0)), (1, .ref h), (0, .ref q0)]) (tail : ∀ (ws : va_W) (H : Heap) (locs : List Loc) (ls : Array Slot), J cB cI cS h kq k a ws → va_P (dC, dI) vwCl ws H → va_D A ws → va_S A s.heap H locs → lv_has ls 4 [(3, .int (nI i)), (2, .ref (a 0)), (1, .ref h), (0, .ref q0)] → W p l e room_1 s m #[Value.ref q0] below meth c H locs (22 + 4 * (jj + 1)) (78425 + 12550 * (jj + 1)) (lw_Z below #[Value.ref q0] s) (F0 m 852 ls [])) : W p l e room_1 s m #[Value.ref q0] below meth c H locs (22 + 4 * jj) (78425 + 12550 * jj) (lw_Z below #[Value.ref q0] s) (F0 m 760 ls []) := by
  obtain ⟨hx, hb, hr, hml, hown, hts0, hX, hbl, hlocks, hgv⟩ := id C0
  have hts : ∀ w ∈ wsL_law, w.before #[Value.ref q0] s = true := fun w h => hts0 w (wsL_law_in w h)
  obtain ⟨o, b, sz, st, us, kp, ga, gl, kL, oz, cs, mK, pK, lK, kb, cK, mem, pl, ln, km, ks, kt, ku, kl, kn, cd, wt, sp, kf, rfl, c1, c2, c3, c4, c5, c6, c7, c8⟩ := hJ
  have hcs : cs ≤ 12550 ∧ oz ≤ 12550 := by have := c6.2.1; rcases c6.1 with q | q <;> omega
  have hst9 := wfB_st c1.1
  refine lv_aload_n hx hb dL_law_760 rfl (lv_at hl 2 rfl) ?_
  refine lv_aload_n hx hb dL_law_761 rfl (lv_at hl 3 rfl) ?_
  refine lv_iload_n hx hb dL_law_762 rfl (lv_at hl 0 rfl) ?_
  refine lv_iconst (v := nI 1) hx hb dL_law_763 (by decide) ?_
  refine lv_iadd hx hb dL_law_764 ?_
  refine tpi (nI_add i 1) ?_
  refine va_sld hx hb hX hbl hbA hS (vp_in_nI (by omega) (by omega)) dL_law_765 ?_
  refine tpi (show xs (nI (i + 1)).toNatClampNeg = xs (i + 1) by rw [nI_clamp (by omega)]) ?_
  refine lv_aload_n hx hb dL_law_766 rfl (lv_at hl 3 rfl) ?_
  refine lv_iload_n hx hb dL_law_767 rfl (lv_at hl 0 rfl) ?_
  refine lv_iconst (v := nI 2) hx hb dL_law_768 (by decide) ?_
  refine lv_iadd hx hb dL_law_769 ?_
  refine tpi (nI_add i 2) ?_
  refine va_sld hx hb hX hbl hbA hS (vp_in_nI (by omega) (by omega)) dL_law_770 ?_
  refine tpi (show xs (nI (i + 2)).toNatClampNeg = xs (i + 2) by rw [nI_clamp (by omega)]) ?_
  have hKc := hK.sub (tys' := [(cI, .int), (cB, .byte)]) [0, 1] rfl
  refine fr_calli (wc := gw h kq (xA sp) k o b kp ga gl ++ kw cB k kL kb ++ ow cB o oz cs cK ++ sw cB cI b sz st us mK pK lK) (wr := krw cS kq (fun j => xA (kf j)) ++ (xW cB cI sp ++ kW cB cI kf) ++ mw cI a sz st us kp ga gl cs mem pl ln km ks kt ku kl kn cd wt) (w1 := fun _ => gw h kq (xA sp) k o b kp ga gl ++ kw cB k kL kb ++ ow cB o oz cs (pkC cs cK (xs (i + 1)) (xs (i + 2))) ++ sw cB cI b sz st us mK pK lK) (Z := fun _ t9 => va_K (dC, dI) vwCl [(cI, .int), (cB, .byte)] t9) (fun _ _ q9 => q9) (pGKOS) hP hD hS hA (fun hPc hDc => va_runV (As := [.int (xs (i + 1)), .int (xs (i + 2))]) (rest := []) ⟨hx, hb, hml, hown, hts⟩ (c_X3_poke l dC dI cB cI h kq (xA sp) k o b kp ga gl kL kb oz cs cK sz st us mK pK lK H.size (xs (i + 1)) (xs (i + 2)) c6.2.1 (by omega) c6.2.2.2.1) (cwV 2 hts gL_law_X3_poke rfl rfl rfl (by decide +kernel) ⟨Nat.le_of_ble_eq_true rfl, Nat.le_of_ble_eq_true rfl⟩) ⟨fun a9 U g9 mk9 q9 => by obtain ⟨q0, q1, qP, qK, qD⟩ := q9; exact ⟨q0, q1, qP, va_K.moved (u := U) (U := U.calling g9 mk9 a9) (Vm.Alike.refl U.vm) qK, qD⟩, va_recv hKc hPc (ci := 3) (q0 := 0) rfl rfl, fun U hU hW => ⟨rfl, by rw [hU], by rw [hU]; exact hPc, va_K.moved hW.alike hKc, hDc⟩⟩ rfl rfl hl.1 rfl (lv_room (Nat.le_of_ble_eq_true rfl)) dL_law_771 ⟨by show 22 + 4 * jj + 0 ≤ 60000; omega, by show 78425 + 12550 * jj + 0 ≤ 8922250; omega⟩) (fun r1 _ H locs hw hP hD hS => ?_)
  try dsimp only at hw hP hD
  have hc := hw
  clear hw
  refine lv_pop hx hb dL_law_774 rfl ?_
  have hP := va_P_perm pGKOS.symm hP
  have hD := va_D_perm pGKOS.symm hD
  have hP : va_P (dC, dI) vwCl (gw h kq (xA sp) k o b kp ga gl ++ kw cB k kL kb ++ ow cB o oz cs (pkC cs cK (xs (i + 1)) (xs (i + 2))) ++ sw cB cI b sz st us mK pK lK ++ (krw cS kq (fun j => xA (kf j)) ++ (xW cB cI sp ++ kW cB cI kf)) ++ mw cI a sz st us kp ga gl cs mem pl ln km ks kt ku kl kn cd wt) H := hP
  have hD : va_D A (gw h kq (xA sp) k o b kp ga gl ++ kw cB k kL kb ++ ow cB o oz cs (pkC cs cK (xs (i + 1)) (xs (i + 2))) ++ sw cB cI b sz st us mK pK lK ++ (krw cS kq (fun j => xA (kf j)) ++ (xW cB cI sp ++ kW cB cI kf)) ++ mw cI a sz st us kp ga gl cs mem pl ln km ks kt ku kl kn cd wt) := hD
  refine lv_aload_n hx hb dL_law_775 rfl (lv_at hl 1 rfl) ?_
  refine lv_aload_n hx hb dL_law_776 rfl (lv_at hl 3 rfl) ?_
  refine lv_iload_n hx hb dL_law_777 rfl (lv_at hl 0 rfl) ?_
  refine lv_iconst (v := nI 1) hx hb dL_law_778 (by decide) ?_
  refine lv_iadd hx hb dL_law_779 ?_
  refine tpi (nI_add i 1) ?_
  refine va_sld hx hb hX hbl hbA hS (vp_in_nI (by omega) (by omega)) dL_law_780 ?_
  refine tpi (show xs (nI (i + 1)).toNatClampNeg = xs (i + 1) by rw [nI_clamp (by omega)]) ?_
  refine lv_aload_n hx hb dL_law_781 rfl (lv_at hl 3 rfl) ?_
  refine lv_iload_n hx hb dL_law_782 rfl (lv_at hl 0 rfl) ?_
  refine lv_iconst (v := nI 2) hx hb dL_law_783 (by decide) ?_
  refine lv_iadd hx hb dL_law_784 ?_
  refine tpi (nI_add i 2) ?_
  refine va_sld hx hb hX hbl hbA hS (vp_in_nI (by omega) (by omega)) dL_law_785 ?_
  refine tpi (show xs (nI (i + 2)).toNatClampNeg = xs (i + 2) by rw [nI_clamp (by omega)]) ?_
  have hKc := hK.sub (tys' := [(cI, .int)]) [0] rfl
  refine fr_calli (wc := mw cI a sz st us kp ga gl cs mem pl ln km ks kt ku kl kn cd wt) (wr := gw h kq (xA sp) k o b kp ga gl ++ kw cB k kL kb ++ ow cB o oz cs (pkC cs cK (xs (i + 1)) (xs (i + 2))) ++ sw cB cI b sz st us mK pK lK ++ (krw cS kq (fun j => xA (kf j)) ++ (xW cB cI sp ++ kW cB cI kf))) (w1 := fun _ => mw cI a sz st us kp ga gl cs mem pl ln km ks kt ku kl kn (pkC cs cd (xs (i + 1)) (xs (i + 2))) wt) (Z := fun _ t9 => va_K (dC, dI) vwCl [(cI, .int)] t9) (fun _ _ q9 => q9) (pM) hP hD hS hA (fun hPc hDc => va_runV (As := [.int (xs (i + 1)), .int (xs (i + 2))]) (rest := []) ⟨hx, hb, hml, hown, hts⟩ (c_X4_poke l dC dI cI a sz st us kp ga gl cs mem pl ln km ks kt ku kl kn cd wt H.size (xs (i + 1)) (xs (i + 2)) (by omega)) (cwV 2 hts gL_law_X4_poke rfl rfl rfl (by decide +kernel) ⟨Nat.le_of_ble_eq_true rfl, Nat.le_of_ble_eq_true rfl⟩) ⟨fun a9 U g9 mk9 q9 => by obtain ⟨q0, q1, qP, qK, qD⟩ := q9; exact ⟨q0, q1, qP, va_K.moved (u := U) (U := U.calling g9 mk9 a9) (Vm.Alike.refl U.vm) qK, qD⟩, va_recv hKc hPc (ci := 4) (q0 := 0) rfl rfl, fun U hU hW => ⟨rfl, by rw [hU], by rw [hU]; exact hPc, va_K.moved hW.alike hKc, hDc⟩⟩ rfl rfl hl.1 rfl (lv_room (Nat.le_of_ble_eq_true rfl)) dL_law_786 ⟨by show 22 + 4 * jj + 0 + 0 ≤ 60000; omega, by show 78425 + 12550 * jj + 0 + 0 ≤ 8922250; omega⟩) (fun r2 _ H locs hw hP hD hS => ?_)
  try dsimp only at hw hP hD
  have hm := hw
  clear hw
  refine lv_pop hx hb dL_law_789 rfl ?_
  have hP := va_P_perm pM hP
  have hD := va_D_perm pM hD
  have hP : va_P (dC, dI) vwCl (gw h kq (xA sp) k o b kp ga gl ++ kw cB k kL kb ++ ow cB o oz cs (pkC cs cK (xs (i + 1)) (xs (i + 2))) ++ sw cB cI b sz st us mK pK lK ++ (krw cS kq (fun j => xA (kf j)) ++ (xW cB cI sp ++ kW cB cI kf)) ++ mw cI a sz st us kp ga gl cs mem pl ln km ks kt ku kl kn (pkC cs cd (xs (i + 1)) (xs (i + 2))) wt) H := hP
  have hD : va_D A (gw h kq (xA sp) k o b kp ga gl ++ kw cB k kL kb ++ ow cB o oz cs (pkC cs cK (xs (i + 1)) (xs (i + 2))) ++ sw cB cI b sz st us mK pK lK ++ (krw cS kq (fun j => xA (kf j)) ++ (xW cB cI sp ++ kW cB cI kf)) ++ mw cI a sz st us kp ga gl cs mem pl ln km ks kt ku kl kn (pkC cs cd (xs (i + 1)) (xs (i + 2))) wt) := hD
  refine lv_goto (tgt := 852) hx hb dL_law_790 (by decide) ?_
  refine W.widen (k := 22 + 4 * (jj + 1)) (n := 78425 + 12550 * (jj + 1)) (by omega) (by omega) ?_
  exact tail _ H locs ls ⟨o, b, sz, st, us, kp, ga, gl, kL, oz, cs, mK, pK, lK, kb, pkC cs cK (xs (i + 1)) (xs (i + 2)), mem, pl, ln, km, ks, kt, ku, kl, kn, pkC cs cd (xs (i + 1)) (xs (i + 2)), wt, sp, kf, rfl, ⟨c1, c2, c3, c4, c5, ⟨c6.1, c6.2.1, pkC_c c6.2.2.1 _ _, pkC_lt c6.2.2.2.1 _ _, pkC_lt c6.2.2.2.2 _ _⟩, c7, c8⟩⟩ hP hD hS hl
set_option maxHeartbeats 4000000 in
set_option maxRecDepth 100000 in
theorem lc_cut {p : Program} {e : Env} {s : State} {m : MethodId} {below : List Frame} {meth : Method} {c : Code} (l : Launch) {q0 L : Nat} {xs : Nat → Int32} (hL : L ≤ 4096) (C0 : lw_At p s m meth c q0 L xs) (dC : Nat → ClassId) (dI : Nat → Nat → Nat) (cB cI cS : ClassId) (h kq : Nat) (k a : Nat → Nat) (A : Nat → Prop) (hA : ∀ q : Nat, s.heap.size ≤ q → A q) (hbA : ¬ A q0) (hK : va_K (dC, dI) vwCl [(cI, .int), (cB, .byte), (cS, .object "GlulxHeap$State")] s) {i jj : Nat} (hi : i = 8 * jj) (hiL : i + 8 ≤ L) {ws : va_W} {H : Heap} {locs : List Loc} {ls : Array Slot} (hJ : J cB cI cS h kq k a ws) (hP : va_P (dC, dI) vwCl ws H) (hD : va_D A ws) (hS : va_S A s.heap H locs) (hl : lv_has ls 4 [(3, .int (nI i)), (2, .ref (a 0)), (1, .ref h), (0, .ref q0)]) (tail : ∀ (ws : va_W) (H : Heap) (locs : List Loc) (ls : Array Slot), J cB cI cS h kq k a ws → va_P (dC, dI) vwCl ws H → va_D A ws → va_S A s.heap H locs → lv_has ls 4 [(3, .int (nI i)), (2, .ref (a 0)), (1, .ref h), (0, .ref q0)] → W p l e room_1 s m #[Value.ref q0] below meth c H locs (22 + 4 * (jj + 1)) (78425 + 12550 * (jj + 1)) (lw_Z below #[Value.ref q0] s) (F0 m 852 ls [])) : W p l e room_1 s m #[Value.ref q0] below meth c H locs (22 + 4 * jj) (78425 + 12550 * jj) (lw_Z below #[Value.ref q0] s) (F0 m 793 ls []) := by
  obtain ⟨hx, hb, hr, hml, hown, hts0, hX, hbl, hlocks, hgv⟩ := id C0
  have hts : ∀ w ∈ wsL_law, w.before #[Value.ref q0] s = true := fun w h => hts0 w (wsL_law_in w h)
  obtain ⟨o, b, sz, st, us, kp, ga, gl, kL, oz, cs, mK, pK, lK, kb, cK, mem, pl, ln, km, ks, kt, ku, kl, kn, cd, wt, sp, kf, rfl, c1, c2, c3, c4, c5, c6, c7, c8⟩ := hJ
  have hcs : cs ≤ 12550 ∧ oz ≤ 12550 := by have := c6.2.1; rcases c6.1 with q | q <;> omega
  have hst9 := wfB_st c1.1
  refine lv_aload_n hx hb dL_law_793 rfl (lv_at hl 2 rfl) ?_
  refine lv_aload_n hx hb dL_law_794 rfl (lv_at hl 3 rfl) ?_
  refine lv_iload_n hx hb dL_law_795 rfl (lv_at hl 0 rfl) ?_
  refine lv_iconst (v := nI 1) hx hb dL_law_796 (by decide) ?_
  refine lv_iadd hx hb dL_law_797 ?_
  refine tpi (nI_add i 1) ?_
  refine va_sld hx hb hX hbl hbA hS (vp_in_nI (by omega) (by omega)) dL_law_798 ?_
  refine tpi (show xs (nI (i + 1)).toNatClampNeg = xs (i + 1) by rw [nI_clamp (by omega)]) ?_
  have hKc := hK.sub (tys' := [(cI, .int), (cB, .byte)]) [0, 1] rfl
  refine fr_calli (wc := gw h kq (xA sp) k o b kp ga gl ++ kw cB k kL kb ++ ow cB o oz cs cK ++ sw cB cI b sz st us mK pK lK) (wr := krw cS kq (fun j => xA (kf j)) ++ (xW cB cI sp ++ kW cB cI kf) ++ mw cI a sz st us kp ga gl cs mem pl ln km ks kt ku kl kn cd wt) (w1 := fun _ => gw h kq (xA sp) k o b kp ga gl ++ kw cB k kL kb ++ ow cB o oz (ctS cs (xs (i + 1))) cK ++ sw cB cI b sz st us mK pK lK) (Z := fun _ t9 => va_K (dC, dI) vwCl [(cI, .int), (cB, .byte)] t9) (fun _ _ q9 => q9) (pGKOS) hP hD hS hA (fun hPc hDc => va_runV (As := [.int (xs (i + 1))]) (rest := []) ⟨hx, hb, hml, hown, hts⟩ (c_X3_cut l dC dI cB cI h kq (xA sp) k o b kp ga gl kL kb oz cs cK sz st us mK pK lK H.size (xs (i + 1)) (by omega)) (cwV 1 hts gL_law_X3_cut rfl rfl rfl (by decide +kernel) ⟨Nat.le_of_ble_eq_true rfl, Nat.le_of_ble_eq_true rfl⟩) ⟨fun a9 U g9 mk9 q9 => by obtain ⟨q0, q1, qP, qK, qD⟩ := q9; exact ⟨q0, q1, qP, va_K.moved (u := U) (U := U.calling g9 mk9 a9) (Vm.Alike.refl U.vm) qK, qD⟩, va_recv hKc hPc (ci := 3) (q0 := 0) rfl rfl, fun U hU hW => ⟨rfl, by rw [hU], by rw [hU]; exact hPc, va_K.moved hW.alike hKc, hDc⟩⟩ rfl rfl hl.1 rfl (lv_room (Nat.le_of_ble_eq_true rfl)) dL_law_799 ⟨by show 22 + 4 * jj + 0 ≤ 60000; omega, by show 78425 + 12550 * jj + 0 ≤ 8922250; omega⟩) (fun r1 _ H locs hw hP hD hS => ?_)
  try dsimp only at hw hP hD
  have hc := hw
  clear hw
  refine lv_pop hx hb dL_law_802 rfl ?_
  have hP := va_P_perm pGKOS.symm hP
  have hD := va_D_perm pGKOS.symm hD
  have hP : va_P (dC, dI) vwCl (gw h kq (xA sp) k o b kp ga gl ++ kw cB k kL kb ++ ow cB o oz (ctS cs (xs (i + 1))) cK ++ sw cB cI b sz st us mK pK lK ++ (krw cS kq (fun j => xA (kf j)) ++ (xW cB cI sp ++ kW cB cI kf)) ++ mw cI a sz st us kp ga gl cs mem pl ln km ks kt ku kl kn cd wt) H := hP
  have hD : va_D A (gw h kq (xA sp) k o b kp ga gl ++ kw cB k kL kb ++ ow cB o oz (ctS cs (xs (i + 1))) cK ++ sw cB cI b sz st us mK pK lK ++ (krw cS kq (fun j => xA (kf j)) ++ (xW cB cI sp ++ kW cB cI kf)) ++ mw cI a sz st us kp ga gl cs mem pl ln km ks kt ku kl kn cd wt) := hD
  refine lv_aload_n hx hb dL_law_803 rfl (lv_at hl 1 rfl) ?_
  refine lv_aload_n hx hb dL_law_804 rfl (lv_at hl 3 rfl) ?_
  refine lv_iload_n hx hb dL_law_805 rfl (lv_at hl 0 rfl) ?_
  refine lv_iconst (v := nI 1) hx hb dL_law_806 (by decide) ?_
  refine lv_iadd hx hb dL_law_807 ?_
  refine tpi (nI_add i 1) ?_
  refine va_sld hx hb hX hbl hbA hS (vp_in_nI (by omega) (by omega)) dL_law_808 ?_
  refine tpi (show xs (nI (i + 1)).toNatClampNeg = xs (i + 1) by rw [nI_clamp (by omega)]) ?_
  have hKc := hK.sub (tys' := [(cI, .int)]) [0] rfl
  refine fr_calli (wc := mw cI a sz st us kp ga gl cs mem pl ln km ks kt ku kl kn cd wt) (wr := gw h kq (xA sp) k o b kp ga gl ++ kw cB k kL kb ++ ow cB o oz (ctS cs (xs (i + 1))) cK ++ sw cB cI b sz st us mK pK lK ++ (krw cS kq (fun j => xA (kf j)) ++ (xW cB cI sp ++ kW cB cI kf))) (w1 := fun _ => mw cI a sz st us kp ga gl (ctS cs (xs (i + 1))) mem pl ln km ks kt ku kl kn cd wt) (Z := fun _ t9 => va_K (dC, dI) vwCl [(cI, .int)] t9) (fun _ _ q9 => q9) (pM) hP hD hS hA (fun hPc hDc => va_runV (As := [.int (xs (i + 1))]) (rest := []) ⟨hx, hb, hml, hown, hts⟩ (c_X4_cut l dC dI cI a sz st us kp ga gl cs mem pl ln km ks kt ku kl kn cd wt H.size (xs (i + 1)) (by omega)) (cwV 1 hts gL_law_X4_cut rfl rfl rfl (by decide +kernel) ⟨Nat.le_of_ble_eq_true rfl, Nat.le_of_ble_eq_true rfl⟩) ⟨fun a9 U g9 mk9 q9 => by obtain ⟨q0, q1, qP, qK, qD⟩ := q9; exact ⟨q0, q1, qP, va_K.moved (u := U) (U := U.calling g9 mk9 a9) (Vm.Alike.refl U.vm) qK, qD⟩, va_recv hKc hPc (ci := 4) (q0 := 0) rfl rfl, fun U hU hW => ⟨rfl, by rw [hU], by rw [hU]; exact hPc, va_K.moved hW.alike hKc, hDc⟩⟩ rfl rfl hl.1 rfl (lv_room (Nat.le_of_ble_eq_true rfl)) dL_law_809 ⟨by show 22 + 4 * jj + 0 + 0 ≤ 60000; omega, by show 78425 + 12550 * jj + 0 + 0 ≤ 8922250; omega⟩) (fun r2 _ H locs hw hP hD hS => ?_)
  try dsimp only at hw hP hD
  have hm := hw
  clear hw
  refine lv_pop hx hb dL_law_812 rfl ?_
  have hP := va_P_perm pM hP
  have hD := va_D_perm pM hD
  have hP : va_P (dC, dI) vwCl (gw h kq (xA sp) k o b kp ga gl ++ kw cB k kL kb ++ ow cB o oz (ctS cs (xs (i + 1))) cK ++ sw cB cI b sz st us mK pK lK ++ (krw cS kq (fun j => xA (kf j)) ++ (xW cB cI sp ++ kW cB cI kf)) ++ mw cI a sz st us kp ga gl (ctS cs (xs (i + 1))) mem pl ln km ks kt ku kl kn cd wt) H := hP
  have hD : va_D A (gw h kq (xA sp) k o b kp ga gl ++ kw cB k kL kb ++ ow cB o oz (ctS cs (xs (i + 1))) cK ++ sw cB cI b sz st us mK pK lK ++ (krw cS kq (fun j => xA (kf j)) ++ (xW cB cI sp ++ kW cB cI kf)) ++ mw cI a sz st us kp ga gl (ctS cs (xs (i + 1))) mem pl ln km ks kt ku kl kn cd wt) := hD
  refine lv_goto (tgt := 852) hx hb dL_law_813 (by decide) ?_
  refine W.widen (k := 22 + 4 * (jj + 1)) (n := 78425 + 12550 * (jj + 1)) (by omega) (by omega) ?_
  exact tail _ H locs ls ⟨o, b, sz, st, us, kp, ga, gl, kL, oz, ctS cs (xs (i + 1)), mK, pK, lK, kb, cK, mem, pl, ln, km, ks, kt, ku, kl, kn, cd, wt, sp, kf, rfl, ⟨c1, c2, c3, c4, c5, ⟨c6.1, Nat.le_trans (ctS_le _ _) c6.2.1, fun j hj => c6.2.2.1 j (Nat.lt_of_lt_of_le hj (ctS_le _ _)), c6.2.2.2⟩, c7, c8⟩⟩ hP hD hS hl
set_option maxHeartbeats 4000000 in
set_option maxRecDepth 100000 in
theorem lc_read {p : Program} {e : Env} {s : State} {m : MethodId} {below : List Frame} {meth : Method} {c : Code} (l : Launch) {q0 L : Nat} {xs : Nat → Int32} (hL : L ≤ 4096) (C0 : lw_At p s m meth c q0 L xs) (dC : Nat → ClassId) (dI : Nat → Nat → Nat) (cB cI cS : ClassId) (h kq : Nat) (k a : Nat → Nat) (A : Nat → Prop) (hA : ∀ q : Nat, s.heap.size ≤ q → A q) (hbA : ¬ A q0) (hK : va_K (dC, dI) vwCl [(cI, .int), (cB, .byte), (cS, .object "GlulxHeap$State")] s) {i jj : Nat} (hi : i = 8 * jj) (hiL : i + 8 ≤ L) {ws : va_W} {H : Heap} {locs : List Loc} {ls : Array Slot} (hJ : J cB cI cS h kq k a ws) (hP : va_P (dC, dI) vwCl ws H) (hD : va_D A ws) (hS : va_S A s.heap H locs) (hl : lv_has ls 4 [(3, .int (nI i)), (2, .ref (a 0)), (1, .ref h), (0, .ref q0)]) (tail : ∀ (ws : va_W) (H : Heap) (locs : List Loc) (ls : Array Slot), J cB cI cS h kq k a ws → va_P (dC, dI) vwCl ws H → va_D A ws → va_S A s.heap H locs → lv_has ls 4 [(3, .int (nI i)), (2, .ref (a 0)), (1, .ref h), (0, .ref q0)] → W p l e room_1 s m #[Value.ref q0] below meth c H locs (22 + 4 * (jj + 1)) (78425 + 12550 * (jj + 1)) (lw_Z below #[Value.ref q0] s) (F0 m 852 ls [])) : W p l e room_1 s m #[Value.ref q0] below meth c H locs (22 + 4 * jj) (78425 + 12550 * jj) (lw_Z below #[Value.ref q0] s) (F0 m 816 ls []) := by
  obtain ⟨hx, hb, hr, hml, hown, hts0, hX, hbl, hlocks, hgv⟩ := id C0
  have hts : ∀ w ∈ wsL_law, w.before #[Value.ref q0] s = true := fun w h => hts0 w (wsL_law_in w h)
  obtain ⟨o, b, sz, st, us, kp, ga, gl, kL, oz, cs, mK, pK, lK, kb, cK, mem, pl, ln, km, ks, kt, ku, kl, kn, cd, wt, sp, kf, rfl, c1, c2, c3, c4, c5, c6, c7, c8⟩ := hJ
  have hcs : cs ≤ 12550 ∧ oz ≤ 12550 := by have := c6.2.1; rcases c6.1 with q | q <;> omega
  have hst9 := wfB_st c1.1
  rcases sp with _ | ⟨d, z, s9, u9, m9, p9, l9⟩
  · rcases hrd : rdKS cs cK (outW (zr zf 0 8192) fst 0 64) with w9 | g9
    · have hP : va_P (dC, dI) vwCl (gw h kq none k o b kp ga gl ++ kw cB k kL kb ++ ow cB o oz cs cK ++ sw cB cI b sz st us mK pK lK ++ (krw cS kq (fun j => xA (kf j)) ++ ([] ++ kW cB cI kf)) ++ mw cI a sz st us kp ga gl cs mem pl ln km ks kt ku kl kn cd wt) H := hP
      have hD : va_D A (gw h kq none k o b kp ga gl ++ kw cB k kL kb ++ ow cB o oz cs cK ++ sw cB cI b sz st us mK pK lK ++ (krw cS kq (fun j => xA (kf j)) ++ ([] ++ kW cB cI kf)) ++ mw cI a sz st us kp ga gl cs mem pl ln km ks kt ku kl kn cd wt) := hD
      refine lv_aload_n hx hb dL_law_816 rfl (lv_at hl 2 rfl) ?_
      have hKc := hK.sub (tys' := [(cI, .int), (cB, .byte)]) [0, 1] rfl
      have hN29 := va_Nw.of (w := .methodLinkNest RX3 29 yX2_init "GlulxHeap") rfl (hts0 _ (List.mem_of_getElem? (i := 75) (by decide +kernel)))
      have hN79 := va_Nw.of (w := .methodLinkNest RX0 79 yX3_isSize "GlulxHeap") rfl (hts0 _ (List.mem_of_getElem? (i := 400) (by decide +kernel)))
      refine fr_calli (wc := gw h kq none k o b kp ga gl ++ ow cB o oz cs cK ++ sw cB cI b sz st us mK pK lK) (wr := kw cB k kL kb ++ krw cS kq (fun j => xA (kf j)) ++ kW cB cI kf ++ mw cI a sz st us kp ga gl cs mem pl ln km ks kt ku kl kn cd wt) (w1 := fun u9 => match u9 with | ⟨d, sz9, st9, us9, mem9, pl9, ln9⟩ => gw h kq (some (d 0)) k o b kp ga gl ++ ow cB o oz cs cK ++ sw cB cI b sz st us mK pK lK ++ sw cB cI d sz9 st9 us9 mem9 pl9 ln9) (Z := fun _ t9 => va_K (dC, dI) vwCl [(cI, .int), (cB, .byte)] t9) (fun u9 t9 q9 => by obtain ⟨d, sz9, st9, us9, mem9, pl9, ln9⟩ := u9; exact q9) (pGOS0) hP hD hS hA (fun hPc hDc => va_runV (As := []) (rest := []) ⟨hx, hb, hml, hown, hts⟩ (c_X3_readWN l dC dI cB cI cS h kq k o b kp ga gl oz cs cK sz st us mK pK lK H.size w9 c6.2.1 (by omega) c6.2.2.2.1 hrd) (cwV 0 hts gL_law_X3_read rfl rfl rfl (by decide +kernel) ⟨Nat.le_of_ble_eq_true rfl, Nat.le_of_ble_eq_true rfl⟩) ⟨fun a9 U g9 mk9 q9 => by obtain ⟨q0, q1, qP, qK, qD, qN29, qN79⟩ := q9; exact ⟨q0, q1, qP, va_K.moved (u := U) (U := U.calling g9 mk9 a9) (Vm.Alike.refl U.vm) qK, qD, va_Nw.same rfl rfl qN29, va_Nw.same rfl rfl qN79⟩, va_recv hKc hPc (ci := 3) (q0 := 0) rfl rfl, fun U hU hW => ⟨rfl, by rw [hU], by rw [hU]; exact hPc, va_K.moved hW.alike hKc, hDc, va_Nw.warmM hW hN29, va_Nw.warmM hW hN79⟩⟩ rfl rfl hl.1 rfl (lv_room (Nat.le_of_ble_eq_true rfl)) dL_law_817 ⟨by show 22 + 4 * jj + 4 ≤ 60000; omega, by show 78425 + 12550 * jj + 8326 ≤ 8922250; omega⟩) (fun r1 u9 H locs hw hP hD hS => ?_)
      obtain ⟨d, sz9, st9, us9, mem9, pl9, ln9⟩ := u9
      try dsimp only at hw hP hD
      have hc := hw
      clear hw
      refine lv_pop hx hb dL_law_820 rfl ?_
      have hP := va_P_perm pGOSP.symm hP
      have hD := va_D_perm pGOSP.symm hD
      have hP : va_P (dC, dI) vwCl (gw h kq (some (d 0)) k o b kp ga gl ++ kw cB k kL kb ++ ow cB o oz cs cK ++ sw cB cI b sz st us mK pK lK ++ (krw cS kq (fun j => xA (kf j)) ++ (sw cB cI d sz9 st9 us9 mem9 pl9 ln9 ++ kW cB cI kf)) ++ mw cI a sz st us kp ga gl cs mem pl ln km ks kt ku kl kn cd wt) H := hP
      have hD : va_D A (gw h kq (some (d 0)) k o b kp ga gl ++ kw cB k kL kb ++ ow cB o oz cs cK ++ sw cB cI b sz st us mK pK lK ++ (krw cS kq (fun j => xA (kf j)) ++ (sw cB cI d sz9 st9 us9 mem9 pl9 ln9 ++ kW cB cI kf)) ++ mw cI a sz st us kp ga gl cs mem pl ln km ks kt ku kl kn cd wt) := hD
      refine lv_aload_n hx hb dL_law_821 rfl (lv_at hl 1 rfl) ?_
      have hKc := hK.sub (tys' := [(cI, .int)]) [0] rfl
      refine fr_calli (wc := mw cI a sz st us kp ga gl cs mem pl ln km ks kt ku kl kn cd wt) (wr := gw h kq (some (d 0)) k o b kp ga gl ++ kw cB k kL kb ++ ow cB o oz cs cK ++ sw cB cI b sz st us mK pK lK ++ (krw cS kq (fun j => xA (kf j)) ++ (sw cB cI d sz9 st9 us9 mem9 pl9 ln9 ++ kW cB cI kf))) (w1 := fun u9 => match u9 with | ⟨sz3, st3, us3, mem3, pl3, ln3, km3, ks3, kt3, ku3, kl3, kn3⟩ => mw cI a sz3 st3 us3 kp ga gl cs mem3 pl3 ln3 km3 ks3 kt3 ku3 kl3 kn3 cd wt) (Z := fun _ t9 => va_K (dC, dI) vwCl [(cI, .int)] t9) (fun u9 t9 q9 => by obtain ⟨sz3, st3, us3, mem3, pl3, ln3, km3, ks3, kt3, ku3, kl3, kn3⟩ := u9; exact q9) (pM) hP hD hS hA (fun hPc hDc => va_runV (As := []) (rest := []) ⟨hx, hb, hml, hown, hts⟩ (c_X4_read l dC dI cI a sz st us kp ga gl cs mem pl ln km ks kt ku kl kn cd wt H.size  (by omega) c1.sz8 c4.2.1 c4.2.2 c6.2.2.2.2 (fun j => (c8.2 j).1) (fun j => (c8.2 j).2.1) (fun j => (c8.2 j).2.2.1) (fun j => (c8.2 j).2.2.2.1) (fun j => (c8.2 j).2.2.2.2) c3.1 c8.1 c3.2.1 c3.2.2) (cwV 0 hts gL_law_X4_read rfl rfl rfl (by decide +kernel) ⟨Nat.le_of_ble_eq_true rfl, Nat.le_of_ble_eq_true rfl⟩) ⟨fun a9 U g9 mk9 q9 => by obtain ⟨q0, q1, qP, qK, qD⟩ := q9; exact ⟨q0, q1, qP, va_K.moved (u := U) (U := U.calling g9 mk9 a9) (Vm.Alike.refl U.vm) qK, qD⟩, va_recv hKc hPc (ci := 4) (q0 := 0) rfl rfl, fun U hU hW => ⟨rfl, by rw [hU], by rw [hU]; exact hPc, va_K.moved hW.alike hKc, hDc⟩⟩ rfl rfl hl.1 rfl (lv_room (Nat.le_of_ble_eq_true rfl)) dL_law_822 ⟨by show 22 + 4 * jj + 4 + 0 ≤ 60000; omega, by show 78425 + 12550 * jj + 8326 + 0 ≤ 8922250; omega⟩) (fun r2 u9 H locs hw hP hD hS => ?_)
      obtain ⟨sz3, st3, us3, mem3, pl3, ln3, km3, ks3, kt3, ku3, kl3, kn3⟩ := u9
      try dsimp only at hw hP hD
      have hm := hw
      clear hw
      refine lv_pop hx hb dL_law_825 rfl ?_
      have hP := va_P_perm pM hP
      have hD := va_D_perm pM hD
      have hP : va_P (dC, dI) vwCl (gw h kq (some (d 0)) k o b kp ga gl ++ kw cB k kL kb ++ ow cB o oz cs cK ++ sw cB cI b sz st us mK pK lK ++ (krw cS kq (fun j => xA (kf j)) ++ (sw cB cI d sz9 st9 us9 mem9 pl9 ln9 ++ kW cB cI kf)) ++ mw cI a sz3 st3 us3 kp ga gl cs mem3 pl3 ln3 km3 ks3 kt3 ku3 kl3 kn3 cd wt) H := hP
      have hD : va_D A (gw h kq (some (d 0)) k o b kp ga gl ++ kw cB k kL kb ++ ow cB o oz cs cK ++ sw cB cI b sz st us mK pK lK ++ (krw cS kq (fun j => xA (kf j)) ++ (sw cB cI d sz9 st9 us9 mem9 pl9 ln9 ++ kW cB cI kf)) ++ mw cI a sz3 st3 us3 kp ga gl cs mem3 pl3 ln3 km3 ks3 kt3 ku3 kl3 kn3 cd wt) := hD
      obtain ⟨w8, hw8⟩ := rd_wrong c6.2.2.1 hrd
      rw [hw8] at hm
      obtain ⟨k1, k2, k3, k4, k5, hr9, e1, e2, e3, e4, e5, e6⟩ := hm
      rw [e1, e2, e3, e4, e5, e6] at hP hD
      have hP : va_P (dC, dI) vwCl (gw h kq (some (d 0)) k o b kp ga gl ++ kw cB k kL kb ++ ow cB o oz cs cK ++ sw cB cI b sz st us mK pK lK ++ (krw cS kq (fun j => xA (kf j)) ++ (sw cB cI d sz9 st9 us9 mem9 pl9 ln9 ++ kW cB cI kf)) ++ mw cI a sz st us kp ga gl cs mem pl ln km3 ks3 kt3 ku3 kl3 kn3 cd wt) H := hP
      have hD : va_D A (gw h kq (some (d 0)) k o b kp ga gl ++ kw cB k kL kb ++ ow cB o oz cs cK ++ sw cB cI b sz st us mK pK lK ++ (krw cS kq (fun j => xA (kf j)) ++ (sw cB cI d sz9 st9 us9 mem9 pl9 ln9 ++ kW cB cI kf)) ++ mw cI a sz st us kp ga gl cs mem pl ln km3 ks3 kt3 ku3 kl3 kn3 cd wt) := hD
      refine lv_goto (tgt := 852) hx hb dL_law_826 (by decide) ?_
      refine W.widen (k := 22 + 4 * (jj + 1)) (n := 78425 + 12550 * (jj + 1)) (by omega) (by omega) ?_
      exact tail _ H locs ls ⟨o, b, sz, st, us, kp, ga, gl, kL, oz, cs, mK, pK, lK, kb, cK, mem, pl, ln, km3, ks3, kt3, ku3, kl3, kn3, cd, wt, (some (d, sz9, st9, us9, mem9, pl9, ln9)), kf, rfl, ⟨c1, c2, c3, c4, c5, c6, ⟨KR_scratch c4.1 c7.1 k1 k3 k4, (show SB _ _ _ from ⟨fun j => (hc.2 j).1, fun j => (hc.2 j).2.1, fun j => (hc.2 j).2.2⟩), c7.2.2⟩, k2, k5⟩⟩ hP hD hS hl
    · have hP : va_P (dC, dI) vwCl (gw h kq none k o b kp ga gl ++ kw cB k kL kb ++ ow cB o oz cs cK ++ sw cB cI b sz st us mK pK lK ++ (krw cS kq (fun j => xA (kf j)) ++ ([] ++ kW cB cI kf)) ++ mw cI a sz st us kp ga gl cs mem pl ln km ks kt ku kl kn cd wt) H := hP
      have hD : va_D A (gw h kq none k o b kp ga gl ++ kw cB k kL kb ++ ow cB o oz cs cK ++ sw cB cI b sz st us mK pK lK ++ (krw cS kq (fun j => xA (kf j)) ++ ([] ++ kW cB cI kf)) ++ mw cI a sz st us kp ga gl cs mem pl ln km ks kt ku kl kn cd wt) := hD
      refine lv_aload_n hx hb dL_law_816 rfl (lv_at hl 2 rfl) ?_
      have hKc := hK.sub (tys' := [(cI, .int), (cB, .byte)]) [0, 1] rfl
      have hN29 := va_Nw.of (w := .methodLinkNest RX3 29 yX2_init "GlulxHeap") rfl (hts0 _ (List.mem_of_getElem? (i := 75) (by decide +kernel)))
      have hN79 := va_Nw.of (w := .methodLinkNest RX0 79 yX3_isSize "GlulxHeap") rfl (hts0 _ (List.mem_of_getElem? (i := 400) (by decide +kernel)))
      refine fr_calli (wc := gw h kq none k o b kp ga gl ++ ow cB o oz cs cK ++ sw cB cI b sz st us mK pK lK) (wr := kw cB k kL kb ++ krw cS kq (fun j => xA (kf j)) ++ kW cB cI kf ++ mw cI a sz st us kp ga gl cs mem pl ln km ks kt ku kl kn cd wt) (w1 := fun u9 => match u9 with | ⟨d, pl9, ln9⟩ => gw h kq (some (b 0)) k o d kp ga gl ++ ow cB o oz cs cK ++ sw cB cI b sz st us mK pK lK ++ sw cB cI d (tw cK 0) (tw cK 2) (tw cK 4) (cbM mK g9 ga gl (bth2 sz (tw cK 0))) pl9 ln9) (Z := fun _ t9 => va_K (dC, dI) vwCl [(cI, .int), (cB, .byte)] t9) (fun u9 t9 q9 => by obtain ⟨d, pl9, ln9⟩ := u9; exact q9) (pGOS0) hP hD hS hA (fun hPc hDc => va_runV (As := []) (rest := []) ⟨hx, hb, hml, hown, hts⟩ (c_X3_readRN l dC dI cB cI cS h kq k o b kp ga gl oz cs cK sz st us mK pK lK H.size g9 c6.2.1 (by omega) c6.2.2.2.1 c1.sz8 c4.2.1 c4.2.2 hrd) (cwV 0 hts gL_law_X3_read rfl rfl rfl (by decide +kernel) ⟨Nat.le_of_ble_eq_true rfl, Nat.le_of_ble_eq_true rfl⟩) ⟨fun a9 U g9 mk9 q9 => by obtain ⟨q0, q1, qP, qK, qD, qN29, qN79⟩ := q9; exact ⟨q0, q1, qP, va_K.moved (u := U) (U := U.calling g9 mk9 a9) (Vm.Alike.refl U.vm) qK, qD, va_Nw.same rfl rfl qN29, va_Nw.same rfl rfl qN79⟩, va_recv hKc hPc (ci := 3) (q0 := 0) rfl rfl, fun U hU hW => ⟨rfl, by rw [hU], by rw [hU]; exact hPc, va_K.moved hW.alike hKc, hDc, va_Nw.warmM hW hN29, va_Nw.warmM hW hN79⟩⟩ rfl rfl hl.1 rfl (lv_room (Nat.le_of_ble_eq_true rfl)) dL_law_817 ⟨by show 22 + 4 * jj + 4 ≤ 60000; omega, by show 78425 + 12550 * jj + 8326 ≤ 8922250; omega⟩) (fun r1 u9 H locs hw hP hD hS => ?_)
      obtain ⟨d, pl9, ln9⟩ := u9
      try dsimp only at hw hP hD
      have hc := hw
      clear hw
      refine lv_pop hx hb dL_law_820 rfl ?_
      have hP := va_P_perm pGOPS.symm hP
      have hD := va_D_perm pGOPS.symm hD
      have hP : va_P (dC, dI) vwCl (gw h kq (some (b 0)) k o d kp ga gl ++ kw cB k kL kb ++ ow cB o oz cs cK ++ sw cB cI d (tw cK 0) (tw cK 2) (tw cK 4) (cbM mK g9 ga gl (bth2 sz (tw cK 0))) pl9 ln9 ++ (krw cS kq (fun j => xA (kf j)) ++ (sw cB cI b sz st us mK pK lK ++ kW cB cI kf)) ++ mw cI a sz st us kp ga gl cs mem pl ln km ks kt ku kl kn cd wt) H := hP
      have hD : va_D A (gw h kq (some (b 0)) k o d kp ga gl ++ kw cB k kL kb ++ ow cB o oz cs cK ++ sw cB cI d (tw cK 0) (tw cK 2) (tw cK 4) (cbM mK g9 ga gl (bth2 sz (tw cK 0))) pl9 ln9 ++ (krw cS kq (fun j => xA (kf j)) ++ (sw cB cI b sz st us mK pK lK ++ kW cB cI kf)) ++ mw cI a sz st us kp ga gl cs mem pl ln km ks kt ku kl kn cd wt) := hD
      refine lv_aload_n hx hb dL_law_821 rfl (lv_at hl 1 rfl) ?_
      have hKc := hK.sub (tys' := [(cI, .int)]) [0] rfl
      refine fr_calli (wc := mw cI a sz st us kp ga gl cs mem pl ln km ks kt ku kl kn cd wt) (wr := gw h kq (some (b 0)) k o d kp ga gl ++ kw cB k kL kb ++ ow cB o oz cs cK ++ sw cB cI d (tw cK 0) (tw cK 2) (tw cK 4) (cbM mK g9 ga gl (bth2 sz (tw cK 0))) pl9 ln9 ++ (krw cS kq (fun j => xA (kf j)) ++ (sw cB cI b sz st us mK pK lK ++ kW cB cI kf))) (w1 := fun u9 => match u9 with | ⟨sz3, st3, us3, mem3, pl3, ln3, km3, ks3, kt3, ku3, kl3, kn3⟩ => mw cI a sz3 st3 us3 kp ga gl cs mem3 pl3 ln3 km3 ks3 kt3 ku3 kl3 kn3 cd wt) (Z := fun _ t9 => va_K (dC, dI) vwCl [(cI, .int)] t9) (fun u9 t9 q9 => by obtain ⟨sz3, st3, us3, mem3, pl3, ln3, km3, ks3, kt3, ku3, kl3, kn3⟩ := u9; exact q9) (pM) hP hD hS hA (fun hPc hDc => va_runV (As := []) (rest := []) ⟨hx, hb, hml, hown, hts⟩ (c_X4_read l dC dI cI a sz st us kp ga gl cs mem pl ln km ks kt ku kl kn cd wt H.size  (by omega) c1.sz8 c4.2.1 c4.2.2 c6.2.2.2.2 (fun j => (c8.2 j).1) (fun j => (c8.2 j).2.1) (fun j => (c8.2 j).2.2.1) (fun j => (c8.2 j).2.2.2.1) (fun j => (c8.2 j).2.2.2.2) c3.1 c8.1 c3.2.1 c3.2.2) (cwV 0 hts gL_law_X4_read rfl rfl rfl (by decide +kernel) ⟨Nat.le_of_ble_eq_true rfl, Nat.le_of_ble_eq_true rfl⟩) ⟨fun a9 U g9 mk9 q9 => by obtain ⟨q0, q1, qP, qK, qD⟩ := q9; exact ⟨q0, q1, qP, va_K.moved (u := U) (U := U.calling g9 mk9 a9) (Vm.Alike.refl U.vm) qK, qD⟩, va_recv hKc hPc (ci := 4) (q0 := 0) rfl rfl, fun U hU hW => ⟨rfl, by rw [hU], by rw [hU]; exact hPc, va_K.moved hW.alike hKc, hDc⟩⟩ rfl rfl hl.1 rfl (lv_room (Nat.le_of_ble_eq_true rfl)) dL_law_822 ⟨by show 22 + 4 * jj + 4 + 0 ≤ 60000; omega, by show 78425 + 12550 * jj + 8326 + 0 ≤ 8922250; omega⟩) (fun r2 u9 H locs hw hP hD hS => ?_)
      obtain ⟨sz3, st3, us3, mem3, pl3, ln3, km3, ks3, kt3, ku3, kl3, kn3⟩ := u9
      try dsimp only at hw hP hD
      have hm := hw
      clear hw
      refine lv_pop hx hb dL_law_825 rfl ?_
      have hP := va_P_perm pM hP
      have hD := va_D_perm pM hD
      have hP : va_P (dC, dI) vwCl (gw h kq (some (b 0)) k o d kp ga gl ++ kw cB k kL kb ++ ow cB o oz cs cK ++ sw cB cI d (tw cK 0) (tw cK 2) (tw cK 4) (cbM mK g9 ga gl (bth2 sz (tw cK 0))) pl9 ln9 ++ (krw cS kq (fun j => xA (kf j)) ++ (sw cB cI b sz st us mK pK lK ++ kW cB cI kf)) ++ mw cI a sz3 st3 us3 kp ga gl cs mem3 pl3 ln3 km3 ks3 kt3 ku3 kl3 kn3 cd wt) H := hP
      have hD : va_D A (gw h kq (some (b 0)) k o d kp ga gl ++ kw cB k kL kb ++ ow cB o oz cs cK ++ sw cB cI d (tw cK 0) (tw cK 2) (tw cK 4) (cbM mK g9 ga gl (bth2 sz (tw cK 0))) pl9 ln9 ++ (krw cS kq (fun j => xA (kf j)) ++ (sw cB cI b sz st us mK pK lK ++ kW cB cI kf)) ++ mw cI a sz3 st3 us3 kp ga gl cs mem3 pl3 ln3 km3 ks3 kt3 ku3 kl3 kn3 cd wt) := hD
      obtain ⟨g8, hg8, hrr⟩ := rd_right c6.2.2.1 hrd
      rw [hg8] at hm
      obtain ⟨k1, k2, k3, k4, k5, hr9, e1, e2, e3, hbl9, hm9, hb3⟩ := hm
      rw [e3] at hbl9
      obtain ⟨hSR, t0, t2, t4⟩ := hrr pl9 ln9 pl3 ln3 hc.2.1 hbl9
      rw [e1, ← t0] at hm9
      rw [e1, e2, e3, ← t0, ← t2, ← t4] at hP hD
      have hP : va_P (dC, dI) vwCl (gw h kq (some (b 0)) k o d kp ga gl ++ kw cB k kL kb ++ ow cB o oz cs cK ++ sw cB cI d (tw cK 0) (tw cK 2) (tw cK 4) (cbM mK g9 ga gl (bth2 sz (tw cK 0))) pl9 ln9 ++ (krw cS kq (fun j => xA (kf j)) ++ (sw cB cI b sz st us mK pK lK ++ kW cB cI kf)) ++ mw cI a (tw cK 0) (tw cK 2) (tw cK 4) kp ga gl cs mem3 pl3 ln3 km3 ks3 kt3 ku3 kl3 kn3 cd wt) H := hP
      have hD : va_D A (gw h kq (some (b 0)) k o d kp ga gl ++ kw cB k kL kb ++ ow cB o oz cs cK ++ sw cB cI d (tw cK 0) (tw cK 2) (tw cK 4) (cbM mK g9 ga gl (bth2 sz (tw cK 0))) pl9 ln9 ++ (krw cS kq (fun j => xA (kf j)) ++ (sw cB cI b sz st us mK pK lK ++ kW cB cI kf)) ++ mw cI a (tw cK 0) (tw cK 2) (tw cK 4) kp ga gl cs mem3 pl3 ln3 km3 ks3 kt3 ku3 kl3 kn3 cd wt) := hD
      have hz8 := hSR.sz8
      refine lv_goto (tgt := 852) hx hb dL_law_826 (by decide) ?_
      refine W.widen (k := 22 + 4 * (jj + 1)) (n := 78425 + 12550 * (jj + 1)) (by omega) (by omega) ?_
      exact tail _ H locs ls ⟨o, d, tw cK 0, tw cK 2, tw cK 4, kp, ga, gl, kL, oz, cs, cbM mK g9 ga gl (bth2 sz (tw cK 0)), pl9, ln9, kb, cK, mem3, pl3, ln3, km3, ks3, kt3, ku3, kl3, kn3, cd, wt, (some (b, sz, st, us, mK, pK, lK)), kf, rfl, ⟨c1.come hSR (fun j hj => hm9 j (by omega)) (fun j _ => rfl) (fun j _ => rfl), ⟨cbM_lt c2.1 (fun j => (hc.2.2 j).1) _ _ _, fun j => (hc.2.2 j).2.1, fun j => (hc.2.2 j).2.2⟩, ⟨fun j => (hb3 j).1, fun j => (hb3 j).2.1, fun j => (hb3 j).2.2⟩, c4, c5, c6, ⟨KR_scratch c4.1 c7.1 k1 k3 k4, (show SB _ _ _ from c2), c7.2.2⟩, k2, k5⟩⟩ hP hD hS hl
  · rcases hrd : rdKS cs cK (outW (zr m9 0 8192) fst 0 64) with w9 | g9
    · have hP : va_P (dC, dI) vwCl (gw h kq (some (d 0)) k o b kp ga gl ++ kw cB k kL kb ++ ow cB o oz cs cK ++ sw cB cI b sz st us mK pK lK ++ (krw cS kq (fun j => xA (kf j)) ++ (sw cB cI d z s9 u9 m9 p9 l9 ++ kW cB cI kf)) ++ mw cI a sz st us kp ga gl cs mem pl ln km ks kt ku kl kn cd wt) H := hP
      have hD : va_D A (gw h kq (some (d 0)) k o b kp ga gl ++ kw cB k kL kb ++ ow cB o oz cs cK ++ sw cB cI b sz st us mK pK lK ++ (krw cS kq (fun j => xA (kf j)) ++ (sw cB cI d z s9 u9 m9 p9 l9 ++ kW cB cI kf)) ++ mw cI a sz st us kp ga gl cs mem pl ln km ks kt ku kl kn cd wt) := hD
      refine lv_aload_n hx hb dL_law_816 rfl (lv_at hl 2 rfl) ?_
      have hKc := hK.sub (tys' := [(cI, .int), (cB, .byte)]) [0, 1] rfl
      have hN79 := va_Nw.of (w := .methodLinkNest RX0 79 yX3_isSize "GlulxHeap") rfl (hts0 _ (List.mem_of_getElem? (i := 400) (by decide +kernel)))
      refine fr_calli (wc := gw h kq (some (d 0)) k o b kp ga gl ++ ow cB o oz cs cK ++ sw cB cI b sz st us mK pK lK ++ sw cB cI d z s9 u9 m9 p9 l9) (wr := kw cB k kL kb ++ krw cS kq (fun j => xA (kf j)) ++ kW cB cI kf ++ mw cI a sz st us kp ga gl cs mem pl ln km ks kt ku kl kn cd wt) (w1 := fun u9 => match u9 with | ⟨sz9, st9, us9, mem9, pl9, ln9⟩ => gw h kq (some (d 0)) k o b kp ga gl ++ ow cB o oz cs cK ++ sw cB cI b sz st us mK pK lK ++ sw cB cI d sz9 st9 us9 mem9 pl9 ln9) (Z := fun _ t9 => va_K (dC, dI) vwCl [(cI, .int), (cB, .byte)] t9) (fun u9 t9 q9 => by obtain ⟨sz9, st9, us9, mem9, pl9, ln9⟩ := u9; exact q9) (pGOSP) hP hD hS hA (fun hPc hDc => va_runV (As := []) (rest := []) ⟨hx, hb, hml, hown, hts⟩ (c_X3_readWO l dC dI cB cI cS h kq k o b d kp ga gl oz cs cK sz st us mK pK lK z s9 u9 m9 p9 l9 H.size w9 c6.2.1 (by omega) c6.2.2.2.1 c7.2.1.1 c7.2.1.2.1 c7.2.1.2.2 hrd) (cwV 0 hts gL_law_X3_read rfl rfl rfl (by decide +kernel) ⟨Nat.le_of_ble_eq_true rfl, Nat.le_of_ble_eq_true rfl⟩) ⟨fun a9 U g9 mk9 q9 => by obtain ⟨q0, q1, qP, qK, qD, qN79⟩ := q9; exact ⟨q0, q1, qP, va_K.moved (u := U) (U := U.calling g9 mk9 a9) (Vm.Alike.refl U.vm) qK, qD, va_Nw.same rfl rfl qN79⟩, va_recv hKc hPc (ci := 3) (q0 := 0) rfl rfl, fun U hU hW => ⟨rfl, by rw [hU], by rw [hU]; exact hPc, va_K.moved hW.alike hKc, hDc, va_Nw.warmM hW hN79⟩⟩ rfl rfl hl.1 rfl (lv_room (Nat.le_of_ble_eq_true rfl)) dL_law_817 ⟨by show 22 + 4 * jj + 0 ≤ 60000; omega, by show 78425 + 12550 * jj + 0 ≤ 8922250; omega⟩) (fun r1 u9 H locs hw hP hD hS => ?_)
      obtain ⟨sz9, st9, us9, mem9, pl9, ln9⟩ := u9
      try dsimp only at hw hP hD
      have hc := hw
      clear hw
      refine lv_pop hx hb dL_law_820 rfl ?_
      have hP := va_P_perm pGOSP.symm hP
      have hD := va_D_perm pGOSP.symm hD
      have hP : va_P (dC, dI) vwCl (gw h kq (some (d 0)) k o b kp ga gl ++ kw cB k kL kb ++ ow cB o oz cs cK ++ sw cB cI b sz st us mK pK lK ++ (krw cS kq (fun j => xA (kf j)) ++ (sw cB cI d sz9 st9 us9 mem9 pl9 ln9 ++ kW cB cI kf)) ++ mw cI a sz st us kp ga gl cs mem pl ln km ks kt ku kl kn cd wt) H := hP
      have hD : va_D A (gw h kq (some (d 0)) k o b kp ga gl ++ kw cB k kL kb ++ ow cB o oz cs cK ++ sw cB cI b sz st us mK pK lK ++ (krw cS kq (fun j => xA (kf j)) ++ (sw cB cI d sz9 st9 us9 mem9 pl9 ln9 ++ kW cB cI kf)) ++ mw cI a sz st us kp ga gl cs mem pl ln km ks kt ku kl kn cd wt) := hD
      refine lv_aload_n hx hb dL_law_821 rfl (lv_at hl 1 rfl) ?_
      have hKc := hK.sub (tys' := [(cI, .int)]) [0] rfl
      refine fr_calli (wc := mw cI a sz st us kp ga gl cs mem pl ln km ks kt ku kl kn cd wt) (wr := gw h kq (some (d 0)) k o b kp ga gl ++ kw cB k kL kb ++ ow cB o oz cs cK ++ sw cB cI b sz st us mK pK lK ++ (krw cS kq (fun j => xA (kf j)) ++ (sw cB cI d sz9 st9 us9 mem9 pl9 ln9 ++ kW cB cI kf))) (w1 := fun u9 => match u9 with | ⟨sz3, st3, us3, mem3, pl3, ln3, km3, ks3, kt3, ku3, kl3, kn3⟩ => mw cI a sz3 st3 us3 kp ga gl cs mem3 pl3 ln3 km3 ks3 kt3 ku3 kl3 kn3 cd wt) (Z := fun _ t9 => va_K (dC, dI) vwCl [(cI, .int)] t9) (fun u9 t9 q9 => by obtain ⟨sz3, st3, us3, mem3, pl3, ln3, km3, ks3, kt3, ku3, kl3, kn3⟩ := u9; exact q9) (pM) hP hD hS hA (fun hPc hDc => va_runV (As := []) (rest := []) ⟨hx, hb, hml, hown, hts⟩ (c_X4_read l dC dI cI a sz st us kp ga gl cs mem pl ln km ks kt ku kl kn cd wt H.size  (by omega) c1.sz8 c4.2.1 c4.2.2 c6.2.2.2.2 (fun j => (c8.2 j).1) (fun j => (c8.2 j).2.1) (fun j => (c8.2 j).2.2.1) (fun j => (c8.2 j).2.2.2.1) (fun j => (c8.2 j).2.2.2.2) c3.1 c8.1 c3.2.1 c3.2.2) (cwV 0 hts gL_law_X4_read rfl rfl rfl (by decide +kernel) ⟨Nat.le_of_ble_eq_true rfl, Nat.le_of_ble_eq_true rfl⟩) ⟨fun a9 U g9 mk9 q9 => by obtain ⟨q0, q1, qP, qK, qD⟩ := q9; exact ⟨q0, q1, qP, va_K.moved (u := U) (U := U.calling g9 mk9 a9) (Vm.Alike.refl U.vm) qK, qD⟩, va_recv hKc hPc (ci := 4) (q0 := 0) rfl rfl, fun U hU hW => ⟨rfl, by rw [hU], by rw [hU]; exact hPc, va_K.moved hW.alike hKc, hDc⟩⟩ rfl rfl hl.1 rfl (lv_room (Nat.le_of_ble_eq_true rfl)) dL_law_822 ⟨by show 22 + 4 * jj + 0 + 0 ≤ 60000; omega, by show 78425 + 12550 * jj + 0 + 0 ≤ 8922250; omega⟩) (fun r2 u9 H locs hw hP hD hS => ?_)
      obtain ⟨sz3, st3, us3, mem3, pl3, ln3, km3, ks3, kt3, ku3, kl3, kn3⟩ := u9
      try dsimp only at hw hP hD
      have hm := hw
      clear hw
      refine lv_pop hx hb dL_law_825 rfl ?_
      have hP := va_P_perm pM hP
      have hD := va_D_perm pM hD
      have hP : va_P (dC, dI) vwCl (gw h kq (some (d 0)) k o b kp ga gl ++ kw cB k kL kb ++ ow cB o oz cs cK ++ sw cB cI b sz st us mK pK lK ++ (krw cS kq (fun j => xA (kf j)) ++ (sw cB cI d sz9 st9 us9 mem9 pl9 ln9 ++ kW cB cI kf)) ++ mw cI a sz3 st3 us3 kp ga gl cs mem3 pl3 ln3 km3 ks3 kt3 ku3 kl3 kn3 cd wt) H := hP
      have hD : va_D A (gw h kq (some (d 0)) k o b kp ga gl ++ kw cB k kL kb ++ ow cB o oz cs cK ++ sw cB cI b sz st us mK pK lK ++ (krw cS kq (fun j => xA (kf j)) ++ (sw cB cI d sz9 st9 us9 mem9 pl9 ln9 ++ kW cB cI kf)) ++ mw cI a sz3 st3 us3 kp ga gl cs mem3 pl3 ln3 km3 ks3 kt3 ku3 kl3 kn3 cd wt) := hD
      obtain ⟨w8, hw8⟩ := rd_wrong c6.2.2.1 hrd
      rw [hw8] at hm
      obtain ⟨k1, k2, k3, k4, k5, hr9, e1, e2, e3, e4, e5, e6⟩ := hm
      rw [e1, e2, e3, e4, e5, e6] at hP hD
      have hP : va_P (dC, dI) vwCl (gw h kq (some (d 0)) k o b kp ga gl ++ kw cB k kL kb ++ ow cB o oz cs cK ++ sw cB cI b sz st us mK pK lK ++ (krw cS kq (fun j => xA (kf j)) ++ (sw cB cI d sz9 st9 us9 mem9 pl9 ln9 ++ kW cB cI kf)) ++ mw cI a sz st us kp ga gl cs mem pl ln km3 ks3 kt3 ku3 kl3 kn3 cd wt) H := hP
      have hD : va_D A (gw h kq (some (d 0)) k o b kp ga gl ++ kw cB k kL kb ++ ow cB o oz cs cK ++ sw cB cI b sz st us mK pK lK ++ (krw cS kq (fun j => xA (kf j)) ++ (sw cB cI d sz9 st9 us9 mem9 pl9 ln9 ++ kW cB cI kf)) ++ mw cI a sz st us kp ga gl cs mem pl ln km3 ks3 kt3 ku3 kl3 kn3 cd wt) := hD
      refine lv_goto (tgt := 852) hx hb dL_law_826 (by decide) ?_
      refine W.widen (k := 22 + 4 * (jj + 1)) (n := 78425 + 12550 * (jj + 1)) (by omega) (by omega) ?_
      exact tail _ H locs ls ⟨o, b, sz, st, us, kp, ga, gl, kL, oz, cs, mK, pK, lK, kb, cK, mem, pl, ln, km3, ks3, kt3, ku3, kl3, kn3, cd, wt, (some (d, sz9, st9, us9, mem9, pl9, ln9)), kf, rfl, ⟨c1, c2, c3, c4, c5, c6, ⟨KR_scratch c4.1 c7.1 k1 k3 k4, (show SB _ _ _ from ⟨fun j => (hc.2 j).1, fun j => (hc.2 j).2.1, fun j => (hc.2 j).2.2⟩), c7.2.2⟩, k2, k5⟩⟩ hP hD hS hl
    · have hP : va_P (dC, dI) vwCl (gw h kq (some (d 0)) k o b kp ga gl ++ kw cB k kL kb ++ ow cB o oz cs cK ++ sw cB cI b sz st us mK pK lK ++ (krw cS kq (fun j => xA (kf j)) ++ (sw cB cI d z s9 u9 m9 p9 l9 ++ kW cB cI kf)) ++ mw cI a sz st us kp ga gl cs mem pl ln km ks kt ku kl kn cd wt) H := hP
      have hD : va_D A (gw h kq (some (d 0)) k o b kp ga gl ++ kw cB k kL kb ++ ow cB o oz cs cK ++ sw cB cI b sz st us mK pK lK ++ (krw cS kq (fun j => xA (kf j)) ++ (sw cB cI d z s9 u9 m9 p9 l9 ++ kW cB cI kf)) ++ mw cI a sz st us kp ga gl cs mem pl ln km ks kt ku kl kn cd wt) := hD
      refine lv_aload_n hx hb dL_law_816 rfl (lv_at hl 2 rfl) ?_
      have hKc := hK.sub (tys' := [(cI, .int), (cB, .byte)]) [0, 1] rfl
      have hN79 := va_Nw.of (w := .methodLinkNest RX0 79 yX3_isSize "GlulxHeap") rfl (hts0 _ (List.mem_of_getElem? (i := 400) (by decide +kernel)))
      refine fr_calli (wc := gw h kq (some (d 0)) k o b kp ga gl ++ ow cB o oz cs cK ++ sw cB cI b sz st us mK pK lK ++ sw cB cI d z s9 u9 m9 p9 l9) (wr := kw cB k kL kb ++ krw cS kq (fun j => xA (kf j)) ++ kW cB cI kf ++ mw cI a sz st us kp ga gl cs mem pl ln km ks kt ku kl kn cd wt) (w1 := fun u9 => match u9 with | ⟨pl9, ln9⟩ => gw h kq (some (b 0)) k o d kp ga gl ++ ow cB o oz cs cK ++ sw cB cI b sz st us mK pK lK ++ sw cB cI d (tw cK 0) (tw cK 2) (tw cK 4) (cbM mK g9 ga gl (bth2 sz (tw cK 0))) pl9 ln9) (Z := fun _ t9 => va_K (dC, dI) vwCl [(cI, .int), (cB, .byte)] t9) (fun u9 t9 q9 => by obtain ⟨pl9, ln9⟩ := u9; exact q9) (pGOSP) hP hD hS hA (fun hPc hDc => va_runV (As := []) (rest := []) ⟨hx, hb, hml, hown, hts⟩ (c_X3_readRO l dC dI cB cI cS h kq k o b d kp ga gl oz cs cK sz st us mK pK lK z s9 u9 m9 p9 l9 H.size g9 c6.2.1 (by omega) c6.2.2.2.1 c7.2.1.1 c7.2.1.2.1 c7.2.1.2.2 c1.sz8 c4.2.1 c4.2.2 hrd) (cwV 0 hts gL_law_X3_read rfl rfl rfl (by decide +kernel) ⟨Nat.le_of_ble_eq_true rfl, Nat.le_of_ble_eq_true rfl⟩) ⟨fun a9 U g9 mk9 q9 => by obtain ⟨q0, q1, qP, qK, qD, qN79⟩ := q9; exact ⟨q0, q1, qP, va_K.moved (u := U) (U := U.calling g9 mk9 a9) (Vm.Alike.refl U.vm) qK, qD, va_Nw.same rfl rfl qN79⟩, va_recv hKc hPc (ci := 3) (q0 := 0) rfl rfl, fun U hU hW => ⟨rfl, by rw [hU], by rw [hU]; exact hPc, va_K.moved hW.alike hKc, hDc, va_Nw.warmM hW hN79⟩⟩ rfl rfl hl.1 rfl (lv_room (Nat.le_of_ble_eq_true rfl)) dL_law_817 ⟨by show 22 + 4 * jj + 0 ≤ 60000; omega, by show 78425 + 12550 * jj + 0 ≤ 8922250; omega⟩) (fun r1 u9 H locs hw hP hD hS => ?_)
      obtain ⟨pl9, ln9⟩ := u9
      try dsimp only at hw hP hD
      have hc := hw
      clear hw
      refine lv_pop hx hb dL_law_820 rfl ?_
      have hP := va_P_perm pGOPS.symm hP
      have hD := va_D_perm pGOPS.symm hD
      have hP : va_P (dC, dI) vwCl (gw h kq (some (b 0)) k o d kp ga gl ++ kw cB k kL kb ++ ow cB o oz cs cK ++ sw cB cI d (tw cK 0) (tw cK 2) (tw cK 4) (cbM mK g9 ga gl (bth2 sz (tw cK 0))) pl9 ln9 ++ (krw cS kq (fun j => xA (kf j)) ++ (sw cB cI b sz st us mK pK lK ++ kW cB cI kf)) ++ mw cI a sz st us kp ga gl cs mem pl ln km ks kt ku kl kn cd wt) H := hP
      have hD : va_D A (gw h kq (some (b 0)) k o d kp ga gl ++ kw cB k kL kb ++ ow cB o oz cs cK ++ sw cB cI d (tw cK 0) (tw cK 2) (tw cK 4) (cbM mK g9 ga gl (bth2 sz (tw cK 0))) pl9 ln9 ++ (krw cS kq (fun j => xA (kf j)) ++ (sw cB cI b sz st us mK pK lK ++ kW cB cI kf)) ++ mw cI a sz st us kp ga gl cs mem pl ln km ks kt ku kl kn cd wt) := hD
      refine lv_aload_n hx hb dL_law_821 rfl (lv_at hl 1 rfl) ?_
      have hKc := hK.sub (tys' := [(cI, .int)]) [0] rfl
      refine fr_calli (wc := mw cI a sz st us kp ga gl cs mem pl ln km ks kt ku kl kn cd wt) (wr := gw h kq (some (b 0)) k o d kp ga gl ++ kw cB k kL kb ++ ow cB o oz cs cK ++ sw cB cI d (tw cK 0) (tw cK 2) (tw cK 4) (cbM mK g9 ga gl (bth2 sz (tw cK 0))) pl9 ln9 ++ (krw cS kq (fun j => xA (kf j)) ++ (sw cB cI b sz st us mK pK lK ++ kW cB cI kf))) (w1 := fun u9 => match u9 with | ⟨sz3, st3, us3, mem3, pl3, ln3, km3, ks3, kt3, ku3, kl3, kn3⟩ => mw cI a sz3 st3 us3 kp ga gl cs mem3 pl3 ln3 km3 ks3 kt3 ku3 kl3 kn3 cd wt) (Z := fun _ t9 => va_K (dC, dI) vwCl [(cI, .int)] t9) (fun u9 t9 q9 => by obtain ⟨sz3, st3, us3, mem3, pl3, ln3, km3, ks3, kt3, ku3, kl3, kn3⟩ := u9; exact q9) (pM) hP hD hS hA (fun hPc hDc => va_runV (As := []) (rest := []) ⟨hx, hb, hml, hown, hts⟩ (c_X4_read l dC dI cI a sz st us kp ga gl cs mem pl ln km ks kt ku kl kn cd wt H.size  (by omega) c1.sz8 c4.2.1 c4.2.2 c6.2.2.2.2 (fun j => (c8.2 j).1) (fun j => (c8.2 j).2.1) (fun j => (c8.2 j).2.2.1) (fun j => (c8.2 j).2.2.2.1) (fun j => (c8.2 j).2.2.2.2) c3.1 c8.1 c3.2.1 c3.2.2) (cwV 0 hts gL_law_X4_read rfl rfl rfl (by decide +kernel) ⟨Nat.le_of_ble_eq_true rfl, Nat.le_of_ble_eq_true rfl⟩) ⟨fun a9 U g9 mk9 q9 => by obtain ⟨q0, q1, qP, qK, qD⟩ := q9; exact ⟨q0, q1, qP, va_K.moved (u := U) (U := U.calling g9 mk9 a9) (Vm.Alike.refl U.vm) qK, qD⟩, va_recv hKc hPc (ci := 4) (q0 := 0) rfl rfl, fun U hU hW => ⟨rfl, by rw [hU], by rw [hU]; exact hPc, va_K.moved hW.alike hKc, hDc⟩⟩ rfl rfl hl.1 rfl (lv_room (Nat.le_of_ble_eq_true rfl)) dL_law_822 ⟨by show 22 + 4 * jj + 0 + 0 ≤ 60000; omega, by show 78425 + 12550 * jj + 0 + 0 ≤ 8922250; omega⟩) (fun r2 u9 H locs hw hP hD hS => ?_)
      obtain ⟨sz3, st3, us3, mem3, pl3, ln3, km3, ks3, kt3, ku3, kl3, kn3⟩ := u9
      try dsimp only at hw hP hD
      have hm := hw
      clear hw
      refine lv_pop hx hb dL_law_825 rfl ?_
      have hP := va_P_perm pM hP
      have hD := va_D_perm pM hD
      have hP : va_P (dC, dI) vwCl (gw h kq (some (b 0)) k o d kp ga gl ++ kw cB k kL kb ++ ow cB o oz cs cK ++ sw cB cI d (tw cK 0) (tw cK 2) (tw cK 4) (cbM mK g9 ga gl (bth2 sz (tw cK 0))) pl9 ln9 ++ (krw cS kq (fun j => xA (kf j)) ++ (sw cB cI b sz st us mK pK lK ++ kW cB cI kf)) ++ mw cI a sz3 st3 us3 kp ga gl cs mem3 pl3 ln3 km3 ks3 kt3 ku3 kl3 kn3 cd wt) H := hP
      have hD : va_D A (gw h kq (some (b 0)) k o d kp ga gl ++ kw cB k kL kb ++ ow cB o oz cs cK ++ sw cB cI d (tw cK 0) (tw cK 2) (tw cK 4) (cbM mK g9 ga gl (bth2 sz (tw cK 0))) pl9 ln9 ++ (krw cS kq (fun j => xA (kf j)) ++ (sw cB cI b sz st us mK pK lK ++ kW cB cI kf)) ++ mw cI a sz3 st3 us3 kp ga gl cs mem3 pl3 ln3 km3 ks3 kt3 ku3 kl3 kn3 cd wt) := hD
      obtain ⟨g8, hg8, hrr⟩ := rd_right c6.2.2.1 hrd
      rw [hg8] at hm
      obtain ⟨k1, k2, k3, k4, k5, hr9, e1, e2, e3, hbl9, hm9, hb3⟩ := hm
      rw [e3] at hbl9
      obtain ⟨hSR, t0, t2, t4⟩ := hrr pl9 ln9 pl3 ln3 hc.2.1 hbl9
      rw [e1, ← t0] at hm9
      rw [e1, e2, e3, ← t0, ← t2, ← t4] at hP hD
      have hP : va_P (dC, dI) vwCl (gw h kq (some (b 0)) k o d kp ga gl ++ kw cB k kL kb ++ ow cB o oz cs cK ++ sw cB cI d (tw cK 0) (tw cK 2) (tw cK 4) (cbM mK g9 ga gl (bth2 sz (tw cK 0))) pl9 ln9 ++ (krw cS kq (fun j => xA (kf j)) ++ (sw cB cI b sz st us mK pK lK ++ kW cB cI kf)) ++ mw cI a (tw cK 0) (tw cK 2) (tw cK 4) kp ga gl cs mem3 pl3 ln3 km3 ks3 kt3 ku3 kl3 kn3 cd wt) H := hP
      have hD : va_D A (gw h kq (some (b 0)) k o d kp ga gl ++ kw cB k kL kb ++ ow cB o oz cs cK ++ sw cB cI d (tw cK 0) (tw cK 2) (tw cK 4) (cbM mK g9 ga gl (bth2 sz (tw cK 0))) pl9 ln9 ++ (krw cS kq (fun j => xA (kf j)) ++ (sw cB cI b sz st us mK pK lK ++ kW cB cI kf)) ++ mw cI a (tw cK 0) (tw cK 2) (tw cK 4) kp ga gl cs mem3 pl3 ln3 km3 ks3 kt3 ku3 kl3 kn3 cd wt) := hD
      have hz8 := hSR.sz8
      refine lv_goto (tgt := 852) hx hb dL_law_826 (by decide) ?_
      refine W.widen (k := 22 + 4 * (jj + 1)) (n := 78425 + 12550 * (jj + 1)) (by omega) (by omega) ?_
      exact tail _ H locs ls ⟨o, d, tw cK 0, tw cK 2, tw cK 4, kp, ga, gl, kL, oz, cs, cbM mK g9 ga gl (bth2 sz (tw cK 0)), pl9, ln9, kb, cK, mem3, pl3, ln3, km3, ks3, kt3, ku3, kl3, kn3, cd, wt, (some (b, sz, st, us, mK, pK, lK)), kf, rfl, ⟨c1.come hSR (fun j hj => hm9 j (by omega)) (fun j _ => rfl) (fun j _ => rfl), ⟨cbM_lt c2.1 (fun j => (hc.2.2 j).1) _ _ _, fun j => (hc.2.2 j).2.1, fun j => (hc.2.2 j).2.2⟩, ⟨fun j => (hb3 j).1, fun j => (hb3 j).2.1, fun j => (hb3 j).2.2⟩, c4, c5, c6, ⟨KR_scratch c4.1 c7.1 k1 k3 k4, (show SB _ _ _ from c2), c7.2.2⟩, k2, k5⟩⟩ hP hD hS hl
set_option maxHeartbeats 4000000 in
set_option maxRecDepth 100000 in
theorem lc_told {p : Program} {e : Env} {s : State} {m : MethodId} {below : List Frame} {meth : Method} {c : Code} (l : Launch) {q0 L : Nat} {xs : Nat → Int32} (hL : L ≤ 4096) (C0 : lw_At p s m meth c q0 L xs) (dC : Nat → ClassId) (dI : Nat → Nat → Nat) (cB cI cS : ClassId) (h kq : Nat) (k a : Nat → Nat) (A : Nat → Prop) (hA : ∀ q : Nat, s.heap.size ≤ q → A q) (hbA : ¬ A q0) (hK : va_K (dC, dI) vwCl [(cI, .int), (cB, .byte), (cS, .object "GlulxHeap$State")] s) {i jj : Nat} (hi : i = 8 * jj) (hiL : i + 8 ≤ L) {ws : va_W} {H : Heap} {locs : List Loc} {ls : Array Slot} (hJ : J cB cI cS h kq k a ws) (hP : va_P (dC, dI) vwCl ws H) (hD : va_D A ws) (hS : va_S A s.heap H locs) (hl : lv_has ls 4 [(3, .int (nI i)), (2, .ref (a 0)), (1, .ref h), (0, .ref q0)]) (tail : ∀ (ws : va_W) (H : Heap) (locs : List Loc) (ls : Array Slot), J cB cI cS h kq k a ws → va_P (dC, dI) vwCl ws H → va_D A ws → va_S A s.heap H locs → lv_has ls 4 [(3, .int (nI i)), (2, .ref (a 0)), (1, .ref h), (0, .ref q0)] → W p l e room_1 s m #[Value.ref q0] below meth c H locs (22 + 4 * (jj + 1)) (78425 + 12550 * (jj + 1)) (lw_Z below #[Value.ref q0] s) (F0 m 852 ls [])) : W p l e room_1 s m #[Value.ref q0] below meth c H locs (22 + 4 * jj) (78425 + 12550 * jj) (lw_Z below #[Value.ref q0] s) (F0 m 829 ls []) := by
  obtain ⟨hx, hb, hr, hml, hown, hts0, hX, hbl, hlocks, hgv⟩ := id C0
  have hts : ∀ w ∈ wsL_law, w.before #[Value.ref q0] s = true := fun w h => hts0 w (wsL_law_in w h)
  obtain ⟨o, b, sz, st, us, kp, ga, gl, kL, oz, cs, mK, pK, lK, kb, cK, mem, pl, ln, km, ks, kt, ku, kl, kn, cd, wt, sp, kf, rfl, c1, c2, c3, c4, c5, c6, c7, c8⟩ := hJ
  have hcs : cs ≤ 12550 ∧ oz ≤ 12550 := by have := c6.2.1; rcases c6.1 with q | q <;> omega
  have hst9 := wfB_st c1.1
  refine lv_aload_n hx hb dL_law_829 rfl (lv_at hl 2 rfl) ?_
  refine lv_aload_n hx hb dL_law_830 rfl (lv_at hl 3 rfl) ?_
  refine lv_iload_n hx hb dL_law_831 rfl (lv_at hl 0 rfl) ?_
  refine lv_iconst (v := nI 1) hx hb dL_law_832 (by decide) ?_
  refine lv_iadd hx hb dL_law_833 ?_
  refine tpi (nI_add i 1) ?_
  refine va_sld hx hb hX hbl hbA hS (vp_in_nI (by omega) (by omega)) dL_law_834 ?_
  refine tpi (show xs (nI (i + 1)).toNatClampNeg = xs (i + 1) by rw [nI_clamp (by omega)]) ?_
  have hKc := hK.sub (tys' := [(cI, .int), (cB, .byte)]) [0, 1] rfl
  have hPc : va_P (dC, dI) vwCl (gw h kq (xA sp) k o b kp ga gl ++ kw cB k kL kb ++ ow cB o oz cs cK ++ sw cB cI b sz st us mK pK lK) H := va_P_left (va_P_perm (pGKOS) hP)
  refine vp_callSi (W.runV (As := [.int (xs (i + 1))]) (rest := []) ⟨hx, hb, hml, hown, hts⟩ (c_X3_told l dC dI cB cI h kq (xA sp) k o b kp ga gl kL kb oz cs cK sz st us mK pK lK (xs (i + 1)) c1.wfK) (cwV 1 hts gL_law_X3_told rfl rfl rfl (by decide +kernel) ⟨Nat.le_of_ble_eq_true rfl, Nat.le_of_ble_eq_true rfl⟩) ⟨fun a9 U g9 mk9 q9 => by obtain ⟨q0, qP, qK⟩ := q9; exact ⟨q0, qP, va_K.moved (u := U) (U := U.calling g9 mk9 a9) (Vm.Alike.refl U.vm) qK⟩, va_recv hKc hPc (ci := 3) (q0 := 0) rfl rfl, fun U hU hW => ⟨rfl, by rw [hU]; exact hPc, va_K.moved hW.alike hKc⟩⟩ rfl rfl hl.1 rfl (lv_room (Nat.le_of_ble_eq_true rfl)) dL_law_835 ⟨by show 22 + 4 * jj + 0 ≤ 60000; omega, by show 78425 + 12550 * jj + 0 ≤ 8922250; omega⟩) (fun r1 hw => ?_)
  have hc := hw
  clear hw
  refine lv_aload_n hx hb dL_law_838 rfl (lv_at hl 1 rfl) ?_
  refine lv_aload_n hx hb dL_law_839 rfl (lv_at hl 3 rfl) ?_
  refine lv_iload_n hx hb dL_law_840 rfl (lv_at hl 0 rfl) ?_
  refine lv_iconst (v := nI 1) hx hb dL_law_841 (by decide) ?_
  refine lv_iadd hx hb dL_law_842 ?_
  refine tpi (nI_add i 1) ?_
  refine va_sld hx hb hX hbl hbA hS (vp_in_nI (by omega) (by omega)) dL_law_843 ?_
  refine tpi (show xs (nI (i + 1)).toNatClampNeg = xs (i + 1) by rw [nI_clamp (by omega)]) ?_
  have hKc := hK.sub (tys' := [(cI, .int)]) [0] rfl
  have hPc : va_P (dC, dI) vwCl (mw cI a sz st us kp ga gl cs mem pl ln km ks kt ku kl kn cd wt) H := va_P_left (va_P_perm (pM) hP)
  refine vp_callSi (W.runV (As := [.int (xs (i + 1))]) (rest := [.int r1]) ⟨hx, hb, hml, hown, hts⟩ (c_X4_told l dC dI cI a sz st us kp ga gl cs mem pl ln km ks kt ku kl kn cd wt (xs (i + 1)) c1.1) (cwV 1 hts gL_law_X4_told rfl rfl rfl (by decide +kernel) ⟨Nat.le_of_ble_eq_true rfl, Nat.le_of_ble_eq_true rfl⟩) ⟨fun a9 U g9 mk9 q9 => by obtain ⟨q0, qP, qK⟩ := q9; exact ⟨q0, qP, va_K.moved (u := U) (U := U.calling g9 mk9 a9) (Vm.Alike.refl U.vm) qK⟩, va_recv hKc hPc (ci := 4) (q0 := 0) rfl rfl, fun U hU hW => ⟨rfl, by rw [hU]; exact hPc, va_K.moved hW.alike hKc⟩⟩ rfl rfl hl.1 rfl (lv_room (Nat.le_of_ble_eq_true rfl)) dL_law_844 ⟨by show 22 + 4 * jj + 0 ≤ 60000; omega, by show 78425 + 12550 * jj + 0 ≤ 8922250; omega⟩) (fun r2 hw => ?_)
  have hm := hw
  clear hw
  have heq : r1 = r2 := hc.trans ((tdR_c c1.2.2.2.1 c1.2.2.2.2 _).trans hm.symm)
  refine lv_icmp_eq (tgt := 852) hx hb dL_law_847 (by decide) (fun _ => ?_) (fun c9 => absurd heq c9)
  refine W.widen (k := 22 + 4 * (jj + 1)) (n := 78425 + 12550 * (jj + 1)) (by omega) (by omega) ?_
  exact tail _ H locs ls ⟨o, b, sz, st, us, kp, ga, gl, kL, oz, cs, mK, pK, lK, kb, cK, mem, pl, ln, km, ks, kt, ku, kl, kn, cd, wt, sp, kf, rfl, ⟨c1, c2, c3, c4, c5, c6, c7, c8⟩⟩ hP hD hS hl
set_option maxHeartbeats 4000000 in
set_option maxRecDepth 100000 in
theorem law_loop {p : Program} {e : Env} {s : State} {m : MethodId} {below : List Frame} {meth : Method} {c : Code} (l : Launch) {q0 L : Nat} {xs : Nat → Int32} (hL : L ≤ 4096) (C0 : lw_At p s m meth c q0 L xs) (dC : Nat → ClassId) (dI : Nat → Nat → Nat) (cB cI cS : ClassId) (h kq : Nat) (k a : Nat → Nat) (A : Nat → Prop) (hA : ∀ q : Nat, s.heap.size ≤ q → A q) (hAs : ∀ q : Nat, A q → s.heap.size ≤ q) (hbA : ¬ A q0) (hK : va_K (dC, dI) vwCl [(cI, .int), (cB, .byte), (cS, .object "GlulxHeap$State")] s) : ∀ (n i jj : Nat), i = 8 * jj → i ≤ L → L < i + n → ∀ (ws : va_W) (H : Heap) (locs : List Loc) (ls : Array Slot), J cB cI cS h kq k a ws → va_P (dC, dI) vwCl ws H → va_D A ws → va_S A s.heap H locs → lv_has ls 4 [(3, .int (nI i)), (2, .ref (a 0)), (1, .ref h), (0, .ref q0)] → W p l e room_1 s m #[Value.ref q0] below meth c H locs (22 + 4 * jj) (78425 + 12550 * jj) (lw_Z below #[Value.ref q0] s) (F0 m 18 ls []) := by
  obtain ⟨hx, hb, hr, hml, hown, hts0, hX, hbl, hlocks, hgv⟩ := id C0
  intro n
  induction n with
  | zero => intro i jj h1 h2 h3; exact absurd h3 (by omega)
  | succ n ih =>
    intro i jj hi hi2 hn ws H locs ls hJ hP hD hS hl
    refine lv_iload_n hx hb dL_law_18 rfl (lv_at hl 0 rfl) ?_
    refine lv_aload_n hx hb dL_law_19 rfl (lv_at hl 3 rfl) ?_
    refine va_slen hx hb hX hbl hbA hS dL_law_20 ?_
    refine tpi (show Int32.ofNat L = nI L from rfl) ?_
    refine lv_bipush (v := nI 8) hx hb dL_law_21 (by decide) ?_
    refine lv_isub hx hb dL_law_23 ?_
    refine lv_icmp_gt (tgt := 858) hx hb dL_law_24 (by decide) (fun c9 => ?_) (fun c9 => ?_)
    · refine lv_iconst (v := 1) hx hb dL_law_858 (by decide) ?_
      refine va_forget (fun q hq => hAs _ (hS.2.2 q hq)) ?_
      refine W.widen (k := 60000) (n := 8922250) (by omega) (by omega) ?_
      exact lw_ret hx hb hr hlocks dL_law_859
    · have hi8 : i + 8 ≤ L := by have q := mt (gt8 (i := i) (L := L) (by omega) (by omega)).mpr c9; omega
      have tail : ∀ (ws : va_W) (H : Heap) (locs : List Loc) (ls : Array Slot), J cB cI cS h kq k a ws → va_P (dC, dI) vwCl ws H → va_D A ws → va_S A s.heap H locs → lv_has ls 4 [(3, .int (nI i)), (2, .ref (a 0)), (1, .ref h), (0, .ref q0)] → W p l e room_1 s m #[Value.ref q0] below meth c H locs (22 + 4 * (jj + 1)) (78425 + 12550 * (jj + 1)) (lw_Z below #[Value.ref q0] s) (F0 m 852 ls []) := by
        intro ws H locs ls hJ hP hD hS hl
        refine lv_iinc (v := nI (i + 8)) (lv' := [(3, .int (nI (i + 8))), (2, .ref (a 0)), (1, .ref h), (0, .ref q0)]) hx hb dL_law_852 hl (k := 0) rfl (nI_inc8 _) (by decide) rfl (fun ls hl => ?_)
        refine lv_goto (tgt := 18) hx hb dL_law_855 (by decide) ?_
        exact ih (i + 8) (jj + 1) (by omega) (by omega) (by omega) ws H locs ls hJ hP hD hS hl
      refine lv_aload_n hx hb dL_law_27 rfl (lv_at hl 3 rfl) ?_
      refine lv_iload_n hx hb dL_law_28 rfl (lv_at hl 0 rfl) ?_
      refine va_sld hx hb hX hbl hbA hS (vp_in_nI (by omega) (by omega)) dL_law_29 ?_
      refine lv_bipush (v := nI 31) hx hb dL_law_30 (by decide) ?_
      refine lv_iand hx hb dL_law_32 ?_
      obtain ⟨x9, hx9, e9⟩ := and31 (xs (nI i).toNatClampNeg)
      refine tpi e9 ?_
      by_cases h22 : x9 < 22
      · rcases (show x9 = 0 ∨ x9 = 1 ∨ x9 = 2 ∨ x9 = 3 ∨ x9 = 4 ∨ x9 = 5 ∨ x9 = 6 ∨ x9 = 7 ∨ x9 = 8 ∨ x9 = 9 ∨ x9 = 10 ∨ x9 = 11 ∨ x9 = 12 ∨ x9 = 13 ∨ x9 = 14 ∨ x9 = 15 ∨ x9 = 16 ∨ x9 = 17 ∨ x9 = 18 ∨ x9 = 19 ∨ x9 = 20 ∨ x9 = 21 by omega) with rfl | rfl | rfl | rfl | rfl | rfl | rfl | rfl | rfl | rfl | rfl | rfl | rfl | rfl | rfl | rfl | rfl | rfl | rfl | rfl | rfl | rfl
        · refine lv_tableIn (off := 103) (tgt := 136) hx hb dL_law_33 (by decide) (by decide) (by decide) (by decide) ?_
          exact lc_get l hL C0 dC dI cB cI cS h kq k a A hA hbA hK hi hi8 hJ hP hD hS hl tail
        · refine lv_tableIn (off := 136) (tgt := 169) hx hb dL_law_33 (by decide) (by decide) (by decide) (by decide) ?_
          exact lc_set l hL C0 dC dI cB cI cS h kq k a A hA hbA hK hi hi8 hJ hP hD hS hl tail
        · refine lv_tableIn (off := 179) (tgt := 212) hx hb dL_law_33 (by decide) (by decide) (by decide) (by decide) ?_
          exact lc_zero l hL C0 dC dI cB cI cS h kq k a A hA hbA hK hi hi8 hJ hP hD hS hl tail
        · refine lv_tableIn (off := 212) (tgt := 245) hx hb dL_law_33 (by decide) (by decide) (by decide) (by decide) ?_
          exact lc_copy l hL C0 dC dI cB cI cS h kq k a A hA hbA hK hi hi8 hJ hP hD hS hl tail
        · refine lv_tableIn (off := 255) (tgt := 288) hx hb dL_law_33 (by decide) (by decide) (by decide) (by decide) ?_
          exact lc_resize l hL C0 dC dI cB cI cS h kq k a A hA hbA hK hi hi8 hJ hP hD hS hl tail
        · refine lv_tableIn (off := 278) (tgt := 311) hx hb dL_law_33 (by decide) (by decide) (by decide) (by decide) ?_
          exact lc_make l hL C0 dC dI cB cI cS h kq k a A hA hbA hK hi hi8 hJ hP hD hS hl tail
        · refine lv_tableIn (off := 301) (tgt := 334) hx hb dL_law_33 (by decide) (by decide) (by decide) (by decide) ?_
          exact lc_free l hL C0 dC dI cB cI cS h kq k a A hA hbA hK hi hi8 hJ hP hD hS hl tail
        · refine lv_tableIn (off := 324) (tgt := 357) hx hb dL_law_33 (by decide) (by decide) (by decide) (by decide) ?_
          exact lc_block l hL C0 dC dI cB cI cS h kq k a A hA hbA hK hi hi8 hJ hP hD hS hl tail
        · refine lv_tableIn (off := 357) (tgt := 390) hx hb dL_law_33 (by decide) (by decide) (by decide) (by decide) ?_
          exact lc_linear l hL C0 dC dI cB cI cS h kq k a A hA hbA hK hi hi8 hJ hP hD hS hl tail
        · refine lv_tableIn (off := 444) (tgt := 477) hx hb dL_law_33 (by decide) (by decide) (by decide) (by decide) ?_
          exact lc_binary l hL C0 dC dI cB cI cS h kq k a A hA hbA hK hi hi8 hJ hP hD hS hl tail
        · refine lv_tableIn (off := 531) (tgt := 564) hx hb dL_law_33 (by decide) (by decide) (by decide) (by decide) ?_
          exact lc_linked l hL C0 dC dI cB cI cS h kq k a A hA hbA hK hi hi8 hJ hP hD hS hl tail
        · refine lv_tableIn (off := 606) (tgt := 639) hx hb dL_law_33 (by decide) (by decide) (by decide) (by decide) ?_
          exact lc_protect l hL C0 dC dI cB cI cS h kq k a A hA hbA hK hi hi8 hJ hP hD hS hl tail
        · refine lv_tableIn (off := 639) (tgt := 672) hx hb dL_law_33 (by decide) (by decide) (by decide) (by decide) ?_
          exact lc_keep l hL C0 dC dI cB cI cS h kq k a A hA hbA hK hi hi8 hJ hP hD hS hl tail
        · refine lv_tableIn (off := 652) (tgt := 685) hx hb dL_law_33 (by decide) (by decide) (by decide) (by decide) ?_
          exact lc_back l hL C0 dC dI cB cI cS h kq k a A hA hbA hK hi hi8 hJ hP hD hS hl tail
        · refine lv_tableIn (off := 665) (tgt := 698) hx hb dL_law_33 (by decide) (by decide) (by decide) (by decide) ?_
          exact lc_restart l hL C0 dC dI cB cI cS h kq k a A hA hbA hK hi hi8 hJ hP hD hS hl tail
        · refine lv_tableIn (off := 678) (tgt := 711) hx hb dL_law_33 (by decide) (by decide) (by decide) (by decide) ?_
          exact lc_same l hL C0 dC dI cB cI cS h kq k a A hA hbA hK hi hi8 hJ hP hD hS hl tail
        · refine lv_tableIn (off := 691) (tgt := 724) hx hb dL_law_33 (by decide) (by decide) (by decide) (by decide) ?_
          exact lc_write l hL C0 dC dI cB cI cS h kq k a A hA hbA hK hi hi8 hJ hP hD hS hl tail
        · refine lv_tableIn (off := 704) (tgt := 737) hx hb dL_law_33 (by decide) (by decide) (by decide) (by decide) ?_
          exact lc_code l hL C0 dC dI cB cI cS h kq k a A hA hbA hK hi hi8 hJ hP hD hS hl tail
        · refine lv_tableIn (off := 727) (tgt := 760) hx hb dL_law_33 (by decide) (by decide) (by decide) (by decide) ?_
          exact lc_poke l hL C0 dC dI cB cI cS h kq k a A hA hbA hK hi hi8 hJ hP hD hS hl tail
        · refine lv_tableIn (off := 760) (tgt := 793) hx hb dL_law_33 (by decide) (by decide) (by decide) (by decide) ?_
          exact lc_cut l hL C0 dC dI cB cI cS h kq k a A hA hbA hK hi hi8 hJ hP hD hS hl tail
        · refine lv_tableIn (off := 783) (tgt := 816) hx hb dL_law_33 (by decide) (by decide) (by decide) (by decide) ?_
          exact lc_read l hL C0 dC dI cB cI cS h kq k a A hA hbA hK hi hi8 hJ hP hD hS hl tail
        · refine lv_tableIn (off := 796) (tgt := 829) hx hb dL_law_33 (by decide) (by decide) (by decide) (by decide) ?_
          exact lc_told l hL C0 dC dI cB cI cS h kq k a A hA hbA hK hi hi8 hJ hP hD hS hl tail
      · refine lv_tableOut (tgt := 852) hx hb dL_law_33 (Or.inr ?_) (by decide) ?_
        · rcases (show x9 = 22 ∨ x9 = 23 ∨ x9 = 24 ∨ x9 = 25 ∨ x9 = 26 ∨ x9 = 27 ∨ x9 = 28 ∨ x9 = 29 ∨ x9 = 30 ∨ x9 = 31 by omega) with rfl | rfl | rfl | rfl | rfl | rfl | rfl | rfl | rfl | rfl <;> decide
        · refine W.widen (k := 22 + 4 * (jj + 1)) (n := 78425 + 12550 * (jj + 1)) (by omega) (by omega) ?_
          exact tail ws H locs ls hJ hP hD hS hl
set_option maxHeartbeats 8000000 in
set_option maxRecDepth 100000 in
theorem whole_start {p : Program} {e : Env} {s : State} {m : MethodId} {below : List Frame} {meth : Method} {c : Code} (l : Launch) {b L : Nat} {xs : Nat → Int32} (hL : L ≤ 4096) (C0 : lw_At p s m meth c b L xs) : W p l e room_1 s m #[Value.ref b] below meth c s.heap [] 0 0 (lw_Z below #[Value.ref b] s) (entryFrame m ([Value.ref b] : List Value).toArray 4) := by
  obtain ⟨q0, rfl⟩ : ∃ q : Nat, q = b := ⟨_, rfl⟩
  obtain ⟨hx, hb, hr, hml, hown, hts0, hX, hbl, hlocks, hgv⟩ := id C0
  have hts : ∀ w ∈ wsL_law, w.before #[Value.ref q0] s = true := fun w h => hts0 w (wsL_law_in w h)
  obtain ⟨A, hAe⟩ : ∃ A : Nat → Prop, A = (fun q : Nat => s.heap.size ≤ q) := ⟨_, rfl⟩
  have hA : ∀ q : Nat, s.heap.size ≤ q → A q := fun q h => by rw [hAe]; exact h
  have hAs : ∀ q : Nat, A q → s.heap.size ≤ q := fun q h => by rw [hAe] at h; exact h
  have hbA : ¬ A q0 := fun q => Nat.not_le.mpr hbl (hAs _ q)
  obtain ⟨c0, iS0, hKn0⟩ := u_known (C := RX0) (T := TX0) (N := 2) (n := 2) hts inlX0 (hts0 _ (List.mem_of_getElem? (i := 60) (by decide +kernel)))
  obtain ⟨c1, iS1, hKn1⟩ := u_known (C := RX1) (T := TX1) (N := 2) (n := 2) hts inlX1 (hts0 _ (List.mem_of_getElem? (i := 45) (by decide +kernel)))
  obtain ⟨c2, iS2, hKn2⟩ := u_known (C := RX2) (T := TX2) (N := 6) (n := 6) hts inlX2 (hts0 _ (List.mem_of_getElem? (i := 74) (by decide +kernel)))
  obtain ⟨c3, iS3, hKn3⟩ := u_known (C := RX3) (T := TX3) (N := 8) (n := 8) hts inlX3 (hts0 _ (List.mem_of_getElem? (i := 35) (by decide +kernel)))
  obtain ⟨c4, iS4, hKn4⟩ := u_known (C := RX4) (T := TX4) (N := 18) (n := 18) hts inlX4 (hts0 _ (List.mem_of_getElem? (i := 422) (by decide +kernel)))
  obtain ⟨dC, dI, hKc⟩ : ∃ (dC : Nat → ClassId) (dI : Nat → Nat → Nat), ∀ (k : Nat) (q : vw_C), vwCl[k]? = some q → u_Kn s q.1 q.2.1 q.2.2 (dC k) (dI k) := by
    refine ⟨fun k => match k with | 0 => c0 | 1 => c1 | 2 => c2 | 3 => c3 | _ => c4, fun k => match k with | 0 => iS0 | 1 => iS1 | 2 => iS2 | 3 => iS3 | _ => iS4, ?_⟩
    intro k q hq
    match k, hq with
    | 0, hq => cases hq; exact hKn0
    | 1, hq => cases hq; exact hKn1
    | 2, hq => cases hq; exact hKn2
    | 3, hq => cases hq; exact hKn3
    | 4, hq => cases hq; exact hKn4
    | k + 5, hq => simp [vwCl] at hq
  have hS : va_S A s.heap s.heap [] := va_S.rf
  have hK : va_K (dC, dI) vwCl [] s := ⟨hKc, fun k q h => by simp at h⟩
  have hP : va_P (dC, dI) vwCl [] s.heap := fun k q h => by simp at h
  have hD : va_D A [] := ⟨fun i j p q h => by simp at h, fun k q h => by simp at h⟩
  have hl := lv_entry ([.ref q0]) (n := 4) (Nat.le_of_ble_eq_true rfl)
  rw [lg_entry_eq]
  generalize (lg_sl ([.ref q0]) ++ List.replicate (4 - (lg_sl ([.ref q0])).length) Slot.unset).toArray = ls at hl ⊢
  have hl : lv_has ls 4 [(0, .ref q0)] := hl
  refine va_new (ci := 3) (fs := [.null, .null, .null, .null, .null, .int (nI 0), .int (nI 0), .int (nI 0)]) (C := RX3) (T := TX3) (N := 8) hx hb hts inlX3 tyX3 tyX3_ok hown (hts0 _ (wsL_law_r1_in (.classLink RL 7 RX3) (List.mem_of_getElem? (i := 0) rfl))) (hts0 _ (wsL_law_r1_in (.instantiable RX3 8) (List.mem_of_getElem? (i := 1) rfl))) (hts0 _ (wsL_law_r1_in (.initialized RX3) (List.mem_of_getElem? (i := 2) rfl))) hK hP hD hS hA rfl (fun j hj => by rcases (show j = 0 ∨ j = 1 ∨ j = 2 ∨ j = 3 ∨ j = 4 ∨ j = 5 ∨ j = 6 ∨ j = 7 by omega) with rfl | rfl | rfl | rfl | rfl | rfl | rfl | rfl <;> rfl) (Nat.le_of_ble_eq_true rfl) (Nat.le_of_ble_eq_true rfl) dL_law_0 (fun h H hP hD hS => ?_)
  have hP : va_P (dC, dI) vwCl [(h, .inr (3, [.null, .null, .null, .null, .null, .int (nI 0), .int (nI 0), .int (nI 0)]))] H := hP
  have hD : va_D A [(h, .inr (3, [.null, .null, .null, .null, .null, .int (nI 0), .int (nI 0), .int (nI 0)]))] := hD
  refine lv_dup hx hb dL_law_3 rfl ?_
  have hN17 := va_Nw.of (w := .methodLinkNest RX3 17 yX1_init "GlulxHeap") rfl (hts0 _ (List.mem_of_getElem? (i := 46) (by decide +kernel)))
  have hN24 := va_Nw.of (w := .methodLinkNest RX3 24 yX0_init "GlulxHeap") rfl (hts0 _ (List.mem_of_getElem? (i := 61) (by decide +kernel)))
  have hN29 := va_Nw.of (w := .methodLinkNest RX3 29 yX2_init "GlulxHeap") rfl (hts0 _ (List.mem_of_getElem? (i := 75) (by decide +kernel)))
  have hAO : va_AO RX2 s := va_AO.of (hts0 _ (List.mem_of_getElem? (i := 43) (by decide +kernel)))
  have hFc := va_free (wc := [(h, .inr (3, [.null, .null, .null, .null, .null, .int (nI 0), .int (nI 0), .int (nI 0)]))]) hD hS hA [0] rfl
  refine va_callv (va_runI (As := []) (rest := [.ref h]) ⟨hx, hb, hml, hown, hts⟩ (c_X3_init l dC dI h H.size) (cwI 0 hts gL_law_X3_init rfl rfl rfl (hts0 _ (wsL_law_r1_in (.initialized RX3) (List.mem_of_getElem? (i := 2) rfl))) (hts0 _ (wsL_law_r1_in (.methodLink RL 9 yX3_init) (List.mem_of_getElem? (i := 6) rfl))) (hts0 _ (wsL_law_r1_in (.instanceMethod yX3_init) (List.mem_of_getElem? (i := 7) rfl))) rfl (by decide +kernel) ⟨Nat.le_of_ble_eq_true rfl, Nat.le_of_ble_eq_true rfl⟩) ⟨fun a9 U g9 mk9 q9 => by obtain ⟨q0, q1, qP, qK, qD, qO, qN0, qN1, qN2⟩ := q9; exact ⟨q0, q1, qP, va_K.moved (u := U) (U := U.calling g9 mk9 a9) (Vm.Alike.refl U.vm) qK, qD, va_AO.moved (u := U) (U := U.calling g9 mk9 a9) (Vm.Alike.refl U.vm) qO, va_Nw.same rfl rfl qN0, va_Nw.same rfl rfl qN1, va_Nw.same rfl rfl qN2⟩, fun U hU hW => ⟨rfl, by rw [hU], by rw [hU]; exact hP, va_K.moved hW.alike hK, hD.weaken (fun _ _ _ _ => trivial), va_AO.moved hW.alike hAO, va_Nw.warmM hW hN17, va_Nw.warmM hW hN24, va_Nw.warmM hW hN29⟩⟩ rfl rfl hl.1 rfl (lv_room (Nat.le_of_ble_eq_true rfl)) dL_law_4 ⟨Nat.le_of_ble_eq_true rfl, Nat.le_of_ble_eq_true rfl⟩) hS (fun q _ h => hFc q h) hFc (fun u t H1 locs ht9 hvm9 hw hB hz9 hk9 hS => ?_)
  obtain ⟨cB, cI, cS, kq, k, o, b⟩ := u
  obtain ⟨hP1, hK1, hD1⟩ := hB
  rw [ht9] at hP1
  have hK := va_K.moved hvm9.symm hK1
  obtain ⟨hP, hD⟩ := va_join (wr := []) (w1 := gw h kq none k o b 0 0 0 ++ kw cB k 0 zf ++ ow cB o 0 0 zf ++ sw cB cI b 1024 0 0 (outW (zr zf 0 8192) fst 0 64) zf zf ++ krw cS kq (fun _ => none)) hP hD [0] [] rfl rfl (by decide) (by decide) hk9 hFc hP1 hD1
  generalize H1 = H at hP hS ⊢
  rw [beg_in] at hP hD
  have hP : va_P (dC, dI) vwCl (gw h kq none k o b 0 0 0 ++ kw cB k 0 zf ++ ow cB o 0 0 zf ++ sw cB cI b 1024 0 0 (inW 8192) zf zf ++ krw cS kq (fun _ => none)) H := hP
  have hD : va_D A (gw h kq none k o b 0 0 0 ++ kw cB k 0 zf ++ ow cB o 0 0 zf ++ sw cB cI b 1024 0 0 (inW 8192) zf zf ++ krw cS kq (fun _ => none)) := hD
  refine lv_astore_n (lv' := [(1, .ref h), (0, .ref q0)]) hx hb dL_law_7 rfl hl (by decide) rfl (fun ls hl => ?_)
  refine va_new (ci := 4) (fs := [.null, .int (nI 0), .int (nI 0), .int (nI 0), .null, .null, .int (nI 0), .null, .null, .null, .null, .null, .null, .int (nI 0), .int (nI 0), .null, .int (nI 0), .null]) (C := RX4) (T := TX4) (N := 18) hx hb hts inlX4 tyX4 tyX4_ok hown (hts0 _ (wsL_law_r1_in (.classLink RL 10 RX4) (List.mem_of_getElem? (i := 3) rfl))) (hts0 _ (wsL_law_r1_in (.instantiable RX4 18) (List.mem_of_getElem? (i := 4) rfl))) (hts0 _ (wsL_law_r1_in (.initialized RX4) (List.mem_of_getElem? (i := 5) rfl))) hK hP hD hS hA rfl (fun j hj => by rcases (show j = 0 ∨ j = 1 ∨ j = 2 ∨ j = 3 ∨ j = 4 ∨ j = 5 ∨ j = 6 ∨ j = 7 ∨ j = 8 ∨ j = 9 ∨ j = 10 ∨ j = 11 ∨ j = 12 ∨ j = 13 ∨ j = 14 ∨ j = 15 ∨ j = 16 ∨ j = 17 by omega) with rfl | rfl | rfl | rfl | rfl | rfl | rfl | rfl | rfl | rfl | rfl | rfl | rfl | rfl | rfl | rfl | rfl | rfl <;> rfl) (Nat.le_of_ble_eq_true rfl) (Nat.le_of_ble_eq_true rfl) dL_law_8 (fun a0 H hP hD hS => ?_)
  have hP : va_P (dC, dI) vwCl (gw h kq none k o b 0 0 0 ++ kw cB k 0 zf ++ ow cB o 0 0 zf ++ sw cB cI b 1024 0 0 (inW 8192) zf zf ++ krw cS kq (fun _ => none) ++ [(a0, .inr (4, [.null, .int (nI 0), .int (nI 0), .int (nI 0), .null, .null, .int (nI 0), .null, .null, .null, .null, .null, .null, .int (nI 0), .int (nI 0), .null, .int (nI 0), .null]))]) H := hP
  have hD : va_D A (gw h kq none k o b 0 0 0 ++ kw cB k 0 zf ++ ow cB o 0 0 zf ++ sw cB cI b 1024 0 0 (inW 8192) zf zf ++ krw cS kq (fun _ => none) ++ [(a0, .inr (4, [.null, .int (nI 0), .int (nI 0), .int (nI 0), .null, .null, .int (nI 0), .null, .null, .null, .null, .null, .null, .int (nI 0), .int (nI 0), .null, .int (nI 0), .null]))]) := hD
  refine lv_dup hx hb dL_law_11 rfl ?_
  have hPc := hP.sub (ws' := [(a0, .inr (4, [.null, .int (nI 0), .int (nI 0), .int (nI 0), .null, .null, .int (nI 0), .null, .null, .null, .null, .null, .null, .int (nI 0), .int (nI 0), .null, .int (nI 0), .null]))]) [10] rfl
  have hDc := hD.sub (ws' := [(a0, .inr (4, [.null, .int (nI 0), .int (nI 0), .int (nI 0), .null, .null, .int (nI 0), .null, .null, .null, .null, .null, .null, .int (nI 0), .int (nI 0), .null, .int (nI 0), .null]))]) [10] (by decide) rfl
  have hK0 := hK.sub (tys' := []) [] rfl
  have hFc := va_free (wc := [(a0, .inr (4, [.null, .int (nI 0), .int (nI 0), .int (nI 0), .null, .null, .int (nI 0), .null, .null, .null, .null, .null, .null, .int (nI 0), .int (nI 0), .null, .int (nI 0), .null]))]) hD hS hA [10] rfl
  refine va_callv (va_runI (As := []) (rest := [.ref a0]) ⟨hx, hb, hml, hown, hts⟩ (c_X4_init l dC dI a0 H.size) (cwI 0 hts gL_law_X4_init rfl rfl rfl (hts0 _ (wsL_law_r1_in (.initialized RX4) (List.mem_of_getElem? (i := 5) rfl))) (hts0 _ (wsL_law_r3_in (.methodLink RL 12 yX4_init) (List.mem_of_getElem? (i := 7) rfl))) (hts0 _ (wsL_law_r3_in (.instanceMethod yX4_init) (List.mem_of_getElem? (i := 8) rfl))) rfl (by decide +kernel) ⟨Nat.le_of_ble_eq_true rfl, Nat.le_of_ble_eq_true rfl⟩) ⟨fun a9 U g9 mk9 q9 => by obtain ⟨q0, q1, qP, qK, qD⟩ := q9; exact ⟨q0, q1, qP, va_K.moved (u := U) (U := U.calling g9 mk9 a9) (Vm.Alike.refl U.vm) qK, qD⟩, fun U hU hW => ⟨rfl, by rw [hU], by rw [hU]; exact hPc, va_K.moved hW.alike hK0, hDc.weaken (fun _ _ _ _ => trivial)⟩⟩ rfl rfl hl.1 rfl (lv_room (Nat.le_of_ble_eq_true rfl)) dL_law_12 ⟨Nat.le_of_ble_eq_true rfl, Nat.le_of_ble_eq_true rfl⟩) hS (fun q _ h => hFc q h) hFc (fun u t H1 locs ht9 hvm9 hw hB hz9 hk9 hS => ?_)
  obtain ⟨cJ, a⟩ := u
  obtain ⟨hP1, hK1, hD1⟩ := hB
  rw [ht9] at hP1
  try dsimp only at hw hP1 hK1 hD1
  have hKK := hK.app (va_K.moved hvm9.symm hK1)
  obtain rfl : cI = cJ := (va_one hKK 0 3 rfl rfl).symm
  subst hw
  obtain ⟨hP, hD⟩ := va_join (wr := gw h kq none k o b 0 0 0 ++ kw cB k 0 zf ++ ow cB o 0 0 zf ++ sw cB cI b 1024 0 0 (inW 8192) zf zf ++ krw cS kq (fun _ => none)) (w1 := mw cI a 1024 0 0 0 0 0 0 (inW 8192) zf zf zf zf zf zf zf zf zf zf) hP hD [10] [0, 1, 2, 3, 4, 5, 6, 7, 8, 9] rfl rfl (by decide) (by decide) hk9 hFc hP1 hD1
  generalize H1 = H at hP hS ⊢
  have hP : va_P (dC, dI) vwCl (gw h kq none k o b 0 0 0 ++ kw cB k 0 zf ++ ow cB o 0 0 zf ++ sw cB cI b 1024 0 0 (inW 8192) zf zf ++ krw cS kq (fun _ => none) ++ mw cI a 1024 0 0 0 0 0 0 (inW 8192) zf zf zf zf zf zf zf zf zf zf) H := hP.sub [0, 1, 2, 3, 4, 5, 6, 7, 8, 9, 10, 11, 12, 13, 14, 15, 16, 17, 18, 19, 20, 21] rfl
  have hD : va_D A (gw h kq none k o b 0 0 0 ++ kw cB k 0 zf ++ ow cB o 0 0 zf ++ sw cB cI b 1024 0 0 (inW 8192) zf zf ++ krw cS kq (fun _ => none) ++ mw cI a 1024 0 0 0 0 0 0 (inW 8192) zf zf zf zf zf zf zf zf zf zf) := hD.sub [0, 1, 2, 3, 4, 5, 6, 7, 8, 9, 10, 11, 12, 13, 14, 15, 16, 17, 18, 19, 20, 21] (by decide) rfl
  refine lv_astore_n (lv' := [(2, .ref (a 0)), (1, .ref h), (0, .ref q0)]) hx hb dL_law_15 rfl hl (by decide) rfl (fun ls hl => ?_)
  refine lv_iconst (v := nI 0) hx hb dL_law_16 (by decide) ?_
  refine lv_istore_n (lv' := [(3, .int (nI 0)), (2, .ref (a 0)), (1, .ref h), (0, .ref q0)]) hx hb dL_law_17 rfl hl (by decide) rfl (fun ls hl => ?_)
  refine W.widen (k := 22) (n := 78425) (Nat.le_of_ble_eq_true rfl) (Nat.le_of_ble_eq_true rfl) ?_
  exact law_loop l hL C0 dC dI cB cI cS h kq k a A hA hAs hbA hK (L + 1) 0 0 rfl (Nat.zero_le _) (by omega) _ H _ ls (J_0 cB cI cS h kq k o b a) hP hD hS hl
