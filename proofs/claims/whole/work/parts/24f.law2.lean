theorem xR_le {x : Option SX} {i : Nat} {km ks kt ku kl kn : Nat → Nat} (h : xR x i km ks kt ku kl kn) : ks i ≤ 8192 ∧ ku i ≤ 64 := by
  match x, h with
  | some ⟨d, z, s, u, m, p, l⟩, h => exact ⟨by rw [← h.1.1]; exact h.2.sz8, by rw [← h.1.2.2]; exact h.2.us64⟩
theorem upA_id {f : Nat → Option Nat} {i : Nat} {y : Option Nat} (h : f i = y) : va_up f i y = f := by
  funext j; unfold va_up; split
  · rename_i q; rw [q, h]
  · rfl
theorem same_eq {kp : Nat} {r1 r2 : Int32} {a b : Prop} (h0 : ¬ kp = 0) (h : a ↔ b) (hc : (a ∧ r1 = nI 1) ∨ (¬ a ∧ r1 = nI 0)) (hm : (kp = 0 ∧ r2 = (-11)) ∨ (¬ kp = 0 ∧ ((b ∧ r2 = nI 1) ∨ (¬ b ∧ r2 = nI 0)))) : r1 = r2 := by
  rcases hm with ⟨q, -⟩ | ⟨-, q⟩
  · exact absurd q h0
  · rcases hc with ⟨p1, e1⟩ | ⟨p1, e1⟩
    · rcases q with ⟨p2, e2⟩ | ⟨p2, e2⟩
      · rw [e1, e2]
      · exact absurd (h.mp p1) p2
    · rcases q with ⟨p2, e2⟩ | ⟨p2, e2⟩
      · exact absurd (h.mpr p2) p1
      · rw [e1, e2]
set_option maxHeartbeats 4000000 in
set_option maxRecDepth 100000 in
theorem lc_get {p : Program} {e : Env} {s : State} {m : MethodId} {below : List Frame} {meth : Method} {c : Code} (l : Launch) {q0 L : Nat} {xs : Nat → Int32} (hL : L ≤ 4096) (C0 : lw_At p s m meth c q0 L xs) (dC : Nat → ClassId) (dI : Nat → Nat → Nat) (cB cI cS : ClassId) (h kq : Nat) (k a : Nat → Nat) (A : Nat → Prop) (hA : ∀ q : Nat, s.heap.size ≤ q → A q) (hbA : ¬ A q0) (hK : va_K (dC, dI) vwCl [(cI, .int), (cB, .byte), (cS, .object "GlulxHeap$State")] s) {i jj : Nat} (hi : i = 8 * jj) (hiL : i + 8 ≤ L) {ws : va_W} {H : Heap} {locs : List Loc} {ls : Array Slot} (hJ : J cB cI cS h kq k a ws) (hP : va_P (dC, dI) vwCl ws H) (hD : va_D A ws) (hS : va_S A s.heap H locs) (hl : lv_has ls 4 [(3, .int (nI i)), (2, .ref (a 0)), (1, .ref h), (0, .ref q0)]) (tail : ∀ (ws : va_W) (H : Heap) (locs : List Loc) (ls : Array Slot), J cB cI cS h kq k a ws → va_P (dC, dI) vwCl ws H → va_D A ws → va_S A s.heap H locs → lv_has ls 4 [(3, .int (nI i)), (2, .ref (a 0)), (1, .ref h), (0, .ref q0)] → W p l e room_1 s m #[Value.ref q0] below meth c H locs (22 + 4 * (jj + 1)) (78425 + 12550 * (jj + 1)) (lw_Z below #[Value.ref q0] s) (F0 m 853 ls [])) : W p l e room_1 s m #[Value.ref q0] below meth c H locs (22 + 4 * jj) (78425 + 12550 * jj) (lw_Z below #[Value.ref q0] s) (F0 m 136 ls []) := by
  obtain ⟨hx, hb, hr, hml, hown, hts0, hX, hbl, hlocks, hgv⟩ := id C0
  have hts : ∀ w ∈ wsL_law, w.before #[Value.ref q0] s = true := fun w h => hts0 w (wsL_law_in w h)
  obtain ⟨o, b, sz, st, us, kp, ga, gl, kL, oz, cs, mK, pK, lK, kb, cK, mem, pl, ln, km, ks, kt, ku, kl, kn, cd, wt, sp, kf, rfl, c1, c2, c3, c4, c5, c6, c7, c8⟩ := hJ
  have hcs : cs ≤ 12550 ∧ oz ≤ 12550 := by have := c6.2.1; rcases c6.1 with q | q <;> omega
  have hst9 := wfB_st c1.1
  refine lv_aload_n hx hb dL_law_136 rfl (lv_at hl 2 rfl) ?_
  refine lv_aload_n hx hb dL_law_137 rfl (lv_at hl 3 rfl) ?_
  refine lv_iload_n hx hb dL_law_138 rfl (lv_at hl 0 rfl) ?_
  refine lv_iconst (v := nI 1) hx hb dL_law_139 (by decide) ?_
  refine lv_iadd hx hb dL_law_140 ?_
  refine tpi (nI_add i 1) ?_
  refine va_sld hx hb hX hbl hbA hS (vp_in_nI (by omega) (by omega)) dL_law_141 ?_
  refine tpi (show xs (nI (i + 1)).toNatClampNeg = xs (i + 1) by rw [nI_clamp (by omega)]) ?_
  refine lv_aload_n hx hb dL_law_142 rfl (lv_at hl 3 rfl) ?_
  refine lv_iload_n hx hb dL_law_143 rfl (lv_at hl 0 rfl) ?_
  refine lv_iconst (v := nI 2) hx hb dL_law_144 (by decide) ?_
  refine lv_iadd hx hb dL_law_145 ?_
  refine tpi (nI_add i 2) ?_
  refine va_sld hx hb hX hbl hbA hS (vp_in_nI (by omega) (by omega)) dL_law_146 ?_
  refine tpi (show xs (nI (i + 2)).toNatClampNeg = xs (i + 2) by rw [nI_clamp (by omega)]) ?_
  have hKc := hK.sub (tys' := [(cI, .int), (cB, .byte)]) [0, 1] rfl
  have hPc : va_P (dC, dI) vwCl (gw h kq (xA sp) k o b kp ga gl ++ kw cB k kL kb ++ ow cB o oz cs cK ++ sw cB cI b sz st us mK pK lK) H := va_P_left (va_P_perm (pGKOS) hP)
  refine vp_callSl (W.runV (As := [.int (xs (i + 1)), .int (xs (i + 2))]) (rest := []) ⟨hx, hb, hml, hown, hts⟩ (c_X3_get l dC dI cB cI h kq (xA sp) k o b kp ga gl kL kb oz cs cK sz st us mK pK lK (xs (i + 1)) (xs (i + 2)) c1.sz8 c2.1) (cwV 2 hts gL_law_X3_get rfl rfl rfl (by decide +kernel) ⟨Nat.le_of_ble_eq_true rfl, Nat.le_of_ble_eq_true rfl⟩) ⟨fun a9 U g9 mk9 q9 => by obtain ⟨q0, qP, qK⟩ := q9; exact ⟨q0, qP, va_K.moved (u := U) (U := U.calling g9 mk9 a9) (Vm.Alike.refl U.vm) qK⟩, va_recv hKc hPc (ci := 3) (q0 := 0) rfl rfl, fun U hU hW => ⟨rfl, by rw [hU]; exact hPc, va_K.moved hW.alike hKc⟩⟩ rfl rfl hl.1 rfl (lv_room (Nat.le_of_ble_eq_true rfl)) dL_law_147 ⟨by show 22 + 4 * jj + 0 ≤ 600000; omega, by show 78425 + 12550 * jj + 0 ≤ 7302250; omega⟩) (fun r1 hw => ?_)
  have hc := hw
  clear hw
  refine lv_aload_n hx hb dL_law_150 rfl (lv_at hl 1 rfl) ?_
  refine lv_aload_n hx hb dL_law_151 rfl (lv_at hl 3 rfl) ?_
  refine lv_iload_n hx hb dL_law_152 rfl (lv_at hl 0 rfl) ?_
  refine lv_iconst (v := nI 1) hx hb dL_law_153 (by decide) ?_
  refine lv_iadd hx hb dL_law_154 ?_
  refine tpi (nI_add i 1) ?_
  refine va_sld hx hb hX hbl hbA hS (vp_in_nI (by omega) (by omega)) dL_law_155 ?_
  refine tpi (show xs (nI (i + 1)).toNatClampNeg = xs (i + 1) by rw [nI_clamp (by omega)]) ?_
  refine lv_aload_n hx hb dL_law_156 rfl (lv_at hl 3 rfl) ?_
  refine lv_iload_n hx hb dL_law_157 rfl (lv_at hl 0 rfl) ?_
  refine lv_iconst (v := nI 2) hx hb dL_law_158 (by decide) ?_
  refine lv_iadd hx hb dL_law_159 ?_
  refine tpi (nI_add i 2) ?_
  refine va_sld hx hb hX hbl hbA hS (vp_in_nI (by omega) (by omega)) dL_law_160 ?_
  refine tpi (show xs (nI (i + 2)).toNatClampNeg = xs (i + 2) by rw [nI_clamp (by omega)]) ?_
  have hKc := hK.sub (tys' := [(cI, .int)]) [0] rfl
  have hPc : va_P (dC, dI) vwCl (mw cI a sz st us kp ga gl cs mem pl ln km ks kt ku kl kn cd wt) H := va_P_left (va_P_perm (pM) hP)
  refine vp_callSl (W.runV (As := [.int (xs (i + 1)), .int (xs (i + 2))]) (rest := [.long r1]) ⟨hx, hb, hml, hown, hts⟩ (c_X4_get l dC dI cI a sz st us kp ga gl cs mem pl ln km ks kt ku kl kn cd wt (xs (i + 1)) (xs (i + 2)) c1.sz8 c3.1) (cwV 2 hts gL_law_X4_get rfl rfl rfl (by decide +kernel) ⟨Nat.le_of_ble_eq_true rfl, Nat.le_of_ble_eq_true rfl⟩) ⟨fun a9 U g9 mk9 q9 => by obtain ⟨q0, qP, qK⟩ := q9; exact ⟨q0, qP, va_K.moved (u := U) (U := U.calling g9 mk9 a9) (Vm.Alike.refl U.vm) qK⟩, va_recv hKc hPc (ci := 4) (q0 := 0) rfl rfl, fun U hU hW => ⟨rfl, by rw [hU]; exact hPc, va_K.moved hW.alike hKc⟩⟩ rfl rfl hl.1 rfl (lv_room (Nat.le_of_ble_eq_true rfl)) dL_law_161 ⟨by show 22 + 4 * jj + 0 ≤ 600000; omega, by show 78425 + 12550 * jj + 0 ≤ 7302250; omega⟩) (fun r2 hw => ?_)
  have hm := hw
  clear hw
  have heq : r1 = r2 := hc.trans ((gS_c c1.2.1 _ _).trans hm.symm)
  refine W.lcmp hx hb dL_law_164 ?_
  refine lv_if_eq (tgt := 853) hx hb dL_law_165 (by decide) (fun _ => ?_) (fun c9 => absurd ((lg_cmp_eq _ _).mpr heq) c9)
  refine W.widen (k := 22 + 4 * (jj + 1)) (n := 78425 + 12550 * (jj + 1)) (by omega) (by omega) ?_
  exact tail _ H locs ls ⟨o, b, sz, st, us, kp, ga, gl, kL, oz, cs, mK, pK, lK, kb, cK, mem, pl, ln, km, ks, kt, ku, kl, kn, cd, wt, sp, kf, rfl, ⟨c1, c2, c3, c4, c5, c6, c7, c8⟩⟩ hP hD hS hl
set_option maxHeartbeats 4000000 in
set_option maxRecDepth 100000 in
theorem lc_set {p : Program} {e : Env} {s : State} {m : MethodId} {below : List Frame} {meth : Method} {c : Code} (l : Launch) {q0 L : Nat} {xs : Nat → Int32} (hL : L ≤ 4096) (C0 : lw_At p s m meth c q0 L xs) (dC : Nat → ClassId) (dI : Nat → Nat → Nat) (cB cI cS : ClassId) (h kq : Nat) (k a : Nat → Nat) (A : Nat → Prop) (hA : ∀ q : Nat, s.heap.size ≤ q → A q) (hbA : ¬ A q0) (hK : va_K (dC, dI) vwCl [(cI, .int), (cB, .byte), (cS, .object "GlulxHeap$State")] s) {i jj : Nat} (hi : i = 8 * jj) (hiL : i + 8 ≤ L) {ws : va_W} {H : Heap} {locs : List Loc} {ls : Array Slot} (hJ : J cB cI cS h kq k a ws) (hP : va_P (dC, dI) vwCl ws H) (hD : va_D A ws) (hS : va_S A s.heap H locs) (hl : lv_has ls 4 [(3, .int (nI i)), (2, .ref (a 0)), (1, .ref h), (0, .ref q0)]) (tail : ∀ (ws : va_W) (H : Heap) (locs : List Loc) (ls : Array Slot), J cB cI cS h kq k a ws → va_P (dC, dI) vwCl ws H → va_D A ws → va_S A s.heap H locs → lv_has ls 4 [(3, .int (nI i)), (2, .ref (a 0)), (1, .ref h), (0, .ref q0)] → W p l e room_1 s m #[Value.ref q0] below meth c H locs (22 + 4 * (jj + 1)) (78425 + 12550 * (jj + 1)) (lw_Z below #[Value.ref q0] s) (F0 m 853 ls [])) : W p l e room_1 s m #[Value.ref q0] below meth c H locs (22 + 4 * jj) (78425 + 12550 * jj) (lw_Z below #[Value.ref q0] s) (F0 m 170 ls []) := by
  obtain ⟨hx, hb, hr, hml, hown, hts0, hX, hbl, hlocks, hgv⟩ := id C0
  have hts : ∀ w ∈ wsL_law, w.before #[Value.ref q0] s = true := fun w h => hts0 w (wsL_law_in w h)
  obtain ⟨o, b, sz, st, us, kp, ga, gl, kL, oz, cs, mK, pK, lK, kb, cK, mem, pl, ln, km, ks, kt, ku, kl, kn, cd, wt, sp, kf, rfl, c1, c2, c3, c4, c5, c6, c7, c8⟩ := hJ
  have hcs : cs ≤ 12550 ∧ oz ≤ 12550 := by have := c6.2.1; rcases c6.1 with q | q <;> omega
  have hst9 := wfB_st c1.1
  refine lv_aload_n hx hb dL_law_170 rfl (lv_at hl 2 rfl) ?_
  refine lv_aload_n hx hb dL_law_171 rfl (lv_at hl 3 rfl) ?_
  refine lv_iload_n hx hb dL_law_172 rfl (lv_at hl 0 rfl) ?_
  refine lv_iconst (v := nI 1) hx hb dL_law_173 (by decide) ?_
  refine lv_iadd hx hb dL_law_174 ?_
  refine tpi (nI_add i 1) ?_
  refine va_sld hx hb hX hbl hbA hS (vp_in_nI (by omega) (by omega)) dL_law_175 ?_
  refine tpi (show xs (nI (i + 1)).toNatClampNeg = xs (i + 1) by rw [nI_clamp (by omega)]) ?_
  refine lv_aload_n hx hb dL_law_176 rfl (lv_at hl 3 rfl) ?_
  refine lv_iload_n hx hb dL_law_177 rfl (lv_at hl 0 rfl) ?_
  refine lv_iconst (v := nI 2) hx hb dL_law_178 (by decide) ?_
  refine lv_iadd hx hb dL_law_179 ?_
  refine tpi (nI_add i 2) ?_
  refine va_sld hx hb hX hbl hbA hS (vp_in_nI (by omega) (by omega)) dL_law_180 ?_
  refine tpi (show xs (nI (i + 2)).toNatClampNeg = xs (i + 2) by rw [nI_clamp (by omega)]) ?_
  refine lv_aload_n hx hb dL_law_181 rfl (lv_at hl 3 rfl) ?_
  refine lv_iload_n hx hb dL_law_182 rfl (lv_at hl 0 rfl) ?_
  refine lv_iconst (v := nI 3) hx hb dL_law_183 (by decide) ?_
  refine lv_iadd hx hb dL_law_184 ?_
  refine tpi (nI_add i 3) ?_
  refine va_sld hx hb hX hbl hbA hS (vp_in_nI (by omega) (by omega)) dL_law_185 ?_
  refine tpi (show xs (nI (i + 3)).toNatClampNeg = xs (i + 3) by rw [nI_clamp (by omega)]) ?_
  have hKc := hK.sub (tys' := [(cI, .int), (cB, .byte)]) [0, 1] rfl
  refine fr_calli (wc := gw h kq (xA sp) k o b kp ga gl ++ kw cB k kL kb ++ ow cB o oz cs cK ++ sw cB cI b sz st us mK pK lK) (wr := krw cS kq (fun j => xA (kf j)) ++ (xW cB cI sp ++ kW cB cI kf) ++ mw cI a sz st us kp ga gl cs mem pl ln km ks kt ku kl kn cd wt) (w1 := fun _ => gw h kq (xA sp) k o b kp ga gl ++ kw cB k kL kb ++ ow cB o oz cs cK ++ sw cB cI b sz st us (stM sz mK (xs (i + 1)) (xs (i + 2)) (xs (i + 3))) pK lK) (Z := fun _ t9 => va_K (dC, dI) vwCl [(cI, .int), (cB, .byte)] t9) (fun _ _ q9 => q9) (pGKOS) hP hD hS hA (fun hPc hDc => va_runV (As := [.int (xs (i + 1)), .int (xs (i + 2)), .int (xs (i + 3))]) (rest := []) ⟨hx, hb, hml, hown, hts⟩ (c_X3_set l dC dI cB cI h kq (xA sp) k o b kp ga gl kL kb oz cs cK sz st us mK pK lK H.size (xs (i + 1)) (xs (i + 2)) (xs (i + 3)) c1.sz8) (cwV 3 hts gL_law_X3_set rfl rfl rfl (by decide +kernel) ⟨Nat.le_of_ble_eq_true rfl, Nat.le_of_ble_eq_true rfl⟩) ⟨fun a9 U g9 mk9 q9 => by obtain ⟨q0, q1, qP, qK, qD⟩ := q9; exact ⟨q0, q1, qP, va_K.moved (u := U) (U := U.calling g9 mk9 a9) (Vm.Alike.refl U.vm) qK, qD⟩, va_recv hKc hPc (ci := 3) (q0 := 0) rfl rfl, fun U hU hW => ⟨rfl, by rw [hU], by rw [hU]; exact hPc, va_K.moved hW.alike hKc, hDc⟩⟩ rfl rfl hl.1 rfl (lv_room (Nat.le_of_ble_eq_true rfl)) dL_law_186 ⟨by show 22 + 4 * jj + 0 ≤ 600000; omega, by show 78425 + 12550 * jj + 0 ≤ 7302250; omega⟩) (fun r1 _ H locs hw hP hD hS => ?_)
  try dsimp only at hw hP hD
  have hc := hw
  clear hw
  have hP := va_P_perm pGKOS.symm hP
  have hD := va_D_perm pGKOS.symm hD
  have hP : va_P (dC, dI) vwCl (gw h kq (xA sp) k o b kp ga gl ++ kw cB k kL kb ++ ow cB o oz cs cK ++ sw cB cI b sz st us (stM sz mK (xs (i + 1)) (xs (i + 2)) (xs (i + 3))) pK lK ++ (krw cS kq (fun j => xA (kf j)) ++ (xW cB cI sp ++ kW cB cI kf)) ++ mw cI a sz st us kp ga gl cs mem pl ln km ks kt ku kl kn cd wt) H := hP
  have hD : va_D A (gw h kq (xA sp) k o b kp ga gl ++ kw cB k kL kb ++ ow cB o oz cs cK ++ sw cB cI b sz st us (stM sz mK (xs (i + 1)) (xs (i + 2)) (xs (i + 3))) pK lK ++ (krw cS kq (fun j => xA (kf j)) ++ (xW cB cI sp ++ kW cB cI kf)) ++ mw cI a sz st us kp ga gl cs mem pl ln km ks kt ku kl kn cd wt) := hD
  refine lv_aload_n hx hb dL_law_189 rfl (lv_at hl 1 rfl) ?_
  refine lv_aload_n hx hb dL_law_190 rfl (lv_at hl 3 rfl) ?_
  refine lv_iload_n hx hb dL_law_191 rfl (lv_at hl 0 rfl) ?_
  refine lv_iconst (v := nI 1) hx hb dL_law_192 (by decide) ?_
  refine lv_iadd hx hb dL_law_193 ?_
  refine tpi (nI_add i 1) ?_
  refine va_sld hx hb hX hbl hbA hS (vp_in_nI (by omega) (by omega)) dL_law_194 ?_
  refine tpi (show xs (nI (i + 1)).toNatClampNeg = xs (i + 1) by rw [nI_clamp (by omega)]) ?_
  refine lv_aload_n hx hb dL_law_195 rfl (lv_at hl 3 rfl) ?_
  refine lv_iload_n hx hb dL_law_196 rfl (lv_at hl 0 rfl) ?_
  refine lv_iconst (v := nI 2) hx hb dL_law_197 (by decide) ?_
  refine lv_iadd hx hb dL_law_198 ?_
  refine tpi (nI_add i 2) ?_
  refine va_sld hx hb hX hbl hbA hS (vp_in_nI (by omega) (by omega)) dL_law_199 ?_
  refine tpi (show xs (nI (i + 2)).toNatClampNeg = xs (i + 2) by rw [nI_clamp (by omega)]) ?_
  refine lv_aload_n hx hb dL_law_200 rfl (lv_at hl 3 rfl) ?_
  refine lv_iload_n hx hb dL_law_201 rfl (lv_at hl 0 rfl) ?_
  refine lv_iconst (v := nI 3) hx hb dL_law_202 (by decide) ?_
  refine lv_iadd hx hb dL_law_203 ?_
  refine tpi (nI_add i 3) ?_
  refine va_sld hx hb hX hbl hbA hS (vp_in_nI (by omega) (by omega)) dL_law_204 ?_
  refine tpi (show xs (nI (i + 3)).toNatClampNeg = xs (i + 3) by rw [nI_clamp (by omega)]) ?_
  have hKc := hK.sub (tys' := [(cI, .int)]) [0] rfl
  refine fr_calli (wc := mw cI a sz st us kp ga gl cs mem pl ln km ks kt ku kl kn cd wt) (wr := gw h kq (xA sp) k o b kp ga gl ++ kw cB k kL kb ++ ow cB o oz cs cK ++ sw cB cI b sz st us (stM sz mK (xs (i + 1)) (xs (i + 2)) (xs (i + 3))) pK lK ++ (krw cS kq (fun j => xA (kf j)) ++ (xW cB cI sp ++ kW cB cI kf))) (w1 := fun _ => mw cI a sz st us kp ga gl cs (stM sz mem (xs (i + 1)) (xs (i + 2)) (xs (i + 3))) pl ln km ks kt ku kl kn cd wt) (Z := fun _ t9 => va_K (dC, dI) vwCl [(cI, .int)] t9) (fun _ _ q9 => q9) (pM) hP hD hS hA (fun hPc hDc => va_runV (As := [.int (xs (i + 1)), .int (xs (i + 2)), .int (xs (i + 3))]) (rest := [.int r1]) ⟨hx, hb, hml, hown, hts⟩ (c_X4_set l dC dI cI a sz st us kp ga gl cs mem pl ln km ks kt ku kl kn cd wt H.size (xs (i + 1)) (xs (i + 2)) (xs (i + 3)) c1.sz8) (cwV 3 hts gL_law_X4_set rfl rfl rfl (by decide +kernel) ⟨Nat.le_of_ble_eq_true rfl, Nat.le_of_ble_eq_true rfl⟩) ⟨fun a9 U g9 mk9 q9 => by obtain ⟨q0, q1, qP, qK, qD⟩ := q9; exact ⟨q0, q1, qP, va_K.moved (u := U) (U := U.calling g9 mk9 a9) (Vm.Alike.refl U.vm) qK, qD⟩, va_recv hKc hPc (ci := 4) (q0 := 0) rfl rfl, fun U hU hW => ⟨rfl, by rw [hU], by rw [hU]; exact hPc, va_K.moved hW.alike hKc, hDc⟩⟩ rfl rfl hl.1 rfl (lv_room (Nat.le_of_ble_eq_true rfl)) dL_law_205 ⟨by show 22 + 4 * jj + 0 + 0 ≤ 600000; omega, by show 78425 + 12550 * jj + 0 + 0 ≤ 7302250; omega⟩) (fun r2 _ H locs hw hP hD hS => ?_)
  try dsimp only at hw hP hD
  have hm := hw
  clear hw
  have hP := va_P_perm pM hP
  have hD := va_D_perm pM hD
  have hP : va_P (dC, dI) vwCl (gw h kq (xA sp) k o b kp ga gl ++ kw cB k kL kb ++ ow cB o oz cs cK ++ sw cB cI b sz st us (stM sz mK (xs (i + 1)) (xs (i + 2)) (xs (i + 3))) pK lK ++ (krw cS kq (fun j => xA (kf j)) ++ (xW cB cI sp ++ kW cB cI kf)) ++ mw cI a sz st us kp ga gl cs (stM sz mem (xs (i + 1)) (xs (i + 2)) (xs (i + 3))) pl ln km ks kt ku kl kn cd wt) H := hP
  have hD : va_D A (gw h kq (xA sp) k o b kp ga gl ++ kw cB k kL kb ++ ow cB o oz cs cK ++ sw cB cI b sz st us (stM sz mK (xs (i + 1)) (xs (i + 2)) (xs (i + 3))) pK lK ++ (krw cS kq (fun j => xA (kf j)) ++ (xW cB cI sp ++ kW cB cI kf)) ++ mw cI a sz st us kp ga gl cs (stM sz mem (xs (i + 1)) (xs (i + 2)) (xs (i + 3))) pl ln km ks kt ku kl kn cd wt) := hD
  have heq : r1 = r2 := hc.trans hm.symm
  refine lv_icmp_eq (tgt := 853) hx hb dL_law_208 (by decide) (fun _ => ?_) (fun c9 => absurd heq c9)
  refine W.widen (k := 22 + 4 * (jj + 1)) (n := 78425 + 12550 * (jj + 1)) (by omega) (by omega) ?_
  exact tail _ H locs ls ⟨o, b, sz, st, us, kp, ga, gl, kL, oz, cs, stM sz mK (xs (i + 1)) (xs (i + 2)) (xs (i + 3)), pK, lK, kb, cK, stM sz mem (xs (i + 1)) (xs (i + 2)) (xs (i + 3)), pl, ln, km, ks, kt, ku, kl, kn, cd, wt, sp, kf, rfl, ⟨c1.set _ _ _, ⟨stM_lt c2.1 _ _ _, c2.2⟩, ⟨stM_lt c3.1 _ _ _, c3.2⟩, c4, c5, c6, c7, c8⟩⟩ hP hD hS hl
set_option maxHeartbeats 4000000 in
set_option maxRecDepth 100000 in
theorem lc_resize {p : Program} {e : Env} {s : State} {m : MethodId} {below : List Frame} {meth : Method} {c : Code} (l : Launch) {q0 L : Nat} {xs : Nat → Int32} (hL : L ≤ 4096) (C0 : lw_At p s m meth c q0 L xs) (dC : Nat → ClassId) (dI : Nat → Nat → Nat) (cB cI cS : ClassId) (h kq : Nat) (k a : Nat → Nat) (A : Nat → Prop) (hA : ∀ q : Nat, s.heap.size ≤ q → A q) (hbA : ¬ A q0) (hK : va_K (dC, dI) vwCl [(cI, .int), (cB, .byte), (cS, .object "GlulxHeap$State")] s) {i jj : Nat} (hi : i = 8 * jj) (hiL : i + 8 ≤ L) {ws : va_W} {H : Heap} {locs : List Loc} {ls : Array Slot} (hJ : J cB cI cS h kq k a ws) (hP : va_P (dC, dI) vwCl ws H) (hD : va_D A ws) (hS : va_S A s.heap H locs) (hl : lv_has ls 4 [(3, .int (nI i)), (2, .ref (a 0)), (1, .ref h), (0, .ref q0)]) (tail : ∀ (ws : va_W) (H : Heap) (locs : List Loc) (ls : Array Slot), J cB cI cS h kq k a ws → va_P (dC, dI) vwCl ws H → va_D A ws → va_S A s.heap H locs → lv_has ls 4 [(3, .int (nI i)), (2, .ref (a 0)), (1, .ref h), (0, .ref q0)] → W p l e room_1 s m #[Value.ref q0] below meth c H locs (22 + 4 * (jj + 1)) (78425 + 12550 * (jj + 1)) (lw_Z below #[Value.ref q0] s) (F0 m 853 ls [])) : W p l e room_1 s m #[Value.ref q0] below meth c H locs (22 + 4 * jj) (78425 + 12550 * jj) (lw_Z below #[Value.ref q0] s) (F0 m 289 ls []) := by
  obtain ⟨hx, hb, hr, hml, hown, hts0, hX, hbl, hlocks, hgv⟩ := id C0
  have hts : ∀ w ∈ wsL_law, w.before #[Value.ref q0] s = true := fun w h => hts0 w (wsL_law_in w h)
  obtain ⟨o, b, sz, st, us, kp, ga, gl, kL, oz, cs, mK, pK, lK, kb, cK, mem, pl, ln, km, ks, kt, ku, kl, kn, cd, wt, sp, kf, rfl, c1, c2, c3, c4, c5, c6, c7, c8⟩ := hJ
  have hcs : cs ≤ 12550 ∧ oz ≤ 12550 := by have := c6.2.1; rcases c6.1 with q | q <;> omega
  have hst9 := wfB_st c1.1
  refine lv_aload_n hx hb dL_law_289 rfl (lv_at hl 2 rfl) ?_
  refine lv_aload_n hx hb dL_law_290 rfl (lv_at hl 3 rfl) ?_
  refine lv_iload_n hx hb dL_law_291 rfl (lv_at hl 0 rfl) ?_
  refine lv_iconst (v := nI 1) hx hb dL_law_292 (by decide) ?_
  refine lv_iadd hx hb dL_law_293 ?_
  refine tpi (nI_add i 1) ?_
  refine va_sld hx hb hX hbl hbA hS (vp_in_nI (by omega) (by omega)) dL_law_294 ?_
  refine tpi (show xs (nI (i + 1)).toNatClampNeg = xs (i + 1) by rw [nI_clamp (by omega)]) ?_
  have hKc := hK.sub (tys' := [(cI, .int), (cB, .byte)]) [0, 1] rfl
  refine fr_calli (wc := gw h kq (xA sp) k o b kp ga gl ++ kw cB k kL kb ++ ow cB o oz cs cK ++ sw cB cI b sz st us mK pK lK) (wr := krw cS kq (fun j => xA (kf j)) ++ (xW cB cI sp ++ kW cB cI kf) ++ mw cI a sz st us kp ga gl cs mem pl ln km ks kt ku kl kn cd wt) (w1 := fun _ => gw h kq (xA sp) k o b kp ga gl ++ kw cB k kL kb ++ ow cB o oz cs cK ++ sw cB cI b (rzZ sz us (xs (i + 1))) st us (rzC sz us mK (xs (i + 1))) pK lK) (Z := fun _ t9 => va_K (dC, dI) vwCl [(cI, .int), (cB, .byte)] t9) (fun _ _ q9 => q9) (pGKOS) hP hD hS hA (fun hPc hDc => va_runV (As := [.int (xs (i + 1))]) (rest := []) ⟨hx, hb, hml, hown, hts⟩ (c_X3_resize l dC dI cB cI h kq (xA sp) k o b kp ga gl kL kb oz cs cK sz st us mK pK lK H.size (xs (i + 1)) c1.sz8 c1.us64) (cwV 1 hts gL_law_X3_resize rfl rfl rfl (by decide +kernel) ⟨Nat.le_of_ble_eq_true rfl, Nat.le_of_ble_eq_true rfl⟩) ⟨fun a9 U g9 mk9 q9 => by obtain ⟨q0, q1, qP, qK, qD⟩ := q9; exact ⟨q0, q1, qP, va_K.moved (u := U) (U := U.calling g9 mk9 a9) (Vm.Alike.refl U.vm) qK, qD⟩, va_recv hKc hPc (ci := 3) (q0 := 0) rfl rfl, fun U hU hW => ⟨rfl, by rw [hU], by rw [hU]; exact hPc, va_K.moved hW.alike hKc, hDc⟩⟩ rfl rfl hl.1 rfl (lv_room (Nat.le_of_ble_eq_true rfl)) dL_law_295 ⟨by show 22 + 4 * jj + 0 ≤ 600000; omega, by show 78425 + 12550 * jj + 0 ≤ 7302250; omega⟩) (fun r1 _ H locs hw hP hD hS => ?_)
  try dsimp only at hw hP hD
  have hc := hw
  clear hw
  have hP := va_P_perm pGKOS.symm hP
  have hD := va_D_perm pGKOS.symm hD
  have hP : va_P (dC, dI) vwCl (gw h kq (xA sp) k o b kp ga gl ++ kw cB k kL kb ++ ow cB o oz cs cK ++ sw cB cI b (rzZ sz us (xs (i + 1))) st us (rzC sz us mK (xs (i + 1))) pK lK ++ (krw cS kq (fun j => xA (kf j)) ++ (xW cB cI sp ++ kW cB cI kf)) ++ mw cI a sz st us kp ga gl cs mem pl ln km ks kt ku kl kn cd wt) H := hP
  have hD : va_D A (gw h kq (xA sp) k o b kp ga gl ++ kw cB k kL kb ++ ow cB o oz cs cK ++ sw cB cI b (rzZ sz us (xs (i + 1))) st us (rzC sz us mK (xs (i + 1))) pK lK ++ (krw cS kq (fun j => xA (kf j)) ++ (xW cB cI sp ++ kW cB cI kf)) ++ mw cI a sz st us kp ga gl cs mem pl ln km ks kt ku kl kn cd wt) := hD
  refine lv_aload_n hx hb dL_law_298 rfl (lv_at hl 1 rfl) ?_
  refine lv_aload_n hx hb dL_law_299 rfl (lv_at hl 3 rfl) ?_
  refine lv_iload_n hx hb dL_law_300 rfl (lv_at hl 0 rfl) ?_
  refine lv_iconst (v := nI 1) hx hb dL_law_301 (by decide) ?_
  refine lv_iadd hx hb dL_law_302 ?_
  refine tpi (nI_add i 1) ?_
  refine va_sld hx hb hX hbl hbA hS (vp_in_nI (by omega) (by omega)) dL_law_303 ?_
  refine tpi (show xs (nI (i + 1)).toNatClampNeg = xs (i + 1) by rw [nI_clamp (by omega)]) ?_
  have hKc := hK.sub (tys' := [(cI, .int)]) [0] rfl
  refine fr_calli (wc := mw cI a sz st us kp ga gl cs mem pl ln km ks kt ku kl kn cd wt) (wr := gw h kq (xA sp) k o b kp ga gl ++ kw cB k kL kb ++ ow cB o oz cs cK ++ sw cB cI b (rzZ sz us (xs (i + 1))) st us (rzC sz us mK (xs (i + 1))) pK lK ++ (krw cS kq (fun j => xA (kf j)) ++ (xW cB cI sp ++ kW cB cI kf))) (w1 := fun _ => mw cI a (rzZ sz us (xs (i + 1))) st us kp ga gl cs (rzM sz us mem (xs (i + 1))) pl ln km ks kt ku kl kn cd wt) (Z := fun _ t9 => va_K (dC, dI) vwCl [(cI, .int)] t9) (fun _ _ q9 => q9) (pM) hP hD hS hA (fun hPc hDc => va_runV (As := [.int (xs (i + 1))]) (rest := [.int r1]) ⟨hx, hb, hml, hown, hts⟩ (c_X4_resize l dC dI cI a sz st us kp ga gl cs mem pl ln km ks kt ku kl kn cd wt H.size (xs (i + 1)) c1.sz8 c1.us64) (cwV 1 hts gL_law_X4_resize rfl rfl rfl (by decide +kernel) ⟨Nat.le_of_ble_eq_true rfl, Nat.le_of_ble_eq_true rfl⟩) ⟨fun a9 U g9 mk9 q9 => by obtain ⟨q0, q1, qP, qK, qD⟩ := q9; exact ⟨q0, q1, qP, va_K.moved (u := U) (U := U.calling g9 mk9 a9) (Vm.Alike.refl U.vm) qK, qD⟩, va_recv hKc hPc (ci := 4) (q0 := 0) rfl rfl, fun U hU hW => ⟨rfl, by rw [hU], by rw [hU]; exact hPc, va_K.moved hW.alike hKc, hDc⟩⟩ rfl rfl hl.1 rfl (lv_room (Nat.le_of_ble_eq_true rfl)) dL_law_304 ⟨by show 22 + 4 * jj + 0 + 0 ≤ 600000; omega, by show 78425 + 12550 * jj + 0 + 0 ≤ 7302250; omega⟩) (fun r2 _ H locs hw hP hD hS => ?_)
  try dsimp only at hw hP hD
  have hm := hw
  clear hw
  have hP := va_P_perm pM hP
  have hD := va_D_perm pM hD
  have hP : va_P (dC, dI) vwCl (gw h kq (xA sp) k o b kp ga gl ++ kw cB k kL kb ++ ow cB o oz cs cK ++ sw cB cI b (rzZ sz us (xs (i + 1))) st us (rzC sz us mK (xs (i + 1))) pK lK ++ (krw cS kq (fun j => xA (kf j)) ++ (xW cB cI sp ++ kW cB cI kf)) ++ mw cI a (rzZ sz us (xs (i + 1))) st us kp ga gl cs (rzM sz us mem (xs (i + 1))) pl ln km ks kt ku kl kn cd wt) H := hP
  have hD : va_D A (gw h kq (xA sp) k o b kp ga gl ++ kw cB k kL kb ++ ow cB o oz cs cK ++ sw cB cI b (rzZ sz us (xs (i + 1))) st us (rzC sz us mK (xs (i + 1))) pK lK ++ (krw cS kq (fun j => xA (kf j)) ++ (xW cB cI sp ++ kW cB cI kf)) ++ mw cI a (rzZ sz us (xs (i + 1))) st us kp ga gl cs (rzM sz us mem (xs (i + 1))) pl ln km ks kt ku kl kn cd wt) := hD
  have heq : r1 = r2 := hc.trans hm.symm
  refine lv_icmp_eq (tgt := 853) hx hb dL_law_307 (by decide) (fun _ => ?_) (fun c9 => absurd heq c9)
  refine W.widen (k := 22 + 4 * (jj + 1)) (n := 78425 + 12550 * (jj + 1)) (by omega) (by omega) ?_
  exact tail _ H locs ls ⟨o, b, rzZ sz us (xs (i + 1)), st, us, kp, ga, gl, kL, oz, cs, rzC sz us mK (xs (i + 1)), pK, lK, kb, cK, rzM sz us mem (xs (i + 1)), pl, ln, km, ks, kt, ku, kl, kn, cd, wt, sp, kf, rfl, ⟨c1.resize _, ⟨rzC_lt c2.1 _, c2.2⟩, ⟨rzM_lt c3.1 _, c3.2⟩, c4, c5, c6, c7, c8⟩⟩ hP hD hS hl
set_option maxHeartbeats 4000000 in
set_option maxRecDepth 100000 in
theorem lc_make {p : Program} {e : Env} {s : State} {m : MethodId} {below : List Frame} {meth : Method} {c : Code} (l : Launch) {q0 L : Nat} {xs : Nat → Int32} (hL : L ≤ 4096) (C0 : lw_At p s m meth c q0 L xs) (dC : Nat → ClassId) (dI : Nat → Nat → Nat) (cB cI cS : ClassId) (h kq : Nat) (k a : Nat → Nat) (A : Nat → Prop) (hA : ∀ q : Nat, s.heap.size ≤ q → A q) (hbA : ¬ A q0) (hK : va_K (dC, dI) vwCl [(cI, .int), (cB, .byte), (cS, .object "GlulxHeap$State")] s) {i jj : Nat} (hi : i = 8 * jj) (hiL : i + 8 ≤ L) {ws : va_W} {H : Heap} {locs : List Loc} {ls : Array Slot} (hJ : J cB cI cS h kq k a ws) (hP : va_P (dC, dI) vwCl ws H) (hD : va_D A ws) (hS : va_S A s.heap H locs) (hl : lv_has ls 4 [(3, .int (nI i)), (2, .ref (a 0)), (1, .ref h), (0, .ref q0)]) (tail : ∀ (ws : va_W) (H : Heap) (locs : List Loc) (ls : Array Slot), J cB cI cS h kq k a ws → va_P (dC, dI) vwCl ws H → va_D A ws → va_S A s.heap H locs → lv_has ls 4 [(3, .int (nI i)), (2, .ref (a 0)), (1, .ref h), (0, .ref q0)] → W p l e room_1 s m #[Value.ref q0] below meth c H locs (22 + 4 * (jj + 1)) (78425 + 12550 * (jj + 1)) (lw_Z below #[Value.ref q0] s) (F0 m 853 ls [])) : W p l e room_1 s m #[Value.ref q0] below meth c H locs (22 + 4 * jj) (78425 + 12550 * jj) (lw_Z below #[Value.ref q0] s) (F0 m 312 ls []) := by
  obtain ⟨hx, hb, hr, hml, hown, hts0, hX, hbl, hlocks, hgv⟩ := id C0
  have hts : ∀ w ∈ wsL_law, w.before #[Value.ref q0] s = true := fun w h => hts0 w (wsL_law_in w h)
  obtain ⟨o, b, sz, st, us, kp, ga, gl, kL, oz, cs, mK, pK, lK, kb, cK, mem, pl, ln, km, ks, kt, ku, kl, kn, cd, wt, sp, kf, rfl, c1, c2, c3, c4, c5, c6, c7, c8⟩ := hJ
  have hcs : cs ≤ 12550 ∧ oz ≤ 12550 := by have := c6.2.1; rcases c6.1 with q | q <;> omega
  have hst9 := wfB_st c1.1
  refine lv_aload_n hx hb dL_law_312 rfl (lv_at hl 2 rfl) ?_
  refine lv_aload_n hx hb dL_law_313 rfl (lv_at hl 3 rfl) ?_
  refine lv_iload_n hx hb dL_law_314 rfl (lv_at hl 0 rfl) ?_
  refine lv_iconst (v := nI 1) hx hb dL_law_315 (by decide) ?_
  refine lv_iadd hx hb dL_law_316 ?_
  refine tpi (nI_add i 1) ?_
  refine va_sld hx hb hX hbl hbA hS (vp_in_nI (by omega) (by omega)) dL_law_317 ?_
  refine tpi (show xs (nI (i + 1)).toNatClampNeg = xs (i + 1) by rw [nI_clamp (by omega)]) ?_
  have hKc := hK.sub (tys' := [(cI, .int), (cB, .byte)]) [0, 1] rfl
  refine fr_calli (wc := gw h kq (xA sp) k o b kp ga gl ++ kw cB k kL kb ++ ow cB o oz cs cK ++ sw cB cI b sz st us mK pK lK) (wr := krw cS kq (fun j => xA (kf j)) ++ (xW cB cI sp ++ kW cB cI kf) ++ mw cI a sz st us kp ga gl cs mem pl ln km ks kt ku kl kn cd wt) (w1 := fun _ => gw h kq (xA sp) k o b kp ga gl ++ kw cB k kL kb ++ ow cB o oz cs cK ++ sw cB cI b (mkZ sz st us pK lK (xs (i + 1))) (mkS sz st us pK lK (xs (i + 1))) (mkU sz st us pK lK (xs (i + 1))) mK (mkQ sz st us pK lK (xs (i + 1))) (mkL sz st us pK lK (xs (i + 1)))) (Z := fun _ t9 => va_K (dC, dI) vwCl [(cI, .int), (cB, .byte)] t9) (fun _ _ q9 => q9) (pGKOS) hP hD hS hA (fun hPc hDc => va_runV (As := [.int (xs (i + 1))]) (rest := []) ⟨hx, hb, hml, hown, hts⟩ (c_X3_make l dC dI cB cI h kq (xA sp) k o b kp ga gl kL kb oz cs cK sz st us mK pK lK H.size (xs (i + 1)) c1.wfK) (cwV 1 hts gL_law_X3_make rfl rfl rfl (by decide +kernel) ⟨Nat.le_of_ble_eq_true rfl, Nat.le_of_ble_eq_true rfl⟩) ⟨fun a9 U g9 mk9 q9 => by obtain ⟨q0, q1, qP, qK, qD⟩ := q9; exact ⟨q0, q1, qP, va_K.moved (u := U) (U := U.calling g9 mk9 a9) (Vm.Alike.refl U.vm) qK, qD⟩, va_recv hKc hPc (ci := 3) (q0 := 0) rfl rfl, fun U hU hW => ⟨rfl, by rw [hU], by rw [hU]; exact hPc, va_K.moved hW.alike hKc, hDc⟩⟩ rfl rfl hl.1 rfl (lv_room (Nat.le_of_ble_eq_true rfl)) dL_law_318 ⟨by show 22 + 4 * jj + 0 ≤ 600000; omega, by show 78425 + 12550 * jj + 0 ≤ 7302250; omega⟩) (fun r1 _ H locs hw hP hD hS => ?_)
  try dsimp only at hw hP hD
  have hc := hw
  clear hw
  have hP := va_P_perm pGKOS.symm hP
  have hD := va_D_perm pGKOS.symm hD
  have hP : va_P (dC, dI) vwCl (gw h kq (xA sp) k o b kp ga gl ++ kw cB k kL kb ++ ow cB o oz cs cK ++ sw cB cI b (mkZ sz st us pK lK (xs (i + 1))) (mkS sz st us pK lK (xs (i + 1))) (mkU sz st us pK lK (xs (i + 1))) mK (mkQ sz st us pK lK (xs (i + 1))) (mkL sz st us pK lK (xs (i + 1))) ++ (krw cS kq (fun j => xA (kf j)) ++ (xW cB cI sp ++ kW cB cI kf)) ++ mw cI a sz st us kp ga gl cs mem pl ln km ks kt ku kl kn cd wt) H := hP
  have hD : va_D A (gw h kq (xA sp) k o b kp ga gl ++ kw cB k kL kb ++ ow cB o oz cs cK ++ sw cB cI b (mkZ sz st us pK lK (xs (i + 1))) (mkS sz st us pK lK (xs (i + 1))) (mkU sz st us pK lK (xs (i + 1))) mK (mkQ sz st us pK lK (xs (i + 1))) (mkL sz st us pK lK (xs (i + 1))) ++ (krw cS kq (fun j => xA (kf j)) ++ (xW cB cI sp ++ kW cB cI kf)) ++ mw cI a sz st us kp ga gl cs mem pl ln km ks kt ku kl kn cd wt) := hD
  rw [mk_z c1.2.2.2.1 c1.2.2.2.2] at hP hD
  rw [mk_s c1.2.2.2.1 c1.2.2.2.2] at hP hD
  rw [mk_u c1.2.2.2.1 c1.2.2.2.2] at hP hD
  have hP : va_P (dC, dI) vwCl (gw h kq (xA sp) k o b kp ga gl ++ kw cB k kL kb ++ ow cB o oz cs cK ++ sw cB cI b (mkZ sz st us pl ln (xs (i + 1))) (mkS sz st us pl ln (xs (i + 1))) (mkU sz st us pl ln (xs (i + 1))) mK (mkQ sz st us pK lK (xs (i + 1))) (mkL sz st us pK lK (xs (i + 1))) ++ (krw cS kq (fun j => xA (kf j)) ++ (xW cB cI sp ++ kW cB cI kf)) ++ mw cI a sz st us kp ga gl cs mem pl ln km ks kt ku kl kn cd wt) H := hP
  have hD : va_D A (gw h kq (xA sp) k o b kp ga gl ++ kw cB k kL kb ++ ow cB o oz cs cK ++ sw cB cI b (mkZ sz st us pl ln (xs (i + 1))) (mkS sz st us pl ln (xs (i + 1))) (mkU sz st us pl ln (xs (i + 1))) mK (mkQ sz st us pK lK (xs (i + 1))) (mkL sz st us pK lK (xs (i + 1))) ++ (krw cS kq (fun j => xA (kf j)) ++ (xW cB cI sp ++ kW cB cI kf)) ++ mw cI a sz st us kp ga gl cs mem pl ln km ks kt ku kl kn cd wt) := hD
  refine lv_aload_n hx hb dL_law_321 rfl (lv_at hl 1 rfl) ?_
  refine lv_aload_n hx hb dL_law_322 rfl (lv_at hl 3 rfl) ?_
  refine lv_iload_n hx hb dL_law_323 rfl (lv_at hl 0 rfl) ?_
  refine lv_iconst (v := nI 1) hx hb dL_law_324 (by decide) ?_
  refine lv_iadd hx hb dL_law_325 ?_
  refine tpi (nI_add i 1) ?_
  refine va_sld hx hb hX hbl hbA hS (vp_in_nI (by omega) (by omega)) dL_law_326 ?_
  refine tpi (show xs (nI (i + 1)).toNatClampNeg = xs (i + 1) by rw [nI_clamp (by omega)]) ?_
  have hKc := hK.sub (tys' := [(cI, .int)]) [0] rfl
  refine fr_calli (wc := mw cI a sz st us kp ga gl cs mem pl ln km ks kt ku kl kn cd wt) (wr := gw h kq (xA sp) k o b kp ga gl ++ kw cB k kL kb ++ ow cB o oz cs cK ++ sw cB cI b (mkZ sz st us pl ln (xs (i + 1))) (mkS sz st us pl ln (xs (i + 1))) (mkU sz st us pl ln (xs (i + 1))) mK (mkQ sz st us pK lK (xs (i + 1))) (mkL sz st us pK lK (xs (i + 1))) ++ (krw cS kq (fun j => xA (kf j)) ++ (xW cB cI sp ++ kW cB cI kf))) (w1 := fun _ => mw cI a (mkZ sz st us pl ln (xs (i + 1))) (mkS sz st us pl ln (xs (i + 1))) (mkU sz st us pl ln (xs (i + 1))) kp ga gl cs (mkM sz st us pl ln mem (xs (i + 1))) (mkQ sz st us pl ln (xs (i + 1))) (mkL sz st us pl ln (xs (i + 1))) km ks kt ku kl kn cd wt) (Z := fun _ t9 => va_K (dC, dI) vwCl [(cI, .int)] t9) (fun _ _ q9 => q9) (pM) hP hD hS hA (fun hPc hDc => va_runV (As := [.int (xs (i + 1))]) (rest := [.int r1]) ⟨hx, hb, hml, hown, hts⟩ (c_X4_make l dC dI cI a sz st us kp ga gl cs mem pl ln km ks kt ku kl kn cd wt H.size (xs (i + 1)) c1.1) (cwV 1 hts gL_law_X4_make rfl rfl rfl (by decide +kernel) ⟨Nat.le_of_ble_eq_true rfl, Nat.le_of_ble_eq_true rfl⟩) ⟨fun a9 U g9 mk9 q9 => by obtain ⟨q0, q1, qP, qK, qD⟩ := q9; exact ⟨q0, q1, qP, va_K.moved (u := U) (U := U.calling g9 mk9 a9) (Vm.Alike.refl U.vm) qK, qD⟩, va_recv hKc hPc (ci := 4) (q0 := 0) rfl rfl, fun U hU hW => ⟨rfl, by rw [hU], by rw [hU]; exact hPc, va_K.moved hW.alike hKc, hDc⟩⟩ rfl rfl hl.1 rfl (lv_room (Nat.le_of_ble_eq_true rfl)) dL_law_327 ⟨by show 22 + 4 * jj + 0 + 0 ≤ 600000; omega, by show 78425 + 12550 * jj + 0 + 0 ≤ 7302250; omega⟩) (fun r2 _ H locs hw hP hD hS => ?_)
  try dsimp only at hw hP hD
  have hm := hw
  clear hw
  have hP := va_P_perm pM hP
  have hD := va_D_perm pM hD
  have hP : va_P (dC, dI) vwCl (gw h kq (xA sp) k o b kp ga gl ++ kw cB k kL kb ++ ow cB o oz cs cK ++ sw cB cI b (mkZ sz st us pl ln (xs (i + 1))) (mkS sz st us pl ln (xs (i + 1))) (mkU sz st us pl ln (xs (i + 1))) mK (mkQ sz st us pK lK (xs (i + 1))) (mkL sz st us pK lK (xs (i + 1))) ++ (krw cS kq (fun j => xA (kf j)) ++ (xW cB cI sp ++ kW cB cI kf)) ++ mw cI a (mkZ sz st us pl ln (xs (i + 1))) (mkS sz st us pl ln (xs (i + 1))) (mkU sz st us pl ln (xs (i + 1))) kp ga gl cs (mkM sz st us pl ln mem (xs (i + 1))) (mkQ sz st us pl ln (xs (i + 1))) (mkL sz st us pl ln (xs (i + 1))) km ks kt ku kl kn cd wt) H := hP
  have hD : va_D A (gw h kq (xA sp) k o b kp ga gl ++ kw cB k kL kb ++ ow cB o oz cs cK ++ sw cB cI b (mkZ sz st us pl ln (xs (i + 1))) (mkS sz st us pl ln (xs (i + 1))) (mkU sz st us pl ln (xs (i + 1))) mK (mkQ sz st us pK lK (xs (i + 1))) (mkL sz st us pK lK (xs (i + 1))) ++ (krw cS kq (fun j => xA (kf j)) ++ (xW cB cI sp ++ kW cB cI kf)) ++ mw cI a (mkZ sz st us pl ln (xs (i + 1))) (mkS sz st us pl ln (xs (i + 1))) (mkU sz st us pl ln (xs (i + 1))) kp ga gl cs (mkM sz st us pl ln mem (xs (i + 1))) (mkQ sz st us pl ln (xs (i + 1))) (mkL sz st us pl ln (xs (i + 1))) km ks kt ku kl kn cd wt) := hD
  have heq : r1 = r2 := hc.trans ((mkR_c c1.2.2.2.1 c1.2.2.2.2 _).trans hm.symm)
  refine lv_icmp_eq (tgt := 853) hx hb dL_law_330 (by decide) (fun _ => ?_) (fun c9 => absurd heq c9)
  refine W.widen (k := 22 + 4 * (jj + 1)) (n := 78425 + 12550 * (jj + 1)) (by omega) (by omega) ?_
  exact tail _ H locs ls ⟨o, b, mkZ sz st us pl ln (xs (i + 1)), mkS sz st us pl ln (xs (i + 1)), mkU sz st us pl ln (xs (i + 1)), kp, ga, gl, kL, oz, cs, mK, mkQ sz st us pK lK (xs (i + 1)), mkL sz st us pK lK (xs (i + 1)), kb, cK, mkM sz st us pl ln mem (xs (i + 1)), mkQ sz st us pl ln (xs (i + 1)), mkL sz st us pl ln (xs (i + 1)), km, ks, kt, ku, kl, kn, cd, wt, sp, kf, rfl, ⟨c1.make _, mk_SB c2 _, ⟨mkM_lt c3.1 _, (mk_SB c3 _).2⟩, c4, c5, c6, c7, c8⟩⟩ hP hD hS hl
set_option maxHeartbeats 4000000 in
set_option maxRecDepth 100000 in
theorem lc_free {p : Program} {e : Env} {s : State} {m : MethodId} {below : List Frame} {meth : Method} {c : Code} (l : Launch) {q0 L : Nat} {xs : Nat → Int32} (hL : L ≤ 4096) (C0 : lw_At p s m meth c q0 L xs) (dC : Nat → ClassId) (dI : Nat → Nat → Nat) (cB cI cS : ClassId) (h kq : Nat) (k a : Nat → Nat) (A : Nat → Prop) (hA : ∀ q : Nat, s.heap.size ≤ q → A q) (hbA : ¬ A q0) (hK : va_K (dC, dI) vwCl [(cI, .int), (cB, .byte), (cS, .object "GlulxHeap$State")] s) {i jj : Nat} (hi : i = 8 * jj) (hiL : i + 8 ≤ L) {ws : va_W} {H : Heap} {locs : List Loc} {ls : Array Slot} (hJ : J cB cI cS h kq k a ws) (hP : va_P (dC, dI) vwCl ws H) (hD : va_D A ws) (hS : va_S A s.heap H locs) (hl : lv_has ls 4 [(3, .int (nI i)), (2, .ref (a 0)), (1, .ref h), (0, .ref q0)]) (tail : ∀ (ws : va_W) (H : Heap) (locs : List Loc) (ls : Array Slot), J cB cI cS h kq k a ws → va_P (dC, dI) vwCl ws H → va_D A ws → va_S A s.heap H locs → lv_has ls 4 [(3, .int (nI i)), (2, .ref (a 0)), (1, .ref h), (0, .ref q0)] → W p l e room_1 s m #[Value.ref q0] below meth c H locs (22 + 4 * (jj + 1)) (78425 + 12550 * (jj + 1)) (lw_Z below #[Value.ref q0] s) (F0 m 853 ls [])) : W p l e room_1 s m #[Value.ref q0] below meth c H locs (22 + 4 * jj) (78425 + 12550 * jj) (lw_Z below #[Value.ref q0] s) (F0 m 335 ls []) := by
  obtain ⟨hx, hb, hr, hml, hown, hts0, hX, hbl, hlocks, hgv⟩ := id C0
  have hts : ∀ w ∈ wsL_law, w.before #[Value.ref q0] s = true := fun w h => hts0 w (wsL_law_in w h)
  obtain ⟨o, b, sz, st, us, kp, ga, gl, kL, oz, cs, mK, pK, lK, kb, cK, mem, pl, ln, km, ks, kt, ku, kl, kn, cd, wt, sp, kf, rfl, c1, c2, c3, c4, c5, c6, c7, c8⟩ := hJ
  have hcs : cs ≤ 12550 ∧ oz ≤ 12550 := by have := c6.2.1; rcases c6.1 with q | q <;> omega
  have hst9 := wfB_st c1.1
  refine lv_aload_n hx hb dL_law_335 rfl (lv_at hl 2 rfl) ?_
  refine lv_aload_n hx hb dL_law_336 rfl (lv_at hl 3 rfl) ?_
  refine lv_iload_n hx hb dL_law_337 rfl (lv_at hl 0 rfl) ?_
  refine lv_iconst (v := nI 1) hx hb dL_law_338 (by decide) ?_
  refine lv_iadd hx hb dL_law_339 ?_
  refine tpi (nI_add i 1) ?_
  refine va_sld hx hb hX hbl hbA hS (vp_in_nI (by omega) (by omega)) dL_law_340 ?_
  refine tpi (show xs (nI (i + 1)).toNatClampNeg = xs (i + 1) by rw [nI_clamp (by omega)]) ?_
  have hKc := hK.sub (tys' := [(cI, .int), (cB, .byte)]) [0, 1] rfl
  refine fr_calli (wc := gw h kq (xA sp) k o b kp ga gl ++ kw cB k kL kb ++ ow cB o oz cs cK ++ sw cB cI b sz st us mK pK lK) (wr := krw cS kq (fun j => xA (kf j)) ++ (xW cB cI sp ++ kW cB cI kf) ++ mw cI a sz st us kp ga gl cs mem pl ln km ks kt ku kl kn cd wt) (w1 := fun _ => gw h kq (xA sp) k o b kp ga gl ++ kw cB k kL kb ++ ow cB o oz cs cK ++ sw cB cI b (frZ sz st us pK (xs (i + 1))) (frS st us pK (xs (i + 1))) (frU us pK (xs (i + 1))) (frM sz st us pK mK (xs (i + 1))) (frA us pK pK (xs (i + 1))) (frA us pK lK (xs (i + 1)))) (Z := fun _ t9 => va_K (dC, dI) vwCl [(cI, .int), (cB, .byte)] t9) (fun _ _ q9 => q9) (pGKOS) hP hD hS hA (fun hPc hDc => va_runV (As := [.int (xs (i + 1))]) (rest := []) ⟨hx, hb, hml, hown, hts⟩ (c_X3_free l dC dI cB cI h kq (xA sp) k o b kp ga gl kL kb oz cs cK sz st us mK pK lK H.size (xs (i + 1)) c1.wfK) (cwV 1 hts gL_law_X3_free rfl rfl rfl (by decide +kernel) ⟨Nat.le_of_ble_eq_true rfl, Nat.le_of_ble_eq_true rfl⟩) ⟨fun a9 U g9 mk9 q9 => by obtain ⟨q0, q1, qP, qK, qD⟩ := q9; exact ⟨q0, q1, qP, va_K.moved (u := U) (U := U.calling g9 mk9 a9) (Vm.Alike.refl U.vm) qK, qD⟩, va_recv hKc hPc (ci := 3) (q0 := 0) rfl rfl, fun U hU hW => ⟨rfl, by rw [hU], by rw [hU]; exact hPc, va_K.moved hW.alike hKc, hDc⟩⟩ rfl rfl hl.1 rfl (lv_room (Nat.le_of_ble_eq_true rfl)) dL_law_341 ⟨by show 22 + 4 * jj + 0 ≤ 600000; omega, by show 78425 + 12550 * jj + 0 ≤ 7302250; omega⟩) (fun r1 _ H locs hw hP hD hS => ?_)
  try dsimp only at hw hP hD
  have hc := hw
  clear hw
  have hP := va_P_perm pGKOS.symm hP
  have hD := va_D_perm pGKOS.symm hD
  have hP : va_P (dC, dI) vwCl (gw h kq (xA sp) k o b kp ga gl ++ kw cB k kL kb ++ ow cB o oz cs cK ++ sw cB cI b (frZ sz st us pK (xs (i + 1))) (frS st us pK (xs (i + 1))) (frU us pK (xs (i + 1))) (frM sz st us pK mK (xs (i + 1))) (frA us pK pK (xs (i + 1))) (frA us pK lK (xs (i + 1))) ++ (krw cS kq (fun j => xA (kf j)) ++ (xW cB cI sp ++ kW cB cI kf)) ++ mw cI a sz st us kp ga gl cs mem pl ln km ks kt ku kl kn cd wt) H := hP
  have hD : va_D A (gw h kq (xA sp) k o b kp ga gl ++ kw cB k kL kb ++ ow cB o oz cs cK ++ sw cB cI b (frZ sz st us pK (xs (i + 1))) (frS st us pK (xs (i + 1))) (frU us pK (xs (i + 1))) (frM sz st us pK mK (xs (i + 1))) (frA us pK pK (xs (i + 1))) (frA us pK lK (xs (i + 1))) ++ (krw cS kq (fun j => xA (kf j)) ++ (xW cB cI sp ++ kW cB cI kf)) ++ mw cI a sz st us kp ga gl cs mem pl ln km ks kt ku kl kn cd wt) := hD
  have f1 := fr_c c1.2.2.2.1 (xs (i + 1)) sz st pK mK
  have f2 := fr_c c1.2.2.2.1 (xs (i + 1)) sz st lK mK
  rw [f1.1, f1.2.1, f1.2.2.1, f1.2.2.2.1, f1.2.2.2.2, f2.2.2.2.2] at hP hD
  have hP : va_P (dC, dI) vwCl (gw h kq (xA sp) k o b kp ga gl ++ kw cB k kL kb ++ ow cB o oz cs cK ++ sw cB cI b (frZ sz st us pl (xs (i + 1))) (frS st us pl (xs (i + 1))) (frU us pl (xs (i + 1))) (frM sz st us pl mK (xs (i + 1))) (frA us pl pK (xs (i + 1))) (frA us pl lK (xs (i + 1))) ++ (krw cS kq (fun j => xA (kf j)) ++ (xW cB cI sp ++ kW cB cI kf)) ++ mw cI a sz st us kp ga gl cs mem pl ln km ks kt ku kl kn cd wt) H := hP
  have hD : va_D A (gw h kq (xA sp) k o b kp ga gl ++ kw cB k kL kb ++ ow cB o oz cs cK ++ sw cB cI b (frZ sz st us pl (xs (i + 1))) (frS st us pl (xs (i + 1))) (frU us pl (xs (i + 1))) (frM sz st us pl mK (xs (i + 1))) (frA us pl pK (xs (i + 1))) (frA us pl lK (xs (i + 1))) ++ (krw cS kq (fun j => xA (kf j)) ++ (xW cB cI sp ++ kW cB cI kf)) ++ mw cI a sz st us kp ga gl cs mem pl ln km ks kt ku kl kn cd wt) := hD
  refine lv_aload_n hx hb dL_law_344 rfl (lv_at hl 1 rfl) ?_
  refine lv_aload_n hx hb dL_law_345 rfl (lv_at hl 3 rfl) ?_
  refine lv_iload_n hx hb dL_law_346 rfl (lv_at hl 0 rfl) ?_
  refine lv_iconst (v := nI 1) hx hb dL_law_347 (by decide) ?_
  refine lv_iadd hx hb dL_law_348 ?_
  refine tpi (nI_add i 1) ?_
  refine va_sld hx hb hX hbl hbA hS (vp_in_nI (by omega) (by omega)) dL_law_349 ?_
  refine tpi (show xs (nI (i + 1)).toNatClampNeg = xs (i + 1) by rw [nI_clamp (by omega)]) ?_
  have hKc := hK.sub (tys' := [(cI, .int)]) [0] rfl
  refine fr_calli (wc := mw cI a sz st us kp ga gl cs mem pl ln km ks kt ku kl kn cd wt) (wr := gw h kq (xA sp) k o b kp ga gl ++ kw cB k kL kb ++ ow cB o oz cs cK ++ sw cB cI b (frZ sz st us pl (xs (i + 1))) (frS st us pl (xs (i + 1))) (frU us pl (xs (i + 1))) (frM sz st us pl mK (xs (i + 1))) (frA us pl pK (xs (i + 1))) (frA us pl lK (xs (i + 1))) ++ (krw cS kq (fun j => xA (kf j)) ++ (xW cB cI sp ++ kW cB cI kf))) (w1 := fun _ => mw cI a (frZ sz st us pl (xs (i + 1))) (frS st us pl (xs (i + 1))) (frU us pl (xs (i + 1))) kp ga gl cs mem (frA us pl pl (xs (i + 1))) (frA us pl ln (xs (i + 1))) km ks kt ku kl kn cd wt) (Z := fun _ t9 => va_K (dC, dI) vwCl [(cI, .int)] t9) (fun _ _ q9 => q9) (pM) hP hD hS hA (fun hPc hDc => va_runV (As := [.int (xs (i + 1))]) (rest := [.int r1]) ⟨hx, hb, hml, hown, hts⟩ (c_X4_free l dC dI cI a sz st us kp ga gl cs mem pl ln km ks kt ku kl kn cd wt H.size (xs (i + 1)) c1.1) (cwV 1 hts gL_law_X4_free rfl rfl rfl (by decide +kernel) ⟨Nat.le_of_ble_eq_true rfl, Nat.le_of_ble_eq_true rfl⟩) ⟨fun a9 U g9 mk9 q9 => by obtain ⟨q0, q1, qP, qK, qD⟩ := q9; exact ⟨q0, q1, qP, va_K.moved (u := U) (U := U.calling g9 mk9 a9) (Vm.Alike.refl U.vm) qK, qD⟩, va_recv hKc hPc (ci := 4) (q0 := 0) rfl rfl, fun U hU hW => ⟨rfl, by rw [hU], by rw [hU]; exact hPc, va_K.moved hW.alike hKc, hDc⟩⟩ rfl rfl hl.1 rfl (lv_room (Nat.le_of_ble_eq_true rfl)) dL_law_350 ⟨by show 22 + 4 * jj + 0 + 0 ≤ 600000; omega, by show 78425 + 12550 * jj + 0 + 0 ≤ 7302250; omega⟩) (fun r2 _ H locs hw hP hD hS => ?_)
  try dsimp only at hw hP hD
  have hm := hw
  clear hw
  have hP := va_P_perm pM hP
  have hD := va_D_perm pM hD
  have hP : va_P (dC, dI) vwCl (gw h kq (xA sp) k o b kp ga gl ++ kw cB k kL kb ++ ow cB o oz cs cK ++ sw cB cI b (frZ sz st us pl (xs (i + 1))) (frS st us pl (xs (i + 1))) (frU us pl (xs (i + 1))) (frM sz st us pl mK (xs (i + 1))) (frA us pl pK (xs (i + 1))) (frA us pl lK (xs (i + 1))) ++ (krw cS kq (fun j => xA (kf j)) ++ (xW cB cI sp ++ kW cB cI kf)) ++ mw cI a (frZ sz st us pl (xs (i + 1))) (frS st us pl (xs (i + 1))) (frU us pl (xs (i + 1))) kp ga gl cs mem (frA us pl pl (xs (i + 1))) (frA us pl ln (xs (i + 1))) km ks kt ku kl kn cd wt) H := hP
  have hD : va_D A (gw h kq (xA sp) k o b kp ga gl ++ kw cB k kL kb ++ ow cB o oz cs cK ++ sw cB cI b (frZ sz st us pl (xs (i + 1))) (frS st us pl (xs (i + 1))) (frU us pl (xs (i + 1))) (frM sz st us pl mK (xs (i + 1))) (frA us pl pK (xs (i + 1))) (frA us pl lK (xs (i + 1))) ++ (krw cS kq (fun j => xA (kf j)) ++ (xW cB cI sp ++ kW cB cI kf)) ++ mw cI a (frZ sz st us pl (xs (i + 1))) (frS st us pl (xs (i + 1))) (frU us pl (xs (i + 1))) kp ga gl cs mem (frA us pl pl (xs (i + 1))) (frA us pl ln (xs (i + 1))) km ks kt ku kl kn cd wt) := hD
  have heq : r1 = r2 := hc.trans ((frR_c c1.2.2.2.1 c1.2.2.2.2 _).trans hm.symm)
  refine lv_icmp_eq (tgt := 853) hx hb dL_law_353 (by decide) (fun _ => ?_) (fun c9 => absurd heq c9)
  refine W.widen (k := 22 + 4 * (jj + 1)) (n := 78425 + 12550 * (jj + 1)) (by omega) (by omega) ?_
  exact tail _ H locs ls ⟨o, b, frZ sz st us pl (xs (i + 1)), frS st us pl (xs (i + 1)), frU us pl (xs (i + 1)), kp, ga, gl, kL, oz, cs, frM sz st us pl mK (xs (i + 1)), frA us pl pK (xs (i + 1)), frA us pl lK (xs (i + 1)), kb, cK, mem, frA us pl pl (xs (i + 1)), frA us pl ln (xs (i + 1)), km, ks, kt, ku, kl, kn, cd, wt, sp, kf, rfl, ⟨c1.free _, ⟨frM_lt c2.1 _, frA_lt c2.2.1 _, frA_lt c2.2.2 _⟩, ⟨c3.1, frA_lt c3.2.1 _, frA_lt c3.2.2 _⟩, c4, c5, c6, c7, c8⟩⟩ hP hD hS hl
