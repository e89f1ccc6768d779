/-- a row of bytes -/
def bf (f : Nat → Nat) : Nat → Int32 := fun j => sb_b (f j)
theorem bf_at {f : Nat → Nat} {i : Nat} (h : i < 2 ^ 31) : bf f (nI i).toNatClampNeg = sb_b (f i) := by
  rw [nI_clamp h]; rfl
theorem bf_up {f : Nat → Nat} {i v : Nat} (h : i < 2 ^ 31) : upd (bf f) (nI i).toNatClampNeg (vp_nar .byte (sb_b v)) = bf (va_up f i v) := by
  rw [nI_clamp h, show vp_nar .byte (sb_b v) = sb_b v from pk_vb (nI v)]
  funext j
  by_cases hj : j = i
  · simp [upd, bf, va_up, hj]
  · simp [upd, bf, va_up, hj]
theorem bf_up0 {f : Nat → Nat} {i : Nat} (h : i < 2 ^ 31) : upd (bf f) (nI i).toNatClampNeg (vp_nar .byte (nI 0)) = bf (va_up f i 0) := by
  rw [show vp_nar .byte (nI 0) = vp_nar .byte (sb_b 0) by decide]
  exact bf_up h
theorem sb_and {c : Nat} (h : c < 256) : sb_b c &&& nI 255 = nI c := (sb_byte c h).1
theorem sb_inj {a b : Nat} (ha : a < 256) (hb : b < 256) : sb_b a = sb_b b ↔ a = b := by
  constructor
  · intro h
    have h1 : sb_b a &&& nI 255 = sb_b b &&& nI 255 := by rw [h]
    rw [sb_and ha, sb_and hb] at h1
    exact (nI_eq (by omega) (by omega)).mp h1
  · intro h; rw [h]
theorem sb_z {a : Nat} (ha : a < 256) : sb_b a = 0 ↔ a = 0 := sb_inj (b := 0) ha (by decide)
theorem cpy_nf {f g : Nat → Nat} {x y n : Nat} (hx : x < 2 ^ 31) (hy : y < 2 ^ 31) (hn : n < 2 ^ 31) : va_cpy (nf f) (nf g) (nI x).toNatClampNeg (nI y).toNatClampNeg (nI n).toNatClampNeg = nf (va_cpy f g x y n) := by
  rw [nI_clamp hx, nI_clamp hy, nI_clamp hn]
  funext j
  show (if y ≤ j ∧ j < y + n then nI (f (x + (j - y))) else nI (g j)) = nI (if y ≤ j ∧ j < y + n then f (x + (j - y)) else g j)
  split <;> rfl
theorem cpy_bf {f g : Nat → Nat} {x y n : Nat} (hx : x < 2 ^ 31) (hy : y < 2 ^ 31) (hn : n < 2 ^ 31) : va_cpy (bf f) (bf g) (nI x).toNatClampNeg (nI y).toNatClampNeg (nI n).toNatClampNeg = bf (va_cpy f g x y n) := by
  rw [nI_clamp hx, nI_clamp hy, nI_clamp hn]
  funext j
  show (if y ≤ j ∧ j < y + n then sb_b (f (x + (j - y))) else sb_b (g j)) = sb_b (if y ≤ j ∧ j < y + n then f (x + (j - y)) else g j)
  split <;> rfl
def sv_S : Array Value → State → Outcome → State → Prop := fun _ st o t => o = .returned none ∧ t.heap = st.heap
section SV
variable {p : Program} {l : Launch} {e : Env} {R : Room} {s : State} {m : MethodId} {args : Array Value} {below : List Frame} {meth : Method} {c : Code} {H : Heap} {locs : List Loc} {cells slots : Nat} {Q : State → Prop}
theorem sv_call {pc : Nat} {ls : Array Slot} {rest : List Value} {a : Array Value} {st0 : List Value} (hr : CallRun p l e R s m args below meth c H locs cells slots 0 0 (F0 m pc ls st0) rest (sv_S a) (fun _ => False)) (kk : W p l e R s m args below meth c H locs cells slots Q (F0 m (pc + 3) ls rest)) : W p l e R s m args below meth c H locs cells slots Q (F0 m pc ls st0) := by
  intro T hT X
  obtain ⟨v, st₀, t, T', L, h0, X', hL, e1, ⟨hv, hh⟩, st⟩ := hr T hT X
  cases hv
  obtain ⟨t2, a1, b1⟩ := kk T' (by rw [e1, hh, h0]) (Stand.forget X' (fun q h => (hL q h).elim))
  exact ⟨t2, st t2 a1, b1⟩
end SV
/-- a State's cells: the object, its bytes, places, lengths -/
abbrev sw (cB cI : ClassId) (b : Nat → Nat) (sz st us : Nat) (mem pl ln : Nat → Nat) : va_W :=
  [(b 0, .inr (2, [.ref (b 1), .ref (b 2), .ref (b 3), .int (nI sz), .int (nI st), .int (nI us)])), (b 1, .inl (cB, 8192, .inl (bf mem))), (b 2, .inl (cI, 64, .inl (nf pl))), (b 3, .inl (cI, 64, .inl (nf ln)))]
