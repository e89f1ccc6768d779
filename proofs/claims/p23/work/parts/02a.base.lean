/-- a row of numbers as a row of ints -/
def nf (f : Nat → Nat) : Nat → Int32 := fun j => nI (f j)
theorem nf_at {f : Nat → Nat} {i : Nat} (h : i < 2 ^ 31) : nf f (nI i).toNatClampNeg = nI (f i) := by
  rw [nI_clamp h]; rfl
theorem nf_up {f : Nat → Nat} {i v : Nat} (h : i < 2 ^ 31) : upd (nf f) (nI i).toNatClampNeg (nI v) = nf (va_up f i v) := by
  rw [nI_clamp h]
  funext j
  by_cases hj : j = i
  · simp [upd, nf, va_up, hj]
  · simp [upd, nf, va_up, hj]
theorem nI_inc (n : Nat) : nI n + Int32.ofInt 1 = nI (n + 1) := nI_1 n
theorem nI_inc2 (n : Nat) : nI n + Int32.ofInt 2 = nI (n + 2) := nI_add n 2
theorem nI_inc8 (n : Nat) : nI n + Int32.ofInt 8 = nI (n + 8) := nI_add n 8
theorem nI_dec {n : Nat} (h : 1 ≤ n) : nI n + Int32.ofInt (-1) = nI (n - 1) := by
  obtain ⟨k, rfl⟩ : ∃ k, n = k + 1 := ⟨n - 1, by omega⟩
  exact pk_m1 k
theorem nZ_lt {n : Nat} (h : n < 2 ^ 31) : nI n < 0 ↔ n < 0 := ⟨fun q => absurd q (nI_pos h), fun q => absurd q (Nat.not_lt_zero _)⟩
theorem nZ_ge {n : Nat} (h : n < 2 ^ 31) : 0 ≤ nI n ↔ 0 ≤ n := ⟨fun _ => Nat.zero_le _, fun _ => nI_pos' h⟩
theorem nZ_eq {n : Nat} (h : n < 2 ^ 31) : nI n = 0 ↔ n = 0 := (nI_eq (b := 0) h (by decide))
theorem nZ_le {n : Nat} (h : n < 2 ^ 31) : nI n ≤ 0 ↔ n ≤ 0 := (nI_leI (b := 0) h (by decide))
theorem nZ_gt {n : Nat} (h : n < 2 ^ 31) : 0 < nI n ↔ 0 < n := (nI_ltI (a := 0) (by decide) h)
theorem i0_ge {x : Int32} : 0 ≤ x ↔ ¬ x < 0 := Int32.not_lt.symm
theorem i0_nge {x : Int32} : ¬ 0 ≤ x ↔ x < 0 := Int32.not_le
section LP
variable {p : Program} {l : Launch} {e : Env} {R : Room} {s : State} {m : MethodId} {args : Array Value} {below : List Frame} {meth : Method} {c : Code} {H : Heap} {locs : List Loc} {cells slots : Nat} {Q : State → Prop}
theorem tpi {pc : Nat} {ls : Array Slot} {rest : List Value} {x y : Int32} (h : x = y) (k : W p l e R s m args below meth c H locs cells slots Q (F0 m pc ls (.int y :: rest))) : W p l e R s m args below meth c H locs cells slots Q (F0 m pc ls (.int x :: rest)) := h ▸ k
theorem tpl {pc : Nat} {ls : Array Slot} {rest : List Value} {x y : Int64} (h : x = y) (k : W p l e R s m args below meth c H locs cells slots Q (F0 m pc ls (.long y :: rest))) : W p l e R s m args below meth c H locs cells slots Q (F0 m pc ls (.long x :: rest)) := h ▸ k
/-- a loop that writes nothing -/
theorem lp_still {pc nL : Nat} {rest : List Value} {σ : Type} (Inv : σ → Prop) (μ : σ → Nat) (lv : σ → List (Nat × Value))
    (step : ∀ x : σ, Inv x → (∀ y : σ, Inv y → μ y < μ x → ∀ ls : Array Slot, lv_has ls nL (lv y) → W p l e R s m args below meth c H locs cells slots Q (F0 m pc ls rest)) → ∀ ls : Array Slot, lv_has ls nL (lv x) → W p l e R s m args below meth c H locs cells slots Q (F0 m pc ls rest))
    (x : σ) (hI : Inv x) {ls : Array Slot} (hl : lv_has ls nL (lv x)) : W p l e R s m args below meth c H locs cells slots Q (F0 m pc ls rest) := by
  have key : ∀ (n : Nat) (x : σ), μ x < n → Inv x → ∀ ls : Array Slot, lv_has ls nL (lv x) → W p l e R s m args below meth c H locs cells slots Q (F0 m pc ls rest) := by
    intro n
    induction n with
    | zero => intro x h; exact absurd h (Nat.not_lt_zero _)
    | succ n ih => intro x h hI ls hl; exact step x hI (fun y hy hm ls hl => ih y (by omega) hy ls hl) ls hl
  exact key (μ x + 1) x (Nat.lt_succ_self _) hI ls hl
/-- a loop that writes the world -/
theorem lp_world {pc nL : Nat} {rest : List Value} {σ : Type} {D : va_G} {cl : List vw_C} {A : Nat → Prop} {H0 : Heap} (Inv : σ → Prop) (μ : σ → Nat) (lv : σ → List (Nat × Value)) (ws : σ → va_W)
    (step : ∀ x : σ, Inv x → (∀ y : σ, Inv y → μ y < μ x → ∀ (H : Heap) (locs : List Loc) (ls : Array Slot), va_P D cl (ws y) H → va_D A (ws y) → va_S A H0 H locs → lv_has ls nL (lv y) → W p l e R s m args below meth c H locs cells slots Q (F0 m pc ls rest)) → ∀ (H : Heap) (locs : List Loc) (ls : Array Slot), va_P D cl (ws x) H → va_D A (ws x) → va_S A H0 H locs → lv_has ls nL (lv x) → W p l e R s m args below meth c H locs cells slots Q (F0 m pc ls rest))
    (x : σ) (hI : Inv x) (hP : va_P D cl (ws x) H) (hD : va_D A (ws x)) (hS : va_S A H0 H locs) {ls : Array Slot} (hl : lv_has ls nL (lv x)) : W p l e R s m args below meth c H locs cells slots Q (F0 m pc ls rest) := by
  have key : ∀ (n : Nat) (x : σ), μ x < n → Inv x → ∀ (H : Heap) (locs : List Loc) (ls : Array Slot), va_P D cl (ws x) H → va_D A (ws x) → va_S A H0 H locs → lv_has ls nL (lv x) → W p l e R s m args below meth c H locs cells slots Q (F0 m pc ls rest) := by
    intro n
    induction n with
    | zero => intro x h; exact absurd h (Nat.not_lt_zero _)
    | succ n ih => intro x h hI H locs ls hP hD hS hl; exact step x hI (fun y hy hm H locs ls hP hD hS hl => ih y (by omega) hy H locs ls hP hD hS hl) H locs ls hP hD hS hl
  exact key (μ x + 1) x (Nat.lt_succ_self _) hI H locs ls hP hD hS hl
end LP
/-- the reference's cells: the object, then its eleven rows -/
abbrev mw (cI : ClassId) (a : Nat → Nat) (sz st us kp ga gl cs : Nat) (mem pl ln km ks kt ku kl kn cd wt : Nat → Nat) : va_W :=
  [(a 0, .inr (4, [.ref (a 1), .int (nI sz), .int (nI st), .int (nI us), .ref (a 2), .ref (a 3), .int (nI kp), .ref (a 4), .ref (a 5), .ref (a 6), .ref (a 7), .ref (a 8), .ref (a 9), .int (nI ga), .int (nI gl), .ref (a 10), .int (nI cs), .ref (a 11)])),
   (a 1, .inl (cI, 8192, .inl (nf mem))), (a 2, .inl (cI, 65, .inl (nf pl))), (a 3, .inl (cI, 65, .inl (nf ln))), (a 4, .inl (cI, 40960, .inl (nf km))), (a 5, .inl (cI, 5, .inl (nf ks))), (a 6, .inl (cI, 5, .inl (nf kt))), (a 7, .inl (cI, 5, .inl (nf ku))), (a 8, .inl (cI, 320, .inl (nf kl))), (a 9, .inl (cI, 320, .inl (nf kn))), (a 10, .inl (cI, 20000, .inl (nf cd))), (a 11, .inl (cI, 64, .inl (nf wt)))]
