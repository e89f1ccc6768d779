/-- what the class reads of bytes, from place x on, byte i on, over g -/
def rdK (cs : Nat) (cd : Nat → Nat) (z x i : Nat) (g : Nat → Nat) : Nat ⊕ (Nat → Nat) :=
  if h : cs ≤ x then .inr g else if z ≤ i then .inl x else if ¬ cd x = 0 then (if i < 64 then .inl x else rdK cs cd z (x + 1) (i + 1) (va_up g i (cd x))) else if cs ≤ x + 1 then .inl cs else if z < i + (cd (x + 1) + 1) ∨ cs ≤ x + 2 then .inl x else rdK cs cd z (x + 2) (i + (cd (x + 1) + 1)) g
termination_by cs - x
decreasing_by
  · omega
  · omega
/-- right or wrong, class and reference read alike; where they part is a lone 0 behind the last byte of MEMORY -/
def rdA (cs : Nat) (cd : Nat → Nat) (a b : Nat ⊕ (Nat → Nat)) : Prop := (∀ g', a = .inr g' ↔ b = .inr g') ∧ ∀ w, a = .inl w → ∃ w', b = .inl w' ∧ (w' = w ∨ (w' = cs ∧ w + 1 = cs ∧ cd w = 0))
theorem rdA_l {cs : Nat} {cd : Nat → Nat} {a b : Nat ⊕ (Nat → Nat)} {w w' : Nat} (ha : a = .inl w) (hb : b = .inl w') (h : w' = w ∨ (w' = cs ∧ w + 1 = cs ∧ cd w = 0)) : rdA cs cd a b := by
  subst ha; subst hb
  refine ⟨fun g' => ⟨fun q => ?_, fun q => ?_⟩, fun v hv => ?_⟩
  · cases q
  · cases q
  · cases hv; exact ⟨w', rfl, h⟩
theorem rdA_r {cs : Nat} {cd : Nat → Nat} {a b : Nat ⊕ (Nat → Nat)} {g : Nat → Nat} (ha : a = .inr g) (hb : b = .inr g) : rdA cs cd a b := by
  subst ha; subst hb
  refine ⟨fun g' => Iff.rfl, fun v hv => ?_⟩
  cases hv
theorem rdK_rdF {cs : Nat} {cd : Nat → Nat} {z : Nat} : ∀ (n x i : Nat) (g : Nat → Nat), cs - x ≤ n → i ≤ z → rdA cs cd (rdK cs cd z x i g) (rdF cs cd z x i g) := by
  intro n
  induction n with
  | zero =>
    intro x i g h hi
    exact rdA_r (g := g) (by rw [rdK, dif_pos (by omega)]) (by rw [rdF, dif_pos (by omega)])
  | succ n ih =>
    intro x i g h hi
    by_cases hx : cs ≤ x
    · exact rdA_r (g := g) (by rw [rdK, dif_pos hx]) (by rw [rdF, dif_pos hx])
    · by_cases h0 : cd x = 0
      · by_cases hz : z ≤ i
        · by_cases h1 : x + 1 = cs
          · exact rdA_l (w := x) (w' := cs) (by rw [rdK, dif_neg hx, if_pos hz]) (by rw [rdF, dif_neg hx, if_neg (fun q => q h0), if_pos h1]) (Or.inr ⟨rfl, h1, h0⟩)
          · exact rdA_l (w := x) (w' := x) (by rw [rdK, dif_neg hx, if_pos hz]) (by rw [rdF, dif_neg hx, if_neg (fun q => q h0), if_neg h1, if_pos (Or.inl (by omega))]) (Or.inl rfl)
        · by_cases h1 : x + 1 = cs
          · exact rdA_l (w := cs) (w' := cs) (by rw [rdK, dif_neg hx, if_neg hz, if_neg (fun q => q h0), if_pos (by omega)]) (by rw [rdF, dif_neg hx, if_neg (fun q => q h0), if_pos h1]) (Or.inl rfl)
          · by_cases h2 : z < i + (cd (x + 1) + 1) ∨ x + 2 = cs
            · exact rdA_l (w := x) (w' := x) (by rw [rdK, dif_neg hx, if_neg hz, if_neg (fun q => q h0), if_neg (by omega), if_pos (by omega)]) (by rw [rdF, dif_neg hx, if_neg (fun q => q h0), if_neg h1, if_pos h2]) (Or.inl rfl)
            · rw [show rdK cs cd z x i g = rdK cs cd z (x + 2) (i + (cd (x + 1) + 1)) g by rw [rdK, dif_neg hx, if_neg hz, if_neg (fun q => q h0), if_neg (by omega), if_neg (by omega)], show rdF cs cd z x i g = rdF cs cd z (x + 2) (i + (cd (x + 1) + 1)) g by rw [rdF, dif_neg hx, if_neg (fun q => q h0), if_neg h1, if_neg h2]]
              exact ih (x + 2) _ g (by omega) (by omega)
      · by_cases hz : z ≤ i
        · exact rdA_l (w := x) (w' := x) (by rw [rdK, dif_neg hx, if_pos hz]) (by rw [rdF, dif_neg hx, if_pos h0, if_pos (Or.inl hz)]) (Or.inl rfl)
        · by_cases h3 : i < 64
          · exact rdA_l (w := x) (w' := x) (by rw [rdK, dif_neg hx, if_neg hz, if_pos h0, if_pos h3]) (by rw [rdF, dif_neg hx, if_pos h0, if_pos (Or.inr h3)]) (Or.inl rfl)
          · rw [show rdK cs cd z x i g = rdK cs cd z (x + 1) (i + 1) (va_up g i (cd x)) by rw [rdK, dif_neg hx, if_neg hz, if_pos h0, if_neg h3], show rdF cs cd z x i g = rdF cs cd z (x + 1) (i + 1) (va_up g i (cd x)) by rw [rdF, dif_neg hx, if_pos h0, if_neg (by omega), fst_0 (by omega), Nat.xor_zero]]
            exact ih (x + 1) (i + 1) _ (by omega) (by omega)
theorem rowF_z {d : Nat → Nat} {en i : Nat} : ∀ f n, (∀ j, j < n → d (i + j) = 0 ∧ i + j < en) → ∀ j, j < rowF d en i f n → d (i + j) = 0 ∧ i + j < en
  | 0, n, h, j, hj => h j hj
  | f + 1, n, h, j, hj => by
    unfold rowF at hj
    split at hj
    · rename_i hc
      exact rowF_z f (n + 1) (lt_s h ⟨hc.2, hc.1⟩) j hj
    · exact h j hj
theorem rowF_stop {d : Nat → Nat} {en i : Nat} : ∀ f n, rowF d en i f n < n + f → ¬ (i + rowF d en i f n < en ∧ d (i + rowF d en i f n) = 0)
  | 0, n, h => absurd h (by unfold rowF; omega)
  | f + 1, n, h => by
    unfold rowF at h ⊢
    split
    · rename_i hc
      rw [if_pos hc] at h
      exact rowF_stop f (n + 1) (by omega)
    · assumption
theorem rowN_lt {d : Nat → Nat} {en i : Nat} (hi : i < en) (he : ¬ d (en - 1) = 0) : i + rowN d en i < en := by
  by_cases h0 : rowN d en i = 0
  · omega
  · have h1 := rowF_z (d := d) (en := en) (i := i) 256 0 (fun j hj => absurd hj (Nat.not_lt_zero _)) (rowN d en i - 1) (by show _ < rowN d en i; omega)
    rcases Nat.lt_or_ge (i + rowN d en i) en with q | q
    · exact q
    · exact absurd h1.1 (by rw [show i + (rowN d en i - 1) = en - 1 by omega]; exact he)
theorem rowN_stop {d : Nat → Nat} {en i : Nat} (h : rowN d en i < 256) (hl : i + rowN d en i < en) : ¬ d (i + rowN d en i) = 0 := fun q => rowF_stop (d := d) (en := en) (i := i) 256 0 (by show rowN d en i < 0 + 256; omega) ⟨hl, q⟩
theorem rowF_le (d : Nat → Nat) (en i : Nat) : ∀ f n, rowF d en i f n ≤ n + f
  | 0, n => Nat.le_refl _
  | f + 1, n => by
    unfold rowF; split
    · have := rowF_le d en i f (n + 1); omega
    · omega
theorem rowN_le (d : Nat → Nat) (en i : Nat) : rowN d en i ≤ 256 := by have := rowF_le d en i 256 0; unfold rowN; omega
theorem rowN_0 {d : Nat → Nat} {en i : Nat} (h : 0 < rowN d en i) : d i = 0 := by
  have h1 := rowF_z (d := d) (en := en) (i := i) 256 0 (fun j hj => absurd hj (Nat.not_lt_zero _)) 0 h
  exact h1.1
/-- the head of CODE alone -/
def hdH (cs : Nat) (cd : Nat → Nat) : Option Nat := if cs < 2 then some cs else if ¬ isS (tw cd 0) then some 0 else if cs < 4 then some cs else if ¬ tw cd 2 = 0 ∧ (¬ isS (tw cd 2) ∨ ¬ tw cd 2 < tw cd 0) then some 2 else if cs < 6 then some cs else if 64 < tw cd 4 ∨ ¬ (tw cd 4 = 0 ↔ tw cd 2 = 0) then some 4 else none
theorem hdS_H (cs : Nat) (cd : Nat → Nat) : hdS cs cd = match hdH cs cd with | some w => some w | none => hdB cs cd (tw cd 0) (tw cd 4) 0 (tw cd 2) := by
  unfold hdS hdH
  by_cases h1 : cs < 2
  · rw [if_pos h1, if_pos h1]
  · rw [if_neg h1, if_neg h1]
    by_cases h2 : ¬ isS (tw cd 0)
    · rw [if_pos h2, if_pos h2]
    · rw [if_neg h2, if_neg h2]
      by_cases h3 : cs < 4
      · rw [if_pos h3, if_pos h3]
      · rw [if_neg h3, if_neg h3]
        by_cases h4 : ¬ tw cd 2 = 0 ∧ (¬ isS (tw cd 2) ∨ ¬ tw cd 2 < tw cd 0)
        · rw [if_pos h4, if_pos h4]
        · rw [if_neg h4, if_neg h4]
          by_cases h5 : cs < 6
          · rw [if_pos h5, if_pos h5]
          · rw [if_neg h5, if_neg h5]
            by_cases h6 : 64 < tw cd 4 ∨ ¬ (tw cd 4 = 0 ↔ tw cd 2 = 0)
            · rw [if_pos h6, if_pos h6]
            · rw [if_neg h6, if_neg h6]
/-- what the class reads: head, blocks, bytes over g -/
def rdKS (cs : Nat) (cd : Nat → Nat) (g : Nat → Nat) : Nat ⊕ (Nat → Nat) := match hdH cs cd with
  | some w => .inl w
  | none => match hdB cs cd (tw cd 0) (tw cd 4) 0 (tw cd 2) with
    | some w => .inl w
    | none => rdK cs cd (tw cd 0) (6 + 4 * tw cd 4) 0 g
theorem hdH_lt {cs : Nat} {cd : Nat → Nat} {w : Nat} (h : hdH cs cd = some w) : w ≤ cs + 4 := by
  unfold hdH at h
  split at h
  · cases h; omega
  · split at h
    · cases h; omega
    · split at h
      · cases h; omega
      · split at h
        · cases h; omega
        · split at h
          · cases h; omega
          · split at h
            · cases h; omega
            · cases h
theorem hdH_ok {cs : Nat} {cd : Nat → Nat} (h : hdH cs cd = none) : isS (tw cd 0) ∧ tw cd 4 ≤ 64 ∧ 6 ≤ cs := by
  unfold hdH at h
  split at h
  · cases h
  · split at h
    · cases h
    · rename_i h1
      split at h
      · cases h
      · split at h
        · cases h
        · split at h
          · cases h
          · split at h
            · cases h
            · rename_i h3
              have q1 : isS (tw cd 0) := Classical.not_not.mp h1
              have q3 : ¬ 64 < tw cd 4 := fun q => h3 (Or.inl q)
              exact ⟨q1, by omega, by omega⟩
theorem rdK_lt {cs : Nat} {cd : Nat → Nat} {z : Nat} : ∀ (n x i : Nat) (g : Nat → Nat) (w : Nat), cs - x ≤ n → rdK cs cd z x i g = .inl w → w ≤ cs := by
  intro n
  induction n with
  | zero =>
    intro x i g w h hw
    rw [rdK, dif_pos (by omega)] at hw
    cases hw
  | succ n ih =>
    intro x i g w h hw
    rw [rdK] at hw
    split at hw
    · cases hw
    · split at hw
      · cases hw; omega
      · split at hw
        · split at hw
          · cases hw; omega
          · exact ih _ _ _ w (by omega) hw
        · split at hw
          · cases hw; omega
          · split at hw
            · cases hw; omega
            · exact ih _ _ _ w (by omega) hw
theorem rdKS_h {cs : Nat} {cd g : Nat → Nat} {w : Nat} (h : hdH cs cd = some w) : rdKS cs cd g = .inl w := by unfold rdKS; rw [h]
theorem rdKS_b {cs : Nat} {cd g : Nat → Nat} {w : Nat} (h : hdH cs cd = none) (hb : hdB cs cd (tw cd 0) (tw cd 4) 0 (tw cd 2) = some w) : rdKS cs cd g = .inl w := by unfold rdKS; simp only [h, hb]
theorem rdKS_y {cs : Nat} {cd g : Nat → Nat} (h : hdH cs cd = none) (hb : hdB cs cd (tw cd 0) (tw cd 4) 0 (tw cd 2) = none) : rdKS cs cd g = rdK cs cd (tw cd 0) (6 + 4 * tw cd 4) 0 g := by unfold rdKS; simp only [h, hb]
