-- promise 22: read
def hdB (cs : Nat) (cd : Nat → Nat) (z : Nat) : Nat → Nat → Nat → Option Nat
  | 0, _, _ => none
  | f + 1, i, en => if cs < 6 + 4 * i + 2 then some cs else if tw cd (6 + 4 * i) < en then some (6 + 4 * i) else if cs < 6 + 4 * i + 4 then some cs else if tw cd (6 + 4 * i + 2) = 0 ∨ z < tw cd (6 + 4 * i) + tw cd (6 + 4 * i + 2) then some (6 + 4 * i + 2) else hdB cs cd z f (i + 1) (tw cd (6 + 4 * i) + tw cd (6 + 4 * i + 2))
def hdS (cs : Nat) (cd : Nat → Nat) : Option Nat := if cs < 2 then some cs else if ¬ isS (tw cd 0) then some 0 else if cs < 4 then some cs else if ¬ tw cd 2 = 0 ∧ (¬ isS (tw cd 2) ∨ ¬ tw cd 2 < tw cd 0) then some 2 else if cs < 6 then some cs else if 64 < tw cd 4 ∨ ¬ (tw cd 4 = 0 ↔ tw cd 2 = 0) then some 4 else hdB cs cd (tw cd 0) (tw cd 4) 0 (tw cd 2)
theorem hdB_s {cs : Nat} {cd : Nat → Nat} {z u i en : Nat} (h : i < u) : hdB cs cd z (u - i) i en = if cs < 6 + 4 * i + 2 then some cs else if tw cd (6 + 4 * i) < en then some (6 + 4 * i) else if cs < 6 + 4 * i + 4 then some cs else if tw cd (6 + 4 * i + 2) = 0 ∨ z < tw cd (6 + 4 * i) + tw cd (6 + 4 * i + 2) then some (6 + 4 * i + 2) else hdB cs cd z (u - (i + 1)) (i + 1) (tw cd (6 + 4 * i) + tw cd (6 + 4 * i + 2)) := by
  obtain ⟨f, hf⟩ : ∃ f, u - i = f + 1 := ⟨u - i - 1, by omega⟩
  rw [hf, show u - (i + 1) = f by omega]
  rfl
theorem hdB_lt {cs : Nat} {cd : Nat → Nat} {z : Nat} : ∀ (f i en w : Nat), hdB cs cd z f i en = some w → w ≤ cs + (6 + 4 * (i + f) + 2)
  | 0, i, en, w, h => by cases h
  | f + 1, i, en, w, h => by
    unfold hdB at h
    split at h
    · cases h; omega
    · split at h
      · cases h; omega
      · split at h
        · cases h; omega
        · split at h
          · cases h; omega
          · have := hdB_lt f (i + 1) _ w h; omega
theorem hdS_lt {cs : Nat} {cd : Nat → Nat} {w : Nat} (h : hdS cs cd = some w) : w ≤ cs + 300 := by
  unfold hdS at h
  split at h
  · cases h; omega
  · split at h
    · cases h; omega
    · split at h
      · cases h; omega
      · split at h
        · cases h; omega
        · split at h
          · cases h; omega
          · split at h
            · cases h; omega
            · rename_i q
              have := hdB_lt _ _ _ w h; omega
/-- what CODE tells of bytes, from place x on, byte i on, over g: the place where it is wrong, or the bytes -/
def rdF (cs : Nat) (cd : Nat → Nat) (z x i : Nat) (g : Nat → Nat) : Nat ⊕ (Nat → Nat) :=
  if h : cs ≤ x then .inr g else if ¬ cd x = 0 then (if z ≤ i ∨ i < 64 then .inl x else rdF cs cd z (x + 1) (i + 1) (va_up g i (cd x ^^^ fst i))) else if x + 1 = cs then .inl cs else if z < i + (cd (x + 1) + 1) ∨ x + 2 = cs then .inl x else rdF cs cd z (x + 2) (i + (cd (x + 1) + 1)) g
termination_by cs - x
decreasing_by
  · omega
  · omega
def rdS (cs : Nat) (cd : Nat → Nat) : Nat ⊕ (Nat → Nat) := match hdS cs cd with
  | some w => .inl w
  | none => rdF cs cd (tw cd 0) (6 + 4 * tw cd 4) 0 fst
theorem hdS_ok {cs : Nat} {cd : Nat → Nat} (h : hdS cs cd = none) : isS (tw cd 0) ∧ tw cd 4 ≤ 64 ∧ (tw cd 4 = 0 ↔ tw cd 2 = 0) ∧ (¬ tw cd 2 = 0 → isS (tw cd 2) ∧ tw cd 2 < tw cd 0) ∧ 6 ≤ cs ∧ hdB cs cd (tw cd 0) (tw cd 4) 0 (tw cd 2) = none := by
  unfold hdS at h
  split at h
  · cases h
  · split at h
    · cases h
    · rename_i h1
      split at h
      · cases h
      · split at h
        · cases h
        · rename_i h2
          split at h
          · cases h
          · split at h
            · cases h
            · rename_i h3
              have q1 : isS (tw cd 0) := Classical.not_not.mp h1
              have q2 : tw cd 4 = 0 ↔ tw cd 2 = 0 := Classical.not_not.mp (fun q => h3 (Or.inr q))
              have q3 : ¬ 64 < tw cd 4 := fun q => h3 (Or.inl q)
              refine ⟨q1, by omega, q2, fun q => ?_, by omega, h⟩
              have q4 : ¬ (¬ isS (tw cd 2) ∨ ¬ tw cd 2 < tw cd 0) := fun z => h2 ⟨q, z⟩
              exact ⟨Classical.not_not.mp (fun z => q4 (Or.inl z)), Classical.not_not.mp (fun z => q4 (Or.inr z))⟩
