-- SEARCHES
theorem and1 {n : Nat} (h : n < 2 ^ 31) : nI n &&& nI 1 = nI (n % 2) := pk_andN (by omega) (m := nI 1) 1 (by decide)
theorem and2 {n : Nat} (h : n ≤ 7) : nI n &&& nI 2 = nI (n / 2 % 2 * 2) := by
  rcases (show n = 0 ∨ n = 1 ∨ n = 2 ∨ n = 3 ∨ n = 4 ∨ n = 5 ∨ n = 6 ∨ n = 7 by omega) with rfl | rfl | rfl | rfl | rfl | rfl | rfl | rfl <;> decide
def isK (o : Nat) (q : Int32) : Prop := if o % 2 = 1 then (¬ q < nI 1 ∧ ¬ nI 64 < q) else isW q
theorem isK_nat {o : Nat} {q : Int32} (h : isK o q) : ∃ k : Nat, 1 ≤ k ∧ k ≤ 64 ∧ q = nI k ∧ (o % 2 = 0 → k ≤ 4) := by
  unfold isK at h
  by_cases ho : o % 2 = 1
  · rw [if_pos ho] at h
    obtain ⟨h1, h2⟩ := h
    obtain ⟨k, hk, rfl, hk1⟩ := ge1 (Int32.not_lt.mp h1)
    have h3 : k ≤ 64 := (nI_leI hk (by decide)).mp (Int32.not_lt.mp h2)
    exact ⟨k, hk1, h3, rfl, fun h => by omega⟩
  · rw [if_neg ho] at h
    obtain ⟨k, hk, rfl⟩ := isW_of h
    exact ⟨k, by omega, by omega, rfl, fun _ => by omega⟩
abbrev tkn (sz : Nat) (p : Int32) (k o : Nat) : Prop := o % 2 = 0 ∨ (¬ p < 0 ∧ cl p + k ≤ sz)
/-- byte j of the KEY -/
def ky (mem : Nat → Nat) (p : Int32) (k o : Nat) : Nat → Nat := fun j => if o % 2 = 0 then byt p (k - 1 - j) else mem (cl p + j)
def kyW (mem : Nat → Nat) (p : Int32) (k o : Nat) (wt : Nat → Nat) (n : Nat) : Nat → Nat := fun j => if j < n then ky mem p k o j else wt j
def tkW (sz : Nat) (mem : Nat → Nat) (p : Int32) (k o : Nat) (wt : Nat → Nat) : Nat → Nat := if tkn sz p k o then kyW mem p k o wt k else wt
theorem ky_lt {mem : Nat → Nat} (h : ∀ j, mem j < 256) (p : Int32) (k o j : Nat) : ky mem p k o j < 256 := by
  unfold ky; split
  · exact byt_lt _ _
  · exact h _
theorem tkW_lt {sz : Nat} {mem wt : Nat → Nat} (h : ∀ j, mem j < 256) (hw : ∀ j, wt j < 256) (p : Int32) (k o j : Nat) : tkW sz mem p k o wt j < 256 := by
  unfold tkW kyW; split
  · show (if j < k then _ else _) < 256
    split
    · exact ky_lt h _ _ _ _
    · exact hw _
  · exact hw _
theorem kyW_0 (mem : Nat → Nat) (p : Int32) (k o : Nat) (wt : Nat → Nat) : kyW mem p k o wt 0 = wt := by
  funext j; unfold kyW; rw [if_neg (by omega)]
theorem kyW_s {mem : Nat → Nat} {p : Int32} {k o : Nat} {wt : Nat → Nat} {i v : Nat} (hv : ky mem p k o i = v) : va_up (kyW mem p k o wt i) i v = kyW mem p k o wt (i + 1) := by
  funext j; unfold kyW va_up
  by_cases h : j = i
  · rw [if_pos h, if_pos (by omega), h, hv]
  · rw [if_neg h]
    show (if j < i then _ else _) = _
    by_cases h2 : j < i
    · rw [if_pos h2, if_pos (by omega)]
    · rw [if_neg h2, if_neg (by omega)]
theorem cmpF_congr {f : Nat → Nat} {x : Nat} {g g' : Nat → Nat} {k : Nat} (h : ∀ j, j < k → g j = g' j) : ∀ n i, cmpF f x g k n i = cmpF f x g' k n i
  | 0, _ => rfl
  | n + 1, i => by
    unfold cmpF
    by_cases hi : k ≤ i
    · rw [if_pos hi, if_pos hi]
    · rw [if_neg hi, if_neg hi, h i (by omega), cmpF_congr h n (i + 1)]
theorem cmp_ky {sz : Nat} {mem : Nat → Nat} {p : Int32} {k o : Nat} {wt : Nat → Nat} (h : tkn sz p k o) (x : Nat) : cmpB mem x (tkW sz mem p k o wt) k = cmpB mem x (ky mem p k o) k := by
  refine cmpF_congr (fun j hj => ?_) k 0
  unfold tkW kyW
  rw [if_pos h]
  show (if j < k then _ else _) = _
  rw [if_pos hj]
theorem neg64 {p : Int32} (h : p < 0) : p.toInt64 < lN 0 := by
  rw [Int64.lt_iff_toInt_lt, Int32.toInt_toInt64]
  exact Int32.lt_iff_toInt_lt.mp h
theorem nI_m1 {n : Nat} (h : n < 2 ^ 31) : ¬ nI n = (-1) := fun q => by
  have h1 := congrArg Int32.toInt q
  rw [nI_toInt h] at h1
  have h2 : (-1 : Int32).toInt = -1 := by decide
  omega
theorem gem1 {p : Int32} (h : ¬ p < (-1)) : p = (-1) ∨ ∃ n : Nat, n < 2 ^ 31 ∧ p = nI n := by
  by_cases h0 : p < 0
  · left
    have h1 : ¬ p.toInt < -1 := fun q => h (Int32.lt_iff_toInt_lt.mpr (by simpa using q))
    have h2 : p.toInt < 0 := Int32.lt_iff_toInt_lt.mp h0
    exact Int32.toInt_inj.mp (by rw [show (-1 : Int32).toInt = -1 by decide]; omega)
  · right
    exact nI_of h0
/-- the answer of a search that finds nothing -/
def noA (o : Nat) : Int32 := if 4 ≤ o then (-1) else nI 0
noncomputable def allZb (f : Nat → Nat) (x k : Nat) : Bool := @decide (allZ f x k) (Classical.propDecidable _)
theorem allZb_t {f : Nat → Nat} {x k : Nat} (h : allZ f x k) : allZb f x k = true := @decide_eq_true _ (Classical.propDecidable _) h
theorem allZb_f {f : Nat → Nat} {x k : Nat} (h : ¬ allZ f x k) : allZb f x k = false := @decide_eq_false _ (Classical.propDecidable _) h
noncomputable def isKb (o : Nat) (q : Int32) : Bool := @decide (isK o q) (Classical.propDecidable _)
theorem isKb_t {o : Nat} {q : Int32} (h : isK o q) : isKb o q = true := @decide_eq_true _ (Classical.propDecidable _) h
theorem isKb_f {o : Nat} {q : Int32} (h : ¬ isK o q) : isKb o q = false := @decide_eq_false _ (Classical.propDecidable _) h
-- promise 10: linear
abbrev badL (p2 p3 p4 p5 p6 p7 : Int32) : Prop := p4 < 0 ∨ p5 < (-1) ∨ p6 < 0 ∨ p3 < 0 ∨ p7 < 0 ∨ nI 7 < p7 ∨ isKb (cl p7) p2 = false
noncomputable def lnF (sz : Nat) (mem g : Nat → Nat) (k x w nn off o : Nat) : Nat → Nat → Int32
  | 0, _ => noA o
  | f + 1, i => if nn ≤ i then noA o else if i = 3000 then (-16) else if ¬ x + i * w + off + k ≤ sz then (-12) else if cmpB mem (x + i * w + off) g k = 0 then (if 4 ≤ o then nI i else nI (x + i * w)) else if o / 2 % 2 = 1 ∧ allZb mem (x + i * w + off) k = true then noA o else lnF sz mem g k x w nn off o f (i + 1)
theorem lnF_s {sz : Nat} {mem g : Nat → Nat} {k x w nn off o i : Nat} (h : i ≤ 3000) : lnF sz mem g k x w nn off o (3001 - i) i = if nn ≤ i then noA o else if i = 3000 then (-16) else if ¬ x + i * w + off + k ≤ sz then (-12) else if cmpB mem (x + i * w + off) g k = 0 then (if 4 ≤ o then nI i else nI (x + i * w)) else if o / 2 % 2 = 1 ∧ allZb mem (x + i * w + off) k = true then noA o else lnF sz mem g k x w nn off o (3001 - (i + 1)) (i + 1) := by
  obtain ⟨f, hf⟩ : ∃ f, 3001 - i = f + 1 := ⟨3001 - i - 1, by omega⟩
  rw [hf, show 3001 - (i + 1) = f by omega]
  rfl
/-- how many structures: without an end, more than a search may come to -/
def nnl (p : Int32) : Nat := if p = (-1) then 3001 else cl p
noncomputable def lnR (sz : Nat) (mem : Nat → Nat) (p1 p2 p3 p4 p5 p6 p7 : Int32) : Int32 := if badL p2 p3 p4 p5 p6 p7 then (-11) else if ¬ tkn sz p1 (cl p2) (cl p7) then (-12) else lnF sz mem (ky mem p1 (cl p2) (cl p7)) (cl p2) (cl p3) (cl p4) (nnl p5) (cl p6) (cl p7) 3001 0
noncomputable def lnW (sz : Nat) (mem wt : Nat → Nat) (p1 p2 p3 p4 p5 p6 p7 : Int32) : Nat → Nat := if badL p2 p3 p4 p5 p6 p7 then wt else tkW sz mem p1 (cl p2) (cl p7) wt
-- promise 11: binary
abbrev badB (p2 p3 p4 p5 p6 p7 : Int32) : Prop := p4 < 0 ∨ p5 < 0 ∨ p6 < 0 ∨ p3 < 0 ∨ p7 < 0 ∨ nI 7 < p7 ∨ cl p7 / 2 % 2 = 1 ∨ isKb (cl p7) p2 = false
def bnF (sz : Nat) (mem g : Nat → Nat) (k x w off o lo hi : Nat) : Int32 :=
  if h : hi ≤ lo then noA o else if ¬ x + (lo + hi) / 2 * w + off + k ≤ sz then (-12) else if cmpB mem (x + (lo + hi) / 2 * w + off) g k = 0 then (if 4 ≤ o then nI ((lo + hi) / 2) else nI (x + (lo + hi) / 2 * w)) else if cmpB mem (x + (lo + hi) / 2 * w + off) g k = 1 then bnF sz mem g k x w off o ((lo + hi) / 2 + 1) hi else bnF sz mem g k x w off o lo ((lo + hi) / 2)
termination_by hi - lo
decreasing_by
  · omega
  · omega
noncomputable def bnR (sz : Nat) (mem : Nat → Nat) (p1 p2 p3 p4 p5 p6 p7 : Int32) : Int32 := if badB p2 p3 p4 p5 p6 p7 then (-11) else if ¬ tkn sz p1 (cl p2) (cl p7) then (-12) else bnF sz mem (ky mem p1 (cl p2) (cl p7)) (cl p2) (cl p3) (cl p4) (cl p6) (cl p7) 0 (cl p5)
noncomputable def bnW (sz : Nat) (mem wt : Nat → Nat) (p1 p2 p3 p4 p5 p6 p7 : Int32) : Nat → Nat := if badB p2 p3 p4 p5 p6 p7 then wt else tkW sz mem p1 (cl p2) (cl p7) wt
-- promise 12: linked
abbrev badK (p2 p3 p4 p5 p6 : Int32) : Prop := p4 < 0 ∨ p3 < 0 ∨ p5 < 0 ∨ p6 < 0 ∨ nI 3 < p6 ∨ isKb (cl p6) p2 = false
noncomputable def lkF (sz : Nat) (mem g : Nat → Nat) (k off link o : Nat) : Nat → Nat → Int32
  | 0, z => if z = 0 then nI 0 else (-16)
  | f + 1, z => if z = 0 then nI 0 else if ¬ z + off + k ≤ sz then (-12) else if cmpB mem (z + off) g k = 0 then nI z else if o / 2 % 2 = 1 ∧ allZb mem (z + off) k = true then nI 0 else if ¬ z + link + 4 ≤ sz then (-12) else lkF sz mem g k off link o f (num mem (z + link) 4)
noncomputable def lkR (sz : Nat) (mem : Nat → Nat) (p1 p2 p3 p4 p5 p6 : Int32) : Int32 := if badK p2 p3 p4 p5 p6 then (-11) else if ¬ tkn sz p1 (cl p2) (cl p6) then (-12) else lkF sz mem (ky mem p1 (cl p2) (cl p6)) (cl p2) (cl p4) (cl p5) (cl p6) 3000 (cl p3)
noncomputable def lkW (sz : Nat) (mem wt : Nat → Nat) (p1 p2 p3 p4 p5 p6 : Int32) : Nat → Nat := if badK p2 p3 p4 p5 p6 then wt else tkW sz mem p1 (cl p2) (cl p6) wt
theorem lkF_s {sz : Nat} {mem g : Nat → Nat} {k off link o c z : Nat} (h : c < 3000) (hz : ¬ z = 0) : lkF sz mem g k off link o (3000 - c) z = if ¬ z + off + k ≤ sz then (-12) else if cmpB mem (z + off) g k = 0 then nI z else if o / 2 % 2 = 1 ∧ allZb mem (z + off) k = true then nI 0 else if ¬ z + link + 4 ≤ sz then (-12) else lkF sz mem g k off link o (3000 - (c + 1)) (num mem (z + link) 4) := by
  obtain ⟨f, hf⟩ : ∃ f, 3000 - c = f + 1 := ⟨3000 - c - 1, by omega⟩
  rw [hf, show 3000 - (c + 1) = f by omega]
  show (if z = 0 then _ else _) = _
  rw [if_neg hz]
theorem lkF_z {sz : Nat} {mem g : Nat → Nat} {k off link o : Nat} : ∀ f : Nat, lkF sz mem g k off link o f 0 = nI 0
  | 0 => rfl
  | f + 1 => by unfold lkF; rw [if_pos rfl]
theorem lkF_e {sz : Nat} {mem g : Nat → Nat} {k off link o z : Nat} (h : ¬ z = 0) : lkF sz mem g k off link o 0 z = (-16) := by unfold lkF; rw [if_neg h]
