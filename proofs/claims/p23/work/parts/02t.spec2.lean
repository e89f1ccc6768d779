/-- an int's number, 0 below 0 -/
abbrev cl (p : Int32) : Nat := p.toNatClampNeg
abbrev isW (q : Int32) : Prop := q = nI 1 ∨ q = nI 2 ∨ q = nI 4
theorem isW_of {q : Int32} (h : isW q) : ∃ k : Nat, (k = 1 ∨ k = 2 ∨ k = 4) ∧ q = nI k := by
  rcases h with h | h | h
  · exact ⟨1, by omega, h⟩
  · exact ⟨2, by omega, h⟩
  · exact ⟨4, by omega, h⟩
theorem isW_nI {k : Nat} (h : k = 1 ∨ k = 2 ∨ k = 4) : isW (nI k) := by
  rcases h with rfl | rfl | rfl <;> simp [isW]
/-- byte e of an int, from the lowest on -/
def byt (v : Int32) (e : Nat) : Nat := v.toBitVec.toNat / 256 ^ e % 256
theorem byt_lt (v : Int32) (e : Nat) : byt v e < 256 := Nat.mod_lt _ (by decide)
theorem i32_nat (x : Int32) : (x.toBitVec.toNat : Int) = x.toInt % 4294967296 := by
  have h := BitVec.toInt_eq_toNat_cond x.toBitVec
  have h2 := x.toBitVec.isLt
  have h3 : x.toInt = x.toBitVec.toInt := rfl
  rw [h3, h]
  split <;> omega
theorem sarB (v : Int32) {e : Nat} (he : e < 4) : (v >>> (nI (8 * e) &&& 31)) &&& nI 255 = nI (byt v e) := by
  rw [pk_and (v >>> (nI (8 * e) &&& 31)) (m := nI 255) 8 (by decide)]
  have h1 : (v >>> (nI (8 * e) &&& 31)).toBitVec.toNat % 2 ^ 8 = byt v e := by
    have hn := i32_nat v
    have hm := i32_nat (v >>> (nI (8 * e) &&& 31))
    unfold byt
    rcases (show e = 0 ∨ e = 1 ∨ e = 2 ∨ e = 3 by omega) with rfl | rfl | rfl | rfl
    · have h := pk_shr v (nI (8 * 0) &&& 31) 0 (by decide)
      rw [h, Int.shiftRight_eq_div_pow] at hm
      omega
    · have h := pk_shr v (nI (8 * 1) &&& 31) 8 (by decide)
      rw [h, Int.shiftRight_eq_div_pow] at hm
      omega
    · have h := pk_shr v (nI (8 * 2) &&& 31) 16 (by decide)
      rw [h, Int.shiftRight_eq_div_pow] at hm
      omega
    · have h := pk_shr v (nI (8 * 3) &&& 31) 24 (by decide)
      rw [h, Int.shiftRight_eq_div_pow] at hm
      omega
  rw [h1]
/-- the lowest k bytes of v at x -/
def wr (f : Nat → Nat) (x k : Nat) (v : Int32) (n : Nat) : Nat → Nat := fun j => if x ≤ j ∧ j < x + n then byt v (k - 1 - (j - x)) else f j
theorem wr_0 (f : Nat → Nat) (x k : Nat) (v : Int32) : wr f x k v 0 = f := by
  funext j; unfold wr; rw [if_neg (by omega)]
theorem wr_s (f : Nat → Nat) (x k : Nat) (v : Int32) (n : Nat) : va_up (wr f x k v n) (x + n) (byt v (k - 1 - n)) = wr f x k v (n + 1) := by
  funext j; unfold wr va_up
  by_cases h : j = x + n
  · rw [if_pos h, if_pos (by omega), show j - x = n by omega]
  · rw [if_neg h]
    show (if x ≤ j ∧ j < x + n then byt v (k - 1 - (j - x)) else f j) = _
    by_cases h2 : x ≤ j ∧ j < x + n
    · rw [if_pos h2, if_pos (by omega)]
    · rw [if_neg h2, if_neg (by omega)]
-- promise 2: get
def gS (sz : Nat) (mem : Nat → Nat) (p q : Int32) : Int64 := if ¬ isW q ∨ p < 0 then (-11) else if cl p + cl q ≤ sz then lN (num mem (cl p) (cl q)) else (-12)
theorem gS_w {sz : Nat} {mem : Nat → Nat} {p q : Int32} (h : ¬ isW q ∨ p < 0) : gS sz mem p q = (-11) := if_pos h
theorem gS_ok {sz : Nat} {mem : Nat → Nat} {x k : Nat} (hx : x < 2 ^ 31) (hk : k = 1 ∨ k = 2 ∨ k = 4) : gS sz mem (nI x) (nI k) = if x + k ≤ sz then lN (num mem x k) else (-12) := by
  unfold gS
  rw [if_neg (fun h => h.elim (fun h => h (isW_nI hk)) (fun h => nI_pos hx h)), show cl (nI x) = x from nI_clamp hx, show cl (nI k) = k from nI_clamp (by omega)]
-- promise 3: set
def stR (sz : Nat) (p q : Int32) : Int32 := if ¬ isW q ∨ p < 0 then (-11) else if ¬ cl p + cl q ≤ sz then (-12) else if cl p < 64 then (-13) else nI 1
def stM (sz : Nat) (mem : Nat → Nat) (p q v : Int32) : Nat → Nat := if stR sz p q = nI 1 then wr mem (cl p) (cl q) v (cl q) else mem
theorem stR_w {sz : Nat} {p q : Int32} (h : ¬ isW q ∨ p < 0) : stR sz p q = (-11) := if_pos h
theorem stR_ok {sz : Nat} {x k : Nat} (hx : x < 2 ^ 31) (hk : k = 1 ∨ k = 2 ∨ k = 4) : stR sz (nI x) (nI k) = if ¬ x + k ≤ sz then (-12) else if x < 64 then (-13) else nI 1 := by
  unfold stR
  rw [if_neg (fun h => h.elim (fun h => h (isW_nI hk)) (fun h => nI_pos hx h)), show cl (nI x) = x from nI_clamp hx, show cl (nI k) = k from nI_clamp (by omega)]
theorem stM_no {sz : Nat} {mem : Nat → Nat} {p q v r : Int32} (h : stR sz p q = r) (hr : ¬ r = nI 1) : mem = stM sz mem p q v := by
  unfold stM; rw [if_neg (by rw [h]; exact hr)]
theorem stM_ok {sz : Nat} {mem : Nat → Nat} {x k : Nat} {v : Int32} (h : stR sz (nI x) (nI k) = nI 1) (hx : x < 2 ^ 31) (hk : k < 2 ^ 31) : stM sz mem (nI x) (nI k) v = wr mem x k v k := by
  unfold stM; rw [if_pos h, show cl (nI x) = x from nI_clamp hx, show cl (nI k) = k from nI_clamp hk]
-- promise 4: zero
def zrR (sz : Nat) (p q : Int32) : Int32 := if p < 0 ∨ q < 0 then (-11) else if ¬ (cl q = 0 ∨ cl p + cl q ≤ sz) then (-12) else if 0 < cl q ∧ cl p < 64 then (-13) else nI 1
def zrM (sz : Nat) (mem : Nat → Nat) (p q : Int32) : Nat → Nat := if zrR sz p q = nI 1 then zr mem (cl p) (cl q) else mem
theorem zrR_w {sz : Nat} {p q : Int32} (h : p < 0 ∨ q < 0) : zrR sz p q = (-11) := if_pos h
theorem zrR_ok {sz x n : Nat} (hx : x < 2 ^ 31) (hn : n < 2 ^ 31) : zrR sz (nI x) (nI n) = if ¬ (n = 0 ∨ x + n ≤ sz) then (-12) else if 0 < n ∧ x < 64 then (-13) else nI 1 := by
  unfold zrR
  rw [if_neg (fun h => h.elim (fun h => nI_pos hx h) (fun h => nI_pos hn h)), show cl (nI x) = x from nI_clamp hx, show cl (nI n) = n from nI_clamp hn]
theorem zrM_no {sz : Nat} {mem : Nat → Nat} {p q r : Int32} (h : zrR sz p q = r) (hr : ¬ r = nI 1) : mem = zrM sz mem p q := by
  unfold zrM; rw [if_neg (by rw [h]; exact hr)]
theorem zrM_ok {sz : Nat} {mem : Nat → Nat} {x n : Nat} (h : zrR sz (nI x) (nI n) = nI 1) (hx : x < 2 ^ 31) (hn : n < 2 ^ 31) : zrM sz mem (nI x) (nI n) = zr mem x n := by
  unfold zrM; rw [if_pos h, show cl (nI x) = x from nI_clamp hx, show cl (nI n) = n from nI_clamp hn]
-- promise 5: copy
def cpR (sz : Nat) (p q n : Int32) : Int32 := if p < 0 ∨ q < 0 ∨ n < 0 then (-11) else if ¬ (cl n = 0 ∨ (cl p + cl n ≤ sz ∧ cl q + cl n ≤ sz)) then (-12) else if 0 < cl n ∧ cl q < 64 then (-13) else nI 1
def cpM (sz : Nat) (mem : Nat → Nat) (p q n : Int32) : Nat → Nat := if cpR sz p q n = nI 1 then va_cpy mem mem (cl p) (cl q) (cl n) else mem
theorem cpR_w {sz : Nat} {p q n : Int32} (h : p < 0 ∨ q < 0 ∨ n < 0) : cpR sz p q n = (-11) := if_pos h
theorem cpR_ok {sz x y n : Nat} (hx : x < 2 ^ 31) (hy : y < 2 ^ 31) (hn : n < 2 ^ 31) : cpR sz (nI x) (nI y) (nI n) = if ¬ (n = 0 ∨ (x + n ≤ sz ∧ y + n ≤ sz)) then (-12) else if 0 < n ∧ y < 64 then (-13) else nI 1 := by
  unfold cpR
  rw [if_neg (fun h => h.elim (fun h => nI_pos hx h) (fun h => h.elim (fun h => nI_pos hy h) (fun h => nI_pos hn h))), show cl (nI x) = x from nI_clamp hx, show cl (nI n) = n from nI_clamp hn, show cl (nI y) = y from nI_clamp hy]
theorem cpM_no {sz : Nat} {mem : Nat → Nat} {p q n r : Int32} (h : cpR sz p q n = r) (hr : ¬ r = nI 1) : mem = cpM sz mem p q n := by
  unfold cpM; rw [if_neg (by rw [h]; exact hr)]
theorem cpM_ok {sz : Nat} {mem : Nat → Nat} {x y n : Nat} (h : cpR sz (nI x) (nI y) (nI n) = nI 1) (hx : x < 2 ^ 31) (hy : y < 2 ^ 31) (hn : n < 2 ^ 31) : cpM sz mem (nI x) (nI y) (nI n) = va_cpy mem mem x y n := by
  unfold cpM; rw [if_pos h, show cl (nI x) = x from nI_clamp hx, show cl (nI n) = n from nI_clamp hn, show cl (nI y) = y from nI_clamp hy]
theorem cpy_0 (f : Nat → Nat) (x y : Nat) : va_cpy f f x y 0 = f := by
  funext j; unfold va_cpy; rw [if_neg (by omega)]
theorem cpy_up {f : Nat → Nat} {x y n k : Nat} (hxy : ¬ x < y) : va_up (va_cpy f f x y k) (y + k) (va_cpy f f x y k (x + k)) = va_cpy f f x y (k + 1) := by
  funext j; unfold va_up va_cpy
  by_cases h : j = y + k
  · rw [if_pos h]
    show (if y ≤ x + k ∧ x + k < y + k then f (x + (x + k - y)) else f (x + k)) = _
    rw [if_neg (by omega), if_pos (by omega), show x + (j - y) = x + k by omega]
  · rw [if_neg h]
    show (if y ≤ j ∧ j < y + k then f (x + (j - y)) else f j) = _
    by_cases h2 : y ≤ j ∧ j < y + k
    · rw [if_pos h2, if_pos (by omega)]
    · rw [if_neg h2, if_neg (by omega)]
theorem cpy_dn {f : Nat → Nat} {x y n k : Nat} (hxy : x < y) (hk : k < n) : va_up (va_cpy f f (x + (n - k)) (y + (n - k)) k) (y + (n - 1 - k)) (va_cpy f f (x + (n - k)) (y + (n - k)) k (x + (n - 1 - k))) = va_cpy f f (x + (n - (k + 1))) (y + (n - (k + 1))) (k + 1) := by
  funext j; unfold va_up va_cpy
  by_cases h : j = y + (n - 1 - k)
  · rw [if_pos h]
    show (if y + (n - k) ≤ x + (n - 1 - k) ∧ x + (n - 1 - k) < y + (n - k) + k then _ else f (x + (n - 1 - k))) = _
    rw [if_neg (by omega), if_pos (by omega), show x + (n - (k + 1)) + (j - (y + (n - (k + 1)))) = x + (n - 1 - k) by omega]
  · rw [if_neg h]
    show (if y + (n - k) ≤ j ∧ j < y + (n - k) + k then f (x + (n - k) + (j - (y + (n - k)))) else f j) = _
    by_cases h2 : y + (n - k) ≤ j ∧ j < y + (n - k) + k
    · rw [if_pos h2, if_pos (by omega), show x + (n - (k + 1)) + (j - (y + (n - (k + 1)))) = x + (n - k) + (j - (y + (n - k))) by omega]
    · rw [if_neg h2, if_neg (by omega)]
-- promise 6: resize
abbrev isS (x : Nat) : Prop := 256 ≤ x ∧ x ≤ 8192 ∧ x % 256 = 0
def rzR (sz us : Nat) (p : Int32) : Int32 := if p < 0 ∨ ¬ isS (cl p) then (-11) else if 0 < us then (-14) else nI sz
theorem rzR_w {sz us : Nat} {p : Int32} (h : p < 0 ∨ ¬ isS (cl p)) : rzR sz us p = (-11) := if_pos h
abbrev rzO (us : Nat) (p : Int32) : Prop := ¬ (p < 0 ∨ ¬ isS (cl p)) ∧ ¬ 0 < us
def rzZ (sz us : Nat) (p : Int32) : Nat := if rzO us p then cl p else sz
def rzM (sz us : Nat) (mem : Nat → Nat) (p : Int32) : Nat → Nat := if rzO us p then zr mem sz (cl p - sz) else mem
theorem rzO_ok {us x : Nat} (hx : x < 2 ^ 31) (h : isS x) (h0 : ¬ 0 < us) : rzO us (nI x) := ⟨fun q => q.elim (fun q => nI_pos hx q) (fun q => q (by rw [show cl (nI x) = x from nI_clamp hx]; exact h)), h0⟩
-- THE HEAP
/-- blocks in their places, one behind the other, all in THE HEAP -/
def wfB (sz st us : Nat) (pl ln : Nat → Nat) : Prop := us ≤ 64 ∧ isS sz ∧ (us = 0 ↔ st = 0) ∧ (0 < us → isS st ∧ st < sz) ∧ (∀ i, i < us → 1 ≤ ln i ∧ pl i + ln i ≤ sz ∧ st ≤ pl i) ∧ (∀ i, i + 1 < us → pl i + ln i ≤ pl (i + 1))
theorem gAt_le {sz st us : Nat} {pl ln : Nat → Nat} (h : wfB sz st us pl ln) {i : Nat} (hi : i ≤ us) : gAt st pl ln i ≤ sz := by
  obtain ⟨h1, h2, h3, h4, h5, h6⟩ := h
  unfold gAt
  split
  · by_cases h0 : us = 0
    · have := h3.mp h0; omega
    · have := h4 (by omega); omega
  · exact (h5 (i - 1) (by omega)).2.1
theorem gEn_le {sz st us : Nat} {pl ln : Nat → Nat} (h : wfB sz st us pl ln) {i : Nat} (hi : i ≤ us) : gEn sz us pl i ≤ sz := by
  obtain ⟨h1, h2, h3, h4, h5, h6⟩ := h
  unfold gEn
  split
  · exact Nat.le_refl _
  · have := h5 i (by omega); omega
theorem gap_le {sz st us : Nat} {pl ln : Nat → Nat} (h : wfB sz st us pl ln) {i : Nat} (hi : i ≤ us) (h0 : 0 < us) : gAt st pl ln i ≤ gEn sz us pl i := by
  by_cases hu : i = us
  · have h1 := gAt_le h hi
    unfold gEn; rw [if_pos hu]; exact h1
  · obtain ⟨h1, h2, h3, h4, h5, h6⟩ := h
    unfold gAt gEn
    rw [if_neg hu]
    split
    · exact (h5 i (by omega)).2.2
    · have h7 := h6 (i - 1) (by omega)
      rw [show i - 1 + 1 = i by omega] at h7
      exact h7
-- promise 9: block
def bkR (sz st us : Nat) (pl ln : Nat → Nat) (p q : Int32) : Int32 := if p < 0 ∨ ¬ cl p < us ∨ q < 0 ∨ 2 < cl q then (-11) else if cl q = 0 then nI (pl (cl p)) else if cl q = 1 then nI (ln (cl p)) else nI (gEn sz us pl (cl p + 1) - gAt st pl ln (cl p + 1))
theorem bkR_w {sz st us : Nat} {pl ln : Nat → Nat} {p q : Int32} (h : p < 0 ∨ ¬ cl p < us ∨ q < 0 ∨ 2 < cl q) : bkR sz st us pl ln p q = (-11) := if_pos h
theorem bkR_ok {sz st us : Nat} {pl ln : Nat → Nat} {x y : Nat} (hx : x < 2 ^ 31) (hy : y < 2 ^ 31) (h1 : x < us) (h2 : y ≤ 2) : bkR sz st us pl ln (nI x) (nI y) = if y = 0 then nI (pl x) else if y = 1 then nI (ln x) else nI (gEn sz us pl (x + 1) - gAt st pl ln (x + 1)) := by
  have e1 : cl (nI x) = x := nI_clamp hx
  have e2 : cl (nI y) = y := nI_clamp hy
  unfold bkR
  rw [e1, e2, if_neg]
  rintro (h | h | h | h)
  · exact nI_pos hx h
  · omega
  · exact nI_pos hy h
  · omega
-- promise 7: make
/-- the first GAP with n bytes, or the last -/
def fitF (sz st us : Nat) (pl ln : Nat → Nat) (n : Nat) : Nat → Nat → Nat
  | 0, _ => us
  | f + 1, i => if n ≤ gEn sz us pl i - gAt st pl ln i then i else fitF sz st us pl ln n f (i + 1)
def fit (sz st us : Nat) (pl ln : Nat → Nat) (n : Nat) : Nat := fitF sz st us pl ln n us 0
theorem fitF_step {sz st us : Nat} {pl ln : Nat → Nat} {n i : Nat} (h : i < us) : fitF sz st us pl ln n (us - i) i = if n ≤ gEn sz us pl i - gAt st pl ln i then i else fitF sz st us pl ln n (us - (i + 1)) (i + 1) := by
  obtain ⟨k, hk⟩ : ∃ k, us - i = k + 1 := ⟨us - i - 1, by omega⟩
  rw [hk, show us - (i + 1) = k by omega]
  rfl
theorem fitF_end {sz st us : Nat} {pl ln : Nat → Nat} {n i : Nat} (h : us ≤ i) : fitF sz st us pl ln n (us - i) i = us := by
  rw [show us - i = 0 by omega]; rfl
theorem fitF_le (sz st us : Nat) (pl ln : Nat → Nat) (n : Nat) : ∀ f i, i + f ≤ us → fitF sz st us pl ln n f i ≤ us
  | 0, i, _ => Nat.le_refl _
  | f + 1, i, h => by
    unfold fitF
    split
    · omega
    · exact fitF_le sz st us pl ln n f (i + 1) (by omega)
theorem fit_le (sz st us : Nat) (pl ln : Nat → Nat) (n : Nat) : fit sz st us pl ln n ≤ us := fitF_le _ _ _ _ _ _ _ _ (by omega)
theorem fitF_gap {sz st us : Nat} {pl ln : Nat → Nat} {n : Nat} : ∀ f i, i + f = us → fitF sz st us pl ln n f i < us → n ≤ gEn sz us pl (fitF sz st us pl ln n f i) - gAt st pl ln (fitF sz st us pl ln n f i)
  | 0, i, _, h => absurd h (by unfold fitF; omega)
  | f + 1, i, h, hl => by
    unfold fitF at hl ⊢
    split
    · assumption
    · rename_i hn
      rw [if_neg hn] at hl
      exact fitF_gap f (i + 1) (by omega) hl
theorem fit_gap {sz st us : Nat} {pl ln : Nat → Nat} {n : Nat} (h : fit sz st us pl ln n < us) : n ≤ gEn sz us pl (fit sz st us pl ln n) - gAt st pl ln (fit sz st us pl ln n) := fitF_gap us 0 (by omega) h
/-- the place that MAKING takes -/
def mkP (sz st us : Nat) (pl ln : Nat → Nat) (n : Nat) : Nat := if us = 0 then sz else gAt st pl ln (fit sz st us pl ln n)
def mkR (sz st us : Nat) (pl ln : Nat → Nat) (p : Int32) : Int32 := if p < nI 1 then (-11) else if us = 64 then nI 0 else if 8192 < mkP sz st us pl ln (cl p) + cl p then nI 0 else nI (mkP sz st us pl ln (cl p))
abbrev mkO (sz st us : Nat) (pl ln : Nat → Nat) (p : Int32) : Prop := ¬ p < nI 1 ∧ ¬ us = 64 ∧ ¬ 8192 < mkP sz st us pl ln (cl p) + cl p
/-- SIZE, greater where the BLOCK asks for it -/
def mkG (sz e : Nat) : Nat := if sz < e then (e + 255) / 256 * 256 else sz
def shf (f : Nat → Nat) (k us : Nat) : Nat → Nat := fun j => if k < j ∧ j ≤ us then f (j - 1) else f j
def ins (f : Nat → Nat) (i us v : Nat) : Nat → Nat := va_up (shf f i us) i v
theorem shf_0 (f : Nat → Nat) (us : Nat) : shf f us us = f := by
  funext j; unfold shf; rw [if_neg (by omega)]
theorem shf_s {f : Nat → Nat} {k us : Nat} (h : 1 ≤ k) (h2 : k ≤ us) : va_up (shf f k us) k (shf f k us (k - 1)) = shf f (k - 1) us := by
  funext j; unfold va_up shf
  by_cases hj : j = k
  · rw [if_pos hj]
    show (if k < k - 1 ∧ k - 1 ≤ us then f (k - 1 - 1) else f (k - 1)) = _
    rw [if_neg (by omega), if_pos (by omega), hj]
  · rw [if_neg hj]
    show (if k < j ∧ j ≤ us then f (j - 1) else f j) = _
    by_cases h3 : k < j ∧ j ≤ us
    · rw [if_pos h3, if_pos (by omega)]
    · rw [if_neg h3, if_neg (by omega)]
def mkZ (sz st us : Nat) (pl ln : Nat → Nat) (p : Int32) : Nat := if mkO sz st us pl ln p then mkG sz (mkP sz st us pl ln (cl p) + cl p) else sz
def mkS (sz st us : Nat) (pl ln : Nat → Nat) (p : Int32) : Nat := if mkO sz st us pl ln p ∧ us = 0 then sz else st
def mkU (sz st us : Nat) (pl ln : Nat → Nat) (p : Int32) : Nat := if mkO sz st us pl ln p then us + 1 else us
def mkM (sz st us : Nat) (pl ln : Nat → Nat) (mem : Nat → Nat) (p : Int32) : Nat → Nat := if mkO sz st us pl ln p then zr mem sz (mkG sz (mkP sz st us pl ln (cl p) + cl p) - sz) else mem
def mkQ (sz st us : Nat) (pl ln : Nat → Nat) (p : Int32) : Nat → Nat := if mkO sz st us pl ln p then ins pl (fit sz st us pl ln (cl p)) us (mkP sz st us pl ln (cl p)) else pl
def mkL (sz st us : Nat) (pl ln : Nat → Nat) (p : Int32) : Nat → Nat := if mkO sz st us pl ln p then ins ln (fit sz st us pl ln (cl p)) us (cl p) else ln
-- promise 8: free
def fndF (us : Nat) (pl : Nat → Nat) (p : Int32) : Nat → Nat → Nat
  | 0, _ => us
  | f + 1, i => if nI (pl i) = p then i else fndF us pl p f (i + 1)
def fnd (us : Nat) (pl : Nat → Nat) (p : Int32) : Nat := fndF us pl p us 0
theorem fndF_step {us : Nat} {pl : Nat → Nat} {p : Int32} {i : Nat} (h : i < us) : fndF us pl p (us - i) i = if nI (pl i) = p then i else fndF us pl p (us - (i + 1)) (i + 1) := by
  obtain ⟨k, hk⟩ : ∃ k, us - i = k + 1 := ⟨us - i - 1, by omega⟩
  rw [hk, show us - (i + 1) = k by omega]
  rfl
theorem fndF_end {us : Nat} {pl : Nat → Nat} {p : Int32} {i : Nat} (h : us ≤ i) : fndF us pl p (us - i) i = us := by
  rw [show us - i = 0 by omega]; rfl
def frR (us : Nat) (pl ln : Nat → Nat) (p : Int32) : Int32 := if fnd us pl p = us then (-11) else nI (ln (fnd us pl p))
def dlf (f : Nat → Nat) (i k : Nat) : Nat → Nat := fun j => if i ≤ j ∧ j < k then f (j + 1) else f j
theorem dlf_0 (f : Nat → Nat) (i : Nat) : dlf f i i = f := by
  funext j; unfold dlf; rw [if_neg (by omega)]
theorem dlf_s {f : Nat → Nat} {i k : Nat} (h : i ≤ k) : va_up (dlf f i k) k (dlf f i k (k + 1)) = dlf f i (k + 1) := by
  funext j; unfold va_up dlf
  by_cases hj : j = k
  · rw [if_pos hj]
    show (if i ≤ k + 1 ∧ k + 1 < k then f (k + 1 + 1) else f (k + 1)) = _
    rw [if_neg (by omega), if_pos (by omega), hj]
  · rw [if_neg hj]
    show (if i ≤ j ∧ j < k then f (j + 1) else f j) = _
    by_cases h3 : i ≤ j ∧ j < k
    · rw [if_pos h3, if_pos (by omega)]
    · rw [if_neg h3, if_neg (by omega)]
def frU (us : Nat) (pl : Nat → Nat) (p : Int32) : Nat := if fnd us pl p = us then us else us - 1
def frZ (sz st us : Nat) (pl : Nat → Nat) (p : Int32) : Nat := if fnd us pl p = us then sz else if us - 1 = 0 then st else sz
def frS (st us : Nat) (pl : Nat → Nat) (p : Int32) : Nat := if fnd us pl p = us then st else if us - 1 = 0 then 0 else st
def frA (us : Nat) (pl : Nat → Nat) (f : Nat → Nat) (p : Int32) : Nat → Nat := if fnd us pl p = us then f else dlf f (fnd us pl p) (us - 1)
theorem ge1 {p : Int32} (h : nI 1 ≤ p) : ∃ n : Nat, n < 2 ^ 31 ∧ p = nI n ∧ 1 ≤ n := by
  obtain ⟨n, hn, rfl⟩ := nI_of (x := p) (fun q => absurd (Int32.lt_of_le_of_lt h q) (by decide))
  exact ⟨n, hn, rfl, (nI_leI (by omega) hn).mp h⟩
