/-- what a byte is at first -/
def fst (i : Nat) : Nat := if i < 64 then 7 * i % 256 else 0
theorem fst_lt (i : Nat) : fst i < 256 := by unfold fst; split <;> omega
theorem fst_0 {i : Nat} (h : 64 ≤ i) : fst i = 0 := by unfold fst; rw [if_neg (by omega)]
/-- the number of k bytes at x, the highest first -/
def num (f : Nat → Nat) (x : Nat) : Nat → Nat
  | 0 => 0
  | k + 1 => num f x k * 256 + f (x + k)
theorem num_lt {f : Nat → Nat} {x : Nat} (h : ∀ j, f j < 256) : ∀ k, num f x k < 256 ^ k
  | 0 => by simp [num]
  | k + 1 => by
    have h1 := num_lt (x := x) h k
    have h2 := h (x + k)
    show num f x k * 256 + f (x + k) < 256 ^ k * 256
    omega
theorem num_lt4 {f : Nat → Nat} {x k : Nat} (h : ∀ j, f j < 256) (hk : k ≤ 4) : num f x k < 2 ^ 32 := by
  have h1 := num_lt (x := x) h k
  rcases (show k = 0 ∨ k = 1 ∨ k = 2 ∨ k = 3 ∨ k = 4 by omega) with rfl | rfl | rfl | rfl | rfl <;> omega
theorem or8 {a b : Nat} (hb : b < 256) : nI (a * 256) ||| nI b = nI (a * 256 + b) := by
  have h : a * 256 ||| b = a * 256 + b := by
    rw [show a * 256 = a <<< 8 by rw [Nat.shiftLeft_eq], Nat.shiftLeft_add_eq_or_of_lt (by omega)]
  rw [← h]
  apply Int32.toBitVec_inj.1
  show BitVec.ofNat 32 (a * 256) ||| BitVec.ofNat 32 b = BitVec.ofNat 32 (a * 256 ||| b)
  apply BitVec.eq_of_getLsbD_eq
  intro i hi
  simp [hi]
theorem shl8 {a : Nat} (h : a < 2 ^ 20) : nI a <<< (nI 8 &&& 31) = nI (a * 256) := pk_shlN (nI 8 &&& 31) 8 (by decide) (by omega)
theorem shl8l (n : Nat) : lN n <<< ((nI 8).toInt64 &&& 63) = lN (n * 256) := wb_shl n (k := 8) (by decide)
theorem or8l {a b : Nat} (hb : b < 256) (ha : a < 2 ^ 50) : lN (a * 256) ||| lN b = lN (a * 256 + b) := g_or (k := 8) (p := 256) (by decide) hb (by omega)
theorem and255 {n : Nat} (h : n < 2 ^ 32) : nI n &&& nI 255 = nI (n % 256) := pk_andN h (m := nI 255) 8 (by decide)
/-- two bytes of CODE as a number -/
def tw (cd : Nat → Nat) (x : Nat) : Nat := cd x * 256 + cd (x + 1)
theorem tw_lt {cd : Nat → Nat} (h : ∀ j, cd j < 256) (x : Nat) : tw cd x < 65536 := by
  have h1 := h x
  have h2 := h (x + 1)
  unfold tw; omega
/-- two rows of k bytes, from place i on: 0 the same, 1 the first is less where they part, 2 it is greater -/
def cmpF (f : Nat → Nat) (x : Nat) (g : Nat → Nat) (k : Nat) : Nat → Nat → Nat
  | 0, _ => 0
  | n + 1, i => if k ≤ i then 0 else if f (x + i) = g i then cmpF f x g k n (i + 1) else if f (x + i) < g i then 1 else 2
def cmpB (f : Nat → Nat) (x : Nat) (g : Nat → Nat) (k : Nat) : Nat := cmpF f x g k k 0
theorem cmpF_end {f : Nat → Nat} {x : Nat} {g : Nat → Nat} {k i n : Nat} (h : k ≤ i) : cmpF f x g k n i = 0 := by
  cases n with
  | zero => rfl
  | succ n => simp [cmpF, h]
theorem cmpF_step {f : Nat → Nat} {x : Nat} {g : Nat → Nat} {k i : Nat} (h : i < k) : cmpF f x g k (k - i) i = if f (x + i) = g i then cmpF f x g k (k - (i + 1)) (i + 1) else if f (x + i) < g i then 1 else 2 := by
  obtain ⟨n, hn⟩ : ∃ n, k - i = n + 1 := ⟨k - i - 1, by omega⟩
  rw [hn, show k - (i + 1) = n by omega]
  show (if k ≤ i then 0 else _) = _
  rw [if_neg (by omega)]
/-- k bytes at x are 0 -/
def allZ (f : Nat → Nat) (x k : Nat) : Prop := ∀ j, j < k → f (x + j) = 0
/-- n bytes from x on become 0 -/
def zr (f : Nat → Nat) (x n : Nat) : Nat → Nat := fun j => if x ≤ j ∧ j < x + n then 0 else f j
theorem zr_0 (f : Nat → Nat) (x : Nat) : zr f x 0 = f := by
  funext j; unfold zr; rw [if_neg (by omega)]
theorem zr_s (f : Nat → Nat) (x n : Nat) : va_up (zr f x n) (x + n) 0 = zr f x (n + 1) := by
  funext j; unfold zr va_up
  by_cases h : j = x + n
  · rw [if_pos h, if_pos (by omega)]
  · rw [if_neg h]
    show (if x ≤ j ∧ j < x + n then 0 else f j) = _
    by_cases h2 : x ≤ j ∧ j < x + n
    · rw [if_pos h2, if_pos (by omega)]
    · rw [if_neg h2, if_neg (by omega)]
theorem zr_step {f : Nat → Nat} {x i : Nat} (h : x ≤ i) : va_up (zr f x (i - x)) i 0 = zr f x (i + 1 - x) := by
  have h1 := zr_s f x (i - x)
  rw [show x + (i - x) = i by omega, show i - x + 1 = i + 1 - x by omega] at h1
  exact h1
/-- where GAP i begins and ends -/
def gAt (st : Nat) (pl ln : Nat → Nat) (i : Nat) : Nat := if i = 0 then st else pl (i - 1) + ln (i - 1)
def gEn (sz us : Nat) (pl : Nat → Nat) (i : Nat) : Nat := if i = us then sz else pl i
