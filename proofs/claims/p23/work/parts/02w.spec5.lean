-- CODE
/-- the first cs places of cd are the list L -/
def Pre (cs : Nat) (cd : Nat → Nat) (L : List Nat) : Prop := cs = L.length ∧ ∀ j, j < cs → cd j = L.getD j 0
theorem Pre_0 (cd : Nat → Nat) : Pre 0 cd [] := ⟨rfl, fun j h => absurd h (Nat.not_lt_zero _)⟩
theorem Pre_put {cs : Nat} {cd : Nat → Nat} {L : List Nat} (h : Pre cs cd L) (v : Nat) : Pre (cs + 1) (va_up cd cs v) (L ++ [v]) := by
  obtain ⟨h1, h2⟩ := h
  refine ⟨by rw [List.length_append, h1]; rfl, fun j hj => ?_⟩
  unfold va_up
  by_cases hc : j = cs
  · rw [if_pos hc, hc, h1, List.getD_eq_getElem?_getD, List.getElem?_append_right (Nat.le_refl _), Nat.sub_self]; rfl
  · rw [if_neg hc, h2 j (by omega), List.getD_eq_getElem?_getD, List.getD_eq_getElem?_getD, List.getElem?_append_left (by omega)]
def twoL (v : Nat) : List Nat := [v / 2 ^ 8 % 256, v % 256]
theorem Pre_two {cs : Nat} {cd : Nat → Nat} {L : List Nat} (h : Pre cs cd L) (v : Nat) : Pre (cs + 1 + 1) (va_up (va_up cd cs (v / 2 ^ 8 % 256)) (cs + 1) (v % 256)) (L ++ twoL v) := by
  have h1 := Pre_put (Pre_put h (v / 2 ^ 8 % 256)) (v % 256)
  rw [List.append_assoc] at h1
  exact h1
theorem up_lt {f : Nat → Nat} {k v m : Nat} (h : ∀ j, f j < m) (hv : v < m) (j : Nat) : va_up f k v j < m := by
  unfold va_up; split
  · exact hv
  · exact h j
def blkL (pl ln : Nat → Nat) : Nat → List Nat
  | 0 => []
  | n + 1 => blkL pl ln n ++ (twoL (pl n) ++ twoL (ln n))
theorem blkL_len (pl ln : Nat → Nat) : ∀ n, (blkL pl ln n).length = 4 * n
  | 0 => rfl
  | n + 1 => by
    show (blkL pl ln n ++ (twoL (pl n) ++ twoL (ln n))).length = _
    rw [List.length_append, blkL_len pl ln n]
    show 4 * n + 4 = _
    omega
/-- a byte xor that of FIRST -/
def dif (mem : Nat → Nat) (i : Nat) : Nat := mem i ^^^ fst i
theorem dif_lt {mem : Nat → Nat} (h : ∀ j, mem j < 256) (i : Nat) : dif mem i < 256 := Nat.xor_lt_two_pow (n := 8) (h i) (fst_lt i)
theorem dif_0 {mem : Nat → Nat} {i : Nat} : dif mem i = 0 ↔ mem i = fst i := by
  unfold dif
  constructor
  · intro h
    have h1 : (mem i ^^^ fst i) ^^^ fst i = mem i := by rw [Nat.xor_assoc, Nat.xor_self, Nat.xor_zero]
    rw [h, Nat.zero_xor] at h1
    exact h1.symm
  · intro h; rw [h, Nat.xor_self]
/-- where the bytes end that are not as at first, below n -/
def endF (d : Nat → Nat) : Nat → Nat
  | 0 => 0
  | n + 1 => if d n = 0 then endF d n else n + 1
theorem endF_le (d : Nat → Nat) : ∀ n, endF d n ≤ n
  | 0 => Nat.le_refl _
  | n + 1 => by
    unfold endF; split
    · exact Nat.le_succ_of_le (endF_le d n)
    · exact Nat.le_refl _
theorem endF_ne (d : Nat → Nat) : ∀ n, 0 < endF d n → d (endF d n - 1) ≠ 0
  | 0, h => absurd h (Nat.lt_irrefl _)
  | n + 1, h => by
    unfold endF at h ⊢
    split
    · rename_i h0
      rw [if_pos h0] at h
      exact endF_ne d n h
    · assumption
/-- how long the row of 0s at i is, 256 at most, below en -/
def rowF (d : Nat → Nat) (en i : Nat) : Nat → Nat → Nat
  | 0, n => n
  | f + 1, n => if i + n < en ∧ d (i + n) = 0 then rowF d en i f (n + 1) else n
def rowN (d : Nat → Nat) (en i : Nat) : Nat := rowF d en i 256 0
theorem rowF_s {d : Nat → Nat} {en i n : Nat} (h : n < 256) : rowF d en i (256 - n) n = if i + n < en ∧ d (i + n) = 0 then rowF d en i (256 - (n + 1)) (n + 1) else n := by
  obtain ⟨f, hf⟩ : ∃ f, 256 - n = f + 1 := ⟨256 - n - 1, by omega⟩
  rw [hf, show 256 - (n + 1) = f by omega]
  rfl
theorem rowF_ge (d : Nat → Nat) (en i : Nat) : ∀ f n, n ≤ rowF d en i f n
  | 0, n => Nat.le_refl _
  | f + 1, n => by
    unfold rowF; split
    · exact Nat.le_trans (Nat.le_succ _) (rowF_ge d en i f (n + 1))
    · exact Nat.le_refl _
theorem rowN_pos {d : Nat → Nat} {en i : Nat} (h : i < en) (h0 : d i = 0) : 1 ≤ rowN d en i := by
  show 1 ≤ rowF d en i (255 + 1) 0
  unfold rowF
  rw [if_pos (by rw [Nat.add_zero]; exact ⟨h, h0⟩)]
  exact rowF_ge d en i 255 (0 + 1)
/-- the bytes from i on, as CODE tells them -/
def encF (d : Nat → Nat) (en i : Nat) : List Nat :=
  if h : i < en then (if h0 : d i = 0 then 0 :: (rowN d en i - 1) :: encF d en (i + rowN d en i) else d i :: encF d en (i + 1)) else []
termination_by en - i
decreasing_by
  · have := rowN_pos h h0; omega
  · omega
def wcode (sz st us : Nat) (pl ln mem : Nat → Nat) : List Nat := twoL sz ++ (twoL st ++ (twoL us ++ (blkL pl ln us ++ encF (dif mem) (endF (dif mem) sz) 0)))
theorem xorN (a b : Nat) : nI a ^^^ nI b = nI (a ^^^ b) := nx_xor a b
/-- one below e, -1 at 0 -/
def lst (e : Nat) : Int32 := nI e - nI 1
theorem lst_s (e : Nat) : lst (e + 1) = nI e := by
  show nI (e + 1) - nI 1 = nI e
  exact pk_sub (a := e + 1) (b := 1) (by omega)
theorem lst_0 : lst 0 = (-1) := by decide
theorem lst_dec (e : Nat) : nI e + Int32.ofInt (-1) = lst e := by
  show nI e + Int32.ofInt (-1) = nI e - nI 1
  rw [Int32.sub_eq_add_neg]
  rfl
theorem m1_lt {n : Nat} (h : n < 2 ^ 31) : (-1) < nI n := by
  rw [Int32.lt_iff_toInt_lt, nI_toInt h]
  have : (-1 : Int32).toInt = -1 := by decide
  omega
theorem encF_e {d : Nat → Nat} {en i : Nat} (h : en ≤ i) : encF d en i = [] := by rw [encF, dif_neg (by omega)]
theorem encF_n {d : Nat → Nat} {en i : Nat} (h : i < en) (h0 : ¬ d i = 0) : encF d en i = d i :: encF d en (i + 1) := by rw [encF, dif_pos h, dif_neg h0]
theorem encF_z {d : Nat → Nat} {en i n : Nat} (h : i < en) (h0 : d i = 0) (hn : rowN d en i = n) : encF d en i = 0 :: (n - 1) :: encF d en (i + n) := by rw [encF, dif_pos h, dif_pos h0, hn]
theorem endF_s (d : Nat → Nat) (n : Nat) : endF d (n + 1) = if d n = 0 then endF d n else n + 1 := rfl
