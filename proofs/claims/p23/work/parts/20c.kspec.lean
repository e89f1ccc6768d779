theorem sub32 {a b : Nat} (ha : a ≤ 8192) (hb : b < 2 ^ 31) : (nI a - nI b).toInt = (a : Int) - b := by
  rw [Int32.toInt_sub, nI_toInt (by omega), nI_toInt hb, Int.bmod_def]
  split <;> omega
theorem has_lt {x n sz : Nat} (hx : x < 2 ^ 62) (hn : n < 2 ^ 31) (hs : sz ≤ 8192) : (nI sz - nI n).toInt64 < lN x ↔ sz < x + n := by
  rw [Int64.lt_iff_toInt_lt, Int32.toInt_toInt64, sub32 hs hn, pk_lT (by omega)]
  omega
/-- where GAP i begins, also without THE HEAP -/
def gB (sz st us : Nat) (pl ln : Nat → Nat) (i : Nat) : Nat := if i = 0 then (if us = 0 then sz else st) else pl (i - 1) + ln (i - 1)
theorem gB_at {sz st us : Nat} {pl ln : Nat → Nat} {i : Nat} (h : 0 < us) : gB sz st us pl ln i = gAt st pl ln i := by
  unfold gB gAt; split
  · rw [if_neg (by omega)]
  · rfl
theorem gB_le {sz st us : Nat} {pl ln : Nat → Nat} (h : wfB sz st us pl ln) {i : Nat} (hi : i ≤ us) : gB sz st us pl ln i ≤ gEn sz us pl i := by
  by_cases h0 : 0 < us
  · rw [gB_at h0]; exact gap_le h hi h0
  · unfold gB gEn; rw [if_pos (by omega), if_pos (by omega), if_pos (by omega)]; exact Nat.le_refl _
theorem mmin {x y : Nat} (hx : x < 2 ^ 31) (hy : y < 2 ^ 31) : (if nI y < nI x then nI y else nI x) = nI (if y < x then y else x) := by
  by_cases h : y < x
  · rw [if_pos ((nI_ltI hy hx).mpr h), if_pos h]
  · rw [if_neg (fun q => h ((nI_ltI hy hx).mp q)), if_neg h]
def gpk (sz st us : Nat) (pl ln : Nat → Nat) : Nat → Nat
  | 0 => 0
  | n + 1 => gpk sz st us pl ln n + (if 0 < gEn sz us pl n - gB sz st us pl ln n then 1 else 0)
theorem gpk_s (sz st us : Nat) (pl ln : Nat → Nat) (n : Nat) : gpk sz st us pl ln (n + 1) = gpk sz st us pl ln n + (if 0 < gEn sz us pl n - gB sz st us pl ln n then 1 else 0) := rfl
theorem gpk_gpn {sz st us : Nat} {pl ln : Nat → Nat} (h0 : 0 < us) : ∀ n, gpk sz st us pl ln n = gpn sz st us pl ln n
  | 0 => rfl
  | n + 1 => by
    rw [gpk_s, gpn_s, gpk_gpn h0 n, gB_at h0]
    congr 1
    by_cases h : gAt st pl ln n < gEn sz us pl n
    · rw [if_pos h, if_pos (by omega)]
    · rw [if_neg h, if_neg (by omega)]
theorem gpk_all {sz st us : Nat} {pl ln : Nat → Nat} (h : wfB sz st us pl ln) : gpk sz st us pl ln (us + 1) = gaps sz st us pl ln := by
  unfold gaps
  by_cases h0 : us = 0
  · subst h0
    rw [if_pos rfl, gpk_s]
    unfold gEn gB
    rw [if_pos rfl, if_pos rfl, if_pos rfl, Nat.sub_self, if_neg (Nat.lt_irrefl _)]
    rfl
  · rw [if_neg h0, gpk_gpn (by omega)]
def csM (mem : Nat → Nat) (sz y : Nat) : Nat → Nat := if y < sz then zr mem y (sz - y) else mem
theorem cpy_shf {f : Nat → Nat} {i us : Nat} (h : i ≤ us) : va_cpy f f i (i + 1) (us - i) = shf f i us := by
  funext j; unfold va_cpy shf
  by_cases h1 : i < j ∧ j ≤ us
  · rw [if_pos (by omega), if_pos h1, show i + (j - (i + 1)) = j - 1 by omega]
  · rw [if_neg (by omega), if_neg h1]
theorem cpy_dlf {f : Nat → Nat} {i us : Nat} (h : i < us) : va_cpy f f (i + 1) i (us - i - 1) = dlf f i (us - 1) := by
  funext j; unfold va_cpy dlf
  by_cases h1 : i ≤ j ∧ j < us - 1
  · rw [if_pos (by omega), if_pos h1, show i + 1 + (j - i) = j + 1 by omega]
  · rw [if_neg (by omega), if_neg h1]
theorem i2b_byt (v : Int32) : v.toInt8.toInt32 = sb_b (byt v 0) := by
  unfold sb_b byt
  apply Int32.toBitVec_inj.1
  rw [Int8.toBitVec_toInt32, Int8.toBitVec_toInt32, Int32.toBitVec_toInt8, Int32.toBitVec_toInt8]
  congr 1
  apply BitVec.eq_of_toNat_eq
  rw [BitVec.signExtend_eq_setWidth_of_le _ (by decide), BitVec.signExtend_eq_setWidth_of_le _ (by decide), BitVec.toNat_setWidth, BitVec.toNat_setWidth]
  show v.toBitVec.toNat % 2 ^ 8 = (nI (v.toBitVec.toNat / 256 ^ 0 % 256)).toBitVec.toNat % 2 ^ 8
  rw [pk_tn (by omega)]
  omega
theorem ush8 (t : Int32) : ((t.toUInt32 >>> ((nI 8).toUInt32 &&& Int32.toUInt32 31)).toInt32).toBitVec.toNat = t.toBitVec.toNat / 256 := pk_ushr t (nI 8) 8 (by decide)
def wrH (f : Nat → Nat) (x k : Nat) (v : Int32) (e : Nat) : Nat → Nat := fun j => if x + e ≤ j ∧ j < x + k then byt v (k - 1 - (j - x)) else f j
theorem wrH_0 (f : Nat → Nat) (x k : Nat) (v : Int32) : wrH f x k v k = f := by
  funext j; unfold wrH; rw [if_neg (by omega)]
theorem wrH_end (f : Nat → Nat) (x k : Nat) (v : Int32) : wrH f x k v 0 = wr f x k v k := by
  funext j; unfold wrH wr; rw [Nat.add_zero]
theorem wrH_s {f : Nat → Nat} {x k : Nat} {v : Int32} {e w : Nat} (h : e < k) (hw : byt v (k - 1 - e) = w) : va_up (wrH f x k v (e + 1)) (x + e) w = wrH f x k v e := by
  funext j; unfold va_up wrH
  by_cases h1 : j = x + e
  · rw [if_pos h1, if_pos (by omega), show j - x = e by omega, hw]
  · rw [if_neg h1]
    show (if x + (e + 1) ≤ j ∧ j < x + k then _ else _) = _
    by_cases h2 : x + (e + 1) ≤ j ∧ j < x + k
    · rw [if_pos h2, if_pos (by omega)]
    · rw [if_neg h2, if_neg (by omega)]
theorem byt_sh {v t : Int32} {c : Nat} (h : t.toBitVec.toNat = v.toBitVec.toNat / 256 ^ c) : byt t 0 = byt v c := by
  unfold byt; rw [h, Nat.pow_zero, Nat.div_one]
/-- two States' cells -/
abbrev sw2 (cB cI : ClassId) (b d : Nat → Nat) (sz st us : Nat) (mem pl ln : Nat → Nat) (sz2 st2 us2 : Nat) (mem2 pl2 ln2 : Nat → Nat) : va_W :=
  [(b 0, .inr (2, [.ref (b 1), .ref (b 2), .ref (b 3), .int (nI sz), .int (nI st), .int (nI us)])), (b 1, .inl (cB, 8192, .inl (bf mem))), (b 2, .inl (cI, 64, .inl (nf pl))), (b 3, .inl (cI, 64, .inl (nf ln))),
   (d 0, .inr (2, [.ref (d 1), .ref (d 2), .ref (d 3), .int (nI sz2), .int (nI st2), .int (nI us2)])), (d 1, .inl (cB, 8192, .inl (bf mem2))), (d 2, .inl (cI, 64, .inl (nf pl2))), (d 3, .inl (cI, 64, .inl (nf ln2)))]
def slk (sz st us : Nat) (mem pl ln : Nat → Nat) (sz2 st2 us2 : Nat) (mem2 pl2 ln2 : Nat → Nat) : Prop := (sz = sz2 ∧ st = st2 ∧ us = us2) ∧ (∀ j, j < us → pl j = pl2 j ∧ ln j = ln2 j) ∧ ∀ j, j < sz → mem j = mem2 j
theorem sb_mod (v : Nat) : (nI v).toInt8.toInt32 = sb_b (v % 256) := by
  rw [i2b_byt]
  unfold byt
  rw [Nat.pow_zero, Nat.div_one]
  congr 1
  show (BitVec.ofNat 32 v).toNat % 256 = v % 256
  rw [BitVec.toNat_ofNat]
  omega
theorem zr_lt {f : Nat → Nat} {x n m : Nat} (h : ∀ j, f j < m) (j : Nat) : zr f x n j < m := by
  unfold zr; split
  · have := h j; omega
  · exact h j
