theorem sub32 {a b : Nat} (ha : a ≤ 8192) (hb : b < 2 ^ 31) : (nI a - nI b).toInt = (a : Int) - b := by
  rw [Int32.toInt_sub, nI_toInt (by omega), nI_toInt hb, Int.bmod_def]
  split <;> omega
theorem has_lt {x n sz : Nat} (hx : x < 2 ^ 62) (hn : n < 2 ^ 31) (hs : sz ≤ 8192) : (nI sz - nI n).toInt64 < lN x ↔ sz < x + n := by
  rw [Int64.lt_iff_toInt_lt, Int32.toInt_toInt64, sub32 hs hn, pk_lT (by omega)]
  omega
/-- where GAP i begins, also without THE HEAP -/
def gB (sz st us : Nat) (pl ln : Nat → Nat) (i : Nat) : Nat := if i = 0 then (if us = 0 then sz else st) else pl (i - 1) + ln (i - 1)
theorem gB_at {sz st us : Nat} {pl ln : Nat → Nat} {i : Nat} (h : 0 < us) : gB sz st us pl ln i = gAt st pl ln i := by
  unfold gB gAt; split
  · rw [if_neg (by omega)]
  · rfl
theorem gB_le {sz st us : Nat} {pl ln : Nat → Nat} (h : wfB sz st us pl ln) {i : Nat} (hi : i ≤ us) : gB sz st us pl ln i ≤ gEn sz us pl i := by
  by_cases h0 : 0 < us
  · rw [gB_at h0]; exact gap_le h hi h0
  · unfold gB gEn; rw [if_pos (by omega), if_pos (by omega), if_pos (by omega)]; exact Nat.le_refl _
theorem mmin {x y : Nat} (hx : x < 2 ^ 31) (hy : y < 2 ^ 31) : (if nI y < nI x then nI y else nI x) = nI (if y < x then y else x) := by
  by_cases h : y < x
  · rw [if_pos ((nI_ltI hy hx).mpr h), if_pos h]
  · rw [if_neg (fun q => h ((nI_ltI hy hx).mp q)), if_neg h]
def gpk (sz st us : Nat) (pl ln : Nat → Nat) : Nat → Nat
  | 0 => 0
  | n + 1 => gpk sz st us pl ln n + (if 0 < gEn sz us pl n - gB sz st us pl ln n then 1 else 0)
theorem gpk_s (sz st us : Nat) (pl ln : Nat → Nat) (n : Nat) : gpk sz st us pl ln (n + 1) = gpk sz st us pl ln n + (if 0 < gEn sz us pl n - gB sz st us pl ln n then 1 else 0) := rfl
theorem gpk_gpn {sz st us : Nat} {pl ln : Nat → Nat} (h0 : 0 < us) : ∀ n, gpk sz st us pl ln n = gpn sz st us pl ln n
  | 0 => rfl
  | n + 1 => by
    rw [gpk_s, gpn_s, gpk_gpn h0 n, gB_at h0]
    congr 1
    by_cases h : gAt st pl ln n < gEn sz us pl n
    · rw [if_pos h, if_pos (by omega)]
    · rw [if_neg h, if_neg (by omega)]
theorem gpk_all {sz st us : Nat} {pl ln : Nat → Nat} (h : wfB sz st us pl ln) : gpk sz st us pl ln (us + 1) = gaps sz st us pl ln := by
  unfold gaps
  by_cases h0 : us = 0
  · subst h0
    rw [if_pos rfl, gpk_s]
    unfold gEn gB
    rw [if_pos rfl, if_pos rfl, if_pos rfl, Nat.sub_self, if_neg (Nat.lt_irrefl _)]
    rfl
  · rw [if_neg h0, gpk_gpn (by omega)]
