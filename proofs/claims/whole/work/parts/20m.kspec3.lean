/-- the GlulxHeap object itself -/
abbrev gw (h kq : Nat) (sp : Option Nat) (k o b : Nat → Nat) (kp ga gl : Nat) : va_W := [(h, .inr (3, [.ref kq, .ref (k 0), .ref (o 0), .ref (b 0), va_rf sp, .int (nI kp), .int (nI ga), .int (nI gl)]))]
theorem mkP_gB {sz st us : Nat} {pl ln : Nat → Nat} (n : Nat) : mkP sz st us pl ln n = gB sz st us pl ln (fit sz st us pl ln n) := by
  unfold mkP
  by_cases h : us = 0
  · have h1 := fit_le sz st us pl ln n
    unfold gB; rw [if_pos h, if_pos (by omega), if_pos h]
  · rw [if_neg h, gB_at (by omega)]
def frM (sz st us : Nat) (pl mem : Nat → Nat) (p : Int32) : Nat → Nat := if fnd us pl p = us then mem else if us - 1 = 0 then csM mem sz st else mem
def rzC (sz us : Nat) (mem : Nat → Nat) (p : Int32) : Nat → Nat := if rzO us p then csM mem sz (cl p) else mem
