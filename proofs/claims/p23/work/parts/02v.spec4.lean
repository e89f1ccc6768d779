-- promise 13: protect
abbrev pbad (p q : Int32) : Prop := p < 0 ∨ q < 0 ∨ nI 8192 < p ∨ nI 8192 < q
def pcR (p q : Int32) : Int32 := if pbad p q then (-11) else nI 1
def pcA (ga : Nat) (p q : Int32) : Nat := if pbad p q then ga else if cl q = 0 then 0 else cl p
def pcL (gl : Nat) (p q : Int32) : Nat := if pbad p q then gl else cl q
theorem pbad_no {x y : Nat} (hx : x ≤ 8192) (hy : y ≤ 8192) : ¬ pbad (nI x) (nI y) := by
  rintro (h | h | h | h)
  · exact nI_pos (by omega) h
  · exact nI_pos (by omega) h
  · exact absurd ((nI_ltI (by omega) (by omega)).mp h) (by omega)
  · exact absurd ((nI_ltI (by omega) (by omega)).mp h) (by omega)
-- promises 19, 20, 21: code, poke, cut
def cdR (cs : Nat) (cd : Nat → Nat) (p : Int32) : Int32 := if p < 0 ∨ ¬ cl p < cs then (-1) else nI (cd (cl p))
abbrev pkB (cs : Nat) (p q : Int32) : Prop := p < 0 ∨ ¬ cl p < cs ∨ q < 0 ∨ nI 255 < q
def pkR (cs : Nat) (cd : Nat → Nat) (p q : Int32) : Int32 := if pkB cs p q then (-11) else nI (cd (cl p))
def pkC (cs : Nat) (cd : Nat → Nat) (p q : Int32) : Nat → Nat := if pkB cs p q then cd else va_up cd (cl p) (cl q)
theorem pkB_no {cs x y : Nat} (hx : x < 2 ^ 31) (h : x < cs) (hy : y ≤ 255) : ¬ pkB cs (nI x) (nI y) := by
  rintro (q | q | q | q)
  · exact nI_pos hx q
  · rw [show cl (nI x) = x from nI_clamp hx] at q; exact q h
  · exact nI_pos (by omega) q
  · exact absurd ((nI_ltI (by omega) (by omega)).mp q) (by omega)
def ctR (cs : Nat) (p : Int32) : Int32 := if p < 0 ∨ cs < cl p then (-11) else nI (cs - cl p)
def ctS (cs : Nat) (p : Int32) : Nat := if p < 0 ∨ cs < cl p then cs else cl p
-- promises 14 .. 17: states
/-- n places from b on become g's -/
def blkW (f : Nat → Nat) (b : Nat) (g : Nat → Nat) (n : Nat) : Nat → Nat := fun j => if b ≤ j ∧ j < b + n then g (j - b) else f j
theorem blkW_0 (f : Nat → Nat) (b : Nat) (g : Nat → Nat) : blkW f b g 0 = f := by
  funext j; unfold blkW; rw [if_neg (by omega)]
theorem blkW_s {f : Nat → Nat} {b : Nat} {g : Nat → Nat} {n v : Nat} (h : g n = v) : va_up (blkW f b g n) (b + n) v = blkW f b g (n + 1) := by
  funext j; unfold blkW va_up
  by_cases hj : j = b + n
  · rw [if_pos hj, if_pos (by omega), show j - b = n by omega, h]
  · rw [if_neg hj]
    show (if b ≤ j ∧ j < b + n then _ else _) = _
    by_cases h2 : b ≤ j ∧ j < b + n
    · rw [if_pos h2, if_pos (by omega)]
    · rw [if_neg h2, if_neg (by omega)]
theorem blkW_lt {f : Nat → Nat} {b : Nat} {g : Nat → Nat} {n m : Nat} (h1 : ∀ j, f j < m) (h2 : ∀ j, g j < m) (j : Nat) : blkW f b g n j < m := by
  unfold blkW; split
  · exact h2 _
  · exact h1 _
/-- bytes up to SIZE, then 0s -/
def upto (sz : Nat) (mem : Nat → Nat) : Nat → Nat := fun i => if i < sz then mem i else 0
/-- the first n places out of a row from b on -/
def outW (f : Nat → Nat) (g : Nat → Nat) (b n : Nat) : Nat → Nat := fun j => if j < n then g (b + j) else f j
theorem outW_0 (f g : Nat → Nat) (b : Nat) : outW f g b 0 = f := by
  funext j; unfold outW; rw [if_neg (by omega)]
theorem outW_s (f g : Nat → Nat) (b n : Nat) : va_up (outW f g b n) n (g (b + n)) = outW f g b (n + 1) := by
  funext j; unfold outW va_up
  by_cases hj : j = n
  · rw [if_pos hj, if_pos (by omega), hj]
  · rw [if_neg hj]
    show (if j < n then _ else _) = _
    by_cases h2 : j < n
    · rw [if_pos h2, if_pos (by omega)]
    · rw [if_neg h2, if_neg (by omega)]
def bth (sz : Nat) (z : Nat) : Nat := if sz < z then sz else z
abbrev stay (ga gl both i : Nat) : Prop := ga ≤ i ∧ i < ga + gl ∧ i < both
/-- the first n bytes of what comes back -/
def cmW (mem km : Nat → Nat) (b ga gl both n : Nat) : Nat → Nat := fun j => if j < n then (if stay ga gl both j then mem j else km (b + j)) else mem j
theorem cmW_0 (mem km : Nat → Nat) (b ga gl both : Nat) : cmW mem km b ga gl both 0 = mem := by
  funext j; unfold cmW; rw [if_neg (by omega)]
theorem cmW_at (mem km : Nat → Nat) (b ga gl both n : Nat) : cmW mem km b ga gl both n n = mem n := by
  unfold cmW; rw [if_neg (by omega)]
theorem cmW_s {mem km : Nat → Nat} {b ga gl both n v : Nat} (h : (if stay ga gl both n then mem n else km (b + n)) = v) : va_up (cmW mem km b ga gl both n) n v = cmW mem km b ga gl both (n + 1) := by
  funext j; unfold va_up
  by_cases hj : j = n
  · rw [if_pos hj]; unfold cmW; rw [if_pos (show j < n + 1 by omega), hj, h]
  · rw [if_neg hj]; unfold cmW
    by_cases h2 : j < n
    · rw [if_pos h2, if_pos (show j < n + 1 by omega)]
    · rw [if_neg h2, if_neg (show ¬ j < n + 1 by omega)]
/-- whether the present state is the one KEPT as number s -/
def smP (sz st us : Nat) (mem pl ln km ks kt ku kl kn : Nat → Nat) (s : Nat) : Prop := (sz = ks s ∧ st = kt s ∧ us = ku s) ∧ (∀ j, j < sz → mem j = km (8192 * s + j)) ∧ ∀ j, j < us → pl j = kl (64 * s + j) ∧ ln j = kn (64 * s + j)
-- promise 23: told
def sumF (f : Nat → Nat) : Nat → Nat
  | 0 => 0
  | n + 1 => sumF f n + f n
def gpn (sz st us : Nat) (pl ln : Nat → Nat) : Nat → Nat
  | 0 => 0
  | n + 1 => gpn sz st us pl ln n + (if gAt st pl ln n < gEn sz us pl n then 1 else 0)
theorem gpn_s (sz st us : Nat) (pl ln : Nat → Nat) (n : Nat) : gpn sz st us pl ln (n + 1) = gpn sz st us pl ln n + (if gAt st pl ln n < gEn sz us pl n then 1 else 0) := rfl
def gaps (sz st us : Nat) (pl ln : Nat → Nat) : Nat := if us = 0 then 0 else gpn sz st us pl ln (us + 1)
def tdR (sz st us kp ga gl cs : Nat) (pl ln : Nat → Nat) (p : Int32) : Int32 := if p = 0 then nI sz else if p = nI 1 then nI st else if p = nI 2 then nI us else if p = nI 3 then nI (sumF ln us) else if p = nI 4 then nI (gaps sz st us pl ln) else if p = nI 5 then nI kp else if p = nI 6 then nI cs else if p = nI 7 then nI ga else if p = nI 8 then nI gl else (-11)
theorem cmW_lt {mem km : Nat → Nat} {b ga gl both n m : Nat} (h1 : ∀ j, mem j < m) (h2 : ∀ j, km j < m) (j : Nat) : cmW mem km b ga gl both n j < m := by
  unfold cmW; split
  · split
    · exact h1 _
    · exact h2 _
  · exact h1 _
theorem outW_lt {f g : Nat → Nat} {b n m : Nat} (h1 : ∀ j, f j < m) (h2 : ∀ j, g j < m) (j : Nat) : outW f g b n j < m := by
  unfold outW; split
  · exact h2 _
  · exact h1 _
