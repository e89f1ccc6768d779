/-- the GlulxHeap object itself -/
abbrev gw (h kq : Nat) (sp : Option Nat) (k o b : Nat → Nat) (kp ga gl : Nat) : va_W := [(h, .inr (3, [.ref kq, .ref (k 0), .ref (o 0), .ref (b 0), va_rf sp, .int (nI kp), .int (nI ga), .int (nI gl)]))]
theorem mkP_gB {sz st us : Nat} {pl ln : Nat → Nat} (n : Nat) : mkP sz st us pl ln n = gB sz st us pl ln (fit sz st us pl ln n) := by
  unfold mkP
  by_cases h : us = 0
  · have h1 := fit_le sz st us pl ln n
    unfold gB; rw [if_pos h, if_pos (by omega), if_pos h]
  · rw [if_neg h, gB_at (by omega)]
def frM (sz st us : Nat) (pl mem : Nat → Nat) (p : Int32) : Nat → Nat := if fnd us pl p = us then mem else if us - 1 = 0 then csM mem sz st else mem
def rzC (sz us : Nat) (mem : Nat → Nat) (p : Int32) : Nat → Nat := if rzO us p then csM mem sz (cl p) else mem
theorem tsw (x : Int32) {n : Nat} (hn : n < 2 ^ 31) : (x.toInt < 0 ∨ (n : Int) < x.toInt) ∨ ∃ j : Nat, j ≤ n ∧ x = nI j := by
  by_cases h0 : x < 0
  · exact Or.inl (Or.inl (Int32.lt_iff_toInt_lt.mp h0))
  · obtain ⟨j, hj, rfl⟩ := nI_of h0
    by_cases h1 : j ≤ n
    · exact Or.inr ⟨j, h1, rfl⟩
    · exact Or.inl (Or.inr (by rw [nI_toInt hj]; omega))
theorem tsw_out {x : Int32} {n : Nat} (h : x.toInt < 0 ∨ (n : Int) < x.toInt) : x < 0 ∨ n < cl x := by
  by_cases h0 : x < 0
  · exact Or.inl h0
  · obtain ⟨j, hj, rfl⟩ := nI_of h0
    rw [nI_toInt hj] at h
    right
    rw [show cl (nI j) = j from nI_clamp hj]
    omega
theorem tsw_ne {x : Int32} {n j : Nat} (h : x.toInt < 0 ∨ (n : Int) < x.toInt) (hj : j ≤ n) (hn : n < 2 ^ 31) : ¬ x = nI j := fun q => by
  rw [q, nI_toInt (by omega)] at h
  omega
theorem and4 {n : Nat} (h : n ≤ 7) : nI n &&& nI 4 = nI (n / 4 * 4) := by
  rcases (show n = 0 ∨ n = 1 ∨ n = 2 ∨ n = 3 ∨ n = 4 ∨ n = 5 ∨ n = 6 ∨ n = 7 by omega) with rfl | rfl | rfl | rfl | rfl | rfl | rfl | rfl <;> decide
def isSr (q s f o : Int32) : Prop := ¬ s < 0 ∧ ¬ f < 0 ∧ ¬ o < 0 ∧ ¬ nI 7 < o ∧ isK (cl o) q
noncomputable def lnKl (kl : Nat) (p2 p3 p4 p5 p6 p7 : Int32) : Nat := if badL p2 p3 p4 p5 p6 p7 then kl else cl p2
theorem isSr_not {q s f o : Int32} (h : ¬ isSr q s f o) : s < 0 ∨ f < 0 ∨ o < 0 ∨ nI 7 < o ∨ isKb (cl o) q = false := by
  by_cases h1 : s < 0
  · exact Or.inl h1
  · by_cases h2 : f < 0
    · exact Or.inr (Or.inl h2)
    · by_cases h3 : o < 0
      · exact Or.inr (Or.inr (Or.inl h3))
      · by_cases h4 : nI 7 < o
        · exact Or.inr (Or.inr (Or.inr (Or.inl h4)))
        · exact Or.inr (Or.inr (Or.inr (Or.inr (isKb_f (fun z => h ⟨h1, h2, h3, h4, z⟩)))))
theorem badL_sr {p2 p3 p4 p5 p6 p7 : Int32} (h : ¬ isSr p2 p3 p6 p7) : badL p2 p3 p4 p5 p6 p7 := by
  rcases isSr_not h with q | q | q | q | q
  · exact Or.inr (Or.inr (Or.inr (Or.inl q)))
  · exact Or.inr (Or.inr (Or.inl q))
  · exact Or.inr (Or.inr (Or.inr (Or.inr (Or.inl q))))
  · exact Or.inr (Or.inr (Or.inr (Or.inr (Or.inr (Or.inl q)))))
  · exact Or.inr (Or.inr (Or.inr (Or.inr (Or.inr (Or.inr q)))))
noncomputable def bnKl (kl : Nat) (p2 p3 p4 p5 p6 p7 : Int32) : Nat := if badB p2 p3 p4 p5 p6 p7 then kl else cl p2
noncomputable def lkKl (kl : Nat) (p2 p3 p4 p5 p6 : Int32) : Nat := if badK p2 p3 p4 p5 p6 then kl else cl p2
theorem badB_sr {p2 p3 p4 p5 p6 p7 : Int32} (h : ¬ isSr p2 p3 p6 p7) : badB p2 p3 p4 p5 p6 p7 := by
  rcases isSr_not h with q | q | q | q | q
  · exact Or.inr (Or.inr (Or.inr (Or.inl q)))
  · exact Or.inr (Or.inr (Or.inl q))
  · exact Or.inr (Or.inr (Or.inr (Or.inr (Or.inl q))))
  · exact Or.inr (Or.inr (Or.inr (Or.inr (Or.inr (Or.inl q)))))
  · exact Or.inr (Or.inr (Or.inr (Or.inr (Or.inr (Or.inr (Or.inr q))))))
theorem badK_sr {p2 p3 p4 p5 p6 : Int32} (h : ¬ isSr p2 p3 p4 p6) : badK p2 p3 p4 p5 p6 := by
  rcases isSr_not h with q | q | q | q | q
  · exact Or.inr (Or.inl q)
  · exact Or.inl q
  · exact Or.inr (Or.inr (Or.inr (Or.inl q)))
  · exact Or.inr (Or.inr (Or.inr (Or.inr (Or.inl (Int32.lt_trans (by decide) q)))))
  · exact Or.inr (Or.inr (Or.inr (Or.inr (Or.inr q))))
theorem half40 {d s : Nat} (h : d < 2 ^ (40 - s)) (hs : s < 40) : d / 2 < 2 ^ (40 - (s + 1)) := by
  have e : 2 ^ (40 - s) = 2 ^ (40 - (s + 1)) * 2 := by rw [← Nat.pow_succ, show (40 - (s + 1)).succ = 40 - s by omega]
  rw [e] at h
  omega
