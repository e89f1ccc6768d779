/-- the law's own rows -/
theorem beg_in : outW (zr zf 0 8192) fst 0 64 = inW 8192 := by
  funext j; unfold outW inW zr
  by_cases h : j < 64
  · rw [if_pos h, if_pos (by omega), Nat.zero_add]
  · rw [if_neg h]
    by_cases h2 : j < 8192
    · rw [if_pos ⟨Nat.zero_le _, by omega⟩, if_pos h2, fst_0 (by omega)]
    · rw [if_neg (fun q => h2 (by omega)), if_neg h2]
theorem inW_lt (n j : Nat) : inW n j < 256 := by
  unfold inW; split
  · exact fst_lt j
  · decide
theorem and31 (v : Int32) : ∃ n, n < 32 ∧ v &&& nI 31 = nI n := by
  refine ⟨(v &&& nI 31).toBitVec.toNat, ?_, ?_⟩
  · show (v.toBitVec &&& (nI 31).toBitVec).toNat < 32
    rw [BitVec.toNat_and]
    exact Nat.lt_of_le_of_lt Nat.and_le_right (by decide)
  · apply Int32.toBitVec_inj.mp
    show _ = BitVec.ofNat 32 _
    rw [BitVec.ofNat_toNat, BitVec.setWidth_eq]
theorem gt8 {i L : Nat} (hi : i < 2 ^ 30) (hL : L < 2 ^ 30) : nI L - nI 8 < nI i ↔ L < i + 8 := by
  by_cases h : 8 ≤ L
  · rw [pk_sub h, nI_ltI (by omega) (by omega)]
    omega
  · refine ⟨fun _ => by omega, fun _ => ?_⟩
    refine Int32.lt_of_lt_of_le ?_ (nI_pos' (by omega))
    rcases (show L = 0 ∨ L = 1 ∨ L = 2 ∨ L = 3 ∨ L = 4 ∨ L = 5 ∨ L = 6 ∨ L = 7 by omega) with rfl | rfl | rfl | rfl | rfl | rfl | rfl | rfl <;> decide
theorem Pre_len {c1 c2 : Nat} {d1 d2 : Nat → Nat} {L : List Nat} (h1 : Pre c1 d1 L) (h2 : Pre c2 d2 L) : c1 = c2 := h1.1.trans h2.1.symm
theorem rdKS_00 (m : Nat → Nat) : rdKS 0 zf m = .inl 0 := rdKS_h (by unfold hdH; rw [if_pos (by decide)])
theorem rdS_00 : rdS 0 zf = .inl 0 := by
  unfold rdS
  rw [show hdS 0 zf = some 0 by unfold hdS; rw [if_pos (by decide)]]
theorem wfB_00 : wfB 1024 0 0 zf zf := ⟨by decide, by decide, by decide, fun h => absurd h (by decide), fun i h => absurd h (by omega), fun i h => absurd h (by omega)⟩
theorem zf_lt (n : Nat) (hn : 0 < n) (j : Nat) : zf j < n := hn
