theorem SR.toM {sz st us : Nat} {mK pK lK mem pl ln mem' pl' ln' : Nat → Nat} (h : SR sz st us mK pK lK mem pl ln) (h1 : ag sz mem' mem) (h2 : ag us pl' pl) (h3 : ag us ln' ln) : SR sz st us mK pK lK mem' pl' ln' := ⟨wfB_c h2 h3 h.1, fun j hj => (h.2.1 j hj).trans (h1 j hj).symm, h.2.2.1, fun j hj => (h.2.2.2.1 j hj).trans (h2 j hj).symm, fun j hj => (h.2.2.2.2 j hj).trans (h3 j hj).symm⟩
theorem SR.toK {sz st us : Nat} {mK pK lK mem pl ln mK' pK' lK' : Nat → Nat} (h : SR sz st us mK pK lK mem pl ln) (h1 : ∀ j, j < 8192 → mK' j = mK j) (h2 : ag us pK' pK) (h3 : ag us lK' lK) : SR sz st us mK' pK' lK' mem pl ln := by
  have h8 := h.sz8
  exact ⟨h.1, fun j hj => (h1 j (by omega)).trans (h.2.1 j hj), fun j q1 q2 => (h1 j q2).trans (h.2.2.1 j q1 q2), fun j hj => (h2 j hj).trans (h.2.2.2.1 j hj), fun j hj => (h3 j hj).trans (h.2.2.2.2 j hj)⟩
/-- a State beside the present one: its places, SIZE, START, USED, rows -/
abbrev SX : Type := (Nat → Nat) × Nat × Nat × Nat × (Nat → Nat) × (Nat → Nat) × (Nat → Nat)
def xW (cB cI : ClassId) (x : Option SX) : va_W := match x with
  | none => []
  | some ⟨d, z, s, u, m, p, l⟩ => sw cB cI d z s u m p l
def xB (x : Option SX) : Prop := match x with
  | none => True
  | some ⟨_, _, _, _, m, p, l⟩ => SB m p l
def xA (x : Option SX) : Option Nat := match x with
  | none => none
  | some ⟨d, _, _, _, _, _, _⟩ => some (d 0)
/-- a State and the one that the reference keeps as number i -/
def xR (x : Option SX) (i : Nat) (km ks kt ku kl kn : Nat → Nat) : Prop := match x with
  | none => False
  | some ⟨_, z, s, u, m, p, l⟩ => (z = ks i ∧ s = kt i ∧ u = ku i) ∧ SR z s u m p l (fun j => km (8192 * i + j)) (fun j => kl (64 * i + j)) (fun j => kn (64 * i + j))
theorem xR_c {x : Option SX} {i : Nat} {km ks kt ku kl kn km' ks' kt' ku' kl' kn' : Nat → Nat} (h : xR x i km ks kt ku kl kn) (h1 : ∀ j, j < 8192 → km' (8192 * i + j) = km (8192 * i + j)) (h2 : ks' i = ks i ∧ kt' i = kt i ∧ ku' i = ku i) (h3 : ∀ j, j < 64 → kl' (64 * i + j) = kl (64 * i + j) ∧ kn' (64 * i + j) = kn (64 * i + j)) : xR x i km' ks' kt' ku' kl' kn' := by
  match x, h with
  | some ⟨d, z, s, u, m, p, l⟩, h =>
    obtain ⟨⟨e1, e2, e3⟩, h⟩ := h
    have h8 := h.sz8
    have hu := h.us64
    exact ⟨⟨e1.trans h2.1.symm, e2.trans h2.2.1.symm, e3.trans h2.2.2.symm⟩, h.toM (fun j hj => h1 j (by omega)) (fun j hj => (h3 j (by omega)).1) (fun j hj => (h3 j (by omega)).2)⟩
def kW (cB cI : ClassId) (kf : Nat → Option SX) : va_W := xW cB cI (kf 0) ++ (xW cB cI (kf 1) ++ (xW cB cI (kf 2) ++ xW cB cI (kf 3)))
theorem kW_up {cB cI : ClassId} {kf : Nat → Option SX} {i : Nat} (hi : i < 4) (y : Option SX) : (kW cB cI (va_up kf i y)).Perm (xW cB cI y ++ kW cB cI (va_up kf i none)) := by
  have e : ∀ (j : Nat) (z : Option SX), va_up kf i z j = if j = i then z else kf j := fun j z => rfl
  have n : xW cB cI none = [] := rfl
  unfold kW
  simp only [e]
  rcases (show i = 0 ∨ i = 1 ∨ i = 2 ∨ i = 3 by omega) with rfl | rfl | rfl | rfl
  · simp [n]
  · simp only [if_pos, n, show ¬ (0 : Nat) = 1 by decide, show ¬ (2 : Nat) = 1 by decide, show ¬ (3 : Nat) = 1 by decide, if_neg, List.nil_append, not_false_eq_true, if_true, if_false]
    exact List.perm_append_comm_assoc _ _ _
  · simp only [if_pos, n, show ¬ (0 : Nat) = 2 by decide, show ¬ (1 : Nat) = 2 by decide, show ¬ (3 : Nat) = 2 by decide, if_neg, List.nil_append, not_false_eq_true, if_true, if_false]
    exact ((List.perm_append_comm_assoc _ _ _).append_left _).trans (List.perm_append_comm_assoc _ _ _)
  · simp only [if_pos, n, show ¬ (0 : Nat) = 3 by decide, show ¬ (1 : Nat) = 3 by decide, show ¬ (2 : Nat) = 3 by decide, if_neg, List.append_nil, not_false_eq_true, if_true, if_false]
    refine ((List.perm_append_comm.append_left _).append_left _).trans ?_
    exact ((List.perm_append_comm_assoc _ _ _).append_left _).trans (List.perm_append_comm_assoc _ _ _)
theorem up_id {kf : Nat → Option SX} {i : Nat} {y : Option SX} (h : kf i = y) : va_up kf i y = kf := by
  funext j; unfold va_up; split
  · rename_i q; rw [q, h]
  · rfl
theorem xA_up (kf : Nat → Option SX) (i : Nat) (y : Option SX) : (fun j => xA (va_up kf i y j)) = va_up (fun j => xA (kf j)) i (xA y) := by
  funext j; unfold va_up; split <;> rfl
theorem up_up {α : Type} (f : Nat → α) (i : Nat) (x y : α) : va_up (va_up f i x) i y = va_up f i y := by
  funext j; unfold va_up; split <;> rfl
theorem up_at {α : Type} (f : Nat → α) (i : Nat) (x : α) : va_up f i x i = x := by unfold va_up; rw [if_pos rfl]
theorem up_ne {α : Type} {f : Nat → α} {i j : Nat} {x : α} (h : ¬ j = i) : va_up f i x j = f j := by unfold va_up; rw [if_neg h]
-- keep
theorem SR.kept {sz st us : Nat} {mK pK lK mem pl ln m2 p2 l2 : Nat → Nat} (h : SR sz st us mK pK lK mem pl ln) (d : Nat → Nat) (i : Nat) (km ks kt ku kl kn : Nat → Nat) : xR (some (d, sz, st, us, va_cpy mK m2 0 0 8192, va_cpy pK p2 0 0 64, va_cpy lK l2 0 0 64)) i (blkW km (8192 * i) (upto sz mem) 8192) (va_up ks i sz) (va_up kt i st) (va_up ku i us) (blkW kl (64 * i) pl us) (blkW kn (64 * i) ln us) := by
  have h8 := h.sz8
  have hu := h.us64
  refine ⟨⟨(up_at _ _ _).symm, (up_at _ _ _).symm, (up_at _ _ _).symm⟩, (h.toK (fun j hj => ?_) (fun j hj => ?_) (fun j hj => ?_)).toM (fun j hj => ?_) (fun j hj => ?_) (fun j hj => ?_)⟩
  · unfold va_cpy; rw [if_pos (by omega), show 0 + (j - 0) = j by omega]
  · unfold va_cpy; rw [if_pos (by omega), show 0 + (j - 0) = j by omega]
  · unfold va_cpy; rw [if_pos (by omega), show 0 + (j - 0) = j by omega]
  · show blkW km (8192 * i) (upto sz mem) 8192 (8192 * i + j) = mem j
    unfold blkW; rw [if_pos (by omega), show 8192 * i + j - 8192 * i = j by omega]; unfold upto; rw [if_pos hj]
  · show blkW kl (64 * i) pl us (64 * i + j) = pl j
    unfold blkW; rw [if_pos (by omega), show 64 * i + j - 64 * i = j by omega]
  · show blkW kn (64 * i) ln us (64 * i + j) = ln j
    unfold blkW; rw [if_pos (by omega), show 64 * i + j - 64 * i = j by omega]
theorem cpy_lt {f g : Nat → Nat} {x y k n : Nat} (h1 : ∀ j, f j < n) (h2 : ∀ j, g j < n) (j : Nat) : va_cpy f g x y k j < n := by
  unfold va_cpy; split
  · exact h1 _
  · exact h2 j
theorem upto_lt {sz : Nat} {m : Nat → Nat} (h : ∀ j, m j < 256) (j : Nat) : upto sz m j < 256 := by
  unfold upto; split
  · exact h j
  · decide
theorem KR_keep {kf : Nat → Option SX} {kp : Nat} {y : Option SX} {km ks kt ku kl kn g1 g2 g3 : Nat → Nat} {z s u n : Nat} (hn : n ≤ 64) (h : ∀ i, i < kp → xR (kf i) i km ks kt ku kl kn) (hy : xR y kp (blkW km (8192 * kp) g1 8192) (va_up ks kp z) (va_up kt kp s) (va_up ku kp u) (blkW kl (64 * kp) g2 n) (blkW kn (64 * kp) g3 n)) : ∀ i, i < kp + 1 → xR (va_up kf kp y i) i (blkW km (8192 * kp) g1 8192) (va_up ks kp z) (va_up kt kp s) (va_up ku kp u) (blkW kl (64 * kp) g2 n) (blkW kn (64 * kp) g3 n) := by
  intro i hi
  by_cases q : i = kp
  · subst q; rw [up_at]; exact hy
  · rw [up_ne q]
    refine xR_c (h i (by omega)) (fun j hj => ?_) ⟨up_ne q, up_ne q, up_ne q⟩ (fun j hj => ⟨?_, ?_⟩)
    · unfold blkW; rw [if_neg (by omega)]
    · unfold blkW; rw [if_neg (by omega)]
    · unfold blkW; rw [if_neg (by omega)]
theorem KR_less {kf : Nat → Option SX} {kp : Nat} {y : Option SX} {km ks kt ku kl kn : Nat → Nat} (h : ∀ i, i < kp → xR (kf i) i km ks kt ku kl kn) : ∀ i, i < kp - 1 → xR (va_up kf (kp - 1) y i) i km ks kt ku kl kn := fun i hi => by
  rw [up_ne (by omega)]; exact h i (by omega)
-- what comes back
theorem bth2_le (a b : Nat) : bth2 a b ≤ a ∧ bth2 a b ≤ b := by unfold bth2; split <;> omega
theorem SR.come {sz st us z s u : Nat} {mK pK lK mem pl ln m p l x q r mem' pl' ln' : Nat → Nat} {ga gl : Nat} (h : SR sz st us mK pK lK mem pl ln) (h2 : SR z s u m p l x q r) (hm : ∀ j, j < z → mem' j = if stay ga gl (bth sz z) j then mem j else x j) (hp : ag u pl' q) (hl : ag u ln' r) : SR z s u (cbM mK m ga gl (bth2 sz z)) p l mem' pl' ln' := by
  have hb := bth2_le sz z
  refine SR.toM (mem := fun j => if stay ga gl (bth sz z) j then mem j else x j) (pl := q) (ln := r) ⟨h2.1, fun j hj => ?_, fun j q1 q2 => ?_, h2.2.2.2⟩ hm hp hl
  · unfold cbM
    show _ = if stay ga gl (bth sz z) j then mem j else x j
    rw [bth_2]
    split
    · rename_i q; exact h.2.1 j (by have := q.2.2; omega)
    · exact h2.2.1 j hj
  · unfold cbM; rw [if_neg (fun y => by have := y.2.2; omega)]; exact h2.2.2.1 j q1 q2
theorem cbM_lt {m m2 : Nat → Nat} (h1 : ∀ j, m j < 256) (h2 : ∀ j, m2 j < 256) (ga gl b j : Nat) : cbM m m2 ga gl b j < 256 := by
  unfold cbM; split
  · exact h1 j
  · exact h2 j
theorem SR.back {sz st us z s u : Nat} {mK pK lK mem pl ln m p l km kl kn : Nat → Nat} {ga gl i : Nat} (h : SR sz st us mK pK lK mem pl ln) (h2 : SR z s u m p l (fun j => km (8192 * i + j)) (fun j => kl (64 * i + j)) (fun j => kn (64 * i + j))) : SR z s u (cbM mK m ga gl (bth2 sz z)) p l (cmW mem km (8192 * i) ga gl (bth sz z) 8192) (outW pl kl (64 * i) u) (outW ln kn (64 * i) u) := by
  have h8 := h2.sz8
  refine h.come h2 (fun j hj => ?_) (fun j hj => ?_) (fun j hj => ?_)
  · unfold cmW; rw [if_pos (by omega)]
  · unfold outW; rw [if_pos hj]
  · unfold outW; rw [if_pos hj]
/-- what the class begins with -/
abbrev bgW (m : Nat → Nat) : Nat → Nat := outW (zr m 0 8192) fst 0 64
theorem bgW_at (m : Nat → Nat) {j : Nat} (hj : j < 8192) : bgW m j = fst j := by
  show outW (zr m 0 8192) fst 0 64 j = _
  unfold outW zr
  by_cases h : j < 64
  · rw [if_pos h, Nat.zero_add]
  · rw [if_neg h, if_pos ⟨Nat.zero_le _, by omega⟩, fst_0 (by omega)]
theorem bgW_lt {m : Nat → Nat} (h : ∀ j, m j < 256) (j : Nat) : bgW m j < 256 := outW_lt (fun j => zr_lt h j) fst_lt j
theorem SR_begin (m p l q r : Nat → Nat) : SR 1024 0 0 (bgW m) p l fst q r := ⟨⟨by decide, by decide, by decide, fun h => absurd h (by decide), fun i h => absurd h (by omega), fun i h => absurd h (by omega)⟩, fun j hj => bgW_at m (by omega), fun j h1 h2 => by rw [bgW_at m h2, fst_0 (by omega)], fun j h => absurd h (by omega), fun j h => absurd h (by omega)⟩
theorem SR.restart {sz st us : Nat} {mK pK lK mem pl ln m p l km kl kn : Nat → Nat} {ga gl : Nat} (h : SR sz st us mK pK lK mem pl ln) : SR 1024 0 0 (cbM mK (bgW m) ga gl (bth2 sz 1024)) p l (cmW mem (blkW km 32768 fst 8192) (8192 * 4) ga gl (bth sz 1024) 8192) (outW pl kl (64 * 4) 0) (outW ln kn (64 * 4) 0) := by
  refine h.come (SR_begin m p l zf zf) (fun j hj => ?_) (fun j h => absurd h (by omega)) (fun j h => absurd h (by omega))
  have e : blkW km 32768 fst 8192 (8192 * 4 + j) = fst j := by unfold blkW; rw [if_pos (by omega), show 8192 * 4 + j - 32768 = j by omega]
  unfold cmW
  rw [if_pos (show j < 8192 by omega), e]
theorem KR_scratch {kf : Nat → Option SX} {kp : Nat} {km ks kt ku kl kn km' ks' kt' ku' kl' kn' : Nat → Nat} (hk : kp ≤ 4) (h : ∀ i, i < kp → xR (kf i) i km ks kt ku kl kn) (h1 : ∀ j, j < 32768 → km' j = km j) (h2 : ∀ j, ¬ j = 4 → ks' j = ks j ∧ kt' j = kt j ∧ ku' j = ku j) (h3 : ∀ j, j < 256 → kl' j = kl j ∧ kn' j = kn j) : ∀ i, i < kp → xR (kf i) i km' ks' kt' ku' kl' kn' := fun i hi => xR_c (h i hi) (fun j hj => h1 _ (by omega)) (h2 i (by omega)) (fun j hj => h3 _ (by omega))
-- same
theorem same_c {sz st us z s u : Nat} {mK pK lK mem pl ln m p l km ks kt ku kl kn : Nat → Nat} {i : Nat} (h : SR sz st us mK pK lK mem pl ln) (e : z = ks i ∧ s = kt i ∧ u = ku i) (h2 : SR z s u m p l (fun j => km (8192 * i + j)) (fun j => kl (64 * i + j)) (fun j => kn (64 * i + j))) : slk sz st us mK pK lK z s u m p l ↔ smP sz st us mem pl ln km ks kt ku kl kn i := by
  obtain ⟨e1, e2, e3⟩ := e
  unfold slk smP
  rw [← e1, ← e2, ← e3]
  constructor
  · rintro ⟨⟨rfl, rfl, rfl⟩, h3, h4⟩
    exact ⟨⟨rfl, rfl, rfl⟩, fun j hj => by rw [← h.2.1 j hj, h4 j hj]; exact h2.2.1 j hj, fun j hj => ⟨by rw [← h.2.2.2.1 j hj, (h3 j hj).1]; exact h2.2.2.2.1 j hj, by rw [← h.2.2.2.2 j hj, (h3 j hj).2]; exact h2.2.2.2.2 j hj⟩⟩
  · rintro ⟨⟨rfl, rfl, rfl⟩, h3, h4⟩
    exact ⟨⟨rfl, rfl, rfl⟩, fun j hj => ⟨by rw [h.2.2.2.1 j hj, (h4 j hj).1]; exact (h2.2.2.2.1 j hj).symm, by rw [h.2.2.2.2 j hj, (h4 j hj).2]; exact (h2.2.2.2.2 j hj).symm⟩, fun j hj => by rw [h.2.1 j hj, h3 j hj]; exact (h2.2.1 j hj).symm⟩
-- CODE
theorem Pre_ag {c1 c2 : Nat} {d1 d2 : Nat → Nat} {L : List Nat} (h1 : Pre c1 d1 L) (h2 : Pre c2 d2 L) : ag c1 d1 d2 := fun j hj => (h1.2 j hj).trans (h2.2 j (by rw [← Pre_len h1 h2]; exact hj)).symm
theorem pkC_c {cs : Nat} {c c' : Nat → Nat} (h : ag cs c c') (q r : Int32) : ag cs (pkC cs c q r) (pkC cs c' q r) := by
  intro j hj
  unfold pkC
  split
  · exact h j hj
  · unfold va_up; split
    · rfl
    · exact h j hj
theorem pkC_lt {cs : Nat} {c : Nat → Nat} (h : ∀ j, c j < 256) (q r : Int32) (j : Nat) : pkC cs c q r j < 256 := by
  unfold pkC
  split
  · exact h j
  · rename_i z
    have h1 : ¬ r < 0 := fun y => z (Or.inr (Or.inr (Or.inl y)))
    have h2 : ¬ nI 255 < r := fun y => z (Or.inr (Or.inr (Or.inr y)))
    obtain ⟨n, hn, rfl⟩ := nI_of h1
    have h3 : n ≤ 255 := (nI_leI hn (by decide)).mp (Int32.not_lt.mp h2)
    refine up_lt h ?_ j
    rw [show cl (nI n) = n from nI_clamp hn]
    omega
theorem ctS_le (cs : Nat) (p : Int32) : ctS cs p ≤ cs := by
  unfold ctS; split
  · exact Nat.le_refl _
  · omega
theorem pcA_le {ga : Nat} (h : ga ≤ 8192) (p q : Int32) : pcA ga p q ≤ 8192 := by
  unfold pcA; split
  · exact h
  · split
    · omega
    · rename_i z _
      have h1 : ¬ p < 0 := fun y => z (Or.inl y)
      obtain ⟨n, hn, rfl⟩ := nI_of h1
      have h3 : n ≤ 8192 := (nI_leI hn (by decide)).mp (Int32.not_lt.mp (fun y => z (Or.inr (Or.inr (Or.inl y)))))
      rw [show cl (nI n) = n from nI_clamp hn]; exact h3
theorem pcL_le {gl : Nat} (h : gl ≤ 8192) (p q : Int32) : pcL gl p q ≤ 8192 := by
  unfold pcL; split
  · exact h
  · rename_i z
    have h1 : ¬ q < 0 := fun y => z (Or.inr (Or.inl y))
    obtain ⟨n, hn, rfl⟩ := nI_of h1
    have h3 : n ≤ 8192 := (nI_leI hn (by decide)).mp (Int32.not_lt.mp (fun y => z (Or.inr (Or.inr (Or.inr y)))))
    rw [show cl (nI n) = n from nI_clamp hn]; exact h3
-- read
theorem hdH_c {cs : Nat} {c c' : Nat → Nat} (h : ag cs c c') : hdH cs c = hdH cs c' := by
  unfold hdH
  by_cases h1 : cs < 2
  · rw [if_pos h1, if_pos h1]
  · rw [if_neg h1, if_neg h1, tw_c h (x := 0) (by omega)]
    split
    · rfl
    · by_cases h3 : cs < 4
      · rw [if_pos h3, if_pos h3]
      · rw [if_neg h3, if_neg h3, tw_c h (x := 2) (by omega)]
        split
        · rfl
        · by_cases h5 : cs < 6
          · rw [if_pos h5, if_pos h5]
          · rw [if_neg h5, if_neg h5, tw_c h (x := 4) (by omega)]
theorem hdB_c {cs : Nat} {c c' : Nat → Nat} (h : ag cs c c') (z : Nat) : ∀ f i en, hdB cs c z f i en = hdB cs c' z f i en
  | 0, _, _ => rfl
  | f + 1, i, en => by
    unfold hdB
    by_cases h1 : cs < 6 + 4 * i + 2
    · rw [if_pos h1, if_pos h1]
    · rw [if_neg h1, if_neg h1, tw_c h (x := 6 + 4 * i) (by omega)]
      split
      · rfl
      · by_cases h3 : cs < 6 + 4 * i + 4
        · rw [if_pos h3, if_pos h3]
        · rw [if_neg h3, if_neg h3, tw_c h (x := 6 + 4 * i + 2) (by omega), hdB_c h z f]
/-- two readings: wrong at one place, or right with bytes that agree below 8192 -/
def rdE (a b : Nat ⊕ (Nat → Nat)) : Prop := (∃ w, a = .inl w ∧ b = .inl w) ∨ ∃ g g', a = .inr g ∧ b = .inr g' ∧ ag 8192 g g'
theorem rdK_c {cs : Nat} {c c' : Nat → Nat} (h : ag cs c c') {z : Nat} : ∀ (n x i : Nat) (g g' : Nat → Nat), cs - x ≤ n → ag 8192 g g' → rdE (rdK cs c z x i g) (rdK cs c' z x i g') := by
  intro n
  induction n with
  | zero =>
    intro x i g g' hn hg
    rw [rdK, dif_pos (by omega), rdK, dif_pos (by omega)]
    exact Or.inr ⟨g, g', rfl, rfl, hg⟩
  | succ n ih =>
    intro x i g g' hn hg
    by_cases hx : cs ≤ x
    · rw [rdK, dif_pos hx, rdK, dif_pos hx]
      exact Or.inr ⟨g, g', rfl, rfl, hg⟩
    · conv => arg 1; rw [rdK, dif_neg hx]
      conv => arg 2; rw [rdK, dif_neg hx]
      by_cases hz : z ≤ i
      · rw [if_pos hz, if_pos hz]; exact Or.inl ⟨x, rfl, rfl⟩
      · rw [if_neg hz, if_neg hz, h x (by omega)]
        by_cases h0 : ¬ c' x = 0
        · rw [if_pos h0, if_pos h0]
          by_cases h6 : i < 64
          · rw [if_pos h6, if_pos h6]; exact Or.inl ⟨x, rfl, rfl⟩
          · rw [if_neg h6, if_neg h6]
            refine ih _ _ _ _ (by omega) (fun j hj => ?_)
            unfold va_up; split
            · rfl
            · exact hg j hj
        · rw [if_neg h0, if_neg h0]
          by_cases h1 : cs ≤ x + 1
          · rw [if_pos h1, if_pos h1]; exact Or.inl ⟨cs, rfl, rfl⟩
          · rw [if_neg h1, if_neg h1, h (x + 1) (by omega)]
            split
            · exact Or.inl ⟨x, rfl, rfl⟩
            · exact ih _ _ _ _ (by omega) hg
theorem rdK_out {cs : Nat} {c : Nat → Nat} {z : Nat} : ∀ (n x i : Nat) (g g' : Nat → Nat), cs - x ≤ n → rdK cs c z x i g = .inr g' → ∀ j, z ≤ j → g' j = g j := by
  intro n
  induction n with
  | zero =>
    intro x i g g' hn h j hj
    rw [rdK, dif_pos (by omega)] at h
    cases h; rfl
  | succ n ih =>
    intro x i g g' hn h j hj
    rw [rdK] at h
    split at h
    · cases h; rfl
    · split at h
      · cases h
      · rename_i hz
        split at h
        · split at h
          · cases h
          · rw [ih _ _ _ _ (by omega) h j hj]
            exact up_ne (by omega)
        · split at h
          · cases h
          · split at h
            · cases h
            · exact ih _ _ _ _ (by omega) h j hj
theorem hdB_ok {cs : Nat} {c : Nat → Nat} {z : Nat} : ∀ f i en, hdB cs c z f i en = none → ∀ k, i ≤ k → k < i + f → (1 ≤ tw c (6 + 4 * k + 2) ∧ tw c (6 + 4 * k) + tw c (6 + 4 * k + 2) ≤ z ∧ en ≤ tw c (6 + 4 * k)) ∧ 6 + 4 * k + 4 ≤ cs ∧ (k + 1 < i + f → tw c (6 + 4 * k) + tw c (6 + 4 * k + 2) ≤ tw c (6 + 4 * (k + 1)))
  | 0, i, en, _, k, h1, h2 => absurd h2 (by omega)
  | f + 1, i, en, h, k, h1, h2 => by
    unfold hdB at h
    split at h
    · cases h
    · split at h
      · cases h
      · split at h
        · cases h
        · split at h
          · cases h
          · rename_i a1 a2 a3 a4
            by_cases q : k = i
            · subst q
              refine ⟨⟨by omega, by omega, by omega⟩, by omega, fun hk => ?_⟩
              have := hdB_ok f (k + 1) _ h (k + 1) (Nat.le_refl _) (by omega)
              exact this.1.2.2
            · have := hdB_ok f (i + 1) _ h k (by omega) (by omega)
              exact ⟨⟨this.1.1, this.1.2.1, by have := this.1.2.2; omega⟩, this.2.1, fun hk => this.2.2 (by omega)⟩
/-- read, where class and reference call CODE right -/
theorem rd_right {cs : Nat} {c c' m g : Nat → Nat} (h : ag cs c c') (hr : rdKS cs c (bgW m) = .inr g) : ∃ g', rdS cs c' = .inr g' ∧ ∀ (pK lK pl ln : Nat → Nat), (∀ j, j < tw c 4 → pK j = tw c (6 + 4 * j) ∧ lK j = tw c (6 + 4 * j + 2)) → (∀ j, j < tw c' 4 → pl j = tw c' (6 + 4 * j) ∧ ln j = tw c' (6 + 4 * j + 2)) → SR (tw c 0) (tw c 2) (tw c 4) g pK lK g' pl ln ∧ tw c 0 = tw c' 0 ∧ tw c 2 = tw c' 2 ∧ tw c 4 = tw c' 4 := by
  have hh := rdKS_r hr
  have hb : hdB cs c (tw c 0) (tw c 4) 0 (tw c 2) = none := by
    rcases q : hdB cs c (tw c 0) (tw c 4) 0 (tw c 2) with _ | w
    · rfl
    · rw [rdKS_b hh q] at hr; cases hr
  rw [rdKS_y hh hb] at hr
  have hS : hdS cs c = none := by rw [hdS_H, hh]; exact hb
  obtain ⟨k1, k2, k3, k4, k5, -⟩ := hdS_ok hS
  have t0 := tw_c h (x := 0) (by omega)
  have t2 := tw_c h (x := 2) (by omega)
  have t4 := tw_c h (x := 4) (by omega)
  have hS' : hdS cs c' = none := by rw [hdS_H, ← hdH_c h, hh, ← hdB_c h, ← t0, ← t2, ← t4]; exact hb
  have hc := rdK_c h (z := tw c 0) _ (6 + 4 * tw c 4) 0 (bgW m) fst (Nat.le_refl _) (fun j hj => bgW_at m hj)
  rw [hr] at hc
  rcases hc with ⟨w, q, -⟩ | ⟨g1, g2, q1, q2, q3⟩
  · cases q
  · cases q1
    have hA := (rdK_rdF (cs := cs) (cd := c') (z := tw c 0) _ (6 + 4 * tw c 4) 0 fst (Nat.le_refl _) (Nat.zero_le _)).1 g2
    have hF := hA.mp q2
    refine ⟨g2, ?_, fun pK lK pl ln hK hM => ⟨⟨?_, ?_, ?_, ?_, ?_⟩, t0, t2, t4⟩⟩
    · unfold rdS; rw [hS', ← t0, ← t4]; exact hF
    · refine wfB_c (p := pl) (l := ln) (p' := fun j => tw c (6 + 4 * j)) (l' := fun j => tw c (6 + 4 * j + 2)) (fun j hj => ?_) (fun j hj => ?_) ?_
      · rw [(hM j (by rw [← t4]; exact hj)).1]; exact (tw_c h (by have := (hdB_ok _ _ _ hb j (Nat.zero_le _) (by omega)).2.1; omega)).symm
      · rw [(hM j (by rw [← t4]; exact hj)).2]; exact (tw_c h (by have := (hdB_ok _ _ _ hb j (Nat.zero_le _) (by omega)).2.1; omega)).symm
      · refine ⟨k2, k1, k3, fun q => k4 (fun y => by have := k3.mpr y; omega), fun i hi => ?_, fun i hi => ?_⟩
        · exact (hdB_ok _ _ _ hb i (Nat.zero_le _) (by omega)).1
        · exact (hdB_ok _ _ _ hb i (Nat.zero_le _) (by omega)).2.2 (by omega)
    · exact fun j hj => q3 j (by omega)
    · intro j hj1 hj2
      rw [rdK_out _ _ _ _ _ (Nat.le_refl _) hr j hj1, bgW_at m hj2, fst_0 (by omega)]
    · intro j hj
      rw [(hK j hj).1, (hM j (by rw [← t4]; exact hj)).1]
      exact tw_c h (by have := (hdB_ok _ _ _ hb j (Nat.zero_le _) (by omega)).2.1; omega)
    · intro j hj
      rw [(hK j hj).2, (hM j (by rw [← t4]; exact hj)).2]
      exact tw_c h (by have := (hdB_ok _ _ _ hb j (Nat.zero_le _) (by omega)).2.1; omega)
theorem rd_wrong {cs : Nat} {c c' m : Nat → Nat} {w : Nat} (h : ag cs c c') (hr : rdKS cs c (bgW m) = .inl w) : ∃ w', rdS cs c' = .inl w' := by
  rcases q : rdS cs c' with w' | g'
  · exact ⟨w', rfl⟩
  · exfalso
    unfold rdS at q
    rcases hS : hdS cs c' with _ | v
    · rw [hS] at q
      obtain ⟨k1, k2, k3, k4, k5, kb⟩ := hdS_ok hS
      have t0 := tw_c h (x := 0) (by omega)
      have t2 := tw_c h (x := 2) (by omega)
      have t4 := tw_c h (x := 4) (by omega)
      have hh : hdH cs c = none := by
        rw [hdH_c h]
        rw [hdS_H] at hS
        rcases z : hdH cs c' with _ | v
        · rfl
        · rw [z] at hS; cases hS
      have hb : hdB cs c (tw c 0) (tw c 4) 0 (tw c 2) = none := by rw [hdB_c h, t0, t2, t4]; exact kb
      rw [rdKS_y hh hb] at hr
      have hc := rdK_c h (z := tw c 0) _ (6 + 4 * tw c 4) 0 (bgW m) fst (Nat.le_refl _) (fun j hj => bgW_at m hj)
      rw [hr] at hc
      have hA := (rdK_rdF (cs := cs) (cd := c') (z := tw c' 0) _ (6 + 4 * tw c' 4) 0 fst (Nat.le_refl _) (Nat.zero_le _)).1 g'
      have hF := hA.mpr q
      rcases hc with ⟨v, -, q2⟩ | ⟨g1, g2, q1, -, -⟩
      · rw [t0, t4, hF] at q2; cases q2
      · cases q1
    · rw [hS] at q; cases q
