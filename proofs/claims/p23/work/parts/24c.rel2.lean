/-- bounds of a state's rows -/
def SB (m p l : Nat → Nat) : Prop := (∀ j, m j < 256) ∧ (∀ j, p j < 2 ^ 31) ∧ ∀ j, l j < 2 ^ 31
/-- the same state: the class's rows, the reference's rows -/
def SR (sz st us : Nat) (mK pK lK mem pl ln : Nat → Nat) : Prop := wfB sz st us pl ln ∧ ag sz mK mem ∧ (∀ j, sz ≤ j → j < 8192 → mK j = 0) ∧ ag us pK pl ∧ ag us lK ln
theorem wfB_c {sz st us : Nat} {p p' l l' : Nat → Nat} (hp : ag us p p') (hl : ag us l l') (h : wfB sz st us p' l') : wfB sz st us p l := by
  obtain ⟨h1, h2, h3, h4, h5, h6⟩ := h
  refine ⟨h1, h2, h3, h4, fun i hi => ?_, fun i hi => ?_⟩
  · rw [hp i hi, hl i hi]; exact h5 i hi
  · rw [hp i (by omega), hl i (by omega), hp (i + 1) hi]; exact h6 i hi
theorem SR.wfK {sz st us : Nat} {mK pK lK mem pl ln : Nat → Nat} (h : SR sz st us mK pK lK mem pl ln) : wfB sz st us pK lK := wfB_c h.2.2.2.1 h.2.2.2.2 h.1
theorem SR.sz8 {sz st us : Nat} {mK pK lK mem pl ln : Nat → Nat} (h : SR sz st us mK pK lK mem pl ln) : sz ≤ 8192 := h.1.2.1.2.1
theorem SR.us64 {sz st us : Nat} {mK pK lK mem pl ln : Nat → Nat} (h : SR sz st us mK pK lK mem pl ln) : us ≤ 64 := h.1.1
theorem wfB_st {sz st us : Nat} {p l : Nat → Nat} (h : wfB sz st us p l) : st ≤ 8192 := by
  obtain ⟨h1, h2, h3, h4, h5, h6⟩ := h
  by_cases h0 : us = 0
  · have := h3.mp h0; omega
  · have := h4 (by omega); omega
-- bytes
theorem SR.bytes {sz st us : Nat} {mK pK lK mem pl ln mK' mem' : Nat → Nat} (h : SR sz st us mK pK lK mem pl ln) (h1 : ag sz mK' mem') (h2 : ∀ j, sz ≤ j → j < 8192 → mK' j = 0) : SR sz st us mK' pK lK mem' pl ln := ⟨h.1, h1, h2, h.2.2.2⟩
theorem SR.set {sz st us : Nat} {mK pK lK mem pl ln : Nat → Nat} (h : SR sz st us mK pK lK mem pl ln) (p q v : Int32) : SR sz st us (stM sz mK p q v) pK lK (stM sz mem p q v) pl ln := by
  unfold stM
  split
  · rename_i hr
    have hs : cl p + cl q ≤ sz := by
      unfold stR at hr
      split at hr
      · exact absurd hr (by decide)
      · split at hr
        · exact absurd hr (by decide)
        · rename_i z; exact Classical.not_not.mp z
    refine h.bytes (fun j hj => ?_) (fun j h1 h2 => ?_)
    · unfold wr; split
      · rfl
      · exact h.2.1 j hj
    · unfold wr; rw [if_neg (by omega)]; exact h.2.2.1 j h1 h2
  · exact h
theorem stM_lt {sz : Nat} {m : Nat → Nat} (h : ∀ j, m j < 256) (p q v : Int32) (j : Nat) : stM sz m p q v j < 256 := by
  unfold stM; split
  · unfold wr; split
    · exact byt_lt _ _
    · exact h j
  · exact h j
theorem SR.zero {sz st us : Nat} {mK pK lK mem pl ln : Nat → Nat} (h : SR sz st us mK pK lK mem pl ln) (p q : Int32) : SR sz st us (zrM sz mK p q) pK lK (zrM sz mem p q) pl ln := by
  unfold zrM
  split
  · refine h.bytes (fun j hj => ?_) (fun j h1 h2 => ?_)
    · unfold zr; split
      · rfl
      · exact h.2.1 j hj
    · unfold zr; split
      · rfl
      · exact h.2.2.1 j h1 h2
  · exact h
theorem zrM_lt {sz : Nat} {m : Nat → Nat} (h : ∀ j, m j < 256) (p q : Int32) (j : Nat) : zrM sz m p q j < 256 := by
  unfold zrM; split
  · exact zr_lt h j
  · exact h j
theorem SR.copy {sz st us : Nat} {mK pK lK mem pl ln : Nat → Nat} (h : SR sz st us mK pK lK mem pl ln) (p q n : Int32) : SR sz st us (cpM sz mK p q n) pK lK (cpM sz mem p q n) pl ln := by
  unfold cpM
  split
  · rename_i hr
    have hs : cl n = 0 ∨ (cl p + cl n ≤ sz ∧ cl q + cl n ≤ sz) := by
      unfold cpR at hr
      split at hr
      · exact absurd hr (by decide)
      · split at hr
        · exact absurd hr (by decide)
        · rename_i z; exact Classical.not_not.mp z
    refine h.bytes (fun j hj => ?_) (fun j h1 h2 => ?_)
    · unfold va_cpy; split
      · exact h.2.1 _ (by omega)
      · exact h.2.1 j hj
    · unfold va_cpy; rw [if_neg (by omega)]; exact h.2.2.1 j h1 h2
  · exact h
theorem cpM_lt {sz : Nat} {m : Nat → Nat} (h : ∀ j, m j < 256) (p q n : Int32) (j : Nat) : cpM sz m p q n j < 256 := by
  unfold cpM; split
  · unfold va_cpy; split
    · exact h _
    · exact h j
  · exact h j
-- SIZE
theorem SR.resize {sz st us : Nat} {mK pK lK mem pl ln : Nat → Nat} (h : SR sz st us mK pK lK mem pl ln) (p : Int32) : SR (rzZ sz us p) st us (rzC sz us mK p) pK lK (rzM sz us mem p) pl ln := by
  unfold rzZ rzC rzM
  by_cases hO : rzO us p
  · rw [if_pos hO, if_pos hO, if_pos hO]
    have hS : isS (cl p) := Classical.not_not.mp (fun z => hO.1 (Or.inr z))
    have hu : us = 0 := by have := hO.2; omega
    obtain ⟨h1, h2, h3, h4, h5⟩ := h
    refine ⟨⟨h1.1, hS, h1.2.2.1, fun q => absurd q (by omega), fun i hi => absurd hi (by omega), fun i hi => absurd hi (by omega)⟩, fun j hj => ?_, fun j q1 q2 => ?_, h4, h5⟩
    · unfold csM
      by_cases hc : cl p < sz
      · rw [if_pos hc]
        unfold zr
        rw [if_neg (by omega), if_neg (by omega)]
        exact h2 j (by omega)
      · rw [if_neg hc]
        unfold zr
        by_cases hj2 : j < sz
        · rw [if_neg (by omega)]; exact h2 j hj2
        · rw [if_pos (by omega)]; exact h3 j (by omega) (by omega)
    · unfold csM
      by_cases hc : cl p < sz
      · rw [if_pos hc]
        unfold zr
        by_cases hj2 : j < sz
        · rw [if_pos (by omega)]
        · rw [if_neg (by omega)]; exact h3 j (by omega) q2
      · rw [if_neg hc]; exact h3 j (by omega) q2
  · rw [if_neg hO, if_neg hO, if_neg hO]; exact h
theorem csM_lt {m : Nat → Nat} (h : ∀ j, m j < 256) (sz y j : Nat) : csM m sz y j < 256 := by
  unfold csM; split
  · exact zr_lt h j
  · exact h j
theorem rzC_lt {sz us : Nat} {m : Nat → Nat} (h : ∀ j, m j < 256) (p : Int32) (j : Nat) : rzC sz us m p j < 256 := by
  unfold rzC; split
  · exact csM_lt h _ _ j
  · exact h j
theorem rzM_lt {sz us : Nat} {m : Nat → Nat} (h : ∀ j, m j < 256) (p : Int32) (j : Nat) : rzM sz us m p j < 256 := by
  unfold rzM; split
  · exact zr_lt h j
  · exact h j
-- MAKING
theorem ins_lo {f : Nat → Nat} {i us v j : Nat} (h : j < i) : ins f i us v j = f j := by
  unfold ins va_up shf; rw [if_neg (by omega), if_neg (by omega)]
theorem ins_at (f : Nat → Nat) (i us v : Nat) : ins f i us v i = v := by
  unfold ins va_up; rw [if_pos rfl]
theorem ins_hi {f : Nat → Nat} {i us v j : Nat} (h : i < j) (h2 : j ≤ us) : ins f i us v j = f (j - 1) := by
  unfold ins va_up shf; rw [if_neg (by omega), if_pos (by omega)]
theorem ins_lt {f : Nat → Nat} {i us v n : Nat} (h : ∀ j, f j < n) (hv : v < n) (j : Nat) : ins f i us v j < n := by
  unfold ins va_up; split
  · exact hv
  · unfold shf; split
    · exact h _
    · exact h j
theorem ins_c {f g : Nat → Nat} {i us v : Nat} (h : ag us f g) (hi : i ≤ us) : ag (us + 1) (ins f i us v) (ins g i us v) := by
  intro j hj
  rcases Nat.lt_trichotomy j i with q | q | q
  · rw [ins_lo q, ins_lo q]; exact h j (by omega)
  · rw [q, ins_at, ins_at]
  · rw [ins_hi q (by omega), ins_hi q (by omega)]; exact h _ (by omega)
theorem mkG_S {sz e : Nat} (h : isS sz) (he : e ≤ 8192) : isS (mkG sz e) ∧ sz ≤ mkG sz e ∧ e ≤ mkG sz e := by
  unfold mkG; split
  · refine ⟨⟨?_, ?_, ?_⟩, ?_, ?_⟩ <;> omega
  · exact ⟨h, Nat.le_refl _, by omega⟩
theorem wfB_ins {sz st us : Nat} {pl ln : Nat → Nat} (h : wfB sz st us pl ln) {n : Nat} (hn : 1 ≤ n) (hu : us < 64) (he : mkP sz st us pl ln n + n ≤ 8192) : wfB (mkG sz (mkP sz st us pl ln n + n)) (if us = 0 then sz else st) (us + 1) (ins pl (fit sz st us pl ln n) us (mkP sz st us pl ln n)) (ins ln (fit sz st us pl ln n) us n) := by
  have hfl := fit_le sz st us pl ln n
  have hG := mkG_S h.2.1 he
  by_cases h0 : us = 0
  · have hP : mkP sz st us pl ln n = sz := by unfold mkP; rw [if_pos h0]
    rw [hP] at he hG ⊢
    rw [if_pos h0]
    have hf : fit sz st us pl ln n = 0 := by omega
    rw [hf]
    refine ⟨by omega, hG.1, by have := h.2.1; omega, fun _ => ⟨h.2.1, by have := hG.2.2; omega⟩, fun i hi => ?_, fun i hi => absurd hi (by omega)⟩
    rw [show i = 0 by omega, ins_at, ins_at]
    exact ⟨hn, hG.2.2, Nat.le_refl _⟩
  · rw [if_neg h0]
    have hP : mkP sz st us pl ln n = gAt st pl ln (fit sz st us pl ln n) := by unfold mkP; rw [if_neg h0]
    have hgap : fit sz st us pl ln n < us → mkP sz st us pl ln n + n ≤ pl (fit sz st us pl ln n) := by
      intro hf
      have hg := fit_gap hf
      rw [hP]
      have : gEn sz us pl (fit sz st us pl ln n) = pl (fit sz st us pl ln n) := by unfold gEn; rw [if_neg (by omega)]
      omega
    have hprev : 0 < fit sz st us pl ln n → mkP sz st us pl ln n = pl (fit sz st us pl ln n - 1) + ln (fit sz st us pl ln n - 1) := by
      intro hf
      rw [hP]; unfold gAt; rw [if_neg (by omega)]
    have hst : st ≤ mkP sz st us pl ln n := by
      by_cases hf : fit sz st us pl ln n = 0
      · rw [hP]; unfold gAt; rw [if_pos hf]; exact Nat.le_refl _
      · have := h.2.2.2.2.1 (fit sz st us pl ln n - 1) (by omega)
        rw [hprev (by omega)]; omega
    generalize mkP sz st us pl ln n = P at *
    generalize fit sz st us pl ln n = f at *
    obtain ⟨h1, h2, h3, h4, h5, h6⟩ := h
    have h4' := h4 (by omega)
    refine ⟨by omega, hG.1, by have := h4'.1; omega, fun _ => ⟨h4'.1, by have := hG.2.1; omega⟩, fun i hi => ?_, fun i hi => ?_⟩
    · rcases Nat.lt_trichotomy i f with q | q | q
      · rw [ins_lo q, ins_lo q]; have := h5 i (by omega); omega
      · rw [q, ins_at, ins_at]; omega
      · rw [ins_hi q (by omega), ins_hi q (by omega)]; have := h5 (i - 1) (by omega); omega
    · rcases Nat.lt_trichotomy i f with q | q | q
      · rw [ins_lo q, ins_lo q]
        rcases Nat.lt_or_ge (i + 1) f with q2 | q2
        · rw [ins_lo q2]; exact h6 i (by omega)
        · rw [show i + 1 = f by omega, ins_at]
          have := hprev (by omega)
          rw [show f - 1 = i by omega] at this
          omega
      · rw [q, ins_at, ins_at, ins_hi (by omega) (by omega), show f + 1 - 1 = f by omega]
        exact hgap (by omega)
      · rw [ins_hi q (by omega), ins_hi q (by omega), ins_hi (by omega) (by omega), show i + 1 - 1 = i - 1 + 1 by omega]
        exact h6 (i - 1) (by omega)
theorem mkO_c {sz st us : Nat} {p p' l l' : Nat → Nat} (hp : ag us p p') (hl : ag us l l') (q : Int32) : mkO sz st us p l q ↔ mkO sz st us p' l' q := by
  unfold mkO; rw [mkP_c hp hl]
theorem n1_cl {q : Int32} (h : ¬ q < nI 1) : 1 ≤ cl q ∧ cl q < 2 ^ 31 := by
  obtain ⟨n, hn, rfl, h1⟩ := ge1 (Int32.not_lt.mp h)
  rw [show cl (nI n) = n from nI_clamp hn]
  exact ⟨h1, hn⟩
theorem SR.make {sz st us : Nat} {mK pK lK mem pl ln : Nat → Nat} (h : SR sz st us mK pK lK mem pl ln) (q : Int32) : SR (mkZ sz st us pl ln q) (mkS sz st us pl ln q) (mkU sz st us pl ln q) mK (mkQ sz st us pK lK q) (mkL sz st us pK lK q) (mkM sz st us pl ln mem q) (mkQ sz st us pl ln q) (mkL sz st us pl ln q) := by
  obtain ⟨h1, h2, h3, h4, h5⟩ := h
  unfold mkZ mkS mkU mkQ mkL mkM
  by_cases hO : mkO sz st us pl ln q
  · have hO' := (mkO_c h4 h5 q).mpr hO
    have hn := n1_cl hO.1
    have hw := wfB_ins h1 hn.1 (by have := h1.1; have := hO.2.1; omega) (by have := hO.2.2; omega)
    have hG := mkG_S (e := mkP sz st us pl ln (cl q) + cl q) h1.2.1 (by have := hO.2.2; omega)
    rw [if_pos hO, if_pos hO, if_pos hO', if_pos hO', if_pos hO, if_pos hO, if_pos hO, fit_c h4 h5, mkP_c h4 h5]
    rw [show (if mkO sz st us pl ln q ∧ us = 0 then sz else st) = (if us = 0 then sz else st) by
      by_cases z : us = 0
      · rw [if_pos ⟨hO, z⟩, if_pos z]
      · rw [if_neg (fun y => z y.2), if_neg z]]
    refine ⟨hw, fun j hj => ?_, fun j q1 q2 => h3 j (by omega) q2, ins_c h4 (fit_le _ _ _ _ _ _), ins_c h5 (fit_le _ _ _ _ _ _)⟩
    unfold zr
    by_cases hj2 : j < sz
    · rw [if_neg (by omega)]; exact h2 j hj2
    · rw [if_pos (by omega)]; exact h3 j (by omega) (by have := hG.1.2.1; omega)
  · have hO' := fun z => hO ((mkO_c h4 h5 q).mp z)
    rw [if_neg hO, if_neg (fun z => hO z.1), if_neg hO, if_neg hO', if_neg hO', if_neg hO, if_neg hO, if_neg hO]
    exact ⟨h1, h2, h3, h4, h5⟩
theorem mk_z {sz st us : Nat} {p p' l l' : Nat → Nat} (hp : ag us p p') (hl : ag us l l') (q : Int32) : mkZ sz st us p l q = mkZ sz st us p' l' q := by
  unfold mkZ
  by_cases hO : mkO sz st us p' l' q
  · rw [if_pos hO, if_pos ((mkO_c hp hl q).mpr hO), mkP_c hp hl]
  · rw [if_neg hO, if_neg (fun z => hO ((mkO_c hp hl q).mp z))]
theorem mk_s {sz st us : Nat} {p p' l l' : Nat → Nat} (hp : ag us p p') (hl : ag us l l') (q : Int32) : mkS sz st us p l q = mkS sz st us p' l' q := by
  unfold mkS
  by_cases hO : mkO sz st us p' l' q ∧ us = 0
  · rw [if_pos hO, if_pos ⟨(mkO_c hp hl q).mpr hO.1, hO.2⟩]
  · rw [if_neg hO, if_neg (fun z => hO ⟨(mkO_c hp hl q).mp z.1, z.2⟩)]
theorem mk_u {sz st us : Nat} {p p' l l' : Nat → Nat} (hp : ag us p p') (hl : ag us l l') (q : Int32) : mkU sz st us p l q = mkU sz st us p' l' q := by
  unfold mkU
  by_cases hO : mkO sz st us p' l' q
  · rw [if_pos hO, if_pos ((mkO_c hp hl q).mpr hO)]
  · rw [if_neg hO, if_neg (fun z => hO ((mkO_c hp hl q).mp z))]
theorem mkP_lt {sz st us : Nat} {p l : Nat → Nat} {q : Int32} (h : mkO sz st us p l q) : mkP sz st us p l (cl q) < 2 ^ 31 := by have := h.2.2; omega
theorem mk_SB {sz st us : Nat} {m p l : Nat → Nat} (h : SB m p l) (q : Int32) : SB m (mkQ sz st us p l q) (mkL sz st us p l q) := by
  obtain ⟨h1, h2, h3⟩ := h
  refine ⟨h1, fun j => ?_, fun j => ?_⟩
  · unfold mkQ; split
    · rename_i hO; exact ins_lt h2 (mkP_lt hO) j
    · exact h2 j
  · unfold mkL; split
    · rename_i hO; exact ins_lt h3 (n1_cl hO.1).2 j
    · exact h3 j
theorem mkM_lt {sz st us : Nat} {p l m : Nat → Nat} (h : ∀ j, m j < 256) (q : Int32) (j : Nat) : mkM sz st us p l m q j < 256 := by
  unfold mkM; split
  · exact zr_lt h j
  · exact h j
-- FREEING
theorem dlf_lt {f : Nat → Nat} {i k n : Nat} (h : ∀ j, f j < n) (j : Nat) : dlf f i k j < n := by
  unfold dlf; split
  · exact h _
  · exact h j
theorem dlf_c {f g : Nat → Nat} {i us : Nat} (h : ag us f g) : ag (us - 1) (dlf f i (us - 1)) (dlf g i (us - 1)) := by
  intro j hj
  unfold dlf
  split
  · exact h _ (by omega)
  · exact h j (by omega)
theorem wfB_del {sz st us : Nat} {pl ln : Nat → Nat} (h : wfB sz st us pl ln) {i : Nat} (hi : i < us) : wfB (if us - 1 = 0 then st else sz) (if us - 1 = 0 then 0 else st) (us - 1) (dlf pl i (us - 1)) (dlf ln i (us - 1)) := by
  obtain ⟨h1, h2, h3, h4, h5, h6⟩ := h
  have h4' := h4 (by omega)
  by_cases h0 : us - 1 = 0
  · rw [if_pos h0, if_pos h0]
    exact ⟨by omega, h4'.1, by omega, fun q => absurd q (by omega), fun j hj => absurd hj (by omega), fun j hj => absurd hj (by omega)⟩
  · rw [if_neg h0, if_neg h0]
    refine ⟨by omega, h2, by have := h4'.1; omega, fun _ => h4', fun j hj => ?_, fun j hj => ?_⟩
    · unfold dlf
      by_cases q : i ≤ j ∧ j < us - 1
      · rw [if_pos q, if_pos q]; exact h5 (j + 1) (by omega)
      · rw [if_neg q, if_neg q]; exact h5 j (by omega)
    · unfold dlf
      by_cases q : i ≤ j
      · rw [if_pos (by omega), if_pos (by omega), if_pos (by omega)]; exact h6 (j + 1) (by omega)
      · rw [if_neg (by omega), if_neg (by omega)]
        by_cases q2 : i ≤ j + 1
        · rw [if_pos (by omega)]
          have a1 := h6 j (by omega)
          have a2 := h6 (j + 1) (by omega)
          omega
        · rw [if_neg (by omega)]; exact h6 j (by omega)
theorem SR.free {sz st us : Nat} {mK pK lK mem pl ln : Nat → Nat} (h : SR sz st us mK pK lK mem pl ln) (q : Int32) : SR (frZ sz st us pl q) (frS st us pl q) (frU us pl q) (frM sz st us pl mK q) (frA us pl pK q) (frA us pl lK q) mem (frA us pl pl q) (frA us pl ln q) := by
  obtain ⟨h1, h2, h3, h4, h5⟩ := h
  have hle := fnd_le us pl q
  unfold frZ frS frU frM frA
  by_cases hf : fnd us pl q = us
  · rw [if_pos hf, if_pos hf, if_pos hf, if_pos hf, if_pos hf, if_pos hf, if_pos hf, if_pos hf]
    exact ⟨h1, h2, h3, h4, h5⟩
  · rw [if_neg hf, if_neg hf, if_neg hf, if_neg hf, if_neg hf, if_neg hf, if_neg hf, if_neg hf]
    have hw := wfB_del h1 (i := fnd us pl q) (by omega)
    refine ⟨hw, fun j hj => ?_, fun j q1 q2 => ?_, dlf_c h4, dlf_c h5⟩
    · have h4' := h1.2.2.2.1 (by omega)
      by_cases h0 : us - 1 = 0
      · rw [if_pos h0] at hj ⊢
        unfold csM zr
        rw [if_pos h4'.2]
        show (if st ≤ j ∧ j < st + (sz - st) then 0 else mK j) = mem j
        rw [if_neg (by omega)]
        exact h2 j (by omega)
      · rw [if_neg h0] at hj ⊢
        exact h2 j hj
    · have h4' := h1.2.2.2.1 (by omega)
      by_cases h0 : us - 1 = 0
      · rw [if_pos h0] at q1 ⊢
        unfold csM zr
        rw [if_pos h4'.2]
        show (if st ≤ j ∧ j < st + (sz - st) then 0 else mK j) = 0
        by_cases hj2 : j < sz
        · rw [if_pos (by omega)]
        · rw [if_neg (by omega)]; exact h3 j (by omega) q2
      · rw [if_neg h0] at q1 ⊢
        exact h3 j q1 q2
theorem frA_lt {us : Nat} {p f : Nat → Nat} {n : Nat} (h : ∀ j, f j < n) (q : Int32) (j : Nat) : frA us p f q j < n := by
  unfold frA; split
  · exact h j
  · exact dlf_lt h j
theorem frM_lt {sz st us : Nat} {p m : Nat → Nat} (h : ∀ j, m j < 256) (q : Int32) (j : Nat) : frM sz st us p m q j < 256 := by
  unfold frM; split
  · exact h j
  · split
    · exact csM_lt h _ _ j
    · exact h j
theorem fr_c {us : Nat} {p p' : Nat → Nat} (hp : ag us p p') (q : Int32) (sz st : Nat) (f m : Nat → Nat) : frZ sz st us p q = frZ sz st us p' q ∧ frS st us p q = frS st us p' q ∧ frU us p q = frU us p' q ∧ frM sz st us p m q = frM sz st us p' m q ∧ frA us p f q = frA us p' f q := by
  unfold frZ frS frU frM frA
  rw [fnd_c hp]
  exact ⟨rfl, rfl, rfl, rfl, rfl⟩
