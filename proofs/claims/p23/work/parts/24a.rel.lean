/-- two rows that agree below n -/
abbrev ag (n : Nat) (f g : Nat → Nat) : Prop := ∀ j, j < n → f j = g j
theorem num_c {f g : Nat → Nat} {x : Nat} : ∀ k, (∀ j, j < k → f (x + j) = g (x + j)) → num f x k = num g x k
  | 0, _ => rfl
  | k + 1, h => by
    show num f x k * 256 + f (x + k) = num g x k * 256 + g (x + k)
    rw [num_c k (fun j hj => h j (by omega)), h k (by omega)]
theorem gS_c {sz : Nat} {f g : Nat → Nat} (h : ag sz f g) (p q : Int32) : gS sz f p q = gS sz g p q := by
  unfold gS
  split
  · rfl
  · split
    · rw [num_c _ (fun j hj => h _ (by omega))]
    · rfl
theorem cmpF_c {f f' : Nat → Nat} {x : Nat} {g : Nat → Nat} {k : Nat} (h : ∀ j, j < k → f (x + j) = f' (x + j)) : ∀ n i, cmpF f x g k n i = cmpF f' x g k n i
  | 0, _ => rfl
  | n + 1, i => by
    unfold cmpF
    by_cases hi : k ≤ i
    · rw [if_pos hi, if_pos hi]
    · rw [if_neg hi, if_neg hi, h i (by omega), cmpF_c h n (i + 1)]
theorem cmpB_c {sz : Nat} {f f' g g' : Nat → Nat} {x k : Nat} (h : ag sz f f') (hg : ag k g g') (hx : x + k ≤ sz) : cmpB f x g k = cmpB f' x g' k := by
  unfold cmpB
  rw [cmpF_c (f' := f') (fun j hj => h _ (by omega)), cmpF_congr hg]
theorem allZb_c {sz : Nat} {f f' : Nat → Nat} {x k : Nat} (h : ag sz f f') (hx : x + k ≤ sz) : allZb f x k = allZb f' x k := by
  by_cases q : allZ f x k
  · rw [allZb_t q, allZb_t (fun j hj => by rw [← h _ (by omega)]; exact q j hj)]
  · rw [allZb_f q, allZb_f (fun z => q (fun j hj => by rw [h _ (by omega)]; exact z j hj))]
theorem ky_c {sz : Nat} {f f' : Nat → Nat} {p : Int32} {k o : Nat} (h : ag sz f f') (ht : tkn sz p k o) : ag k (ky f p k o) (ky f' p k o) := by
  intro j hj
  unfold ky
  by_cases ho : o % 2 = 0
  · rw [if_pos ho, if_pos ho]
  · rw [if_neg ho, if_neg ho]
    rcases ht with q | q
    · exact absurd q ho
    · exact h _ (by omega)
theorem lnF_c {sz : Nat} {f f' g g' : Nat → Nat} {k x w nn off o : Nat} (h : ag sz f f') (hg : ag k g g') : ∀ n i, lnF sz f g k x w nn off o n i = lnF sz f' g' k x w nn off o n i
  | 0, _ => rfl
  | n + 1, i => by
    unfold lnF
    split
    · rfl
    · split
      · rfl
      · split
        · rfl
        · rename_i hs
          have hs2 : x + i * w + off + k ≤ sz := Classical.not_not.mp hs
          rw [cmpB_c h hg hs2, allZb_c h hs2, lnF_c h hg n (i + 1)]
theorem lnR_c {sz : Nat} {f f' : Nat → Nat} (h : ag sz f f') (p1 p2 p3 p4 p5 p6 p7 : Int32) : lnR sz f p1 p2 p3 p4 p5 p6 p7 = lnR sz f' p1 p2 p3 p4 p5 p6 p7 := by
  unfold lnR
  split
  · rfl
  · split
    · rfl
    · rename_i ht
      exact lnF_c h (ky_c h (Classical.not_not.mp ht)) _ _
theorem bnF_c {sz : Nat} {f f' g g' : Nat → Nat} {k x w off o : Nat} (h : ag sz f f') (hg : ag k g g') : ∀ n lo hi, hi - lo ≤ n → bnF sz f g k x w off o lo hi = bnF sz f' g' k x w off o lo hi := by
  intro n
  induction n with
  | zero => intro lo hi hn; rw [bnF, dif_pos (by omega), bnF, dif_pos (by omega)]
  | succ n ih =>
    intro lo hi hn
    by_cases hh : hi ≤ lo
    · rw [bnF, dif_pos hh, bnF, dif_pos hh]
    · conv => lhs; rw [bnF, dif_neg hh]
      conv => rhs; rw [bnF, dif_neg hh]
      split
      · rfl
      · rename_i hs
        have hs2 : x + (lo + hi) / 2 * w + off + k ≤ sz := Classical.not_not.mp hs
        rw [cmpB_c h hg hs2, ih _ _ (by omega), ih _ _ (by omega)]
theorem bnR_c {sz : Nat} {f f' : Nat → Nat} (h : ag sz f f') (p1 p2 p3 p4 p5 p6 p7 : Int32) : bnR sz f p1 p2 p3 p4 p5 p6 p7 = bnR sz f' p1 p2 p3 p4 p5 p6 p7 := by
  unfold bnR
  split
  · rfl
  · split
    · rfl
    · rename_i ht
      exact bnF_c h (ky_c h (Classical.not_not.mp ht)) _ _ _ (Nat.le_refl _)
theorem lkF_c {sz : Nat} {f f' g g' : Nat → Nat} {k off link o : Nat} (h : ag sz f f') (hg : ag k g g') : ∀ n z, lkF sz f g k off link o n z = lkF sz f' g' k off link o n z
  | 0, _ => rfl
  | n + 1, z => by
    unfold lkF
    split
    · rfl
    · split
      · rfl
      · rename_i hs
        have hs2 : z + off + k ≤ sz := Classical.not_not.mp hs
        rw [cmpB_c h hg hs2, allZb_c h hs2]
        split
        · rfl
        · split
          · rfl
          · split
            · rfl
            · rename_i hs3
              have hs4 : z + link + 4 ≤ sz := Classical.not_not.mp hs3
              rw [num_c 4 (fun j hj => h _ (by omega)), lkF_c h hg n]
theorem lkR_c {sz : Nat} {f f' : Nat → Nat} (h : ag sz f f') (p1 p2 p3 p4 p5 p6 : Int32) : lkR sz f p1 p2 p3 p4 p5 p6 = lkR sz f' p1 p2 p3 p4 p5 p6 := by
  unfold lkR
  split
  · rfl
  · split
    · rfl
    · rename_i ht
      exact lkF_c h (ky_c h (Classical.not_not.mp ht)) _ _
-- THE HEAP
theorem gAt_c {st us : Nat} {p p' l l' : Nat → Nat} (hp : ag us p p') (hl : ag us l l') {i : Nat} (hi : i ≤ us) : gAt st p l i = gAt st p' l' i := by
  unfold gAt
  split
  · rfl
  · rw [hp _ (by omega), hl _ (by omega)]
theorem gEn_c {sz us : Nat} {p p' : Nat → Nat} (hp : ag us p p') {i : Nat} (hi : i ≤ us) : gEn sz us p i = gEn sz us p' i := by
  unfold gEn
  split
  · rfl
  · exact hp _ (by omega)
theorem fitF_c {sz st us : Nat} {p p' l l' : Nat → Nat} (hp : ag us p p') (hl : ag us l l') {n : Nat} : ∀ f i, i + f ≤ us → fitF sz st us p l n f i = fitF sz st us p' l' n f i
  | 0, _, _ => rfl
  | f + 1, i, h => by
    unfold fitF
    rw [gEn_c hp (by omega), gAt_c hp hl (by omega), fitF_c hp hl f (i + 1) (by omega)]
theorem fit_c {sz st us : Nat} {p p' l l' : Nat → Nat} (hp : ag us p p') (hl : ag us l l') (n : Nat) : fit sz st us p l n = fit sz st us p' l' n := fitF_c hp hl us 0 (by omega)
theorem mkP_c {sz st us : Nat} {p p' l l' : Nat → Nat} (hp : ag us p p') (hl : ag us l l') (n : Nat) : mkP sz st us p l n = mkP sz st us p' l' n := by
  unfold mkP
  rw [fit_c hp hl n, gAt_c hp hl (fit_le sz st us p' l' n)]
theorem mkR_c {sz st us : Nat} {p p' l l' : Nat → Nat} (hp : ag us p p') (hl : ag us l l') (q : Int32) : mkR sz st us p l q = mkR sz st us p' l' q := by
  unfold mkR
  rw [mkP_c hp hl]
theorem bkR_c {sz st us : Nat} {p p' l l' : Nat → Nat} (hp : ag us p p') (hl : ag us l l') (q r : Int32) : bkR sz st us p l q r = bkR sz st us p' l' q r := by
  unfold bkR
  split
  · rfl
  · rename_i h
    have h1 : cl q < us := Classical.not_not.mp (fun z => h (Or.inr (Or.inl z)))
    rw [hp _ h1, hl _ h1, gEn_c hp (by omega), gAt_c hp hl (by omega)]
theorem fndF_c {us : Nat} {p p' : Nat → Nat} (hp : ag us p p') {q : Int32} : ∀ f i, i + f ≤ us → fndF us p q f i = fndF us p' q f i
  | 0, _, _ => rfl
  | f + 1, i, h => by
    unfold fndF
    rw [hp i (by omega), fndF_c hp f (i + 1) (by omega)]
theorem fnd_c {us : Nat} {p p' : Nat → Nat} (hp : ag us p p') (q : Int32) : fnd us p q = fnd us p' q := fndF_c hp us 0 (by omega)
theorem fndF_le {us : Nat} {p : Nat → Nat} {q : Int32} : ∀ f i, i + f ≤ us → fndF us p q f i ≤ us
  | 0, _, _ => Nat.le_refl _
  | f + 1, i, h => by
    unfold fndF
    split
    · omega
    · exact fndF_le f (i + 1) (by omega)
theorem fnd_le (us : Nat) (p : Nat → Nat) (q : Int32) : fnd us p q ≤ us := fndF_le us 0 (by omega)
theorem frR_c {us : Nat} {p p' l l' : Nat → Nat} (hp : ag us p p') (hl : ag us l l') (q : Int32) : frR us p l q = frR us p' l' q := by
  unfold frR
  rw [fnd_c hp]
  split
  · rfl
  · rename_i h
    have := fnd_le us p' q
    rw [hl _ (by omega)]
theorem sumF_c {l l' : Nat → Nat} : ∀ n, ag n l l' → sumF l n = sumF l' n
  | 0, _ => rfl
  | n + 1, h => by
    show sumF l n + l n = sumF l' n + l' n
    rw [sumF_c n (fun j hj => h j (by omega)), h n (by omega)]
theorem gpn_c {sz st us : Nat} {p p' l l' : Nat → Nat} (hp : ag us p p') (hl : ag us l l') : ∀ n, n ≤ us + 1 → gpn sz st us p l n = gpn sz st us p' l' n
  | 0, _ => rfl
  | n + 1, h => by
    rw [gpn_s, gpn_s, gpn_c hp hl n (by omega), gAt_c hp hl (by omega), gEn_c hp (by omega)]
theorem tdR_c {sz st us kp ga gl cs : Nat} {p p' l l' : Nat → Nat} (hp : ag us p p') (hl : ag us l l') (q : Int32) : tdR sz st us kp ga gl cs p l q = tdR sz st us kp ga gl cs p' l' q := by
  unfold tdR gaps
  rw [sumF_c us hl, gpn_c hp hl (us + 1) (Nat.le_refl _)]
theorem cdR_c {cs : Nat} {c c' : Nat → Nat} (h : ag cs c c') (q : Int32) : cdR cs c q = cdR cs c' q := by
  unfold cdR
  split
  · rfl
  · rename_i z
    rw [h _ (Classical.not_not.mp (fun y => z (Or.inr y)))]
theorem pkR_c {cs : Nat} {c c' : Nat → Nat} (h : ag cs c c') (q r : Int32) : pkR cs c q r = pkR cs c' q r := by
  unfold pkR
  split
  · rfl
  · rename_i z
    rw [h _ (Classical.not_not.mp (fun y => z (Or.inr (Or.inl y))))]
-- CODE
theorem blkL_c {p p' l l' : Nat → Nat} : ∀ n, ag n p p' → ag n l l' → blkL p l n = blkL p' l' n
  | 0, _, _ => rfl
  | n + 1, hp, hl => by
    show blkL p l n ++ (twoL (p n) ++ twoL (l n)) = blkL p' l' n ++ (twoL (p' n) ++ twoL (l' n))
    rw [blkL_c n (fun j hj => hp j (by omega)) (fun j hj => hl j (by omega)), hp n (by omega), hl n (by omega)]
theorem endF_c {d d' : Nat → Nat} : ∀ n, ag n d d' → endF d n = endF d' n
  | 0, _ => rfl
  | n + 1, h => by rw [endF_s, endF_s, h n (by omega), endF_c n (fun j hj => h j (by omega))]
theorem rowF_c {d d' : Nat → Nat} {en i : Nat} (h : ag en d d') : ∀ f n, rowF d en i f n = rowF d' en i f n
  | 0, _ => rfl
  | f + 1, n => by
    unfold rowF
    by_cases hi : i + n < en
    · rw [h _ hi, rowF_c h f (n + 1)]
    · rw [if_neg (fun q => hi q.1), if_neg (fun q => hi q.1)]
theorem encF_c {d d' : Nat → Nat} {en : Nat} (h : ag en d d') : ∀ n i, en - i ≤ n → encF d en i = encF d' en i := by
  intro n
  induction n with
  | zero => intro i hn; rw [encF_e (by omega), encF_e (by omega)]
  | succ n ih =>
    intro i hn
    by_cases hi : i < en
    · by_cases h0 : d i = 0
      · have h0' : d' i = 0 := by rw [← h i hi]; exact h0
        have hr : rowN d en i = rowN d' en i := rowF_c h 256 0
        have hp := rowN_pos hi h0
        rw [encF_z hi h0 hr, encF_z hi h0' rfl, ih _ (by omega)]
      · have h0' : ¬ d' i = 0 := by rw [← h i hi]; exact h0
        rw [encF_n hi h0, encF_n hi h0', h i hi, ih _ (by omega)]
    · rw [encF_e (by omega), encF_e (by omega)]
theorem wcode_c {sz st us : Nat} {p p' l l' m m' : Nat → Nat} (hm : ag sz m m') (hp : ag us p p') (hl : ag us l l') : wcode sz st us p l m = wcode sz st us p' l' m' := by
  have hd : ag sz (dif m) (dif m') := fun j hj => by unfold dif; rw [hm j hj]
  unfold wcode
  rw [blkL_c us hp hl, endF_c sz hd, encF_c (fun j hj => hd j (Nat.lt_of_lt_of_le hj (endF_le _ _))) _ _ (Nat.le_refl _)]
theorem tw_c {n : Nat} {c c' : Nat → Nat} (h : ag n c c') {x : Nat} (hx : x + 2 ≤ n) : tw c x = tw c' x := by
  unfold tw
  rw [h _ (by omega), h _ (by omega)]
