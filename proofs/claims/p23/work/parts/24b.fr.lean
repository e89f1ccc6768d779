theorem perm_ix (f : Nat → va_W) {is js : List Nat} (h : is.Perm js) : ((is.map f).flatten).Perm ((js.map f).flatten) := (h.map f).flatten
def ixf (G K O S R P D F M : va_W) : Nat → va_W := fun n => match n with | 0 => G | 1 => K | 2 => O | 3 => S | 4 => R | 5 => P | 6 => D | 7 => F | _ => M
theorem ix_std (G K O S R P D F M : va_W) : ([0, 1, 2, 3, 4, 5, 6, 7, 8].map (ixf G K O S R P D F M)).flatten = G ++ K ++ O ++ S ++ (R ++ (P ++ (D ++ F))) ++ M := by
  simp [ixf, List.flatten]
theorem pF {G K O S R P F F2 M : va_W} (h : F.Perm F2) : (G ++ K ++ O ++ S ++ (R ++ (P ++ F)) ++ M).Perm (G ++ K ++ O ++ S ++ (R ++ (P ++ F2)) ++ M) := ((h.append_left P).append_left R).append_left (G ++ K ++ O ++ S) |>.append_right M
theorem pGRSD {G K O S R P F D F2 M : va_W} (h : F.Perm (D ++ F2)) : (G ++ K ++ O ++ S ++ (R ++ (P ++ F)) ++ M).Perm (G ++ R ++ S ++ D ++ (K ++ O ++ P ++ F2 ++ M)) := by
  refine (pF h).trans ?_
  rw [← ix_std]
  refine (perm_ix _ (show [0, 1, 2, 3, 4, 5, 6, 7, 8].Perm [0, 4, 3, 6, 1, 2, 5, 7, 8] by decide)).trans (.of_eq ?_)
  simp [ixf, List.flatten]
theorem pGRDS {G K O S R P F D F2 M : va_W} (h : F.Perm (D ++ F2)) : (G ++ K ++ O ++ S ++ (R ++ (P ++ F)) ++ M).Perm (G ++ R ++ D ++ S ++ (K ++ O ++ P ++ F2 ++ M)) := by
  refine (pF h).trans ?_
  rw [← ix_std]
  refine (perm_ix _ (show [0, 1, 2, 3, 4, 5, 6, 7, 8].Perm [0, 4, 6, 3, 1, 2, 5, 7, 8] by decide)).trans (.of_eq ?_)
  simp [ixf, List.flatten]
theorem pGRS {G K O S R P F M : va_W} : (G ++ K ++ O ++ S ++ (R ++ (P ++ F)) ++ M).Perm (G ++ R ++ S ++ (K ++ O ++ P ++ F ++ M)) := by
  have q := pGRSD (G := G) (K := K) (O := O) (S := S) (R := R) (P := P) (F := F) (D := []) (F2 := F) (M := M) (List.Perm.refl _)
  rw [List.append_nil] at q
  exact q
theorem pGSP {G K O S R P F M : va_W} : (G ++ K ++ O ++ S ++ (R ++ (P ++ F)) ++ M).Perm (G ++ S ++ P ++ (K ++ O ++ R ++ F ++ M)) := by
  refine (List.Perm.of_eq (ix_std G K O S R P [] F M).symm).trans ?_
  refine (perm_ix _ (show [0, 1, 2, 3, 4, 5, 6, 7, 8].Perm [0, 3, 5, 1, 2, 4, 6, 7, 8] by decide)).trans (.of_eq ?_)
  simp [ixf, List.flatten]
theorem pGPS {G K O S R P F M : va_W} : (G ++ K ++ O ++ S ++ (R ++ (P ++ F)) ++ M).Perm (G ++ P ++ S ++ (K ++ O ++ R ++ F ++ M)) := by
  refine (List.Perm.of_eq (ix_std G K O S R P [] F M).symm).trans ?_
  refine (perm_ix _ (show [0, 1, 2, 3, 4, 5, 6, 7, 8].Perm [0, 5, 3, 1, 2, 4, 6, 7, 8] by decide)).trans (.of_eq ?_)
  simp [ixf, List.flatten]
theorem pGS {G K O S R F M : va_W} : (G ++ K ++ O ++ S ++ (R ++ ([] ++ F)) ++ M).Perm (G ++ S ++ (K ++ O ++ R ++ F ++ M)) := by
  have q := pGSP (G := G) (K := K) (O := O) (S := S) (R := R) (P := []) (F := F) (M := M)
  rw [List.append_nil] at q
  exact q
theorem pGOSP {G K O S R P F M : va_W} : (G ++ K ++ O ++ S ++ (R ++ (P ++ F)) ++ M).Perm (G ++ O ++ S ++ P ++ (K ++ R ++ F ++ M)) := by
  refine (List.Perm.of_eq (ix_std G K O S R P [] F M).symm).trans ?_
  refine (perm_ix _ (show [0, 1, 2, 3, 4, 5, 6, 7, 8].Perm [0, 2, 3, 5, 1, 4, 6, 7, 8] by decide)).trans (.of_eq ?_)
  simp [ixf, List.flatten]
theorem pGOPS {G K O S R P F M : va_W} : (G ++ K ++ O ++ S ++ (R ++ (P ++ F)) ++ M).Perm (G ++ O ++ P ++ S ++ (K ++ R ++ F ++ M)) := by
  refine (List.Perm.of_eq (ix_std G K O S R P [] F M).symm).trans ?_
  refine (perm_ix _ (show [0, 1, 2, 3, 4, 5, 6, 7, 8].Perm [0, 2, 5, 3, 1, 4, 6, 7, 8] by decide)).trans (.of_eq ?_)
  simp [ixf, List.flatten]
theorem pGOS0 {G K O S R F M : va_W} : (G ++ K ++ O ++ S ++ (R ++ ([] ++ F)) ++ M).Perm (G ++ O ++ S ++ (K ++ R ++ F ++ M)) := by
  have q := pGOSP (G := G) (K := K) (O := O) (S := S) (R := R) (P := []) (F := F) (M := M)
  rw [List.append_nil] at q
  exact q
theorem pGOS {G K O S R P F M : va_W} : (G ++ K ++ O ++ S ++ (R ++ (P ++ F)) ++ M).Perm (G ++ O ++ S ++ (K ++ R ++ P ++ F ++ M)) := by
  refine (List.Perm.of_eq (ix_std G K O S R P [] F M).symm).trans ?_
  refine (perm_ix _ (show [0, 1, 2, 3, 4, 5, 6, 7, 8].Perm [0, 2, 3, 1, 4, 5, 6, 7, 8] by decide)).trans (.of_eq ?_)
  simp [ixf, List.flatten]
theorem pGKOS {G K O S R P F M : va_W} : (G ++ K ++ O ++ S ++ (R ++ (P ++ F)) ++ M).Perm (G ++ K ++ O ++ S ++ (R ++ (P ++ F) ++ M)) := .of_eq (List.append_assoc _ _ _)
theorem pM {X M : va_W} : (X ++ M).Perm (M ++ X) := List.perm_append_comm
section FR
variable {p : Program} {l : Launch} {e : Env} {R : Room} {s : State} {m : MethodId} {args : Array Value} {below : List Frame} {meth : Method} {c : Code} {H : Heap} {locs : List Loc} {cells slots : Nat} {Q : State → Prop}
variable {pc : Nat} {ls : Array Slot} {rest st0 : List Value} {a : Array Value} {A0 : Nat → Prop} {H0 : Heap} {mc ms : Nat} {D : va_G} {cl : List vw_C}
/-- a call that has some of the cells, in whatever order: the others stay -/
theorem fr_calli {S : Type} {post : Int32 → S → Prop} {ws0 wc wr : va_W} {w1 : S → va_W} {Z : S → State → Prop} {B : S → State → Prop} (hB : ∀ u t, B u t → va_P D cl (w1 u) t.heap ∧ Z u t ∧ va_D (va_A wc H.size) (w1 u)) (hperm : ws0.Perm (wc ++ wr)) (hP : va_P D cl ws0 H) (hD : va_D A0 ws0) (hS : va_S A0 H0 H locs) (hA : ∀ q, H0.size ≤ q → A0 q)
    (run : va_P D cl wc H → va_D (fun _ => True) wc → va_Run p l e R s m args below meth c H locs cells slots mc ms (F0 m pc ls st0) rest (va_Qi post B (va_A wc H.size) a) (va_A wc H.size))
    (kk : ∀ (r : Int32) (u : S) (H1 : Heap) (locs1 : List Loc), post r u → va_P D cl (w1 u ++ wr) H1 → va_D A0 (w1 u ++ wr) → va_S A0 H0 H1 locs1 → W p l e R s m args below meth c H1 locs1 (cells + mc) (slots + ms) Q (F0 m (pc + 3) ls (.int r :: rest))) : W p l e R s m args below meth c H locs cells slots Q (F0 m pc ls st0) := by
  have hP2 := va_P_perm hperm hP
  have hD2 := va_D_perm hperm hD
  have hF : ∀ q, va_A wc H.size q → A0 q := by
    intro q hq
    rcases va_A_mem.mp hq with ⟨x, hx, rfl⟩ | hq
    · exact (va_D_mem.mp hD2).2 x (List.mem_append_left _ hx)
    · exact hA q (Nat.le_trans hS.1 hq)
  refine va_calli (run (va_P_left hP2) ((va_D_left hD2).weaken (fun _ _ _ _ => trivial))) hS (fun q _ h => hF q h) hF (fun r u t H1 locs1 ht hvm hw hb1 hz hk hS1 => ?_)
  obtain ⟨q1, q2, q3⟩ := hB u t hb1
  rw [ht] at q1
  obtain ⟨hP3, hD3⟩ := va_joinA hP2 hD2 hk hF q1 q3
  exact kk r u H1 locs1 hw hP3 hD3 hS1
end FR
