theorem lnW_lt {sz : Nat} {m w : Nat → Nat} (h : ∀ j, m j < 256) (hw : ∀ j, w j < 256) (p1 p2 p3 p4 p5 p6 p7 : Int32) (j : Nat) : lnW sz m w p1 p2 p3 p4 p5 p6 p7 j < 256 := by
  unfold lnW; split
  · exact hw j
  · exact tkW_lt h hw _ _ _ j
theorem bnW_lt {sz : Nat} {m w : Nat → Nat} (h : ∀ j, m j < 256) (hw : ∀ j, w j < 256) (p1 p2 p3 p4 p5 p6 p7 : Int32) (j : Nat) : bnW sz m w p1 p2 p3 p4 p5 p6 p7 j < 256 := by
  unfold bnW; split
  · exact hw j
  · exact tkW_lt h hw _ _ _ j
theorem lkW_lt {sz : Nat} {m w : Nat → Nat} (h : ∀ j, m j < 256) (hw : ∀ j, w j < 256) (p1 p2 p3 p4 p5 p6 : Int32) (j : Nat) : lkW sz m w p1 p2 p3 p4 p5 p6 j < 256 := by
  unfold lkW; split
  · exact hw j
  · exact tkW_lt h hw _ _ _ j
/-- what holds between the calls: class and reference are in the same state -/
def JC (sz st us kp ga gl oz cs : Nat) (mK pK lK kb cK mem pl ln km ks kt ku kl kn cd wt : Nat → Nat) (sp : Option SX) (kf : Nat → Option SX) : Prop :=
  SR sz st us mK pK lK mem pl ln ∧ SB mK pK lK ∧ SB mem pl ln ∧ (kp ≤ 4 ∧ ga ≤ 8192 ∧ gl ≤ 8192) ∧ ((∀ j, kb j < 256) ∧ ∀ j, wt j < 256) ∧ ((oz = 0 ∨ oz = 12550) ∧ cs ≤ oz ∧ ag cs cK cd ∧ (∀ j, cK j < 256) ∧ ∀ j, cd j < 256) ∧ ((∀ i, i < kp → xR (kf i) i km ks kt ku kl kn) ∧ xB sp ∧ ∀ i, xB (kf i)) ∧ ((∀ j, km j < 256) ∧ ∀ j, ks j < 2 ^ 31 ∧ kt j < 2 ^ 31 ∧ ku j < 2 ^ 31 ∧ kl j < 2 ^ 31 ∧ kn j < 2 ^ 31)
def J (cB cI cS : ClassId) (h kq : Nat) (k a : Nat → Nat) (ws : va_W) : Prop := ∃ (o b : Nat → Nat) (sz st us kp ga gl kL oz cs : Nat) (mK pK lK kb cK mem pl ln km ks kt ku kl kn cd wt : Nat → Nat) (sp : Option SX) (kf : Nat → Option SX),
  ws = gw h kq (xA sp) k o b kp ga gl ++ kw cB k kL kb ++ ow cB o oz cs cK ++ sw cB cI b sz st us mK pK lK ++ (krw cS kq (fun j => xA (kf j)) ++ (xW cB cI sp ++ kW cB cI kf)) ++ mw cI a sz st us kp ga gl cs mem pl ln km ks kt ku kl kn cd wt ∧ JC sz st us kp ga gl oz cs mK pK lK kb cK mem pl ln km ks kt ku kl kn cd wt sp kf
theorem xB_up {kf : Nat → Option SX} {y : Option SX} (h : ∀ i, xB (kf i)) (hy : xB y) {n : Nat} : ∀ i, xB (va_up kf n y i) := fun i => by
  unfold va_up; split
  · exact hy
  · exact h i
theorem K5_up {ks kt ku kl kn g2 g3 : Nat → Nat} {n z s u b c : Nat} (h : ∀ j, ks j < 2 ^ 31 ∧ kt j < 2 ^ 31 ∧ ku j < 2 ^ 31 ∧ kl j < 2 ^ 31 ∧ kn j < 2 ^ 31) (hz : z < 2 ^ 31) (hs : s < 2 ^ 31) (hu : u < 2 ^ 31) (h2 : ∀ j, g2 j < 2 ^ 31) (h3 : ∀ j, g3 j < 2 ^ 31) : ∀ j, va_up ks n z j < 2 ^ 31 ∧ va_up kt n s j < 2 ^ 31 ∧ va_up ku n u j < 2 ^ 31 ∧ blkW kl b g2 c j < 2 ^ 31 ∧ blkW kn b g3 c j < 2 ^ 31 := fun j =>
  ⟨up_lt (fun j => (h j).1) hz j, up_lt (fun j => (h j).2.1) hs j, up_lt (fun j => (h j).2.2.1) hu j, blkW_lt (fun j => (h j).2.2.2.1) h2 j, blkW_lt (fun j => (h j).2.2.2.2) h3 j⟩
theorem K5_up3 {ks kt ku kl kn : Nat → Nat} {n z s u : Nat} (h : ∀ j, ks j < 2 ^ 31 ∧ kt j < 2 ^ 31 ∧ ku j < 2 ^ 31 ∧ kl j < 2 ^ 31 ∧ kn j < 2 ^ 31) (hz : z < 2 ^ 31) (hs : s < 2 ^ 31) (hu : u < 2 ^ 31) : ∀ j, va_up ks n z j < 2 ^ 31 ∧ va_up kt n s j < 2 ^ 31 ∧ va_up ku n u j < 2 ^ 31 ∧ kl j < 2 ^ 31 ∧ kn j < 2 ^ 31 := fun j =>
  ⟨up_lt (fun j => (h j).1) hz j, up_lt (fun j => (h j).2.1) hs j, up_lt (fun j => (h j).2.2.1) hu j, (h j).2.2.2⟩
/-- at the beginning -/
theorem J_0 (cB cI cS : ClassId) (h kq : Nat) (k o b a : Nat → Nat) : J cB cI cS h kq k a (gw h kq none k o b 0 0 0 ++ kw cB k 0 zf ++ ow cB o 0 0 zf ++ sw cB cI b 1024 0 0 (inW 8192) zf zf ++ krw cS kq (fun _ => none) ++ mw cI a 1024 0 0 0 0 0 0 (inW 8192) zf zf zf zf zf zf zf zf zf zf) := by
  refine ⟨o, b, 1024, 0, 0, 0, 0, 0, 0, 0, 0, inW 8192, zf, zf, zf, zf, inW 8192, zf, zf, zf, zf, zf, zf, zf, zf, zf, zf, none, fun _ => none, rfl, ?_⟩
  have z8 : ∀ j, zf j < 256 := zf_lt 256 (by decide)
  have z31 : ∀ j, zf j < 2 ^ 31 := zf_lt (2 ^ 31) (by decide)
  refine ⟨⟨wfB_00, fun j _ => rfl, fun j h1 h2 => ?_, fun j h => absurd h (by omega), fun j h => absurd h (by omega)⟩, ⟨inW_lt 8192, z31, z31⟩, ⟨inW_lt 8192, z31, z31⟩, ⟨by decide, by decide, by decide⟩, ⟨z8, z8⟩, ⟨Or.inl rfl, Nat.le_refl _, fun j h => rfl, z8, z8⟩, ⟨fun i h => absurd h (by omega), trivial, fun _ => trivial⟩, z8, fun j => ⟨z31 j, z31 j, z31 j, z31 j, z31 j⟩⟩
  unfold inW; rw [if_pos h2, fst_0 (by omega)]
