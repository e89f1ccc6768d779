section
-- ===== PART A: goes FIRST, ahead of the names: the tables' words, and 'selects' of the private methods out of them =====
/-- a private method of a class that the tables say can be made, by its rows of tables_1 -/
def lw_okq (q : MethodName × Nat) : Prop := (q.1.cls ≠ "java/lang/invoke/MethodHandle" ∧ q.1.cls ≠ "java/lang/invoke/VarHandle") ∧ Cond.instantiable q.1.cls q.2 ∈ tables_1 ∧ Cond.privateMethod q.1 ∈ tables_1 ∧ Cond.instanceMethod q.1 ∈ tables_1
theorem lw_p0 : lw_okq (⟨"GlulxHeap", "writeRefusal", "(II)I"⟩, 8) := ⟨⟨by decide +kernel, by decide +kernel⟩, List.mem_of_getElem? (i := 10) (by decide +kernel), List.mem_of_getElem? (i := 144) (by decide +kernel), List.mem_of_getElem? (i := 145) (by decide +kernel)⟩
theorem lw_p1 : lw_okq (⟨"GlulxHeap", "look", "(JI)I"⟩, 8) := ⟨⟨by decide +kernel, by decide +kernel⟩, List.mem_of_getElem? (i := 10) (by decide +kernel), List.mem_of_getElem? (i := 237) (by decide +kernel), List.mem_of_getElem? (i := 238) (by decide +kernel)⟩
theorem lw_p2 : lw_okq (⟨"GlulxHeap", "lastKept", "()LGlulxHeap$State;"⟩, 8) := ⟨⟨by decide +kernel, by decide +kernel⟩, List.mem_of_getElem? (i := 10) (by decide +kernel), List.mem_of_getElem? (i := 280) (by decide +kernel), List.mem_of_getElem? (i := 281) (by decide +kernel)⟩
theorem lw_p3 : lw_okq (⟨"GlulxHeap", "comeBack", "(LGlulxHeap$State;)V"⟩, 8) := ⟨⟨by decide +kernel, by decide +kernel⟩, List.mem_of_getElem? (i := 10) (by decide +kernel), List.mem_of_getElem? (i := 284) (by decide +kernel), List.mem_of_getElem? (i := 285) (by decide +kernel)⟩
theorem lw_p4 : lw_okq (⟨"GlulxHeap", "spareState", "()LGlulxHeap$State;"⟩, 8) := ⟨⟨by decide +kernel, by decide +kernel⟩, List.mem_of_getElem? (i := 10) (by decide +kernel), List.mem_of_getElem? (i := 292) (by decide +kernel), List.mem_of_getElem? (i := 293) (by decide +kernel)⟩
theorem lw_p5 : lw_okq (⟨"GlulxHeap$Code", "appendPair", "(I)V"⟩, 2) := ⟨⟨by decide +kernel, by decide +kernel⟩, List.mem_of_getElem? (i := 35) (by decide +kernel), List.mem_of_getElem? (i := 312) (by decide +kernel), List.mem_of_getElem? (i := 313) (by decide +kernel)⟩
theorem lw_p6 : lw_okq (⟨"GlulxHeap$Code", "append", "(I)V"⟩, 2) := ⟨⟨by decide +kernel, by decide +kernel⟩, List.mem_of_getElem? (i := 35) (by decide +kernel), List.mem_of_getElem? (i := 316) (by decide +kernel), List.mem_of_getElem? (i := 317) (by decide +kernel)⟩
theorem lw_p7 : lw_okq (⟨"GlulxHeap$Code", "tellBytes", "(LGlulxHeap$State;)V"⟩, 2) := ⟨⟨by decide +kernel, by decide +kernel⟩, List.mem_of_getElem? (i := 35) (by decide +kernel), List.mem_of_getElem? (i := 320) (by decide +kernel), List.mem_of_getElem? (i := 321) (by decide +kernel)⟩
theorem lw_p8 : lw_okq (⟨"GlulxHeap$Code", "unfoldHead", "(LGlulxHeap$State;)I"⟩, 2) := ⟨⟨by decide +kernel, by decide +kernel⟩, List.mem_of_getElem? (i := 35) (by decide +kernel), List.mem_of_getElem? (i := 367) (by decide +kernel), List.mem_of_getElem? (i := 368) (by decide +kernel)⟩
theorem lw_p9 : lw_okq (⟨"GlulxHeap$Code", "unfoldBlocks", "(LGlulxHeap$State;)I"⟩, 2) := ⟨⟨by decide +kernel, by decide +kernel⟩, List.mem_of_getElem? (i := 35) (by decide +kernel), List.mem_of_getElem? (i := 377) (by decide +kernel), List.mem_of_getElem? (i := 378) (by decide +kernel)⟩
theorem lw_p10 : lw_okq (⟨"GlulxHeap$Code", "unfoldBytes", "(LGlulxHeap$State;)I"⟩, 2) := ⟨⟨by decide +kernel, by decide +kernel⟩, List.mem_of_getElem? (i := 35) (by decide +kernel), List.mem_of_getElem? (i := 381) (by decide +kernel), List.mem_of_getElem? (i := 382) (by decide +kernel)⟩
theorem lw_p11 : lw_okq (⟨"GlulxHeapModel", "isIn", "(JJ)Z"⟩, 18) := ⟨⟨by decide +kernel, by decide +kernel⟩, List.mem_of_getElem? (i := 397) (by decide +kernel), List.mem_of_getElem? (i := 470) (by decide +kernel), List.mem_of_getElem? (i := 471) (by decide +kernel)⟩
theorem lw_p12 : lw_okq (⟨"GlulxHeapModel", "number", "(II)J"⟩, 18) := ⟨⟨by decide +kernel, by decide +kernel⟩, List.mem_of_getElem? (i := 397) (by decide +kernel), List.mem_of_getElem? (i := 474) (by decide +kernel), List.mem_of_getElem? (i := 475) (by decide +kernel)⟩
theorem lw_p13 : lw_okq (⟨"GlulxHeapModel", "grow", "(I)V"⟩, 18) := ⟨⟨by decide +kernel, by decide +kernel⟩, List.mem_of_getElem? (i := 397) (by decide +kernel), List.mem_of_getElem? (i := 498) (by decide +kernel), List.mem_of_getElem? (i := 499) (by decide +kernel)⟩
theorem lw_p14 : lw_okq (⟨"GlulxHeapModel", "gapEnd", "(I)I"⟩, 18) := ⟨⟨by decide +kernel, by decide +kernel⟩, List.mem_of_getElem? (i := 397) (by decide +kernel), List.mem_of_getElem? (i := 506) (by decide +kernel), List.mem_of_getElem? (i := 507) (by decide +kernel)⟩
theorem lw_p15 : lw_okq (⟨"GlulxHeapModel", "gapAt", "(I)I"⟩, 18) := ⟨⟨by decide +kernel, by decide +kernel⟩, List.mem_of_getElem? (i := 397) (by decide +kernel), List.mem_of_getElem? (i := 510) (by decide +kernel), List.mem_of_getElem? (i := 511) (by decide +kernel)⟩
def lw_privs_1 : List (MethodName × Nat) := [(⟨"GlulxHeap", "writeRefusal", "(II)I"⟩, 8), (⟨"GlulxHeap", "look", "(JI)I"⟩, 8), (⟨"GlulxHeap", "lastKept", "()LGlulxHeap$State;"⟩, 8), (⟨"GlulxHeap", "comeBack", "(LGlulxHeap$State;)V"⟩, 8), (⟨"GlulxHeap", "spareState", "()LGlulxHeap$State;"⟩, 8), (⟨"GlulxHeap$Code", "appendPair", "(I)V"⟩, 2), (⟨"GlulxHeap$Code", "append", "(I)V"⟩, 2), (⟨"GlulxHeap$Code", "tellBytes", "(LGlulxHeap$State;)V"⟩, 2), (⟨"GlulxHeap$Code", "unfoldHead", "(LGlulxHeap$State;)I"⟩, 2), (⟨"GlulxHeap$Code", "unfoldBlocks", "(LGlulxHeap$State;)I"⟩, 2), (⟨"GlulxHeap$Code", "unfoldBytes", "(LGlulxHeap$State;)I"⟩, 2), (⟨"GlulxHeapModel", "isIn", "(JJ)Z"⟩, 18), (⟨"GlulxHeapModel", "number", "(II)J"⟩, 18), (⟨"GlulxHeapModel", "grow", "(I)V"⟩, 18), (⟨"GlulxHeapModel", "gapEnd", "(I)I"⟩, 18), (⟨"GlulxHeapModel", "gapAt", "(I)I"⟩, 18)]
theorem lw_r1 : ∀ q ∈ lw_privs_1, lw_okq q := List.forall_mem_cons.mpr ⟨lw_p0, List.forall_mem_cons.mpr ⟨lw_p1, List.forall_mem_cons.mpr ⟨lw_p2, List.forall_mem_cons.mpr ⟨lw_p3, List.forall_mem_cons.mpr ⟨lw_p4, List.forall_mem_cons.mpr ⟨lw_p5, List.forall_mem_cons.mpr ⟨lw_p6, List.forall_mem_cons.mpr ⟨lw_p7, List.forall_mem_cons.mpr ⟨lw_p8, List.forall_mem_cons.mpr ⟨lw_p9, List.forall_mem_cons.mpr ⟨lw_p10, List.forall_mem_cons.mpr ⟨lw_p11, List.forall_mem_cons.mpr ⟨lw_p12, List.forall_mem_cons.mpr ⟨lw_p13, List.forall_mem_cons.mpr ⟨lw_p14, List.forall_mem_cons.mpr ⟨lw_p15, fun _ h => absurd h List.not_mem_nil⟩⟩⟩⟩⟩⟩⟩⟩⟩⟩⟩⟩⟩⟩⟩⟩
theorem lw_p16 : lw_okq (⟨"GlulxHeapModel", "behind", "(I)I"⟩, 18) := ⟨⟨by decide +kernel, by decide +kernel⟩, List.mem_of_getElem? (i := 397) (by decide +kernel), List.mem_of_getElem? (i := 514) (by decide +kernel), List.mem_of_getElem? (i := 515) (by decide +kernel)⟩
theorem lw_p17 : lw_okq (⟨"GlulxHeapModel", "isTaken", "(III)Z"⟩, 18) := ⟨⟨by decide +kernel, by decide +kernel⟩, List.mem_of_getElem? (i := 397) (by decide +kernel), List.mem_of_getElem? (i := 536) (by decide +kernel), List.mem_of_getElem? (i := 537) (by decide +kernel)⟩
theorem lw_p18 : lw_okq (⟨"GlulxHeapModel", "compare", "(II)I"⟩, 18) := ⟨⟨by decide +kernel, by decide +kernel⟩, List.mem_of_getElem? (i := 397) (by decide +kernel), List.mem_of_getElem? (i := 540) (by decide +kernel), List.mem_of_getElem? (i := 541) (by decide +kernel)⟩
theorem lw_p19 : lw_okq (⟨"GlulxHeapModel", "isZero", "(II)Z"⟩, 18) := ⟨⟨by decide +kernel, by decide +kernel⟩, List.mem_of_getElem? (i := 397) (by decide +kernel), List.mem_of_getElem? (i := 544) (by decide +kernel), List.mem_of_getElem? (i := 545) (by decide +kernel)⟩
theorem lw_p20 : lw_okq (⟨"GlulxHeapModel", "come", "(I)V"⟩, 18) := ⟨⟨by decide +kernel, by decide +kernel⟩, List.mem_of_getElem? (i := 397) (by decide +kernel), List.mem_of_getElem? (i := 570) (by decide +kernel), List.mem_of_getElem? (i := 571) (by decide +kernel)⟩
theorem lw_p21 : lw_okq (⟨"GlulxHeapModel", "putTwo", "(I)V"⟩, 18) := ⟨⟨by decide +kernel, by decide +kernel⟩, List.mem_of_getElem? (i := 397) (by decide +kernel), List.mem_of_getElem? (i := 587) (by decide +kernel), List.mem_of_getElem? (i := 588) (by decide +kernel)⟩
theorem lw_p22 : lw_okq (⟨"GlulxHeapModel", "put", "(I)V"⟩, 18) := ⟨⟨by decide +kernel, by decide +kernel⟩, List.mem_of_getElem? (i := 397) (by decide +kernel), List.mem_of_getElem? (i := 591) (by decide +kernel), List.mem_of_getElem? (i := 592) (by decide +kernel)⟩
theorem lw_p23 : lw_okq (⟨"GlulxHeapModel", "head", "()I"⟩, 18) := ⟨⟨by decide +kernel, by decide +kernel⟩, List.mem_of_getElem? (i := 397) (by decide +kernel), List.mem_of_getElem? (i := 611) (by decide +kernel), List.mem_of_getElem? (i := 612) (by decide +kernel)⟩
theorem lw_p24 : lw_okq (⟨"GlulxHeapModel", "two", "(I)I"⟩, 18) := ⟨⟨by decide +kernel, by decide +kernel⟩, List.mem_of_getElem? (i := 397) (by decide +kernel), List.mem_of_getElem? (i := 615) (by decide +kernel), List.mem_of_getElem? (i := 616) (by decide +kernel)⟩
def lw_privs_2 : List (MethodName × Nat) := [(⟨"GlulxHeapModel", "behind", "(I)I"⟩, 18), (⟨"GlulxHeapModel", "isTaken", "(III)Z"⟩, 18), (⟨"GlulxHeapModel", "compare", "(II)I"⟩, 18), (⟨"GlulxHeapModel", "isZero", "(II)Z"⟩, 18), (⟨"GlulxHeapModel", "come", "(I)V"⟩, 18), (⟨"GlulxHeapModel", "putTwo", "(I)V"⟩, 18), (⟨"GlulxHeapModel", "put", "(I)V"⟩, 18), (⟨"GlulxHeapModel", "head", "()I"⟩, 18), (⟨"GlulxHeapModel", "two", "(I)I"⟩, 18)]
theorem lw_r2 : ∀ q ∈ lw_privs_2, lw_okq q := List.forall_mem_cons.mpr ⟨lw_p16, List.forall_mem_cons.mpr ⟨lw_p17, List.forall_mem_cons.mpr ⟨lw_p18, List.forall_mem_cons.mpr ⟨lw_p19, List.forall_mem_cons.mpr ⟨lw_p20, List.forall_mem_cons.mpr ⟨lw_p21, List.forall_mem_cons.mpr ⟨lw_p22, List.forall_mem_cons.mpr ⟨lw_p23, List.forall_mem_cons.mpr ⟨lw_p24, fun _ h => absurd h List.not_mem_nil⟩⟩⟩⟩⟩⟩⟩⟩⟩
def lw_privs : List (MethodName × Nat) := lw_privs_1 ++ (lw_privs_2)
def lw_tbl : List Cond := k2_sels lw_privs ++ tables_1
theorem lw_privs_ok : ∀ q ∈ lw_privs, lw_okq q := by
  show ∀ q ∈ lw_privs_1 ++ (lw_privs_2), lw_okq q
  exact List.forall_mem_append.mpr ⟨lw_r1, lw_r2⟩
/-! THE CLAIM OUT OF ONE WALK OF THE LAW'S BODY. Your part is whole_start (and what it stands on); all else here is the same for every law, but numbers. -/
def R_law : String := "GlulxHeapLaw"
def lw_P (b : Addr) (xs : List Int32) (args : Array Value) (s : State) : Prop := args = #[.ref b] ∧ s.IntsAt b xs ∧ xs.length ≤ 4096 ∧ (Jvm.Cond.and given_1 narrow_1).before args s = true
def lw_Q (_ : Array Value) (s : State) (o : Outcome) (t : State) : Prop := o = .returned (some (.int 1)) ∧ Framed s o t [] 600000 7302250
def lw_Z (below : List Frame) (a : Array Value) (s : State) : State → Prop := fun t => ∃ o, t.status = .running ∧ Ended t below o ∧ lw_Q a s o t
/-- the law's own end, with 1 on the stack, nothing written that was there before, its room as the claim has it -/
theorem lw_ret {p : Program} {l : Launch} {e : Env} {s : State} {m : MethodId} {below : List Frame} {meth : Method} {c : Code} {b : Nat} (hx : p.tables.exec = Jvm.exec) (hb : c.code = code) (hr : meth.sig.returnType = ret) (hlocks : meth.locks = false) {pc : Nat} {H : Heap} {ls : Array Slot} (hdg : decode code pc = .ok (.ireturn, 1)) : W p l e room_1 s m #[Value.ref b] below meth c H [] 600000 7302250 (lw_Z below #[Value.ref b] s) (F0 m pc ls [.int 1]) := by
  intro T hT X
  obtain ⟨fs, hret, hrun, hended, hW, hframe⟩ := X.leave (v := some (.int 1)) (hlocks := hlocks) (fun h => by rw [hr] at h; cases h)
  have hmeth' : T.vm.method? m = some meth := X.method'
  refine ⟨T.setFrames fs, ?_, .returned (some (.int 1)), hrun, hended, rfl, ⟨_, rfl⟩, hW, hframe⟩
  jvm_step X.here [X.here.top, hx, hb, hdg, hmeth', hr, ret, narrow_b1]
  (try refine ⟨rfl, ?_⟩); (try refine ⟨rfl, ?_⟩)
  first | (intro acts; rw [hret _ acts rfl rfl rfl]) | rw [hret _ _ rfl rfl rfl]
  exact Steps.refl _
/-- what holds at the law's entry: the machine, the code, the tables' words (any of lw_tbl by 'hts w (by decide +kernel)'), the script of L ints xs at the cell b, what the Statement gives of the start (any of its parts by flat_of_before) -/
def lw_At (p : Program) (s : State) (m : MethodId) (meth : Method) (c : Code) (b L : Nat) (xs : Nat → Int32) : Prop :=
  p.tables.exec = Jvm.exec ∧ c.code = code ∧ meth.sig.returnType = ret ∧ c.maxLocals = 4 ∧ s.vm.findClass R_law = some m.cls ∧ (∀ w ∈ lw_tbl, w.before #[Value.ref b] s = true) ∧ va_X b L xs s s.heap ∧ b < s.heap.size ∧ meth.locks = false ∧ (Jvm.Cond.and given_1 narrow_1).before #[Value.ref b] s = true
end
section
/-! ===== BEGIN words of one list among another's, by their places ===== -/
theorem goodIn_r {big : List Cond} (ws : List Cond) (ps : List Nat) (hp : ws = ps.filterMap (fun i => big[i]?)) (h : ws.all goodWord = true) : GoodIn big ws := by
  intro w hw
  have h1 := List.all_eq_true.mp h w hw
  rw [hp] at hw
  obtain ⟨i, -, hi⟩ := List.mem_filterMap.mp hw
  have hm : w ∈ big := by first | exact List.mem_of_getElem? hi | exact List.getElem?_mem hi
  exact ⟨hm, good_of_word h1⟩
theorem goodIn_app {big a b : List Cond} (ha : GoodIn big a) (hb : GoodIn big b) : GoodIn big (a ++ b) := fun w h => (List.mem_append.mp h).elim (ha w) (hb w)
theorem goodIn_ca {big a b : List Cond} {c : Cond} (ha : GoodIn big (c :: a)) (hb : GoodIn big b) : GoodIn big (c :: (a ++ b)) := fun w h => (List.mem_cons.mp h).elim (fun e => ha w (List.mem_cons.mpr (Or.inl e))) (fun h => (List.mem_append.mp h).elim (fun h => ha w (List.mem_cons.mpr (Or.inr h))) (hb w))
theorem goodIn_sub {big ws : List Cond} (hm : ∀ w ∈ ws, w ∈ big) (h : ws.all goodWord = true) : GoodIn big ws := fun w hw => ⟨hm w hw, good_of_word (List.all_eq_true.mp h w hw)⟩
/-! ===== END ===== -/

/-! ===== BEGIN printed: names, fields, word lists, decode rows ===== -/
def RX0 : String := "GlulxHeap$Code"
def TX0 : u_T := fun k => match k with
  | 0 => ("GlulxHeap$Code", "bytes", "[B", false)
  | _ => ("GlulxHeap$Code", "length", "I", false)
def tyX0 : Nat → FieldType := fun k => match k with
  | 0 => .array .byte
  | _ => .int
abbrev wsX00 : List Cond := u_ws RX0 TX0 2
theorem nmX0 : ∀ a, a < 2 → ∀ b, b < 2 → a ≠ b → (TX0 a).2.1 ≠ (TX0 b).2.1 := by decide +kernel
theorem tyX0_ok : ∀ k, k < 2 → parseFieldDescriptor (TX0 k).2.2.1 = some (tyX0 k) := by decide +kernel
abbrev cX0_init : ByteArray := prog_2_method_1_code
def yX0_init : MethodName := ⟨RX0, "<init>", "()V"⟩
abbrev cX0_has : ByteArray := prog_2_method_2_code
def yX0_has : MethodName := ⟨RX0, "has", "(I)Z"⟩
abbrev cX0_byteAt : ByteArray := prog_2_method_3_code
def yX0_byteAt : MethodName := ⟨RX0, "byteAt", "(I)I"⟩
abbrev cX0_pairAt : ByteArray := prog_2_method_4_code
def yX0_pairAt : MethodName := ⟨RX0, "pairAt", "(I)I"⟩
abbrev cX0_append : ByteArray := prog_2_method_5_code
def yX0_append : MethodName := ⟨RX0, "append", "(I)V"⟩
abbrev cX0_appendPair : ByteArray := prog_2_method_6_code
def yX0_appendPair : MethodName := ⟨RX0, "appendPair", "(I)V"⟩
abbrev cX0_tell : ByteArray := prog_2_method_7_code
def yX0_tell : MethodName := ⟨RX0, "tell", "(LGlulxHeap$State;)V"⟩
abbrev cX0_tellBytes : ByteArray := prog_2_method_8_code
def yX0_tellBytes : MethodName := ⟨RX0, "tellBytes", "(LGlulxHeap$State;)V"⟩
abbrev cX0_unfold : ByteArray := prog_2_method_9_code
def yX0_unfold : MethodName := ⟨RX0, "unfold", "(LGlulxHeap$State;)I"⟩
abbrev cX0_unfoldHead : ByteArray := prog_2_method_10_code
def yX0_unfoldHead : MethodName := ⟨RX0, "unfoldHead", "(LGlulxHeap$State;)I"⟩
abbrev cX0_unfoldBlocks : ByteArray := prog_2_method_11_code
def yX0_unfoldBlocks : MethodName := ⟨RX0, "unfoldBlocks", "(LGlulxHeap$State;)I"⟩
abbrev cX0_unfoldBytes : ByteArray := prog_2_method_12_code
def yX0_unfoldBytes : MethodName := ⟨RX0, "unfoldBytes", "(LGlulxHeap$State;)I"⟩
def RX1 : String := "GlulxHeap$Key"
def TX1 : u_T := fun k => match k with
  | 0 => ("GlulxHeap$Key", "bytes", "[B", true)
  | _ => ("GlulxHeap$Key", "length", "I", false)
def tyX1 : Nat → FieldType := fun k => match k with
  | 0 => .array .byte
  | _ => .int
abbrev wsX10 : List Cond := u_ws RX1 TX1 2
theorem nmX1 : ∀ a, a < 2 → ∀ b, b < 2 → a ≠ b → (TX1 a).2.1 ≠ (TX1 b).2.1 := by decide +kernel
theorem tyX1_ok : ∀ k, k < 2 → parseFieldDescriptor (TX1 k).2.2.1 = some (tyX1 k) := by decide +kernel
abbrev cX1_init : ByteArray := prog_3_method_1_code
def yX1_init : MethodName := ⟨RX1, "<init>", "()V"⟩
abbrev cX1_load : ByteArray := prog_3_method_2_code
def yX1_load : MethodName := ⟨RX1, "load", "(LGlulxHeap$State;III)Z"⟩
abbrev cX1_orderOf : ByteArray := prog_3_method_3_code
def yX1_orderOf : MethodName := ⟨RX1, "orderOf", "(LGlulxHeap$State;I)I"⟩
def RX2 : String := "GlulxHeap$State"
def TX2 : u_T := fun k => match k with
  | 0 => ("GlulxHeap$State", "bytes", "[B", true)
  | 1 => ("GlulxHeap$State", "places", "[I", true)
  | 2 => ("GlulxHeap$State", "lengths", "[I", true)
  | 3 => ("GlulxHeap$State", "size", "I", false)
  | 4 => ("GlulxHeap$State", "start", "I", false)
  | _ => ("GlulxHeap$State", "used", "I", false)
def tyX2 : Nat → FieldType := fun k => match k with
  | 0 => .array .byte
  | 1 => .array .int
  | 2 => .array .int
  | 3 => .int
  | 4 => .int
  | _ => .int
abbrev wsX20 : List Cond := u_ws RX2 TX2 6
theorem nmX2 : ∀ a, a < 6 → ∀ b, b < 6 → a ≠ b → (TX2 a).2.1 ≠ (TX2 b).2.1 := by decide +kernel
theorem tyX2_ok : ∀ k, k < 6 → parseFieldDescriptor (TX2 k).2.2.1 = some (tyX2 k) := by decide +kernel
abbrev cX2_init : ByteArray := prog_4_method_1_code
def yX2_init : MethodName := ⟨RX2, "<init>", "()V"⟩
abbrev cX2_begin : ByteArray := prog_4_method_2_code
def yX2_begin : MethodName := ⟨RX2, "begin", "()V"⟩
abbrev cX2_become : ByteArray := prog_4_method_3_code
def yX2_become : MethodName := ⟨RX2, "become", "(LGlulxHeap$State;)V"⟩
abbrev cX2_isLike : ByteArray := prog_4_method_4_code
def yX2_isLike : MethodName := ⟨RX2, "isLike", "(LGlulxHeap$State;)Z"⟩
abbrev cX2_first : ByteArray := prog_4_method_5_code
def yX2_first : MethodName := ⟨RX2, "first", "(I)I"⟩
abbrev cX2_difference : ByteArray := prog_4_method_6_code
def yX2_difference : MethodName := ⟨RX2, "difference", "(I)I"⟩
abbrev cX2_has : ByteArray := prog_4_method_7_code
def yX2_has : MethodName := ⟨RX2, "has", "(JI)Z"⟩
abbrev cX2_number : ByteArray := prog_4_method_8_code
def yX2_number : MethodName := ⟨RX2, "number", "(II)J"⟩
abbrev cX2_store : ByteArray := prog_4_method_9_code
def yX2_store : MethodName := ⟨RX2, "store", "(III)V"⟩
abbrev cX2_allZero : ByteArray := prog_4_method_10_code
def yX2_allZero : MethodName := ⟨RX2, "allZero", "(II)Z"⟩
abbrev cX2_changeSize : ByteArray := prog_4_method_11_code
def yX2_changeSize : MethodName := ⟨RX2, "changeSize", "(I)V"⟩
abbrev cX2_gapBegin : ByteArray := prog_4_method_12_code
def yX2_gapBegin : MethodName := ⟨RX2, "gapBegin", "(I)I"⟩
abbrev cX2_gapLength : ByteArray := prog_4_method_13_code
def yX2_gapLength : MethodName := ⟨RX2, "gapLength", "(I)I"⟩
abbrev cX2_gapFor : ByteArray := prog_4_method_14_code
def yX2_gapFor : MethodName := ⟨RX2, "gapFor", "(I)I"⟩
abbrev cX2_gapCount : ByteArray := prog_4_method_15_code
def yX2_gapCount : MethodName := ⟨RX2, "gapCount", "()I"⟩
abbrev cX2_usedBytes : ByteArray := prog_4_method_16_code
def yX2_usedBytes : MethodName := ⟨RX2, "usedBytes", "()I"⟩
abbrev cX2_blockAt : ByteArray := prog_4_method_17_code
def yX2_blockAt : MethodName := ⟨RX2, "blockAt", "(I)I"⟩
abbrev cX2_addBlock : ByteArray := prog_4_method_18_code
def yX2_addBlock : MethodName := ⟨RX2, "addBlock", "(III)V"⟩
abbrev cX2_removeBlock : ByteArray := prog_4_method_19_code
def yX2_removeBlock : MethodName := ⟨RX2, "removeBlock", "(I)V"⟩
abbrev cX2_changedEnd : ByteArray := prog_4_method_20_code
def yX2_changedEnd : MethodName := ⟨RX2, "changedEnd", "()I"⟩
abbrev cX2_unchangedRow : ByteArray := prog_4_method_21_code
def yX2_unchangedRow : MethodName := ⟨RX2, "unchangedRow", "(II)I"⟩
def RX3 : String := "GlulxHeap"
def TX3 : u_T := fun k => match k with
  | 0 => ("GlulxHeap", "kept", "[LGlulxHeap$State;", true)
  | 1 => ("GlulxHeap", "wanted", "LGlulxHeap$Key;", true)
  | 2 => ("GlulxHeap", "script", "LGlulxHeap$Code;", true)
  | 3 => ("GlulxHeap", "now", "LGlulxHeap$State;", false)
  | 4 => ("GlulxHeap", "spare", "LGlulxHeap$State;", false)
  | 5 => ("GlulxHeap", "keptCount", "I", false)
  | 6 => ("GlulxHeap", "protectedAt", "I", false)
  | _ => ("GlulxHeap", "protectedLength", "I", false)
def tyX3 : Nat → FieldType := fun k => match k with
  | 0 => .array (.object "GlulxHeap$State")
  | 1 => .object "GlulxHeap$Key"
  | 2 => .object "GlulxHeap$Code"
  | 3 => .object "GlulxHeap$State"
  | 4 => .object "GlulxHeap$State"
  | 5 => .int
  | 6 => .int
  | _ => .int
abbrev wsX30 : List Cond := u_ws RX3 TX3 8
theorem nmX3 : ∀ a, a < 8 → ∀ b, b < 8 → a ≠ b → (TX3 a).2.1 ≠ (TX3 b).2.1 := by decide +kernel
theorem tyX3_ok : ∀ k, k < 8 → parseFieldDescriptor (TX3 k).2.2.1 = some (tyX3 k) := by decide +kernel
abbrev cX3_init : ByteArray := prog_1_method_1_code
def yX3_init : MethodName := ⟨RX3, "<init>", "()V"⟩
abbrev cX3_get : ByteArray := prog_1_method_2_code
def yX3_get : MethodName := ⟨RX3, "get", "(II)J"⟩
abbrev cX3_set : ByteArray := prog_1_method_3_code
def yX3_set : MethodName := ⟨RX3, "set", "(III)I"⟩
abbrev cX3_zero : ByteArray := prog_1_method_4_code
def yX3_zero : MethodName := ⟨RX3, "zero", "(II)I"⟩
abbrev cX3_copy : ByteArray := prog_1_method_5_code
def yX3_copy : MethodName := ⟨RX3, "copy", "(III)I"⟩
abbrev cX3_resize : ByteArray := prog_1_method_6_code
def yX3_resize : MethodName := ⟨RX3, "resize", "(I)I"⟩
abbrev cX3_writeRefusal : ByteArray := prog_1_method_7_code
def yX3_writeRefusal : MethodName := ⟨RX3, "writeRefusal", "(II)I"⟩
abbrev cX3_isWidth : ByteArray := prog_1_method_8_code
def yX3_isWidth : MethodName := ⟨RX3, "isWidth", "(I)Z"⟩
abbrev cX3_isSize : ByteArray := prog_1_method_9_code
def yX3_isSize : MethodName := ⟨RX3, "isSize", "(I)Z"⟩
abbrev cX3_make : ByteArray := prog_1_method_10_code
def yX3_make : MethodName := ⟨RX3, "make", "(I)I"⟩
abbrev cX3_free : ByteArray := prog_1_method_11_code
def yX3_free : MethodName := ⟨RX3, "free", "(I)I"⟩
abbrev cX3_block : ByteArray := prog_1_method_12_code
def yX3_block : MethodName := ⟨RX3, "block", "(II)I"⟩
abbrev cX3_linear : ByteArray := prog_1_method_13_code
def yX3_linear : MethodName := ⟨RX3, "linear", "(IIIIIII)I"⟩
abbrev cX3_binary : ByteArray := prog_1_method_14_code
def yX3_binary : MethodName := ⟨RX3, "binary", "(IIIIIII)I"⟩
abbrev cX3_linked : ByteArray := prog_1_method_15_code
def yX3_linked : MethodName := ⟨RX3, "linked", "(IIIIII)I"⟩
abbrev cX3_isSearch : ByteArray := prog_1_method_16_code
def yX3_isSearch : MethodName := ⟨RX3, "isSearch", "(IIII)Z"⟩
abbrev cX3_look : ByteArray := prog_1_method_17_code
def yX3_look : MethodName := ⟨RX3, "look", "(JI)I"⟩
abbrev cX3_foundAnswer : ByteArray := prog_1_method_18_code
def yX3_foundAnswer : MethodName := ⟨RX3, "foundAnswer", "(IJI)I"⟩
abbrev cX3_noneAnswer : ByteArray := prog_1_method_19_code
def yX3_noneAnswer : MethodName := ⟨RX3, "noneAnswer", "(I)I"⟩
abbrev cX3_protect : ByteArray := prog_1_method_20_code
def yX3_protect : MethodName := ⟨RX3, "protect", "(II)I"⟩
abbrev cX3_keep : ByteArray := prog_1_method_21_code
def yX3_keep : MethodName := ⟨RX3, "keep", "()I"⟩
abbrev cX3_back : ByteArray := prog_1_method_22_code
def yX3_back : MethodName := ⟨RX3, "back", "()I"⟩
abbrev cX3_restart : ByteArray := prog_1_method_23_code
def yX3_restart : MethodName := ⟨RX3, "restart", "()I"⟩
abbrev cX3_same : ByteArray := prog_1_method_24_code
def yX3_same : MethodName := ⟨RX3, "same", "()I"⟩
abbrev cX3_lastKept : ByteArray := prog_1_method_25_code
def yX3_lastKept : MethodName := ⟨RX3, "lastKept", "()LGlulxHeap$State;"⟩
abbrev cX3_spareState : ByteArray := prog_1_method_26_code
def yX3_spareState : MethodName := ⟨RX3, "spareState", "()LGlulxHeap$State;"⟩
abbrev cX3_comeBack : ByteArray := prog_1_method_27_code
def yX3_comeBack : MethodName := ⟨RX3, "comeBack", "(LGlulxHeap$State;)V"⟩
abbrev cX3_write : ByteArray := prog_1_method_28_code
def yX3_write : MethodName := ⟨RX3, "write", "()I"⟩
abbrev cX3_code : ByteArray := prog_1_method_29_code
def yX3_code : MethodName := ⟨RX3, "code", "(I)I"⟩
abbrev cX3_poke : ByteArray := prog_1_method_30_code
def yX3_poke : MethodName := ⟨RX3, "poke", "(II)I"⟩
abbrev cX3_cut : ByteArray := prog_1_method_31_code
def yX3_cut : MethodName := ⟨RX3, "cut", "(I)I"⟩
abbrev cX3_read : ByteArray := prog_1_method_32_code
def yX3_read : MethodName := ⟨RX3, "read", "()I"⟩
abbrev cX3_told : ByteArray := prog_1_method_33_code
def yX3_told : MethodName := ⟨RX3, "told", "(I)I"⟩
def RX4 : String := "GlulxHeapModel"
def TX4 : u_T := fun k => match k with
  | 0 => ("GlulxHeapModel", "memory", "[I", true)
  | 1 => ("GlulxHeapModel", "size", "I", false)
  | 2 => ("GlulxHeapModel", "start", "I", false)
  | 3 => ("GlulxHeapModel", "used", "I", false)
  | 4 => ("GlulxHeapModel", "place", "[I", true)
  | 5 => ("GlulxHeapModel", "length", "[I", true)
  | 6 => ("GlulxHeapModel", "kept", "I", false)
  | 7 => ("GlulxHeapModel", "keptMemory", "[I", true)
  | 8 => ("GlulxHeapModel", "keptSize", "[I", true)
  | 9 => ("GlulxHeapModel", "keptStart", "[I", true)
  | 10 => ("GlulxHeapModel", "keptUsed", "[I", true)
  | 11 => ("GlulxHeapModel", "keptPlace", "[I", true)
  | 12 => ("GlulxHeapModel", "keptLength", "[I", true)
  | 13 => ("GlulxHeapModel", "guardAt", "I", false)
  | 14 => ("GlulxHeapModel", "guardLong", "I", false)
  | 15 => ("GlulxHeapModel", "code", "[I", true)
  | 16 => ("GlulxHeapModel", "codeSize", "I", false)
  | _ => ("GlulxHeapModel", "wanted", "[I", true)
def tyX4 : Nat → FieldType := fun k => match k with
  | 0 => .array .int
  | 1 => .int
  | 2 => .int
  | 3 => .int
  | 4 => .array .int
  | 5 => .array .int
  | 6 => .int
  | 7 => .array .int
  | 8 => .array .int
  | 9 => .array .int
  | 10 => .array .int
  | 11 => .array .int
  | 12 => .array .int
  | 13 => .int
  | 14 => .int
  | 15 => .array .int
  | 16 => .int
  | _ => .array .int
abbrev wsX40 : List Cond := u_ws RX4 TX4 18
theorem nmX4 : ∀ a, a < 18 → ∀ b, b < 18 → a ≠ b → (TX4 a).2.1 ≠ (TX4 b).2.1 := by decide +kernel
theorem tyX4_ok : ∀ k, k < 18 → parseFieldDescriptor (TX4 k).2.2.1 = some (tyX4 k) := by decide +kernel
abbrev cX4_init : ByteArray := prog_6_method_1_code
def yX4_init : MethodName := ⟨RX4, "<init>", "()V"⟩
abbrev cX4_first : ByteArray := prog_6_method_2_code
def yX4_first : MethodName := ⟨RX4, "first", "(I)I"⟩
abbrev cX4_isIn : ByteArray := prog_6_method_3_code
def yX4_isIn : MethodName := ⟨RX4, "isIn", "(JJ)Z"⟩
abbrev cX4_isWidth : ByteArray := prog_6_method_4_code
def yX4_isWidth : MethodName := ⟨RX4, "isWidth", "(I)Z"⟩
abbrev cX4_number : ByteArray := prog_6_method_5_code
def yX4_number : MethodName := ⟨RX4, "number", "(II)J"⟩
abbrev cX4_get : ByteArray := prog_6_method_6_code
def yX4_get : MethodName := ⟨RX4, "get", "(II)J"⟩
abbrev cX4_set : ByteArray := prog_6_method_7_code
def yX4_set : MethodName := ⟨RX4, "set", "(III)I"⟩
abbrev cX4_zero : ByteArray := prog_6_method_8_code
def yX4_zero : MethodName := ⟨RX4, "zero", "(II)I"⟩
abbrev cX4_copy : ByteArray := prog_6_method_9_code
def yX4_copy : MethodName := ⟨RX4, "copy", "(III)I"⟩
abbrev cX4_grow : ByteArray := prog_6_method_10_code
def yX4_grow : MethodName := ⟨RX4, "grow", "(I)V"⟩
abbrev cX4_isSize : ByteArray := prog_6_method_11_code
def yX4_isSize : MethodName := ⟨RX4, "isSize", "(I)Z"⟩
abbrev cX4_resize : ByteArray := prog_6_method_12_code
def yX4_resize : MethodName := ⟨RX4, "resize", "(I)I"⟩
abbrev cX4_behind : ByteArray := prog_6_method_13_code
def yX4_behind : MethodName := ⟨RX4, "behind", "(I)I"⟩
abbrev cX4_gapAt : ByteArray := prog_6_method_14_code
def yX4_gapAt : MethodName := ⟨RX4, "gapAt", "(I)I"⟩
abbrev cX4_gapEnd : ByteArray := prog_6_method_15_code
def yX4_gapEnd : MethodName := ⟨RX4, "gapEnd", "(I)I"⟩
abbrev cX4_make : ByteArray := prog_6_method_16_code
def yX4_make : MethodName := ⟨RX4, "make", "(I)I"⟩
abbrev cX4_free : ByteArray := prog_6_method_17_code
def yX4_free : MethodName := ⟨RX4, "free", "(I)I"⟩
abbrev cX4_block : ByteArray := prog_6_method_18_code
def yX4_block : MethodName := ⟨RX4, "block", "(II)I"⟩
abbrev cX4_isKey : ByteArray := prog_6_method_19_code
def yX4_isKey : MethodName := ⟨RX4, "isKey", "(II)Z"⟩
abbrev cX4_isTaken : ByteArray := prog_6_method_20_code
def yX4_isTaken : MethodName := ⟨RX4, "isTaken", "(III)Z"⟩
abbrev cX4_compare : ByteArray := prog_6_method_21_code
def yX4_compare : MethodName := ⟨RX4, "compare", "(II)I"⟩
abbrev cX4_isZero : ByteArray := prog_6_method_22_code
def yX4_isZero : MethodName := ⟨RX4, "isZero", "(II)Z"⟩
abbrev cX4_linear : ByteArray := prog_6_method_23_code
def yX4_linear : MethodName := ⟨RX4, "linear", "(IIIIIII)I"⟩
abbrev cX4_binary : ByteArray := prog_6_method_24_code
def yX4_binary : MethodName := ⟨RX4, "binary", "(IIIIIII)I"⟩
abbrev cX4_linked : ByteArray := prog_6_method_25_code
def yX4_linked : MethodName := ⟨RX4, "linked", "(IIIIII)I"⟩
abbrev cX4_protect : ByteArray := prog_6_method_26_code
def yX4_protect : MethodName := ⟨RX4, "protect", "(II)I"⟩
abbrev cX4_keep : ByteArray := prog_6_method_27_code
def yX4_keep : MethodName := ⟨RX4, "keep", "()I"⟩
abbrev cX4_come : ByteArray := prog_6_method_28_code
def yX4_come : MethodName := ⟨RX4, "come", "(I)V"⟩
abbrev cX4_back : ByteArray := prog_6_method_29_code
def yX4_back : MethodName := ⟨RX4, "back", "()I"⟩
abbrev cX4_restart : ByteArray := prog_6_method_30_code
def yX4_restart : MethodName := ⟨RX4, "restart", "()I"⟩
abbrev cX4_same : ByteArray := prog_6_method_31_code
def yX4_same : MethodName := ⟨RX4, "same", "()I"⟩
abbrev cX4_put : ByteArray := prog_6_method_32_code
def yX4_put : MethodName := ⟨RX4, "put", "(I)V"⟩
abbrev cX4_putTwo : ByteArray := prog_6_method_33_code
def yX4_putTwo : MethodName := ⟨RX4, "putTwo", "(I)V"⟩
abbrev cX4_write : ByteArray := prog_6_method_34_code
def yX4_write : MethodName := ⟨RX4, "write", "()I"⟩
abbrev cX4_code : ByteArray := prog_6_method_35_code
def yX4_code : MethodName := ⟨RX4, "code", "(I)I"⟩
abbrev cX4_poke : ByteArray := prog_6_method_36_code
def yX4_poke : MethodName := ⟨RX4, "poke", "(II)I"⟩
abbrev cX4_cut : ByteArray := prog_6_method_37_code
def yX4_cut : MethodName := ⟨RX4, "cut", "(I)I"⟩
abbrev cX4_two : ByteArray := prog_6_method_38_code
def yX4_two : MethodName := ⟨RX4, "two", "(I)I"⟩
abbrev cX4_head : ByteArray := prog_6_method_39_code
def yX4_head : MethodName := ⟨RX4, "head", "()I"⟩
abbrev cX4_read : ByteArray := prog_6_method_40_code
def yX4_read : MethodName := ⟨RX4, "read", "()I"⟩
abbrev cX4_told : ByteArray := prog_6_method_41_code
def yX4_told : MethodName := ⟨RX4, "told", "(I)I"⟩
def RJ9 : String := "java/lang/Math"
def TJ9 : u_T := fun k => match k with
  | _ => ("", "", "", false)
def tyJ9 : Nat → FieldType := fun k => match k with
  | _ => .int
abbrev wsJ90 : List Cond := u_ws RJ9 TJ9 0
theorem nmJ9 : ∀ a, a < 0 → ∀ b, b < 0 → a ≠ b → (TJ9 a).2.1 ≠ (TJ9 b).2.1 := by decide +kernel
theorem tyJ9_ok : ∀ k, k < 0 → parseFieldDescriptor (TJ9 k).2.2.1 = some (tyJ9 k) := by decide +kernel
abbrev cJ9_min_7cf53 : ByteArray := prog_7_method_69_code
def yJ9_min_7cf53 : MethodName := ⟨RJ9, "min", "(II)I"⟩
def RJ10 : String := "java/lang/System"
def TJ10 : u_T := fun k => match k with
  | _ => ("", "", "", false)
def tyJ10 : Nat → FieldType := fun k => match k with
  | _ => .int
abbrev wsJ100 : List Cond := u_ws RJ10 TJ10 0
theorem nmJ10 : ∀ a, a < 0 → ∀ b, b < 0 → a ≠ b → (TJ10 a).2.1 ≠ (TJ10 b).2.1 := by decide +kernel
theorem tyJ10_ok : ∀ k, k < 0 → parseFieldDescriptor (TJ10 k).2.2.1 = some (tyJ10 k) := by decide +kernel
def RJ7 : String := "java/util/Arrays"
def TJ7 : u_T := fun k => match k with
  | _ => ("", "", "", false)
def tyJ7 : Nat → FieldType := fun k => match k with
  | _ => .int
abbrev wsJ70 : List Cond := u_ws RJ7 TJ7 0
theorem nmJ7 : ∀ a, a < 0 → ∀ b, b < 0 → a ≠ b → (TJ7 a).2.1 ≠ (TJ7 b).2.1 := by decide +kernel
theorem tyJ7_ok : ∀ k, k < 0 → parseFieldDescriptor (TJ7 k).2.2.1 = some (tyJ7 k) := by decide +kernel
abbrev cJ7_rangeCheck_23922 : ByteArray := prog_9_method_30_code
def yJ7_rangeCheck_23922 : MethodName := ⟨RJ7, "rangeCheck", "(III)V"⟩
abbrev cJ7_fill_031fb : ByteArray := prog_9_method_109_code
def yJ7_fill_031fb : MethodName := ⟨RJ7, "fill", "([BB)V"⟩
abbrev cJ7_fill_eb02e : ByteArray := prog_9_method_110_code
def yJ7_fill_eb02e : MethodName := ⟨RJ7, "fill", "([BIIB)V"⟩
def RL : String := "GlulxHeapLaw"
abbrev cL_law : ByteArray := code
def yL_law : MethodName := ⟨RL, "law", "([I)Z"⟩
def wsX0_init : List Cond := .code yX0_init cX0_init 1 none :: ([.methodLink RX0 3 objectInit, .instanceMethod objectInit, .code objectInit ⟨#[0xb1]⟩ 1 none, .arrayClass .byte, .fieldLink RX0 9 "GlulxHeap$Code" "bytes" "[B"] ++ wsX00)
def wsX0_has : List Cond := .code yX0_has cX0_has 2 (some .boolean) :: ([.fieldLink RX0 15 "GlulxHeap$Code" "length" "I"] ++ wsX00)
def wsX0_byteAt : List Cond := .code yX0_byteAt cX0_byteAt 2 (some .int) :: ([.fieldLink RX0 9 "GlulxHeap$Code" "bytes" "[B"] ++ wsX00)
def wsX0_pairAt : List Cond := .code yX0_pairAt cX0_pairAt 2 (some .int) :: ([.methodLink RX0 19 yX0_byteAt, .instanceMethod yX0_byteAt, .selects RX0 yX0_byteAt yX0_byteAt, .initialized RX0, .code yX0_byteAt cX0_byteAt 2 (some .int), .fieldLink RX0 9 "GlulxHeap$Code" "bytes" "[B"] ++ wsX00)
def wsX0_append : List Cond := .code yX0_append cX0_append 2 none :: ([.fieldLink RX0 15 "GlulxHeap$Code" "length" "I", .fieldLink RX0 9 "GlulxHeap$Code" "bytes" "[B"] ++ wsX00)
def wsX0_appendPair : List Cond := .code yX0_appendPair cX0_appendPair 2 none :: ([.methodLink RX0 23 yX0_append, .instanceMethod yX0_append, .selects RX0 yX0_append yX0_append, .initialized RX0, .code yX0_append cX0_append 2 none, .fieldLink RX0 15 "GlulxHeap$Code" "length" "I", .fieldLink RX0 9 "GlulxHeap$Code" "bytes" "[B"] ++ wsX00)
def wsX2_first : List Cond := .code yX2_first cX2_first 1 (some .int) :: ([])
def wsX2_difference : List Cond := .code yX2_difference cX2_difference 2 (some .int) :: ([.fieldLink RX2 9 "GlulxHeap$State" "bytes" "[B", .methodLink RX2 28 yX2_first, .static yX2_first, .initialized RX2, .code yX2_first cX2_first 1 (some .int)] ++ wsX20)
def wsX2_changedEnd : List Cond := .code yX2_changedEnd cX2_changedEnd 2 (some .int) :: ([.fieldLink RX2 32 "GlulxHeap$State" "size" "I", .methodLink RX2 61 yX2_difference, .instanceMethod yX2_difference, .selects RX2 yX2_difference yX2_difference, .initialized RX2, .code yX2_difference cX2_difference 2 (some .int), .fieldLink RX2 9 "GlulxHeap$State" "bytes" "[B", .methodLink RX2 28 yX2_first, .static yX2_first, .code yX2_first cX2_first 1 (some .int)] ++ wsX20)
def wsX2_unchangedRow : List Cond := .code yX2_unchangedRow cX2_unchangedRow 5 (some .int) :: ([.methodLink RX2 64 Lib.Math.min.name, .static Lib.Math.min.name, .initialized "java/lang/Math", .code Lib.Math.min.name Lib.Math.min.code 2 (some .int), .methodLink RX2 61 yX2_difference, .instanceMethod yX2_difference, .selects RX2 yX2_difference yX2_difference, .initialized RX2, .code yX2_difference cX2_difference 2 (some .int), .fieldLink RX2 9 "GlulxHeap$State" "bytes" "[B", .methodLink RX2 28 yX2_first, .static yX2_first, .code yX2_first cX2_first 1 (some .int)] ++ wsX20)
def wsX0_tellBytes_r1 : List Cond := [Cond.methodLink RX0 52 yX2_changedEnd, Cond.instanceMethod yX2_changedEnd, Cond.selects RX2 yX2_changedEnd yX2_changedEnd, Cond.initialized RX2, Cond.code yX2_changedEnd cX2_changedEnd 2 (some .int), Cond.fieldLink RX2 32 "GlulxHeap$State" "size" "I", Cond.methodLink RX2 61 yX2_difference, Cond.instanceMethod yX2_difference, Cond.selects RX2 yX2_difference yX2_difference, Cond.code yX2_difference cX2_difference 2 (some .int), Cond.fieldLink RX2 9 "GlulxHeap$State" "bytes" "[B", Cond.methodLink RX2 28 yX2_first, Cond.static yX2_first, Cond.code yX2_first cX2_first 1 (some .int), Cond.methodLink RX0 56 yX2_unchangedRow, Cond.instanceMethod yX2_unchangedRow, Cond.selects RX2 yX2_unchangedRow yX2_unchangedRow, Cond.code yX2_unchangedRow cX2_unchangedRow 5 (some .int), Cond.methodLink RX2 64 Lib.Math.min.name, Cond.static Lib.Math.min.name, Cond.initialized "java/lang/Math", Cond.code Lib.Math.min.name Lib.Math.min.code 2 (some .int), Cond.methodLink RX0 23 yX0_append, Cond.instanceMethod yX0_append]
def wsX0_tellBytes_r2 : List Cond := [Cond.selects RX0 yX0_append yX0_append, Cond.initialized RX0, Cond.code yX0_append cX0_append 2 none, Cond.fieldLink RX0 15 "GlulxHeap$Code" "length" "I", Cond.fieldLink RX0 9 "GlulxHeap$Code" "bytes" "[B", Cond.methodLink RX0 60 yX2_difference]
def wsX0_tellBytes : List Cond := .code yX0_tellBytes cX0_tellBytes 5 none :: ((wsX0_tellBytes_r1 ++ wsX0_tellBytes_r2) ++ wsX20 ++ wsX00)
def wsX0_tell_r1 : List Cond := [Cond.fieldLink RX0 9 "GlulxHeap$Code" "bytes" "[B", Cond.arrayClass .byte, Cond.fieldLink RX0 15 "GlulxHeap$Code" "length" "I", Cond.fieldLink RX0 27 "GlulxHeap$State" "size" "I", Cond.fieldLink RX0 35 "GlulxHeap$State" "start" "I", Cond.fieldLink RX0 38 "GlulxHeap$State" "used" "I", Cond.fieldLink RX0 41 "GlulxHeap$State" "places" "[I", Cond.fieldLink RX0 45 "GlulxHeap$State" "lengths" "[I", Cond.methodLink RX0 32 yX0_appendPair, Cond.instanceMethod yX0_appendPair, Cond.selects RX0 yX0_appendPair yX0_appendPair, Cond.initialized RX0, Cond.code yX0_appendPair cX0_appendPair 2 none, Cond.methodLink RX0 23 yX0_append, Cond.instanceMethod yX0_append, Cond.selects RX0 yX0_append yX0_append, Cond.code yX0_append cX0_append 2 none, Cond.methodLink RX0 48 yX0_tellBytes, Cond.instanceMethod yX0_tellBytes, Cond.selects RX0 yX0_tellBytes yX0_tellBytes, Cond.code yX0_tellBytes cX0_tellBytes 5 none, Cond.methodLink RX0 52 yX2_changedEnd, Cond.instanceMethod yX2_changedEnd, Cond.selects RX2 yX2_changedEnd yX2_changedEnd]
def wsX0_tell_r2 : List Cond := [Cond.initialized RX2, Cond.code yX2_changedEnd cX2_changedEnd 2 (some .int), Cond.fieldLink RX2 32 "GlulxHeap$State" "size" "I", Cond.methodLink RX2 61 yX2_difference, Cond.instanceMethod yX2_difference, Cond.selects RX2 yX2_difference yX2_difference, Cond.code yX2_difference cX2_difference 2 (some .int), Cond.fieldLink RX2 9 "GlulxHeap$State" "bytes" "[B", Cond.methodLink RX2 28 yX2_first, Cond.static yX2_first, Cond.code yX2_first cX2_first 1 (some .int), Cond.methodLink RX0 56 yX2_unchangedRow, Cond.instanceMethod yX2_unchangedRow, Cond.selects RX2 yX2_unchangedRow yX2_unchangedRow, Cond.code yX2_unchangedRow cX2_unchangedRow 5 (some .int), Cond.methodLink RX2 64 Lib.Math.min.name, Cond.static Lib.Math.min.name, Cond.initialized "java/lang/Math", Cond.code Lib.Math.min.name Lib.Math.min.code 2 (some .int), Cond.methodLink RX0 60 yX2_difference]
def wsX0_tell : List Cond := .code yX0_tell cX0_tell 3 none :: ((wsX0_tell_r1 ++ wsX0_tell_r2) ++ wsX00 ++ wsX20)
def wsJ7_fill_031fb : List Cond := .code yJ7_fill_031fb cJ7_fill_031fb 4 none :: ([])
def wsX2_begin : List Cond := .code yX2_begin cX2_begin 2 none :: ([.fieldLink RX2 9 "GlulxHeap$State" "bytes" "[B", .fieldLink RX2 32 "GlulxHeap$State" "size" "I", .fieldLink RX2 36 "GlulxHeap$State" "start" "I", .fieldLink RX2 39 "GlulxHeap$State" "used" "I", .methodLink RX2 22 yJ7_fill_031fb, .static yJ7_fill_031fb, .initialized RJ7, .code yJ7_fill_031fb cJ7_fill_031fb 4 none, .methodLink RX2 28 yX2_first, .static yX2_first, .initialized RX2, .code yX2_first cX2_first 1 (some .int)] ++ wsX20)
def wsX3_isSize : List Cond := .code yX3_isSize cX3_isSize 1 (some .boolean) :: ([])
def wsX0_unfoldHead : List Cond := .code yX0_unfoldHead cX0_unfoldHead 5 (some .int) :: ([.fieldLink RX0 15 "GlulxHeap$Code" "length" "I", .fieldLink RX0 27 "GlulxHeap$State" "size" "I", .fieldLink RX0 35 "GlulxHeap$State" "start" "I", .fieldLink RX0 38 "GlulxHeap$State" "used" "I", .methodLink RX0 76 yX0_pairAt, .instanceMethod yX0_pairAt, .selects RX0 yX0_pairAt yX0_pairAt, .initialized RX0, .code yX0_pairAt cX0_pairAt 2 (some .int), .methodLink RX0 19 yX0_byteAt, .instanceMethod yX0_byteAt, .selects RX0 yX0_byteAt yX0_byteAt, .code yX0_byteAt cX0_byteAt 2 (some .int), .fieldLink RX0 9 "GlulxHeap$Code" "bytes" "[B", .static yX3_isSize, .initialized RX3, .code yX3_isSize cX3_isSize 1 (some .boolean)] ++ wsX00 ++ wsX20)
def wsX0_unfoldBlocks : List Cond := .code yX0_unfoldBlocks cX0_unfoldBlocks 7 (some .int) :: ([.fieldLink RX0 35 "GlulxHeap$State" "start" "I", .fieldLink RX0 38 "GlulxHeap$State" "used" "I", .fieldLink RX0 15 "GlulxHeap$Code" "length" "I", .fieldLink RX0 27 "GlulxHeap$State" "size" "I", .fieldLink RX0 41 "GlulxHeap$State" "places" "[I", .fieldLink RX0 45 "GlulxHeap$State" "lengths" "[I", .methodLink RX0 76 yX0_pairAt, .instanceMethod yX0_pairAt, .selects RX0 yX0_pairAt yX0_pairAt, .initialized RX0, .code yX0_pairAt cX0_pairAt 2 (some .int), .methodLink RX0 19 yX0_byteAt, .instanceMethod yX0_byteAt, .selects RX0 yX0_byteAt yX0_byteAt, .code yX0_byteAt cX0_byteAt 2 (some .int), .fieldLink RX0 9 "GlulxHeap$Code" "bytes" "[B"] ++ wsX20 ++ wsX00)
def wsX0_unfoldBytes : List Cond := .code yX0_unfoldBytes cX0_unfoldBytes 5 (some .int) :: ([.fieldLink RX0 38 "GlulxHeap$State" "used" "I", .fieldLink RX0 15 "GlulxHeap$Code" "length" "I", .fieldLink RX0 27 "GlulxHeap$State" "size" "I", .fieldLink RX0 83 "GlulxHeap$State" "bytes" "[B", .methodLink RX0 19 yX0_byteAt, .instanceMethod yX0_byteAt, .selects RX0 yX0_byteAt yX0_byteAt, .initialized RX0, .code yX0_byteAt cX0_byteAt 2 (some .int), .fieldLink RX0 9 "GlulxHeap$Code" "bytes" "[B"] ++ wsX20 ++ wsX00)
def wsX0_unfold_r1 : List Cond := [Cond.methodLink RX0 63 yX2_begin, Cond.instanceMethod yX2_begin, Cond.selects RX2 yX2_begin yX2_begin, Cond.initialized RX2, Cond.code yX2_begin cX2_begin 2 none, Cond.fieldLink RX2 9 "GlulxHeap$State" "bytes" "[B", Cond.fieldLink RX2 32 "GlulxHeap$State" "size" "I", Cond.fieldLink RX2 36 "GlulxHeap$State" "start" "I", Cond.fieldLink RX2 39 "GlulxHeap$State" "used" "I", Cond.methodLink RX2 22 yJ7_fill_031fb, Cond.static yJ7_fill_031fb, Cond.initialized RJ7, Cond.code yJ7_fill_031fb cJ7_fill_031fb 4 none, Cond.methodLink RX2 28 yX2_first, Cond.static yX2_first, Cond.code yX2_first cX2_first 1 (some .int), Cond.methodLink RX0 66 yX0_unfoldHead, Cond.instanceMethod yX0_unfoldHead, Cond.selects RX0 yX0_unfoldHead yX0_unfoldHead, Cond.initialized RX0, Cond.code yX0_unfoldHead cX0_unfoldHead 5 (some .int), Cond.fieldLink RX0 15 "GlulxHeap$Code" "length" "I", Cond.fieldLink RX0 27 "GlulxHeap$State" "size" "I", Cond.fieldLink RX0 35 "GlulxHeap$State" "start" "I"]
def wsX0_unfold_r2 : List Cond := [Cond.fieldLink RX0 38 "GlulxHeap$State" "used" "I", Cond.methodLink RX0 76 yX0_pairAt, Cond.instanceMethod yX0_pairAt, Cond.selects RX0 yX0_pairAt yX0_pairAt, Cond.code yX0_pairAt cX0_pairAt 2 (some .int), Cond.methodLink RX0 19 yX0_byteAt, Cond.instanceMethod yX0_byteAt, Cond.selects RX0 yX0_byteAt yX0_byteAt, Cond.code yX0_byteAt cX0_byteAt 2 (some .int), Cond.fieldLink RX0 9 "GlulxHeap$Code" "bytes" "[B", Cond.static yX3_isSize, Cond.initialized RX3, Cond.code yX3_isSize cX3_isSize 1 (some .boolean), Cond.methodLink RX0 70 yX0_unfoldBlocks, Cond.instanceMethod yX0_unfoldBlocks, Cond.selects RX0 yX0_unfoldBlocks yX0_unfoldBlocks, Cond.code yX0_unfoldBlocks cX0_unfoldBlocks 7 (some .int), Cond.fieldLink RX0 41 "GlulxHeap$State" "places" "[I", Cond.fieldLink RX0 45 "GlulxHeap$State" "lengths" "[I", Cond.methodLink RX0 73 yX0_unfoldBytes, Cond.instanceMethod yX0_unfoldBytes, Cond.selects RX0 yX0_unfoldBytes yX0_unfoldBytes, Cond.code yX0_unfoldBytes cX0_unfoldBytes 5 (some .int), Cond.fieldLink RX0 83 "GlulxHeap$State" "bytes" "[B"]
def wsX0_unfold : List Cond := .code yX0_unfold cX0_unfold 3 (some .int) :: ((wsX0_unfold_r1 ++ wsX0_unfold_r2) ++ wsX20 ++ wsX00)
def wsX1_init : List Cond := .code yX1_init cX1_init 1 none :: ([.methodLink RX1 3 objectInit, .instanceMethod objectInit, .code objectInit ⟨#[0xb1]⟩ 1 none, .arrayClass .byte, .fieldLink RX1 9 "GlulxHeap$Key" "bytes" "[B"] ++ wsX10)
def wsX2_has : List Cond := .code yX2_has cX2_has 4 (some .boolean) :: ([.fieldLink RX2 32 "GlulxHeap$State" "size" "I"] ++ wsX20)
def wsX1_load : List Cond := .code yX1_load cX1_load 6 (some .boolean) :: ([.fieldLink RX1 15 "GlulxHeap$Key" "length" "I", .fieldLink RX1 9 "GlulxHeap$Key" "bytes" "[B", .fieldLink RX1 25 "GlulxHeap$State" "bytes" "[B", .methodLink RX1 26 arraycopyName, .native arraycopyName, .static arraycopyName, .initialized "java/lang/System", .methodLink RX1 19 yX2_has, .instanceMethod yX2_has, .selects RX2 yX2_has yX2_has, .initialized RX2, .code yX2_has cX2_has 4 (some .boolean), .fieldLink RX2 32 "GlulxHeap$State" "size" "I"] ++ wsX10 ++ wsX20)
def wsX1_orderOf : List Cond := .code yX1_orderOf cX1_orderOf 5 (some .int) :: ([.fieldLink RX1 15 "GlulxHeap$Key" "length" "I", .fieldLink RX1 25 "GlulxHeap$State" "bytes" "[B", .fieldLink RX1 9 "GlulxHeap$Key" "bytes" "[B"] ++ wsX10 ++ wsX20)
def wsX2_init : List Cond := .code yX2_init cX2_init 1 none :: ([.methodLink RX2 3 objectInit, .instanceMethod objectInit, .code objectInit ⟨#[0xb1]⟩ 1 none, .arrayClass .byte, .fieldLink RX2 9 "GlulxHeap$State" "bytes" "[B", .arrayClass .int, .fieldLink RX2 15 "GlulxHeap$State" "places" "[I", .fieldLink RX2 19 "GlulxHeap$State" "lengths" "[I"] ++ wsX20)
def wsX2_become : List Cond := .code yX2_become cX2_become 2 none :: ([.fieldLink RX2 9 "GlulxHeap$State" "bytes" "[B", .methodLink RX2 42 arraycopyName, .native arraycopyName, .static arraycopyName, .initialized "java/lang/System", .fieldLink RX2 15 "GlulxHeap$State" "places" "[I", .fieldLink RX2 19 "GlulxHeap$State" "lengths" "[I", .fieldLink RX2 32 "GlulxHeap$State" "size" "I", .fieldLink RX2 36 "GlulxHeap$State" "start" "I", .fieldLink RX2 39 "GlulxHeap$State" "used" "I"] ++ wsX20)
def wsX2_isLike : List Cond := .code yX2_isLike cX2_isLike 3 (some .boolean) :: ([.fieldLink RX2 32 "GlulxHeap$State" "size" "I", .fieldLink RX2 36 "GlulxHeap$State" "start" "I", .fieldLink RX2 39 "GlulxHeap$State" "used" "I", .fieldLink RX2 15 "GlulxHeap$State" "places" "[I", .fieldLink RX2 19 "GlulxHeap$State" "lengths" "[I", .fieldLink RX2 9 "GlulxHeap$State" "bytes" "[B"] ++ wsX20)
def wsX2_number : List Cond := .code yX2_number cX2_number 6 (some .long) :: ([.fieldLink RX2 9 "GlulxHeap$State" "bytes" "[B"] ++ wsX20)
def wsX2_store : List Cond := .code yX2_store cX2_store 6 none :: ([.fieldLink RX2 9 "GlulxHeap$State" "bytes" "[B"] ++ wsX20)
def wsX2_allZero : List Cond := .code yX2_allZero cX2_allZero 4 (some .boolean) :: ([.fieldLink RX2 9 "GlulxHeap$State" "bytes" "[B"] ++ wsX20)
def wsJ7_rangeCheck_23922 : List Cond := .code yJ7_rangeCheck_23922 cJ7_rangeCheck_23922 3 none :: ([])
def wsJ7_fill_eb02e : List Cond := .code yJ7_fill_eb02e cJ7_fill_eb02e 5 none :: ([.methodLink RJ7 13 yJ7_rangeCheck_23922, .static yJ7_rangeCheck_23922, .initialized RJ7, .code yJ7_rangeCheck_23922 cJ7_rangeCheck_23922 3 none])
def wsX2_changeSize : List Cond := .code yX2_changeSize cX2_changeSize 2 none :: ([.fieldLink RX2 32 "GlulxHeap$State" "size" "I", .fieldLink RX2 9 "GlulxHeap$State" "bytes" "[B", .methodLink RX2 48 yJ7_fill_eb02e, .static yJ7_fill_eb02e, .initialized RJ7, .code yJ7_fill_eb02e cJ7_fill_eb02e 5 none, .methodLink RJ7 13 yJ7_rangeCheck_23922, .static yJ7_rangeCheck_23922, .code yJ7_rangeCheck_23922 cJ7_rangeCheck_23922 3 none] ++ wsX20)
def wsX2_gapBegin : List Cond := .code yX2_gapBegin cX2_gapBegin 2 (some .int) :: ([.fieldLink RX2 15 "GlulxHeap$State" "places" "[I", .fieldLink RX2 19 "GlulxHeap$State" "lengths" "[I", .fieldLink RX2 39 "GlulxHeap$State" "used" "I", .fieldLink RX2 32 "GlulxHeap$State" "size" "I", .fieldLink RX2 36 "GlulxHeap$State" "start" "I"] ++ wsX20)
def wsX2_gapLength : List Cond := .code yX2_gapLength cX2_gapLength 3 (some .int) :: ([.fieldLink RX2 39 "GlulxHeap$State" "used" "I", .fieldLink RX2 15 "GlulxHeap$State" "places" "[I", .fieldLink RX2 32 "GlulxHeap$State" "size" "I", .methodLink RX2 51 yX2_gapBegin, .instanceMethod yX2_gapBegin, .selects RX2 yX2_gapBegin yX2_gapBegin, .initialized RX2, .code yX2_gapBegin cX2_gapBegin 2 (some .int), .fieldLink RX2 19 "GlulxHeap$State" "lengths" "[I", .fieldLink RX2 36 "GlulxHeap$State" "start" "I"] ++ wsX20)
def wsX2_gapFor : List Cond := .code yX2_gapFor cX2_gapFor 3 (some .int) :: ([.fieldLink RX2 39 "GlulxHeap$State" "used" "I", .methodLink RX2 54 yX2_gapLength, .instanceMethod yX2_gapLength, .selects RX2 yX2_gapLength yX2_gapLength, .initialized RX2, .code yX2_gapLength cX2_gapLength 3 (some .int), .fieldLink RX2 15 "GlulxHeap$State" "places" "[I", .fieldLink RX2 32 "GlulxHeap$State" "size" "I", .methodLink RX2 51 yX2_gapBegin, .instanceMethod yX2_gapBegin, .selects RX2 yX2_gapBegin yX2_gapBegin, .code yX2_gapBegin cX2_gapBegin 2 (some .int), .fieldLink RX2 19 "GlulxHeap$State" "lengths" "[I", .fieldLink RX2 36 "GlulxHeap$State" "start" "I"] ++ wsX20)
def wsX2_gapCount : List Cond := .code yX2_gapCount cX2_gapCount 3 (some .int) :: ([.fieldLink RX2 39 "GlulxHeap$State" "used" "I", .methodLink RX2 54 yX2_gapLength, .instanceMethod yX2_gapLength, .selects RX2 yX2_gapLength yX2_gapLength, .initialized RX2, .code yX2_gapLength cX2_gapLength 3 (some .int), .fieldLink RX2 15 "GlulxHeap$State" "places" "[I", .fieldLink RX2 32 "GlulxHeap$State" "size" "I", .methodLink RX2 51 yX2_gapBegin, .instanceMethod yX2_gapBegin, .selects RX2 yX2_gapBegin yX2_gapBegin, .code yX2_gapBegin cX2_gapBegin 2 (some .int), .fieldLink RX2 19 "GlulxHeap$State" "lengths" "[I", .fieldLink RX2 36 "GlulxHeap$State" "start" "I"] ++ wsX20)
def wsX2_usedBytes : List Cond := .code yX2_usedBytes cX2_usedBytes 3 (some .int) :: ([.fieldLink RX2 39 "GlulxHeap$State" "used" "I", .fieldLink RX2 19 "GlulxHeap$State" "lengths" "[I"] ++ wsX20)
def wsX2_blockAt : List Cond := .code yX2_blockAt cX2_blockAt 3 (some .int) :: ([.fieldLink RX2 39 "GlulxHeap$State" "used" "I", .fieldLink RX2 15 "GlulxHeap$State" "places" "[I"] ++ wsX20)
def wsX2_addBlock : List Cond := .code yX2_addBlock cX2_addBlock 4 none :: ([.fieldLink RX2 39 "GlulxHeap$State" "used" "I", .fieldLink RX2 32 "GlulxHeap$State" "size" "I", .fieldLink RX2 36 "GlulxHeap$State" "start" "I", .fieldLink RX2 15 "GlulxHeap$State" "places" "[I", .methodLink RX2 42 arraycopyName, .native arraycopyName, .static arraycopyName, .initialized "java/lang/System", .fieldLink RX2 19 "GlulxHeap$State" "lengths" "[I", .methodLink RX2 57 yX2_changeSize, .instanceMethod yX2_changeSize, .selects RX2 yX2_changeSize yX2_changeSize, .initialized RX2, .code yX2_changeSize cX2_changeSize 2 none, .fieldLink RX2 9 "GlulxHeap$State" "bytes" "[B", .methodLink RX2 48 yJ7_fill_eb02e, .static yJ7_fill_eb02e, .initialized RJ7, .code yJ7_fill_eb02e cJ7_fill_eb02e 5 none, .methodLink RJ7 13 yJ7_rangeCheck_23922, .static yJ7_rangeCheck_23922, .code yJ7_rangeCheck_23922 cJ7_rangeCheck_23922 3 none] ++ wsX20)
def wsX2_removeBlock : List Cond := .code yX2_removeBlock cX2_removeBlock 2 none :: ([.fieldLink RX2 15 "GlulxHeap$State" "places" "[I", .fieldLink RX2 39 "GlulxHeap$State" "used" "I", .methodLink RX2 42 arraycopyName, .native arraycopyName, .static arraycopyName, .initialized "java/lang/System", .fieldLink RX2 19 "GlulxHeap$State" "lengths" "[I", .fieldLink RX2 36 "GlulxHeap$State" "start" "I", .methodLink RX2 57 yX2_changeSize, .instanceMethod yX2_changeSize, .selects RX2 yX2_changeSize yX2_changeSize, .initialized RX2, .code yX2_changeSize cX2_changeSize 2 none, .fieldLink RX2 32 "GlulxHeap$State" "size" "I", .fieldLink RX2 9 "GlulxHeap$State" "bytes" "[B", .methodLink RX2 48 yJ7_fill_eb02e, .static yJ7_fill_eb02e, .initialized RJ7, .code yJ7_fill_eb02e cJ7_fill_eb02e 5 none, .methodLink RJ7 13 yJ7_rangeCheck_23922, .static yJ7_rangeCheck_23922, .code yJ7_rangeCheck_23922 cJ7_rangeCheck_23922 3 none] ++ wsX20)
def wsX3_init_r1 : List Cond := [Cond.methodLink RX3 3 objectInit, Cond.instanceMethod objectInit, Cond.code objectInit ⟨#[0xb1]⟩ 1 none, Cond.classLink RX3 9 RX2, Cond.fieldLink RX3 11 "GlulxHeap" "kept" "[LGlulxHeap$State;", Cond.classLink RX3 15 RX1, Cond.instantiable RX1 2, Cond.initialized RX1, Cond.fieldLink RX3 18 "GlulxHeap" "wanted" "LGlulxHeap$Key;", Cond.classLink RX3 22 RX0, Cond.instantiable RX0 2, Cond.initialized RX0, Cond.fieldLink RX3 25 "GlulxHeap" "script" "LGlulxHeap$Code;", Cond.instantiable RX2 6, Cond.initialized RX2, Cond.fieldLink RX3 30 "GlulxHeap" "now" "LGlulxHeap$State;", Cond.instanceMethod yX1_init, Cond.code yX1_init cX1_init 1 none, Cond.methodLink RX1 3 objectInit, Cond.arrayClass .byte, Cond.fieldLink RX1 9 "GlulxHeap$Key" "bytes" "[B", Cond.instanceMethod yX0_init, Cond.code yX0_init cX0_init 1 none, Cond.methodLink RX0 3 objectInit]
def wsX3_init_r2 : List Cond := [Cond.fieldLink RX0 9 "GlulxHeap$Code" "bytes" "[B", Cond.instanceMethod yX2_init, Cond.code yX2_init cX2_init 1 none, Cond.methodLink RX2 3 objectInit, Cond.fieldLink RX2 9 "GlulxHeap$State" "bytes" "[B", Cond.arrayClass .int, Cond.fieldLink RX2 15 "GlulxHeap$State" "places" "[I", Cond.fieldLink RX2 19 "GlulxHeap$State" "lengths" "[I", Cond.methodLink RX3 34 yX2_begin, Cond.instanceMethod yX2_begin, Cond.selects RX2 yX2_begin yX2_begin, Cond.code yX2_begin cX2_begin 2 none, Cond.fieldLink RX2 32 "GlulxHeap$State" "size" "I", Cond.fieldLink RX2 36 "GlulxHeap$State" "start" "I", Cond.fieldLink RX2 39 "GlulxHeap$State" "used" "I", Cond.methodLink RX2 22 yJ7_fill_031fb, Cond.static yJ7_fill_031fb, Cond.initialized RJ7, Cond.code yJ7_fill_031fb cJ7_fill_031fb 4 none, Cond.methodLink RX2 28 yX2_first, Cond.static yX2_first, Cond.code yX2_first cX2_first 1 (some .int)]
def wsX3_init : List Cond := .code yX3_init cX3_init 1 none :: ((wsX3_init_r1 ++ wsX3_init_r2) ++ wsX30 ++ wsX10 ++ wsX00 ++ wsX20)
def wsX3_isWidth : List Cond := .code yX3_isWidth cX3_isWidth 1 (some .boolean) :: ([])
def wsX3_get : List Cond := .code yX3_get cX3_get 3 (some .long) :: ([.constantLong RX3 41 (-11), .fieldLink RX3 30 "GlulxHeap" "now" "LGlulxHeap$State;", .constantLong RX3 47 (-12), .methodLink RX3 37 yX3_isWidth, .static yX3_isWidth, .initialized RX3, .code yX3_isWidth cX3_isWidth 1 (some .boolean), .methodLink RX3 43 yX2_has, .instanceMethod yX2_has, .selects RX2 yX2_has yX2_has, .initialized RX2, .code yX2_has cX2_has 4 (some .boolean), .fieldLink RX2 32 "GlulxHeap$State" "size" "I", .methodLink RX3 49 yX2_number, .instanceMethod yX2_number, .selects RX2 yX2_number yX2_number, .code yX2_number cX2_number 6 (some .long), .fieldLink RX2 9 "GlulxHeap$State" "bytes" "[B"] ++ wsX30 ++ wsX20)
def wsX3_writeRefusal : List Cond := .code yX3_writeRefusal cX3_writeRefusal 3 (some .int) :: ([.fieldLink RX3 30 "GlulxHeap" "now" "LGlulxHeap$State;", .methodLink RX3 43 yX2_has, .instanceMethod yX2_has, .selects RX2 yX2_has yX2_has, .initialized RX2, .code yX2_has cX2_has 4 (some .boolean), .fieldLink RX2 32 "GlulxHeap$State" "size" "I"] ++ wsX30 ++ wsX20)
def wsX3_set : List Cond := .code yX3_set cX3_set 5 (some .int) :: ([.fieldLink RX3 30 "GlulxHeap" "now" "LGlulxHeap$State;", .methodLink RX3 37 yX3_isWidth, .static yX3_isWidth, .initialized RX3, .code yX3_isWidth cX3_isWidth 1 (some .boolean), .methodLink RX3 53 yX3_writeRefusal, .instanceMethod yX3_writeRefusal, .selects RX3 yX3_writeRefusal yX3_writeRefusal, .code yX3_writeRefusal cX3_writeRefusal 3 (some .int), .methodLink RX3 43 yX2_has, .instanceMethod yX2_has, .selects RX2 yX2_has yX2_has, .initialized RX2, .code yX2_has cX2_has 4 (some .boolean), .fieldLink RX2 32 "GlulxHeap$State" "size" "I", .methodLink RX3 57 yX2_store, .instanceMethod yX2_store, .selects RX2 yX2_store yX2_store, .code yX2_store cX2_store 6 none, .fieldLink RX2 9 "GlulxHeap$State" "bytes" "[B"] ++ wsX30 ++ wsX20)
def wsX3_zero : List Cond := .code yX3_zero cX3_zero 4 (some .int) :: ([.fieldLink RX3 30 "GlulxHeap" "now" "LGlulxHeap$State;", .fieldLink RX3 61 "GlulxHeap$State" "bytes" "[B", .methodLink RX3 53 yX3_writeRefusal, .instanceMethod yX3_writeRefusal, .selects RX3 yX3_writeRefusal yX3_writeRefusal, .initialized RX3, .code yX3_writeRefusal cX3_writeRefusal 3 (some .int), .methodLink RX3 43 yX2_has, .instanceMethod yX2_has, .selects RX2 yX2_has yX2_has, .initialized RX2, .code yX2_has cX2_has 4 (some .boolean), .fieldLink RX2 32 "GlulxHeap$State" "size" "I", .methodLink RX3 65 yJ7_fill_eb02e, .static yJ7_fill_eb02e, .initialized RJ7, .code yJ7_fill_eb02e cJ7_fill_eb02e 5 none, .methodLink RJ7 13 yJ7_rangeCheck_23922, .static yJ7_rangeCheck_23922, .code yJ7_rangeCheck_23922 cJ7_rangeCheck_23922 3 none] ++ wsX30 ++ wsX20)
def wsX3_copy : List Cond := .code yX3_copy cX3_copy 5 (some .int) :: ([.fieldLink RX3 30 "GlulxHeap" "now" "LGlulxHeap$State;", .fieldLink RX3 61 "GlulxHeap$State" "bytes" "[B", .methodLink RX3 71 arraycopyName, .native arraycopyName, .static arraycopyName, .initialized "java/lang/System", .methodLink RX3 43 yX2_has, .instanceMethod yX2_has, .selects RX2 yX2_has yX2_has, .initialized RX2, .code yX2_has cX2_has 4 (some .boolean), .fieldLink RX2 32 "GlulxHeap$State" "size" "I", .methodLink RX3 53 yX3_writeRefusal, .instanceMethod yX3_writeRefusal, .selects RX3 yX3_writeRefusal yX3_writeRefusal, .initialized RX3, .code yX3_writeRefusal cX3_writeRefusal 3 (some .int)] ++ wsX30 ++ wsX20)
def wsX3_resize : List Cond := .code yX3_resize cX3_resize 3 (some .int) :: ([.fieldLink RX3 30 "GlulxHeap" "now" "LGlulxHeap$State;", .fieldLink RX3 80 "GlulxHeap$State" "used" "I", .fieldLink RX3 84 "GlulxHeap$State" "size" "I", .methodLink RX3 77 yX3_isSize, .static yX3_isSize, .initialized RX3, .code yX3_isSize cX3_isSize 1 (some .boolean), .methodLink RX3 87 yX2_changeSize, .instanceMethod yX2_changeSize, .selects RX2 yX2_changeSize yX2_changeSize, .initialized RX2, .code yX2_changeSize cX2_changeSize 2 none, .fieldLink RX2 32 "GlulxHeap$State" "size" "I", .fieldLink RX2 9 "GlulxHeap$State" "bytes" "[B", .methodLink RX2 48 yJ7_fill_eb02e, .static yJ7_fill_eb02e, .initialized RJ7, .code yJ7_fill_eb02e cJ7_fill_eb02e 5 none, .methodLink RJ7 13 yJ7_rangeCheck_23922, .static yJ7_rangeCheck_23922, .code yJ7_rangeCheck_23922 cJ7_rangeCheck_23922 3 none] ++ wsX30 ++ wsX20)
def wsX3_make_r1 : List Cond := [Cond.fieldLink RX3 30 "GlulxHeap" "now" "LGlulxHeap$State;", Cond.fieldLink RX3 80 "GlulxHeap$State" "used" "I", Cond.methodLink RX3 91 yX2_gapFor, Cond.instanceMethod yX2_gapFor, Cond.selects RX2 yX2_gapFor yX2_gapFor, Cond.initialized RX2, Cond.code yX2_gapFor cX2_gapFor 3 (some .int), Cond.fieldLink RX2 39 "GlulxHeap$State" "used" "I", Cond.methodLink RX2 54 yX2_gapLength, Cond.instanceMethod yX2_gapLength, Cond.selects RX2 yX2_gapLength yX2_gapLength, Cond.code yX2_gapLength cX2_gapLength 3 (some .int), Cond.fieldLink RX2 15 "GlulxHeap$State" "places" "[I", Cond.fieldLink RX2 32 "GlulxHeap$State" "size" "I", Cond.methodLink RX2 51 yX2_gapBegin, Cond.instanceMethod yX2_gapBegin, Cond.selects RX2 yX2_gapBegin yX2_gapBegin, Cond.code yX2_gapBegin cX2_gapBegin 2 (some .int), Cond.fieldLink RX2 19 "GlulxHeap$State" "lengths" "[I", Cond.fieldLink RX2 36 "GlulxHeap$State" "start" "I", Cond.methodLink RX3 95 yX2_gapBegin, Cond.methodLink RX3 98 yX2_addBlock, Cond.instanceMethod yX2_addBlock, Cond.selects RX2 yX2_addBlock yX2_addBlock]
def wsX3_make_r2 : List Cond := [Cond.code yX2_addBlock cX2_addBlock 4 none, Cond.methodLink RX2 42 arraycopyName, Cond.native arraycopyName, Cond.static arraycopyName, Cond.initialized "java/lang/System", Cond.methodLink RX2 57 yX2_changeSize, Cond.instanceMethod yX2_changeSize, Cond.selects RX2 yX2_changeSize yX2_changeSize, Cond.code yX2_changeSize cX2_changeSize 2 none, Cond.fieldLink RX2 9 "GlulxHeap$State" "bytes" "[B", Cond.methodLink RX2 48 yJ7_fill_eb02e, Cond.static yJ7_fill_eb02e, Cond.initialized RJ7, Cond.code yJ7_fill_eb02e cJ7_fill_eb02e 5 none, Cond.methodLink RJ7 13 yJ7_rangeCheck_23922, Cond.static yJ7_rangeCheck_23922, Cond.code yJ7_rangeCheck_23922 cJ7_rangeCheck_23922 3 none]
def wsX3_make : List Cond := .code yX3_make cX3_make 4 (some .int) :: ((wsX3_make_r1 ++ wsX3_make_r2) ++ wsX30 ++ wsX20)
def wsX3_free_r1 : List Cond := [Cond.fieldLink RX3 30 "GlulxHeap" "now" "LGlulxHeap$State;", Cond.fieldLink RX3 104 "GlulxHeap$State" "lengths" "[I", Cond.methodLink RX3 101 yX2_blockAt, Cond.instanceMethod yX2_blockAt, Cond.selects RX2 yX2_blockAt yX2_blockAt, Cond.initialized RX2, Cond.code yX2_blockAt cX2_blockAt 3 (some .int), Cond.fieldLink RX2 39 "GlulxHeap$State" "used" "I", Cond.fieldLink RX2 15 "GlulxHeap$State" "places" "[I", Cond.methodLink RX3 108 yX2_removeBlock, Cond.instanceMethod yX2_removeBlock, Cond.selects RX2 yX2_removeBlock yX2_removeBlock, Cond.code yX2_removeBlock cX2_removeBlock 2 none, Cond.methodLink RX2 42 arraycopyName, Cond.native arraycopyName, Cond.static arraycopyName, Cond.initialized "java/lang/System", Cond.fieldLink RX2 19 "GlulxHeap$State" "lengths" "[I", Cond.fieldLink RX2 36 "GlulxHeap$State" "start" "I", Cond.methodLink RX2 57 yX2_changeSize, Cond.instanceMethod yX2_changeSize, Cond.selects RX2 yX2_changeSize yX2_changeSize, Cond.code yX2_changeSize cX2_changeSize 2 none, Cond.fieldLink RX2 32 "GlulxHeap$State" "size" "I"]
def wsX3_free_r2 : List Cond := [Cond.fieldLink RX2 9 "GlulxHeap$State" "bytes" "[B", Cond.methodLink RX2 48 yJ7_fill_eb02e, Cond.static yJ7_fill_eb02e, Cond.initialized RJ7, Cond.code yJ7_fill_eb02e cJ7_fill_eb02e 5 none, Cond.methodLink RJ7 13 yJ7_rangeCheck_23922, Cond.static yJ7_rangeCheck_23922, Cond.code yJ7_rangeCheck_23922 cJ7_rangeCheck_23922 3 none]
def wsX3_free : List Cond := .code yX3_free cX3_free 4 (some .int) :: ((wsX3_free_r1 ++ wsX3_free_r2) ++ wsX30 ++ wsX20)
def wsX3_block : List Cond := .code yX3_block cX3_block 3 (some .int) :: ([.fieldLink RX3 30 "GlulxHeap" "now" "LGlulxHeap$State;", .fieldLink RX3 80 "GlulxHeap$State" "used" "I", .fieldLink RX3 111 "GlulxHeap$State" "places" "[I", .fieldLink RX3 104 "GlulxHeap$State" "lengths" "[I", .methodLink RX3 114 yX2_gapLength, .instanceMethod yX2_gapLength, .selects RX2 yX2_gapLength yX2_gapLength, .initialized RX2, .code yX2_gapLength cX2_gapLength 3 (some .int), .fieldLink RX2 39 "GlulxHeap$State" "used" "I", .fieldLink RX2 15 "GlulxHeap$State" "places" "[I", .fieldLink RX2 32 "GlulxHeap$State" "size" "I", .methodLink RX2 51 yX2_gapBegin, .instanceMethod yX2_gapBegin, .selects RX2 yX2_gapBegin yX2_gapBegin, .code yX2_gapBegin cX2_gapBegin 2 (some .int), .fieldLink RX2 19 "GlulxHeap$State" "lengths" "[I", .fieldLink RX2 36 "GlulxHeap$State" "start" "I"] ++ wsX30 ++ wsX20)
def wsX3_isSearch : List Cond := .code yX3_isSearch cX3_isSearch 4 (some .boolean) :: ([.methodLink RX3 37 yX3_isWidth, .static yX3_isWidth, .initialized RX3, .code yX3_isWidth cX3_isWidth 1 (some .boolean)])
def wsX3_look : List Cond := .code yX3_look cX3_look 5 (some .int) :: ([.fieldLink RX3 30 "GlulxHeap" "now" "LGlulxHeap$State;", .fieldLink RX3 18 "GlulxHeap" "wanted" "LGlulxHeap$Key;", .fieldLink RX3 147 "GlulxHeap$Key" "length" "I", .methodLink RX3 43 yX2_has, .instanceMethod yX2_has, .selects RX2 yX2_has yX2_has, .initialized RX2, .code yX2_has cX2_has 4 (some .boolean), .fieldLink RX2 32 "GlulxHeap$State" "size" "I", .methodLink RX3 143 yX1_orderOf, .instanceMethod yX1_orderOf, .selects RX1 yX1_orderOf yX1_orderOf, .initialized RX1, .code yX1_orderOf cX1_orderOf 5 (some .int), .fieldLink RX1 15 "GlulxHeap$Key" "length" "I", .fieldLink RX1 25 "GlulxHeap$State" "bytes" "[B", .fieldLink RX1 9 "GlulxHeap$Key" "bytes" "[B", .methodLink RX3 150 yX2_allZero, .instanceMethod yX2_allZero, .selects RX2 yX2_allZero yX2_allZero, .code yX2_allZero cX2_allZero 4 (some .boolean), .fieldLink RX2 9 "GlulxHeap$State" "bytes" "[B"] ++ wsX30 ++ wsX10 ++ wsX20)
def wsX3_foundAnswer : List Cond := .code yX3_foundAnswer cX3_foundAnswer 4 (some .int) :: ([])
def wsX3_noneAnswer : List Cond := .code yX3_noneAnswer cX3_noneAnswer 1 (some .int) :: ([])
def wsX3_linear_r1 : List Cond := [Cond.fieldLink RX3 18 "GlulxHeap" "wanted" "LGlulxHeap$Key;", Cond.fieldLink RX3 30 "GlulxHeap" "now" "LGlulxHeap$State;", Cond.methodLink RX3 125 Lib.Math.min.name, Cond.static Lib.Math.min.name, Cond.initialized "java/lang/Math", Cond.code Lib.Math.min.name Lib.Math.min.code 2 (some .int), Cond.methodLink RX3 117 yX3_isSearch, Cond.static yX3_isSearch, Cond.initialized RX3, Cond.code yX3_isSearch cX3_isSearch 4 (some .boolean), Cond.methodLink RX3 37 yX3_isWidth, Cond.static yX3_isWidth, Cond.code yX3_isWidth cX3_isWidth 1 (some .boolean), Cond.methodLink RX3 121 yX1_load, Cond.instanceMethod yX1_load, Cond.selects RX1 yX1_load yX1_load, Cond.initialized RX1, Cond.code yX1_load cX1_load 6 (some .boolean), Cond.fieldLink RX1 15 "GlulxHeap$Key" "length" "I", Cond.fieldLink RX1 9 "GlulxHeap$Key" "bytes" "[B", Cond.fieldLink RX1 25 "GlulxHeap$State" "bytes" "[B", Cond.methodLink RX1 26 arraycopyName, Cond.native arraycopyName, Cond.static arraycopyName]
def wsX3_linear_r2 : List Cond := [Cond.initialized "java/lang/System", Cond.methodLink RX1 19 yX2_has, Cond.instanceMethod yX2_has, Cond.selects RX2 yX2_has yX2_has, Cond.initialized RX2, Cond.code yX2_has cX2_has 4 (some .boolean), Cond.fieldLink RX2 32 "GlulxHeap$State" "size" "I", Cond.methodLink RX3 130 yX3_look, Cond.instanceMethod yX3_look, Cond.selects RX3 yX3_look yX3_look, Cond.code yX3_look cX3_look 5 (some .int), Cond.fieldLink RX3 147 "GlulxHeap$Key" "length" "I", Cond.methodLink RX3 43 yX2_has, Cond.methodLink RX3 143 yX1_orderOf, Cond.instanceMethod yX1_orderOf, Cond.selects RX1 yX1_orderOf yX1_orderOf, Cond.code yX1_orderOf cX1_orderOf 5 (some .int), Cond.methodLink RX3 150 yX2_allZero, Cond.instanceMethod yX2_allZero, Cond.selects RX2 yX2_allZero yX2_allZero, Cond.code yX2_allZero cX2_allZero 4 (some .boolean), Cond.fieldLink RX2 9 "GlulxHeap$State" "bytes" "[B", Cond.methodLink RX3 134 yX3_foundAnswer, Cond.static yX3_foundAnswer]
def wsX3_linear_r3 : List Cond := [Cond.code yX3_foundAnswer cX3_foundAnswer 4 (some .int), Cond.methodLink RX3 138 yX3_noneAnswer, Cond.static yX3_noneAnswer, Cond.code yX3_noneAnswer cX3_noneAnswer 1 (some .int)]
def wsX3_linear : List Cond := .code yX3_linear cX3_linear 13 (some .int) :: ((wsX3_linear_r1 ++ (wsX3_linear_r2 ++ wsX3_linear_r3)) ++ wsX30 ++ wsX10 ++ wsX20)
def wsX3_binary_r1 : List Cond := [Cond.fieldLink RX3 18 "GlulxHeap" "wanted" "LGlulxHeap$Key;", Cond.fieldLink RX3 30 "GlulxHeap" "now" "LGlulxHeap$State;", Cond.constantLong RX3 141 (2), Cond.methodLink RX3 117 yX3_isSearch, Cond.static yX3_isSearch, Cond.initialized RX3, Cond.code yX3_isSearch cX3_isSearch 4 (some .boolean), Cond.methodLink RX3 37 yX3_isWidth, Cond.static yX3_isWidth, Cond.code yX3_isWidth cX3_isWidth 1 (some .boolean), Cond.methodLink RX3 121 yX1_load, Cond.instanceMethod yX1_load, Cond.selects RX1 yX1_load yX1_load, Cond.initialized RX1, Cond.code yX1_load cX1_load 6 (some .boolean), Cond.fieldLink RX1 15 "GlulxHeap$Key" "length" "I", Cond.fieldLink RX1 9 "GlulxHeap$Key" "bytes" "[B", Cond.fieldLink RX1 25 "GlulxHeap$State" "bytes" "[B", Cond.methodLink RX1 26 arraycopyName, Cond.native arraycopyName, Cond.static arraycopyName, Cond.initialized "java/lang/System", Cond.methodLink RX1 19 yX2_has, Cond.instanceMethod yX2_has]
def wsX3_binary_r2 : List Cond := [Cond.selects RX2 yX2_has yX2_has, Cond.initialized RX2, Cond.code yX2_has cX2_has 4 (some .boolean), Cond.fieldLink RX2 32 "GlulxHeap$State" "size" "I", Cond.methodLink RX3 43 yX2_has, Cond.methodLink RX3 143 yX1_orderOf, Cond.instanceMethod yX1_orderOf, Cond.selects RX1 yX1_orderOf yX1_orderOf, Cond.code yX1_orderOf cX1_orderOf 5 (some .int), Cond.methodLink RX3 134 yX3_foundAnswer, Cond.static yX3_foundAnswer, Cond.code yX3_foundAnswer cX3_foundAnswer 4 (some .int), Cond.methodLink RX3 138 yX3_noneAnswer, Cond.static yX3_noneAnswer, Cond.code yX3_noneAnswer cX3_noneAnswer 1 (some .int)]
def wsX3_binary : List Cond := .code yX3_binary cX3_binary 18 (some .int) :: ((wsX3_binary_r1 ++ wsX3_binary_r2) ++ wsX30 ++ wsX10 ++ wsX20)
def wsX3_linked_r1 : List Cond := [Cond.fieldLink RX3 18 "GlulxHeap" "wanted" "LGlulxHeap$Key;", Cond.fieldLink RX3 30 "GlulxHeap" "now" "LGlulxHeap$State;", Cond.methodLink RX3 117 yX3_isSearch, Cond.static yX3_isSearch, Cond.initialized RX3, Cond.code yX3_isSearch cX3_isSearch 4 (some .boolean), Cond.methodLink RX3 37 yX3_isWidth, Cond.static yX3_isWidth, Cond.code yX3_isWidth cX3_isWidth 1 (some .boolean), Cond.methodLink RX3 121 yX1_load, Cond.instanceMethod yX1_load, Cond.selects RX1 yX1_load yX1_load, Cond.initialized RX1, Cond.code yX1_load cX1_load 6 (some .boolean), Cond.fieldLink RX1 15 "GlulxHeap$Key" "length" "I", Cond.fieldLink RX1 9 "GlulxHeap$Key" "bytes" "[B", Cond.fieldLink RX1 25 "GlulxHeap$State" "bytes" "[B", Cond.methodLink RX1 26 arraycopyName, Cond.native arraycopyName, Cond.static arraycopyName, Cond.initialized "java/lang/System", Cond.methodLink RX1 19 yX2_has, Cond.instanceMethod yX2_has, Cond.selects RX2 yX2_has yX2_has]
def wsX3_linked_r2 : List Cond := [Cond.initialized RX2, Cond.code yX2_has cX2_has 4 (some .boolean), Cond.fieldLink RX2 32 "GlulxHeap$State" "size" "I", Cond.methodLink RX3 130 yX3_look, Cond.instanceMethod yX3_look, Cond.selects RX3 yX3_look yX3_look, Cond.code yX3_look cX3_look 5 (some .int), Cond.fieldLink RX3 147 "GlulxHeap$Key" "length" "I", Cond.methodLink RX3 43 yX2_has, Cond.methodLink RX3 143 yX1_orderOf, Cond.instanceMethod yX1_orderOf, Cond.selects RX1 yX1_orderOf yX1_orderOf, Cond.code yX1_orderOf cX1_orderOf 5 (some .int), Cond.methodLink RX3 150 yX2_allZero, Cond.instanceMethod yX2_allZero, Cond.selects RX2 yX2_allZero yX2_allZero, Cond.code yX2_allZero cX2_allZero 4 (some .boolean), Cond.fieldLink RX2 9 "GlulxHeap$State" "bytes" "[B", Cond.methodLink RX3 49 yX2_number, Cond.instanceMethod yX2_number, Cond.selects RX2 yX2_number yX2_number, Cond.code yX2_number cX2_number 6 (some .long)]
def wsX3_linked : List Cond := .code yX3_linked cX3_linked 11 (some .int) :: ((wsX3_linked_r1 ++ wsX3_linked_r2) ++ wsX30 ++ wsX10 ++ wsX20)
def wsX3_protect : List Cond := .code yX3_protect cX3_protect 3 (some .int) :: ([.fieldLink RX3 154 "GlulxHeap" "protectedAt" "I", .fieldLink RX3 157 "GlulxHeap" "protectedLength" "I"] ++ wsX30)
def wsX3_keep_r1 : List Cond := [Cond.fieldLink RX3 160 "GlulxHeap" "keptCount" "I", Cond.fieldLink RX3 11 "GlulxHeap" "kept" "[LGlulxHeap$State;", Cond.classLink RX3 9 RX2, Cond.instantiable RX2 6, Cond.initialized RX2, Cond.fieldLink RX3 30 "GlulxHeap" "now" "LGlulxHeap$State;", Cond.instanceMethod yX2_init, Cond.code yX2_init cX2_init 1 none, Cond.methodLink RX2 3 objectInit, Cond.instanceMethod objectInit, Cond.code objectInit ⟨#[0xb1]⟩ 1 none, Cond.arrayClass .byte, Cond.fieldLink RX2 9 "GlulxHeap$State" "bytes" "[B", Cond.arrayClass .int, Cond.fieldLink RX2 15 "GlulxHeap$State" "places" "[I", Cond.fieldLink RX2 19 "GlulxHeap$State" "lengths" "[I", Cond.methodLink RX3 163 yX2_become, Cond.instanceMethod yX2_become, Cond.selects RX2 yX2_become yX2_become, Cond.code yX2_become cX2_become 2 none, Cond.methodLink RX2 42 arraycopyName, Cond.native arraycopyName, Cond.static arraycopyName, Cond.initialized "java/lang/System"]
def wsX3_keep_r2 : List Cond := [Cond.fieldLink RX2 32 "GlulxHeap$State" "size" "I", Cond.fieldLink RX2 36 "GlulxHeap$State" "start" "I", Cond.fieldLink RX2 39 "GlulxHeap$State" "used" "I"]
def wsX3_keep : List Cond := .code yX3_keep cX3_keep 2 (some .int) :: ((wsX3_keep_r1 ++ wsX3_keep_r2) ++ wsX30 ++ wsX20)
def wsX3_lastKept : List Cond := .code yX3_lastKept cX3_lastKept 1 (some (.object "GlulxHeap$State")) :: ([.fieldLink RX3 160 "GlulxHeap" "keptCount" "I", .fieldLink RX3 11 "GlulxHeap" "kept" "[LGlulxHeap$State;"] ++ wsX30)
def wsX3_comeBack : List Cond := .code yX3_comeBack cX3_comeBack 3 none :: ([.fieldLink RX3 154 "GlulxHeap" "protectedAt" "I", .fieldLink RX3 157 "GlulxHeap" "protectedLength" "I", .fieldLink RX3 30 "GlulxHeap" "now" "LGlulxHeap$State;", .fieldLink RX3 84 "GlulxHeap$State" "size" "I", .methodLink RX3 125 Lib.Math.min.name, .static Lib.Math.min.name, .initialized "java/lang/Math", .code Lib.Math.min.name Lib.Math.min.code 2 (some .int), .fieldLink RX3 61 "GlulxHeap$State" "bytes" "[B", .methodLink RX3 71 arraycopyName, .native arraycopyName, .static arraycopyName, .initialized "java/lang/System"] ++ wsX30 ++ wsX20)
def wsX3_back : List Cond := .code yX3_back cX3_back 2 (some .int) :: ([.fieldLink RX3 160 "GlulxHeap" "keptCount" "I", .fieldLink RX3 11 "GlulxHeap" "kept" "[LGlulxHeap$State;", .fieldLink RX3 30 "GlulxHeap" "now" "LGlulxHeap$State;", .methodLink RX3 167 yX3_lastKept, .instanceMethod yX3_lastKept, .selects RX3 yX3_lastKept yX3_lastKept, .initialized RX3, .code yX3_lastKept cX3_lastKept 1 (some (.object "GlulxHeap$State")), .methodLink RX3 171 yX3_comeBack, .instanceMethod yX3_comeBack, .selects RX3 yX3_comeBack yX3_comeBack, .code yX3_comeBack cX3_comeBack 3 none, .fieldLink RX3 154 "GlulxHeap" "protectedAt" "I", .fieldLink RX3 157 "GlulxHeap" "protectedLength" "I", .fieldLink RX3 84 "GlulxHeap$State" "size" "I", .methodLink RX3 125 Lib.Math.min.name, .static Lib.Math.min.name, .initialized "java/lang/Math", .code Lib.Math.min.name Lib.Math.min.code 2 (some .int), .fieldLink RX3 61 "GlulxHeap$State" "bytes" "[B", .methodLink RX3 71 arraycopyName, .native arraycopyName, .static arraycopyName, .initialized "java/lang/System"] ++ wsX30 ++ wsX20)
def wsX3_spareState : List Cond := .code yX3_spareState cX3_spareState 1 (some (.object "GlulxHeap$State")) :: ([.fieldLink RX3 177 "GlulxHeap" "spare" "LGlulxHeap$State;", .classLink RX3 9 RX2, .instantiable RX2 6, .initialized RX2, .instanceMethod yX2_init, .code yX2_init cX2_init 1 none, .methodLink RX2 3 objectInit, .instanceMethod objectInit, .code objectInit ⟨#[0xb1]⟩ 1 none, .arrayClass .byte, .fieldLink RX2 9 "GlulxHeap$State" "bytes" "[B", .arrayClass .int, .fieldLink RX2 15 "GlulxHeap$State" "places" "[I", .fieldLink RX2 19 "GlulxHeap$State" "lengths" "[I"] ++ wsX30 ++ wsX20)
def wsX3_restart_r1 : List Cond := [Cond.fieldLink RX3 30 "GlulxHeap" "now" "LGlulxHeap$State;", Cond.fieldLink RX3 177 "GlulxHeap" "spare" "LGlulxHeap$State;", Cond.methodLink RX3 174 yX3_spareState, Cond.instanceMethod yX3_spareState, Cond.selects RX3 yX3_spareState yX3_spareState, Cond.initialized RX3, Cond.code yX3_spareState cX3_spareState 1 (some (.object "GlulxHeap$State")), Cond.classLink RX3 9 RX2, Cond.instantiable RX2 6, Cond.initialized RX2, Cond.instanceMethod yX2_init, Cond.code yX2_init cX2_init 1 none, Cond.methodLink RX2 3 objectInit, Cond.instanceMethod objectInit, Cond.code objectInit ⟨#[0xb1]⟩ 1 none, Cond.arrayClass .byte, Cond.fieldLink RX2 9 "GlulxHeap$State" "bytes" "[B", Cond.arrayClass .int, Cond.fieldLink RX2 15 "GlulxHeap$State" "places" "[I", Cond.fieldLink RX2 19 "GlulxHeap$State" "lengths" "[I", Cond.methodLink RX3 34 yX2_begin, Cond.instanceMethod yX2_begin, Cond.selects RX2 yX2_begin yX2_begin, Cond.code yX2_begin cX2_begin 2 none]
def wsX3_restart_r2 : List Cond := [Cond.fieldLink RX2 32 "GlulxHeap$State" "size" "I", Cond.fieldLink RX2 36 "GlulxHeap$State" "start" "I", Cond.fieldLink RX2 39 "GlulxHeap$State" "used" "I", Cond.methodLink RX2 22 yJ7_fill_031fb, Cond.static yJ7_fill_031fb, Cond.initialized RJ7, Cond.code yJ7_fill_031fb cJ7_fill_031fb 4 none, Cond.methodLink RX2 28 yX2_first, Cond.static yX2_first, Cond.code yX2_first cX2_first 1 (some .int), Cond.methodLink RX3 171 yX3_comeBack, Cond.instanceMethod yX3_comeBack, Cond.selects RX3 yX3_comeBack yX3_comeBack, Cond.code yX3_comeBack cX3_comeBack 3 none, Cond.fieldLink RX3 154 "GlulxHeap" "protectedAt" "I", Cond.fieldLink RX3 157 "GlulxHeap" "protectedLength" "I", Cond.fieldLink RX3 84 "GlulxHeap$State" "size" "I", Cond.methodLink RX3 125 Lib.Math.min.name, Cond.static Lib.Math.min.name, Cond.initialized "java/lang/Math", Cond.code Lib.Math.min.name Lib.Math.min.code 2 (some .int), Cond.fieldLink RX3 61 "GlulxHeap$State" "bytes" "[B", Cond.methodLink RX3 71 arraycopyName, Cond.native arraycopyName]
def wsX3_restart_r3 : List Cond := [Cond.static arraycopyName, Cond.initialized "java/lang/System"]
def wsX3_restart : List Cond := .code yX3_restart cX3_restart 2 (some .int) :: ((wsX3_restart_r1 ++ (wsX3_restart_r2 ++ wsX3_restart_r3)) ++ wsX30 ++ wsX20)
def wsX3_same : List Cond := .code yX3_same cX3_same 2 (some .int) :: ([.fieldLink RX3 30 "GlulxHeap" "now" "LGlulxHeap$State;", .methodLink RX3 167 yX3_lastKept, .instanceMethod yX3_lastKept, .selects RX3 yX3_lastKept yX3_lastKept, .initialized RX3, .code yX3_lastKept cX3_lastKept 1 (some (.object "GlulxHeap$State")), .fieldLink RX3 160 "GlulxHeap" "keptCount" "I", .fieldLink RX3 11 "GlulxHeap" "kept" "[LGlulxHeap$State;", .methodLink RX3 180 yX2_isLike, .instanceMethod yX2_isLike, .selects RX2 yX2_isLike yX2_isLike, .initialized RX2, .code yX2_isLike cX2_isLike 3 (some .boolean), .fieldLink RX2 32 "GlulxHeap$State" "size" "I", .fieldLink RX2 36 "GlulxHeap$State" "start" "I", .fieldLink RX2 39 "GlulxHeap$State" "used" "I", .fieldLink RX2 15 "GlulxHeap$State" "places" "[I", .fieldLink RX2 19 "GlulxHeap$State" "lengths" "[I", .fieldLink RX2 9 "GlulxHeap$State" "bytes" "[B"] ++ wsX30 ++ wsX20)
def wsX3_write_r1 : List Cond := [Cond.fieldLink RX3 25 "GlulxHeap" "script" "LGlulxHeap$Code;", Cond.fieldLink RX3 30 "GlulxHeap" "now" "LGlulxHeap$State;", Cond.fieldLink RX3 187 "GlulxHeap$Code" "length" "I", Cond.methodLink RX3 184 yX0_tell, Cond.instanceMethod yX0_tell, Cond.selects RX0 yX0_tell yX0_tell, Cond.initialized RX0, Cond.code yX0_tell cX0_tell 3 none, Cond.fieldLink RX0 9 "GlulxHeap$Code" "bytes" "[B", Cond.arrayClass .byte, Cond.fieldLink RX0 15 "GlulxHeap$Code" "length" "I", Cond.fieldLink RX0 27 "GlulxHeap$State" "size" "I", Cond.fieldLink RX0 35 "GlulxHeap$State" "start" "I", Cond.fieldLink RX0 38 "GlulxHeap$State" "used" "I", Cond.fieldLink RX0 41 "GlulxHeap$State" "places" "[I", Cond.fieldLink RX0 45 "GlulxHeap$State" "lengths" "[I", Cond.methodLink RX0 32 yX0_appendPair, Cond.instanceMethod yX0_appendPair, Cond.selects RX0 yX0_appendPair yX0_appendPair, Cond.code yX0_appendPair cX0_appendPair 2 none, Cond.methodLink RX0 23 yX0_append, Cond.instanceMethod yX0_append, Cond.selects RX0 yX0_append yX0_append, Cond.code yX0_append cX0_append 2 none]
def wsX3_write_r2 : List Cond := [Cond.methodLink RX0 48 yX0_tellBytes, Cond.instanceMethod yX0_tellBytes, Cond.selects RX0 yX0_tellBytes yX0_tellBytes, Cond.code yX0_tellBytes cX0_tellBytes 5 none, Cond.methodLink RX0 52 yX2_changedEnd, Cond.instanceMethod yX2_changedEnd, Cond.selects RX2 yX2_changedEnd yX2_changedEnd, Cond.initialized RX2, Cond.code yX2_changedEnd cX2_changedEnd 2 (some .int), Cond.fieldLink RX2 32 "GlulxHeap$State" "size" "I", Cond.methodLink RX2 61 yX2_difference, Cond.instanceMethod yX2_difference, Cond.selects RX2 yX2_difference yX2_difference, Cond.code yX2_difference cX2_difference 2 (some .int), Cond.fieldLink RX2 9 "GlulxHeap$State" "bytes" "[B", Cond.methodLink RX2 28 yX2_first, Cond.static yX2_first, Cond.code yX2_first cX2_first 1 (some .int), Cond.methodLink RX0 56 yX2_unchangedRow, Cond.instanceMethod yX2_unchangedRow, Cond.selects RX2 yX2_unchangedRow yX2_unchangedRow, Cond.code yX2_unchangedRow cX2_unchangedRow 5 (some .int), Cond.methodLink RX2 64 Lib.Math.min.name, Cond.static Lib.Math.min.name]
def wsX3_write_r3 : List Cond := [Cond.initialized "java/lang/Math", Cond.code Lib.Math.min.name Lib.Math.min.code 2 (some .int), Cond.methodLink RX0 60 yX2_difference]
def wsX3_write : List Cond := .code yX3_write cX3_write 1 (some .int) :: ((wsX3_write_r1 ++ (wsX3_write_r2 ++ wsX3_write_r3)) ++ wsX30 ++ wsX00 ++ wsX20)
def wsX3_code : List Cond := .code yX3_code cX3_code 2 (some .int) :: ([.fieldLink RX3 25 "GlulxHeap" "script" "LGlulxHeap$Code;", .methodLink RX3 188 yX0_has, .instanceMethod yX0_has, .selects RX0 yX0_has yX0_has, .initialized RX0, .code yX0_has cX0_has 2 (some .boolean), .fieldLink RX0 15 "GlulxHeap$Code" "length" "I", .methodLink RX3 190 yX0_byteAt, .instanceMethod yX0_byteAt, .selects RX0 yX0_byteAt yX0_byteAt, .code yX0_byteAt cX0_byteAt 2 (some .int), .fieldLink RX0 9 "GlulxHeap$Code" "bytes" "[B"] ++ wsX30 ++ wsX00)
def wsX3_poke : List Cond := .code yX3_poke cX3_poke 4 (some .int) :: ([.fieldLink RX3 25 "GlulxHeap" "script" "LGlulxHeap$Code;", .fieldLink RX3 193 "GlulxHeap$Code" "bytes" "[B", .methodLink RX3 188 yX0_has, .instanceMethod yX0_has, .selects RX0 yX0_has yX0_has, .initialized RX0, .code yX0_has cX0_has 2 (some .boolean), .fieldLink RX0 15 "GlulxHeap$Code" "length" "I", .methodLink RX3 190 yX0_byteAt, .instanceMethod yX0_byteAt, .selects RX0 yX0_byteAt yX0_byteAt, .code yX0_byteAt cX0_byteAt 2 (some .int), .fieldLink RX0 9 "GlulxHeap$Code" "bytes" "[B"] ++ wsX30 ++ wsX00)
def wsX3_cut : List Cond := .code yX3_cut cX3_cut 3 (some .int) :: ([.fieldLink RX3 25 "GlulxHeap" "script" "LGlulxHeap$Code;", .fieldLink RX3 187 "GlulxHeap$Code" "length" "I"] ++ wsX30 ++ wsX00)
def wsX3_read_r1 : List Cond := [Cond.fieldLink RX3 25 "GlulxHeap" "script" "LGlulxHeap$Code;", Cond.fieldLink RX3 30 "GlulxHeap" "now" "LGlulxHeap$State;", Cond.fieldLink RX3 177 "GlulxHeap" "spare" "LGlulxHeap$State;", Cond.fieldLink RX3 84 "GlulxHeap$State" "size" "I", Cond.methodLink RX3 174 yX3_spareState, Cond.instanceMethod yX3_spareState, Cond.selects RX3 yX3_spareState yX3_spareState, Cond.initialized RX3, Cond.code yX3_spareState cX3_spareState 1 (some (.object "GlulxHeap$State")), Cond.classLink RX3 9 RX2, Cond.instantiable RX2 6, Cond.initialized RX2, Cond.instanceMethod yX2_init, Cond.code yX2_init cX2_init 1 none, Cond.methodLink RX2 3 objectInit, Cond.instanceMethod objectInit, Cond.code objectInit ⟨#[0xb1]⟩ 1 none, Cond.arrayClass .byte, Cond.fieldLink RX2 9 "GlulxHeap$State" "bytes" "[B", Cond.arrayClass .int, Cond.fieldLink RX2 15 "GlulxHeap$State" "places" "[I", Cond.fieldLink RX2 19 "GlulxHeap$State" "lengths" "[I", Cond.methodLink RX3 194 yX0_unfold, Cond.instanceMethod yX0_unfold]
def wsX3_read_r2 : List Cond := [Cond.selects RX0 yX0_unfold yX0_unfold, Cond.initialized RX0, Cond.code yX0_unfold cX0_unfold 3 (some .int), Cond.methodLink RX0 63 yX2_begin, Cond.instanceMethod yX2_begin, Cond.selects RX2 yX2_begin yX2_begin, Cond.code yX2_begin cX2_begin 2 none, Cond.fieldLink RX2 32 "GlulxHeap$State" "size" "I", Cond.fieldLink RX2 36 "GlulxHeap$State" "start" "I", Cond.fieldLink RX2 39 "GlulxHeap$State" "used" "I", Cond.methodLink RX2 22 yJ7_fill_031fb, Cond.static yJ7_fill_031fb, Cond.initialized RJ7, Cond.code yJ7_fill_031fb cJ7_fill_031fb 4 none, Cond.methodLink RX2 28 yX2_first, Cond.static yX2_first, Cond.code yX2_first cX2_first 1 (some .int), Cond.methodLink RX0 66 yX0_unfoldHead, Cond.instanceMethod yX0_unfoldHead, Cond.selects RX0 yX0_unfoldHead yX0_unfoldHead, Cond.code yX0_unfoldHead cX0_unfoldHead 5 (some .int), Cond.fieldLink RX0 15 "GlulxHeap$Code" "length" "I", Cond.fieldLink RX0 27 "GlulxHeap$State" "size" "I", Cond.fieldLink RX0 35 "GlulxHeap$State" "start" "I"]
def wsX3_read_r3 : List Cond := [Cond.fieldLink RX0 38 "GlulxHeap$State" "used" "I", Cond.methodLink RX0 76 yX0_pairAt, Cond.instanceMethod yX0_pairAt, Cond.selects RX0 yX0_pairAt yX0_pairAt, Cond.code yX0_pairAt cX0_pairAt 2 (some .int), Cond.methodLink RX0 19 yX0_byteAt, Cond.instanceMethod yX0_byteAt, Cond.selects RX0 yX0_byteAt yX0_byteAt, Cond.code yX0_byteAt cX0_byteAt 2 (some .int), Cond.fieldLink RX0 9 "GlulxHeap$Code" "bytes" "[B", Cond.static yX3_isSize, Cond.code yX3_isSize cX3_isSize 1 (some .boolean), Cond.methodLink RX0 70 yX0_unfoldBlocks, Cond.instanceMethod yX0_unfoldBlocks, Cond.selects RX0 yX0_unfoldBlocks yX0_unfoldBlocks, Cond.code yX0_unfoldBlocks cX0_unfoldBlocks 7 (some .int), Cond.fieldLink RX0 41 "GlulxHeap$State" "places" "[I", Cond.fieldLink RX0 45 "GlulxHeap$State" "lengths" "[I", Cond.methodLink RX0 73 yX0_unfoldBytes, Cond.instanceMethod yX0_unfoldBytes, Cond.selects RX0 yX0_unfoldBytes yX0_unfoldBytes, Cond.code yX0_unfoldBytes cX0_unfoldBytes 5 (some .int), Cond.fieldLink RX0 83 "GlulxHeap$State" "bytes" "[B", Cond.methodLink RX3 171 yX3_comeBack]
def wsX3_read_r4 : List Cond := [Cond.instanceMethod yX3_comeBack, Cond.selects RX3 yX3_comeBack yX3_comeBack, Cond.code yX3_comeBack cX3_comeBack 3 none, Cond.fieldLink RX3 154 "GlulxHeap" "protectedAt" "I", Cond.fieldLink RX3 157 "GlulxHeap" "protectedLength" "I", Cond.methodLink RX3 125 Lib.Math.min.name, Cond.static Lib.Math.min.name, Cond.initialized "java/lang/Math", Cond.code Lib.Math.min.name Lib.Math.min.code 2 (some .int), Cond.fieldLink RX3 61 "GlulxHeap$State" "bytes" "[B", Cond.methodLink RX3 71 arraycopyName, Cond.native arraycopyName, Cond.static arraycopyName, Cond.initialized "java/lang/System"]
def wsX3_read : List Cond := .code yX3_read cX3_read 3 (some .int) :: ((wsX3_read_r1 ++ (wsX3_read_r2 ++ (wsX3_read_r3 ++ wsX3_read_r4))) ++ wsX30 ++ wsX20 ++ wsX00)
def wsX3_told_r1 : List Cond := [Cond.fieldLink RX3 30 "GlulxHeap" "now" "LGlulxHeap$State;", Cond.fieldLink RX3 84 "GlulxHeap$State" "size" "I", Cond.fieldLink RX3 198 "GlulxHeap$State" "start" "I", Cond.fieldLink RX3 80 "GlulxHeap$State" "used" "I", Cond.fieldLink RX3 160 "GlulxHeap" "keptCount" "I", Cond.fieldLink RX3 25 "GlulxHeap" "script" "LGlulxHeap$Code;", Cond.fieldLink RX3 187 "GlulxHeap$Code" "length" "I", Cond.fieldLink RX3 154 "GlulxHeap" "protectedAt" "I", Cond.fieldLink RX3 157 "GlulxHeap" "protectedLength" "I", Cond.methodLink RX3 201 yX2_usedBytes, Cond.instanceMethod yX2_usedBytes, Cond.selects RX2 yX2_usedBytes yX2_usedBytes, Cond.initialized RX2, Cond.code yX2_usedBytes cX2_usedBytes 3 (some .int), Cond.fieldLink RX2 39 "GlulxHeap$State" "used" "I", Cond.fieldLink RX2 19 "GlulxHeap$State" "lengths" "[I", Cond.methodLink RX3 205 yX2_gapCount, Cond.instanceMethod yX2_gapCount, Cond.selects RX2 yX2_gapCount yX2_gapCount, Cond.code yX2_gapCount cX2_gapCount 3 (some .int), Cond.methodLink RX2 54 yX2_gapLength, Cond.instanceMethod yX2_gapLength, Cond.selects RX2 yX2_gapLength yX2_gapLength, Cond.code yX2_gapLength cX2_gapLength 3 (some .int)]
def wsX3_told_r2 : List Cond := [Cond.fieldLink RX2 15 "GlulxHeap$State" "places" "[I", Cond.fieldLink RX2 32 "GlulxHeap$State" "size" "I", Cond.methodLink RX2 51 yX2_gapBegin, Cond.instanceMethod yX2_gapBegin, Cond.selects RX2 yX2_gapBegin yX2_gapBegin, Cond.code yX2_gapBegin cX2_gapBegin 2 (some .int), Cond.fieldLink RX2 36 "GlulxHeap$State" "start" "I"]
def wsX3_told : List Cond := .code yX3_told cX3_told 2 (some .int) :: ((wsX3_told_r1 ++ wsX3_told_r2) ++ wsX30 ++ wsX20 ++ wsX00)
def wsX4_first : List Cond := .code yX4_first cX4_first 1 (some .int) :: ([])
def wsX4_init : List Cond := .code yX4_init cX4_init 2 none :: ([.methodLink RX4 1 objectInit, .instanceMethod objectInit, .code objectInit ⟨#[0xb1]⟩ 1 none, .arrayClass .int, .fieldLink RX4 7 "GlulxHeapModel" "memory" "[I", .fieldLink RX4 13 "GlulxHeapModel" "place" "[I", .fieldLink RX4 16 "GlulxHeapModel" "length" "[I", .constant RX4 19 (40960), .fieldLink RX4 20 "GlulxHeapModel" "keptMemory" "[I", .fieldLink RX4 23 "GlulxHeapModel" "keptSize" "[I", .fieldLink RX4 26 "GlulxHeapModel" "keptStart" "[I", .fieldLink RX4 29 "GlulxHeapModel" "keptUsed" "[I", .fieldLink RX4 32 "GlulxHeapModel" "keptPlace" "[I", .fieldLink RX4 35 "GlulxHeapModel" "keptLength" "[I", .fieldLink RX4 38 "GlulxHeapModel" "code" "[I", .fieldLink RX4 41 "GlulxHeapModel" "wanted" "[I", .fieldLink RX4 44 "GlulxHeapModel" "size" "I", .methodLink RX4 48 yX4_first, .static yX4_first, .initialized RX4, .code yX4_first cX4_first 1 (some .int)] ++ wsX40)
def wsX4_isIn : List Cond := .code yX4_isIn cX4_isIn 5 (some .boolean) :: ([.fieldLink RX4 44 "GlulxHeapModel" "size" "I"] ++ wsX40)
def wsX4_isWidth : List Cond := .code yX4_isWidth cX4_isWidth 1 (some .boolean) :: ([])
def wsX4_number : List Cond := .code yX4_number cX4_number 6 (some .long) :: ([.fieldLink RX4 7 "GlulxHeapModel" "memory" "[I"] ++ wsX40)
def wsX4_get : List Cond := .code yX4_get cX4_get 3 (some .long) :: ([.constantLong RX4 56 (-11), .constantLong RX4 66 (-12), .methodLink RX4 52 yX4_isWidth, .static yX4_isWidth, .initialized RX4, .code yX4_isWidth cX4_isWidth 1 (some .boolean), .methodLink RX4 58 yX4_isIn, .instanceMethod yX4_isIn, .selects RX4 yX4_isIn yX4_isIn, .code yX4_isIn cX4_isIn 5 (some .boolean), .fieldLink RX4 44 "GlulxHeapModel" "size" "I", .methodLink RX4 62 yX4_number, .instanceMethod yX4_number, .selects RX4 yX4_number yX4_number, .code yX4_number cX4_number 6 (some .long), .fieldLink RX4 7 "GlulxHeapModel" "memory" "[I"] ++ wsX40)
def wsX4_set : List Cond := .code yX4_set cX4_set 5 (some .int) :: ([.fieldLink RX4 7 "GlulxHeapModel" "memory" "[I", .methodLink RX4 52 yX4_isWidth, .static yX4_isWidth, .initialized RX4, .code yX4_isWidth cX4_isWidth 1 (some .boolean), .methodLink RX4 58 yX4_isIn, .instanceMethod yX4_isIn, .selects RX4 yX4_isIn yX4_isIn, .code yX4_isIn cX4_isIn 5 (some .boolean), .fieldLink RX4 44 "GlulxHeapModel" "size" "I"] ++ wsX40)
def wsX4_zero : List Cond := .code yX4_zero cX4_zero 4 (some .int) :: ([.fieldLink RX4 7 "GlulxHeapModel" "memory" "[I", .methodLink RX4 58 yX4_isIn, .instanceMethod yX4_isIn, .selects RX4 yX4_isIn yX4_isIn, .initialized RX4, .code yX4_isIn cX4_isIn 5 (some .boolean), .fieldLink RX4 44 "GlulxHeapModel" "size" "I"] ++ wsX40)
def wsX4_copy : List Cond := .code yX4_copy cX4_copy 6 (some .int) :: ([.fieldLink RX4 7 "GlulxHeapModel" "memory" "[I", .methodLink RX4 58 yX4_isIn, .instanceMethod yX4_isIn, .selects RX4 yX4_isIn yX4_isIn, .initialized RX4, .code yX4_isIn cX4_isIn 5 (some .boolean), .fieldLink RX4 44 "GlulxHeapModel" "size" "I"] ++ wsX40)
def wsX4_grow : List Cond := .code yX4_grow cX4_grow 3 none :: ([.fieldLink RX4 44 "GlulxHeapModel" "size" "I", .fieldLink RX4 7 "GlulxHeapModel" "memory" "[I"] ++ wsX40)
def wsX4_isSize : List Cond := .code yX4_isSize cX4_isSize 1 (some .boolean) :: ([])
def wsX4_resize : List Cond := .code yX4_resize cX4_resize 3 (some .int) :: ([.fieldLink RX4 71 "GlulxHeapModel" "used" "I", .fieldLink RX4 44 "GlulxHeapModel" "size" "I", .methodLink RX4 68 yX4_isSize, .static yX4_isSize, .initialized RX4, .code yX4_isSize cX4_isSize 1 (some .boolean), .methodLink RX4 74 yX4_grow, .instanceMethod yX4_grow, .selects RX4 yX4_grow yX4_grow, .code yX4_grow cX4_grow 3 none, .fieldLink RX4 7 "GlulxHeapModel" "memory" "[I"] ++ wsX40)
def wsX4_behind : List Cond := .code yX4_behind cX4_behind 2 (some .int) :: ([.fieldLink RX4 13 "GlulxHeapModel" "place" "[I", .fieldLink RX4 16 "GlulxHeapModel" "length" "[I"] ++ wsX40)
def wsX4_gapAt : List Cond := .code yX4_gapAt cX4_gapAt 2 (some .int) :: ([.fieldLink RX4 78 "GlulxHeapModel" "start" "I", .methodLink RX4 81 yX4_behind, .instanceMethod yX4_behind, .selects RX4 yX4_behind yX4_behind, .initialized RX4, .code yX4_behind cX4_behind 2 (some .int), .fieldLink RX4 13 "GlulxHeapModel" "place" "[I", .fieldLink RX4 16 "GlulxHeapModel" "length" "[I"] ++ wsX40)
def wsX4_gapEnd : List Cond := .code yX4_gapEnd cX4_gapEnd 2 (some .int) :: ([.fieldLink RX4 71 "GlulxHeapModel" "used" "I", .fieldLink RX4 44 "GlulxHeapModel" "size" "I", .fieldLink RX4 13 "GlulxHeapModel" "place" "[I"] ++ wsX40)
def wsX4_make_r1 : List Cond := [Cond.fieldLink RX4 71 "GlulxHeapModel" "used" "I", Cond.fieldLink RX4 44 "GlulxHeapModel" "size" "I", Cond.fieldLink RX4 78 "GlulxHeapModel" "start" "I", Cond.constantLong RX4 90 (8192), Cond.constantLong RX4 92 (255), Cond.constantLong RX4 94 (256), Cond.fieldLink RX4 13 "GlulxHeapModel" "place" "[I", Cond.fieldLink RX4 16 "GlulxHeapModel" "length" "[I", Cond.methodLink RX4 84 yX4_gapEnd, Cond.instanceMethod yX4_gapEnd, Cond.selects RX4 yX4_gapEnd yX4_gapEnd, Cond.initialized RX4, Cond.code yX4_gapEnd cX4_gapEnd 2 (some .int), Cond.methodLink RX4 87 yX4_gapAt, Cond.instanceMethod yX4_gapAt, Cond.selects RX4 yX4_gapAt yX4_gapAt, Cond.code yX4_gapAt cX4_gapAt 2 (some .int), Cond.methodLink RX4 81 yX4_behind, Cond.instanceMethod yX4_behind, Cond.selects RX4 yX4_behind yX4_behind, Cond.code yX4_behind cX4_behind 2 (some .int), Cond.methodLink RX4 74 yX4_grow, Cond.instanceMethod yX4_grow, Cond.selects RX4 yX4_grow yX4_grow]
def wsX4_make_r2 : List Cond := [Cond.code yX4_grow cX4_grow 3 none, Cond.fieldLink RX4 7 "GlulxHeapModel" "memory" "[I"]
def wsX4_make : List Cond := .code yX4_make cX4_make 7 (some .int) :: ((wsX4_make_r1 ++ wsX4_make_r2) ++ wsX40)
def wsX4_free : List Cond := .code yX4_free cX4_free 5 (some .int) :: ([.fieldLink RX4 71 "GlulxHeapModel" "used" "I", .fieldLink RX4 13 "GlulxHeapModel" "place" "[I", .fieldLink RX4 16 "GlulxHeapModel" "length" "[I", .fieldLink RX4 78 "GlulxHeapModel" "start" "I", .fieldLink RX4 44 "GlulxHeapModel" "size" "I"] ++ wsX40)
def wsX4_block : List Cond := .code yX4_block cX4_block 3 (some .int) :: ([.fieldLink RX4 71 "GlulxHeapModel" "used" "I", .fieldLink RX4 13 "GlulxHeapModel" "place" "[I", .fieldLink RX4 16 "GlulxHeapModel" "length" "[I", .methodLink RX4 84 yX4_gapEnd, .instanceMethod yX4_gapEnd, .selects RX4 yX4_gapEnd yX4_gapEnd, .initialized RX4, .code yX4_gapEnd cX4_gapEnd 2 (some .int), .fieldLink RX4 44 "GlulxHeapModel" "size" "I", .methodLink RX4 87 yX4_gapAt, .instanceMethod yX4_gapAt, .selects RX4 yX4_gapAt yX4_gapAt, .code yX4_gapAt cX4_gapAt 2 (some .int), .fieldLink RX4 78 "GlulxHeapModel" "start" "I", .methodLink RX4 81 yX4_behind, .instanceMethod yX4_behind, .selects RX4 yX4_behind yX4_behind, .code yX4_behind cX4_behind 2 (some .int)] ++ wsX40)
def wsX4_isKey : List Cond := .code yX4_isKey cX4_isKey 2 (some .boolean) :: ([.methodLink RX4 52 yX4_isWidth, .static yX4_isWidth, .initialized RX4, .code yX4_isWidth cX4_isWidth 1 (some .boolean)])
def wsX4_isTaken : List Cond := .code yX4_isTaken cX4_isTaken 5 (some .boolean) :: ([.fieldLink RX4 41 "GlulxHeapModel" "wanted" "[I", .fieldLink RX4 7 "GlulxHeapModel" "memory" "[I", .methodLink RX4 58 yX4_isIn, .instanceMethod yX4_isIn, .selects RX4 yX4_isIn yX4_isIn, .initialized RX4, .code yX4_isIn cX4_isIn 5 (some .boolean), .fieldLink RX4 44 "GlulxHeapModel" "size" "I"] ++ wsX40)
def wsX4_compare : List Cond := .code yX4_compare cX4_compare 4 (some .int) :: ([.fieldLink RX4 7 "GlulxHeapModel" "memory" "[I", .fieldLink RX4 41 "GlulxHeapModel" "wanted" "[I"] ++ wsX40)
def wsX4_isZero : List Cond := .code yX4_isZero cX4_isZero 5 (some .boolean) :: ([.fieldLink RX4 7 "GlulxHeapModel" "memory" "[I"] ++ wsX40)
def wsX4_linear_r1 : List Cond := [Cond.methodLink RX4 96 yX4_isKey, Cond.static yX4_isKey, Cond.initialized RX4, Cond.code yX4_isKey cX4_isKey 2 (some .boolean), Cond.methodLink RX4 52 yX4_isWidth, Cond.static yX4_isWidth, Cond.code yX4_isWidth cX4_isWidth 1 (some .boolean), Cond.methodLink RX4 100 yX4_isTaken, Cond.instanceMethod yX4_isTaken, Cond.selects RX4 yX4_isTaken yX4_isTaken, Cond.code yX4_isTaken cX4_isTaken 5 (some .boolean), Cond.fieldLink RX4 41 "GlulxHeapModel" "wanted" "[I", Cond.fieldLink RX4 7 "GlulxHeapModel" "memory" "[I", Cond.methodLink RX4 58 yX4_isIn, Cond.instanceMethod yX4_isIn, Cond.selects RX4 yX4_isIn yX4_isIn, Cond.code yX4_isIn cX4_isIn 5 (some .boolean), Cond.fieldLink RX4 44 "GlulxHeapModel" "size" "I", Cond.methodLink RX4 104 yX4_compare, Cond.instanceMethod yX4_compare, Cond.selects RX4 yX4_compare yX4_compare, Cond.code yX4_compare cX4_compare 4 (some .int), Cond.methodLink RX4 108 yX4_isZero, Cond.instanceMethod yX4_isZero]
def wsX4_linear_r2 : List Cond := [Cond.selects RX4 yX4_isZero yX4_isZero, Cond.code yX4_isZero cX4_isZero 5 (some .boolean)]
def wsX4_linear : List Cond := .code yX4_linear cX4_linear 13 (some .int) :: ((wsX4_linear_r1 ++ wsX4_linear_r2) ++ wsX40)
def wsX4_binary : List Cond := .code yX4_binary cX4_binary 18 (some .int) :: ([.constantLong RX4 111 (2), .methodLink RX4 96 yX4_isKey, .static yX4_isKey, .initialized RX4, .code yX4_isKey cX4_isKey 2 (some .boolean), .methodLink RX4 52 yX4_isWidth, .static yX4_isWidth, .code yX4_isWidth cX4_isWidth 1 (some .boolean), .methodLink RX4 100 yX4_isTaken, .instanceMethod yX4_isTaken, .selects RX4 yX4_isTaken yX4_isTaken, .code yX4_isTaken cX4_isTaken 5 (some .boolean), .fieldLink RX4 41 "GlulxHeapModel" "wanted" "[I", .fieldLink RX4 7 "GlulxHeapModel" "memory" "[I", .methodLink RX4 58 yX4_isIn, .instanceMethod yX4_isIn, .selects RX4 yX4_isIn yX4_isIn, .code yX4_isIn cX4_isIn 5 (some .boolean), .fieldLink RX4 44 "GlulxHeapModel" "size" "I", .methodLink RX4 104 yX4_compare, .instanceMethod yX4_compare, .selects RX4 yX4_compare yX4_compare, .code yX4_compare cX4_compare 4 (some .int)] ++ wsX40)
def wsX4_linked_r1 : List Cond := [Cond.constantLong RX4 113 (4), Cond.methodLink RX4 96 yX4_isKey, Cond.static yX4_isKey, Cond.initialized RX4, Cond.code yX4_isKey cX4_isKey 2 (some .boolean), Cond.methodLink RX4 52 yX4_isWidth, Cond.static yX4_isWidth, Cond.code yX4_isWidth cX4_isWidth 1 (some .boolean), Cond.methodLink RX4 100 yX4_isTaken, Cond.instanceMethod yX4_isTaken, Cond.selects RX4 yX4_isTaken yX4_isTaken, Cond.code yX4_isTaken cX4_isTaken 5 (some .boolean), Cond.fieldLink RX4 41 "GlulxHeapModel" "wanted" "[I", Cond.fieldLink RX4 7 "GlulxHeapModel" "memory" "[I", Cond.methodLink RX4 58 yX4_isIn, Cond.instanceMethod yX4_isIn, Cond.selects RX4 yX4_isIn yX4_isIn, Cond.code yX4_isIn cX4_isIn 5 (some .boolean), Cond.fieldLink RX4 44 "GlulxHeapModel" "size" "I", Cond.methodLink RX4 104 yX4_compare, Cond.instanceMethod yX4_compare, Cond.selects RX4 yX4_compare yX4_compare, Cond.code yX4_compare cX4_compare 4 (some .int), Cond.methodLink RX4 108 yX4_isZero]
def wsX4_linked_r2 : List Cond := [Cond.instanceMethod yX4_isZero, Cond.selects RX4 yX4_isZero yX4_isZero, Cond.code yX4_isZero cX4_isZero 5 (some .boolean), Cond.methodLink RX4 62 yX4_number, Cond.instanceMethod yX4_number, Cond.selects RX4 yX4_number yX4_number, Cond.code yX4_number cX4_number 6 (some .long)]
def wsX4_linked : List Cond := .code yX4_linked cX4_linked 11 (some .int) :: ((wsX4_linked_r1 ++ wsX4_linked_r2) ++ wsX40)
def wsX4_protect : List Cond := .code yX4_protect cX4_protect 3 (some .int) :: ([.fieldLink RX4 115 "GlulxHeapModel" "guardAt" "I", .fieldLink RX4 118 "GlulxHeapModel" "guardLong" "I"] ++ wsX40)
def wsX4_keep : List Cond := .code yX4_keep cX4_keep 2 (some .int) :: ([.fieldLink RX4 121 "GlulxHeapModel" "kept" "I", .fieldLink RX4 20 "GlulxHeapModel" "keptMemory" "[I", .fieldLink RX4 44 "GlulxHeapModel" "size" "I", .fieldLink RX4 7 "GlulxHeapModel" "memory" "[I", .fieldLink RX4 23 "GlulxHeapModel" "keptSize" "[I", .fieldLink RX4 26 "GlulxHeapModel" "keptStart" "[I", .fieldLink RX4 78 "GlulxHeapModel" "start" "I", .fieldLink RX4 29 "GlulxHeapModel" "keptUsed" "[I", .fieldLink RX4 71 "GlulxHeapModel" "used" "I", .fieldLink RX4 32 "GlulxHeapModel" "keptPlace" "[I", .fieldLink RX4 13 "GlulxHeapModel" "place" "[I", .fieldLink RX4 35 "GlulxHeapModel" "keptLength" "[I", .fieldLink RX4 16 "GlulxHeapModel" "length" "[I"] ++ wsX40)
def wsX4_come : List Cond := .code yX4_come cX4_come 5 none :: ([.fieldLink RX4 44 "GlulxHeapModel" "size" "I", .fieldLink RX4 23 "GlulxHeapModel" "keptSize" "[I", .fieldLink RX4 115 "GlulxHeapModel" "guardAt" "I", .fieldLink RX4 118 "GlulxHeapModel" "guardLong" "I", .fieldLink RX4 7 "GlulxHeapModel" "memory" "[I", .fieldLink RX4 20 "GlulxHeapModel" "keptMemory" "[I", .fieldLink RX4 26 "GlulxHeapModel" "keptStart" "[I", .fieldLink RX4 78 "GlulxHeapModel" "start" "I", .fieldLink RX4 29 "GlulxHeapModel" "keptUsed" "[I", .fieldLink RX4 71 "GlulxHeapModel" "used" "I", .fieldLink RX4 13 "GlulxHeapModel" "place" "[I", .fieldLink RX4 32 "GlulxHeapModel" "keptPlace" "[I", .fieldLink RX4 16 "GlulxHeapModel" "length" "[I", .fieldLink RX4 35 "GlulxHeapModel" "keptLength" "[I"] ++ wsX40)
def wsX4_back : List Cond := .code yX4_back cX4_back 1 (some .int) :: ([.fieldLink RX4 121 "GlulxHeapModel" "kept" "I", .methodLink RX4 124 yX4_come, .instanceMethod yX4_come, .selects RX4 yX4_come yX4_come, .initialized RX4, .code yX4_come cX4_come 5 none, .fieldLink RX4 44 "GlulxHeapModel" "size" "I", .fieldLink RX4 23 "GlulxHeapModel" "keptSize" "[I", .fieldLink RX4 115 "GlulxHeapModel" "guardAt" "I", .fieldLink RX4 118 "GlulxHeapModel" "guardLong" "I", .fieldLink RX4 7 "GlulxHeapModel" "memory" "[I", .fieldLink RX4 20 "GlulxHeapModel" "keptMemory" "[I", .fieldLink RX4 26 "GlulxHeapModel" "keptStart" "[I", .fieldLink RX4 78 "GlulxHeapModel" "start" "I", .fieldLink RX4 29 "GlulxHeapModel" "keptUsed" "[I", .fieldLink RX4 71 "GlulxHeapModel" "used" "I", .fieldLink RX4 13 "GlulxHeapModel" "place" "[I", .fieldLink RX4 32 "GlulxHeapModel" "keptPlace" "[I", .fieldLink RX4 16 "GlulxHeapModel" "length" "[I", .fieldLink RX4 35 "GlulxHeapModel" "keptLength" "[I"] ++ wsX40)
def wsX4_restart : List Cond := .code yX4_restart cX4_restart 2 (some .int) :: ([.fieldLink RX4 20 "GlulxHeapModel" "keptMemory" "[I", .constant RX4 127 (32768), .fieldLink RX4 23 "GlulxHeapModel" "keptSize" "[I", .fieldLink RX4 26 "GlulxHeapModel" "keptStart" "[I", .fieldLink RX4 29 "GlulxHeapModel" "keptUsed" "[I", .methodLink RX4 48 yX4_first, .static yX4_first, .initialized RX4, .code yX4_first cX4_first 1 (some .int), .methodLink RX4 124 yX4_come, .instanceMethod yX4_come, .selects RX4 yX4_come yX4_come, .code yX4_come cX4_come 5 none, .fieldLink RX4 44 "GlulxHeapModel" "size" "I", .fieldLink RX4 115 "GlulxHeapModel" "guardAt" "I", .fieldLink RX4 118 "GlulxHeapModel" "guardLong" "I", .fieldLink RX4 7 "GlulxHeapModel" "memory" "[I", .fieldLink RX4 78 "GlulxHeapModel" "start" "I", .fieldLink RX4 71 "GlulxHeapModel" "used" "I", .fieldLink RX4 13 "GlulxHeapModel" "place" "[I", .fieldLink RX4 32 "GlulxHeapModel" "keptPlace" "[I", .fieldLink RX4 16 "GlulxHeapModel" "length" "[I", .fieldLink RX4 35 "GlulxHeapModel" "keptLength" "[I"] ++ wsX40)
def wsX4_same : List Cond := .code yX4_same cX4_same 4 (some .int) :: ([.fieldLink RX4 121 "GlulxHeapModel" "kept" "I", .fieldLink RX4 44 "GlulxHeapModel" "size" "I", .fieldLink RX4 23 "GlulxHeapModel" "keptSize" "[I", .fieldLink RX4 78 "GlulxHeapModel" "start" "I", .fieldLink RX4 26 "GlulxHeapModel" "keptStart" "[I", .fieldLink RX4 71 "GlulxHeapModel" "used" "I", .fieldLink RX4 29 "GlulxHeapModel" "keptUsed" "[I", .fieldLink RX4 7 "GlulxHeapModel" "memory" "[I", .fieldLink RX4 20 "GlulxHeapModel" "keptMemory" "[I", .fieldLink RX4 13 "GlulxHeapModel" "place" "[I", .fieldLink RX4 32 "GlulxHeapModel" "keptPlace" "[I", .fieldLink RX4 16 "GlulxHeapModel" "length" "[I", .fieldLink RX4 35 "GlulxHeapModel" "keptLength" "[I"] ++ wsX40)
def wsX4_put : List Cond := .code yX4_put cX4_put 2 none :: ([.fieldLink RX4 38 "GlulxHeapModel" "code" "[I", .fieldLink RX4 128 "GlulxHeapModel" "codeSize" "I"] ++ wsX40)
def wsX4_putTwo : List Cond := .code yX4_putTwo cX4_putTwo 2 none :: ([.methodLink RX4 131 yX4_put, .instanceMethod yX4_put, .selects RX4 yX4_put yX4_put, .initialized RX4, .code yX4_put cX4_put 2 none, .fieldLink RX4 38 "GlulxHeapModel" "code" "[I", .fieldLink RX4 128 "GlulxHeapModel" "codeSize" "I"] ++ wsX40)
def wsX4_write : List Cond := .code yX4_write cX4_write 5 (some .int) :: ([.fieldLink RX4 128 "GlulxHeapModel" "codeSize" "I", .fieldLink RX4 44 "GlulxHeapModel" "size" "I", .fieldLink RX4 78 "GlulxHeapModel" "start" "I", .fieldLink RX4 71 "GlulxHeapModel" "used" "I", .fieldLink RX4 13 "GlulxHeapModel" "place" "[I", .fieldLink RX4 16 "GlulxHeapModel" "length" "[I", .fieldLink RX4 7 "GlulxHeapModel" "memory" "[I", .methodLink RX4 134 yX4_putTwo, .instanceMethod yX4_putTwo, .selects RX4 yX4_putTwo yX4_putTwo, .initialized RX4, .code yX4_putTwo cX4_putTwo 2 none, .methodLink RX4 131 yX4_put, .instanceMethod yX4_put, .selects RX4 yX4_put yX4_put, .code yX4_put cX4_put 2 none, .fieldLink RX4 38 "GlulxHeapModel" "code" "[I", .methodLink RX4 48 yX4_first, .static yX4_first, .code yX4_first cX4_first 1 (some .int)] ++ wsX40)
def wsX4_code : List Cond := .code yX4_code cX4_code 2 (some .int) :: ([.fieldLink RX4 128 "GlulxHeapModel" "codeSize" "I", .fieldLink RX4 38 "GlulxHeapModel" "code" "[I"] ++ wsX40)
def wsX4_poke : List Cond := .code yX4_poke cX4_poke 4 (some .int) :: ([.fieldLink RX4 128 "GlulxHeapModel" "codeSize" "I", .fieldLink RX4 38 "GlulxHeapModel" "code" "[I"] ++ wsX40)
def wsX4_cut : List Cond := .code yX4_cut cX4_cut 3 (some .int) :: ([.fieldLink RX4 128 "GlulxHeapModel" "codeSize" "I"] ++ wsX40)
def wsX4_two : List Cond := .code yX4_two cX4_two 2 (some .int) :: ([.fieldLink RX4 38 "GlulxHeapModel" "code" "[I"] ++ wsX40)
def wsX4_head : List Cond := .code yX4_head cX4_head 7 (some .int) :: ([.fieldLink RX4 128 "GlulxHeapModel" "codeSize" "I", .fieldLink RX4 23 "GlulxHeapModel" "keptSize" "[I", .fieldLink RX4 26 "GlulxHeapModel" "keptStart" "[I", .fieldLink RX4 29 "GlulxHeapModel" "keptUsed" "[I", .fieldLink RX4 32 "GlulxHeapModel" "keptPlace" "[I", .fieldLink RX4 35 "GlulxHeapModel" "keptLength" "[I", .methodLink RX4 137 yX4_two, .instanceMethod yX4_two, .selects RX4 yX4_two yX4_two, .initialized RX4, .code yX4_two cX4_two 2 (some .int), .fieldLink RX4 38 "GlulxHeapModel" "code" "[I", .methodLink RX4 68 yX4_isSize, .static yX4_isSize, .code yX4_isSize cX4_isSize 1 (some .boolean)] ++ wsX40)
def wsX4_read_r1 : List Cond := [Cond.fieldLink RX4 20 "GlulxHeapModel" "keptMemory" "[I", Cond.fieldLink RX4 29 "GlulxHeapModel" "keptUsed" "[I", Cond.fieldLink RX4 128 "GlulxHeapModel" "codeSize" "I", Cond.fieldLink RX4 38 "GlulxHeapModel" "code" "[I", Cond.fieldLink RX4 23 "GlulxHeapModel" "keptSize" "[I", Cond.fieldLink RX4 44 "GlulxHeapModel" "size" "I", Cond.methodLink RX4 140 yX4_head, Cond.instanceMethod yX4_head, Cond.selects RX4 yX4_head yX4_head, Cond.initialized RX4, Cond.code yX4_head cX4_head 7 (some .int), Cond.fieldLink RX4 26 "GlulxHeapModel" "keptStart" "[I", Cond.fieldLink RX4 32 "GlulxHeapModel" "keptPlace" "[I", Cond.fieldLink RX4 35 "GlulxHeapModel" "keptLength" "[I", Cond.methodLink RX4 137 yX4_two, Cond.instanceMethod yX4_two, Cond.selects RX4 yX4_two yX4_two, Cond.code yX4_two cX4_two 2 (some .int), Cond.methodLink RX4 68 yX4_isSize, Cond.static yX4_isSize, Cond.code yX4_isSize cX4_isSize 1 (some .boolean), Cond.methodLink RX4 48 yX4_first, Cond.static yX4_first, Cond.code yX4_first cX4_first 1 (some .int)]
def wsX4_read_r2 : List Cond := [Cond.methodLink RX4 124 yX4_come, Cond.instanceMethod yX4_come, Cond.selects RX4 yX4_come yX4_come, Cond.code yX4_come cX4_come 5 none, Cond.fieldLink RX4 115 "GlulxHeapModel" "guardAt" "I", Cond.fieldLink RX4 118 "GlulxHeapModel" "guardLong" "I", Cond.fieldLink RX4 7 "GlulxHeapModel" "memory" "[I", Cond.fieldLink RX4 78 "GlulxHeapModel" "start" "I", Cond.fieldLink RX4 71 "GlulxHeapModel" "used" "I", Cond.fieldLink RX4 13 "GlulxHeapModel" "place" "[I", Cond.fieldLink RX4 16 "GlulxHeapModel" "length" "[I"]
def wsX4_read : List Cond := .code yX4_read cX4_read 7 (some .int) :: ((wsX4_read_r1 ++ wsX4_read_r2) ++ wsX40)
def wsX4_told : List Cond := .code yX4_told cX4_told 5 (some .int) :: ([.fieldLink RX4 71 "GlulxHeapModel" "used" "I", .fieldLink RX4 16 "GlulxHeapModel" "length" "[I", .fieldLink RX4 44 "GlulxHeapModel" "size" "I", .fieldLink RX4 78 "GlulxHeapModel" "start" "I", .fieldLink RX4 121 "GlulxHeapModel" "kept" "I", .fieldLink RX4 128 "GlulxHeapModel" "codeSize" "I", .fieldLink RX4 115 "GlulxHeapModel" "guardAt" "I", .fieldLink RX4 118 "GlulxHeapModel" "guardLong" "I", .methodLink RX4 84 yX4_gapEnd, .instanceMethod yX4_gapEnd, .selects RX4 yX4_gapEnd yX4_gapEnd, .initialized RX4, .code yX4_gapEnd cX4_gapEnd 2 (some .int), .fieldLink RX4 13 "GlulxHeapModel" "place" "[I", .methodLink RX4 87 yX4_gapAt, .instanceMethod yX4_gapAt, .selects RX4 yX4_gapAt yX4_gapAt, .code yX4_gapAt cX4_gapAt 2 (some .int), .methodLink RX4 81 yX4_behind, .instanceMethod yX4_behind, .selects RX4 yX4_behind yX4_behind, .code yX4_behind cX4_behind 2 (some .int)] ++ wsX40)
def wsJ9_min_7cf53 : List Cond := .code yJ9_min_7cf53 cJ9_min_7cf53 2 (some .int) :: ([])
def wsL_law_r1 : List Cond := [Cond.classLink RL 7 RX3, Cond.instantiable RX3 8, Cond.initialized RX3, Cond.classLink RL 10 RX4, Cond.instantiable RX4 18, Cond.initialized RX4, Cond.methodLink RL 9 yX3_init, Cond.instanceMethod yX3_init, Cond.code yX3_init cX3_init 1 none, Cond.methodLink RX3 3 objectInit, Cond.instanceMethod objectInit, Cond.code objectInit ⟨#[0xb1]⟩ 1 none, Cond.classLink RX3 9 RX2, Cond.fieldLink RX3 11 "GlulxHeap" "kept" "[LGlulxHeap$State;", Cond.classLink RX3 15 RX1, Cond.instantiable RX1 2, Cond.initialized RX1, Cond.fieldLink RX3 18 "GlulxHeap" "wanted" "LGlulxHeap$Key;", Cond.classLink RX3 22 RX0, Cond.instantiable RX0 2, Cond.initialized RX0, Cond.fieldLink RX3 25 "GlulxHeap" "script" "LGlulxHeap$Code;", Cond.instantiable RX2 6, Cond.initialized RX2]
def wsL_law_r2 : List Cond := [Cond.fieldLink RX3 30 "GlulxHeap" "now" "LGlulxHeap$State;", Cond.instanceMethod yX1_init, Cond.code yX1_init cX1_init 1 none, Cond.methodLink RX1 3 objectInit, Cond.arrayClass .byte, Cond.fieldLink RX1 9 "GlulxHeap$Key" "bytes" "[B", Cond.instanceMethod yX0_init, Cond.code yX0_init cX0_init 1 none, Cond.methodLink RX0 3 objectInit, Cond.fieldLink RX0 9 "GlulxHeap$Code" "bytes" "[B", Cond.instanceMethod yX2_init, Cond.code yX2_init cX2_init 1 none, Cond.methodLink RX2 3 objectInit, Cond.fieldLink RX2 9 "GlulxHeap$State" "bytes" "[B", Cond.arrayClass .int, Cond.fieldLink RX2 15 "GlulxHeap$State" "places" "[I", Cond.fieldLink RX2 19 "GlulxHeap$State" "lengths" "[I", Cond.methodLink RX3 34 yX2_begin, Cond.instanceMethod yX2_begin, Cond.selects RX2 yX2_begin yX2_begin, Cond.code yX2_begin cX2_begin 2 none, Cond.fieldLink RX2 32 "GlulxHeap$State" "size" "I", Cond.fieldLink RX2 36 "GlulxHeap$State" "start" "I", Cond.fieldLink RX2 39 "GlulxHeap$State" "used" "I"]
def wsL_law_r3 : List Cond := [Cond.methodLink RX2 22 yJ7_fill_031fb, Cond.static yJ7_fill_031fb, Cond.initialized RJ7, Cond.code yJ7_fill_031fb cJ7_fill_031fb 4 none, Cond.methodLink RX2 28 yX2_first, Cond.static yX2_first, Cond.code yX2_first cX2_first 1 (some .int), Cond.methodLink RL 12 yX4_init, Cond.instanceMethod yX4_init, Cond.code yX4_init cX4_init 2 none, Cond.methodLink RX4 1 objectInit, Cond.fieldLink RX4 7 "GlulxHeapModel" "memory" "[I", Cond.fieldLink RX4 13 "GlulxHeapModel" "place" "[I", Cond.fieldLink RX4 16 "GlulxHeapModel" "length" "[I", Cond.constant RX4 19 (40960), Cond.fieldLink RX4 20 "GlulxHeapModel" "keptMemory" "[I", Cond.fieldLink RX4 23 "GlulxHeapModel" "keptSize" "[I", Cond.fieldLink RX4 26 "GlulxHeapModel" "keptStart" "[I", Cond.fieldLink RX4 29 "GlulxHeapModel" "keptUsed" "[I", Cond.fieldLink RX4 32 "GlulxHeapModel" "keptPlace" "[I", Cond.fieldLink RX4 35 "GlulxHeapModel" "keptLength" "[I", Cond.fieldLink RX4 38 "GlulxHeapModel" "code" "[I", Cond.fieldLink RX4 41 "GlulxHeapModel" "wanted" "[I", Cond.fieldLink RX4 44 "GlulxHeapModel" "size" "I"]
def wsL_law_r4 : List Cond := [Cond.methodLink RX4 48 yX4_first, Cond.static yX4_first, Cond.code yX4_first cX4_first 1 (some .int), Cond.methodLink RL 13 yX3_get, Cond.instanceMethod yX3_get, Cond.selects RX3 yX3_get yX3_get, Cond.code yX3_get cX3_get 3 (some .long), Cond.constantLong RX3 41 (-11), Cond.constantLong RX3 47 (-12), Cond.methodLink RX3 37 yX3_isWidth, Cond.static yX3_isWidth, Cond.code yX3_isWidth cX3_isWidth 1 (some .boolean), Cond.methodLink RX3 43 yX2_has, Cond.instanceMethod yX2_has, Cond.selects RX2 yX2_has yX2_has, Cond.code yX2_has cX2_has 4 (some .boolean), Cond.methodLink RX3 49 yX2_number, Cond.instanceMethod yX2_number, Cond.selects RX2 yX2_number yX2_number, Cond.code yX2_number cX2_number 6 (some .long), Cond.methodLink RL 17 yX4_get, Cond.instanceMethod yX4_get, Cond.selects RX4 yX4_get yX4_get, Cond.code yX4_get cX4_get 3 (some .long)]
def wsL_law_r5 : List Cond := [Cond.constantLong RX4 56 (-11), Cond.constantLong RX4 66 (-12), Cond.methodLink RX4 52 yX4_isWidth, Cond.static yX4_isWidth, Cond.code yX4_isWidth cX4_isWidth 1 (some .boolean), Cond.methodLink RX4 58 yX4_isIn, Cond.instanceMethod yX4_isIn, Cond.selects RX4 yX4_isIn yX4_isIn, Cond.code yX4_isIn cX4_isIn 5 (some .boolean), Cond.methodLink RX4 62 yX4_number, Cond.instanceMethod yX4_number, Cond.selects RX4 yX4_number yX4_number, Cond.code yX4_number cX4_number 6 (some .long), Cond.methodLink RL 18 yX3_set, Cond.instanceMethod yX3_set, Cond.selects RX3 yX3_set yX3_set, Cond.code yX3_set cX3_set 5 (some .int), Cond.methodLink RX3 53 yX3_writeRefusal, Cond.instanceMethod yX3_writeRefusal, Cond.selects RX3 yX3_writeRefusal yX3_writeRefusal, Cond.code yX3_writeRefusal cX3_writeRefusal 3 (some .int), Cond.methodLink RX3 57 yX2_store, Cond.instanceMethod yX2_store, Cond.selects RX2 yX2_store yX2_store]
def wsL_law_r6 : List Cond := [Cond.code yX2_store cX2_store 6 none, Cond.methodLink RL 22 yX4_set, Cond.instanceMethod yX4_set, Cond.selects RX4 yX4_set yX4_set, Cond.code yX4_set cX4_set 5 (some .int), Cond.methodLink RL 23 yX3_zero, Cond.instanceMethod yX3_zero, Cond.selects RX3 yX3_zero yX3_zero, Cond.code yX3_zero cX3_zero 4 (some .int), Cond.fieldLink RX3 61 "GlulxHeap$State" "bytes" "[B", Cond.methodLink RX3 65 yJ7_fill_eb02e, Cond.static yJ7_fill_eb02e, Cond.code yJ7_fill_eb02e cJ7_fill_eb02e 5 none, Cond.methodLink RJ7 13 yJ7_rangeCheck_23922, Cond.static yJ7_rangeCheck_23922, Cond.code yJ7_rangeCheck_23922 cJ7_rangeCheck_23922 3 none, Cond.methodLink RL 27 yX4_zero, Cond.instanceMethod yX4_zero, Cond.selects RX4 yX4_zero yX4_zero, Cond.code yX4_zero cX4_zero 4 (some .int), Cond.methodLink RL 28 yX3_copy, Cond.instanceMethod yX3_copy, Cond.selects RX3 yX3_copy yX3_copy, Cond.code yX3_copy cX3_copy 5 (some .int)]
def wsL_law_r7 : List Cond := [Cond.methodLink RX3 71 arraycopyName, Cond.native arraycopyName, Cond.static arraycopyName, Cond.initialized "java/lang/System", Cond.methodLink RL 31 yX4_copy, Cond.instanceMethod yX4_copy, Cond.selects RX4 yX4_copy yX4_copy, Cond.code yX4_copy cX4_copy 6 (some .int), Cond.methodLink RL 32 yX3_resize, Cond.instanceMethod yX3_resize, Cond.selects RX3 yX3_resize yX3_resize, Cond.code yX3_resize cX3_resize 3 (some .int), Cond.fieldLink RX3 80 "GlulxHeap$State" "used" "I", Cond.fieldLink RX3 84 "GlulxHeap$State" "size" "I", Cond.methodLink RX3 77 yX3_isSize, Cond.static yX3_isSize, Cond.code yX3_isSize cX3_isSize 1 (some .boolean), Cond.methodLink RX3 87 yX2_changeSize, Cond.instanceMethod yX2_changeSize, Cond.selects RX2 yX2_changeSize yX2_changeSize, Cond.code yX2_changeSize cX2_changeSize 2 none, Cond.methodLink RX2 48 yJ7_fill_eb02e, Cond.methodLink RL 36 yX4_resize, Cond.instanceMethod yX4_resize]
def wsL_law_r8 : List Cond := [Cond.selects RX4 yX4_resize yX4_resize, Cond.code yX4_resize cX4_resize 3 (some .int), Cond.fieldLink RX4 71 "GlulxHeapModel" "used" "I", Cond.methodLink RX4 68 yX4_isSize, Cond.static yX4_isSize, Cond.code yX4_isSize cX4_isSize 1 (some .boolean), Cond.methodLink RX4 74 yX4_grow, Cond.instanceMethod yX4_grow, Cond.selects RX4 yX4_grow yX4_grow, Cond.code yX4_grow cX4_grow 3 none, Cond.methodLink RL 37 yX3_make, Cond.instanceMethod yX3_make, Cond.selects RX3 yX3_make yX3_make, Cond.code yX3_make cX3_make 4 (some .int), Cond.methodLink RX3 91 yX2_gapFor, Cond.instanceMethod yX2_gapFor, Cond.selects RX2 yX2_gapFor yX2_gapFor, Cond.code yX2_gapFor cX2_gapFor 3 (some .int), Cond.methodLink RX2 54 yX2_gapLength, Cond.instanceMethod yX2_gapLength, Cond.selects RX2 yX2_gapLength yX2_gapLength, Cond.code yX2_gapLength cX2_gapLength 3 (some .int), Cond.methodLink RX2 51 yX2_gapBegin, Cond.instanceMethod yX2_gapBegin]
def wsL_law_r9 : List Cond := [Cond.selects RX2 yX2_gapBegin yX2_gapBegin, Cond.code yX2_gapBegin cX2_gapBegin 2 (some .int), Cond.methodLink RX3 95 yX2_gapBegin, Cond.methodLink RX3 98 yX2_addBlock, Cond.instanceMethod yX2_addBlock, Cond.selects RX2 yX2_addBlock yX2_addBlock, Cond.code yX2_addBlock cX2_addBlock 4 none, Cond.methodLink RX2 42 arraycopyName, Cond.methodLink RX2 57 yX2_changeSize, Cond.methodLink RL 40 yX4_make, Cond.instanceMethod yX4_make, Cond.selects RX4 yX4_make yX4_make, Cond.code yX4_make cX4_make 7 (some .int), Cond.fieldLink RX4 78 "GlulxHeapModel" "start" "I", Cond.constantLong RX4 90 (8192), Cond.constantLong RX4 92 (255), Cond.constantLong RX4 94 (256), Cond.methodLink RX4 84 yX4_gapEnd, Cond.instanceMethod yX4_gapEnd, Cond.selects RX4 yX4_gapEnd yX4_gapEnd, Cond.code yX4_gapEnd cX4_gapEnd 2 (some .int), Cond.methodLink RX4 87 yX4_gapAt, Cond.instanceMethod yX4_gapAt, Cond.selects RX4 yX4_gapAt yX4_gapAt]
def wsL_law_r10 : List Cond := [Cond.code yX4_gapAt cX4_gapAt 2 (some .int), Cond.methodLink RX4 81 yX4_behind, Cond.instanceMethod yX4_behind, Cond.selects RX4 yX4_behind yX4_behind, Cond.code yX4_behind cX4_behind 2 (some .int), Cond.methodLink RL 41 yX3_free, Cond.instanceMethod yX3_free, Cond.selects RX3 yX3_free yX3_free, Cond.code yX3_free cX3_free 4 (some .int), Cond.fieldLink RX3 104 "GlulxHeap$State" "lengths" "[I", Cond.methodLink RX3 101 yX2_blockAt, Cond.instanceMethod yX2_blockAt, Cond.selects RX2 yX2_blockAt yX2_blockAt, Cond.code yX2_blockAt cX2_blockAt 3 (some .int), Cond.methodLink RX3 108 yX2_removeBlock, Cond.instanceMethod yX2_removeBlock, Cond.selects RX2 yX2_removeBlock yX2_removeBlock, Cond.code yX2_removeBlock cX2_removeBlock 2 none, Cond.methodLink RL 44 yX4_free, Cond.instanceMethod yX4_free, Cond.selects RX4 yX4_free yX4_free, Cond.code yX4_free cX4_free 5 (some .int), Cond.methodLink RL 45 yX3_block, Cond.instanceMethod yX3_block]
def wsL_law_r11 : List Cond := [Cond.selects RX3 yX3_block yX3_block, Cond.code yX3_block cX3_block 3 (some .int), Cond.fieldLink RX3 111 "GlulxHeap$State" "places" "[I", Cond.methodLink RX3 114 yX2_gapLength, Cond.methodLink RL 48 yX4_block, Cond.instanceMethod yX4_block, Cond.selects RX4 yX4_block yX4_block, Cond.code yX4_block cX4_block 3 (some .int), Cond.methodLink RL 49 yX3_linear, Cond.instanceMethod yX3_linear, Cond.selects RX3 yX3_linear yX3_linear, Cond.code yX3_linear cX3_linear 13 (some .int), Cond.methodLink RX3 125 Lib.Math.min.name, Cond.static Lib.Math.min.name, Cond.initialized "java/lang/Math", Cond.code Lib.Math.min.name Lib.Math.min.code 2 (some .int), Cond.methodLink RX3 117 yX3_isSearch, Cond.static yX3_isSearch, Cond.code yX3_isSearch cX3_isSearch 4 (some .boolean), Cond.methodLink RX3 121 yX1_load, Cond.instanceMethod yX1_load, Cond.selects RX1 yX1_load yX1_load, Cond.code yX1_load cX1_load 6 (some .boolean), Cond.fieldLink RX1 15 "GlulxHeap$Key" "length" "I"]
def wsL_law_r12 : List Cond := [Cond.fieldLink RX1 25 "GlulxHeap$State" "bytes" "[B", Cond.methodLink RX1 26 arraycopyName, Cond.methodLink RX1 19 yX2_has, Cond.methodLink RX3 130 yX3_look, Cond.instanceMethod yX3_look, Cond.selects RX3 yX3_look yX3_look, Cond.code yX3_look cX3_look 5 (some .int), Cond.fieldLink RX3 147 "GlulxHeap$Key" "length" "I", Cond.methodLink RX3 143 yX1_orderOf, Cond.instanceMethod yX1_orderOf, Cond.selects RX1 yX1_orderOf yX1_orderOf, Cond.code yX1_orderOf cX1_orderOf 5 (some .int), Cond.methodLink RX3 150 yX2_allZero, Cond.instanceMethod yX2_allZero, Cond.selects RX2 yX2_allZero yX2_allZero, Cond.code yX2_allZero cX2_allZero 4 (some .boolean), Cond.methodLink RX3 134 yX3_foundAnswer, Cond.static yX3_foundAnswer, Cond.code yX3_foundAnswer cX3_foundAnswer 4 (some .int), Cond.methodLink RX3 138 yX3_noneAnswer, Cond.static yX3_noneAnswer, Cond.code yX3_noneAnswer cX3_noneAnswer 1 (some .int), Cond.methodLink RL 53 yX4_linear, Cond.instanceMethod yX4_linear]
def wsL_law_r13 : List Cond := [Cond.selects RX4 yX4_linear yX4_linear, Cond.code yX4_linear cX4_linear 13 (some .int), Cond.methodLink RX4 96 yX4_isKey, Cond.static yX4_isKey, Cond.code yX4_isKey cX4_isKey 2 (some .boolean), Cond.methodLink RX4 100 yX4_isTaken, Cond.instanceMethod yX4_isTaken, Cond.selects RX4 yX4_isTaken yX4_isTaken, Cond.code yX4_isTaken cX4_isTaken 5 (some .boolean), Cond.methodLink RX4 104 yX4_compare, Cond.instanceMethod yX4_compare, Cond.selects RX4 yX4_compare yX4_compare, Cond.code yX4_compare cX4_compare 4 (some .int), Cond.methodLink RX4 108 yX4_isZero, Cond.instanceMethod yX4_isZero, Cond.selects RX4 yX4_isZero yX4_isZero, Cond.code yX4_isZero cX4_isZero 5 (some .boolean), Cond.methodLink RL 54 yX3_binary, Cond.instanceMethod yX3_binary, Cond.selects RX3 yX3_binary yX3_binary, Cond.code yX3_binary cX3_binary 18 (some .int), Cond.constantLong RX3 141 (2), Cond.methodLink RL 57 yX4_binary, Cond.instanceMethod yX4_binary]
def wsL_law_r14 : List Cond := [Cond.selects RX4 yX4_binary yX4_binary, Cond.code yX4_binary cX4_binary 18 (some .int), Cond.constantLong RX4 111 (2), Cond.methodLink RL 58 yX3_linked, Cond.instanceMethod yX3_linked, Cond.selects RX3 yX3_linked yX3_linked, Cond.code yX3_linked cX3_linked 11 (some .int), Cond.methodLink RL 62 yX4_linked, Cond.instanceMethod yX4_linked, Cond.selects RX4 yX4_linked yX4_linked, Cond.code yX4_linked cX4_linked 11 (some .int), Cond.constantLong RX4 113 (4), Cond.methodLink RL 63 yX3_protect, Cond.instanceMethod yX3_protect, Cond.selects RX3 yX3_protect yX3_protect, Cond.code yX3_protect cX3_protect 3 (some .int), Cond.fieldLink RX3 154 "GlulxHeap" "protectedAt" "I", Cond.fieldLink RX3 157 "GlulxHeap" "protectedLength" "I", Cond.methodLink RL 66 yX4_protect, Cond.instanceMethod yX4_protect, Cond.selects RX4 yX4_protect yX4_protect, Cond.code yX4_protect cX4_protect 3 (some .int), Cond.fieldLink RX4 115 "GlulxHeapModel" "guardAt" "I", Cond.fieldLink RX4 118 "GlulxHeapModel" "guardLong" "I"]
def wsL_law_r15 : List Cond := [Cond.methodLink RL 67 yX3_keep, Cond.instanceMethod yX3_keep, Cond.selects RX3 yX3_keep yX3_keep, Cond.code yX3_keep cX3_keep 2 (some .int), Cond.fieldLink RX3 160 "GlulxHeap" "keptCount" "I", Cond.methodLink RX3 163 yX2_become, Cond.instanceMethod yX2_become, Cond.selects RX2 yX2_become yX2_become, Cond.code yX2_become cX2_become 2 none, Cond.methodLink RL 71 yX4_keep, Cond.instanceMethod yX4_keep, Cond.selects RX4 yX4_keep yX4_keep, Cond.code yX4_keep cX4_keep 2 (some .int), Cond.fieldLink RX4 121 "GlulxHeapModel" "kept" "I", Cond.methodLink RL 72 yX3_back, Cond.instanceMethod yX3_back, Cond.selects RX3 yX3_back yX3_back, Cond.code yX3_back cX3_back 2 (some .int), Cond.methodLink RX3 167 yX3_lastKept, Cond.instanceMethod yX3_lastKept, Cond.selects RX3 yX3_lastKept yX3_lastKept, Cond.code yX3_lastKept cX3_lastKept 1 (some (.object "GlulxHeap$State")), Cond.methodLink RX3 171 yX3_comeBack, Cond.instanceMethod yX3_comeBack]
def wsL_law_r16 : List Cond := [Cond.selects RX3 yX3_comeBack yX3_comeBack, Cond.code yX3_comeBack cX3_comeBack 3 none, Cond.methodLink RL 75 yX4_back, Cond.instanceMethod yX4_back, Cond.selects RX4 yX4_back yX4_back, Cond.code yX4_back cX4_back 1 (some .int), Cond.methodLink RX4 124 yX4_come, Cond.instanceMethod yX4_come, Cond.selects RX4 yX4_come yX4_come, Cond.code yX4_come cX4_come 5 none, Cond.methodLink RL 76 yX3_restart, Cond.instanceMethod yX3_restart, Cond.selects RX3 yX3_restart yX3_restart, Cond.code yX3_restart cX3_restart 2 (some .int), Cond.fieldLink RX3 177 "GlulxHeap" "spare" "LGlulxHeap$State;", Cond.methodLink RX3 174 yX3_spareState, Cond.instanceMethod yX3_spareState, Cond.selects RX3 yX3_spareState yX3_spareState, Cond.code yX3_spareState cX3_spareState 1 (some (.object "GlulxHeap$State")), Cond.methodLink RL 79 yX4_restart, Cond.instanceMethod yX4_restart, Cond.selects RX4 yX4_restart yX4_restart, Cond.code yX4_restart cX4_restart 2 (some .int), Cond.constant RX4 127 (32768)]
def wsL_law_r17 : List Cond := [Cond.methodLink RL 80 yX3_same, Cond.instanceMethod yX3_same, Cond.selects RX3 yX3_same yX3_same, Cond.code yX3_same cX3_same 2 (some .int), Cond.methodLink RX3 180 yX2_isLike, Cond.instanceMethod yX2_isLike, Cond.selects RX2 yX2_isLike yX2_isLike, Cond.code yX2_isLike cX2_isLike 3 (some .boolean), Cond.methodLink RL 83 yX4_same, Cond.instanceMethod yX4_same, Cond.selects RX4 yX4_same yX4_same, Cond.code yX4_same cX4_same 4 (some .int), Cond.methodLink RL 84 yX3_write, Cond.instanceMethod yX3_write, Cond.selects RX3 yX3_write yX3_write, Cond.code yX3_write cX3_write 1 (some .int), Cond.fieldLink RX3 187 "GlulxHeap$Code" "length" "I", Cond.methodLink RX3 184 yX0_tell, Cond.instanceMethod yX0_tell, Cond.selects RX0 yX0_tell yX0_tell, Cond.code yX0_tell cX0_tell 3 none, Cond.fieldLink RX0 15 "GlulxHeap$Code" "length" "I", Cond.fieldLink RX0 27 "GlulxHeap$State" "size" "I", Cond.fieldLink RX0 35 "GlulxHeap$State" "start" "I"]
def wsL_law_r18 : List Cond := [Cond.fieldLink RX0 38 "GlulxHeap$State" "used" "I", Cond.fieldLink RX0 41 "GlulxHeap$State" "places" "[I", Cond.fieldLink RX0 45 "GlulxHeap$State" "lengths" "[I", Cond.methodLink RX0 32 yX0_appendPair, Cond.instanceMethod yX0_appendPair, Cond.selects RX0 yX0_appendPair yX0_appendPair, Cond.code yX0_appendPair cX0_appendPair 2 none, Cond.methodLink RX0 23 yX0_append, Cond.instanceMethod yX0_append, Cond.selects RX0 yX0_append yX0_append, Cond.code yX0_append cX0_append 2 none, Cond.methodLink RX0 48 yX0_tellBytes, Cond.instanceMethod yX0_tellBytes, Cond.selects RX0 yX0_tellBytes yX0_tellBytes, Cond.code yX0_tellBytes cX0_tellBytes 5 none, Cond.methodLink RX0 52 yX2_changedEnd, Cond.instanceMethod yX2_changedEnd, Cond.selects RX2 yX2_changedEnd yX2_changedEnd, Cond.code yX2_changedEnd cX2_changedEnd 2 (some .int), Cond.methodLink RX2 61 yX2_difference, Cond.instanceMethod yX2_difference, Cond.selects RX2 yX2_difference yX2_difference, Cond.code yX2_difference cX2_difference 2 (some .int), Cond.methodLink RX0 56 yX2_unchangedRow]
def wsL_law_r19 : List Cond := [Cond.instanceMethod yX2_unchangedRow, Cond.selects RX2 yX2_unchangedRow yX2_unchangedRow, Cond.code yX2_unchangedRow cX2_unchangedRow 5 (some .int), Cond.methodLink RX2 64 Lib.Math.min.name, Cond.methodLink RX0 60 yX2_difference, Cond.methodLink RL 87 yX4_write, Cond.instanceMethod yX4_write, Cond.selects RX4 yX4_write yX4_write, Cond.code yX4_write cX4_write 5 (some .int), Cond.fieldLink RX4 128 "GlulxHeapModel" "codeSize" "I", Cond.methodLink RX4 134 yX4_putTwo, Cond.instanceMethod yX4_putTwo, Cond.selects RX4 yX4_putTwo yX4_putTwo, Cond.code yX4_putTwo cX4_putTwo 2 none, Cond.methodLink RX4 131 yX4_put, Cond.instanceMethod yX4_put, Cond.selects RX4 yX4_put yX4_put, Cond.code yX4_put cX4_put 2 none, Cond.methodLink RL 88 yX3_code, Cond.instanceMethod yX3_code, Cond.selects RX3 yX3_code yX3_code, Cond.code yX3_code cX3_code 2 (some .int), Cond.methodLink RX3 188 yX0_has, Cond.instanceMethod yX0_has]
def wsL_law_r20 : List Cond := [Cond.selects RX0 yX0_has yX0_has, Cond.code yX0_has cX0_has 2 (some .boolean), Cond.methodLink RX3 190 yX0_byteAt, Cond.instanceMethod yX0_byteAt, Cond.selects RX0 yX0_byteAt yX0_byteAt, Cond.code yX0_byteAt cX0_byteAt 2 (some .int), Cond.methodLink RL 91 yX4_code, Cond.instanceMethod yX4_code, Cond.selects RX4 yX4_code yX4_code, Cond.code yX4_code cX4_code 2 (some .int), Cond.methodLink RL 92 yX3_poke, Cond.instanceMethod yX3_poke, Cond.selects RX3 yX3_poke yX3_poke, Cond.code yX3_poke cX3_poke 4 (some .int), Cond.fieldLink RX3 193 "GlulxHeap$Code" "bytes" "[B", Cond.methodLink RL 95 yX4_poke, Cond.instanceMethod yX4_poke, Cond.selects RX4 yX4_poke yX4_poke, Cond.code yX4_poke cX4_poke 4 (some .int), Cond.methodLink RL 96 yX3_cut, Cond.instanceMethod yX3_cut, Cond.selects RX3 yX3_cut yX3_cut, Cond.code yX3_cut cX3_cut 3 (some .int), Cond.methodLink RL 99 yX4_cut]
def wsL_law_r21 : List Cond := [Cond.instanceMethod yX4_cut, Cond.selects RX4 yX4_cut yX4_cut, Cond.code yX4_cut cX4_cut 3 (some .int), Cond.methodLink RL 100 yX3_read, Cond.instanceMethod yX3_read, Cond.selects RX3 yX3_read yX3_read, Cond.code yX3_read cX3_read 3 (some .int), Cond.methodLink RX3 194 yX0_unfold, Cond.instanceMethod yX0_unfold, Cond.selects RX0 yX0_unfold yX0_unfold, Cond.code yX0_unfold cX0_unfold 3 (some .int), Cond.methodLink RX0 63 yX2_begin, Cond.methodLink RX0 66 yX0_unfoldHead, Cond.instanceMethod yX0_unfoldHead, Cond.selects RX0 yX0_unfoldHead yX0_unfoldHead, Cond.code yX0_unfoldHead cX0_unfoldHead 5 (some .int), Cond.methodLink RX0 76 yX0_pairAt, Cond.instanceMethod yX0_pairAt, Cond.selects RX0 yX0_pairAt yX0_pairAt, Cond.code yX0_pairAt cX0_pairAt 2 (some .int), Cond.methodLink RX0 19 yX0_byteAt, Cond.methodLink RX0 70 yX0_unfoldBlocks, Cond.instanceMethod yX0_unfoldBlocks, Cond.selects RX0 yX0_unfoldBlocks yX0_unfoldBlocks]
def wsL_law_r22 : List Cond := [Cond.code yX0_unfoldBlocks cX0_unfoldBlocks 7 (some .int), Cond.methodLink RX0 73 yX0_unfoldBytes, Cond.instanceMethod yX0_unfoldBytes, Cond.selects RX0 yX0_unfoldBytes yX0_unfoldBytes, Cond.code yX0_unfoldBytes cX0_unfoldBytes 5 (some .int), Cond.fieldLink RX0 83 "GlulxHeap$State" "bytes" "[B", Cond.methodLink RL 103 yX4_read, Cond.instanceMethod yX4_read, Cond.selects RX4 yX4_read yX4_read, Cond.code yX4_read cX4_read 7 (some .int), Cond.methodLink RX4 140 yX4_head, Cond.instanceMethod yX4_head, Cond.selects RX4 yX4_head yX4_head, Cond.code yX4_head cX4_head 7 (some .int), Cond.methodLink RX4 137 yX4_two, Cond.instanceMethod yX4_two, Cond.selects RX4 yX4_two yX4_two, Cond.code yX4_two cX4_two 2 (some .int), Cond.methodLink RL 104 yX3_told, Cond.instanceMethod yX3_told, Cond.selects RX3 yX3_told yX3_told, Cond.code yX3_told cX3_told 2 (some .int), Cond.fieldLink RX3 198 "GlulxHeap$State" "start" "I", Cond.methodLink RX3 201 yX2_usedBytes]
def wsL_law_r23 : List Cond := [Cond.instanceMethod yX2_usedBytes, Cond.selects RX2 yX2_usedBytes yX2_usedBytes, Cond.code yX2_usedBytes cX2_usedBytes 3 (some .int), Cond.methodLink RX3 205 yX2_gapCount, Cond.instanceMethod yX2_gapCount, Cond.selects RX2 yX2_gapCount yX2_gapCount, Cond.code yX2_gapCount cX2_gapCount 3 (some .int), Cond.methodLink RL 107 yX4_told, Cond.instanceMethod yX4_told, Cond.selects RX4 yX4_told yX4_told, Cond.code yX4_told cX4_told 5 (some .int)]
def wsL_law : List Cond := (wsL_law_r1 ++ (wsL_law_r2 ++ (wsL_law_r3 ++ (wsL_law_r4 ++ (wsL_law_r5 ++ (wsL_law_r6 ++ (wsL_law_r7 ++ (wsL_law_r8 ++ (wsL_law_r9 ++ (wsL_law_r10 ++ (wsL_law_r11 ++ (wsL_law_r12 ++ (wsL_law_r13 ++ (wsL_law_r14 ++ (wsL_law_r15 ++ (wsL_law_r16 ++ (wsL_law_r17 ++ (wsL_law_r18 ++ (wsL_law_r19 ++ (wsL_law_r20 ++ (wsL_law_r21 ++ (wsL_law_r22 ++ wsL_law_r23)))))))))))))))))))))) ++ wsX30 ++ wsX40 ++ wsX10 ++ wsX00 ++ wsX20 ++ ([] : List Cond)
abbrev vwCl : List vw_C := [(RX0, TX0, 2), (RX1, TX1, 2), (RX2, TX2, 6), (RX3, TX3, 8), (RX4, TX4, 18)]
end
section
set_option maxRecDepth 20000 in
theorem wsL_law_r1_in : ∀ w ∈ wsL_law_r1, w ∈ lw_tbl := List.forall_mem_cons.mpr ⟨List.mem_of_getElem? (i := 34) (by decide +kernel), List.forall_mem_cons.mpr ⟨List.mem_of_getElem? (i := 35) (by decide +kernel), List.forall_mem_cons.mpr ⟨List.mem_of_getElem? (i := 26) (by decide +kernel), List.forall_mem_cons.mpr ⟨List.mem_of_getElem? (i := 421) (by decide +kernel), List.forall_mem_cons.mpr ⟨List.mem_of_getElem? (i := 422) (by decide +kernel), List.forall_mem_cons.mpr ⟨List.mem_of_getElem? (i := 31) (by decide +kernel), List.forall_mem_cons.mpr ⟨List.mem_of_getElem? (i := 36) (by decide +kernel), List.forall_mem_cons.mpr ⟨List.mem_of_getElem? (i := 37) (by decide +kernel), List.forall_mem_cons.mpr ⟨List.mem_of_getElem? (i := 38) (by decide +kernel), List.forall_mem_cons.mpr ⟨List.mem_of_getElem? (i := 39) (by decide +kernel), List.forall_mem_cons.mpr ⟨List.mem_of_getElem? (i := 40) (by decide +kernel), List.forall_mem_cons.mpr ⟨List.mem_of_getElem? (i := 41) (by decide +kernel), List.forall_mem_cons.mpr ⟨List.mem_of_getElem? (i := 42) (by decide +kernel), List.forall_mem_cons.mpr ⟨List.mem_of_getElem? (i := 122) (by decide +kernel), List.forall_mem_cons.mpr ⟨List.mem_of_getElem? (i := 44) (by decide +kernel), List.forall_mem_cons.mpr ⟨List.mem_of_getElem? (i := 45) (by decide +kernel), List.forall_mem_cons.mpr ⟨List.mem_of_getElem? (i := 27) (by decide +kernel), List.forall_mem_cons.mpr ⟨List.mem_of_getElem? (i := 123) (by decide +kernel), List.forall_mem_cons.mpr ⟨List.mem_of_getElem? (i := 59) (by decide +kernel), List.forall_mem_cons.mpr ⟨List.mem_of_getElem? (i := 60) (by decide +kernel), List.forall_mem_cons.mpr ⟨List.mem_of_getElem? (i := 28) (by decide +kernel), List.forall_mem_cons.mpr ⟨List.mem_of_getElem? (i := 124) (by decide +kernel), List.forall_mem_cons.mpr ⟨List.mem_of_getElem? (i := 74) (by decide +kernel), List.forall_mem_cons.mpr ⟨List.mem_of_getElem? (i := 29) (by decide +kernel), fun _ h => absurd h List.not_mem_nil⟩⟩⟩⟩⟩⟩⟩⟩⟩⟩⟩⟩⟩⟩⟩⟩⟩⟩⟩⟩⟩⟩⟩⟩
set_option maxRecDepth 20000 in
theorem wsL_law_r2_in : ∀ w ∈ wsL_law_r2, w ∈ lw_tbl := List.forall_mem_cons.mpr ⟨List.mem_of_getElem? (i := 125) (by decide +kernel), List.forall_mem_cons.mpr ⟨List.mem_of_getElem? (i := 47) (by decide +kernel), List.forall_mem_cons.mpr ⟨List.mem_of_getElem? (i := 48) (by decide +kernel), List.forall_mem_cons.mpr ⟨List.mem_of_getElem? (i := 49) (by decide +kernel), List.forall_mem_cons.mpr ⟨List.mem_of_getElem? (i := 58) (by decide +kernel), List.forall_mem_cons.mpr ⟨List.mem_of_getElem? (i := 50) (by decide +kernel), List.forall_mem_cons.mpr ⟨List.mem_of_getElem? (i := 62) (by decide +kernel), List.forall_mem_cons.mpr ⟨List.mem_of_getElem? (i := 63) (by decide +kernel), List.forall_mem_cons.mpr ⟨List.mem_of_getElem? (i := 64) (by decide +kernel), List.forall_mem_cons.mpr ⟨List.mem_of_getElem? (i := 65) (by decide +kernel), List.forall_mem_cons.mpr ⟨List.mem_of_getElem? (i := 76) (by decide +kernel), List.forall_mem_cons.mpr ⟨List.mem_of_getElem? (i := 77) (by decide +kernel), List.forall_mem_cons.mpr ⟨List.mem_of_getElem? (i := 78) (by decide +kernel), List.forall_mem_cons.mpr ⟨List.mem_of_getElem? (i := 79) (by decide +kernel), List.forall_mem_cons.mpr ⟨List.mem_of_getElem? (i := 111) (by decide +kernel), List.forall_mem_cons.mpr ⟨List.mem_of_getElem? (i := 83) (by decide +kernel), List.forall_mem_cons.mpr ⟨List.mem_of_getElem? (i := 86) (by decide +kernel), List.forall_mem_cons.mpr ⟨List.mem_of_getElem? (i := 112) (by decide +kernel), List.forall_mem_cons.mpr ⟨List.mem_of_getElem? (i := 113) (by decide +kernel), List.forall_mem_cons.mpr ⟨List.mem_of_getElem? (i := 114) (by decide +kernel), List.forall_mem_cons.mpr ⟨List.mem_of_getElem? (i := 115) (by decide +kernel), List.forall_mem_cons.mpr ⟨List.mem_of_getElem? (i := 89) (by decide +kernel), List.forall_mem_cons.mpr ⟨List.mem_of_getElem? (i := 92) (by decide +kernel), List.forall_mem_cons.mpr ⟨List.mem_of_getElem? (i := 95) (by decide +kernel), fun _ h => absurd h List.not_mem_nil⟩⟩⟩⟩⟩⟩⟩⟩⟩⟩⟩⟩⟩⟩⟩⟩⟩⟩⟩⟩⟩⟩⟩⟩
set_option maxRecDepth 20000 in
theorem wsL_law_r3_in : ∀ w ∈ wsL_law_r3, w ∈ lw_tbl := List.forall_mem_cons.mpr ⟨List.mem_of_getElem? (i := 116) (by decide +kernel), List.forall_mem_cons.mpr ⟨List.mem_of_getElem? (i := 117) (by decide +kernel), List.forall_mem_cons.mpr ⟨List.mem_of_getElem? (i := 30) (by decide +kernel), List.forall_mem_cons.mpr ⟨List.mem_of_getElem? (i := 118) (by decide +kernel), List.forall_mem_cons.mpr ⟨List.mem_of_getElem? (i := 119) (by decide +kernel), List.forall_mem_cons.mpr ⟨List.mem_of_getElem? (i := 120) (by decide +kernel), List.forall_mem_cons.mpr ⟨List.mem_of_getElem? (i := 121) (by decide +kernel), List.forall_mem_cons.mpr ⟨List.mem_of_getElem? (i := 423) (by decide +kernel), List.forall_mem_cons.mpr ⟨List.mem_of_getElem? (i := 424) (by decide +kernel), List.forall_mem_cons.mpr ⟨List.mem_of_getElem? (i := 425) (by decide +kernel), List.forall_mem_cons.mpr ⟨List.mem_of_getElem? (i := 426) (by decide +kernel), List.forall_mem_cons.mpr ⟨List.mem_of_getElem? (i := 431) (by decide +kernel), List.forall_mem_cons.mpr ⟨List.mem_of_getElem? (i := 435) (by decide +kernel), List.forall_mem_cons.mpr ⟨List.mem_of_getElem? (i := 436) (by decide +kernel), List.forall_mem_cons.mpr ⟨List.mem_of_getElem? (i := 427) (by decide +kernel), List.forall_mem_cons.mpr ⟨List.mem_of_getElem? (i := 438) (by decide +kernel), List.forall_mem_cons.mpr ⟨List.mem_of_getElem? (i := 439) (by decide +kernel), List.forall_mem_cons.mpr ⟨List.mem_of_getElem? (i := 440) (by decide +kernel), List.forall_mem_cons.mpr ⟨List.mem_of_getElem? (i := 441) (by decide +kernel), List.forall_mem_cons.mpr ⟨List.mem_of_getElem? (i := 442) (by decide +kernel), List.forall_mem_cons.mpr ⟨List.mem_of_getElem? (i := 443) (by decide +kernel), List.forall_mem_cons.mpr ⟨List.mem_of_getElem? (i := 446) (by decide +kernel), List.forall_mem_cons.mpr ⟨List.mem_of_getElem? (i := 448) (by decide +kernel), List.forall_mem_cons.mpr ⟨List.mem_of_getElem? (i := 432) (by decide +kernel), fun _ h => absurd h List.not_mem_nil⟩⟩⟩⟩⟩⟩⟩⟩⟩⟩⟩⟩⟩⟩⟩⟩⟩⟩⟩⟩⟩⟩⟩⟩
set_option maxRecDepth 20000 in
theorem wsL_law_r4_in : ∀ w ∈ wsL_law_r4, w ∈ lw_tbl := List.forall_mem_cons.mpr ⟨List.mem_of_getElem? (i := 428) (by decide +kernel), List.forall_mem_cons.mpr ⟨List.mem_of_getElem? (i := 429) (by decide +kernel), List.forall_mem_cons.mpr ⟨List.mem_of_getElem? (i := 430) (by decide +kernel), List.forall_mem_cons.mpr ⟨List.mem_of_getElem? (i := 147) (by decide +kernel), List.forall_mem_cons.mpr ⟨List.mem_of_getElem? (i := 148) (by decide +kernel), List.forall_mem_cons.mpr ⟨List.mem_of_getElem? (i := 149) (by decide +kernel), List.forall_mem_cons.mpr ⟨List.mem_of_getElem? (i := 150) (by decide +kernel), List.forall_mem_cons.mpr ⟨List.mem_of_getElem? (i := 154) (by decide +kernel), List.forall_mem_cons.mpr ⟨List.mem_of_getElem? (i := 159) (by decide +kernel), List.forall_mem_cons.mpr ⟨List.mem_of_getElem? (i := 151) (by decide +kernel), List.forall_mem_cons.mpr ⟨List.mem_of_getElem? (i := 152) (by decide +kernel), List.forall_mem_cons.mpr ⟨List.mem_of_getElem? (i := 153) (by decide +kernel), List.forall_mem_cons.mpr ⟨List.mem_of_getElem? (i := 155) (by decide +kernel), List.forall_mem_cons.mpr ⟨List.mem_of_getElem? (i := 156) (by decide +kernel), List.forall_mem_cons.mpr ⟨List.mem_of_getElem? (i := 157) (by decide +kernel), List.forall_mem_cons.mpr ⟨List.mem_of_getElem? (i := 158) (by decide +kernel), List.forall_mem_cons.mpr ⟨List.mem_of_getElem? (i := 160) (by decide +kernel), List.forall_mem_cons.mpr ⟨List.mem_of_getElem? (i := 161) (by decide +kernel), List.forall_mem_cons.mpr ⟨List.mem_of_getElem? (i := 162) (by decide +kernel), List.forall_mem_cons.mpr ⟨List.mem_of_getElem? (i := 163) (by decide +kernel), List.forall_mem_cons.mpr ⟨List.mem_of_getElem? (i := 486) (by decide +kernel), List.forall_mem_cons.mpr ⟨List.mem_of_getElem? (i := 487) (by decide +kernel), List.forall_mem_cons.mpr ⟨List.mem_of_getElem? (i := 488) (by decide +kernel), List.forall_mem_cons.mpr ⟨List.mem_of_getElem? (i := 489) (by decide +kernel), fun _ h => absurd h List.not_mem_nil⟩⟩⟩⟩⟩⟩⟩⟩⟩⟩⟩⟩⟩⟩⟩⟩⟩⟩⟩⟩⟩⟩⟩⟩
set_option maxRecDepth 20000 in
theorem wsL_law_r5_in : ∀ w ∈ wsL_law_r5, w ∈ lw_tbl := List.forall_mem_cons.mpr ⟨List.mem_of_getElem? (i := 493) (by decide +kernel), List.forall_mem_cons.mpr ⟨List.mem_of_getElem? (i := 502) (by decide +kernel), List.forall_mem_cons.mpr ⟨List.mem_of_getElem? (i := 490) (by decide +kernel), List.forall_mem_cons.mpr ⟨List.mem_of_getElem? (i := 491) (by decide +kernel), List.forall_mem_cons.mpr ⟨List.mem_of_getElem? (i := 492) (by decide +kernel), List.forall_mem_cons.mpr ⟨List.mem_of_getElem? (i := 494) (by decide +kernel), List.forall_mem_cons.mpr ⟨List.mem_of_getElem? (i := 496) (by decide +kernel), List.forall_mem_cons.mpr ⟨List.mem_of_getElem? (i := 11) (by decide +kernel), List.forall_mem_cons.mpr ⟨List.mem_of_getElem? (i := 497) (by decide +kernel), List.forall_mem_cons.mpr ⟨List.mem_of_getElem? (i := 498) (by decide +kernel), List.forall_mem_cons.mpr ⟨List.mem_of_getElem? (i := 500) (by decide +kernel), List.forall_mem_cons.mpr ⟨List.mem_of_getElem? (i := 12) (by decide +kernel), List.forall_mem_cons.mpr ⟨List.mem_of_getElem? (i := 501) (by decide +kernel), List.forall_mem_cons.mpr ⟨List.mem_of_getElem? (i := 164) (by decide +kernel), List.forall_mem_cons.mpr ⟨List.mem_of_getElem? (i := 165) (by decide +kernel), List.forall_mem_cons.mpr ⟨List.mem_of_getElem? (i := 166) (by decide +kernel), List.forall_mem_cons.mpr ⟨List.mem_of_getElem? (i := 167) (by decide +kernel), List.forall_mem_cons.mpr ⟨List.mem_of_getElem? (i := 168) (by decide +kernel), List.forall_mem_cons.mpr ⟨List.mem_of_getElem? (i := 170) (by decide +kernel), List.forall_mem_cons.mpr ⟨List.mem_of_getElem? (i := 0) (by decide +kernel), List.forall_mem_cons.mpr ⟨List.mem_of_getElem? (i := 171) (by decide +kernel), List.forall_mem_cons.mpr ⟨List.mem_of_getElem? (i := 172) (by decide +kernel), List.forall_mem_cons.mpr ⟨List.mem_of_getElem? (i := 173) (by decide +kernel), List.forall_mem_cons.mpr ⟨List.mem_of_getElem? (i := 174) (by decide +kernel), fun _ h => absurd h List.not_mem_nil⟩⟩⟩⟩⟩⟩⟩⟩⟩⟩⟩⟩⟩⟩⟩⟩⟩⟩⟩⟩⟩⟩⟩⟩
set_option maxRecDepth 20000 in
theorem wsL_law_r6_in : ∀ w ∈ wsL_law_r6, w ∈ lw_tbl := List.forall_mem_cons.mpr ⟨List.mem_of_getElem? (i := 175) (by decide +kernel), List.forall_mem_cons.mpr ⟨List.mem_of_getElem? (i := 503) (by decide +kernel), List.forall_mem_cons.mpr ⟨List.mem_of_getElem? (i := 504) (by decide +kernel), List.forall_mem_cons.mpr ⟨List.mem_of_getElem? (i := 505) (by decide +kernel), List.forall_mem_cons.mpr ⟨List.mem_of_getElem? (i := 506) (by decide +kernel), List.forall_mem_cons.mpr ⟨List.mem_of_getElem? (i := 176) (by decide +kernel), List.forall_mem_cons.mpr ⟨List.mem_of_getElem? (i := 177) (by decide +kernel), List.forall_mem_cons.mpr ⟨List.mem_of_getElem? (i := 178) (by decide +kernel), List.forall_mem_cons.mpr ⟨List.mem_of_getElem? (i := 179) (by decide +kernel), List.forall_mem_cons.mpr ⟨List.mem_of_getElem? (i := 81) (by decide +kernel), List.forall_mem_cons.mpr ⟨List.mem_of_getElem? (i := 180) (by decide +kernel), List.forall_mem_cons.mpr ⟨List.mem_of_getElem? (i := 181) (by decide +kernel), List.forall_mem_cons.mpr ⟨List.mem_of_getElem? (i := 182) (by decide +kernel), List.forall_mem_cons.mpr ⟨List.mem_of_getElem? (i := 183) (by decide +kernel), List.forall_mem_cons.mpr ⟨List.mem_of_getElem? (i := 184) (by decide +kernel), List.forall_mem_cons.mpr ⟨List.mem_of_getElem? (i := 185) (by decide +kernel), List.forall_mem_cons.mpr ⟨List.mem_of_getElem? (i := 507) (by decide +kernel), List.forall_mem_cons.mpr ⟨List.mem_of_getElem? (i := 508) (by decide +kernel), List.forall_mem_cons.mpr ⟨List.mem_of_getElem? (i := 509) (by decide +kernel), List.forall_mem_cons.mpr ⟨List.mem_of_getElem? (i := 510) (by decide +kernel), List.forall_mem_cons.mpr ⟨List.mem_of_getElem? (i := 186) (by decide +kernel), List.forall_mem_cons.mpr ⟨List.mem_of_getElem? (i := 187) (by decide +kernel), List.forall_mem_cons.mpr ⟨List.mem_of_getElem? (i := 188) (by decide +kernel), List.forall_mem_cons.mpr ⟨List.mem_of_getElem? (i := 189) (by decide +kernel), fun _ h => absurd h List.not_mem_nil⟩⟩⟩⟩⟩⟩⟩⟩⟩⟩⟩⟩⟩⟩⟩⟩⟩⟩⟩⟩⟩⟩⟩⟩
set_option maxRecDepth 20000 in
theorem wsL_law_r7_in : ∀ w ∈ wsL_law_r7, w ∈ lw_tbl := List.forall_mem_cons.mpr ⟨List.mem_of_getElem? (i := 190) (by decide +kernel), List.forall_mem_cons.mpr ⟨List.mem_of_getElem? (i := 192) (by decide +kernel), List.forall_mem_cons.mpr ⟨List.mem_of_getElem? (i := 191) (by decide +kernel), List.forall_mem_cons.mpr ⟨List.mem_of_getElem? (i := 32) (by decide +kernel), List.forall_mem_cons.mpr ⟨List.mem_of_getElem? (i := 511) (by decide +kernel), List.forall_mem_cons.mpr ⟨List.mem_of_getElem? (i := 512) (by decide +kernel), List.forall_mem_cons.mpr ⟨List.mem_of_getElem? (i := 513) (by decide +kernel), List.forall_mem_cons.mpr ⟨List.mem_of_getElem? (i := 514) (by decide +kernel), List.forall_mem_cons.mpr ⟨List.mem_of_getElem? (i := 193) (by decide +kernel), List.forall_mem_cons.mpr ⟨List.mem_of_getElem? (i := 194) (by decide +kernel), List.forall_mem_cons.mpr ⟨List.mem_of_getElem? (i := 195) (by decide +kernel), List.forall_mem_cons.mpr ⟨List.mem_of_getElem? (i := 196) (by decide +kernel), List.forall_mem_cons.mpr ⟨List.mem_of_getElem? (i := 96) (by decide +kernel), List.forall_mem_cons.mpr ⟨List.mem_of_getElem? (i := 90) (by decide +kernel), List.forall_mem_cons.mpr ⟨List.mem_of_getElem? (i := 197) (by decide +kernel), List.forall_mem_cons.mpr ⟨List.mem_of_getElem? (i := 198) (by decide +kernel), List.forall_mem_cons.mpr ⟨List.mem_of_getElem? (i := 199) (by decide +kernel), List.forall_mem_cons.mpr ⟨List.mem_of_getElem? (i := 200) (by decide +kernel), List.forall_mem_cons.mpr ⟨List.mem_of_getElem? (i := 201) (by decide +kernel), List.forall_mem_cons.mpr ⟨List.mem_of_getElem? (i := 202) (by decide +kernel), List.forall_mem_cons.mpr ⟨List.mem_of_getElem? (i := 203) (by decide +kernel), List.forall_mem_cons.mpr ⟨List.mem_of_getElem? (i := 204) (by decide +kernel), List.forall_mem_cons.mpr ⟨List.mem_of_getElem? (i := 515) (by decide +kernel), List.forall_mem_cons.mpr ⟨List.mem_of_getElem? (i := 516) (by decide +kernel), fun _ h => absurd h List.not_mem_nil⟩⟩⟩⟩⟩⟩⟩⟩⟩⟩⟩⟩⟩⟩⟩⟩⟩⟩⟩⟩⟩⟩⟩⟩
set_option maxRecDepth 20000 in
theorem wsL_law_r8_in : ∀ w ∈ wsL_law_r8, w ∈ lw_tbl := List.forall_mem_cons.mpr ⟨List.mem_of_getElem? (i := 517) (by decide +kernel), List.forall_mem_cons.mpr ⟨List.mem_of_getElem? (i := 518) (by decide +kernel), List.forall_mem_cons.mpr ⟨List.mem_of_getElem? (i := 434) (by decide +kernel), List.forall_mem_cons.mpr ⟨List.mem_of_getElem? (i := 519) (by decide +kernel), List.forall_mem_cons.mpr ⟨List.mem_of_getElem? (i := 520) (by decide +kernel), List.forall_mem_cons.mpr ⟨List.mem_of_getElem? (i := 521) (by decide +kernel), List.forall_mem_cons.mpr ⟨List.mem_of_getElem? (i := 522) (by decide +kernel), List.forall_mem_cons.mpr ⟨List.mem_of_getElem? (i := 524) (by decide +kernel), List.forall_mem_cons.mpr ⟨List.mem_of_getElem? (i := 13) (by decide +kernel), List.forall_mem_cons.mpr ⟨List.mem_of_getElem? (i := 525) (by decide +kernel), List.forall_mem_cons.mpr ⟨List.mem_of_getElem? (i := 205) (by decide +kernel), List.forall_mem_cons.mpr ⟨List.mem_of_getElem? (i := 206) (by decide +kernel), List.forall_mem_cons.mpr ⟨List.mem_of_getElem? (i := 207) (by decide +kernel), List.forall_mem_cons.mpr ⟨List.mem_of_getElem? (i := 208) (by decide +kernel), List.forall_mem_cons.mpr ⟨List.mem_of_getElem? (i := 209) (by decide +kernel), List.forall_mem_cons.mpr ⟨List.mem_of_getElem? (i := 210) (by decide +kernel), List.forall_mem_cons.mpr ⟨List.mem_of_getElem? (i := 211) (by decide +kernel), List.forall_mem_cons.mpr ⟨List.mem_of_getElem? (i := 212) (by decide +kernel), List.forall_mem_cons.mpr ⟨List.mem_of_getElem? (i := 213) (by decide +kernel), List.forall_mem_cons.mpr ⟨List.mem_of_getElem? (i := 214) (by decide +kernel), List.forall_mem_cons.mpr ⟨List.mem_of_getElem? (i := 215) (by decide +kernel), List.forall_mem_cons.mpr ⟨List.mem_of_getElem? (i := 216) (by decide +kernel), List.forall_mem_cons.mpr ⟨List.mem_of_getElem? (i := 217) (by decide +kernel), List.forall_mem_cons.mpr ⟨List.mem_of_getElem? (i := 218) (by decide +kernel), fun _ h => absurd h List.not_mem_nil⟩⟩⟩⟩⟩⟩⟩⟩⟩⟩⟩⟩⟩⟩⟩⟩⟩⟩⟩⟩⟩⟩⟩⟩
set_option maxRecDepth 20000 in
theorem wsL_law_r9_in : ∀ w ∈ wsL_law_r9, w ∈ lw_tbl := List.forall_mem_cons.mpr ⟨List.mem_of_getElem? (i := 219) (by decide +kernel), List.forall_mem_cons.mpr ⟨List.mem_of_getElem? (i := 220) (by decide +kernel), List.forall_mem_cons.mpr ⟨List.mem_of_getElem? (i := 221) (by decide +kernel), List.forall_mem_cons.mpr ⟨List.mem_of_getElem? (i := 222) (by decide +kernel), List.forall_mem_cons.mpr ⟨List.mem_of_getElem? (i := 223) (by decide +kernel), List.forall_mem_cons.mpr ⟨List.mem_of_getElem? (i := 224) (by decide +kernel), List.forall_mem_cons.mpr ⟨List.mem_of_getElem? (i := 225) (by decide +kernel), List.forall_mem_cons.mpr ⟨List.mem_of_getElem? (i := 226) (by decide +kernel), List.forall_mem_cons.mpr ⟨List.mem_of_getElem? (i := 227) (by decide +kernel), List.forall_mem_cons.mpr ⟨List.mem_of_getElem? (i := 526) (by decide +kernel), List.forall_mem_cons.mpr ⟨List.mem_of_getElem? (i := 527) (by decide +kernel), List.forall_mem_cons.mpr ⟨List.mem_of_getElem? (i := 528) (by decide +kernel), List.forall_mem_cons.mpr ⟨List.mem_of_getElem? (i := 529) (by decide +kernel), List.forall_mem_cons.mpr ⟨List.mem_of_getElem? (i := 433) (by decide +kernel), List.forall_mem_cons.mpr ⟨List.mem_of_getElem? (i := 542) (by decide +kernel), List.forall_mem_cons.mpr ⟨List.mem_of_getElem? (i := 543) (by decide +kernel), List.forall_mem_cons.mpr ⟨List.mem_of_getElem? (i := 544) (by decide +kernel), List.forall_mem_cons.mpr ⟨List.mem_of_getElem? (i := 530) (by decide +kernel), List.forall_mem_cons.mpr ⟨List.mem_of_getElem? (i := 532) (by decide +kernel), List.forall_mem_cons.mpr ⟨List.mem_of_getElem? (i := 14) (by decide +kernel), List.forall_mem_cons.mpr ⟨List.mem_of_getElem? (i := 533) (by decide +kernel), List.forall_mem_cons.mpr ⟨List.mem_of_getElem? (i := 534) (by decide +kernel), List.forall_mem_cons.mpr ⟨List.mem_of_getElem? (i := 536) (by decide +kernel), List.forall_mem_cons.mpr ⟨List.mem_of_getElem? (i := 15) (by decide +kernel), fun _ h => absurd h List.not_mem_nil⟩⟩⟩⟩⟩⟩⟩⟩⟩⟩⟩⟩⟩⟩⟩⟩⟩⟩⟩⟩⟩⟩⟩⟩
set_option maxRecDepth 20000 in
theorem wsL_law_r10_in : ∀ w ∈ wsL_law_r10, w ∈ lw_tbl := List.forall_mem_cons.mpr ⟨List.mem_of_getElem? (i := 537) (by decide +kernel), List.forall_mem_cons.mpr ⟨List.mem_of_getElem? (i := 538) (by decide +kernel), List.forall_mem_cons.mpr ⟨List.mem_of_getElem? (i := 540) (by decide +kernel), List.forall_mem_cons.mpr ⟨List.mem_of_getElem? (i := 16) (by decide +kernel), List.forall_mem_cons.mpr ⟨List.mem_of_getElem? (i := 541) (by decide +kernel), List.forall_mem_cons.mpr ⟨List.mem_of_getElem? (i := 228) (by decide +kernel), List.forall_mem_cons.mpr ⟨List.mem_of_getElem? (i := 229) (by decide +kernel), List.forall_mem_cons.mpr ⟨List.mem_of_getElem? (i := 230) (by decide +kernel), List.forall_mem_cons.mpr ⟨List.mem_of_getElem? (i := 231) (by decide +kernel), List.forall_mem_cons.mpr ⟨List.mem_of_getElem? (i := 88) (by decide +kernel), List.forall_mem_cons.mpr ⟨List.mem_of_getElem? (i := 232) (by decide +kernel), List.forall_mem_cons.mpr ⟨List.mem_of_getElem? (i := 233) (by decide +kernel), List.forall_mem_cons.mpr ⟨List.mem_of_getElem? (i := 234) (by decide +kernel), List.forall_mem_cons.mpr ⟨List.mem_of_getElem? (i := 235) (by decide +kernel), List.forall_mem_cons.mpr ⟨List.mem_of_getElem? (i := 236) (by decide +kernel), List.forall_mem_cons.mpr ⟨List.mem_of_getElem? (i := 237) (by decide +kernel), List.forall_mem_cons.mpr ⟨List.mem_of_getElem? (i := 238) (by decide +kernel), List.forall_mem_cons.mpr ⟨List.mem_of_getElem? (i := 239) (by decide +kernel), List.forall_mem_cons.mpr ⟨List.mem_of_getElem? (i := 545) (by decide +kernel), List.forall_mem_cons.mpr ⟨List.mem_of_getElem? (i := 546) (by decide +kernel), List.forall_mem_cons.mpr ⟨List.mem_of_getElem? (i := 547) (by decide +kernel), List.forall_mem_cons.mpr ⟨List.mem_of_getElem? (i := 548) (by decide +kernel), List.forall_mem_cons.mpr ⟨List.mem_of_getElem? (i := 240) (by decide +kernel), List.forall_mem_cons.mpr ⟨List.mem_of_getElem? (i := 241) (by decide +kernel), fun _ h => absurd h List.not_mem_nil⟩⟩⟩⟩⟩⟩⟩⟩⟩⟩⟩⟩⟩⟩⟩⟩⟩⟩⟩⟩⟩⟩⟩⟩
set_option maxRecDepth 20000 in
theorem wsL_law_r11_in : ∀ w ∈ wsL_law_r11, w ∈ lw_tbl := List.forall_mem_cons.mpr ⟨List.mem_of_getElem? (i := 242) (by decide +kernel), List.forall_mem_cons.mpr ⟨List.mem_of_getElem? (i := 243) (by decide +kernel), List.forall_mem_cons.mpr ⟨List.mem_of_getElem? (i := 85) (by decide +kernel), List.forall_mem_cons.mpr ⟨List.mem_of_getElem? (i := 244) (by decide +kernel), List.forall_mem_cons.mpr ⟨List.mem_of_getElem? (i := 549) (by decide +kernel), List.forall_mem_cons.mpr ⟨List.mem_of_getElem? (i := 550) (by decide +kernel), List.forall_mem_cons.mpr ⟨List.mem_of_getElem? (i := 551) (by decide +kernel), List.forall_mem_cons.mpr ⟨List.mem_of_getElem? (i := 552) (by decide +kernel), List.forall_mem_cons.mpr ⟨List.mem_of_getElem? (i := 245) (by decide +kernel), List.forall_mem_cons.mpr ⟨List.mem_of_getElem? (i := 246) (by decide +kernel), List.forall_mem_cons.mpr ⟨List.mem_of_getElem? (i := 247) (by decide +kernel), List.forall_mem_cons.mpr ⟨List.mem_of_getElem? (i := 248) (by decide +kernel), List.forall_mem_cons.mpr ⟨List.mem_of_getElem? (i := 258) (by decide +kernel), List.forall_mem_cons.mpr ⟨List.mem_of_getElem? (i := 259) (by decide +kernel), List.forall_mem_cons.mpr ⟨List.mem_of_getElem? (i := 33) (by decide +kernel), List.forall_mem_cons.mpr ⟨List.mem_of_getElem? (i := 260) (by decide +kernel), List.forall_mem_cons.mpr ⟨List.mem_of_getElem? (i := 249) (by decide +kernel), List.forall_mem_cons.mpr ⟨List.mem_of_getElem? (i := 250) (by decide +kernel), List.forall_mem_cons.mpr ⟨List.mem_of_getElem? (i := 251) (by decide +kernel), List.forall_mem_cons.mpr ⟨List.mem_of_getElem? (i := 252) (by decide +kernel), List.forall_mem_cons.mpr ⟨List.mem_of_getElem? (i := 253) (by decide +kernel), List.forall_mem_cons.mpr ⟨List.mem_of_getElem? (i := 254) (by decide +kernel), List.forall_mem_cons.mpr ⟨List.mem_of_getElem? (i := 255) (by decide +kernel), List.forall_mem_cons.mpr ⟨List.mem_of_getElem? (i := 51) (by decide +kernel), fun _ h => absurd h List.not_mem_nil⟩⟩⟩⟩⟩⟩⟩⟩⟩⟩⟩⟩⟩⟩⟩⟩⟩⟩⟩⟩⟩⟩⟩⟩
set_option maxRecDepth 20000 in
theorem wsL_law_r12_in : ∀ w ∈ wsL_law_r12, w ∈ lw_tbl := List.forall_mem_cons.mpr ⟨List.mem_of_getElem? (i := 80) (by decide +kernel), List.forall_mem_cons.mpr ⟨List.mem_of_getElem? (i := 257) (by decide +kernel), List.forall_mem_cons.mpr ⟨List.mem_of_getElem? (i := 256) (by decide +kernel), List.forall_mem_cons.mpr ⟨List.mem_of_getElem? (i := 261) (by decide +kernel), List.forall_mem_cons.mpr ⟨List.mem_of_getElem? (i := 263) (by decide +kernel), List.forall_mem_cons.mpr ⟨List.mem_of_getElem? (i := 1) (by decide +kernel), List.forall_mem_cons.mpr ⟨List.mem_of_getElem? (i := 264) (by decide +kernel), List.forall_mem_cons.mpr ⟨List.mem_of_getElem? (i := 52) (by decide +kernel), List.forall_mem_cons.mpr ⟨List.mem_of_getElem? (i := 265) (by decide +kernel), List.forall_mem_cons.mpr ⟨List.mem_of_getElem? (i := 266) (by decide +kernel), List.forall_mem_cons.mpr ⟨List.mem_of_getElem? (i := 267) (by decide +kernel), List.forall_mem_cons.mpr ⟨List.mem_of_getElem? (i := 268) (by decide +kernel), List.forall_mem_cons.mpr ⟨List.mem_of_getElem? (i := 269) (by decide +kernel), List.forall_mem_cons.mpr ⟨List.mem_of_getElem? (i := 270) (by decide +kernel), List.forall_mem_cons.mpr ⟨List.mem_of_getElem? (i := 271) (by decide +kernel), List.forall_mem_cons.mpr ⟨List.mem_of_getElem? (i := 272) (by decide +kernel), List.forall_mem_cons.mpr ⟨List.mem_of_getElem? (i := 273) (by decide +kernel), List.forall_mem_cons.mpr ⟨List.mem_of_getElem? (i := 274) (by decide +kernel), List.forall_mem_cons.mpr ⟨List.mem_of_getElem? (i := 275) (by decide +kernel), List.forall_mem_cons.mpr ⟨List.mem_of_getElem? (i := 276) (by decide +kernel), List.forall_mem_cons.mpr ⟨List.mem_of_getElem? (i := 277) (by decide +kernel), List.forall_mem_cons.mpr ⟨List.mem_of_getElem? (i := 278) (by decide +kernel), List.forall_mem_cons.mpr ⟨List.mem_of_getElem? (i := 553) (by decide +kernel), List.forall_mem_cons.mpr ⟨List.mem_of_getElem? (i := 554) (by decide +kernel), fun _ h => absurd h List.not_mem_nil⟩⟩⟩⟩⟩⟩⟩⟩⟩⟩⟩⟩⟩⟩⟩⟩⟩⟩⟩⟩⟩⟩⟩⟩
set_option maxRecDepth 20000 in
theorem wsL_law_r13_in : ∀ w ∈ wsL_law_r13, w ∈ lw_tbl := List.forall_mem_cons.mpr ⟨List.mem_of_getElem? (i := 555) (by decide +kernel), List.forall_mem_cons.mpr ⟨List.mem_of_getElem? (i := 556) (by decide +kernel), List.forall_mem_cons.mpr ⟨List.mem_of_getElem? (i := 557) (by decide +kernel), List.forall_mem_cons.mpr ⟨List.mem_of_getElem? (i := 558) (by decide +kernel), List.forall_mem_cons.mpr ⟨List.mem_of_getElem? (i := 559) (by decide +kernel), List.forall_mem_cons.mpr ⟨List.mem_of_getElem? (i := 560) (by decide +kernel), List.forall_mem_cons.mpr ⟨List.mem_of_getElem? (i := 562) (by decide +kernel), List.forall_mem_cons.mpr ⟨List.mem_of_getElem? (i := 17) (by decide +kernel), List.forall_mem_cons.mpr ⟨List.mem_of_getElem? (i := 563) (by decide +kernel), List.forall_mem_cons.mpr ⟨List.mem_of_getElem? (i := 564) (by decide +kernel), List.forall_mem_cons.mpr ⟨List.mem_of_getElem? (i := 566) (by decide +kernel), List.forall_mem_cons.mpr ⟨List.mem_of_getElem? (i := 18) (by decide +kernel), List.forall_mem_cons.mpr ⟨List.mem_of_getElem? (i := 567) (by decide +kernel), List.forall_mem_cons.mpr ⟨List.mem_of_getElem? (i := 568) (by decide +kernel), List.forall_mem_cons.mpr ⟨List.mem_of_getElem? (i := 570) (by decide +kernel), List.forall_mem_cons.mpr ⟨List.mem_of_getElem? (i := 19) (by decide +kernel), List.forall_mem_cons.mpr ⟨List.mem_of_getElem? (i := 571) (by decide +kernel), List.forall_mem_cons.mpr ⟨List.mem_of_getElem? (i := 279) (by decide +kernel), List.forall_mem_cons.mpr ⟨List.mem_of_getElem? (i := 280) (by decide +kernel), List.forall_mem_cons.mpr ⟨List.mem_of_getElem? (i := 281) (by decide +kernel), List.forall_mem_cons.mpr ⟨List.mem_of_getElem? (i := 282) (by decide +kernel), List.forall_mem_cons.mpr ⟨List.mem_of_getElem? (i := 283) (by decide +kernel), List.forall_mem_cons.mpr ⟨List.mem_of_getElem? (i := 572) (by decide +kernel), List.forall_mem_cons.mpr ⟨List.mem_of_getElem? (i := 573) (by decide +kernel), fun _ h => absurd h List.not_mem_nil⟩⟩⟩⟩⟩⟩⟩⟩⟩⟩⟩⟩⟩⟩⟩⟩⟩⟩⟩⟩⟩⟩⟩⟩
set_option maxRecDepth 20000 in
theorem wsL_law_r14_in : ∀ w ∈ wsL_law_r14, w ∈ lw_tbl := List.forall_mem_cons.mpr ⟨List.mem_of_getElem? (i := 574) (by decide +kernel), List.forall_mem_cons.mpr ⟨List.mem_of_getElem? (i := 575) (by decide +kernel), List.forall_mem_cons.mpr ⟨List.mem_of_getElem? (i := 576) (by decide +kernel), List.forall_mem_cons.mpr ⟨List.mem_of_getElem? (i := 284) (by decide +kernel), List.forall_mem_cons.mpr ⟨List.mem_of_getElem? (i := 285) (by decide +kernel), List.forall_mem_cons.mpr ⟨List.mem_of_getElem? (i := 286) (by decide +kernel), List.forall_mem_cons.mpr ⟨List.mem_of_getElem? (i := 287) (by decide +kernel), List.forall_mem_cons.mpr ⟨List.mem_of_getElem? (i := 577) (by decide +kernel), List.forall_mem_cons.mpr ⟨List.mem_of_getElem? (i := 578) (by decide +kernel), List.forall_mem_cons.mpr ⟨List.mem_of_getElem? (i := 579) (by decide +kernel), List.forall_mem_cons.mpr ⟨List.mem_of_getElem? (i := 580) (by decide +kernel), List.forall_mem_cons.mpr ⟨List.mem_of_getElem? (i := 581) (by decide +kernel), List.forall_mem_cons.mpr ⟨List.mem_of_getElem? (i := 288) (by decide +kernel), List.forall_mem_cons.mpr ⟨List.mem_of_getElem? (i := 289) (by decide +kernel), List.forall_mem_cons.mpr ⟨List.mem_of_getElem? (i := 290) (by decide +kernel), List.forall_mem_cons.mpr ⟨List.mem_of_getElem? (i := 291) (by decide +kernel), List.forall_mem_cons.mpr ⟨List.mem_of_getElem? (i := 128) (by decide +kernel), List.forall_mem_cons.mpr ⟨List.mem_of_getElem? (i := 129) (by decide +kernel), List.forall_mem_cons.mpr ⟨List.mem_of_getElem? (i := 582) (by decide +kernel), List.forall_mem_cons.mpr ⟨List.mem_of_getElem? (i := 583) (by decide +kernel), List.forall_mem_cons.mpr ⟨List.mem_of_getElem? (i := 584) (by decide +kernel), List.forall_mem_cons.mpr ⟨List.mem_of_getElem? (i := 585) (by decide +kernel), List.forall_mem_cons.mpr ⟨List.mem_of_getElem? (i := 444) (by decide +kernel), List.forall_mem_cons.mpr ⟨List.mem_of_getElem? (i := 445) (by decide +kernel), fun _ h => absurd h List.not_mem_nil⟩⟩⟩⟩⟩⟩⟩⟩⟩⟩⟩⟩⟩⟩⟩⟩⟩⟩⟩⟩⟩⟩⟩⟩
set_option maxRecDepth 20000 in
theorem wsL_law_r15_in : ∀ w ∈ wsL_law_r15, w ∈ lw_tbl := List.forall_mem_cons.mpr ⟨List.mem_of_getElem? (i := 292) (by decide +kernel), List.forall_mem_cons.mpr ⟨List.mem_of_getElem? (i := 293) (by decide +kernel), List.forall_mem_cons.mpr ⟨List.mem_of_getElem? (i := 294) (by decide +kernel), List.forall_mem_cons.mpr ⟨List.mem_of_getElem? (i := 295) (by decide +kernel), List.forall_mem_cons.mpr ⟨List.mem_of_getElem? (i := 127) (by decide +kernel), List.forall_mem_cons.mpr ⟨List.mem_of_getElem? (i := 296) (by decide +kernel), List.forall_mem_cons.mpr ⟨List.mem_of_getElem? (i := 297) (by decide +kernel), List.forall_mem_cons.mpr ⟨List.mem_of_getElem? (i := 298) (by decide +kernel), List.forall_mem_cons.mpr ⟨List.mem_of_getElem? (i := 299) (by decide +kernel), List.forall_mem_cons.mpr ⟨List.mem_of_getElem? (i := 586) (by decide +kernel), List.forall_mem_cons.mpr ⟨List.mem_of_getElem? (i := 587) (by decide +kernel), List.forall_mem_cons.mpr ⟨List.mem_of_getElem? (i := 588) (by decide +kernel), List.forall_mem_cons.mpr ⟨List.mem_of_getElem? (i := 589) (by decide +kernel), List.forall_mem_cons.mpr ⟨List.mem_of_getElem? (i := 437) (by decide +kernel), List.forall_mem_cons.mpr ⟨List.mem_of_getElem? (i := 300) (by decide +kernel), List.forall_mem_cons.mpr ⟨List.mem_of_getElem? (i := 301) (by decide +kernel), List.forall_mem_cons.mpr ⟨List.mem_of_getElem? (i := 302) (by decide +kernel), List.forall_mem_cons.mpr ⟨List.mem_of_getElem? (i := 303) (by decide +kernel), List.forall_mem_cons.mpr ⟨List.mem_of_getElem? (i := 304) (by decide +kernel), List.forall_mem_cons.mpr ⟨List.mem_of_getElem? (i := 306) (by decide +kernel), List.forall_mem_cons.mpr ⟨List.mem_of_getElem? (i := 2) (by decide +kernel), List.forall_mem_cons.mpr ⟨List.mem_of_getElem? (i := 307) (by decide +kernel), List.forall_mem_cons.mpr ⟨List.mem_of_getElem? (i := 308) (by decide +kernel), List.forall_mem_cons.mpr ⟨List.mem_of_getElem? (i := 310) (by decide +kernel), fun _ h => absurd h List.not_mem_nil⟩⟩⟩⟩⟩⟩⟩⟩⟩⟩⟩⟩⟩⟩⟩⟩⟩⟩⟩⟩⟩⟩⟩⟩
set_option maxRecDepth 20000 in
theorem wsL_law_r16_in : ∀ w ∈ wsL_law_r16, w ∈ lw_tbl := List.forall_mem_cons.mpr ⟨List.mem_of_getElem? (i := 3) (by decide +kernel), List.forall_mem_cons.mpr ⟨List.mem_of_getElem? (i := 311) (by decide +kernel), List.forall_mem_cons.mpr ⟨List.mem_of_getElem? (i := 590) (by decide +kernel), List.forall_mem_cons.mpr ⟨List.mem_of_getElem? (i := 591) (by decide +kernel), List.forall_mem_cons.mpr ⟨List.mem_of_getElem? (i := 592) (by decide +kernel), List.forall_mem_cons.mpr ⟨List.mem_of_getElem? (i := 593) (by decide +kernel), List.forall_mem_cons.mpr ⟨List.mem_of_getElem? (i := 594) (by decide +kernel), List.forall_mem_cons.mpr ⟨List.mem_of_getElem? (i := 596) (by decide +kernel), List.forall_mem_cons.mpr ⟨List.mem_of_getElem? (i := 20) (by decide +kernel), List.forall_mem_cons.mpr ⟨List.mem_of_getElem? (i := 597) (by decide +kernel), List.forall_mem_cons.mpr ⟨List.mem_of_getElem? (i := 312) (by decide +kernel), List.forall_mem_cons.mpr ⟨List.mem_of_getElem? (i := 313) (by decide +kernel), List.forall_mem_cons.mpr ⟨List.mem_of_getElem? (i := 314) (by decide +kernel), List.forall_mem_cons.mpr ⟨List.mem_of_getElem? (i := 315) (by decide +kernel), List.forall_mem_cons.mpr ⟨List.mem_of_getElem? (i := 126) (by decide +kernel), List.forall_mem_cons.mpr ⟨List.mem_of_getElem? (i := 316) (by decide +kernel), List.forall_mem_cons.mpr ⟨List.mem_of_getElem? (i := 318) (by decide +kernel), List.forall_mem_cons.mpr ⟨List.mem_of_getElem? (i := 4) (by decide +kernel), List.forall_mem_cons.mpr ⟨List.mem_of_getElem? (i := 319) (by decide +kernel), List.forall_mem_cons.mpr ⟨List.mem_of_getElem? (i := 598) (by decide +kernel), List.forall_mem_cons.mpr ⟨List.mem_of_getElem? (i := 599) (by decide +kernel), List.forall_mem_cons.mpr ⟨List.mem_of_getElem? (i := 600) (by decide +kernel), List.forall_mem_cons.mpr ⟨List.mem_of_getElem? (i := 601) (by decide +kernel), List.forall_mem_cons.mpr ⟨List.mem_of_getElem? (i := 602) (by decide +kernel), fun _ h => absurd h List.not_mem_nil⟩⟩⟩⟩⟩⟩⟩⟩⟩⟩⟩⟩⟩⟩⟩⟩⟩⟩⟩⟩⟩⟩⟩⟩
set_option maxRecDepth 20000 in
theorem wsL_law_r17_in : ∀ w ∈ wsL_law_r17, w ∈ lw_tbl := List.forall_mem_cons.mpr ⟨List.mem_of_getElem? (i := 320) (by decide +kernel), List.forall_mem_cons.mpr ⟨List.mem_of_getElem? (i := 321) (by decide +kernel), List.forall_mem_cons.mpr ⟨List.mem_of_getElem? (i := 322) (by decide +kernel), List.forall_mem_cons.mpr ⟨List.mem_of_getElem? (i := 323) (by decide +kernel), List.forall_mem_cons.mpr ⟨List.mem_of_getElem? (i := 324) (by decide +kernel), List.forall_mem_cons.mpr ⟨List.mem_of_getElem? (i := 325) (by decide +kernel), List.forall_mem_cons.mpr ⟨List.mem_of_getElem? (i := 326) (by decide +kernel), List.forall_mem_cons.mpr ⟨List.mem_of_getElem? (i := 327) (by decide +kernel), List.forall_mem_cons.mpr ⟨List.mem_of_getElem? (i := 603) (by decide +kernel), List.forall_mem_cons.mpr ⟨List.mem_of_getElem? (i := 604) (by decide +kernel), List.forall_mem_cons.mpr ⟨List.mem_of_getElem? (i := 605) (by decide +kernel), List.forall_mem_cons.mpr ⟨List.mem_of_getElem? (i := 606) (by decide +kernel), List.forall_mem_cons.mpr ⟨List.mem_of_getElem? (i := 328) (by decide +kernel), List.forall_mem_cons.mpr ⟨List.mem_of_getElem? (i := 329) (by decide +kernel), List.forall_mem_cons.mpr ⟨List.mem_of_getElem? (i := 330) (by decide +kernel), List.forall_mem_cons.mpr ⟨List.mem_of_getElem? (i := 331) (by decide +kernel), List.forall_mem_cons.mpr ⟨List.mem_of_getElem? (i := 68) (by decide +kernel), List.forall_mem_cons.mpr ⟨List.mem_of_getElem? (i := 332) (by decide +kernel), List.forall_mem_cons.mpr ⟨List.mem_of_getElem? (i := 333) (by decide +kernel), List.forall_mem_cons.mpr ⟨List.mem_of_getElem? (i := 334) (by decide +kernel), List.forall_mem_cons.mpr ⟨List.mem_of_getElem? (i := 335) (by decide +kernel), List.forall_mem_cons.mpr ⟨List.mem_of_getElem? (i := 67) (by decide +kernel), List.forall_mem_cons.mpr ⟨List.mem_of_getElem? (i := 91) (by decide +kernel), List.forall_mem_cons.mpr ⟨List.mem_of_getElem? (i := 93) (by decide +kernel), fun _ h => absurd h List.not_mem_nil⟩⟩⟩⟩⟩⟩⟩⟩⟩⟩⟩⟩⟩⟩⟩⟩⟩⟩⟩⟩⟩⟩⟩⟩
set_option maxRecDepth 20000 in
theorem wsL_law_r18_in : ∀ w ∈ wsL_law_r18, w ∈ lw_tbl := List.forall_mem_cons.mpr ⟨List.mem_of_getElem? (i := 97) (by decide +kernel), List.forall_mem_cons.mpr ⟨List.mem_of_getElem? (i := 84) (by decide +kernel), List.forall_mem_cons.mpr ⟨List.mem_of_getElem? (i := 87) (by decide +kernel), List.forall_mem_cons.mpr ⟨List.mem_of_getElem? (i := 336) (by decide +kernel), List.forall_mem_cons.mpr ⟨List.mem_of_getElem? (i := 338) (by decide +kernel), List.forall_mem_cons.mpr ⟨List.mem_of_getElem? (i := 5) (by decide +kernel), List.forall_mem_cons.mpr ⟨List.mem_of_getElem? (i := 339) (by decide +kernel), List.forall_mem_cons.mpr ⟨List.mem_of_getElem? (i := 340) (by decide +kernel), List.forall_mem_cons.mpr ⟨List.mem_of_getElem? (i := 342) (by decide +kernel), List.forall_mem_cons.mpr ⟨List.mem_of_getElem? (i := 6) (by decide +kernel), List.forall_mem_cons.mpr ⟨List.mem_of_getElem? (i := 343) (by decide +kernel), List.forall_mem_cons.mpr ⟨List.mem_of_getElem? (i := 344) (by decide +kernel), List.forall_mem_cons.mpr ⟨List.mem_of_getElem? (i := 346) (by decide +kernel), List.forall_mem_cons.mpr ⟨List.mem_of_getElem? (i := 7) (by decide +kernel), List.forall_mem_cons.mpr ⟨List.mem_of_getElem? (i := 347) (by decide +kernel), List.forall_mem_cons.mpr ⟨List.mem_of_getElem? (i := 348) (by decide +kernel), List.forall_mem_cons.mpr ⟨List.mem_of_getElem? (i := 349) (by decide +kernel), List.forall_mem_cons.mpr ⟨List.mem_of_getElem? (i := 350) (by decide +kernel), List.forall_mem_cons.mpr ⟨List.mem_of_getElem? (i := 351) (by decide +kernel), List.forall_mem_cons.mpr ⟨List.mem_of_getElem? (i := 352) (by decide +kernel), List.forall_mem_cons.mpr ⟨List.mem_of_getElem? (i := 353) (by decide +kernel), List.forall_mem_cons.mpr ⟨List.mem_of_getElem? (i := 354) (by decide +kernel), List.forall_mem_cons.mpr ⟨List.mem_of_getElem? (i := 355) (by decide +kernel), List.forall_mem_cons.mpr ⟨List.mem_of_getElem? (i := 356) (by decide +kernel), fun _ h => absurd h List.not_mem_nil⟩⟩⟩⟩⟩⟩⟩⟩⟩⟩⟩⟩⟩⟩⟩⟩⟩⟩⟩⟩⟩⟩⟩⟩
set_option maxRecDepth 20000 in
theorem wsL_law_r19_in : ∀ w ∈ wsL_law_r19, w ∈ lw_tbl := List.forall_mem_cons.mpr ⟨List.mem_of_getElem? (i := 357) (by decide +kernel), List.forall_mem_cons.mpr ⟨List.mem_of_getElem? (i := 358) (by decide +kernel), List.forall_mem_cons.mpr ⟨List.mem_of_getElem? (i := 359) (by decide +kernel), List.forall_mem_cons.mpr ⟨List.mem_of_getElem? (i := 360) (by decide +kernel), List.forall_mem_cons.mpr ⟨List.mem_of_getElem? (i := 361) (by decide +kernel), List.forall_mem_cons.mpr ⟨List.mem_of_getElem? (i := 607) (by decide +kernel), List.forall_mem_cons.mpr ⟨List.mem_of_getElem? (i := 608) (by decide +kernel), List.forall_mem_cons.mpr ⟨List.mem_of_getElem? (i := 609) (by decide +kernel), List.forall_mem_cons.mpr ⟨List.mem_of_getElem? (i := 610) (by decide +kernel), List.forall_mem_cons.mpr ⟨List.mem_of_getElem? (i := 447) (by decide +kernel), List.forall_mem_cons.mpr ⟨List.mem_of_getElem? (i := 611) (by decide +kernel), List.forall_mem_cons.mpr ⟨List.mem_of_getElem? (i := 613) (by decide +kernel), List.forall_mem_cons.mpr ⟨List.mem_of_getElem? (i := 21) (by decide +kernel), List.forall_mem_cons.mpr ⟨List.mem_of_getElem? (i := 614) (by decide +kernel), List.forall_mem_cons.mpr ⟨List.mem_of_getElem? (i := 615) (by decide +kernel), List.forall_mem_cons.mpr ⟨List.mem_of_getElem? (i := 617) (by decide +kernel), List.forall_mem_cons.mpr ⟨List.mem_of_getElem? (i := 22) (by decide +kernel), List.forall_mem_cons.mpr ⟨List.mem_of_getElem? (i := 618) (by decide +kernel), List.forall_mem_cons.mpr ⟨List.mem_of_getElem? (i := 362) (by decide +kernel), List.forall_mem_cons.mpr ⟨List.mem_of_getElem? (i := 363) (by decide +kernel), List.forall_mem_cons.mpr ⟨List.mem_of_getElem? (i := 364) (by decide +kernel), List.forall_mem_cons.mpr ⟨List.mem_of_getElem? (i := 365) (by decide +kernel), List.forall_mem_cons.mpr ⟨List.mem_of_getElem? (i := 366) (by decide +kernel), List.forall_mem_cons.mpr ⟨List.mem_of_getElem? (i := 367) (by decide +kernel), fun _ h => absurd h List.not_mem_nil⟩⟩⟩⟩⟩⟩⟩⟩⟩⟩⟩⟩⟩⟩⟩⟩⟩⟩⟩⟩⟩⟩⟩⟩
set_option maxRecDepth 20000 in
theorem wsL_law_r20_in : ∀ w ∈ wsL_law_r20, w ∈ lw_tbl := List.forall_mem_cons.mpr ⟨List.mem_of_getElem? (i := 368) (by decide +kernel), List.forall_mem_cons.mpr ⟨List.mem_of_getElem? (i := 369) (by decide +kernel), List.forall_mem_cons.mpr ⟨List.mem_of_getElem? (i := 370) (by decide +kernel), List.forall_mem_cons.mpr ⟨List.mem_of_getElem? (i := 371) (by decide +kernel), List.forall_mem_cons.mpr ⟨List.mem_of_getElem? (i := 372) (by decide +kernel), List.forall_mem_cons.mpr ⟨List.mem_of_getElem? (i := 373) (by decide +kernel), List.forall_mem_cons.mpr ⟨List.mem_of_getElem? (i := 619) (by decide +kernel), List.forall_mem_cons.mpr ⟨List.mem_of_getElem? (i := 620) (by decide +kernel), List.forall_mem_cons.mpr ⟨List.mem_of_getElem? (i := 621) (by decide +kernel), List.forall_mem_cons.mpr ⟨List.mem_of_getElem? (i := 622) (by decide +kernel), List.forall_mem_cons.mpr ⟨List.mem_of_getElem? (i := 374) (by decide +kernel), List.forall_mem_cons.mpr ⟨List.mem_of_getElem? (i := 375) (by decide +kernel), List.forall_mem_cons.mpr ⟨List.mem_of_getElem? (i := 376) (by decide +kernel), List.forall_mem_cons.mpr ⟨List.mem_of_getElem? (i := 377) (by decide +kernel), List.forall_mem_cons.mpr ⟨List.mem_of_getElem? (i := 66) (by decide +kernel), List.forall_mem_cons.mpr ⟨List.mem_of_getElem? (i := 623) (by decide +kernel), List.forall_mem_cons.mpr ⟨List.mem_of_getElem? (i := 624) (by decide +kernel), List.forall_mem_cons.mpr ⟨List.mem_of_getElem? (i := 625) (by decide +kernel), List.forall_mem_cons.mpr ⟨List.mem_of_getElem? (i := 626) (by decide +kernel), List.forall_mem_cons.mpr ⟨List.mem_of_getElem? (i := 378) (by decide +kernel), List.forall_mem_cons.mpr ⟨List.mem_of_getElem? (i := 379) (by decide +kernel), List.forall_mem_cons.mpr ⟨List.mem_of_getElem? (i := 380) (by decide +kernel), List.forall_mem_cons.mpr ⟨List.mem_of_getElem? (i := 381) (by decide +kernel), List.forall_mem_cons.mpr ⟨List.mem_of_getElem? (i := 627) (by decide +kernel), fun _ h => absurd h List.not_mem_nil⟩⟩⟩⟩⟩⟩⟩⟩⟩⟩⟩⟩⟩⟩⟩⟩⟩⟩⟩⟩⟩⟩⟩⟩
set_option maxRecDepth 20000 in
theorem wsL_law_r21_in : ∀ w ∈ wsL_law_r21, w ∈ lw_tbl := List.forall_mem_cons.mpr ⟨List.mem_of_getElem? (i := 628) (by decide +kernel), List.forall_mem_cons.mpr ⟨List.mem_of_getElem? (i := 629) (by decide +kernel), List.forall_mem_cons.mpr ⟨List.mem_of_getElem? (i := 630) (by decide +kernel), List.forall_mem_cons.mpr ⟨List.mem_of_getElem? (i := 382) (by decide +kernel), List.forall_mem_cons.mpr ⟨List.mem_of_getElem? (i := 383) (by decide +kernel), List.forall_mem_cons.mpr ⟨List.mem_of_getElem? (i := 384) (by decide +kernel), List.forall_mem_cons.mpr ⟨List.mem_of_getElem? (i := 385) (by decide +kernel), List.forall_mem_cons.mpr ⟨List.mem_of_getElem? (i := 386) (by decide +kernel), List.forall_mem_cons.mpr ⟨List.mem_of_getElem? (i := 387) (by decide +kernel), List.forall_mem_cons.mpr ⟨List.mem_of_getElem? (i := 388) (by decide +kernel), List.forall_mem_cons.mpr ⟨List.mem_of_getElem? (i := 389) (by decide +kernel), List.forall_mem_cons.mpr ⟨List.mem_of_getElem? (i := 390) (by decide +kernel), List.forall_mem_cons.mpr ⟨List.mem_of_getElem? (i := 391) (by decide +kernel), List.forall_mem_cons.mpr ⟨List.mem_of_getElem? (i := 393) (by decide +kernel), List.forall_mem_cons.mpr ⟨List.mem_of_getElem? (i := 8) (by decide +kernel), List.forall_mem_cons.mpr ⟨List.mem_of_getElem? (i := 394) (by decide +kernel), List.forall_mem_cons.mpr ⟨List.mem_of_getElem? (i := 395) (by decide +kernel), List.forall_mem_cons.mpr ⟨List.mem_of_getElem? (i := 396) (by decide +kernel), List.forall_mem_cons.mpr ⟨List.mem_of_getElem? (i := 397) (by decide +kernel), List.forall_mem_cons.mpr ⟨List.mem_of_getElem? (i := 398) (by decide +kernel), List.forall_mem_cons.mpr ⟨List.mem_of_getElem? (i := 399) (by decide +kernel), List.forall_mem_cons.mpr ⟨List.mem_of_getElem? (i := 401) (by decide +kernel), List.forall_mem_cons.mpr ⟨List.mem_of_getElem? (i := 403) (by decide +kernel), List.forall_mem_cons.mpr ⟨List.mem_of_getElem? (i := 9) (by decide +kernel), fun _ h => absurd h List.not_mem_nil⟩⟩⟩⟩⟩⟩⟩⟩⟩⟩⟩⟩⟩⟩⟩⟩⟩⟩⟩⟩⟩⟩⟩⟩
set_option maxRecDepth 20000 in
theorem wsL_law_r22_in : ∀ w ∈ wsL_law_r22, w ∈ lw_tbl := List.forall_mem_cons.mpr ⟨List.mem_of_getElem? (i := 404) (by decide +kernel), List.forall_mem_cons.mpr ⟨List.mem_of_getElem? (i := 405) (by decide +kernel), List.forall_mem_cons.mpr ⟨List.mem_of_getElem? (i := 407) (by decide +kernel), List.forall_mem_cons.mpr ⟨List.mem_of_getElem? (i := 10) (by decide +kernel), List.forall_mem_cons.mpr ⟨List.mem_of_getElem? (i := 408) (by decide +kernel), List.forall_mem_cons.mpr ⟨List.mem_of_getElem? (i := 82) (by decide +kernel), List.forall_mem_cons.mpr ⟨List.mem_of_getElem? (i := 631) (by decide +kernel), List.forall_mem_cons.mpr ⟨List.mem_of_getElem? (i := 632) (by decide +kernel), List.forall_mem_cons.mpr ⟨List.mem_of_getElem? (i := 633) (by decide +kernel), List.forall_mem_cons.mpr ⟨List.mem_of_getElem? (i := 634) (by decide +kernel), List.forall_mem_cons.mpr ⟨List.mem_of_getElem? (i := 635) (by decide +kernel), List.forall_mem_cons.mpr ⟨List.mem_of_getElem? (i := 637) (by decide +kernel), List.forall_mem_cons.mpr ⟨List.mem_of_getElem? (i := 23) (by decide +kernel), List.forall_mem_cons.mpr ⟨List.mem_of_getElem? (i := 638) (by decide +kernel), List.forall_mem_cons.mpr ⟨List.mem_of_getElem? (i := 639) (by decide +kernel), List.forall_mem_cons.mpr ⟨List.mem_of_getElem? (i := 641) (by decide +kernel), List.forall_mem_cons.mpr ⟨List.mem_of_getElem? (i := 24) (by decide +kernel), List.forall_mem_cons.mpr ⟨List.mem_of_getElem? (i := 642) (by decide +kernel), List.forall_mem_cons.mpr ⟨List.mem_of_getElem? (i := 409) (by decide +kernel), List.forall_mem_cons.mpr ⟨List.mem_of_getElem? (i := 410) (by decide +kernel), List.forall_mem_cons.mpr ⟨List.mem_of_getElem? (i := 411) (by decide +kernel), List.forall_mem_cons.mpr ⟨List.mem_of_getElem? (i := 412) (by decide +kernel), List.forall_mem_cons.mpr ⟨List.mem_of_getElem? (i := 94) (by decide +kernel), List.forall_mem_cons.mpr ⟨List.mem_of_getElem? (i := 413) (by decide +kernel), fun _ h => absurd h List.not_mem_nil⟩⟩⟩⟩⟩⟩⟩⟩⟩⟩⟩⟩⟩⟩⟩⟩⟩⟩⟩⟩⟩⟩⟩⟩
set_option maxRecDepth 20000 in
theorem wsL_law_r23_in : ∀ w ∈ wsL_law_r23, w ∈ lw_tbl := List.forall_mem_cons.mpr ⟨List.mem_of_getElem? (i := 414) (by decide +kernel), List.forall_mem_cons.mpr ⟨List.mem_of_getElem? (i := 415) (by decide +kernel), List.forall_mem_cons.mpr ⟨List.mem_of_getElem? (i := 416) (by decide +kernel), List.forall_mem_cons.mpr ⟨List.mem_of_getElem? (i := 417) (by decide +kernel), List.forall_mem_cons.mpr ⟨List.mem_of_getElem? (i := 418) (by decide +kernel), List.forall_mem_cons.mpr ⟨List.mem_of_getElem? (i := 419) (by decide +kernel), List.forall_mem_cons.mpr ⟨List.mem_of_getElem? (i := 420) (by decide +kernel), List.forall_mem_cons.mpr ⟨List.mem_of_getElem? (i := 643) (by decide +kernel), List.forall_mem_cons.mpr ⟨List.mem_of_getElem? (i := 644) (by decide +kernel), List.forall_mem_cons.mpr ⟨List.mem_of_getElem? (i := 645) (by decide +kernel), List.forall_mem_cons.mpr ⟨List.mem_of_getElem? (i := 646) (by decide +kernel), fun _ h => absurd h List.not_mem_nil⟩⟩⟩⟩⟩⟩⟩⟩⟩⟩⟩
set_option maxRecDepth 20000 in
theorem wsX00_in : ∀ w ∈ wsX00, w ∈ lw_tbl := by
  intro w hw
  obtain ⟨k, hk, rfl⟩ := List.mem_map.mp hw
  have hk := List.mem_range.mp hk
  rcases (show k = 0 ∨ k = 1 by omega) with rfl | rfl
  · exact List.mem_of_getElem? (i := 69) (by decide +kernel)
  · exact List.mem_of_getElem? (i := 71) (by decide +kernel)
set_option maxRecDepth 20000 in
theorem wsX10_in : ∀ w ∈ wsX10, w ∈ lw_tbl := by
  intro w hw
  obtain ⟨k, hk, rfl⟩ := List.mem_map.mp hw
  have hk := List.mem_range.mp hk
  rcases (show k = 0 ∨ k = 1 by omega) with rfl | rfl
  · exact List.mem_of_getElem? (i := 53) (by decide +kernel)
  · exact List.mem_of_getElem? (i := 55) (by decide +kernel)
set_option maxRecDepth 20000 in
theorem wsX20_in : ∀ w ∈ wsX20, w ∈ lw_tbl := by
  intro w hw
  obtain ⟨k, hk, rfl⟩ := List.mem_map.mp hw
  have hk := List.mem_range.mp hk
  rcases (show k = 0 ∨ k = 1 ∨ k = 2 ∨ k = 3 ∨ k = 4 ∨ k = 5 by omega) with rfl | rfl | rfl | rfl | rfl | rfl
  · exact List.mem_of_getElem? (i := 98) (by decide +kernel)
  · exact List.mem_of_getElem? (i := 100) (by decide +kernel)
  · exact List.mem_of_getElem? (i := 102) (by decide +kernel)
  · exact List.mem_of_getElem? (i := 104) (by decide +kernel)
  · exact List.mem_of_getElem? (i := 106) (by decide +kernel)
  · exact List.mem_of_getElem? (i := 108) (by decide +kernel)
set_option maxRecDepth 20000 in
theorem wsX30_in : ∀ w ∈ wsX30, w ∈ lw_tbl := by
  intro w hw
  obtain ⟨k, hk, rfl⟩ := List.mem_map.mp hw
  have hk := List.mem_range.mp hk
  rcases (show k = 0 ∨ k = 1 ∨ k = 2 ∨ k = 3 ∨ k = 4 ∨ k = 5 ∨ k = 6 ∨ k = 7 by omega) with rfl | rfl | rfl | rfl | rfl | rfl | rfl | rfl
  · exact List.mem_of_getElem? (i := 130) (by decide +kernel)
  · exact List.mem_of_getElem? (i := 132) (by decide +kernel)
  · exact List.mem_of_getElem? (i := 134) (by decide +kernel)
  · exact List.mem_of_getElem? (i := 136) (by decide +kernel)
  · exact List.mem_of_getElem? (i := 138) (by decide +kernel)
  · exact List.mem_of_getElem? (i := 140) (by decide +kernel)
  · exact List.mem_of_getElem? (i := 142) (by decide +kernel)
  · exact List.mem_of_getElem? (i := 144) (by decide +kernel)
set_option maxRecDepth 20000 in
theorem wsX40_in : ∀ w ∈ wsX40, w ∈ lw_tbl := by
  intro w hw
  obtain ⟨k, hk, rfl⟩ := List.mem_map.mp hw
  have hk := List.mem_range.mp hk
  rcases (show k = 0 ∨ k = 1 ∨ k = 2 ∨ k = 3 ∨ k = 4 ∨ k = 5 ∨ k = 6 ∨ k = 7 ∨ k = 8 ∨ k = 9 ∨ k = 10 ∨ k = 11 ∨ k = 12 ∨ k = 13 ∨ k = 14 ∨ k = 15 ∨ k = 16 ∨ k = 17 by omega) with rfl | rfl | rfl | rfl | rfl | rfl | rfl | rfl | rfl | rfl | rfl | rfl | rfl | rfl | rfl | rfl | rfl | rfl
  · exact List.mem_of_getElem? (i := 449) (by decide +kernel)
  · exact List.mem_of_getElem? (i := 451) (by decide +kernel)
  · exact List.mem_of_getElem? (i := 453) (by decide +kernel)
  · exact List.mem_of_getElem? (i := 455) (by decide +kernel)
  · exact List.mem_of_getElem? (i := 457) (by decide +kernel)
  · exact List.mem_of_getElem? (i := 459) (by decide +kernel)
  · exact List.mem_of_getElem? (i := 461) (by decide +kernel)
  · exact List.mem_of_getElem? (i := 463) (by decide +kernel)
  · exact List.mem_of_getElem? (i := 465) (by decide +kernel)
  · exact List.mem_of_getElem? (i := 467) (by decide +kernel)
  · exact List.mem_of_getElem? (i := 469) (by decide +kernel)
  · exact List.mem_of_getElem? (i := 471) (by decide +kernel)
  · exact List.mem_of_getElem? (i := 473) (by decide +kernel)
  · exact List.mem_of_getElem? (i := 475) (by decide +kernel)
  · exact List.mem_of_getElem? (i := 477) (by decide +kernel)
  · exact List.mem_of_getElem? (i := 479) (by decide +kernel)
  · exact List.mem_of_getElem? (i := 481) (by decide +kernel)
  · exact List.mem_of_getElem? (i := 483) (by decide +kernel)
theorem wsL_law_in : ∀ w ∈ wsL_law, w ∈ lw_tbl := by
  intro w h
  unfold wsL_law at h
  rcases List.mem_append.mp h with h | h
  rotate_left
  · exact absurd h List.not_mem_nil
  rcases List.mem_append.mp h with h | h
  rotate_left
  · exact wsX20_in w h
  rcases List.mem_append.mp h with h | h
  rotate_left
  · exact wsX00_in w h
  rcases List.mem_append.mp h with h | h
  rotate_left
  · exact wsX10_in w h
  rcases List.mem_append.mp h with h | h
  rotate_left
  · exact wsX40_in w h
  rcases List.mem_append.mp h with h | h
  rotate_left
  · exact wsX30_in w h
  rcases List.mem_append.mp h with h | h
  · exact wsL_law_r1_in w h
  rcases List.mem_append.mp h with h | h
  · exact wsL_law_r2_in w h
  rcases List.mem_append.mp h with h | h
  · exact wsL_law_r3_in w h
  rcases List.mem_append.mp h with h | h
  · exact wsL_law_r4_in w h
  rcases List.mem_append.mp h with h | h
  · exact wsL_law_r5_in w h
  rcases List.mem_append.mp h with h | h
  · exact wsL_law_r6_in w h
  rcases List.mem_append.mp h with h | h
  · exact wsL_law_r7_in w h
  rcases List.mem_append.mp h with h | h
  · exact wsL_law_r8_in w h
  rcases List.mem_append.mp h with h | h
  · exact wsL_law_r9_in w h
  rcases List.mem_append.mp h with h | h
  · exact wsL_law_r10_in w h
  rcases List.mem_append.mp h with h | h
  · exact wsL_law_r11_in w h
  rcases List.mem_append.mp h with h | h
  · exact wsL_law_r12_in w h
  rcases List.mem_append.mp h with h | h
  · exact wsL_law_r13_in w h
  rcases List.mem_append.mp h with h | h
  · exact wsL_law_r14_in w h
  rcases List.mem_append.mp h with h | h
  · exact wsL_law_r15_in w h
  rcases List.mem_append.mp h with h | h
  · exact wsL_law_r16_in w h
  rcases List.mem_append.mp h with h | h
  · exact wsL_law_r17_in w h
  rcases List.mem_append.mp h with h | h
  · exact wsL_law_r18_in w h
  rcases List.mem_append.mp h with h | h
  · exact wsL_law_r19_in w h
  rcases List.mem_append.mp h with h | h
  · exact wsL_law_r20_in w h
  rcases List.mem_append.mp h with h | h
  · exact wsL_law_r21_in w h
  rcases List.mem_append.mp h with h | h
  · exact wsL_law_r22_in w h
  exact wsL_law_r23_in w h
theorem inlX0 : ∀ w ∈ wsX00, w ∈ wsL_law := fun _ h => List.mem_append_left _ (List.mem_append_left _ (List.mem_append_right _ h))
theorem inX0 : ∀ w ∈ wsX00, w ∈ lw_tbl := fun w h => wsL_law_in w (inlX0 w h)
theorem inlX1 : ∀ w ∈ wsX10, w ∈ wsL_law := fun _ h => List.mem_append_left _ (List.mem_append_left _ (List.mem_append_left _ (List.mem_append_right _ h)))
theorem inX1 : ∀ w ∈ wsX10, w ∈ lw_tbl := fun w h => wsL_law_in w (inlX1 w h)
theorem inlX2 : ∀ w ∈ wsX20, w ∈ wsL_law := fun _ h => List.mem_append_left _ (List.mem_append_right _ h)
theorem inX2 : ∀ w ∈ wsX20, w ∈ lw_tbl := fun w h => wsL_law_in w (inlX2 w h)
theorem inlX3 : ∀ w ∈ wsX30, w ∈ wsL_law := fun _ h => List.mem_append_left _ (List.mem_append_left _ (List.mem_append_left _ (List.mem_append_left _ (List.mem_append_left _ (List.mem_append_right _ h)))))
theorem inX3 : ∀ w ∈ wsX30, w ∈ lw_tbl := fun w h => wsL_law_in w (inlX3 w h)
theorem inlX4 : ∀ w ∈ wsX40, w ∈ wsL_law := fun _ h => List.mem_append_left _ (List.mem_append_left _ (List.mem_append_left _ (List.mem_append_left _ (List.mem_append_right _ h))))
theorem inX4 : ∀ w ∈ wsX40, w ∈ lw_tbl := fun w h => wsL_law_in w (inlX4 w h)
theorem inJ9 : ∀ w ∈ wsJ90, w ∈ lw_tbl := by decide +kernel
theorem inJ10 : ∀ w ∈ wsJ100, w ∈ lw_tbl := by decide +kernel
theorem inJ7 : ∀ w ∈ wsJ70, w ∈ lw_tbl := by decide +kernel
end
section
theorem dX0_init_0 : decode cX0_init 0 = .ok (.aload_n 0, 1) := by decide +kernel
theorem dX0_init_1 : decode cX0_init 1 = .ok (.invokespecial 3, 3) := by decide +kernel
theorem dX0_init_4 : decode cX0_init 4 = .ok (.aload_n 0, 1) := by decide +kernel
theorem dX0_init_5 : decode cX0_init 5 = .ok (.iconst 0, 1) := by decide +kernel
theorem dX0_init_6 : decode cX0_init 6 = .ok (.newarray .byte, 2) := by decide +kernel
theorem dX0_init_8 : decode cX0_init 8 = .ok (.putfield 9, 3) := by decide +kernel
theorem dX0_init_11 : decode cX0_init 11 = .ok (.return_, 1) := by decide +kernel
theorem dX0_has_0 : decode cX0_has 0 = .ok (.iload_n 1, 1) := by decide +kernel
theorem dX0_has_1 : decode cX0_has 1 = .ok (.ifCond .lt 15, 3) := by decide +kernel
theorem dX0_has_4 : decode cX0_has 4 = .ok (.iload_n 1, 1) := by decide +kernel
theorem dX0_has_5 : decode cX0_has 5 = .ok (.aload_n 0, 1) := by decide +kernel
theorem dX0_has_6 : decode cX0_has 6 = .ok (.getfield 15, 3) := by decide +kernel
theorem dX0_has_9 : decode cX0_has 9 = .ok (.if_icmp .ge 7, 3) := by decide +kernel
theorem dX0_has_12 : decode cX0_has 12 = .ok (.iconst 1, 1) := by decide +kernel
theorem dX0_has_13 : decode cX0_has 13 = .ok (.goto 4, 3) := by decide +kernel
theorem dX0_has_16 : decode cX0_has 16 = .ok (.iconst 0, 1) := by decide +kernel
theorem dX0_has_17 : decode cX0_has 17 = .ok (.ireturn, 1) := by decide +kernel
theorem dX0_byteAt_0 : decode cX0_byteAt 0 = .ok (.aload_n 0, 1) := by decide +kernel
theorem dX0_byteAt_1 : decode cX0_byteAt 1 = .ok (.getfield 9, 3) := by decide +kernel
theorem dX0_byteAt_4 : decode cX0_byteAt 4 = .ok (.iload_n 1, 1) := by decide +kernel
theorem dX0_byteAt_5 : decode cX0_byteAt 5 = .ok (.baload, 1) := by decide +kernel
theorem dX0_byteAt_6 : decode cX0_byteAt 6 = .ok (.sipush 255, 3) := by decide +kernel
theorem dX0_byteAt_9 : decode cX0_byteAt 9 = .ok (.iand, 1) := by decide +kernel
theorem dX0_byteAt_10 : decode cX0_byteAt 10 = .ok (.ireturn, 1) := by decide +kernel
set_option maxRecDepth 20000 in
theorem ggX0_pairAt_X0_byteAt : GoodIn wsX0_pairAt wsX0_byteAt := goodIn_r _ [5, 6, 7, 8] (by decide +kernel) (by decide +kernel)
set_option maxRecDepth 20000 in
theorem gX0_pairAt_X0_byteAt : GoodIn wsX0_pairAt (wsV RX0 19 RX0 yX0_byteAt wsX0_byteAt) := goodIn_app (goodIn_of _ (by decide +kernel)) ggX0_pairAt_X0_byteAt
theorem dX0_pairAt_0 : decode cX0_pairAt 0 = .ok (.aload_n 0, 1) := by decide +kernel
theorem dX0_pairAt_1 : decode cX0_pairAt 1 = .ok (.iload_n 1, 1) := by decide +kernel
theorem dX0_pairAt_2 : decode cX0_pairAt 2 = .ok (.invokevirtual 19, 3) := by decide +kernel
theorem dX0_pairAt_5 : decode cX0_pairAt 5 = .ok (.bipush 8, 2) := by decide +kernel
theorem dX0_pairAt_7 : decode cX0_pairAt 7 = .ok (.ishl, 1) := by decide +kernel
theorem dX0_pairAt_8 : decode cX0_pairAt 8 = .ok (.aload_n 0, 1) := by decide +kernel
theorem dX0_pairAt_9 : decode cX0_pairAt 9 = .ok (.iload_n 1, 1) := by decide +kernel
theorem dX0_pairAt_10 : decode cX0_pairAt 10 = .ok (.iconst 1, 1) := by decide +kernel
theorem dX0_pairAt_11 : decode cX0_pairAt 11 = .ok (.iadd, 1) := by decide +kernel
theorem dX0_pairAt_12 : decode cX0_pairAt 12 = .ok (.invokevirtual 19, 3) := by decide +kernel
theorem dX0_pairAt_15 : decode cX0_pairAt 15 = .ok (.ior, 1) := by decide +kernel
theorem dX0_pairAt_16 : decode cX0_pairAt 16 = .ok (.ireturn, 1) := by decide +kernel
theorem dX0_append_0 : decode cX0_append 0 = .ok (.aload_n 0, 1) := by decide +kernel
theorem dX0_append_1 : decode cX0_append 1 = .ok (.getfield 15, 3) := by decide +kernel
theorem dX0_append_4 : decode cX0_append 4 = .ok (.aload_n 0, 1) := by decide +kernel
theorem dX0_append_5 : decode cX0_append 5 = .ok (.getfield 9, 3) := by decide +kernel
theorem dX0_append_8 : decode cX0_append 8 = .ok (.arraylength, 1) := by decide +kernel
theorem dX0_append_9 : decode cX0_append 9 = .ok (.if_icmp .ge 24, 3) := by decide +kernel
theorem dX0_append_12 : decode cX0_append 12 = .ok (.aload_n 0, 1) := by decide +kernel
theorem dX0_append_13 : decode cX0_append 13 = .ok (.getfield 9, 3) := by decide +kernel
theorem dX0_append_16 : decode cX0_append 16 = .ok (.aload_n 0, 1) := by decide +kernel
theorem dX0_append_17 : decode cX0_append 17 = .ok (.getfield 15, 3) := by decide +kernel
theorem dX0_append_20 : decode cX0_append 20 = .ok (.iload_n 1, 1) := by decide +kernel
theorem dX0_append_21 : decode cX0_append 21 = .ok (.i2b, 1) := by decide +kernel
theorem dX0_append_22 : decode cX0_append 22 = .ok (.bastore, 1) := by decide +kernel
theorem dX0_append_23 : decode cX0_append 23 = .ok (.aload_n 0, 1) := by decide +kernel
theorem dX0_append_24 : decode cX0_append 24 = .ok (.dup, 1) := by decide +kernel
theorem dX0_append_25 : decode cX0_append 25 = .ok (.getfield 15, 3) := by decide +kernel
theorem dX0_append_28 : decode cX0_append 28 = .ok (.iconst 1, 1) := by decide +kernel
theorem dX0_append_29 : decode cX0_append 29 = .ok (.iadd, 1) := by decide +kernel
theorem dX0_append_30 : decode cX0_append 30 = .ok (.putfield 15, 3) := by decide +kernel
theorem dX0_append_33 : decode cX0_append 33 = .ok (.return_, 1) := by decide +kernel
set_option maxRecDepth 20000 in
theorem ggX0_appendPair_X0_append : GoodIn wsX0_appendPair wsX0_append := goodIn_r _ [5, 6, 7, 8, 9] (by decide +kernel) (by decide +kernel)
set_option maxRecDepth 20000 in
theorem gX0_appendPair_X0_append : GoodIn wsX0_appendPair (wsV RX0 23 RX0 yX0_append wsX0_append) := goodIn_app (goodIn_of _ (by decide +kernel)) ggX0_appendPair_X0_append
theorem dX0_appendPair_0 : decode cX0_appendPair 0 = .ok (.aload_n 0, 1) := by decide +kernel
theorem dX0_appendPair_1 : decode cX0_appendPair 1 = .ok (.iload_n 1, 1) := by decide +kernel
theorem dX0_appendPair_2 : decode cX0_appendPair 2 = .ok (.bipush 8, 2) := by decide +kernel
theorem dX0_appendPair_4 : decode cX0_appendPair 4 = .ok (.ishr, 1) := by decide +kernel
theorem dX0_appendPair_5 : decode cX0_appendPair 5 = .ok (.invokevirtual 23, 3) := by decide +kernel
theorem dX0_appendPair_8 : decode cX0_appendPair 8 = .ok (.aload_n 0, 1) := by decide +kernel
theorem dX0_appendPair_9 : decode cX0_appendPair 9 = .ok (.iload_n 1, 1) := by decide +kernel
theorem dX0_appendPair_10 : decode cX0_appendPair 10 = .ok (.invokevirtual 23, 3) := by decide +kernel
theorem dX0_appendPair_13 : decode cX0_appendPair 13 = .ok (.return_, 1) := by decide +kernel
set_option maxRecDepth 20000 in
theorem ggX0_tell_X0_appendPair : GoodIn wsX0_tell wsX0_appendPair := goodIn_r _ [13, 14, 15, 16, 12, 17, 3, 1, 45, 46] (by decide +kernel) (by decide +kernel)
set_option maxRecDepth 20000 in
theorem gX0_tell_X0_appendPair : GoodIn wsX0_tell (wsV RX0 32 RX0 yX0_appendPair wsX0_appendPair) := goodIn_app (goodIn_of _ (by decide +kernel)) ggX0_tell_X0_appendPair
set_option maxRecDepth 20000 in
theorem ggX0_tell_X0_tellBytes : GoodIn wsX0_tell wsX0_tellBytes := goodIn_r _ [21, 22, 23, 24, 25, 26, 27, 28, 29, 30, 31, 32, 33, 34, 35, 36, 37, 38, 39, 40, 41, 42, 43, 14, 15, 16, 12, 17, 3, 1, 44, 47, 48, 49, 50, 51, 52, 45, 46] (by decide +kernel) (by decide +kernel)
set_option maxRecDepth 20000 in
theorem gX0_tell_X0_tellBytes : GoodIn wsX0_tell (wsV RX0 48 RX0 yX0_tellBytes wsX0_tellBytes) := goodIn_app (goodIn_of _ (by decide +kernel)) ggX0_tell_X0_tellBytes
theorem dX0_tell_0 : decode cX0_tell 0 = .ok (.aload_n 0, 1) := by decide +kernel
theorem dX0_tell_1 : decode cX0_tell 1 = .ok (.getfield 9, 3) := by decide +kernel
theorem dX0_tell_4 : decode cX0_tell 4 = .ok (.arraylength, 1) := by decide +kernel
theorem dX0_tell_5 : decode cX0_tell 5 = .ok (.sipush 12550, 3) := by decide +kernel
theorem dX0_tell_8 : decode cX0_tell 8 = .ok (.if_icmp .ge 12, 3) := by decide +kernel
theorem dX0_tell_11 : decode cX0_tell 11 = .ok (.aload_n 0, 1) := by decide +kernel
theorem dX0_tell_12 : decode cX0_tell 12 = .ok (.sipush 12550, 3) := by decide +kernel
theorem dX0_tell_15 : decode cX0_tell 15 = .ok (.newarray .byte, 2) := by decide +kernel
theorem dX0_tell_17 : decode cX0_tell 17 = .ok (.putfield 9, 3) := by decide +kernel
theorem dX0_tell_20 : decode cX0_tell 20 = .ok (.aload_n 0, 1) := by decide +kernel
theorem dX0_tell_21 : decode cX0_tell 21 = .ok (.iconst 0, 1) := by decide +kernel
theorem dX0_tell_22 : decode cX0_tell 22 = .ok (.putfield 15, 3) := by decide +kernel
theorem dX0_tell_25 : decode cX0_tell 25 = .ok (.aload_n 0, 1) := by decide +kernel
theorem dX0_tell_26 : decode cX0_tell 26 = .ok (.aload_n 1, 1) := by decide +kernel
theorem dX0_tell_27 : decode cX0_tell 27 = .ok (.getfield 27, 3) := by decide +kernel
theorem dX0_tell_30 : decode cX0_tell 30 = .ok (.invokevirtual 32, 3) := by decide +kernel
theorem dX0_tell_33 : decode cX0_tell 33 = .ok (.aload_n 0, 1) := by decide +kernel
theorem dX0_tell_34 : decode cX0_tell 34 = .ok (.aload_n 1, 1) := by decide +kernel
theorem dX0_tell_35 : decode cX0_tell 35 = .ok (.getfield 35, 3) := by decide +kernel
theorem dX0_tell_38 : decode cX0_tell 38 = .ok (.invokevirtual 32, 3) := by decide +kernel
theorem dX0_tell_41 : decode cX0_tell 41 = .ok (.aload_n 0, 1) := by decide +kernel
theorem dX0_tell_42 : decode cX0_tell 42 = .ok (.aload_n 1, 1) := by decide +kernel
theorem dX0_tell_43 : decode cX0_tell 43 = .ok (.getfield 38, 3) := by decide +kernel
theorem dX0_tell_46 : decode cX0_tell 46 = .ok (.invokevirtual 32, 3) := by decide +kernel
theorem dX0_tell_49 : decode cX0_tell 49 = .ok (.iconst 0, 1) := by decide +kernel
theorem dX0_tell_50 : decode cX0_tell 50 = .ok (.istore_n 2, 1) := by decide +kernel
theorem dX0_tell_51 : decode cX0_tell 51 = .ok (.iload_n 2, 1) := by decide +kernel
theorem dX0_tell_52 : decode cX0_tell 52 = .ok (.aload_n 1, 1) := by decide +kernel
theorem dX0_tell_53 : decode cX0_tell 53 = .ok (.getfield 38, 3) := by decide +kernel
theorem dX0_tell_56 : decode cX0_tell 56 = .ok (.if_icmp .ge 29, 3) := by decide +kernel
theorem dX0_tell_59 : decode cX0_tell 59 = .ok (.aload_n 0, 1) := by decide +kernel
theorem dX0_tell_60 : decode cX0_tell 60 = .ok (.aload_n 1, 1) := by decide +kernel
theorem dX0_tell_61 : decode cX0_tell 61 = .ok (.getfield 41, 3) := by decide +kernel
theorem dX0_tell_64 : decode cX0_tell 64 = .ok (.iload_n 2, 1) := by decide +kernel
theorem dX0_tell_65 : decode cX0_tell 65 = .ok (.iaload, 1) := by decide +kernel
theorem dX0_tell_66 : decode cX0_tell 66 = .ok (.invokevirtual 32, 3) := by decide +kernel
theorem dX0_tell_69 : decode cX0_tell 69 = .ok (.aload_n 0, 1) := by decide +kernel
theorem dX0_tell_70 : decode cX0_tell 70 = .ok (.aload_n 1, 1) := by decide +kernel
theorem dX0_tell_71 : decode cX0_tell 71 = .ok (.getfield 45, 3) := by decide +kernel
theorem dX0_tell_74 : decode cX0_tell 74 = .ok (.iload_n 2, 1) := by decide +kernel
theorem dX0_tell_75 : decode cX0_tell 75 = .ok (.iaload, 1) := by decide +kernel
theorem dX0_tell_76 : decode cX0_tell 76 = .ok (.invokevirtual 32, 3) := by decide +kernel
theorem dX0_tell_79 : decode cX0_tell 79 = .ok (.iinc 2 1, 3) := by decide +kernel
theorem dX0_tell_82 : decode cX0_tell 82 = .ok (.goto (-31), 3) := by decide +kernel
theorem dX0_tell_85 : decode cX0_tell 85 = .ok (.aload_n 0, 1) := by decide +kernel
theorem dX0_tell_86 : decode cX0_tell 86 = .ok (.aload_n 1, 1) := by decide +kernel
theorem dX0_tell_87 : decode cX0_tell 87 = .ok (.invokevirtual 48, 3) := by decide +kernel
theorem dX0_tell_90 : decode cX0_tell 90 = .ok (.return_, 1) := by decide +kernel
set_option maxRecDepth 20000 in
theorem ggX0_tellBytes_X2_changedEnd : GoodIn wsX0_tellBytes wsX2_changedEnd := goodIn_r _ [5, 6, 7, 8, 9, 4, 10, 11, 12, 13, 14, 31, 32, 33, 34, 35, 36] (by decide +kernel) (by decide +kernel)
set_option maxRecDepth 20000 in
theorem gX0_tellBytes_X2_changedEnd : GoodIn wsX0_tellBytes (wsV RX0 52 RX2 yX2_changedEnd wsX2_changedEnd) := goodIn_app (goodIn_of _ (by decide +kernel)) ggX0_tellBytes_X2_changedEnd
set_option maxRecDepth 20000 in
theorem ggX0_tellBytes_X2_unchangedRow : GoodIn wsX0_tellBytes wsX2_unchangedRow := goodIn_r _ [18, 19, 20, 21, 22, 7, 8, 9, 4, 10, 11, 12, 13, 14, 31, 32, 33, 34, 35, 36] (by decide +kernel) (by decide +kernel)
set_option maxRecDepth 20000 in
theorem gX0_tellBytes_X2_unchangedRow : GoodIn wsX0_tellBytes (wsV RX0 56 RX2 yX2_unchangedRow wsX2_unchangedRow) := goodIn_app (goodIn_of _ (by decide +kernel)) ggX0_tellBytes_X2_unchangedRow
set_option maxRecDepth 20000 in
theorem ggX0_tellBytes_X0_append : GoodIn wsX0_tellBytes wsX0_append := goodIn_r _ [27, 28, 29, 37, 38] (by decide +kernel) (by decide +kernel)
set_option maxRecDepth 20000 in
theorem gX0_tellBytes_X0_append : GoodIn wsX0_tellBytes (wsV RX0 23 RX0 yX0_append wsX0_append) := goodIn_app (goodIn_of _ (by decide +kernel)) ggX0_tellBytes_X0_append
set_option maxRecDepth 20000 in
theorem ggX0_tellBytes_X2_difference : GoodIn wsX0_tellBytes wsX2_difference := goodIn_r _ [10, 11, 12, 13, 4, 14, 31, 32, 33, 34, 35, 36] (by decide +kernel) (by decide +kernel)
set_option maxRecDepth 20000 in
theorem gX0_tellBytes_X2_difference : GoodIn wsX0_tellBytes (wsV RX0 60 RX2 yX2_difference wsX2_difference) := goodIn_app (goodIn_of _ (by decide +kernel)) ggX0_tellBytes_X2_difference
theorem dX0_tellBytes_0 : decode cX0_tellBytes 0 = .ok (.aload_n 1, 1) := by decide +kernel
theorem dX0_tellBytes_1 : decode cX0_tellBytes 1 = .ok (.invokevirtual 52, 3) := by decide +kernel
theorem dX0_tellBytes_4 : decode cX0_tellBytes 4 = .ok (.istore_n 2, 1) := by decide +kernel
theorem dX0_tellBytes_5 : decode cX0_tellBytes 5 = .ok (.iconst 0, 1) := by decide +kernel
theorem dX0_tellBytes_6 : decode cX0_tellBytes 6 = .ok (.istore_n 3, 1) := by decide +kernel
theorem dX0_tellBytes_7 : decode cX0_tellBytes 7 = .ok (.iload_n 3, 1) := by decide +kernel
theorem dX0_tellBytes_8 : decode cX0_tellBytes 8 = .ok (.iload_n 2, 1) := by decide +kernel
theorem dX0_tellBytes_9 : decode cX0_tellBytes 9 = .ok (.if_icmp .ge 52, 3) := by decide +kernel
theorem dX0_tellBytes_12 : decode cX0_tellBytes 12 = .ok (.aload_n 1, 1) := by decide +kernel
theorem dX0_tellBytes_13 : decode cX0_tellBytes 13 = .ok (.iload_n 3, 1) := by decide +kernel
theorem dX0_tellBytes_14 : decode cX0_tellBytes 14 = .ok (.iload_n 2, 1) := by decide +kernel
theorem dX0_tellBytes_15 : decode cX0_tellBytes 15 = .ok (.invokevirtual 56, 3) := by decide +kernel
theorem dX0_tellBytes_18 : decode cX0_tellBytes 18 = .ok (.istore 4, 2) := by decide +kernel
theorem dX0_tellBytes_20 : decode cX0_tellBytes 20 = .ok (.iload 4, 2) := by decide +kernel
theorem dX0_tellBytes_22 : decode cX0_tellBytes 22 = .ok (.ifCond .le 24, 3) := by decide +kernel
theorem dX0_tellBytes_25 : decode cX0_tellBytes 25 = .ok (.aload_n 0, 1) := by decide +kernel
theorem dX0_tellBytes_26 : decode cX0_tellBytes 26 = .ok (.iconst 0, 1) := by decide +kernel
theorem dX0_tellBytes_27 : decode cX0_tellBytes 27 = .ok (.invokevirtual 23, 3) := by decide +kernel
theorem dX0_tellBytes_30 : decode cX0_tellBytes 30 = .ok (.aload_n 0, 1) := by decide +kernel
theorem dX0_tellBytes_31 : decode cX0_tellBytes 31 = .ok (.iload 4, 2) := by decide +kernel
theorem dX0_tellBytes_33 : decode cX0_tellBytes 33 = .ok (.iconst 1, 1) := by decide +kernel
theorem dX0_tellBytes_34 : decode cX0_tellBytes 34 = .ok (.isub, 1) := by decide +kernel
theorem dX0_tellBytes_35 : decode cX0_tellBytes 35 = .ok (.invokevirtual 23, 3) := by decide +kernel
theorem dX0_tellBytes_38 : decode cX0_tellBytes 38 = .ok (.iload_n 3, 1) := by decide +kernel
theorem dX0_tellBytes_39 : decode cX0_tellBytes 39 = .ok (.iload 4, 2) := by decide +kernel
theorem dX0_tellBytes_41 : decode cX0_tellBytes 41 = .ok (.iadd, 1) := by decide +kernel
theorem dX0_tellBytes_42 : decode cX0_tellBytes 42 = .ok (.istore_n 3, 1) := by decide +kernel
theorem dX0_tellBytes_43 : decode cX0_tellBytes 43 = .ok (.goto 15, 3) := by decide +kernel
theorem dX0_tellBytes_46 : decode cX0_tellBytes 46 = .ok (.aload_n 0, 1) := by decide +kernel
theorem dX0_tellBytes_47 : decode cX0_tellBytes 47 = .ok (.aload_n 1, 1) := by decide +kernel
theorem dX0_tellBytes_48 : decode cX0_tellBytes 48 = .ok (.iload_n 3, 1) := by decide +kernel
theorem dX0_tellBytes_49 : decode cX0_tellBytes 49 = .ok (.invokevirtual 60, 3) := by decide +kernel
theorem dX0_tellBytes_52 : decode cX0_tellBytes 52 = .ok (.invokevirtual 23, 3) := by decide +kernel
theorem dX0_tellBytes_55 : decode cX0_tellBytes 55 = .ok (.iinc 3 1, 3) := by decide +kernel
theorem dX0_tellBytes_58 : decode cX0_tellBytes 58 = .ok (.goto (-51), 3) := by decide +kernel
theorem dX0_tellBytes_61 : decode cX0_tellBytes 61 = .ok (.return_, 1) := by decide +kernel
set_option maxRecDepth 20000 in
theorem ggX0_unfold_X2_begin : GoodIn wsX0_unfold wsX2_begin := goodIn_r _ [5, 6, 7, 8, 9, 10, 11, 12, 13, 14, 15, 4, 16, 49, 50, 51, 52, 53, 54] (by decide +kernel) (by decide +kernel)
set_option maxRecDepth 20000 in
theorem gX0_unfold_X2_begin : GoodIn wsX0_unfold (wsV RX0 63 RX2 yX2_begin wsX2_begin) := goodIn_app (goodIn_of _ (by decide +kernel)) ggX0_unfold_X2_begin
set_option maxRecDepth 20000 in
theorem ggX0_unfold_X0_unfoldHead : GoodIn wsX0_unfold wsX0_unfoldHead := goodIn_r _ [21, 22, 23, 24, 25, 26, 27, 28, 20, 29, 30, 31, 32, 33, 34, 35, 36, 37, 55, 56, 49, 50, 51, 52, 53, 54] (by decide +kernel) (by decide +kernel)
set_option maxRecDepth 20000 in
theorem gX0_unfold_X0_unfoldHead : GoodIn wsX0_unfold (wsV RX0 66 RX0 yX0_unfoldHead wsX0_unfoldHead) := goodIn_app (goodIn_of _ (by decide +kernel)) ggX0_unfold_X0_unfoldHead
set_option maxRecDepth 20000 in
theorem ggX0_unfold_X0_unfoldBlocks : GoodIn wsX0_unfold wsX0_unfoldBlocks := goodIn_r _ [41, 24, 25, 22, 23, 42, 43, 26, 27, 28, 20, 29, 30, 31, 32, 33, 34, 49, 50, 51, 52, 53, 54, 55, 56] (by decide +kernel) (by decide +kernel)
set_option maxRecDepth 20000 in
theorem gX0_unfold_X0_unfoldBlocks : GoodIn wsX0_unfold (wsV RX0 70 RX0 yX0_unfoldBlocks wsX0_unfoldBlocks) := goodIn_app (goodIn_of _ (by decide +kernel)) ggX0_unfold_X0_unfoldBlocks
set_option maxRecDepth 20000 in
theorem ggX0_unfold_X0_unfoldBytes : GoodIn wsX0_unfold wsX0_unfoldBytes := goodIn_r _ [47, 25, 22, 23, 48, 30, 31, 32, 20, 33, 34, 49, 50, 51, 52, 53, 54, 55, 56] (by decide +kernel) (by decide +kernel)
set_option maxRecDepth 20000 in
theorem gX0_unfold_X0_unfoldBytes : GoodIn wsX0_unfold (wsV RX0 73 RX0 yX0_unfoldBytes wsX0_unfoldBytes) := goodIn_app (goodIn_of _ (by decide +kernel)) ggX0_unfold_X0_unfoldBytes
theorem dX0_unfold_0 : decode cX0_unfold 0 = .ok (.aload_n 1, 1) := by decide +kernel
theorem dX0_unfold_1 : decode cX0_unfold 1 = .ok (.invokevirtual 63, 3) := by decide +kernel
theorem dX0_unfold_4 : decode cX0_unfold 4 = .ok (.aload_n 0, 1) := by decide +kernel
theorem dX0_unfold_5 : decode cX0_unfold 5 = .ok (.aload_n 1, 1) := by decide +kernel
theorem dX0_unfold_6 : decode cX0_unfold 6 = .ok (.invokevirtual 66, 3) := by decide +kernel
theorem dX0_unfold_9 : decode cX0_unfold 9 = .ok (.istore_n 2, 1) := by decide +kernel
theorem dX0_unfold_10 : decode cX0_unfold 10 = .ok (.iload_n 2, 1) := by decide +kernel
theorem dX0_unfold_11 : decode cX0_unfold 11 = .ok (.iconst (-1), 1) := by decide +kernel
theorem dX0_unfold_12 : decode cX0_unfold 12 = .ok (.if_icmp .ne 9, 3) := by decide +kernel
theorem dX0_unfold_15 : decode cX0_unfold 15 = .ok (.aload_n 0, 1) := by decide +kernel
theorem dX0_unfold_16 : decode cX0_unfold 16 = .ok (.aload_n 1, 1) := by decide +kernel
theorem dX0_unfold_17 : decode cX0_unfold 17 = .ok (.invokevirtual 70, 3) := by decide +kernel
theorem dX0_unfold_20 : decode cX0_unfold 20 = .ok (.istore_n 2, 1) := by decide +kernel
theorem dX0_unfold_21 : decode cX0_unfold 21 = .ok (.iload_n 2, 1) := by decide +kernel
theorem dX0_unfold_22 : decode cX0_unfold 22 = .ok (.iconst (-1), 1) := by decide +kernel
theorem dX0_unfold_23 : decode cX0_unfold 23 = .ok (.if_icmp .ne 9, 3) := by decide +kernel
theorem dX0_unfold_26 : decode cX0_unfold 26 = .ok (.aload_n 0, 1) := by decide +kernel
theorem dX0_unfold_27 : decode cX0_unfold 27 = .ok (.aload_n 1, 1) := by decide +kernel
theorem dX0_unfold_28 : decode cX0_unfold 28 = .ok (.invokevirtual 73, 3) := by decide +kernel
theorem dX0_unfold_31 : decode cX0_unfold 31 = .ok (.istore_n 2, 1) := by decide +kernel
theorem dX0_unfold_32 : decode cX0_unfold 32 = .ok (.iload_n 2, 1) := by decide +kernel
theorem dX0_unfold_33 : decode cX0_unfold 33 = .ok (.ireturn, 1) := by decide +kernel
set_option maxRecDepth 20000 in
theorem ggX0_unfoldHead_X0_pairAt : GoodIn wsX0_unfoldHead wsX0_pairAt := goodIn_r _ [9, 10, 11, 12, 8, 13, 14, 18, 19] (by decide +kernel) (by decide +kernel)
set_option maxRecDepth 20000 in
theorem gX0_unfoldHead_X0_pairAt : GoodIn wsX0_unfoldHead (wsV RX0 76 RX0 yX0_pairAt wsX0_pairAt) := goodIn_app (goodIn_of _ (by decide +kernel)) ggX0_unfoldHead_X0_pairAt
set_option maxRecDepth 20000 in
theorem ggX0_unfoldHead_X3_isSize : GoodIn wsX0_unfoldHead wsX3_isSize := goodIn_r _ [17] (by decide +kernel) (by decide +kernel)
set_option maxRecDepth 20000 in
theorem gX0_unfoldHead_X3_isSize_n79 : GoodIn wsX0_unfoldHead (wsX3_isSize) := ggX0_unfoldHead_X3_isSize
theorem dX0_unfoldHead_0 : decode cX0_unfoldHead 0 = .ok (.aload_n 0, 1) := by decide +kernel
theorem dX0_unfoldHead_1 : decode cX0_unfoldHead 1 = .ok (.getfield 15, 3) := by decide +kernel
theorem dX0_unfoldHead_4 : decode cX0_unfoldHead 4 = .ok (.iconst 2, 1) := by decide +kernel
theorem dX0_unfoldHead_5 : decode cX0_unfoldHead 5 = .ok (.if_icmp .ge 8, 3) := by decide +kernel
theorem dX0_unfoldHead_8 : decode cX0_unfoldHead 8 = .ok (.aload_n 0, 1) := by decide +kernel
theorem dX0_unfoldHead_9 : decode cX0_unfoldHead 9 = .ok (.getfield 15, 3) := by decide +kernel
theorem dX0_unfoldHead_12 : decode cX0_unfoldHead 12 = .ok (.ireturn, 1) := by decide +kernel
theorem dX0_unfoldHead_13 : decode cX0_unfoldHead 13 = .ok (.aload_n 0, 1) := by decide +kernel
theorem dX0_unfoldHead_14 : decode cX0_unfoldHead 14 = .ok (.iconst 0, 1) := by decide +kernel
theorem dX0_unfoldHead_15 : decode cX0_unfoldHead 15 = .ok (.invokevirtual 76, 3) := by decide +kernel
theorem dX0_unfoldHead_18 : decode cX0_unfoldHead 18 = .ok (.istore_n 2, 1) := by decide +kernel
theorem dX0_unfoldHead_19 : decode cX0_unfoldHead 19 = .ok (.iload_n 2, 1) := by decide +kernel
theorem dX0_unfoldHead_20 : decode cX0_unfoldHead 20 = .ok (.invokestatic 79, 3) := by decide +kernel
theorem dX0_unfoldHead_23 : decode cX0_unfoldHead 23 = .ok (.ifCond .ne 5, 3) := by decide +kernel
theorem dX0_unfoldHead_26 : decode cX0_unfoldHead 26 = .ok (.iconst 0, 1) := by decide +kernel
theorem dX0_unfoldHead_27 : decode cX0_unfoldHead 27 = .ok (.ireturn, 1) := by decide +kernel
theorem dX0_unfoldHead_28 : decode cX0_unfoldHead 28 = .ok (.aload_n 0, 1) := by decide +kernel
theorem dX0_unfoldHead_29 : decode cX0_unfoldHead 29 = .ok (.getfield 15, 3) := by decide +kernel
theorem dX0_unfoldHead_32 : decode cX0_unfoldHead 32 = .ok (.iconst 4, 1) := by decide +kernel
theorem dX0_unfoldHead_33 : decode cX0_unfoldHead 33 = .ok (.if_icmp .ge 8, 3) := by decide +kernel
theorem dX0_unfoldHead_36 : decode cX0_unfoldHead 36 = .ok (.aload_n 0, 1) := by decide +kernel
theorem dX0_unfoldHead_37 : decode cX0_unfoldHead 37 = .ok (.getfield 15, 3) := by decide +kernel
theorem dX0_unfoldHead_40 : decode cX0_unfoldHead 40 = .ok (.ireturn, 1) := by decide +kernel
theorem dX0_unfoldHead_41 : decode cX0_unfoldHead 41 = .ok (.aload_n 0, 1) := by decide +kernel
theorem dX0_unfoldHead_42 : decode cX0_unfoldHead 42 = .ok (.iconst 2, 1) := by decide +kernel
theorem dX0_unfoldHead_43 : decode cX0_unfoldHead 43 = .ok (.invokevirtual 76, 3) := by decide +kernel
theorem dX0_unfoldHead_46 : decode cX0_unfoldHead 46 = .ok (.istore_n 3, 1) := by decide +kernel
theorem dX0_unfoldHead_47 : decode cX0_unfoldHead 47 = .ok (.iload_n 3, 1) := by decide +kernel
theorem dX0_unfoldHead_48 : decode cX0_unfoldHead 48 = .ok (.ifCond .eq 17, 3) := by decide +kernel
theorem dX0_unfoldHead_51 : decode cX0_unfoldHead 51 = .ok (.iload_n 3, 1) := by decide +kernel
theorem dX0_unfoldHead_52 : decode cX0_unfoldHead 52 = .ok (.invokestatic 79, 3) := by decide +kernel
theorem dX0_unfoldHead_55 : decode cX0_unfoldHead 55 = .ok (.ifCond .eq 8, 3) := by decide +kernel
theorem dX0_unfoldHead_58 : decode cX0_unfoldHead 58 = .ok (.iload_n 3, 1) := by decide +kernel
theorem dX0_unfoldHead_59 : decode cX0_unfoldHead 59 = .ok (.iload_n 2, 1) := by decide +kernel
theorem dX0_unfoldHead_60 : decode cX0_unfoldHead 60 = .ok (.if_icmp .lt 5, 3) := by decide +kernel
theorem dX0_unfoldHead_63 : decode cX0_unfoldHead 63 = .ok (.iconst 2, 1) := by decide +kernel
theorem dX0_unfoldHead_64 : decode cX0_unfoldHead 64 = .ok (.ireturn, 1) := by decide +kernel
theorem dX0_unfoldHead_65 : decode cX0_unfoldHead 65 = .ok (.aload_n 0, 1) := by decide +kernel
theorem dX0_unfoldHead_66 : decode cX0_unfoldHead 66 = .ok (.getfield 15, 3) := by decide +kernel
theorem dX0_unfoldHead_69 : decode cX0_unfoldHead 69 = .ok (.bipush 6, 2) := by decide +kernel
theorem dX0_unfoldHead_71 : decode cX0_unfoldHead 71 = .ok (.if_icmp .ge 8, 3) := by decide +kernel
theorem dX0_unfoldHead_74 : decode cX0_unfoldHead 74 = .ok (.aload_n 0, 1) := by decide +kernel
theorem dX0_unfoldHead_75 : decode cX0_unfoldHead 75 = .ok (.getfield 15, 3) := by decide +kernel
theorem dX0_unfoldHead_78 : decode cX0_unfoldHead 78 = .ok (.ireturn, 1) := by decide +kernel
theorem dX0_unfoldHead_79 : decode cX0_unfoldHead 79 = .ok (.aload_n 0, 1) := by decide +kernel
theorem dX0_unfoldHead_80 : decode cX0_unfoldHead 80 = .ok (.iconst 4, 1) := by decide +kernel
theorem dX0_unfoldHead_81 : decode cX0_unfoldHead 81 = .ok (.invokevirtual 76, 3) := by decide +kernel
theorem dX0_unfoldHead_84 : decode cX0_unfoldHead 84 = .ok (.istore 4, 2) := by decide +kernel
theorem dX0_unfoldHead_86 : decode cX0_unfoldHead 86 = .ok (.iload 4, 2) := by decide +kernel
theorem dX0_unfoldHead_88 : decode cX0_unfoldHead 88 = .ok (.bipush 64, 2) := by decide +kernel
theorem dX0_unfoldHead_90 : decode cX0_unfoldHead 90 = .ok (.if_icmp .gt 25, 3) := by decide +kernel
theorem dX0_unfoldHead_93 : decode cX0_unfoldHead 93 = .ok (.iload 4, 2) := by decide +kernel
theorem dX0_unfoldHead_95 : decode cX0_unfoldHead 95 = .ok (.ifCond .ne 7, 3) := by decide +kernel
theorem dX0_unfoldHead_98 : decode cX0_unfoldHead 98 = .ok (.iconst 1, 1) := by decide +kernel
theorem dX0_unfoldHead_99 : decode cX0_unfoldHead 99 = .ok (.goto 4, 3) := by decide +kernel
theorem dX0_unfoldHead_102 : decode cX0_unfoldHead 102 = .ok (.iconst 0, 1) := by decide +kernel
theorem dX0_unfoldHead_103 : decode cX0_unfoldHead 103 = .ok (.iload_n 3, 1) := by decide +kernel
theorem dX0_unfoldHead_104 : decode cX0_unfoldHead 104 = .ok (.ifCond .ne 7, 3) := by decide +kernel
theorem dX0_unfoldHead_107 : decode cX0_unfoldHead 107 = .ok (.iconst 1, 1) := by decide +kernel
theorem dX0_unfoldHead_108 : decode cX0_unfoldHead 108 = .ok (.goto 4, 3) := by decide +kernel
theorem dX0_unfoldHead_111 : decode cX0_unfoldHead 111 = .ok (.iconst 0, 1) := by decide +kernel
theorem dX0_unfoldHead_112 : decode cX0_unfoldHead 112 = .ok (.if_icmp .eq 5, 3) := by decide +kernel
theorem dX0_unfoldHead_115 : decode cX0_unfoldHead 115 = .ok (.iconst 4, 1) := by decide +kernel
theorem dX0_unfoldHead_116 : decode cX0_unfoldHead 116 = .ok (.ireturn, 1) := by decide +kernel
theorem dX0_unfoldHead_117 : decode cX0_unfoldHead 117 = .ok (.aload_n 1, 1) := by decide +kernel
theorem dX0_unfoldHead_118 : decode cX0_unfoldHead 118 = .ok (.iload_n 2, 1) := by decide +kernel
theorem dX0_unfoldHead_119 : decode cX0_unfoldHead 119 = .ok (.putfield 27, 3) := by decide +kernel
theorem dX0_unfoldHead_122 : decode cX0_unfoldHead 122 = .ok (.aload_n 1, 1) := by decide +kernel
theorem dX0_unfoldHead_123 : decode cX0_unfoldHead 123 = .ok (.iload_n 3, 1) := by decide +kernel
theorem dX0_unfoldHead_124 : decode cX0_unfoldHead 124 = .ok (.putfield 35, 3) := by decide +kernel
theorem dX0_unfoldHead_127 : decode cX0_unfoldHead 127 = .ok (.aload_n 1, 1) := by decide +kernel
theorem dX0_unfoldHead_128 : decode cX0_unfoldHead 128 = .ok (.iload 4, 2) := by decide +kernel
theorem dX0_unfoldHead_130 : decode cX0_unfoldHead 130 = .ok (.putfield 38, 3) := by decide +kernel
theorem dX0_unfoldHead_133 : decode cX0_unfoldHead 133 = .ok (.iconst (-1), 1) := by decide +kernel
theorem dX0_unfoldHead_134 : decode cX0_unfoldHead 134 = .ok (.ireturn, 1) := by decide +kernel
set_option maxRecDepth 20000 in
theorem ggX0_unfoldBlocks_X0_pairAt : GoodIn wsX0_unfoldBlocks wsX0_pairAt := goodIn_r _ [11, 12, 13, 14, 10, 15, 16, 23, 24] (by decide +kernel) (by decide +kernel)
set_option maxRecDepth 20000 in
theorem gX0_unfoldBlocks_X0_pairAt : GoodIn wsX0_unfoldBlocks (wsV RX0 76 RX0 yX0_pairAt wsX0_pairAt) := goodIn_app (goodIn_of _ (by decide +kernel)) ggX0_unfoldBlocks_X0_pairAt
theorem dX0_unfoldBlocks_0 : decode cX0_unfoldBlocks 0 = .ok (.aload_n 1, 1) := by decide +kernel
theorem dX0_unfoldBlocks_1 : decode cX0_unfoldBlocks 1 = .ok (.getfield 35, 3) := by decide +kernel
theorem dX0_unfoldBlocks_4 : decode cX0_unfoldBlocks 4 = .ok (.istore_n 2, 1) := by decide +kernel
theorem dX0_unfoldBlocks_5 : decode cX0_unfoldBlocks 5 = .ok (.iconst 0, 1) := by decide +kernel
theorem dX0_unfoldBlocks_6 : decode cX0_unfoldBlocks 6 = .ok (.istore_n 3, 1) := by decide +kernel
theorem dX0_unfoldBlocks_7 : decode cX0_unfoldBlocks 7 = .ok (.iload_n 3, 1) := by decide +kernel
theorem dX0_unfoldBlocks_8 : decode cX0_unfoldBlocks 8 = .ok (.aload_n 1, 1) := by decide +kernel
theorem dX0_unfoldBlocks_9 : decode cX0_unfoldBlocks 9 = .ok (.getfield 38, 3) := by decide +kernel
theorem dX0_unfoldBlocks_12 : decode cX0_unfoldBlocks 12 = .ok (.if_icmp .ge 120, 3) := by decide +kernel
theorem dX0_unfoldBlocks_15 : decode cX0_unfoldBlocks 15 = .ok (.bipush 6, 2) := by decide +kernel
theorem dX0_unfoldBlocks_17 : decode cX0_unfoldBlocks 17 = .ok (.iconst 4, 1) := by decide +kernel
theorem dX0_unfoldBlocks_18 : decode cX0_unfoldBlocks 18 = .ok (.iload_n 3, 1) := by decide +kernel
theorem dX0_unfoldBlocks_19 : decode cX0_unfoldBlocks 19 = .ok (.imul, 1) := by decide +kernel
theorem dX0_unfoldBlocks_20 : decode cX0_unfoldBlocks 20 = .ok (.iadd, 1) := by decide +kernel
theorem dX0_unfoldBlocks_21 : decode cX0_unfoldBlocks 21 = .ok (.istore 4, 2) := by decide +kernel
theorem dX0_unfoldBlocks_23 : decode cX0_unfoldBlocks 23 = .ok (.aload_n 0, 1) := by decide +kernel
theorem dX0_unfoldBlocks_24 : decode cX0_unfoldBlocks 24 = .ok (.getfield 15, 3) := by decide +kernel
theorem dX0_unfoldBlocks_27 : decode cX0_unfoldBlocks 27 = .ok (.iload 4, 2) := by decide +kernel
theorem dX0_unfoldBlocks_29 : decode cX0_unfoldBlocks 29 = .ok (.iconst 2, 1) := by decide +kernel
theorem dX0_unfoldBlocks_30 : decode cX0_unfoldBlocks 30 = .ok (.iadd, 1) := by decide +kernel
theorem dX0_unfoldBlocks_31 : decode cX0_unfoldBlocks 31 = .ok (.if_icmp .ge 8, 3) := by decide +kernel
theorem dX0_unfoldBlocks_34 : decode cX0_unfoldBlocks 34 = .ok (.aload_n 0, 1) := by decide +kernel
theorem dX0_unfoldBlocks_35 : decode cX0_unfoldBlocks 35 = .ok (.getfield 15, 3) := by decide +kernel
theorem dX0_unfoldBlocks_38 : decode cX0_unfoldBlocks 38 = .ok (.ireturn, 1) := by decide +kernel
theorem dX0_unfoldBlocks_39 : decode cX0_unfoldBlocks 39 = .ok (.aload_n 0, 1) := by decide +kernel
theorem dX0_unfoldBlocks_40 : decode cX0_unfoldBlocks 40 = .ok (.iload 4, 2) := by decide +kernel
theorem dX0_unfoldBlocks_42 : decode cX0_unfoldBlocks 42 = .ok (.invokevirtual 76, 3) := by decide +kernel
theorem dX0_unfoldBlocks_45 : decode cX0_unfoldBlocks 45 = .ok (.istore 5, 2) := by decide +kernel
theorem dX0_unfoldBlocks_47 : decode cX0_unfoldBlocks 47 = .ok (.iload 5, 2) := by decide +kernel
theorem dX0_unfoldBlocks_49 : decode cX0_unfoldBlocks 49 = .ok (.iload_n 2, 1) := by decide +kernel
theorem dX0_unfoldBlocks_50 : decode cX0_unfoldBlocks 50 = .ok (.if_icmp .ge 6, 3) := by decide +kernel
theorem dX0_unfoldBlocks_53 : decode cX0_unfoldBlocks 53 = .ok (.iload 4, 2) := by decide +kernel
theorem dX0_unfoldBlocks_55 : decode cX0_unfoldBlocks 55 = .ok (.ireturn, 1) := by decide +kernel
theorem dX0_unfoldBlocks_56 : decode cX0_unfoldBlocks 56 = .ok (.aload_n 0, 1) := by decide +kernel
theorem dX0_unfoldBlocks_57 : decode cX0_unfoldBlocks 57 = .ok (.getfield 15, 3) := by decide +kernel
theorem dX0_unfoldBlocks_60 : decode cX0_unfoldBlocks 60 = .ok (.iload 4, 2) := by decide +kernel
theorem dX0_unfoldBlocks_62 : decode cX0_unfoldBlocks 62 = .ok (.iconst 4, 1) := by decide +kernel
theorem dX0_unfoldBlocks_63 : decode cX0_unfoldBlocks 63 = .ok (.iadd, 1) := by decide +kernel
theorem dX0_unfoldBlocks_64 : decode cX0_unfoldBlocks 64 = .ok (.if_icmp .ge 8, 3) := by decide +kernel
theorem dX0_unfoldBlocks_67 : decode cX0_unfoldBlocks 67 = .ok (.aload_n 0, 1) := by decide +kernel
theorem dX0_unfoldBlocks_68 : decode cX0_unfoldBlocks 68 = .ok (.getfield 15, 3) := by decide +kernel
theorem dX0_unfoldBlocks_71 : decode cX0_unfoldBlocks 71 = .ok (.ireturn, 1) := by decide +kernel
theorem dX0_unfoldBlocks_72 : decode cX0_unfoldBlocks 72 = .ok (.aload_n 0, 1) := by decide +kernel
theorem dX0_unfoldBlocks_73 : decode cX0_unfoldBlocks 73 = .ok (.iload 4, 2) := by decide +kernel
theorem dX0_unfoldBlocks_75 : decode cX0_unfoldBlocks 75 = .ok (.iconst 2, 1) := by decide +kernel
theorem dX0_unfoldBlocks_76 : decode cX0_unfoldBlocks 76 = .ok (.iadd, 1) := by decide +kernel
theorem dX0_unfoldBlocks_77 : decode cX0_unfoldBlocks 77 = .ok (.invokevirtual 76, 3) := by decide +kernel
theorem dX0_unfoldBlocks_80 : decode cX0_unfoldBlocks 80 = .ok (.istore 6, 2) := by decide +kernel
theorem dX0_unfoldBlocks_82 : decode cX0_unfoldBlocks 82 = .ok (.iload 6, 2) := by decide +kernel
theorem dX0_unfoldBlocks_84 : decode cX0_unfoldBlocks 84 = .ok (.ifCond .eq 15, 3) := by decide +kernel
theorem dX0_unfoldBlocks_87 : decode cX0_unfoldBlocks 87 = .ok (.iload 5, 2) := by decide +kernel
theorem dX0_unfoldBlocks_89 : decode cX0_unfoldBlocks 89 = .ok (.iload 6, 2) := by decide +kernel
theorem dX0_unfoldBlocks_91 : decode cX0_unfoldBlocks 91 = .ok (.iadd, 1) := by decide +kernel
theorem dX0_unfoldBlocks_92 : decode cX0_unfoldBlocks 92 = .ok (.aload_n 1, 1) := by decide +kernel
theorem dX0_unfoldBlocks_93 : decode cX0_unfoldBlocks 93 = .ok (.getfield 27, 3) := by decide +kernel
theorem dX0_unfoldBlocks_96 : decode cX0_unfoldBlocks 96 = .ok (.if_icmp .le 8, 3) := by decide +kernel
theorem dX0_unfoldBlocks_99 : decode cX0_unfoldBlocks 99 = .ok (.iload 4, 2) := by decide +kernel
theorem dX0_unfoldBlocks_101 : decode cX0_unfoldBlocks 101 = .ok (.iconst 2, 1) := by decide +kernel
theorem dX0_unfoldBlocks_102 : decode cX0_unfoldBlocks 102 = .ok (.iadd, 1) := by decide +kernel
theorem dX0_unfoldBlocks_103 : decode cX0_unfoldBlocks 103 = .ok (.ireturn, 1) := by decide +kernel
theorem dX0_unfoldBlocks_104 : decode cX0_unfoldBlocks 104 = .ok (.aload_n 1, 1) := by decide +kernel
theorem dX0_unfoldBlocks_105 : decode cX0_unfoldBlocks 105 = .ok (.getfield 41, 3) := by decide +kernel
theorem dX0_unfoldBlocks_108 : decode cX0_unfoldBlocks 108 = .ok (.iload_n 3, 1) := by decide +kernel
theorem dX0_unfoldBlocks_109 : decode cX0_unfoldBlocks 109 = .ok (.iload 5, 2) := by decide +kernel
theorem dX0_unfoldBlocks_111 : decode cX0_unfoldBlocks 111 = .ok (.iastore, 1) := by decide +kernel
theorem dX0_unfoldBlocks_112 : decode cX0_unfoldBlocks 112 = .ok (.aload_n 1, 1) := by decide +kernel
theorem dX0_unfoldBlocks_113 : decode cX0_unfoldBlocks 113 = .ok (.getfield 45, 3) := by decide +kernel
theorem dX0_unfoldBlocks_116 : decode cX0_unfoldBlocks 116 = .ok (.iload_n 3, 1) := by decide +kernel
theorem dX0_unfoldBlocks_117 : decode cX0_unfoldBlocks 117 = .ok (.iload 6, 2) := by decide +kernel
theorem dX0_unfoldBlocks_119 : decode cX0_unfoldBlocks 119 = .ok (.iastore, 1) := by decide +kernel
theorem dX0_unfoldBlocks_120 : decode cX0_unfoldBlocks 120 = .ok (.iload 5, 2) := by decide +kernel
theorem dX0_unfoldBlocks_122 : decode cX0_unfoldBlocks 122 = .ok (.iload 6, 2) := by decide +kernel
theorem dX0_unfoldBlocks_124 : decode cX0_unfoldBlocks 124 = .ok (.iadd, 1) := by decide +kernel
theorem dX0_unfoldBlocks_125 : decode cX0_unfoldBlocks 125 = .ok (.istore_n 2, 1) := by decide +kernel
theorem dX0_unfoldBlocks_126 : decode cX0_unfoldBlocks 126 = .ok (.iinc 3 1, 3) := by decide +kernel
theorem dX0_unfoldBlocks_129 : decode cX0_unfoldBlocks 129 = .ok (.goto (-122), 3) := by decide +kernel
theorem dX0_unfoldBlocks_132 : decode cX0_unfoldBlocks 132 = .ok (.iconst (-1), 1) := by decide +kernel
theorem dX0_unfoldBlocks_133 : decode cX0_unfoldBlocks 133 = .ok (.ireturn, 1) := by decide +kernel
set_option maxRecDepth 20000 in
theorem ggX0_unfoldBytes_X0_byteAt : GoodIn wsX0_unfoldBytes wsX0_byteAt := goodIn_r _ [9, 10, 17, 18] (by decide +kernel) (by decide +kernel)
set_option maxRecDepth 20000 in
theorem gX0_unfoldBytes_X0_byteAt : GoodIn wsX0_unfoldBytes (wsV RX0 19 RX0 yX0_byteAt wsX0_byteAt) := goodIn_app (goodIn_of _ (by decide +kernel)) ggX0_unfoldBytes_X0_byteAt
theorem dX0_unfoldBytes_0 : decode cX0_unfoldBytes 0 = .ok (.bipush 6, 2) := by decide +kernel
theorem dX0_unfoldBytes_2 : decode cX0_unfoldBytes 2 = .ok (.iconst 4, 1) := by decide +kernel
theorem dX0_unfoldBytes_3 : decode cX0_unfoldBytes 3 = .ok (.aload_n 1, 1) := by decide +kernel
theorem dX0_unfoldBytes_4 : decode cX0_unfoldBytes 4 = .ok (.getfield 38, 3) := by decide +kernel
theorem dX0_unfoldBytes_7 : decode cX0_unfoldBytes 7 = .ok (.imul, 1) := by decide +kernel
theorem dX0_unfoldBytes_8 : decode cX0_unfoldBytes 8 = .ok (.iadd, 1) := by decide +kernel
theorem dX0_unfoldBytes_9 : decode cX0_unfoldBytes 9 = .ok (.istore_n 2, 1) := by decide +kernel
theorem dX0_unfoldBytes_10 : decode cX0_unfoldBytes 10 = .ok (.iconst 0, 1) := by decide +kernel
theorem dX0_unfoldBytes_11 : decode cX0_unfoldBytes 11 = .ok (.istore_n 3, 1) := by decide +kernel
theorem dX0_unfoldBytes_12 : decode cX0_unfoldBytes 12 = .ok (.iload_n 2, 1) := by decide +kernel
theorem dX0_unfoldBytes_13 : decode cX0_unfoldBytes 13 = .ok (.aload_n 0, 1) := by decide +kernel
theorem dX0_unfoldBytes_14 : decode cX0_unfoldBytes 14 = .ok (.getfield 15, 3) := by decide +kernel
theorem dX0_unfoldBytes_17 : decode cX0_unfoldBytes 17 = .ok (.if_icmp .ge 104, 3) := by decide +kernel
theorem dX0_unfoldBytes_20 : decode cX0_unfoldBytes 20 = .ok (.iload_n 3, 1) := by decide +kernel
theorem dX0_unfoldBytes_21 : decode cX0_unfoldBytes 21 = .ok (.aload_n 1, 1) := by decide +kernel
theorem dX0_unfoldBytes_22 : decode cX0_unfoldBytes 22 = .ok (.getfield 27, 3) := by decide +kernel
theorem dX0_unfoldBytes_25 : decode cX0_unfoldBytes 25 = .ok (.if_icmp .lt 5, 3) := by decide +kernel
theorem dX0_unfoldBytes_28 : decode cX0_unfoldBytes 28 = .ok (.iload_n 2, 1) := by decide +kernel
theorem dX0_unfoldBytes_29 : decode cX0_unfoldBytes 29 = .ok (.ireturn, 1) := by decide +kernel
theorem dX0_unfoldBytes_30 : decode cX0_unfoldBytes 30 = .ok (.aload_n 0, 1) := by decide +kernel
theorem dX0_unfoldBytes_31 : decode cX0_unfoldBytes 31 = .ok (.iload_n 2, 1) := by decide +kernel
theorem dX0_unfoldBytes_32 : decode cX0_unfoldBytes 32 = .ok (.invokevirtual 19, 3) := by decide +kernel
theorem dX0_unfoldBytes_35 : decode cX0_unfoldBytes 35 = .ok (.istore 4, 2) := by decide +kernel
theorem dX0_unfoldBytes_37 : decode cX0_unfoldBytes 37 = .ok (.iload 4, 2) := by decide +kernel
theorem dX0_unfoldBytes_39 : decode cX0_unfoldBytes 39 = .ok (.ifCond .eq 29, 3) := by decide +kernel
theorem dX0_unfoldBytes_42 : decode cX0_unfoldBytes 42 = .ok (.iload_n 3, 1) := by decide +kernel
theorem dX0_unfoldBytes_43 : decode cX0_unfoldBytes 43 = .ok (.bipush 64, 2) := by decide +kernel
theorem dX0_unfoldBytes_45 : decode cX0_unfoldBytes 45 = .ok (.if_icmp .ge 5, 3) := by decide +kernel
theorem dX0_unfoldBytes_48 : decode cX0_unfoldBytes 48 = .ok (.iload_n 2, 1) := by decide +kernel
theorem dX0_unfoldBytes_49 : decode cX0_unfoldBytes 49 = .ok (.ireturn, 1) := by decide +kernel
theorem dX0_unfoldBytes_50 : decode cX0_unfoldBytes 50 = .ok (.aload_n 1, 1) := by decide +kernel
theorem dX0_unfoldBytes_51 : decode cX0_unfoldBytes 51 = .ok (.getfield 83, 3) := by decide +kernel
theorem dX0_unfoldBytes_54 : decode cX0_unfoldBytes 54 = .ok (.iload_n 3, 1) := by decide +kernel
theorem dX0_unfoldBytes_55 : decode cX0_unfoldBytes 55 = .ok (.iload 4, 2) := by decide +kernel
theorem dX0_unfoldBytes_57 : decode cX0_unfoldBytes 57 = .ok (.i2b, 1) := by decide +kernel
theorem dX0_unfoldBytes_58 : decode cX0_unfoldBytes 58 = .ok (.bastore, 1) := by decide +kernel
theorem dX0_unfoldBytes_59 : decode cX0_unfoldBytes 59 = .ok (.iinc 3 1, 3) := by decide +kernel
theorem dX0_unfoldBytes_62 : decode cX0_unfoldBytes 62 = .ok (.iinc 2 1, 3) := by decide +kernel
theorem dX0_unfoldBytes_65 : decode cX0_unfoldBytes 65 = .ok (.goto (-53), 3) := by decide +kernel
theorem dX0_unfoldBytes_68 : decode cX0_unfoldBytes 68 = .ok (.iload_n 2, 1) := by decide +kernel
theorem dX0_unfoldBytes_69 : decode cX0_unfoldBytes 69 = .ok (.iconst 1, 1) := by decide +kernel
theorem dX0_unfoldBytes_70 : decode cX0_unfoldBytes 70 = .ok (.iadd, 1) := by decide +kernel
theorem dX0_unfoldBytes_71 : decode cX0_unfoldBytes 71 = .ok (.aload_n 0, 1) := by decide +kernel
theorem dX0_unfoldBytes_72 : decode cX0_unfoldBytes 72 = .ok (.getfield 15, 3) := by decide +kernel
theorem dX0_unfoldBytes_75 : decode cX0_unfoldBytes 75 = .ok (.if_icmp .lt 8, 3) := by decide +kernel
theorem dX0_unfoldBytes_78 : decode cX0_unfoldBytes 78 = .ok (.aload_n 0, 1) := by decide +kernel
theorem dX0_unfoldBytes_79 : decode cX0_unfoldBytes 79 = .ok (.getfield 15, 3) := by decide +kernel
theorem dX0_unfoldBytes_82 : decode cX0_unfoldBytes 82 = .ok (.ireturn, 1) := by decide +kernel
theorem dX0_unfoldBytes_83 : decode cX0_unfoldBytes 83 = .ok (.iload_n 3, 1) := by decide +kernel
theorem dX0_unfoldBytes_84 : decode cX0_unfoldBytes 84 = .ok (.aload_n 0, 1) := by decide +kernel
theorem dX0_unfoldBytes_85 : decode cX0_unfoldBytes 85 = .ok (.iload_n 2, 1) := by decide +kernel
theorem dX0_unfoldBytes_86 : decode cX0_unfoldBytes 86 = .ok (.iconst 1, 1) := by decide +kernel
theorem dX0_unfoldBytes_87 : decode cX0_unfoldBytes 87 = .ok (.iadd, 1) := by decide +kernel
theorem dX0_unfoldBytes_88 : decode cX0_unfoldBytes 88 = .ok (.invokevirtual 19, 3) := by decide +kernel
theorem dX0_unfoldBytes_91 : decode cX0_unfoldBytes 91 = .ok (.iconst 1, 1) := by decide +kernel
theorem dX0_unfoldBytes_92 : decode cX0_unfoldBytes 92 = .ok (.iadd, 1) := by decide +kernel
theorem dX0_unfoldBytes_93 : decode cX0_unfoldBytes 93 = .ok (.iadd, 1) := by decide +kernel
theorem dX0_unfoldBytes_94 : decode cX0_unfoldBytes 94 = .ok (.istore_n 3, 1) := by decide +kernel
theorem dX0_unfoldBytes_95 : decode cX0_unfoldBytes 95 = .ok (.iload_n 3, 1) := by decide +kernel
theorem dX0_unfoldBytes_96 : decode cX0_unfoldBytes 96 = .ok (.aload_n 1, 1) := by decide +kernel
theorem dX0_unfoldBytes_97 : decode cX0_unfoldBytes 97 = .ok (.getfield 27, 3) := by decide +kernel
theorem dX0_unfoldBytes_100 : decode cX0_unfoldBytes 100 = .ok (.if_icmp .gt 13, 3) := by decide +kernel
theorem dX0_unfoldBytes_103 : decode cX0_unfoldBytes 103 = .ok (.iload_n 2, 1) := by decide +kernel
theorem dX0_unfoldBytes_104 : decode cX0_unfoldBytes 104 = .ok (.iconst 2, 1) := by decide +kernel
theorem dX0_unfoldBytes_105 : decode cX0_unfoldBytes 105 = .ok (.iadd, 1) := by decide +kernel
theorem dX0_unfoldBytes_106 : decode cX0_unfoldBytes 106 = .ok (.aload_n 0, 1) := by decide +kernel
theorem dX0_unfoldBytes_107 : decode cX0_unfoldBytes 107 = .ok (.getfield 15, 3) := by decide +kernel
theorem dX0_unfoldBytes_110 : decode cX0_unfoldBytes 110 = .ok (.if_icmp .lt 5, 3) := by decide +kernel
theorem dX0_unfoldBytes_113 : decode cX0_unfoldBytes 113 = .ok (.iload_n 2, 1) := by decide +kernel
theorem dX0_unfoldBytes_114 : decode cX0_unfoldBytes 114 = .ok (.ireturn, 1) := by decide +kernel
theorem dX0_unfoldBytes_115 : decode cX0_unfoldBytes 115 = .ok (.iinc 2 2, 3) := by decide +kernel
theorem dX0_unfoldBytes_118 : decode cX0_unfoldBytes 118 = .ok (.goto (-106), 3) := by decide +kernel
theorem dX0_unfoldBytes_121 : decode cX0_unfoldBytes 121 = .ok (.iconst (-1), 1) := by decide +kernel
theorem dX0_unfoldBytes_122 : decode cX0_unfoldBytes 122 = .ok (.ireturn, 1) := by decide +kernel
theorem dX1_init_0 : decode cX1_init 0 = .ok (.aload_n 0, 1) := by decide +kernel
theorem dX1_init_1 : decode cX1_init 1 = .ok (.invokespecial 3, 3) := by decide +kernel
theorem dX1_init_4 : decode cX1_init 4 = .ok (.aload_n 0, 1) := by decide +kernel
theorem dX1_init_5 : decode cX1_init 5 = .ok (.bipush 64, 2) := by decide +kernel
theorem dX1_init_7 : decode cX1_init 7 = .ok (.newarray .byte, 2) := by decide +kernel
theorem dX1_init_9 : decode cX1_init 9 = .ok (.putfield 9, 3) := by decide +kernel
theorem dX1_init_12 : decode cX1_init 12 = .ok (.return_, 1) := by decide +kernel
set_option maxRecDepth 20000 in
theorem ggX1_load_X2_has : GoodIn wsX1_load wsX2_has := goodIn_r _ [12, 13, 16, 17, 18, 19, 20, 21] (by decide +kernel) (by decide +kernel)
set_option maxRecDepth 20000 in
theorem gX1_load_X2_has : GoodIn wsX1_load (wsV RX1 19 RX2 yX2_has wsX2_has) := goodIn_app (goodIn_of _ (by decide +kernel)) ggX1_load_X2_has
theorem dX1_load_0 : decode cX1_load 0 = .ok (.aload_n 0, 1) := by decide +kernel
theorem dX1_load_1 : decode cX1_load 1 = .ok (.iload_n 3, 1) := by decide +kernel
theorem dX1_load_2 : decode cX1_load 2 = .ok (.putfield 15, 3) := by decide +kernel
theorem dX1_load_5 : decode cX1_load 5 = .ok (.iload 4, 2) := by decide +kernel
theorem dX1_load_7 : decode cX1_load 7 = .ok (.iconst 1, 1) := by decide +kernel
theorem dX1_load_8 : decode cX1_load 8 = .ok (.iand, 1) := by decide +kernel
theorem dX1_load_9 : decode cX1_load 9 = .ok (.ifCond .ne 39, 3) := by decide +kernel
theorem dX1_load_12 : decode cX1_load 12 = .ok (.iconst 0, 1) := by decide +kernel
theorem dX1_load_13 : decode cX1_load 13 = .ok (.istore 5, 2) := by decide +kernel
theorem dX1_load_15 : decode cX1_load 15 = .ok (.iload 5, 2) := by decide +kernel
theorem dX1_load_17 : decode cX1_load 17 = .ok (.iload_n 3, 1) := by decide +kernel
theorem dX1_load_18 : decode cX1_load 18 = .ok (.if_icmp .ge 28, 3) := by decide +kernel
theorem dX1_load_21 : decode cX1_load 21 = .ok (.aload_n 0, 1) := by decide +kernel
theorem dX1_load_22 : decode cX1_load 22 = .ok (.getfield 9, 3) := by decide +kernel
theorem dX1_load_25 : decode cX1_load 25 = .ok (.iload 5, 2) := by decide +kernel
theorem dX1_load_27 : decode cX1_load 27 = .ok (.iload_n 2, 1) := by decide +kernel
theorem dX1_load_28 : decode cX1_load 28 = .ok (.bipush 8, 2) := by decide +kernel
theorem dX1_load_30 : decode cX1_load 30 = .ok (.iload_n 3, 1) := by decide +kernel
theorem dX1_load_31 : decode cX1_load 31 = .ok (.iconst 1, 1) := by decide +kernel
theorem dX1_load_32 : decode cX1_load 32 = .ok (.isub, 1) := by decide +kernel
theorem dX1_load_33 : decode cX1_load 33 = .ok (.iload 5, 2) := by decide +kernel
theorem dX1_load_35 : decode cX1_load 35 = .ok (.isub, 1) := by decide +kernel
theorem dX1_load_36 : decode cX1_load 36 = .ok (.imul, 1) := by decide +kernel
theorem dX1_load_37 : decode cX1_load 37 = .ok (.iushr, 1) := by decide +kernel
theorem dX1_load_38 : decode cX1_load 38 = .ok (.i2b, 1) := by decide +kernel
theorem dX1_load_39 : decode cX1_load 39 = .ok (.bastore, 1) := by decide +kernel
theorem dX1_load_40 : decode cX1_load 40 = .ok (.iinc 5 1, 3) := by decide +kernel
theorem dX1_load_43 : decode cX1_load 43 = .ok (.goto (-28), 3) := by decide +kernel
theorem dX1_load_46 : decode cX1_load 46 = .ok (.iconst 1, 1) := by decide +kernel
theorem dX1_load_47 : decode cX1_load 47 = .ok (.ireturn, 1) := by decide +kernel
theorem dX1_load_48 : decode cX1_load 48 = .ok (.aload_n 1, 1) := by decide +kernel
theorem dX1_load_49 : decode cX1_load 49 = .ok (.iload_n 2, 1) := by decide +kernel
theorem dX1_load_50 : decode cX1_load 50 = .ok (.i2l, 1) := by decide +kernel
theorem dX1_load_51 : decode cX1_load 51 = .ok (.iload_n 3, 1) := by decide +kernel
theorem dX1_load_52 : decode cX1_load 52 = .ok (.invokevirtual 19, 3) := by decide +kernel
theorem dX1_load_55 : decode cX1_load 55 = .ok (.ifCond .ne 5, 3) := by decide +kernel
theorem dX1_load_58 : decode cX1_load 58 = .ok (.iconst 0, 1) := by decide +kernel
theorem dX1_load_59 : decode cX1_load 59 = .ok (.ireturn, 1) := by decide +kernel
theorem dX1_load_60 : decode cX1_load 60 = .ok (.aload_n 1, 1) := by decide +kernel
theorem dX1_load_61 : decode cX1_load 61 = .ok (.getfield 25, 3) := by decide +kernel
theorem dX1_load_64 : decode cX1_load 64 = .ok (.iload_n 2, 1) := by decide +kernel
theorem dX1_load_65 : decode cX1_load 65 = .ok (.aload_n 0, 1) := by decide +kernel
theorem dX1_load_66 : decode cX1_load 66 = .ok (.getfield 9, 3) := by decide +kernel
theorem dX1_load_69 : decode cX1_load 69 = .ok (.iconst 0, 1) := by decide +kernel
theorem dX1_load_70 : decode cX1_load 70 = .ok (.iload_n 3, 1) := by decide +kernel
theorem dX1_load_71 : decode cX1_load 71 = .ok (.invokestatic 26, 3) := by decide +kernel
theorem dX1_load_74 : decode cX1_load 74 = .ok (.iconst 1, 1) := by decide +kernel
theorem dX1_load_75 : decode cX1_load 75 = .ok (.ireturn, 1) := by decide +kernel
theorem dX1_orderOf_0 : decode cX1_orderOf 0 = .ok (.iconst 0, 1) := by decide +kernel
theorem dX1_orderOf_1 : decode cX1_orderOf 1 = .ok (.istore_n 3, 1) := by decide +kernel
theorem dX1_orderOf_2 : decode cX1_orderOf 2 = .ok (.iload_n 3, 1) := by decide +kernel
theorem dX1_orderOf_3 : decode cX1_orderOf 3 = .ok (.aload_n 0, 1) := by decide +kernel
theorem dX1_orderOf_4 : decode cX1_orderOf 4 = .ok (.getfield 15, 3) := by decide +kernel
theorem dX1_orderOf_7 : decode cX1_orderOf 7 = .ok (.if_icmp .ge 42, 3) := by decide +kernel
theorem dX1_orderOf_10 : decode cX1_orderOf 10 = .ok (.aload_n 1, 1) := by decide +kernel
theorem dX1_orderOf_11 : decode cX1_orderOf 11 = .ok (.getfield 25, 3) := by decide +kernel
theorem dX1_orderOf_14 : decode cX1_orderOf 14 = .ok (.iload_n 2, 1) := by decide +kernel
theorem dX1_orderOf_15 : decode cX1_orderOf 15 = .ok (.iload_n 3, 1) := by decide +kernel
theorem dX1_orderOf_16 : decode cX1_orderOf 16 = .ok (.iadd, 1) := by decide +kernel
theorem dX1_orderOf_17 : decode cX1_orderOf 17 = .ok (.baload, 1) := by decide +kernel
theorem dX1_orderOf_18 : decode cX1_orderOf 18 = .ok (.sipush 255, 3) := by decide +kernel
theorem dX1_orderOf_21 : decode cX1_orderOf 21 = .ok (.iand, 1) := by decide +kernel
theorem dX1_orderOf_22 : decode cX1_orderOf 22 = .ok (.aload_n 0, 1) := by decide +kernel
theorem dX1_orderOf_23 : decode cX1_orderOf 23 = .ok (.getfield 9, 3) := by decide +kernel
theorem dX1_orderOf_26 : decode cX1_orderOf 26 = .ok (.iload_n 3, 1) := by decide +kernel
theorem dX1_orderOf_27 : decode cX1_orderOf 27 = .ok (.baload, 1) := by decide +kernel
theorem dX1_orderOf_28 : decode cX1_orderOf 28 = .ok (.sipush 255, 3) := by decide +kernel
theorem dX1_orderOf_31 : decode cX1_orderOf 31 = .ok (.iand, 1) := by decide +kernel
theorem dX1_orderOf_32 : decode cX1_orderOf 32 = .ok (.isub, 1) := by decide +kernel
theorem dX1_orderOf_33 : decode cX1_orderOf 33 = .ok (.istore 4, 2) := by decide +kernel
theorem dX1_orderOf_35 : decode cX1_orderOf 35 = .ok (.iload 4, 2) := by decide +kernel
theorem dX1_orderOf_37 : decode cX1_orderOf 37 = .ok (.ifCond .eq 6, 3) := by decide +kernel
theorem dX1_orderOf_40 : decode cX1_orderOf 40 = .ok (.iload 4, 2) := by decide +kernel
theorem dX1_orderOf_42 : decode cX1_orderOf 42 = .ok (.ireturn, 1) := by decide +kernel
theorem dX1_orderOf_43 : decode cX1_orderOf 43 = .ok (.iinc 3 1, 3) := by decide +kernel
theorem dX1_orderOf_46 : decode cX1_orderOf 46 = .ok (.goto (-44), 3) := by decide +kernel
theorem dX1_orderOf_49 : decode cX1_orderOf 49 = .ok (.iconst 0, 1) := by decide +kernel
theorem dX1_orderOf_50 : decode cX1_orderOf 50 = .ok (.ireturn, 1) := by decide +kernel
theorem dX2_init_0 : decode cX2_init 0 = .ok (.aload_n 0, 1) := by decide +kernel
theorem dX2_init_1 : decode cX2_init 1 = .ok (.invokespecial 3, 3) := by decide +kernel
theorem dX2_init_4 : decode cX2_init 4 = .ok (.aload_n 0, 1) := by decide +kernel
theorem dX2_init_5 : decode cX2_init 5 = .ok (.sipush 8192, 3) := by decide +kernel
theorem dX2_init_8 : decode cX2_init 8 = .ok (.newarray .byte, 2) := by decide +kernel
theorem dX2_init_10 : decode cX2_init 10 = .ok (.putfield 9, 3) := by decide +kernel
theorem dX2_init_13 : decode cX2_init 13 = .ok (.aload_n 0, 1) := by decide +kernel
theorem dX2_init_14 : decode cX2_init 14 = .ok (.bipush 64, 2) := by decide +kernel
theorem dX2_init_16 : decode cX2_init 16 = .ok (.newarray .int, 2) := by decide +kernel
theorem dX2_init_18 : decode cX2_init 18 = .ok (.putfield 15, 3) := by decide +kernel
theorem dX2_init_21 : decode cX2_init 21 = .ok (.aload_n 0, 1) := by decide +kernel
theorem dX2_init_22 : decode cX2_init 22 = .ok (.bipush 64, 2) := by decide +kernel
theorem dX2_init_24 : decode cX2_init 24 = .ok (.newarray .int, 2) := by decide +kernel
theorem dX2_init_26 : decode cX2_init 26 = .ok (.putfield 19, 3) := by decide +kernel
theorem dX2_init_29 : decode cX2_init 29 = .ok (.return_, 1) := by decide +kernel
set_option maxRecDepth 20000 in
theorem ggX2_begin_J7_fill_031fb : GoodIn wsX2_begin wsJ7_fill_031fb := goodIn_r _ [8] (by decide +kernel) (by decide +kernel)
set_option maxRecDepth 20000 in
theorem gX2_begin_J7_fill_031fb : GoodIn wsX2_begin (va_wsS RX2 22 yJ7_fill_031fb wsJ7_fill_031fb) := goodIn_app (goodIn_of _ (by decide +kernel)) ggX2_begin_J7_fill_031fb
set_option maxRecDepth 20000 in
theorem ggX2_begin_X2_first : GoodIn wsX2_begin wsX2_first := goodIn_r _ [12] (by decide +kernel) (by decide +kernel)
set_option maxRecDepth 20000 in
theorem gX2_begin_X2_first : GoodIn wsX2_begin (va_wsS RX2 28 yX2_first wsX2_first) := goodIn_app (goodIn_of _ (by decide +kernel)) ggX2_begin_X2_first
theorem dX2_begin_0 : decode cX2_begin 0 = .ok (.aload_n 0, 1) := by decide +kernel
theorem dX2_begin_1 : decode cX2_begin 1 = .ok (.getfield 9, 3) := by decide +kernel
theorem dX2_begin_4 : decode cX2_begin 4 = .ok (.iconst 0, 1) := by decide +kernel
theorem dX2_begin_5 : decode cX2_begin 5 = .ok (.invokestatic 22, 3) := by decide +kernel
theorem dX2_begin_8 : decode cX2_begin 8 = .ok (.iconst 0, 1) := by decide +kernel
theorem dX2_begin_9 : decode cX2_begin 9 = .ok (.istore_n 1, 1) := by decide +kernel
theorem dX2_begin_10 : decode cX2_begin 10 = .ok (.iload_n 1, 1) := by decide +kernel
theorem dX2_begin_11 : decode cX2_begin 11 = .ok (.bipush 64, 2) := by decide +kernel
theorem dX2_begin_13 : decode cX2_begin 13 = .ok (.if_icmp .ge 20, 3) := by decide +kernel
theorem dX2_begin_16 : decode cX2_begin 16 = .ok (.aload_n 0, 1) := by decide +kernel
theorem dX2_begin_17 : decode cX2_begin 17 = .ok (.getfield 9, 3) := by decide +kernel
theorem dX2_begin_20 : decode cX2_begin 20 = .ok (.iload_n 1, 1) := by decide +kernel
theorem dX2_begin_21 : decode cX2_begin 21 = .ok (.iload_n 1, 1) := by decide +kernel
theorem dX2_begin_22 : decode cX2_begin 22 = .ok (.invokestatic 28, 3) := by decide +kernel
theorem dX2_begin_25 : decode cX2_begin 25 = .ok (.i2b, 1) := by decide +kernel
theorem dX2_begin_26 : decode cX2_begin 26 = .ok (.bastore, 1) := by decide +kernel
theorem dX2_begin_27 : decode cX2_begin 27 = .ok (.iinc 1 1, 3) := by decide +kernel
theorem dX2_begin_30 : decode cX2_begin 30 = .ok (.goto (-20), 3) := by decide +kernel
theorem dX2_begin_33 : decode cX2_begin 33 = .ok (.aload_n 0, 1) := by decide +kernel
theorem dX2_begin_34 : decode cX2_begin 34 = .ok (.sipush 1024, 3) := by decide +kernel
theorem dX2_begin_37 : decode cX2_begin 37 = .ok (.putfield 32, 3) := by decide +kernel
theorem dX2_begin_40 : decode cX2_begin 40 = .ok (.aload_n 0, 1) := by decide +kernel
theorem dX2_begin_41 : decode cX2_begin 41 = .ok (.iconst 0, 1) := by decide +kernel
theorem dX2_begin_42 : decode cX2_begin 42 = .ok (.putfield 36, 3) := by decide +kernel
theorem dX2_begin_45 : decode cX2_begin 45 = .ok (.aload_n 0, 1) := by decide +kernel
theorem dX2_begin_46 : decode cX2_begin 46 = .ok (.iconst 0, 1) := by decide +kernel
theorem dX2_begin_47 : decode cX2_begin 47 = .ok (.putfield 39, 3) := by decide +kernel
theorem dX2_begin_50 : decode cX2_begin 50 = .ok (.return_, 1) := by decide +kernel
theorem dX2_become_0 : decode cX2_become 0 = .ok (.aload_n 1, 1) := by decide +kernel
theorem dX2_become_1 : decode cX2_become 1 = .ok (.getfield 9, 3) := by decide +kernel
theorem dX2_become_4 : decode cX2_become 4 = .ok (.iconst 0, 1) := by decide +kernel
theorem dX2_become_5 : decode cX2_become 5 = .ok (.aload_n 0, 1) := by decide +kernel
theorem dX2_become_6 : decode cX2_become 6 = .ok (.getfield 9, 3) := by decide +kernel
theorem dX2_become_9 : decode cX2_become 9 = .ok (.iconst 0, 1) := by decide +kernel
theorem dX2_become_10 : decode cX2_become 10 = .ok (.sipush 8192, 3) := by decide +kernel
theorem dX2_become_13 : decode cX2_become 13 = .ok (.invokestatic 42, 3) := by decide +kernel
theorem dX2_become_16 : decode cX2_become 16 = .ok (.aload_n 1, 1) := by decide +kernel
theorem dX2_become_17 : decode cX2_become 17 = .ok (.getfield 15, 3) := by decide +kernel
theorem dX2_become_20 : decode cX2_become 20 = .ok (.iconst 0, 1) := by decide +kernel
theorem dX2_become_21 : decode cX2_become 21 = .ok (.aload_n 0, 1) := by decide +kernel
theorem dX2_become_22 : decode cX2_become 22 = .ok (.getfield 15, 3) := by decide +kernel
theorem dX2_become_25 : decode cX2_become 25 = .ok (.iconst 0, 1) := by decide +kernel
theorem dX2_become_26 : decode cX2_become 26 = .ok (.bipush 64, 2) := by decide +kernel
theorem dX2_become_28 : decode cX2_become 28 = .ok (.invokestatic 42, 3) := by decide +kernel
theorem dX2_become_31 : decode cX2_become 31 = .ok (.aload_n 1, 1) := by decide +kernel
theorem dX2_become_32 : decode cX2_become 32 = .ok (.getfield 19, 3) := by decide +kernel
theorem dX2_become_35 : decode cX2_become 35 = .ok (.iconst 0, 1) := by decide +kernel
theorem dX2_become_36 : decode cX2_become 36 = .ok (.aload_n 0, 1) := by decide +kernel
theorem dX2_become_37 : decode cX2_become 37 = .ok (.getfield 19, 3) := by decide +kernel
theorem dX2_become_40 : decode cX2_become 40 = .ok (.iconst 0, 1) := by decide +kernel
theorem dX2_become_41 : decode cX2_become 41 = .ok (.bipush 64, 2) := by decide +kernel
theorem dX2_become_43 : decode cX2_become 43 = .ok (.invokestatic 42, 3) := by decide +kernel
theorem dX2_become_46 : decode cX2_become 46 = .ok (.aload_n 0, 1) := by decide +kernel
theorem dX2_become_47 : decode cX2_become 47 = .ok (.aload_n 1, 1) := by decide +kernel
theorem dX2_become_48 : decode cX2_become 48 = .ok (.getfield 32, 3) := by decide +kernel
theorem dX2_become_51 : decode cX2_become 51 = .ok (.putfield 32, 3) := by decide +kernel
theorem dX2_become_54 : decode cX2_become 54 = .ok (.aload_n 0, 1) := by decide +kernel
theorem dX2_become_55 : decode cX2_become 55 = .ok (.aload_n 1, 1) := by decide +kernel
theorem dX2_become_56 : decode cX2_become 56 = .ok (.getfield 36, 3) := by decide +kernel
theorem dX2_become_59 : decode cX2_become 59 = .ok (.putfield 36, 3) := by decide +kernel
theorem dX2_become_62 : decode cX2_become 62 = .ok (.aload_n 0, 1) := by decide +kernel
theorem dX2_become_63 : decode cX2_become 63 = .ok (.aload_n 1, 1) := by decide +kernel
theorem dX2_become_64 : decode cX2_become 64 = .ok (.getfield 39, 3) := by decide +kernel
theorem dX2_become_67 : decode cX2_become 67 = .ok (.putfield 39, 3) := by decide +kernel
theorem dX2_become_70 : decode cX2_become 70 = .ok (.return_, 1) := by decide +kernel
theorem dX2_isLike_0 : decode cX2_isLike 0 = .ok (.aload_n 0, 1) := by decide +kernel
theorem dX2_isLike_1 : decode cX2_isLike 1 = .ok (.getfield 32, 3) := by decide +kernel
theorem dX2_isLike_4 : decode cX2_isLike 4 = .ok (.aload_n 1, 1) := by decide +kernel
theorem dX2_isLike_5 : decode cX2_isLike 5 = .ok (.getfield 32, 3) := by decide +kernel
theorem dX2_isLike_8 : decode cX2_isLike 8 = .ok (.if_icmp .ne 25, 3) := by decide +kernel
theorem dX2_isLike_11 : decode cX2_isLike 11 = .ok (.aload_n 0, 1) := by decide +kernel
theorem dX2_isLike_12 : decode cX2_isLike 12 = .ok (.getfield 36, 3) := by decide +kernel
theorem dX2_isLike_15 : decode cX2_isLike 15 = .ok (.aload_n 1, 1) := by decide +kernel
theorem dX2_isLike_16 : decode cX2_isLike 16 = .ok (.getfield 36, 3) := by decide +kernel
theorem dX2_isLike_19 : decode cX2_isLike 19 = .ok (.if_icmp .ne 14, 3) := by decide +kernel
theorem dX2_isLike_22 : decode cX2_isLike 22 = .ok (.aload_n 0, 1) := by decide +kernel
theorem dX2_isLike_23 : decode cX2_isLike 23 = .ok (.getfield 39, 3) := by decide +kernel
theorem dX2_isLike_26 : decode cX2_isLike 26 = .ok (.aload_n 1, 1) := by decide +kernel
theorem dX2_isLike_27 : decode cX2_isLike 27 = .ok (.getfield 39, 3) := by decide +kernel
theorem dX2_isLike_30 : decode cX2_isLike 30 = .ok (.if_icmp .eq 5, 3) := by decide +kernel
theorem dX2_isLike_33 : decode cX2_isLike 33 = .ok (.iconst 0, 1) := by decide +kernel
theorem dX2_isLike_34 : decode cX2_isLike 34 = .ok (.ireturn, 1) := by decide +kernel
theorem dX2_isLike_35 : decode cX2_isLike 35 = .ok (.iconst 0, 1) := by decide +kernel
theorem dX2_isLike_36 : decode cX2_isLike 36 = .ok (.istore_n 2, 1) := by decide +kernel
theorem dX2_isLike_37 : decode cX2_isLike 37 = .ok (.iload_n 2, 1) := by decide +kernel
theorem dX2_isLike_38 : decode cX2_isLike 38 = .ok (.aload_n 0, 1) := by decide +kernel
theorem dX2_isLike_39 : decode cX2_isLike 39 = .ok (.getfield 39, 3) := by decide +kernel
theorem dX2_isLike_42 : decode cX2_isLike 42 = .ok (.if_icmp .ge 41, 3) := by decide +kernel
theorem dX2_isLike_45 : decode cX2_isLike 45 = .ok (.aload_n 0, 1) := by decide +kernel
theorem dX2_isLike_46 : decode cX2_isLike 46 = .ok (.getfield 15, 3) := by decide +kernel
theorem dX2_isLike_49 : decode cX2_isLike 49 = .ok (.iload_n 2, 1) := by decide +kernel
theorem dX2_isLike_50 : decode cX2_isLike 50 = .ok (.iaload, 1) := by decide +kernel
theorem dX2_isLike_51 : decode cX2_isLike 51 = .ok (.aload_n 1, 1) := by decide +kernel
theorem dX2_isLike_52 : decode cX2_isLike 52 = .ok (.getfield 15, 3) := by decide +kernel
theorem dX2_isLike_55 : decode cX2_isLike 55 = .ok (.iload_n 2, 1) := by decide +kernel
theorem dX2_isLike_56 : decode cX2_isLike 56 = .ok (.iaload, 1) := by decide +kernel
theorem dX2_isLike_57 : decode cX2_isLike 57 = .ok (.if_icmp .ne 18, 3) := by decide +kernel
theorem dX2_isLike_60 : decode cX2_isLike 60 = .ok (.aload_n 0, 1) := by decide +kernel
theorem dX2_isLike_61 : decode cX2_isLike 61 = .ok (.getfield 19, 3) := by decide +kernel
theorem dX2_isLike_64 : decode cX2_isLike 64 = .ok (.iload_n 2, 1) := by decide +kernel
theorem dX2_isLike_65 : decode cX2_isLike 65 = .ok (.iaload, 1) := by decide +kernel
theorem dX2_isLike_66 : decode cX2_isLike 66 = .ok (.aload_n 1, 1) := by decide +kernel
theorem dX2_isLike_67 : decode cX2_isLike 67 = .ok (.getfield 19, 3) := by decide +kernel
theorem dX2_isLike_70 : decode cX2_isLike 70 = .ok (.iload_n 2, 1) := by decide +kernel
theorem dX2_isLike_71 : decode cX2_isLike 71 = .ok (.iaload, 1) := by decide +kernel
theorem dX2_isLike_72 : decode cX2_isLike 72 = .ok (.if_icmp .eq 5, 3) := by decide +kernel
theorem dX2_isLike_75 : decode cX2_isLike 75 = .ok (.iconst 0, 1) := by decide +kernel
theorem dX2_isLike_76 : decode cX2_isLike 76 = .ok (.ireturn, 1) := by decide +kernel
theorem dX2_isLike_77 : decode cX2_isLike 77 = .ok (.iinc 2 1, 3) := by decide +kernel
theorem dX2_isLike_80 : decode cX2_isLike 80 = .ok (.goto (-43), 3) := by decide +kernel
theorem dX2_isLike_83 : decode cX2_isLike 83 = .ok (.iconst 0, 1) := by decide +kernel
theorem dX2_isLike_84 : decode cX2_isLike 84 = .ok (.istore_n 2, 1) := by decide +kernel
theorem dX2_isLike_85 : decode cX2_isLike 85 = .ok (.iload_n 2, 1) := by decide +kernel
theorem dX2_isLike_86 : decode cX2_isLike 86 = .ok (.aload_n 0, 1) := by decide +kernel
theorem dX2_isLike_87 : decode cX2_isLike 87 = .ok (.getfield 32, 3) := by decide +kernel
theorem dX2_isLike_90 : decode cX2_isLike 90 = .ok (.if_icmp .ge 26, 3) := by decide +kernel
theorem dX2_isLike_93 : decode cX2_isLike 93 = .ok (.aload_n 0, 1) := by decide +kernel
theorem dX2_isLike_94 : decode cX2_isLike 94 = .ok (.getfield 9, 3) := by decide +kernel
theorem dX2_isLike_97 : decode cX2_isLike 97 = .ok (.iload_n 2, 1) := by decide +kernel
theorem dX2_isLike_98 : decode cX2_isLike 98 = .ok (.baload, 1) := by decide +kernel
theorem dX2_isLike_99 : decode cX2_isLike 99 = .ok (.aload_n 1, 1) := by decide +kernel
theorem dX2_isLike_100 : decode cX2_isLike 100 = .ok (.getfield 9, 3) := by decide +kernel
theorem dX2_isLike_103 : decode cX2_isLike 103 = .ok (.iload_n 2, 1) := by decide +kernel
theorem dX2_isLike_104 : decode cX2_isLike 104 = .ok (.baload, 1) := by decide +kernel
theorem dX2_isLike_105 : decode cX2_isLike 105 = .ok (.if_icmp .eq 5, 3) := by decide +kernel
theorem dX2_isLike_108 : decode cX2_isLike 108 = .ok (.iconst 0, 1) := by decide +kernel
theorem dX2_isLike_109 : decode cX2_isLike 109 = .ok (.ireturn, 1) := by decide +kernel
theorem dX2_isLike_110 : decode cX2_isLike 110 = .ok (.iinc 2 1, 3) := by decide +kernel
theorem dX2_isLike_113 : decode cX2_isLike 113 = .ok (.goto (-28), 3) := by decide +kernel
theorem dX2_isLike_116 : decode cX2_isLike 116 = .ok (.iconst 1, 1) := by decide +kernel
theorem dX2_isLike_117 : decode cX2_isLike 117 = .ok (.ireturn, 1) := by decide +kernel
theorem dX2_first_0 : decode cX2_first 0 = .ok (.iload_n 0, 1) := by decide +kernel
theorem dX2_first_1 : decode cX2_first 1 = .ok (.bipush 64, 2) := by decide +kernel
theorem dX2_first_3 : decode cX2_first 3 = .ok (.if_icmp .ge 14, 3) := by decide +kernel
theorem dX2_first_6 : decode cX2_first 6 = .ok (.bipush 7, 2) := by decide +kernel
theorem dX2_first_8 : decode cX2_first 8 = .ok (.iload_n 0, 1) := by decide +kernel
theorem dX2_first_9 : decode cX2_first 9 = .ok (.imul, 1) := by decide +kernel
theorem dX2_first_10 : decode cX2_first 10 = .ok (.sipush 255, 3) := by decide +kernel
theorem dX2_first_13 : decode cX2_first 13 = .ok (.iand, 1) := by decide +kernel
theorem dX2_first_14 : decode cX2_first 14 = .ok (.goto 4, 3) := by decide +kernel
theorem dX2_first_17 : decode cX2_first 17 = .ok (.iconst 0, 1) := by decide +kernel
theorem dX2_first_18 : decode cX2_first 18 = .ok (.ireturn, 1) := by decide +kernel
set_option maxRecDepth 20000 in
theorem ggX2_difference_X2_first : GoodIn wsX2_difference wsX2_first := goodIn_r _ [5] (by decide +kernel) (by decide +kernel)
set_option maxRecDepth 20000 in
theorem gX2_difference_X2_first : GoodIn wsX2_difference (va_wsS RX2 28 yX2_first wsX2_first) := goodIn_app (goodIn_of _ (by decide +kernel)) ggX2_difference_X2_first
theorem dX2_difference_0 : decode cX2_difference 0 = .ok (.aload_n 0, 1) := by decide +kernel
theorem dX2_difference_1 : decode cX2_difference 1 = .ok (.getfield 9, 3) := by decide +kernel
theorem dX2_difference_4 : decode cX2_difference 4 = .ok (.iload_n 1, 1) := by decide +kernel
theorem dX2_difference_5 : decode cX2_difference 5 = .ok (.baload, 1) := by decide +kernel
theorem dX2_difference_6 : decode cX2_difference 6 = .ok (.sipush 255, 3) := by decide +kernel
theorem dX2_difference_9 : decode cX2_difference 9 = .ok (.iand, 1) := by decide +kernel
theorem dX2_difference_10 : decode cX2_difference 10 = .ok (.iload_n 1, 1) := by decide +kernel
theorem dX2_difference_11 : decode cX2_difference 11 = .ok (.invokestatic 28, 3) := by decide +kernel
theorem dX2_difference_14 : decode cX2_difference 14 = .ok (.ixor, 1) := by decide +kernel
theorem dX2_difference_15 : decode cX2_difference 15 = .ok (.ireturn, 1) := by decide +kernel
theorem dX2_has_0 : decode cX2_has 0 = .ok (.lload_n 1, 1) := by decide +kernel
theorem dX2_has_1 : decode cX2_has 1 = .ok (.lconst 0, 1) := by decide +kernel
theorem dX2_has_2 : decode cX2_has 2 = .ok (.lcmp, 1) := by decide +kernel
theorem dX2_has_3 : decode cX2_has 3 = .ok (.ifCond .lt 19, 3) := by decide +kernel
theorem dX2_has_6 : decode cX2_has 6 = .ok (.lload_n 1, 1) := by decide +kernel
theorem dX2_has_7 : decode cX2_has 7 = .ok (.aload_n 0, 1) := by decide +kernel
theorem dX2_has_8 : decode cX2_has 8 = .ok (.getfield 32, 3) := by decide +kernel
theorem dX2_has_11 : decode cX2_has 11 = .ok (.iload_n 3, 1) := by decide +kernel
theorem dX2_has_12 : decode cX2_has 12 = .ok (.isub, 1) := by decide +kernel
theorem dX2_has_13 : decode cX2_has 13 = .ok (.i2l, 1) := by decide +kernel
theorem dX2_has_14 : decode cX2_has 14 = .ok (.lcmp, 1) := by decide +kernel
theorem dX2_has_15 : decode cX2_has 15 = .ok (.ifCond .gt 7, 3) := by decide +kernel
theorem dX2_has_18 : decode cX2_has 18 = .ok (.iconst 1, 1) := by decide +kernel
theorem dX2_has_19 : decode cX2_has 19 = .ok (.goto 4, 3) := by decide +kernel
theorem dX2_has_22 : decode cX2_has 22 = .ok (.iconst 0, 1) := by decide +kernel
theorem dX2_has_23 : decode cX2_has 23 = .ok (.ireturn, 1) := by decide +kernel
theorem dX2_number_0 : decode cX2_number 0 = .ok (.lconst 0, 1) := by decide +kernel
theorem dX2_number_1 : decode cX2_number 1 = .ok (.lstore_n 3, 1) := by decide +kernel
theorem dX2_number_2 : decode cX2_number 2 = .ok (.iconst 0, 1) := by decide +kernel
theorem dX2_number_3 : decode cX2_number 3 = .ok (.istore 5, 2) := by decide +kernel
theorem dX2_number_5 : decode cX2_number 5 = .ok (.iload 5, 2) := by decide +kernel
theorem dX2_number_7 : decode cX2_number 7 = .ok (.iload_n 2, 1) := by decide +kernel
theorem dX2_number_8 : decode cX2_number 8 = .ok (.if_icmp .ge 29, 3) := by decide +kernel
theorem dX2_number_11 : decode cX2_number 11 = .ok (.lload_n 3, 1) := by decide +kernel
theorem dX2_number_12 : decode cX2_number 12 = .ok (.bipush 8, 2) := by decide +kernel
theorem dX2_number_14 : decode cX2_number 14 = .ok (.lshl, 1) := by decide +kernel
theorem dX2_number_15 : decode cX2_number 15 = .ok (.aload_n 0, 1) := by decide +kernel
theorem dX2_number_16 : decode cX2_number 16 = .ok (.getfield 9, 3) := by decide +kernel
theorem dX2_number_19 : decode cX2_number 19 = .ok (.iload_n 1, 1) := by decide +kernel
theorem dX2_number_20 : decode cX2_number 20 = .ok (.iload 5, 2) := by decide +kernel
theorem dX2_number_22 : decode cX2_number 22 = .ok (.iadd, 1) := by decide +kernel
theorem dX2_number_23 : decode cX2_number 23 = .ok (.baload, 1) := by decide +kernel
theorem dX2_number_24 : decode cX2_number 24 = .ok (.sipush 255, 3) := by decide +kernel
theorem dX2_number_27 : decode cX2_number 27 = .ok (.iand, 1) := by decide +kernel
theorem dX2_number_28 : decode cX2_number 28 = .ok (.i2l, 1) := by decide +kernel
theorem dX2_number_29 : decode cX2_number 29 = .ok (.lor, 1) := by decide +kernel
theorem dX2_number_30 : decode cX2_number 30 = .ok (.lstore_n 3, 1) := by decide +kernel
theorem dX2_number_31 : decode cX2_number 31 = .ok (.iinc 5 1, 3) := by decide +kernel
theorem dX2_number_34 : decode cX2_number 34 = .ok (.goto (-29), 3) := by decide +kernel
theorem dX2_number_37 : decode cX2_number 37 = .ok (.lload_n 3, 1) := by decide +kernel
theorem dX2_number_38 : decode cX2_number 38 = .ok (.lreturn, 1) := by decide +kernel
theorem dX2_store_0 : decode cX2_store 0 = .ok (.iload_n 3, 1) := by decide +kernel
theorem dX2_store_1 : decode cX2_store 1 = .ok (.istore 4, 2) := by decide +kernel
theorem dX2_store_3 : decode cX2_store 3 = .ok (.iload_n 2, 1) := by decide +kernel
theorem dX2_store_4 : decode cX2_store 4 = .ok (.iconst 1, 1) := by decide +kernel
theorem dX2_store_5 : decode cX2_store 5 = .ok (.isub, 1) := by decide +kernel
theorem dX2_store_6 : decode cX2_store 6 = .ok (.istore 5, 2) := by decide +kernel
theorem dX2_store_8 : decode cX2_store 8 = .ok (.iload 5, 2) := by decide +kernel
theorem dX2_store_10 : decode cX2_store 10 = .ok (.ifCond .lt 28, 3) := by decide +kernel
theorem dX2_store_13 : decode cX2_store 13 = .ok (.aload_n 0, 1) := by decide +kernel
theorem dX2_store_14 : decode cX2_store 14 = .ok (.getfield 9, 3) := by decide +kernel
theorem dX2_store_17 : decode cX2_store 17 = .ok (.iload_n 1, 1) := by decide +kernel
theorem dX2_store_18 : decode cX2_store 18 = .ok (.iload 5, 2) := by decide +kernel
theorem dX2_store_20 : decode cX2_store 20 = .ok (.iadd, 1) := by decide +kernel
theorem dX2_store_21 : decode cX2_store 21 = .ok (.iload 4, 2) := by decide +kernel
theorem dX2_store_23 : decode cX2_store 23 = .ok (.i2b, 1) := by decide +kernel
theorem dX2_store_24 : decode cX2_store 24 = .ok (.bastore, 1) := by decide +kernel
theorem dX2_store_25 : decode cX2_store 25 = .ok (.iload 4, 2) := by decide +kernel
theorem dX2_store_27 : decode cX2_store 27 = .ok (.bipush 8, 2) := by decide +kernel
theorem dX2_store_29 : decode cX2_store 29 = .ok (.iushr, 1) := by decide +kernel
theorem dX2_store_30 : decode cX2_store 30 = .ok (.istore 4, 2) := by decide +kernel
theorem dX2_store_32 : decode cX2_store 32 = .ok (.iinc 5 (-1), 3) := by decide +kernel
theorem dX2_store_35 : decode cX2_store 35 = .ok (.goto (-27), 3) := by decide +kernel
theorem dX2_store_38 : decode cX2_store 38 = .ok (.return_, 1) := by decide +kernel
theorem dX2_allZero_0 : decode cX2_allZero 0 = .ok (.iconst 0, 1) := by decide +kernel
theorem dX2_allZero_1 : decode cX2_allZero 1 = .ok (.istore_n 3, 1) := by decide +kernel
theorem dX2_allZero_2 : decode cX2_allZero 2 = .ok (.iload_n 3, 1) := by decide +kernel
theorem dX2_allZero_3 : decode cX2_allZero 3 = .ok (.iload_n 2, 1) := by decide +kernel
theorem dX2_allZero_4 : decode cX2_allZero 4 = .ok (.if_icmp .ge 22, 3) := by decide +kernel
theorem dX2_allZero_7 : decode cX2_allZero 7 = .ok (.aload_n 0, 1) := by decide +kernel
theorem dX2_allZero_8 : decode cX2_allZero 8 = .ok (.getfield 9, 3) := by decide +kernel
theorem dX2_allZero_11 : decode cX2_allZero 11 = .ok (.iload_n 1, 1) := by decide +kernel
theorem dX2_allZero_12 : decode cX2_allZero 12 = .ok (.iload_n 3, 1) := by decide +kernel
theorem dX2_allZero_13 : decode cX2_allZero 13 = .ok (.iadd, 1) := by decide +kernel
theorem dX2_allZero_14 : decode cX2_allZero 14 = .ok (.baload, 1) := by decide +kernel
theorem dX2_allZero_15 : decode cX2_allZero 15 = .ok (.ifCond .eq 5, 3) := by decide +kernel
theorem dX2_allZero_18 : decode cX2_allZero 18 = .ok (.iconst 0, 1) := by decide +kernel
theorem dX2_allZero_19 : decode cX2_allZero 19 = .ok (.ireturn, 1) := by decide +kernel
theorem dX2_allZero_20 : decode cX2_allZero 20 = .ok (.iinc 3 1, 3) := by decide +kernel
theorem dX2_allZero_23 : decode cX2_allZero 23 = .ok (.goto (-21), 3) := by decide +kernel
theorem dX2_allZero_26 : decode cX2_allZero 26 = .ok (.iconst 1, 1) := by decide +kernel
theorem dX2_allZero_27 : decode cX2_allZero 27 = .ok (.ireturn, 1) := by decide +kernel
set_option maxRecDepth 20000 in
theorem ggX2_changeSize_J7_fill_eb02e : GoodIn wsX2_changeSize wsJ7_fill_eb02e := goodIn_r _ [6, 7, 8, 5, 9] (by decide +kernel) (by decide +kernel)
set_option maxRecDepth 20000 in
theorem gX2_changeSize_J7_fill_eb02e : GoodIn wsX2_changeSize (va_wsS RX2 48 yJ7_fill_eb02e wsJ7_fill_eb02e) := goodIn_app (goodIn_of _ (by decide +kernel)) ggX2_changeSize_J7_fill_eb02e
theorem dX2_changeSize_0 : decode cX2_changeSize 0 = .ok (.iload_n 1, 1) := by decide +kernel
theorem dX2_changeSize_1 : decode cX2_changeSize 1 = .ok (.aload_n 0, 1) := by decide +kernel
theorem dX2_changeSize_2 : decode cX2_changeSize 2 = .ok (.getfield 32, 3) := by decide +kernel
theorem dX2_changeSize_5 : decode cX2_changeSize 5 = .ok (.if_icmp .ge 16, 3) := by decide +kernel
theorem dX2_changeSize_8 : decode cX2_changeSize 8 = .ok (.aload_n 0, 1) := by decide +kernel
theorem dX2_changeSize_9 : decode cX2_changeSize 9 = .ok (.getfield 9, 3) := by decide +kernel
theorem dX2_changeSize_12 : decode cX2_changeSize 12 = .ok (.iload_n 1, 1) := by decide +kernel
theorem dX2_changeSize_13 : decode cX2_changeSize 13 = .ok (.aload_n 0, 1) := by decide +kernel
theorem dX2_changeSize_14 : decode cX2_changeSize 14 = .ok (.getfield 32, 3) := by decide +kernel
theorem dX2_changeSize_17 : decode cX2_changeSize 17 = .ok (.iconst 0, 1) := by decide +kernel
theorem dX2_changeSize_18 : decode cX2_changeSize 18 = .ok (.invokestatic 48, 3) := by decide +kernel
theorem dX2_changeSize_21 : decode cX2_changeSize 21 = .ok (.aload_n 0, 1) := by decide +kernel
theorem dX2_changeSize_22 : decode cX2_changeSize 22 = .ok (.iload_n 1, 1) := by decide +kernel
theorem dX2_changeSize_23 : decode cX2_changeSize 23 = .ok (.putfield 32, 3) := by decide +kernel
theorem dX2_changeSize_26 : decode cX2_changeSize 26 = .ok (.return_, 1) := by decide +kernel
theorem dX2_gapBegin_0 : decode cX2_gapBegin 0 = .ok (.iload_n 1, 1) := by decide +kernel
theorem dX2_gapBegin_1 : decode cX2_gapBegin 1 = .ok (.ifCond .le 21, 3) := by decide +kernel
theorem dX2_gapBegin_4 : decode cX2_gapBegin 4 = .ok (.aload_n 0, 1) := by decide +kernel
theorem dX2_gapBegin_5 : decode cX2_gapBegin 5 = .ok (.getfield 15, 3) := by decide +kernel
theorem dX2_gapBegin_8 : decode cX2_gapBegin 8 = .ok (.iload_n 1, 1) := by decide +kernel
theorem dX2_gapBegin_9 : decode cX2_gapBegin 9 = .ok (.iconst 1, 1) := by decide +kernel
theorem dX2_gapBegin_10 : decode cX2_gapBegin 10 = .ok (.isub, 1) := by decide +kernel
theorem dX2_gapBegin_11 : decode cX2_gapBegin 11 = .ok (.iaload, 1) := by decide +kernel
theorem dX2_gapBegin_12 : decode cX2_gapBegin 12 = .ok (.aload_n 0, 1) := by decide +kernel
theorem dX2_gapBegin_13 : decode cX2_gapBegin 13 = .ok (.getfield 19, 3) := by decide +kernel
theorem dX2_gapBegin_16 : decode cX2_gapBegin 16 = .ok (.iload_n 1, 1) := by decide +kernel
theorem dX2_gapBegin_17 : decode cX2_gapBegin 17 = .ok (.iconst 1, 1) := by decide +kernel
theorem dX2_gapBegin_18 : decode cX2_gapBegin 18 = .ok (.isub, 1) := by decide +kernel
theorem dX2_gapBegin_19 : decode cX2_gapBegin 19 = .ok (.iaload, 1) := by decide +kernel
theorem dX2_gapBegin_20 : decode cX2_gapBegin 20 = .ok (.iadd, 1) := by decide +kernel
theorem dX2_gapBegin_21 : decode cX2_gapBegin 21 = .ok (.ireturn, 1) := by decide +kernel
theorem dX2_gapBegin_22 : decode cX2_gapBegin 22 = .ok (.aload_n 0, 1) := by decide +kernel
theorem dX2_gapBegin_23 : decode cX2_gapBegin 23 = .ok (.getfield 39, 3) := by decide +kernel
theorem dX2_gapBegin_26 : decode cX2_gapBegin 26 = .ok (.ifCond .ne 10, 3) := by decide +kernel
theorem dX2_gapBegin_29 : decode cX2_gapBegin 29 = .ok (.aload_n 0, 1) := by decide +kernel
theorem dX2_gapBegin_30 : decode cX2_gapBegin 30 = .ok (.getfield 32, 3) := by decide +kernel
theorem dX2_gapBegin_33 : decode cX2_gapBegin 33 = .ok (.goto 7, 3) := by decide +kernel
theorem dX2_gapBegin_36 : decode cX2_gapBegin 36 = .ok (.aload_n 0, 1) := by decide +kernel
theorem dX2_gapBegin_37 : decode cX2_gapBegin 37 = .ok (.getfield 36, 3) := by decide +kernel
theorem dX2_gapBegin_40 : decode cX2_gapBegin 40 = .ok (.ireturn, 1) := by decide +kernel
set_option maxRecDepth 20000 in
theorem ggX2_gapLength_X2_gapBegin : GoodIn wsX2_gapLength wsX2_gapBegin := goodIn_r _ [8, 2, 9, 1, 3, 10, 11, 12, 13, 14, 15, 16] (by decide +kernel) (by decide +kernel)
set_option maxRecDepth 20000 in
theorem gX2_gapLength_X2_gapBegin : GoodIn wsX2_gapLength (wsV RX2 51 RX2 yX2_gapBegin wsX2_gapBegin) := goodIn_app (goodIn_of _ (by decide +kernel)) ggX2_gapLength_X2_gapBegin
theorem dX2_gapLength_0 : decode cX2_gapLength 0 = .ok (.iload_n 1, 1) := by decide +kernel
theorem dX2_gapLength_1 : decode cX2_gapLength 1 = .ok (.aload_n 0, 1) := by decide +kernel
theorem dX2_gapLength_2 : decode cX2_gapLength 2 = .ok (.getfield 39, 3) := by decide +kernel
theorem dX2_gapLength_5 : decode cX2_gapLength 5 = .ok (.if_icmp .ge 12, 3) := by decide +kernel
theorem dX2_gapLength_8 : decode cX2_gapLength 8 = .ok (.aload_n 0, 1) := by decide +kernel
theorem dX2_gapLength_9 : decode cX2_gapLength 9 = .ok (.getfield 15, 3) := by decide +kernel
theorem dX2_gapLength_12 : decode cX2_gapLength 12 = .ok (.iload_n 1, 1) := by decide +kernel
theorem dX2_gapLength_13 : decode cX2_gapLength 13 = .ok (.iaload, 1) := by decide +kernel
theorem dX2_gapLength_14 : decode cX2_gapLength 14 = .ok (.goto 7, 3) := by decide +kernel
theorem dX2_gapLength_17 : decode cX2_gapLength 17 = .ok (.aload_n 0, 1) := by decide +kernel
theorem dX2_gapLength_18 : decode cX2_gapLength 18 = .ok (.getfield 32, 3) := by decide +kernel
theorem dX2_gapLength_21 : decode cX2_gapLength 21 = .ok (.istore_n 2, 1) := by decide +kernel
theorem dX2_gapLength_22 : decode cX2_gapLength 22 = .ok (.iload_n 2, 1) := by decide +kernel
theorem dX2_gapLength_23 : decode cX2_gapLength 23 = .ok (.aload_n 0, 1) := by decide +kernel
theorem dX2_gapLength_24 : decode cX2_gapLength 24 = .ok (.iload_n 1, 1) := by decide +kernel
theorem dX2_gapLength_25 : decode cX2_gapLength 25 = .ok (.invokevirtual 51, 3) := by decide +kernel
theorem dX2_gapLength_28 : decode cX2_gapLength 28 = .ok (.isub, 1) := by decide +kernel
theorem dX2_gapLength_29 : decode cX2_gapLength 29 = .ok (.ireturn, 1) := by decide +kernel
set_option maxRecDepth 20000 in
theorem ggX2_gapFor_X2_gapLength : GoodIn wsX2_gapFor wsX2_gapLength := goodIn_r _ [6, 1, 7, 8, 9, 10, 11, 5, 12, 13, 14, 15, 16, 17, 18, 19, 20] (by decide +kernel) (by decide +kernel)
set_option maxRecDepth 20000 in
theorem gX2_gapFor_X2_gapLength : GoodIn wsX2_gapFor (wsV RX2 54 RX2 yX2_gapLength wsX2_gapLength) := goodIn_app (goodIn_of _ (by decide +kernel)) ggX2_gapFor_X2_gapLength
theorem dX2_gapFor_0 : decode cX2_gapFor 0 = .ok (.iconst 0, 1) := by decide +kernel
theorem dX2_gapFor_1 : decode cX2_gapFor 1 = .ok (.istore_n 2, 1) := by decide +kernel
theorem dX2_gapFor_2 : decode cX2_gapFor 2 = .ok (.iload_n 2, 1) := by decide +kernel
theorem dX2_gapFor_3 : decode cX2_gapFor 3 = .ok (.aload_n 0, 1) := by decide +kernel
theorem dX2_gapFor_4 : decode cX2_gapFor 4 = .ok (.getfield 39, 3) := by decide +kernel
theorem dX2_gapFor_7 : decode cX2_gapFor 7 = .ok (.if_icmp .ge 20, 3) := by decide +kernel
theorem dX2_gapFor_10 : decode cX2_gapFor 10 = .ok (.aload_n 0, 1) := by decide +kernel
theorem dX2_gapFor_11 : decode cX2_gapFor 11 = .ok (.iload_n 2, 1) := by decide +kernel
theorem dX2_gapFor_12 : decode cX2_gapFor 12 = .ok (.invokevirtual 54, 3) := by decide +kernel
theorem dX2_gapFor_15 : decode cX2_gapFor 15 = .ok (.iload_n 1, 1) := by decide +kernel
theorem dX2_gapFor_16 : decode cX2_gapFor 16 = .ok (.if_icmp .lt 5, 3) := by decide +kernel
theorem dX2_gapFor_19 : decode cX2_gapFor 19 = .ok (.iload_n 2, 1) := by decide +kernel
theorem dX2_gapFor_20 : decode cX2_gapFor 20 = .ok (.ireturn, 1) := by decide +kernel
theorem dX2_gapFor_21 : decode cX2_gapFor 21 = .ok (.iinc 2 1, 3) := by decide +kernel
theorem dX2_gapFor_24 : decode cX2_gapFor 24 = .ok (.goto (-22), 3) := by decide +kernel
theorem dX2_gapFor_27 : decode cX2_gapFor 27 = .ok (.aload_n 0, 1) := by decide +kernel
theorem dX2_gapFor_28 : decode cX2_gapFor 28 = .ok (.getfield 39, 3) := by decide +kernel
theorem dX2_gapFor_31 : decode cX2_gapFor 31 = .ok (.ireturn, 1) := by decide +kernel
set_option maxRecDepth 20000 in
theorem ggX2_gapCount_X2_gapLength : GoodIn wsX2_gapCount wsX2_gapLength := goodIn_r _ [6, 1, 7, 8, 9, 10, 11, 5, 12, 13, 14, 15, 16, 17, 18, 19, 20] (by decide +kernel) (by decide +kernel)
set_option maxRecDepth 20000 in
theorem gX2_gapCount_X2_gapLength : GoodIn wsX2_gapCount (wsV RX2 54 RX2 yX2_gapLength wsX2_gapLength) := goodIn_app (goodIn_of _ (by decide +kernel)) ggX2_gapCount_X2_gapLength
theorem dX2_gapCount_0 : decode cX2_gapCount 0 = .ok (.iconst 0, 1) := by decide +kernel
theorem dX2_gapCount_1 : decode cX2_gapCount 1 = .ok (.istore_n 1, 1) := by decide +kernel
theorem dX2_gapCount_2 : decode cX2_gapCount 2 = .ok (.iconst 0, 1) := by decide +kernel
theorem dX2_gapCount_3 : decode cX2_gapCount 3 = .ok (.istore_n 2, 1) := by decide +kernel
theorem dX2_gapCount_4 : decode cX2_gapCount 4 = .ok (.iload_n 2, 1) := by decide +kernel
theorem dX2_gapCount_5 : decode cX2_gapCount 5 = .ok (.aload_n 0, 1) := by decide +kernel
theorem dX2_gapCount_6 : decode cX2_gapCount 6 = .ok (.getfield 39, 3) := by decide +kernel
theorem dX2_gapCount_9 : decode cX2_gapCount 9 = .ok (.if_icmp .gt 20, 3) := by decide +kernel
theorem dX2_gapCount_12 : decode cX2_gapCount 12 = .ok (.aload_n 0, 1) := by decide +kernel
theorem dX2_gapCount_13 : decode cX2_gapCount 13 = .ok (.iload_n 2, 1) := by decide +kernel
theorem dX2_gapCount_14 : decode cX2_gapCount 14 = .ok (.invokevirtual 54, 3) := by decide +kernel
theorem dX2_gapCount_17 : decode cX2_gapCount 17 = .ok (.ifCond .le 6, 3) := by decide +kernel
theorem dX2_gapCount_20 : decode cX2_gapCount 20 = .ok (.iinc 1 1, 3) := by decide +kernel
theorem dX2_gapCount_23 : decode cX2_gapCount 23 = .ok (.iinc 2 1, 3) := by decide +kernel
theorem dX2_gapCount_26 : decode cX2_gapCount 26 = .ok (.goto (-22), 3) := by decide +kernel
theorem dX2_gapCount_29 : decode cX2_gapCount 29 = .ok (.iload_n 1, 1) := by decide +kernel
theorem dX2_gapCount_30 : decode cX2_gapCount 30 = .ok (.ireturn, 1) := by decide +kernel
theorem dX2_usedBytes_0 : decode cX2_usedBytes 0 = .ok (.iconst 0, 1) := by decide +kernel
theorem dX2_usedBytes_1 : decode cX2_usedBytes 1 = .ok (.istore_n 1, 1) := by decide +kernel
theorem dX2_usedBytes_2 : decode cX2_usedBytes 2 = .ok (.iconst 0, 1) := by decide +kernel
theorem dX2_usedBytes_3 : decode cX2_usedBytes 3 = .ok (.istore_n 2, 1) := by decide +kernel
theorem dX2_usedBytes_4 : decode cX2_usedBytes 4 = .ok (.iload_n 2, 1) := by decide +kernel
theorem dX2_usedBytes_5 : decode cX2_usedBytes 5 = .ok (.aload_n 0, 1) := by decide +kernel
theorem dX2_usedBytes_6 : decode cX2_usedBytes 6 = .ok (.getfield 39, 3) := by decide +kernel
theorem dX2_usedBytes_9 : decode cX2_usedBytes 9 = .ok (.if_icmp .ge 18, 3) := by decide +kernel
theorem dX2_usedBytes_12 : decode cX2_usedBytes 12 = .ok (.iload_n 1, 1) := by decide +kernel
theorem dX2_usedBytes_13 : decode cX2_usedBytes 13 = .ok (.aload_n 0, 1) := by decide +kernel
theorem dX2_usedBytes_14 : decode cX2_usedBytes 14 = .ok (.getfield 19, 3) := by decide +kernel
theorem dX2_usedBytes_17 : decode cX2_usedBytes 17 = .ok (.iload_n 2, 1) := by decide +kernel
theorem dX2_usedBytes_18 : decode cX2_usedBytes 18 = .ok (.iaload, 1) := by decide +kernel
theorem dX2_usedBytes_19 : decode cX2_usedBytes 19 = .ok (.iadd, 1) := by decide +kernel
theorem dX2_usedBytes_20 : decode cX2_usedBytes 20 = .ok (.istore_n 1, 1) := by decide +kernel
theorem dX2_usedBytes_21 : decode cX2_usedBytes 21 = .ok (.iinc 2 1, 3) := by decide +kernel
theorem dX2_usedBytes_24 : decode cX2_usedBytes 24 = .ok (.goto (-20), 3) := by decide +kernel
theorem dX2_usedBytes_27 : decode cX2_usedBytes 27 = .ok (.iload_n 1, 1) := by decide +kernel
theorem dX2_usedBytes_28 : decode cX2_usedBytes 28 = .ok (.ireturn, 1) := by decide +kernel
theorem dX2_blockAt_0 : decode cX2_blockAt 0 = .ok (.iconst 0, 1) := by decide +kernel
theorem dX2_blockAt_1 : decode cX2_blockAt 1 = .ok (.istore_n 2, 1) := by decide +kernel
theorem dX2_blockAt_2 : decode cX2_blockAt 2 = .ok (.iload_n 2, 1) := by decide +kernel
theorem dX2_blockAt_3 : decode cX2_blockAt 3 = .ok (.aload_n 0, 1) := by decide +kernel
theorem dX2_blockAt_4 : decode cX2_blockAt 4 = .ok (.getfield 39, 3) := by decide +kernel
theorem dX2_blockAt_7 : decode cX2_blockAt 7 = .ok (.if_icmp .ge 21, 3) := by decide +kernel
theorem dX2_blockAt_10 : decode cX2_blockAt 10 = .ok (.aload_n 0, 1) := by decide +kernel
theorem dX2_blockAt_11 : decode cX2_blockAt 11 = .ok (.getfield 15, 3) := by decide +kernel
theorem dX2_blockAt_14 : decode cX2_blockAt 14 = .ok (.iload_n 2, 1) := by decide +kernel
theorem dX2_blockAt_15 : decode cX2_blockAt 15 = .ok (.iaload, 1) := by decide +kernel
theorem dX2_blockAt_16 : decode cX2_blockAt 16 = .ok (.iload_n 1, 1) := by decide +kernel
theorem dX2_blockAt_17 : decode cX2_blockAt 17 = .ok (.if_icmp .ne 5, 3) := by decide +kernel
theorem dX2_blockAt_20 : decode cX2_blockAt 20 = .ok (.iload_n 2, 1) := by decide +kernel
theorem dX2_blockAt_21 : decode cX2_blockAt 21 = .ok (.ireturn, 1) := by decide +kernel
theorem dX2_blockAt_22 : decode cX2_blockAt 22 = .ok (.iinc 2 1, 3) := by decide +kernel
theorem dX2_blockAt_25 : decode cX2_blockAt 25 = .ok (.goto (-23), 3) := by decide +kernel
theorem dX2_blockAt_28 : decode cX2_blockAt 28 = .ok (.iconst (-1), 1) := by decide +kernel
theorem dX2_blockAt_29 : decode cX2_blockAt 29 = .ok (.ireturn, 1) := by decide +kernel
set_option maxRecDepth 20000 in
theorem ggX2_addBlock_X2_changeSize : GoodIn wsX2_addBlock wsX2_changeSize := goodIn_r _ [14, 2, 15, 16, 17, 18, 19, 20, 21, 22, 23, 24, 25, 26, 27, 28] (by decide +kernel) (by decide +kernel)
set_option maxRecDepth 20000 in
theorem gX2_addBlock_X2_changeSize : GoodIn wsX2_addBlock (wsV RX2 57 RX2 yX2_changeSize wsX2_changeSize) := goodIn_app (goodIn_of _ (by decide +kernel)) ggX2_addBlock_X2_changeSize
theorem dX2_addBlock_0 : decode cX2_addBlock 0 = .ok (.aload_n 0, 1) := by decide +kernel
theorem dX2_addBlock_1 : decode cX2_addBlock 1 = .ok (.getfield 39, 3) := by decide +kernel
theorem dX2_addBlock_4 : decode cX2_addBlock 4 = .ok (.ifCond .ne 11, 3) := by decide +kernel
theorem dX2_addBlock_7 : decode cX2_addBlock 7 = .ok (.aload_n 0, 1) := by decide +kernel
theorem dX2_addBlock_8 : decode cX2_addBlock 8 = .ok (.aload_n 0, 1) := by decide +kernel
theorem dX2_addBlock_9 : decode cX2_addBlock 9 = .ok (.getfield 32, 3) := by decide +kernel
theorem dX2_addBlock_12 : decode cX2_addBlock 12 = .ok (.putfield 36, 3) := by decide +kernel
theorem dX2_addBlock_15 : decode cX2_addBlock 15 = .ok (.aload_n 0, 1) := by decide +kernel
theorem dX2_addBlock_16 : decode cX2_addBlock 16 = .ok (.getfield 15, 3) := by decide +kernel
theorem dX2_addBlock_19 : decode cX2_addBlock 19 = .ok (.iload_n 1, 1) := by decide +kernel
theorem dX2_addBlock_20 : decode cX2_addBlock 20 = .ok (.aload_n 0, 1) := by decide +kernel
theorem dX2_addBlock_21 : decode cX2_addBlock 21 = .ok (.getfield 15, 3) := by decide +kernel
theorem dX2_addBlock_24 : decode cX2_addBlock 24 = .ok (.iload_n 1, 1) := by decide +kernel
theorem dX2_addBlock_25 : decode cX2_addBlock 25 = .ok (.iconst 1, 1) := by decide +kernel
theorem dX2_addBlock_26 : decode cX2_addBlock 26 = .ok (.iadd, 1) := by decide +kernel
theorem dX2_addBlock_27 : decode cX2_addBlock 27 = .ok (.aload_n 0, 1) := by decide +kernel
theorem dX2_addBlock_28 : decode cX2_addBlock 28 = .ok (.getfield 39, 3) := by decide +kernel
theorem dX2_addBlock_31 : decode cX2_addBlock 31 = .ok (.iload_n 1, 1) := by decide +kernel
theorem dX2_addBlock_32 : decode cX2_addBlock 32 = .ok (.isub, 1) := by decide +kernel
theorem dX2_addBlock_33 : decode cX2_addBlock 33 = .ok (.invokestatic 42, 3) := by decide +kernel
theorem dX2_addBlock_36 : decode cX2_addBlock 36 = .ok (.aload_n 0, 1) := by decide +kernel
theorem dX2_addBlock_37 : decode cX2_addBlock 37 = .ok (.getfield 19, 3) := by decide +kernel
theorem dX2_addBlock_40 : decode cX2_addBlock 40 = .ok (.iload_n 1, 1) := by decide +kernel
theorem dX2_addBlock_41 : decode cX2_addBlock 41 = .ok (.aload_n 0, 1) := by decide +kernel
theorem dX2_addBlock_42 : decode cX2_addBlock 42 = .ok (.getfield 19, 3) := by decide +kernel
theorem dX2_addBlock_45 : decode cX2_addBlock 45 = .ok (.iload_n 1, 1) := by decide +kernel
theorem dX2_addBlock_46 : decode cX2_addBlock 46 = .ok (.iconst 1, 1) := by decide +kernel
theorem dX2_addBlock_47 : decode cX2_addBlock 47 = .ok (.iadd, 1) := by decide +kernel
theorem dX2_addBlock_48 : decode cX2_addBlock 48 = .ok (.aload_n 0, 1) := by decide +kernel
theorem dX2_addBlock_49 : decode cX2_addBlock 49 = .ok (.getfield 39, 3) := by decide +kernel
theorem dX2_addBlock_52 : decode cX2_addBlock 52 = .ok (.iload_n 1, 1) := by decide +kernel
theorem dX2_addBlock_53 : decode cX2_addBlock 53 = .ok (.isub, 1) := by decide +kernel
theorem dX2_addBlock_54 : decode cX2_addBlock 54 = .ok (.invokestatic 42, 3) := by decide +kernel
theorem dX2_addBlock_57 : decode cX2_addBlock 57 = .ok (.aload_n 0, 1) := by decide +kernel
theorem dX2_addBlock_58 : decode cX2_addBlock 58 = .ok (.getfield 15, 3) := by decide +kernel
theorem dX2_addBlock_61 : decode cX2_addBlock 61 = .ok (.iload_n 1, 1) := by decide +kernel
theorem dX2_addBlock_62 : decode cX2_addBlock 62 = .ok (.iload_n 2, 1) := by decide +kernel
theorem dX2_addBlock_63 : decode cX2_addBlock 63 = .ok (.iastore, 1) := by decide +kernel
theorem dX2_addBlock_64 : decode cX2_addBlock 64 = .ok (.aload_n 0, 1) := by decide +kernel
theorem dX2_addBlock_65 : decode cX2_addBlock 65 = .ok (.getfield 19, 3) := by decide +kernel
theorem dX2_addBlock_68 : decode cX2_addBlock 68 = .ok (.iload_n 1, 1) := by decide +kernel
theorem dX2_addBlock_69 : decode cX2_addBlock 69 = .ok (.iload_n 3, 1) := by decide +kernel
theorem dX2_addBlock_70 : decode cX2_addBlock 70 = .ok (.iastore, 1) := by decide +kernel
theorem dX2_addBlock_71 : decode cX2_addBlock 71 = .ok (.aload_n 0, 1) := by decide +kernel
theorem dX2_addBlock_72 : decode cX2_addBlock 72 = .ok (.dup, 1) := by decide +kernel
theorem dX2_addBlock_73 : decode cX2_addBlock 73 = .ok (.getfield 39, 3) := by decide +kernel
theorem dX2_addBlock_76 : decode cX2_addBlock 76 = .ok (.iconst 1, 1) := by decide +kernel
theorem dX2_addBlock_77 : decode cX2_addBlock 77 = .ok (.iadd, 1) := by decide +kernel
theorem dX2_addBlock_78 : decode cX2_addBlock 78 = .ok (.putfield 39, 3) := by decide +kernel
theorem dX2_addBlock_81 : decode cX2_addBlock 81 = .ok (.iload_n 2, 1) := by decide +kernel
theorem dX2_addBlock_82 : decode cX2_addBlock 82 = .ok (.iload_n 3, 1) := by decide +kernel
theorem dX2_addBlock_83 : decode cX2_addBlock 83 = .ok (.iadd, 1) := by decide +kernel
theorem dX2_addBlock_84 : decode cX2_addBlock 84 = .ok (.aload_n 0, 1) := by decide +kernel
theorem dX2_addBlock_85 : decode cX2_addBlock 85 = .ok (.getfield 32, 3) := by decide +kernel
theorem dX2_addBlock_88 : decode cX2_addBlock 88 = .ok (.if_icmp .le 24, 3) := by decide +kernel
theorem dX2_addBlock_91 : decode cX2_addBlock 91 = .ok (.aload_n 0, 1) := by decide +kernel
theorem dX2_addBlock_92 : decode cX2_addBlock 92 = .ok (.iload_n 2, 1) := by decide +kernel
theorem dX2_addBlock_93 : decode cX2_addBlock 93 = .ok (.iload_n 3, 1) := by decide +kernel
theorem dX2_addBlock_94 : decode cX2_addBlock 94 = .ok (.iadd, 1) := by decide +kernel
theorem dX2_addBlock_95 : decode cX2_addBlock 95 = .ok (.sipush 256, 3) := by decide +kernel
theorem dX2_addBlock_98 : decode cX2_addBlock 98 = .ok (.iadd, 1) := by decide +kernel
theorem dX2_addBlock_99 : decode cX2_addBlock 99 = .ok (.iconst 1, 1) := by decide +kernel
theorem dX2_addBlock_100 : decode cX2_addBlock 100 = .ok (.isub, 1) := by decide +kernel
theorem dX2_addBlock_101 : decode cX2_addBlock 101 = .ok (.sipush 256, 3) := by decide +kernel
theorem dX2_addBlock_104 : decode cX2_addBlock 104 = .ok (.idiv, 1) := by decide +kernel
theorem dX2_addBlock_105 : decode cX2_addBlock 105 = .ok (.sipush 256, 3) := by decide +kernel
theorem dX2_addBlock_108 : decode cX2_addBlock 108 = .ok (.imul, 1) := by decide +kernel
theorem dX2_addBlock_109 : decode cX2_addBlock 109 = .ok (.invokevirtual 57, 3) := by decide +kernel
theorem dX2_addBlock_112 : decode cX2_addBlock 112 = .ok (.return_, 1) := by decide +kernel
set_option maxRecDepth 20000 in
theorem ggX2_removeBlock_X2_changeSize : GoodIn wsX2_removeBlock wsX2_changeSize := goodIn_r _ [13, 14, 15, 16, 17, 18, 19, 20, 21, 22, 23, 24, 25, 26, 27, 28] (by decide +kernel) (by decide +kernel)
set_option maxRecDepth 20000 in
theorem gX2_removeBlock_X2_changeSize : GoodIn wsX2_removeBlock (wsV RX2 57 RX2 yX2_changeSize wsX2_changeSize) := goodIn_app (goodIn_of _ (by decide +kernel)) ggX2_removeBlock_X2_changeSize
theorem dX2_removeBlock_0 : decode cX2_removeBlock 0 = .ok (.aload_n 0, 1) := by decide +kernel
theorem dX2_removeBlock_1 : decode cX2_removeBlock 1 = .ok (.getfield 15, 3) := by decide +kernel
theorem dX2_removeBlock_4 : decode cX2_removeBlock 4 = .ok (.iload_n 1, 1) := by decide +kernel
theorem dX2_removeBlock_5 : decode cX2_removeBlock 5 = .ok (.iconst 1, 1) := by decide +kernel
theorem dX2_removeBlock_6 : decode cX2_removeBlock 6 = .ok (.iadd, 1) := by decide +kernel
theorem dX2_removeBlock_7 : decode cX2_removeBlock 7 = .ok (.aload_n 0, 1) := by decide +kernel
theorem dX2_removeBlock_8 : decode cX2_removeBlock 8 = .ok (.getfield 15, 3) := by decide +kernel
theorem dX2_removeBlock_11 : decode cX2_removeBlock 11 = .ok (.iload_n 1, 1) := by decide +kernel
theorem dX2_removeBlock_12 : decode cX2_removeBlock 12 = .ok (.aload_n 0, 1) := by decide +kernel
theorem dX2_removeBlock_13 : decode cX2_removeBlock 13 = .ok (.getfield 39, 3) := by decide +kernel
theorem dX2_removeBlock_16 : decode cX2_removeBlock 16 = .ok (.iload_n 1, 1) := by decide +kernel
theorem dX2_removeBlock_17 : decode cX2_removeBlock 17 = .ok (.isub, 1) := by decide +kernel
theorem dX2_removeBlock_18 : decode cX2_removeBlock 18 = .ok (.iconst 1, 1) := by decide +kernel
theorem dX2_removeBlock_19 : decode cX2_removeBlock 19 = .ok (.isub, 1) := by decide +kernel
theorem dX2_removeBlock_20 : decode cX2_removeBlock 20 = .ok (.invokestatic 42, 3) := by decide +kernel
theorem dX2_removeBlock_23 : decode cX2_removeBlock 23 = .ok (.aload_n 0, 1) := by decide +kernel
theorem dX2_removeBlock_24 : decode cX2_removeBlock 24 = .ok (.getfield 19, 3) := by decide +kernel
theorem dX2_removeBlock_27 : decode cX2_removeBlock 27 = .ok (.iload_n 1, 1) := by decide +kernel
theorem dX2_removeBlock_28 : decode cX2_removeBlock 28 = .ok (.iconst 1, 1) := by decide +kernel
theorem dX2_removeBlock_29 : decode cX2_removeBlock 29 = .ok (.iadd, 1) := by decide +kernel
theorem dX2_removeBlock_30 : decode cX2_removeBlock 30 = .ok (.aload_n 0, 1) := by decide +kernel
theorem dX2_removeBlock_31 : decode cX2_removeBlock 31 = .ok (.getfield 19, 3) := by decide +kernel
theorem dX2_removeBlock_34 : decode cX2_removeBlock 34 = .ok (.iload_n 1, 1) := by decide +kernel
theorem dX2_removeBlock_35 : decode cX2_removeBlock 35 = .ok (.aload_n 0, 1) := by decide +kernel
theorem dX2_removeBlock_36 : decode cX2_removeBlock 36 = .ok (.getfield 39, 3) := by decide +kernel
theorem dX2_removeBlock_39 : decode cX2_removeBlock 39 = .ok (.iload_n 1, 1) := by decide +kernel
theorem dX2_removeBlock_40 : decode cX2_removeBlock 40 = .ok (.isub, 1) := by decide +kernel
theorem dX2_removeBlock_41 : decode cX2_removeBlock 41 = .ok (.iconst 1, 1) := by decide +kernel
theorem dX2_removeBlock_42 : decode cX2_removeBlock 42 = .ok (.isub, 1) := by decide +kernel
theorem dX2_removeBlock_43 : decode cX2_removeBlock 43 = .ok (.invokestatic 42, 3) := by decide +kernel
theorem dX2_removeBlock_46 : decode cX2_removeBlock 46 = .ok (.aload_n 0, 1) := by decide +kernel
theorem dX2_removeBlock_47 : decode cX2_removeBlock 47 = .ok (.dup, 1) := by decide +kernel
theorem dX2_removeBlock_48 : decode cX2_removeBlock 48 = .ok (.getfield 39, 3) := by decide +kernel
theorem dX2_removeBlock_51 : decode cX2_removeBlock 51 = .ok (.iconst 1, 1) := by decide +kernel
theorem dX2_removeBlock_52 : decode cX2_removeBlock 52 = .ok (.isub, 1) := by decide +kernel
theorem dX2_removeBlock_53 : decode cX2_removeBlock 53 = .ok (.putfield 39, 3) := by decide +kernel
theorem dX2_removeBlock_56 : decode cX2_removeBlock 56 = .ok (.aload_n 0, 1) := by decide +kernel
theorem dX2_removeBlock_57 : decode cX2_removeBlock 57 = .ok (.getfield 39, 3) := by decide +kernel
theorem dX2_removeBlock_60 : decode cX2_removeBlock 60 = .ok (.ifCond .ne 16, 3) := by decide +kernel
theorem dX2_removeBlock_63 : decode cX2_removeBlock 63 = .ok (.aload_n 0, 1) := by decide +kernel
theorem dX2_removeBlock_64 : decode cX2_removeBlock 64 = .ok (.aload_n 0, 1) := by decide +kernel
theorem dX2_removeBlock_65 : decode cX2_removeBlock 65 = .ok (.getfield 36, 3) := by decide +kernel
theorem dX2_removeBlock_68 : decode cX2_removeBlock 68 = .ok (.invokevirtual 57, 3) := by decide +kernel
theorem dX2_removeBlock_71 : decode cX2_removeBlock 71 = .ok (.aload_n 0, 1) := by decide +kernel
theorem dX2_removeBlock_72 : decode cX2_removeBlock 72 = .ok (.iconst 0, 1) := by decide +kernel
theorem dX2_removeBlock_73 : decode cX2_removeBlock 73 = .ok (.putfield 36, 3) := by decide +kernel
theorem dX2_removeBlock_76 : decode cX2_removeBlock 76 = .ok (.return_, 1) := by decide +kernel
set_option maxRecDepth 20000 in
theorem ggX2_changedEnd_X2_difference : GoodIn wsX2_changedEnd wsX2_difference := goodIn_r _ [6, 7, 8, 9, 5, 10, 11, 12, 13, 14, 15, 16] (by decide +kernel) (by decide +kernel)
set_option maxRecDepth 20000 in
theorem gX2_changedEnd_X2_difference : GoodIn wsX2_changedEnd (wsV RX2 61 RX2 yX2_difference wsX2_difference) := goodIn_app (goodIn_of _ (by decide +kernel)) ggX2_changedEnd_X2_difference
theorem dX2_changedEnd_0 : decode cX2_changedEnd 0 = .ok (.aload_n 0, 1) := by decide +kernel
theorem dX2_changedEnd_1 : decode cX2_changedEnd 1 = .ok (.getfield 32, 3) := by decide +kernel
theorem dX2_changedEnd_4 : decode cX2_changedEnd 4 = .ok (.istore_n 1, 1) := by decide +kernel
theorem dX2_changedEnd_5 : decode cX2_changedEnd 5 = .ok (.iload_n 1, 1) := by decide +kernel
theorem dX2_changedEnd_6 : decode cX2_changedEnd 6 = .ok (.ifCond .le 21, 3) := by decide +kernel
theorem dX2_changedEnd_9 : decode cX2_changedEnd 9 = .ok (.aload_n 0, 1) := by decide +kernel
theorem dX2_changedEnd_10 : decode cX2_changedEnd 10 = .ok (.iload_n 1, 1) := by decide +kernel
theorem dX2_changedEnd_11 : decode cX2_changedEnd 11 = .ok (.iconst 1, 1) := by decide +kernel
theorem dX2_changedEnd_12 : decode cX2_changedEnd 12 = .ok (.isub, 1) := by decide +kernel
theorem dX2_changedEnd_13 : decode cX2_changedEnd 13 = .ok (.invokevirtual 61, 3) := by decide +kernel
theorem dX2_changedEnd_16 : decode cX2_changedEnd 16 = .ok (.ifCond .eq 5, 3) := by decide +kernel
theorem dX2_changedEnd_19 : decode cX2_changedEnd 19 = .ok (.iload_n 1, 1) := by decide +kernel
theorem dX2_changedEnd_20 : decode cX2_changedEnd 20 = .ok (.ireturn, 1) := by decide +kernel
theorem dX2_changedEnd_21 : decode cX2_changedEnd 21 = .ok (.iinc 1 (-1), 3) := by decide +kernel
theorem dX2_changedEnd_24 : decode cX2_changedEnd 24 = .ok (.goto (-19), 3) := by decide +kernel
theorem dX2_changedEnd_27 : decode cX2_changedEnd 27 = .ok (.iconst 0, 1) := by decide +kernel
theorem dX2_changedEnd_28 : decode cX2_changedEnd 28 = .ok (.ireturn, 1) := by decide +kernel
set_option maxRecDepth 20000 in
theorem ggX2_unchangedRow_X2_difference : GoodIn wsX2_unchangedRow wsX2_difference := goodIn_r _ [9, 10, 11, 12, 8, 13, 14, 15, 16, 17, 18, 19] (by decide +kernel) (by decide +kernel)
set_option maxRecDepth 20000 in
theorem gX2_unchangedRow_X2_difference : GoodIn wsX2_unchangedRow (wsV RX2 61 RX2 yX2_difference wsX2_difference) := goodIn_app (goodIn_of _ (by decide +kernel)) ggX2_unchangedRow_X2_difference
theorem dX2_unchangedRow_0 : decode cX2_unchangedRow 0 = .ok (.iload_n 2, 1) := by decide +kernel
theorem dX2_unchangedRow_1 : decode cX2_unchangedRow 1 = .ok (.iload_n 1, 1) := by decide +kernel
theorem dX2_unchangedRow_2 : decode cX2_unchangedRow 2 = .ok (.sipush 256, 3) := by decide +kernel
theorem dX2_unchangedRow_5 : decode cX2_unchangedRow 5 = .ok (.iadd, 1) := by decide +kernel
theorem dX2_unchangedRow_6 : decode cX2_unchangedRow 6 = .ok (.invokestatic 64, 3) := by decide +kernel
theorem dX2_unchangedRow_9 : decode cX2_unchangedRow 9 = .ok (.istore_n 3, 1) := by decide +kernel
theorem dX2_unchangedRow_10 : decode cX2_unchangedRow 10 = .ok (.iload_n 1, 1) := by decide +kernel
theorem dX2_unchangedRow_11 : decode cX2_unchangedRow 11 = .ok (.istore 4, 2) := by decide +kernel
theorem dX2_unchangedRow_13 : decode cX2_unchangedRow 13 = .ok (.iload 4, 2) := by decide +kernel
theorem dX2_unchangedRow_15 : decode cX2_unchangedRow 15 = .ok (.iload_n 3, 1) := by decide +kernel
theorem dX2_unchangedRow_16 : decode cX2_unchangedRow 16 = .ok (.if_icmp .ge 23, 3) := by decide +kernel
theorem dX2_unchangedRow_19 : decode cX2_unchangedRow 19 = .ok (.aload_n 0, 1) := by decide +kernel
theorem dX2_unchangedRow_20 : decode cX2_unchangedRow 20 = .ok (.iload 4, 2) := by decide +kernel
theorem dX2_unchangedRow_22 : decode cX2_unchangedRow 22 = .ok (.invokevirtual 61, 3) := by decide +kernel
theorem dX2_unchangedRow_25 : decode cX2_unchangedRow 25 = .ok (.ifCond .eq 8, 3) := by decide +kernel
theorem dX2_unchangedRow_28 : decode cX2_unchangedRow 28 = .ok (.iload 4, 2) := by decide +kernel
theorem dX2_unchangedRow_30 : decode cX2_unchangedRow 30 = .ok (.iload_n 1, 1) := by decide +kernel
theorem dX2_unchangedRow_31 : decode cX2_unchangedRow 31 = .ok (.isub, 1) := by decide +kernel
theorem dX2_unchangedRow_32 : decode cX2_unchangedRow 32 = .ok (.ireturn, 1) := by decide +kernel
theorem dX2_unchangedRow_33 : decode cX2_unchangedRow 33 = .ok (.iinc 4 1, 3) := by decide +kernel
theorem dX2_unchangedRow_36 : decode cX2_unchangedRow 36 = .ok (.goto (-23), 3) := by decide +kernel
theorem dX2_unchangedRow_39 : decode cX2_unchangedRow 39 = .ok (.iload_n 3, 1) := by decide +kernel
theorem dX2_unchangedRow_40 : decode cX2_unchangedRow 40 = .ok (.iload_n 1, 1) := by decide +kernel
theorem dX2_unchangedRow_41 : decode cX2_unchangedRow 41 = .ok (.isub, 1) := by decide +kernel
theorem dX2_unchangedRow_42 : decode cX2_unchangedRow 42 = .ok (.ireturn, 1) := by decide +kernel
end
section
set_option maxRecDepth 20000 in
theorem ggX3_init_X1_init : GoodIn wsX3_init wsX1_init := goodIn_r _ [18, 19, 2, 3, 20, 21, 55, 56] (by decide +kernel) (by decide +kernel)
set_option maxRecDepth 20000 in
theorem gX3_init_X1_init_n17 : GoodIn wsX3_init (wsX1_init) := ggX3_init_X1_init
set_option maxRecDepth 20000 in
theorem ggX3_init_X0_init : GoodIn wsX3_init wsX0_init := goodIn_r _ [23, 24, 2, 3, 20, 25, 57, 58] (by decide +kernel) (by decide +kernel)
set_option maxRecDepth 20000 in
theorem gX3_init_X0_init_n24 : GoodIn wsX3_init (wsX0_init) := ggX3_init_X0_init
set_option maxRecDepth 20000 in
theorem ggX3_init_X2_init : GoodIn wsX3_init wsX2_init := goodIn_r _ [27, 28, 2, 3, 20, 29, 30, 31, 32, 59, 60, 61, 62, 63, 64] (by decide +kernel) (by decide +kernel)
set_option maxRecDepth 20000 in
theorem gX3_init_X2_init_n29 : GoodIn wsX3_init (wsX2_init) := ggX3_init_X2_init
set_option maxRecDepth 20000 in
theorem ggX3_init_X2_begin : GoodIn wsX3_init wsX2_begin := goodIn_r _ [36, 29, 37, 38, 39, 40, 41, 42, 43, 44, 45, 15, 46, 59, 60, 61, 62, 63, 64] (by decide +kernel) (by decide +kernel)
set_option maxRecDepth 20000 in
theorem gX3_init_X2_begin : GoodIn wsX3_init (wsV RX3 34 RX2 yX2_begin wsX2_begin) := goodIn_app (goodIn_of _ (by decide +kernel)) ggX3_init_X2_begin
theorem dX3_init_0 : decode cX3_init 0 = .ok (.aload_n 0, 1) := by decide +kernel
theorem dX3_init_1 : decode cX3_init 1 = .ok (.invokespecial 3, 3) := by decide +kernel
theorem dX3_init_4 : decode cX3_init 4 = .ok (.aload_n 0, 1) := by decide +kernel
theorem dX3_init_5 : decode cX3_init 5 = .ok (.iconst 4, 1) := by decide +kernel
theorem dX3_init_6 : decode cX3_init 6 = .ok (.anewarray 9, 3) := by decide +kernel
theorem dX3_init_9 : decode cX3_init 9 = .ok (.putfield 11, 3) := by decide +kernel
theorem dX3_init_12 : decode cX3_init 12 = .ok (.aload_n 0, 1) := by decide +kernel
theorem dX3_init_13 : decode cX3_init 13 = .ok (.new 15, 3) := by decide +kernel
theorem dX3_init_16 : decode cX3_init 16 = .ok (.dup, 1) := by decide +kernel
theorem dX3_init_17 : decode cX3_init 17 = .ok (.invokespecial 17, 3) := by decide +kernel
theorem dX3_init_20 : decode cX3_init 20 = .ok (.putfield 18, 3) := by decide +kernel
theorem dX3_init_23 : decode cX3_init 23 = .ok (.aload_n 0, 1) := by decide +kernel
theorem dX3_init_24 : decode cX3_init 24 = .ok (.new 22, 3) := by decide +kernel
theorem dX3_init_27 : decode cX3_init 27 = .ok (.dup, 1) := by decide +kernel
theorem dX3_init_28 : decode cX3_init 28 = .ok (.invokespecial 24, 3) := by decide +kernel
theorem dX3_init_31 : decode cX3_init 31 = .ok (.putfield 25, 3) := by decide +kernel
theorem dX3_init_34 : decode cX3_init 34 = .ok (.aload_n 0, 1) := by decide +kernel
theorem dX3_init_35 : decode cX3_init 35 = .ok (.new 9, 3) := by decide +kernel
theorem dX3_init_38 : decode cX3_init 38 = .ok (.dup, 1) := by decide +kernel
theorem dX3_init_39 : decode cX3_init 39 = .ok (.invokespecial 29, 3) := by decide +kernel
theorem dX3_init_42 : decode cX3_init 42 = .ok (.putfield 30, 3) := by decide +kernel
theorem dX3_init_45 : decode cX3_init 45 = .ok (.aload_n 0, 1) := by decide +kernel
theorem dX3_init_46 : decode cX3_init 46 = .ok (.getfield 30, 3) := by decide +kernel
theorem dX3_init_49 : decode cX3_init 49 = .ok (.invokevirtual 34, 3) := by decide +kernel
theorem dX3_init_52 : decode cX3_init 52 = .ok (.return_, 1) := by decide +kernel
set_option maxRecDepth 20000 in
theorem ggX3_get_X3_isWidth : GoodIn wsX3_get wsX3_isWidth := goodIn_r _ [7] (by decide +kernel) (by decide +kernel)
set_option maxRecDepth 20000 in
theorem gX3_get_X3_isWidth : GoodIn wsX3_get (va_wsS RX3 37 yX3_isWidth wsX3_isWidth) := goodIn_app (goodIn_of _ (by decide +kernel)) ggX3_get_X3_isWidth
set_option maxRecDepth 20000 in
theorem ggX3_get_X2_has : GoodIn wsX3_get wsX2_has := goodIn_r _ [12, 13, 27, 28, 29, 30, 31, 32] (by decide +kernel) (by decide +kernel)
set_option maxRecDepth 20000 in
theorem gX3_get_X2_has : GoodIn wsX3_get (wsV RX3 43 RX2 yX2_has wsX2_has) := goodIn_app (goodIn_of _ (by decide +kernel)) ggX3_get_X2_has
set_option maxRecDepth 20000 in
theorem ggX3_get_X2_number : GoodIn wsX3_get wsX2_number := goodIn_r _ [17, 18, 27, 28, 29, 30, 31, 32] (by decide +kernel) (by decide +kernel)
set_option maxRecDepth 20000 in
theorem gX3_get_X2_number : GoodIn wsX3_get (wsV RX3 49 RX2 yX2_number wsX2_number) := goodIn_app (goodIn_of _ (by decide +kernel)) ggX3_get_X2_number
theorem dX3_get_0 : decode cX3_get 0 = .ok (.iload_n 1, 1) := by decide +kernel
theorem dX3_get_1 : decode cX3_get 1 = .ok (.ifCond .lt 10, 3) := by decide +kernel
theorem dX3_get_4 : decode cX3_get 4 = .ok (.iload_n 2, 1) := by decide +kernel
theorem dX3_get_5 : decode cX3_get 5 = .ok (.invokestatic 37, 3) := by decide +kernel
theorem dX3_get_8 : decode cX3_get 8 = .ok (.ifCond .ne 7, 3) := by decide +kernel
theorem dX3_get_11 : decode cX3_get 11 = .ok (.ldc2_w 41, 3) := by decide +kernel
theorem dX3_get_14 : decode cX3_get 14 = .ok (.lreturn, 1) := by decide +kernel
theorem dX3_get_15 : decode cX3_get 15 = .ok (.aload_n 0, 1) := by decide +kernel
theorem dX3_get_16 : decode cX3_get 16 = .ok (.getfield 30, 3) := by decide +kernel
theorem dX3_get_19 : decode cX3_get 19 = .ok (.iload_n 1, 1) := by decide +kernel
theorem dX3_get_20 : decode cX3_get 20 = .ok (.i2l, 1) := by decide +kernel
theorem dX3_get_21 : decode cX3_get 21 = .ok (.iload_n 2, 1) := by decide +kernel
theorem dX3_get_22 : decode cX3_get 22 = .ok (.invokevirtual 43, 3) := by decide +kernel
theorem dX3_get_25 : decode cX3_get 25 = .ok (.ifCond .ne 7, 3) := by decide +kernel
theorem dX3_get_28 : decode cX3_get 28 = .ok (.ldc2_w 47, 3) := by decide +kernel
theorem dX3_get_31 : decode cX3_get 31 = .ok (.lreturn, 1) := by decide +kernel
theorem dX3_get_32 : decode cX3_get 32 = .ok (.aload_n 0, 1) := by decide +kernel
theorem dX3_get_33 : decode cX3_get 33 = .ok (.getfield 30, 3) := by decide +kernel
theorem dX3_get_36 : decode cX3_get 36 = .ok (.iload_n 1, 1) := by decide +kernel
theorem dX3_get_37 : decode cX3_get 37 = .ok (.iload_n 2, 1) := by decide +kernel
theorem dX3_get_38 : decode cX3_get 38 = .ok (.invokevirtual 49, 3) := by decide +kernel
theorem dX3_get_41 : decode cX3_get 41 = .ok (.lreturn, 1) := by decide +kernel
set_option maxRecDepth 20000 in
theorem ggX3_set_X3_isWidth : GoodIn wsX3_set wsX3_isWidth := goodIn_r _ [5] (by decide +kernel) (by decide +kernel)
set_option maxRecDepth 20000 in
theorem gX3_set_X3_isWidth : GoodIn wsX3_set (va_wsS RX3 37 yX3_isWidth wsX3_isWidth) := goodIn_app (goodIn_of _ (by decide +kernel)) ggX3_set_X3_isWidth
set_option maxRecDepth 20000 in
theorem ggX3_set_X3_writeRefusal : GoodIn wsX3_set wsX3_writeRefusal := goodIn_r _ [9, 1, 10, 11, 12, 13, 14, 15, 21, 22, 23, 24, 25, 26, 27, 28, 29, 30, 31, 32, 33, 34] (by decide +kernel) (by decide +kernel)
set_option maxRecDepth 20000 in
theorem gX3_set_X3_writeRefusal : GoodIn wsX3_set (wsV RX3 53 RX3 yX3_writeRefusal wsX3_writeRefusal) := goodIn_app (goodIn_of _ (by decide +kernel)) ggX3_set_X3_writeRefusal
set_option maxRecDepth 20000 in
theorem ggX3_set_X2_store : GoodIn wsX3_set wsX2_store := goodIn_r _ [19, 20, 29, 30, 31, 32, 33, 34] (by decide +kernel) (by decide +kernel)
set_option maxRecDepth 20000 in
theorem gX3_set_X2_store : GoodIn wsX3_set (wsV RX3 57 RX2 yX2_store wsX2_store) := goodIn_app (goodIn_of _ (by decide +kernel)) ggX3_set_X2_store
theorem dX3_set_0 : decode cX3_set 0 = .ok (.iload_n 1, 1) := by decide +kernel
theorem dX3_set_1 : decode cX3_set 1 = .ok (.ifCond .lt 10, 3) := by decide +kernel
theorem dX3_set_4 : decode cX3_set 4 = .ok (.iload_n 2, 1) := by decide +kernel
theorem dX3_set_5 : decode cX3_set 5 = .ok (.invokestatic 37, 3) := by decide +kernel
theorem dX3_set_8 : decode cX3_set 8 = .ok (.ifCond .ne 6, 3) := by decide +kernel
theorem dX3_set_11 : decode cX3_set 11 = .ok (.bipush (-11), 2) := by decide +kernel
theorem dX3_set_13 : decode cX3_set 13 = .ok (.ireturn, 1) := by decide +kernel
theorem dX3_set_14 : decode cX3_set 14 = .ok (.aload_n 0, 1) := by decide +kernel
theorem dX3_set_15 : decode cX3_set 15 = .ok (.iload_n 1, 1) := by decide +kernel
theorem dX3_set_16 : decode cX3_set 16 = .ok (.iload_n 2, 1) := by decide +kernel
theorem dX3_set_17 : decode cX3_set 17 = .ok (.invokevirtual 53, 3) := by decide +kernel
theorem dX3_set_20 : decode cX3_set 20 = .ok (.istore 4, 2) := by decide +kernel
theorem dX3_set_22 : decode cX3_set 22 = .ok (.iload 4, 2) := by decide +kernel
theorem dX3_set_24 : decode cX3_set 24 = .ok (.ifCond .eq 6, 3) := by decide +kernel
theorem dX3_set_27 : decode cX3_set 27 = .ok (.iload 4, 2) := by decide +kernel
theorem dX3_set_29 : decode cX3_set 29 = .ok (.ireturn, 1) := by decide +kernel
theorem dX3_set_30 : decode cX3_set 30 = .ok (.aload_n 0, 1) := by decide +kernel
theorem dX3_set_31 : decode cX3_set 31 = .ok (.getfield 30, 3) := by decide +kernel
theorem dX3_set_34 : decode cX3_set 34 = .ok (.iload_n 1, 1) := by decide +kernel
theorem dX3_set_35 : decode cX3_set 35 = .ok (.iload_n 2, 1) := by decide +kernel
theorem dX3_set_36 : decode cX3_set 36 = .ok (.iload_n 3, 1) := by decide +kernel
theorem dX3_set_37 : decode cX3_set 37 = .ok (.invokevirtual 57, 3) := by decide +kernel
theorem dX3_set_40 : decode cX3_set 40 = .ok (.iconst 1, 1) := by decide +kernel
theorem dX3_set_41 : decode cX3_set 41 = .ok (.ireturn, 1) := by decide +kernel
set_option maxRecDepth 20000 in
theorem ggX3_zero_X3_writeRefusal : GoodIn wsX3_zero wsX3_writeRefusal := goodIn_r _ [7, 1, 8, 9, 10, 11, 12, 13, 21, 22, 23, 24, 25, 26, 27, 28, 29, 30, 31, 32, 33, 34] (by decide +kernel) (by decide +kernel)
set_option maxRecDepth 20000 in
theorem gX3_zero_X3_writeRefusal : GoodIn wsX3_zero (wsV RX3 53 RX3 yX3_writeRefusal wsX3_writeRefusal) := goodIn_app (goodIn_of _ (by decide +kernel)) ggX3_zero_X3_writeRefusal
set_option maxRecDepth 20000 in
theorem ggX3_zero_J7_fill_eb02e : GoodIn wsX3_zero wsJ7_fill_eb02e := goodIn_r _ [17, 18, 19, 16, 20] (by decide +kernel) (by decide +kernel)
set_option maxRecDepth 20000 in
theorem gX3_zero_J7_fill_eb02e : GoodIn wsX3_zero (va_wsS RX3 65 yJ7_fill_eb02e wsJ7_fill_eb02e) := goodIn_app (goodIn_of _ (by decide +kernel)) ggX3_zero_J7_fill_eb02e
theorem dX3_zero_0 : decode cX3_zero 0 = .ok (.iload_n 1, 1) := by decide +kernel
theorem dX3_zero_1 : decode cX3_zero 1 = .ok (.ifCond .lt 7, 3) := by decide +kernel
theorem dX3_zero_4 : decode cX3_zero 4 = .ok (.iload_n 2, 1) := by decide +kernel
theorem dX3_zero_5 : decode cX3_zero 5 = .ok (.ifCond .ge 6, 3) := by decide +kernel
theorem dX3_zero_8 : decode cX3_zero 8 = .ok (.bipush (-11), 2) := by decide +kernel
theorem dX3_zero_10 : decode cX3_zero 10 = .ok (.ireturn, 1) := by decide +kernel
theorem dX3_zero_11 : decode cX3_zero 11 = .ok (.iload_n 2, 1) := by decide +kernel
theorem dX3_zero_12 : decode cX3_zero 12 = .ok (.ifCond .ne 5, 3) := by decide +kernel
theorem dX3_zero_15 : decode cX3_zero 15 = .ok (.iconst 1, 1) := by decide +kernel
theorem dX3_zero_16 : decode cX3_zero 16 = .ok (.ireturn, 1) := by decide +kernel
theorem dX3_zero_17 : decode cX3_zero 17 = .ok (.aload_n 0, 1) := by decide +kernel
theorem dX3_zero_18 : decode cX3_zero 18 = .ok (.iload_n 1, 1) := by decide +kernel
theorem dX3_zero_19 : decode cX3_zero 19 = .ok (.iload_n 2, 1) := by decide +kernel
theorem dX3_zero_20 : decode cX3_zero 20 = .ok (.invokevirtual 53, 3) := by decide +kernel
theorem dX3_zero_23 : decode cX3_zero 23 = .ok (.istore_n 3, 1) := by decide +kernel
theorem dX3_zero_24 : decode cX3_zero 24 = .ok (.iload_n 3, 1) := by decide +kernel
theorem dX3_zero_25 : decode cX3_zero 25 = .ok (.ifCond .eq 5, 3) := by decide +kernel
theorem dX3_zero_28 : decode cX3_zero 28 = .ok (.iload_n 3, 1) := by decide +kernel
theorem dX3_zero_29 : decode cX3_zero 29 = .ok (.ireturn, 1) := by decide +kernel
theorem dX3_zero_30 : decode cX3_zero 30 = .ok (.aload_n 0, 1) := by decide +kernel
theorem dX3_zero_31 : decode cX3_zero 31 = .ok (.getfield 30, 3) := by decide +kernel
theorem dX3_zero_34 : decode cX3_zero 34 = .ok (.getfield 61, 3) := by decide +kernel
theorem dX3_zero_37 : decode cX3_zero 37 = .ok (.iload_n 1, 1) := by decide +kernel
theorem dX3_zero_38 : decode cX3_zero 38 = .ok (.iload_n 1, 1) := by decide +kernel
theorem dX3_zero_39 : decode cX3_zero 39 = .ok (.iload_n 2, 1) := by decide +kernel
theorem dX3_zero_40 : decode cX3_zero 40 = .ok (.iadd, 1) := by decide +kernel
theorem dX3_zero_41 : decode cX3_zero 41 = .ok (.iconst 0, 1) := by decide +kernel
theorem dX3_zero_42 : decode cX3_zero 42 = .ok (.invokestatic 65, 3) := by decide +kernel
theorem dX3_zero_45 : decode cX3_zero 45 = .ok (.iconst 1, 1) := by decide +kernel
theorem dX3_zero_46 : decode cX3_zero 46 = .ok (.ireturn, 1) := by decide +kernel
set_option maxRecDepth 20000 in
theorem ggX3_copy_X2_has : GoodIn wsX3_copy wsX2_has := goodIn_r _ [11, 12, 26, 27, 28, 29, 30, 31] (by decide +kernel) (by decide +kernel)
set_option maxRecDepth 20000 in
theorem gX3_copy_X2_has : GoodIn wsX3_copy (wsV RX3 43 RX2 yX2_has wsX2_has) := goodIn_app (goodIn_of _ (by decide +kernel)) ggX3_copy_X2_has
set_option maxRecDepth 20000 in
theorem ggX3_copy_X3_writeRefusal : GoodIn wsX3_copy wsX3_writeRefusal := goodIn_r _ [17, 1, 7, 8, 9, 10, 11, 12, 18, 19, 20, 21, 22, 23, 24, 25, 26, 27, 28, 29, 30, 31] (by decide +kernel) (by decide +kernel)
set_option maxRecDepth 20000 in
theorem gX3_copy_X3_writeRefusal : GoodIn wsX3_copy (wsV RX3 53 RX3 yX3_writeRefusal wsX3_writeRefusal) := goodIn_app (goodIn_of _ (by decide +kernel)) ggX3_copy_X3_writeRefusal
theorem dX3_copy_0 : decode cX3_copy 0 = .ok (.iload_n 1, 1) := by decide +kernel
theorem dX3_copy_1 : decode cX3_copy 1 = .ok (.ifCond .lt 11, 3) := by decide +kernel
theorem dX3_copy_4 : decode cX3_copy 4 = .ok (.iload_n 2, 1) := by decide +kernel
theorem dX3_copy_5 : decode cX3_copy 5 = .ok (.ifCond .lt 7, 3) := by decide +kernel
theorem dX3_copy_8 : decode cX3_copy 8 = .ok (.iload_n 3, 1) := by decide +kernel
theorem dX3_copy_9 : decode cX3_copy 9 = .ok (.ifCond .ge 6, 3) := by decide +kernel
theorem dX3_copy_12 : decode cX3_copy 12 = .ok (.bipush (-11), 2) := by decide +kernel
theorem dX3_copy_14 : decode cX3_copy 14 = .ok (.ireturn, 1) := by decide +kernel
theorem dX3_copy_15 : decode cX3_copy 15 = .ok (.iload_n 3, 1) := by decide +kernel
theorem dX3_copy_16 : decode cX3_copy 16 = .ok (.ifCond .ne 5, 3) := by decide +kernel
theorem dX3_copy_19 : decode cX3_copy 19 = .ok (.iconst 1, 1) := by decide +kernel
theorem dX3_copy_20 : decode cX3_copy 20 = .ok (.ireturn, 1) := by decide +kernel
theorem dX3_copy_21 : decode cX3_copy 21 = .ok (.aload_n 0, 1) := by decide +kernel
theorem dX3_copy_22 : decode cX3_copy 22 = .ok (.getfield 30, 3) := by decide +kernel
theorem dX3_copy_25 : decode cX3_copy 25 = .ok (.iload_n 1, 1) := by decide +kernel
theorem dX3_copy_26 : decode cX3_copy 26 = .ok (.i2l, 1) := by decide +kernel
theorem dX3_copy_27 : decode cX3_copy 27 = .ok (.iload_n 3, 1) := by decide +kernel
theorem dX3_copy_28 : decode cX3_copy 28 = .ok (.invokevirtual 43, 3) := by decide +kernel
theorem dX3_copy_31 : decode cX3_copy 31 = .ok (.ifCond .ne 6, 3) := by decide +kernel
theorem dX3_copy_34 : decode cX3_copy 34 = .ok (.bipush (-12), 2) := by decide +kernel
theorem dX3_copy_36 : decode cX3_copy 36 = .ok (.ireturn, 1) := by decide +kernel
theorem dX3_copy_37 : decode cX3_copy 37 = .ok (.aload_n 0, 1) := by decide +kernel
theorem dX3_copy_38 : decode cX3_copy 38 = .ok (.iload_n 2, 1) := by decide +kernel
theorem dX3_copy_39 : decode cX3_copy 39 = .ok (.iload_n 3, 1) := by decide +kernel
theorem dX3_copy_40 : decode cX3_copy 40 = .ok (.invokevirtual 53, 3) := by decide +kernel
theorem dX3_copy_43 : decode cX3_copy 43 = .ok (.istore 4, 2) := by decide +kernel
theorem dX3_copy_45 : decode cX3_copy 45 = .ok (.iload 4, 2) := by decide +kernel
theorem dX3_copy_47 : decode cX3_copy 47 = .ok (.ifCond .eq 6, 3) := by decide +kernel
theorem dX3_copy_50 : decode cX3_copy 50 = .ok (.iload 4, 2) := by decide +kernel
theorem dX3_copy_52 : decode cX3_copy 52 = .ok (.ireturn, 1) := by decide +kernel
theorem dX3_copy_53 : decode cX3_copy 53 = .ok (.aload_n 0, 1) := by decide +kernel
theorem dX3_copy_54 : decode cX3_copy 54 = .ok (.getfield 30, 3) := by decide +kernel
theorem dX3_copy_57 : decode cX3_copy 57 = .ok (.getfield 61, 3) := by decide +kernel
theorem dX3_copy_60 : decode cX3_copy 60 = .ok (.iload_n 1, 1) := by decide +kernel
theorem dX3_copy_61 : decode cX3_copy 61 = .ok (.aload_n 0, 1) := by decide +kernel
theorem dX3_copy_62 : decode cX3_copy 62 = .ok (.getfield 30, 3) := by decide +kernel
theorem dX3_copy_65 : decode cX3_copy 65 = .ok (.getfield 61, 3) := by decide +kernel
theorem dX3_copy_68 : decode cX3_copy 68 = .ok (.iload_n 2, 1) := by decide +kernel
theorem dX3_copy_69 : decode cX3_copy 69 = .ok (.iload_n 3, 1) := by decide +kernel
theorem dX3_copy_70 : decode cX3_copy 70 = .ok (.invokestatic 71, 3) := by decide +kernel
theorem dX3_copy_73 : decode cX3_copy 73 = .ok (.iconst 1, 1) := by decide +kernel
theorem dX3_copy_74 : decode cX3_copy 74 = .ok (.ireturn, 1) := by decide +kernel
set_option maxRecDepth 20000 in
theorem ggX3_resize_X3_isSize : GoodIn wsX3_resize wsX3_isSize := goodIn_r _ [7] (by decide +kernel) (by decide +kernel)
set_option maxRecDepth 20000 in
theorem gX3_resize_X3_isSize : GoodIn wsX3_resize (va_wsS RX3 77 yX3_isSize wsX3_isSize) := goodIn_app (goodIn_of _ (by decide +kernel)) ggX3_resize_X3_isSize
set_option maxRecDepth 20000 in
theorem ggX3_resize_X2_changeSize : GoodIn wsX3_resize wsX2_changeSize := goodIn_r _ [12, 13, 14, 15, 16, 17, 18, 19, 20, 21, 30, 31, 32, 33, 34, 35] (by decide +kernel) (by decide +kernel)
set_option maxRecDepth 20000 in
theorem gX3_resize_X2_changeSize : GoodIn wsX3_resize (wsV RX3 87 RX2 yX2_changeSize wsX2_changeSize) := goodIn_app (goodIn_of _ (by decide +kernel)) ggX3_resize_X2_changeSize
theorem dX3_resize_0 : decode cX3_resize 0 = .ok (.iload_n 1, 1) := by decide +kernel
theorem dX3_resize_1 : decode cX3_resize 1 = .ok (.invokestatic 77, 3) := by decide +kernel
theorem dX3_resize_4 : decode cX3_resize 4 = .ok (.ifCond .ne 6, 3) := by decide +kernel
theorem dX3_resize_7 : decode cX3_resize 7 = .ok (.bipush (-11), 2) := by decide +kernel
theorem dX3_resize_9 : decode cX3_resize 9 = .ok (.ireturn, 1) := by decide +kernel
theorem dX3_resize_10 : decode cX3_resize 10 = .ok (.aload_n 0, 1) := by decide +kernel
theorem dX3_resize_11 : decode cX3_resize 11 = .ok (.getfield 30, 3) := by decide +kernel
theorem dX3_resize_14 : decode cX3_resize 14 = .ok (.getfield 80, 3) := by decide +kernel
theorem dX3_resize_17 : decode cX3_resize 17 = .ok (.ifCond .le 6, 3) := by decide +kernel
theorem dX3_resize_20 : decode cX3_resize 20 = .ok (.bipush (-14), 2) := by decide +kernel
theorem dX3_resize_22 : decode cX3_resize 22 = .ok (.ireturn, 1) := by decide +kernel
theorem dX3_resize_23 : decode cX3_resize 23 = .ok (.aload_n 0, 1) := by decide +kernel
theorem dX3_resize_24 : decode cX3_resize 24 = .ok (.getfield 30, 3) := by decide +kernel
theorem dX3_resize_27 : decode cX3_resize 27 = .ok (.getfield 84, 3) := by decide +kernel
theorem dX3_resize_30 : decode cX3_resize 30 = .ok (.istore_n 2, 1) := by decide +kernel
theorem dX3_resize_31 : decode cX3_resize 31 = .ok (.aload_n 0, 1) := by decide +kernel
theorem dX3_resize_32 : decode cX3_resize 32 = .ok (.getfield 30, 3) := by decide +kernel
theorem dX3_resize_35 : decode cX3_resize 35 = .ok (.iload_n 1, 1) := by decide +kernel
theorem dX3_resize_36 : decode cX3_resize 36 = .ok (.invokevirtual 87, 3) := by decide +kernel
theorem dX3_resize_39 : decode cX3_resize 39 = .ok (.iload_n 2, 1) := by decide +kernel
theorem dX3_resize_40 : decode cX3_resize 40 = .ok (.ireturn, 1) := by decide +kernel
set_option maxRecDepth 20000 in
theorem ggX3_writeRefusal_X2_has : GoodIn wsX3_writeRefusal wsX2_has := goodIn_r _ [6, 7, 16, 17, 18, 19, 20, 21] (by decide +kernel) (by decide +kernel)
set_option maxRecDepth 20000 in
theorem gX3_writeRefusal_X2_has : GoodIn wsX3_writeRefusal (wsV RX3 43 RX2 yX2_has wsX2_has) := goodIn_app (goodIn_of _ (by decide +kernel)) ggX3_writeRefusal_X2_has
theorem dX3_writeRefusal_0 : decode cX3_writeRefusal 0 = .ok (.aload_n 0, 1) := by decide +kernel
theorem dX3_writeRefusal_1 : decode cX3_writeRefusal 1 = .ok (.getfield 30, 3) := by decide +kernel
theorem dX3_writeRefusal_4 : decode cX3_writeRefusal 4 = .ok (.iload_n 1, 1) := by decide +kernel
theorem dX3_writeRefusal_5 : decode cX3_writeRefusal 5 = .ok (.i2l, 1) := by decide +kernel
theorem dX3_writeRefusal_6 : decode cX3_writeRefusal 6 = .ok (.iload_n 2, 1) := by decide +kernel
theorem dX3_writeRefusal_7 : decode cX3_writeRefusal 7 = .ok (.invokevirtual 43, 3) := by decide +kernel
theorem dX3_writeRefusal_10 : decode cX3_writeRefusal 10 = .ok (.ifCond .ne 6, 3) := by decide +kernel
theorem dX3_writeRefusal_13 : decode cX3_writeRefusal 13 = .ok (.bipush (-12), 2) := by decide +kernel
theorem dX3_writeRefusal_15 : decode cX3_writeRefusal 15 = .ok (.ireturn, 1) := by decide +kernel
theorem dX3_writeRefusal_16 : decode cX3_writeRefusal 16 = .ok (.iload_n 1, 1) := by decide +kernel
theorem dX3_writeRefusal_17 : decode cX3_writeRefusal 17 = .ok (.bipush 64, 2) := by decide +kernel
theorem dX3_writeRefusal_19 : decode cX3_writeRefusal 19 = .ok (.if_icmp .ge 8, 3) := by decide +kernel
theorem dX3_writeRefusal_22 : decode cX3_writeRefusal 22 = .ok (.bipush (-13), 2) := by decide +kernel
theorem dX3_writeRefusal_24 : decode cX3_writeRefusal 24 = .ok (.goto 4, 3) := by decide +kernel
theorem dX3_writeRefusal_27 : decode cX3_writeRefusal 27 = .ok (.iconst 0, 1) := by decide +kernel
theorem dX3_writeRefusal_28 : decode cX3_writeRefusal 28 = .ok (.ireturn, 1) := by decide +kernel
theorem dX3_isWidth_0 : decode cX3_isWidth 0 = .ok (.iload_n 0, 1) := by decide +kernel
theorem dX3_isWidth_1 : decode cX3_isWidth 1 = .ok (.iconst 1, 1) := by decide +kernel
theorem dX3_isWidth_2 : decode cX3_isWidth 2 = .ok (.if_icmp .eq 13, 3) := by decide +kernel
theorem dX3_isWidth_5 : decode cX3_isWidth 5 = .ok (.iload_n 0, 1) := by decide +kernel
theorem dX3_isWidth_6 : decode cX3_isWidth 6 = .ok (.iconst 2, 1) := by decide +kernel
theorem dX3_isWidth_7 : decode cX3_isWidth 7 = .ok (.if_icmp .eq 8, 3) := by decide +kernel
theorem dX3_isWidth_10 : decode cX3_isWidth 10 = .ok (.iload_n 0, 1) := by decide +kernel
theorem dX3_isWidth_11 : decode cX3_isWidth 11 = .ok (.iconst 4, 1) := by decide +kernel
theorem dX3_isWidth_12 : decode cX3_isWidth 12 = .ok (.if_icmp .ne 7, 3) := by decide +kernel
theorem dX3_isWidth_15 : decode cX3_isWidth 15 = .ok (.iconst 1, 1) := by decide +kernel
theorem dX3_isWidth_16 : decode cX3_isWidth 16 = .ok (.goto 4, 3) := by decide +kernel
theorem dX3_isWidth_19 : decode cX3_isWidth 19 = .ok (.iconst 0, 1) := by decide +kernel
theorem dX3_isWidth_20 : decode cX3_isWidth 20 = .ok (.ireturn, 1) := by decide +kernel
theorem dX3_isSize_0 : decode cX3_isSize 0 = .ok (.iload_n 0, 1) := by decide +kernel
theorem dX3_isSize_1 : decode cX3_isSize 1 = .ok (.sipush 256, 3) := by decide +kernel
theorem dX3_isSize_4 : decode cX3_isSize 4 = .ok (.if_icmp .lt 22, 3) := by decide +kernel
theorem dX3_isSize_7 : decode cX3_isSize 7 = .ok (.iload_n 0, 1) := by decide +kernel
theorem dX3_isSize_8 : decode cX3_isSize 8 = .ok (.sipush 8192, 3) := by decide +kernel
theorem dX3_isSize_11 : decode cX3_isSize 11 = .ok (.if_icmp .gt 15, 3) := by decide +kernel
theorem dX3_isSize_14 : decode cX3_isSize 14 = .ok (.iload_n 0, 1) := by decide +kernel
theorem dX3_isSize_15 : decode cX3_isSize 15 = .ok (.sipush 256, 3) := by decide +kernel
theorem dX3_isSize_18 : decode cX3_isSize 18 = .ok (.irem, 1) := by decide +kernel
theorem dX3_isSize_19 : decode cX3_isSize 19 = .ok (.ifCond .ne 7, 3) := by decide +kernel
theorem dX3_isSize_22 : decode cX3_isSize 22 = .ok (.iconst 1, 1) := by decide +kernel
theorem dX3_isSize_23 : decode cX3_isSize 23 = .ok (.goto 4, 3) := by decide +kernel
theorem dX3_isSize_26 : decode cX3_isSize 26 = .ok (.iconst 0, 1) := by decide +kernel
theorem dX3_isSize_27 : decode cX3_isSize 27 = .ok (.ireturn, 1) := by decide +kernel
set_option maxRecDepth 20000 in
theorem ggX3_make_X2_gapFor : GoodIn wsX3_make wsX2_gapFor := goodIn_r _ [7, 8, 9, 10, 11, 6, 12, 13, 14, 15, 16, 17, 18, 19, 20, 50, 51, 52, 53, 54, 55] (by decide +kernel) (by decide +kernel)
set_option maxRecDepth 20000 in
theorem gX3_make_X2_gapFor : GoodIn wsX3_make (wsV RX3 91 RX2 yX2_gapFor wsX2_gapFor) := goodIn_app (goodIn_of _ (by decide +kernel)) ggX3_make_X2_gapFor
set_option maxRecDepth 20000 in
theorem ggX3_make_X2_gapBegin : GoodIn wsX3_make wsX2_gapBegin := goodIn_r _ [18, 13, 19, 8, 14, 20, 50, 51, 52, 53, 54, 55] (by decide +kernel) (by decide +kernel)
set_option maxRecDepth 20000 in
theorem gX3_make_X2_gapBegin : GoodIn wsX3_make (wsV RX3 95 RX2 yX2_gapBegin wsX2_gapBegin) := goodIn_app (goodIn_of _ (by decide +kernel)) ggX3_make_X2_gapBegin
set_option maxRecDepth 20000 in
theorem ggX3_make_X2_addBlock : GoodIn wsX3_make wsX2_addBlock := goodIn_r _ [25, 8, 14, 20, 13, 26, 27, 28, 29, 19, 30, 31, 32, 6, 33, 34, 35, 36, 37, 38, 39, 40, 41, 50, 51, 52, 53, 54, 55] (by decide +kernel) (by decide +kernel)
set_option maxRecDepth 20000 in
theorem gX3_make_X2_addBlock : GoodIn wsX3_make (wsV RX3 98 RX2 yX2_addBlock wsX2_addBlock) := goodIn_app (goodIn_of _ (by decide +kernel)) ggX3_make_X2_addBlock
theorem dX3_make_0 : decode cX3_make 0 = .ok (.iload_n 1, 1) := by decide +kernel
theorem dX3_make_1 : decode cX3_make 1 = .ok (.iconst 1, 1) := by decide +kernel
theorem dX3_make_2 : decode cX3_make 2 = .ok (.if_icmp .ge 6, 3) := by decide +kernel
theorem dX3_make_5 : decode cX3_make 5 = .ok (.bipush (-11), 2) := by decide +kernel
theorem dX3_make_7 : decode cX3_make 7 = .ok (.ireturn, 1) := by decide +kernel
theorem dX3_make_8 : decode cX3_make 8 = .ok (.aload_n 0, 1) := by decide +kernel
theorem dX3_make_9 : decode cX3_make 9 = .ok (.getfield 30, 3) := by decide +kernel
theorem dX3_make_12 : decode cX3_make 12 = .ok (.getfield 80, 3) := by decide +kernel
theorem dX3_make_15 : decode cX3_make 15 = .ok (.bipush 64, 2) := by decide +kernel
theorem dX3_make_17 : decode cX3_make 17 = .ok (.if_icmp .lt 5, 3) := by decide +kernel
theorem dX3_make_20 : decode cX3_make 20 = .ok (.iconst 0, 1) := by decide +kernel
theorem dX3_make_21 : decode cX3_make 21 = .ok (.ireturn, 1) := by decide +kernel
theorem dX3_make_22 : decode cX3_make 22 = .ok (.aload_n 0, 1) := by decide +kernel
theorem dX3_make_23 : decode cX3_make 23 = .ok (.getfield 30, 3) := by decide +kernel
theorem dX3_make_26 : decode cX3_make 26 = .ok (.iload_n 1, 1) := by decide +kernel
theorem dX3_make_27 : decode cX3_make 27 = .ok (.invokevirtual 91, 3) := by decide +kernel
theorem dX3_make_30 : decode cX3_make 30 = .ok (.istore_n 2, 1) := by decide +kernel
theorem dX3_make_31 : decode cX3_make 31 = .ok (.aload_n 0, 1) := by decide +kernel
theorem dX3_make_32 : decode cX3_make 32 = .ok (.getfield 30, 3) := by decide +kernel
theorem dX3_make_35 : decode cX3_make 35 = .ok (.iload_n 2, 1) := by decide +kernel
theorem dX3_make_36 : decode cX3_make 36 = .ok (.invokevirtual 95, 3) := by decide +kernel
theorem dX3_make_39 : decode cX3_make 39 = .ok (.istore_n 3, 1) := by decide +kernel
theorem dX3_make_40 : decode cX3_make 40 = .ok (.iload_n 1, 1) := by decide +kernel
theorem dX3_make_41 : decode cX3_make 41 = .ok (.sipush 8192, 3) := by decide +kernel
theorem dX3_make_44 : decode cX3_make 44 = .ok (.iload_n 3, 1) := by decide +kernel
theorem dX3_make_45 : decode cX3_make 45 = .ok (.isub, 1) := by decide +kernel
theorem dX3_make_46 : decode cX3_make 46 = .ok (.if_icmp .le 5, 3) := by decide +kernel
theorem dX3_make_49 : decode cX3_make 49 = .ok (.iconst 0, 1) := by decide +kernel
theorem dX3_make_50 : decode cX3_make 50 = .ok (.ireturn, 1) := by decide +kernel
theorem dX3_make_51 : decode cX3_make 51 = .ok (.aload_n 0, 1) := by decide +kernel
theorem dX3_make_52 : decode cX3_make 52 = .ok (.getfield 30, 3) := by decide +kernel
theorem dX3_make_55 : decode cX3_make 55 = .ok (.iload_n 2, 1) := by decide +kernel
theorem dX3_make_56 : decode cX3_make 56 = .ok (.iload_n 3, 1) := by decide +kernel
theorem dX3_make_57 : decode cX3_make 57 = .ok (.iload_n 1, 1) := by decide +kernel
theorem dX3_make_58 : decode cX3_make 58 = .ok (.invokevirtual 98, 3) := by decide +kernel
theorem dX3_make_61 : decode cX3_make 61 = .ok (.iload_n 3, 1) := by decide +kernel
theorem dX3_make_62 : decode cX3_make 62 = .ok (.ireturn, 1) := by decide +kernel
set_option maxRecDepth 20000 in
theorem ggX3_free_X2_blockAt : GoodIn wsX3_free wsX2_blockAt := goodIn_r _ [7, 8, 9, 41, 42, 43, 44, 45, 46] (by decide +kernel) (by decide +kernel)
set_option maxRecDepth 20000 in
theorem gX3_free_X2_blockAt : GoodIn wsX3_free (wsV RX3 101 RX2 yX2_blockAt wsX2_blockAt) := goodIn_app (goodIn_of _ (by decide +kernel)) ggX3_free_X2_blockAt
set_option maxRecDepth 20000 in
theorem ggX3_free_X2_removeBlock : GoodIn wsX3_free wsX2_removeBlock := goodIn_r _ [13, 9, 8, 14, 15, 16, 17, 18, 19, 20, 21, 22, 6, 23, 24, 25, 26, 27, 28, 29, 30, 31, 32, 41, 42, 43, 44, 45, 46] (by decide +kernel) (by decide +kernel)
set_option maxRecDepth 20000 in
theorem gX3_free_X2_removeBlock : GoodIn wsX3_free (wsV RX3 108 RX2 yX2_removeBlock wsX2_removeBlock) := goodIn_app (goodIn_of _ (by decide +kernel)) ggX3_free_X2_removeBlock
theorem dX3_free_0 : decode cX3_free 0 = .ok (.aload_n 0, 1) := by decide +kernel
theorem dX3_free_1 : decode cX3_free 1 = .ok (.getfield 30, 3) := by decide +kernel
theorem dX3_free_4 : decode cX3_free 4 = .ok (.iload_n 1, 1) := by decide +kernel
theorem dX3_free_5 : decode cX3_free 5 = .ok (.invokevirtual 101, 3) := by decide +kernel
theorem dX3_free_8 : decode cX3_free 8 = .ok (.istore_n 2, 1) := by decide +kernel
theorem dX3_free_9 : decode cX3_free 9 = .ok (.iload_n 2, 1) := by decide +kernel
theorem dX3_free_10 : decode cX3_free 10 = .ok (.iconst (-1), 1) := by decide +kernel
theorem dX3_free_11 : decode cX3_free 11 = .ok (.if_icmp .ne 6, 3) := by decide +kernel
theorem dX3_free_14 : decode cX3_free 14 = .ok (.bipush (-11), 2) := by decide +kernel
theorem dX3_free_16 : decode cX3_free 16 = .ok (.ireturn, 1) := by decide +kernel
theorem dX3_free_17 : decode cX3_free 17 = .ok (.aload_n 0, 1) := by decide +kernel
theorem dX3_free_18 : decode cX3_free 18 = .ok (.getfield 30, 3) := by decide +kernel
theorem dX3_free_21 : decode cX3_free 21 = .ok (.getfield 104, 3) := by decide +kernel
theorem dX3_free_24 : decode cX3_free 24 = .ok (.iload_n 2, 1) := by decide +kernel
theorem dX3_free_25 : decode cX3_free 25 = .ok (.iaload, 1) := by decide +kernel
theorem dX3_free_26 : decode cX3_free 26 = .ok (.istore_n 3, 1) := by decide +kernel
theorem dX3_free_27 : decode cX3_free 27 = .ok (.aload_n 0, 1) := by decide +kernel
theorem dX3_free_28 : decode cX3_free 28 = .ok (.getfield 30, 3) := by decide +kernel
theorem dX3_free_31 : decode cX3_free 31 = .ok (.iload_n 2, 1) := by decide +kernel
theorem dX3_free_32 : decode cX3_free 32 = .ok (.invokevirtual 108, 3) := by decide +kernel
theorem dX3_free_35 : decode cX3_free 35 = .ok (.iload_n 3, 1) := by decide +kernel
theorem dX3_free_36 : decode cX3_free 36 = .ok (.ireturn, 1) := by decide +kernel
set_option maxRecDepth 20000 in
theorem ggX3_block_X2_gapLength : GoodIn wsX3_block wsX2_gapLength := goodIn_r _ [9, 10, 11, 12, 13, 14, 15, 8, 16, 17, 18, 27, 28, 29, 30, 31, 32] (by decide +kernel) (by decide +kernel)
set_option maxRecDepth 20000 in
theorem gX3_block_X2_gapLength : GoodIn wsX3_block (wsV RX3 114 RX2 yX2_gapLength wsX2_gapLength) := goodIn_app (goodIn_of _ (by decide +kernel)) ggX3_block_X2_gapLength
theorem dX3_block_0 : decode cX3_block 0 = .ok (.iload_n 1, 1) := by decide +kernel
theorem dX3_block_1 : decode cX3_block 1 = .ok (.ifCond .lt 14, 3) := by decide +kernel
theorem dX3_block_4 : decode cX3_block 4 = .ok (.iload_n 1, 1) := by decide +kernel
theorem dX3_block_5 : decode cX3_block 5 = .ok (.aload_n 0, 1) := by decide +kernel
theorem dX3_block_6 : decode cX3_block 6 = .ok (.getfield 30, 3) := by decide +kernel
theorem dX3_block_9 : decode cX3_block 9 = .ok (.getfield 80, 3) := by decide +kernel
theorem dX3_block_12 : decode cX3_block 12 = .ok (.if_icmp .lt 6, 3) := by decide +kernel
theorem dX3_block_15 : decode cX3_block 15 = .ok (.bipush (-11), 2) := by decide +kernel
theorem dX3_block_17 : decode cX3_block 17 = .ok (.ireturn, 1) := by decide +kernel
theorem dX3_block_18 : decode cX3_block 18 = .ok (.iload_n 2, 1) := by decide +kernel
theorem dX3_block_19 : decode cX3_block 19 = .ok (.tableswitch 56 0 2 #[25, 35, 45], 25) := by decide +kernel
theorem dX3_block_44 : decode cX3_block 44 = .ok (.aload_n 0, 1) := by decide +kernel
theorem dX3_block_45 : decode cX3_block 45 = .ok (.getfield 30, 3) := by decide +kernel
theorem dX3_block_48 : decode cX3_block 48 = .ok (.getfield 111, 3) := by decide +kernel
theorem dX3_block_51 : decode cX3_block 51 = .ok (.iload_n 1, 1) := by decide +kernel
theorem dX3_block_52 : decode cX3_block 52 = .ok (.iaload, 1) := by decide +kernel
theorem dX3_block_53 : decode cX3_block 53 = .ok (.ireturn, 1) := by decide +kernel
theorem dX3_block_54 : decode cX3_block 54 = .ok (.aload_n 0, 1) := by decide +kernel
theorem dX3_block_55 : decode cX3_block 55 = .ok (.getfield 30, 3) := by decide +kernel
theorem dX3_block_58 : decode cX3_block 58 = .ok (.getfield 104, 3) := by decide +kernel
theorem dX3_block_61 : decode cX3_block 61 = .ok (.iload_n 1, 1) := by decide +kernel
theorem dX3_block_62 : decode cX3_block 62 = .ok (.iaload, 1) := by decide +kernel
theorem dX3_block_63 : decode cX3_block 63 = .ok (.ireturn, 1) := by decide +kernel
theorem dX3_block_64 : decode cX3_block 64 = .ok (.aload_n 0, 1) := by decide +kernel
theorem dX3_block_65 : decode cX3_block 65 = .ok (.getfield 30, 3) := by decide +kernel
theorem dX3_block_68 : decode cX3_block 68 = .ok (.iload_n 1, 1) := by decide +kernel
theorem dX3_block_69 : decode cX3_block 69 = .ok (.iconst 1, 1) := by decide +kernel
theorem dX3_block_70 : decode cX3_block 70 = .ok (.iadd, 1) := by decide +kernel
theorem dX3_block_71 : decode cX3_block 71 = .ok (.invokevirtual 114, 3) := by decide +kernel
theorem dX3_block_74 : decode cX3_block 74 = .ok (.ireturn, 1) := by decide +kernel
theorem dX3_block_75 : decode cX3_block 75 = .ok (.bipush (-11), 2) := by decide +kernel
theorem dX3_block_77 : decode cX3_block 77 = .ok (.ireturn, 1) := by decide +kernel
set_option maxRecDepth 20000 in
theorem ggX3_linear_X3_isSearch : GoodIn wsX3_linear wsX3_isSearch := goodIn_r _ [10, 11, 12, 9, 13] (by decide +kernel) (by decide +kernel)
set_option maxRecDepth 20000 in
theorem gX3_linear_X3_isSearch : GoodIn wsX3_linear (va_wsS RX3 117 yX3_isSearch wsX3_isSearch) := goodIn_app (goodIn_of _ (by decide +kernel)) ggX3_linear_X3_isSearch
set_option maxRecDepth 20000 in
theorem ggX3_linear_X1_load : GoodIn wsX3_linear wsX1_load := goodIn_r _ [18, 19, 20, 21, 22, 23, 24, 25, 26, 27, 28, 29, 30, 31, 61, 62, 63, 64, 65, 66, 67, 68] (by decide +kernel) (by decide +kernel)
set_option maxRecDepth 20000 in
theorem gX3_linear_X1_load : GoodIn wsX3_linear (wsV RX3 121 RX1 yX1_load wsX1_load) := goodIn_app (goodIn_of _ (by decide +kernel)) ggX3_linear_X1_load
set_option maxRecDepth 20000 in
theorem ggX3_linear_X3_look : GoodIn wsX3_linear wsX3_look := goodIn_r _ [35, 2, 1, 36, 37, 27, 28, 29, 30, 31, 38, 39, 40, 17, 41, 19, 21, 20, 42, 43, 44, 45, 46, 53, 54, 55, 56, 57, 58, 59, 60, 61, 62, 63, 64, 65, 66, 67, 68] (by decide +kernel) (by decide +kernel)
set_option maxRecDepth 20000 in
theorem gX3_linear_X3_look : GoodIn wsX3_linear (wsV RX3 130 RX3 yX3_look wsX3_look) := goodIn_app (goodIn_of _ (by decide +kernel)) ggX3_linear_X3_look
set_option maxRecDepth 20000 in
theorem ggX3_linear_X3_foundAnswer : GoodIn wsX3_linear wsX3_foundAnswer := goodIn_r _ [49] (by decide +kernel) (by decide +kernel)
set_option maxRecDepth 20000 in
theorem gX3_linear_X3_foundAnswer : GoodIn wsX3_linear (va_wsS RX3 134 yX3_foundAnswer wsX3_foundAnswer) := goodIn_app (goodIn_of _ (by decide +kernel)) ggX3_linear_X3_foundAnswer
set_option maxRecDepth 20000 in
theorem ggX3_linear_X3_noneAnswer : GoodIn wsX3_linear wsX3_noneAnswer := goodIn_r _ [52] (by decide +kernel) (by decide +kernel)
set_option maxRecDepth 20000 in
theorem gX3_linear_X3_noneAnswer : GoodIn wsX3_linear (va_wsS RX3 138 yX3_noneAnswer wsX3_noneAnswer) := goodIn_app (goodIn_of _ (by decide +kernel)) ggX3_linear_X3_noneAnswer
theorem dX3_linear_0 : decode cX3_linear 0 = .ok (.iload 4, 2) := by decide +kernel
theorem dX3_linear_2 : decode cX3_linear 2 = .ok (.ifCond .lt 21, 3) := by decide +kernel
theorem dX3_linear_5 : decode cX3_linear 5 = .ok (.iload 5, 2) := by decide +kernel
theorem dX3_linear_7 : decode cX3_linear 7 = .ok (.iconst (-1), 1) := by decide +kernel
theorem dX3_linear_8 : decode cX3_linear 8 = .ok (.if_icmp .lt 15, 3) := by decide +kernel
theorem dX3_linear_11 : decode cX3_linear 11 = .ok (.iload_n 2, 1) := by decide +kernel
theorem dX3_linear_12 : decode cX3_linear 12 = .ok (.iload_n 3, 1) := by decide +kernel
theorem dX3_linear_13 : decode cX3_linear 13 = .ok (.iload 6, 2) := by decide +kernel
theorem dX3_linear_15 : decode cX3_linear 15 = .ok (.iload 7, 2) := by decide +kernel
theorem dX3_linear_17 : decode cX3_linear 17 = .ok (.invokestatic 117, 3) := by decide +kernel
theorem dX3_linear_20 : decode cX3_linear 20 = .ok (.ifCond .ne 6, 3) := by decide +kernel
theorem dX3_linear_23 : decode cX3_linear 23 = .ok (.bipush (-11), 2) := by decide +kernel
theorem dX3_linear_25 : decode cX3_linear 25 = .ok (.ireturn, 1) := by decide +kernel
theorem dX3_linear_26 : decode cX3_linear 26 = .ok (.aload_n 0, 1) := by decide +kernel
theorem dX3_linear_27 : decode cX3_linear 27 = .ok (.getfield 18, 3) := by decide +kernel
theorem dX3_linear_30 : decode cX3_linear 30 = .ok (.aload_n 0, 1) := by decide +kernel
theorem dX3_linear_31 : decode cX3_linear 31 = .ok (.getfield 30, 3) := by decide +kernel
theorem dX3_linear_34 : decode cX3_linear 34 = .ok (.iload_n 1, 1) := by decide +kernel
theorem dX3_linear_35 : decode cX3_linear 35 = .ok (.iload_n 2, 1) := by decide +kernel
theorem dX3_linear_36 : decode cX3_linear 36 = .ok (.iload 7, 2) := by decide +kernel
theorem dX3_linear_38 : decode cX3_linear 38 = .ok (.invokevirtual 121, 3) := by decide +kernel
theorem dX3_linear_41 : decode cX3_linear 41 = .ok (.ifCond .ne 6, 3) := by decide +kernel
theorem dX3_linear_44 : decode cX3_linear 44 = .ok (.bipush (-12), 2) := by decide +kernel
theorem dX3_linear_46 : decode cX3_linear 46 = .ok (.ireturn, 1) := by decide +kernel
theorem dX3_linear_47 : decode cX3_linear 47 = .ok (.iload 5, 2) := by decide +kernel
theorem dX3_linear_49 : decode cX3_linear 49 = .ok (.iconst (-1), 1) := by decide +kernel
theorem dX3_linear_50 : decode cX3_linear 50 = .ok (.if_icmp .ne 9, 3) := by decide +kernel
theorem dX3_linear_53 : decode cX3_linear 53 = .ok (.sipush 3000, 3) := by decide +kernel
theorem dX3_linear_56 : decode cX3_linear 56 = .ok (.goto 11, 3) := by decide +kernel
theorem dX3_linear_59 : decode cX3_linear 59 = .ok (.iload 5, 2) := by decide +kernel
theorem dX3_linear_61 : decode cX3_linear 61 = .ok (.sipush 3000, 3) := by decide +kernel
theorem dX3_linear_64 : decode cX3_linear 64 = .ok (.invokestatic 125, 3) := by decide +kernel
theorem dX3_linear_67 : decode cX3_linear 67 = .ok (.istore 8, 2) := by decide +kernel
theorem dX3_linear_69 : decode cX3_linear 69 = .ok (.iconst 0, 1) := by decide +kernel
theorem dX3_linear_70 : decode cX3_linear 70 = .ok (.istore 9, 2) := by decide +kernel
theorem dX3_linear_72 : decode cX3_linear 72 = .ok (.iload 9, 2) := by decide +kernel
theorem dX3_linear_74 : decode cX3_linear 74 = .ok (.iload 8, 2) := by decide +kernel
theorem dX3_linear_76 : decode cX3_linear 76 = .ok (.if_icmp .ge 73, 3) := by decide +kernel
theorem dX3_linear_79 : decode cX3_linear 79 = .ok (.iload_n 3, 1) := by decide +kernel
theorem dX3_linear_80 : decode cX3_linear 80 = .ok (.i2l, 1) := by decide +kernel
theorem dX3_linear_81 : decode cX3_linear 81 = .ok (.iload 9, 2) := by decide +kernel
theorem dX3_linear_83 : decode cX3_linear 83 = .ok (.i2l, 1) := by decide +kernel
theorem dX3_linear_84 : decode cX3_linear 84 = .ok (.iload 4, 2) := by decide +kernel
theorem dX3_linear_86 : decode cX3_linear 86 = .ok (.i2l, 1) := by decide +kernel
theorem dX3_linear_87 : decode cX3_linear 87 = .ok (.lmul, 1) := by decide +kernel
theorem dX3_linear_88 : decode cX3_linear 88 = .ok (.ladd, 1) := by decide +kernel
theorem dX3_linear_89 : decode cX3_linear 89 = .ok (.lstore 10, 2) := by decide +kernel
theorem dX3_linear_91 : decode cX3_linear 91 = .ok (.aload_n 0, 1) := by decide +kernel
theorem dX3_linear_92 : decode cX3_linear 92 = .ok (.lload 10, 2) := by decide +kernel
theorem dX3_linear_94 : decode cX3_linear 94 = .ok (.iload 6, 2) := by decide +kernel
theorem dX3_linear_96 : decode cX3_linear 96 = .ok (.i2l, 1) := by decide +kernel
theorem dX3_linear_97 : decode cX3_linear 97 = .ok (.ladd, 1) := by decide +kernel
theorem dX3_linear_98 : decode cX3_linear 98 = .ok (.iload 7, 2) := by decide +kernel
theorem dX3_linear_100 : decode cX3_linear 100 = .ok (.invokevirtual 130, 3) := by decide +kernel
theorem dX3_linear_103 : decode cX3_linear 103 = .ok (.istore 12, 2) := by decide +kernel
theorem dX3_linear_105 : decode cX3_linear 105 = .ok (.iload 12, 2) := by decide +kernel
theorem dX3_linear_107 : decode cX3_linear 107 = .ok (.iconst 1, 1) := by decide +kernel
theorem dX3_linear_108 : decode cX3_linear 108 = .ok (.if_icmp .ne 13, 3) := by decide +kernel
theorem dX3_linear_111 : decode cX3_linear 111 = .ok (.iload 9, 2) := by decide +kernel
theorem dX3_linear_113 : decode cX3_linear 113 = .ok (.lload 10, 2) := by decide +kernel
theorem dX3_linear_115 : decode cX3_linear 115 = .ok (.iload 7, 2) := by decide +kernel
theorem dX3_linear_117 : decode cX3_linear 117 = .ok (.invokestatic 134, 3) := by decide +kernel
theorem dX3_linear_120 : decode cX3_linear 120 = .ok (.ireturn, 1) := by decide +kernel
theorem dX3_linear_121 : decode cX3_linear 121 = .ok (.iload 12, 2) := by decide +kernel
theorem dX3_linear_123 : decode cX3_linear 123 = .ok (.iconst 2, 1) := by decide +kernel
theorem dX3_linear_124 : decode cX3_linear 124 = .ok (.if_icmp .ne 9, 3) := by decide +kernel
theorem dX3_linear_127 : decode cX3_linear 127 = .ok (.iload 7, 2) := by decide +kernel
theorem dX3_linear_129 : decode cX3_linear 129 = .ok (.invokestatic 138, 3) := by decide +kernel
theorem dX3_linear_132 : decode cX3_linear 132 = .ok (.ireturn, 1) := by decide +kernel
theorem dX3_linear_133 : decode cX3_linear 133 = .ok (.iload 12, 2) := by decide +kernel
theorem dX3_linear_135 : decode cX3_linear 135 = .ok (.bipush (-12), 2) := by decide +kernel
theorem dX3_linear_137 : decode cX3_linear 137 = .ok (.if_icmp .ne 6, 3) := by decide +kernel
theorem dX3_linear_140 : decode cX3_linear 140 = .ok (.bipush (-12), 2) := by decide +kernel
theorem dX3_linear_142 : decode cX3_linear 142 = .ok (.ireturn, 1) := by decide +kernel
theorem dX3_linear_143 : decode cX3_linear 143 = .ok (.iinc 9 1, 3) := by decide +kernel
theorem dX3_linear_146 : decode cX3_linear 146 = .ok (.goto (-74), 3) := by decide +kernel
theorem dX3_linear_149 : decode cX3_linear 149 = .ok (.iload 5, 2) := by decide +kernel
theorem dX3_linear_151 : decode cX3_linear 151 = .ok (.iload 8, 2) := by decide +kernel
theorem dX3_linear_153 : decode cX3_linear 153 = .ok (.if_icmp .ne 11, 3) := by decide +kernel
theorem dX3_linear_156 : decode cX3_linear 156 = .ok (.iload 7, 2) := by decide +kernel
theorem dX3_linear_158 : decode cX3_linear 158 = .ok (.invokestatic 138, 3) := by decide +kernel
theorem dX3_linear_161 : decode cX3_linear 161 = .ok (.goto 5, 3) := by decide +kernel
theorem dX3_linear_164 : decode cX3_linear 164 = .ok (.bipush (-16), 2) := by decide +kernel
theorem dX3_linear_166 : decode cX3_linear 166 = .ok (.ireturn, 1) := by decide +kernel
set_option maxRecDepth 20000 in
theorem ggX3_binary_X3_isSearch : GoodIn wsX3_binary wsX3_isSearch := goodIn_r _ [7, 8, 9, 6, 10] (by decide +kernel) (by decide +kernel)
set_option maxRecDepth 20000 in
theorem gX3_binary_X3_isSearch : GoodIn wsX3_binary (va_wsS RX3 117 yX3_isSearch wsX3_isSearch) := goodIn_app (goodIn_of _ (by decide +kernel)) ggX3_binary_X3_isSearch
set_option maxRecDepth 20000 in
theorem ggX3_binary_X1_load : GoodIn wsX3_binary wsX1_load := goodIn_r _ [15, 16, 17, 18, 19, 20, 21, 22, 23, 24, 25, 26, 27, 28, 48, 49, 50, 51, 52, 53, 54, 55] (by decide +kernel) (by decide +kernel)
set_option maxRecDepth 20000 in
theorem gX3_binary_X1_load : GoodIn wsX3_binary (wsV RX3 121 RX1 yX1_load wsX1_load) := goodIn_app (goodIn_of _ (by decide +kernel)) ggX3_binary_X1_load
set_option maxRecDepth 20000 in
theorem ggX3_binary_X2_has : GoodIn wsX3_binary wsX2_has := goodIn_r _ [27, 28, 50, 51, 52, 53, 54, 55] (by decide +kernel) (by decide +kernel)
set_option maxRecDepth 20000 in
theorem gX3_binary_X2_has : GoodIn wsX3_binary (wsV RX3 43 RX2 yX2_has wsX2_has) := goodIn_app (goodIn_of _ (by decide +kernel)) ggX3_binary_X2_has
set_option maxRecDepth 20000 in
theorem ggX3_binary_X1_orderOf : GoodIn wsX3_binary wsX1_orderOf := goodIn_r _ [33, 16, 18, 17, 48, 49, 50, 51, 52, 53, 54, 55] (by decide +kernel) (by decide +kernel)
set_option maxRecDepth 20000 in
theorem gX3_binary_X1_orderOf : GoodIn wsX3_binary (wsV RX3 143 RX1 yX1_orderOf wsX1_orderOf) := goodIn_app (goodIn_of _ (by decide +kernel)) ggX3_binary_X1_orderOf
set_option maxRecDepth 20000 in
theorem ggX3_binary_X3_foundAnswer : GoodIn wsX3_binary wsX3_foundAnswer := goodIn_r _ [36] (by decide +kernel) (by decide +kernel)
set_option maxRecDepth 20000 in
theorem gX3_binary_X3_foundAnswer : GoodIn wsX3_binary (va_wsS RX3 134 yX3_foundAnswer wsX3_foundAnswer) := goodIn_app (goodIn_of _ (by decide +kernel)) ggX3_binary_X3_foundAnswer
set_option maxRecDepth 20000 in
theorem ggX3_binary_X3_noneAnswer : GoodIn wsX3_binary wsX3_noneAnswer := goodIn_r _ [39] (by decide +kernel) (by decide +kernel)
set_option maxRecDepth 20000 in
theorem gX3_binary_X3_noneAnswer : GoodIn wsX3_binary (va_wsS RX3 138 yX3_noneAnswer wsX3_noneAnswer) := goodIn_app (goodIn_of _ (by decide +kernel)) ggX3_binary_X3_noneAnswer
theorem dX3_binary_0 : decode cX3_binary 0 = .ok (.iload 4, 2) := by decide +kernel
theorem dX3_binary_2 : decode cX3_binary 2 = .ok (.ifCond .lt 27, 3) := by decide +kernel
theorem dX3_binary_5 : decode cX3_binary 5 = .ok (.iload 5, 2) := by decide +kernel
theorem dX3_binary_7 : decode cX3_binary 7 = .ok (.ifCond .lt 22, 3) := by decide +kernel
theorem dX3_binary_10 : decode cX3_binary 10 = .ok (.iload_n 2, 1) := by decide +kernel
theorem dX3_binary_11 : decode cX3_binary 11 = .ok (.iload_n 3, 1) := by decide +kernel
theorem dX3_binary_12 : decode cX3_binary 12 = .ok (.iload 6, 2) := by decide +kernel
theorem dX3_binary_14 : decode cX3_binary 14 = .ok (.iload 7, 2) := by decide +kernel
theorem dX3_binary_16 : decode cX3_binary 16 = .ok (.invokestatic 117, 3) := by decide +kernel
theorem dX3_binary_19 : decode cX3_binary 19 = .ok (.ifCond .eq 10, 3) := by decide +kernel
theorem dX3_binary_22 : decode cX3_binary 22 = .ok (.iload 7, 2) := by decide +kernel
theorem dX3_binary_24 : decode cX3_binary 24 = .ok (.iconst 2, 1) := by decide +kernel
theorem dX3_binary_25 : decode cX3_binary 25 = .ok (.iand, 1) := by decide +kernel
theorem dX3_binary_26 : decode cX3_binary 26 = .ok (.ifCond .eq 6, 3) := by decide +kernel
theorem dX3_binary_29 : decode cX3_binary 29 = .ok (.bipush (-11), 2) := by decide +kernel
theorem dX3_binary_31 : decode cX3_binary 31 = .ok (.ireturn, 1) := by decide +kernel
theorem dX3_binary_32 : decode cX3_binary 32 = .ok (.aload_n 0, 1) := by decide +kernel
theorem dX3_binary_33 : decode cX3_binary 33 = .ok (.getfield 18, 3) := by decide +kernel
theorem dX3_binary_36 : decode cX3_binary 36 = .ok (.aload_n 0, 1) := by decide +kernel
theorem dX3_binary_37 : decode cX3_binary 37 = .ok (.getfield 30, 3) := by decide +kernel
theorem dX3_binary_40 : decode cX3_binary 40 = .ok (.iload_n 1, 1) := by decide +kernel
theorem dX3_binary_41 : decode cX3_binary 41 = .ok (.iload_n 2, 1) := by decide +kernel
theorem dX3_binary_42 : decode cX3_binary 42 = .ok (.iload 7, 2) := by decide +kernel
theorem dX3_binary_44 : decode cX3_binary 44 = .ok (.invokevirtual 121, 3) := by decide +kernel
theorem dX3_binary_47 : decode cX3_binary 47 = .ok (.ifCond .ne 6, 3) := by decide +kernel
theorem dX3_binary_50 : decode cX3_binary 50 = .ok (.bipush (-12), 2) := by decide +kernel
theorem dX3_binary_52 : decode cX3_binary 52 = .ok (.ireturn, 1) := by decide +kernel
theorem dX3_binary_53 : decode cX3_binary 53 = .ok (.lconst 0, 1) := by decide +kernel
theorem dX3_binary_54 : decode cX3_binary 54 = .ok (.lstore 8, 2) := by decide +kernel
theorem dX3_binary_56 : decode cX3_binary 56 = .ok (.iload 5, 2) := by decide +kernel
theorem dX3_binary_58 : decode cX3_binary 58 = .ok (.i2l, 1) := by decide +kernel
theorem dX3_binary_59 : decode cX3_binary 59 = .ok (.lstore 10, 2) := by decide +kernel
theorem dX3_binary_61 : decode cX3_binary 61 = .ok (.iconst 0, 1) := by decide +kernel
theorem dX3_binary_62 : decode cX3_binary 62 = .ok (.istore 12, 2) := by decide +kernel
theorem dX3_binary_64 : decode cX3_binary 64 = .ok (.iload 12, 2) := by decide +kernel
theorem dX3_binary_66 : decode cX3_binary 66 = .ok (.bipush 40, 2) := by decide +kernel
theorem dX3_binary_68 : decode cX3_binary 68 = .ok (.if_icmp .ge 113, 3) := by decide +kernel
theorem dX3_binary_71 : decode cX3_binary 71 = .ok (.lload 8, 2) := by decide +kernel
theorem dX3_binary_73 : decode cX3_binary 73 = .ok (.lload 10, 2) := by decide +kernel
theorem dX3_binary_75 : decode cX3_binary 75 = .ok (.lcmp, 1) := by decide +kernel
theorem dX3_binary_76 : decode cX3_binary 76 = .ok (.ifCond .ge 105, 3) := by decide +kernel
theorem dX3_binary_79 : decode cX3_binary 79 = .ok (.lload 8, 2) := by decide +kernel
theorem dX3_binary_81 : decode cX3_binary 81 = .ok (.lload 10, 2) := by decide +kernel
theorem dX3_binary_83 : decode cX3_binary 83 = .ok (.ladd, 1) := by decide +kernel
theorem dX3_binary_84 : decode cX3_binary 84 = .ok (.ldc2_w 141, 3) := by decide +kernel
theorem dX3_binary_87 : decode cX3_binary 87 = .ok (.ldiv, 1) := by decide +kernel
theorem dX3_binary_88 : decode cX3_binary 88 = .ok (.lstore 13, 2) := by decide +kernel
theorem dX3_binary_90 : decode cX3_binary 90 = .ok (.iload_n 3, 1) := by decide +kernel
theorem dX3_binary_91 : decode cX3_binary 91 = .ok (.i2l, 1) := by decide +kernel
theorem dX3_binary_92 : decode cX3_binary 92 = .ok (.lload 13, 2) := by decide +kernel
theorem dX3_binary_94 : decode cX3_binary 94 = .ok (.iload 4, 2) := by decide +kernel
theorem dX3_binary_96 : decode cX3_binary 96 = .ok (.i2l, 1) := by decide +kernel
theorem dX3_binary_97 : decode cX3_binary 97 = .ok (.lmul, 1) := by decide +kernel
theorem dX3_binary_98 : decode cX3_binary 98 = .ok (.ladd, 1) := by decide +kernel
theorem dX3_binary_99 : decode cX3_binary 99 = .ok (.lstore 15, 2) := by decide +kernel
theorem dX3_binary_101 : decode cX3_binary 101 = .ok (.aload_n 0, 1) := by decide +kernel
theorem dX3_binary_102 : decode cX3_binary 102 = .ok (.getfield 30, 3) := by decide +kernel
theorem dX3_binary_105 : decode cX3_binary 105 = .ok (.lload 15, 2) := by decide +kernel
theorem dX3_binary_107 : decode cX3_binary 107 = .ok (.iload 6, 2) := by decide +kernel
theorem dX3_binary_109 : decode cX3_binary 109 = .ok (.i2l, 1) := by decide +kernel
theorem dX3_binary_110 : decode cX3_binary 110 = .ok (.ladd, 1) := by decide +kernel
theorem dX3_binary_111 : decode cX3_binary 111 = .ok (.iload_n 2, 1) := by decide +kernel
theorem dX3_binary_112 : decode cX3_binary 112 = .ok (.invokevirtual 43, 3) := by decide +kernel
theorem dX3_binary_115 : decode cX3_binary 115 = .ok (.ifCond .ne 6, 3) := by decide +kernel
theorem dX3_binary_118 : decode cX3_binary 118 = .ok (.bipush (-12), 2) := by decide +kernel
theorem dX3_binary_120 : decode cX3_binary 120 = .ok (.ireturn, 1) := by decide +kernel
theorem dX3_binary_121 : decode cX3_binary 121 = .ok (.aload_n 0, 1) := by decide +kernel
theorem dX3_binary_122 : decode cX3_binary 122 = .ok (.getfield 18, 3) := by decide +kernel
theorem dX3_binary_125 : decode cX3_binary 125 = .ok (.aload_n 0, 1) := by decide +kernel
theorem dX3_binary_126 : decode cX3_binary 126 = .ok (.getfield 30, 3) := by decide +kernel
theorem dX3_binary_129 : decode cX3_binary 129 = .ok (.lload 15, 2) := by decide +kernel
theorem dX3_binary_131 : decode cX3_binary 131 = .ok (.iload 6, 2) := by decide +kernel
theorem dX3_binary_133 : decode cX3_binary 133 = .ok (.i2l, 1) := by decide +kernel
theorem dX3_binary_134 : decode cX3_binary 134 = .ok (.ladd, 1) := by decide +kernel
theorem dX3_binary_135 : decode cX3_binary 135 = .ok (.l2i, 1) := by decide +kernel
theorem dX3_binary_136 : decode cX3_binary 136 = .ok (.invokevirtual 143, 3) := by decide +kernel
theorem dX3_binary_139 : decode cX3_binary 139 = .ok (.istore 17, 2) := by decide +kernel
theorem dX3_binary_141 : decode cX3_binary 141 = .ok (.iload 17, 2) := by decide +kernel
theorem dX3_binary_143 : decode cX3_binary 143 = .ok (.ifCond .ne 14, 3) := by decide +kernel
theorem dX3_binary_146 : decode cX3_binary 146 = .ok (.lload 13, 2) := by decide +kernel
theorem dX3_binary_148 : decode cX3_binary 148 = .ok (.l2i, 1) := by decide +kernel
theorem dX3_binary_149 : decode cX3_binary 149 = .ok (.lload 15, 2) := by decide +kernel
theorem dX3_binary_151 : decode cX3_binary 151 = .ok (.iload 7, 2) := by decide +kernel
theorem dX3_binary_153 : decode cX3_binary 153 = .ok (.invokestatic 134, 3) := by decide +kernel
theorem dX3_binary_156 : decode cX3_binary 156 = .ok (.ireturn, 1) := by decide +kernel
theorem dX3_binary_157 : decode cX3_binary 157 = .ok (.iload 17, 2) := by decide +kernel
theorem dX3_binary_159 : decode cX3_binary 159 = .ok (.ifCond .ge 12, 3) := by decide +kernel
theorem dX3_binary_162 : decode cX3_binary 162 = .ok (.lload 13, 2) := by decide +kernel
theorem dX3_binary_164 : decode cX3_binary 164 = .ok (.lconst 1, 1) := by decide +kernel
theorem dX3_binary_165 : decode cX3_binary 165 = .ok (.ladd, 1) := by decide +kernel
theorem dX3_binary_166 : decode cX3_binary 166 = .ok (.lstore 8, 2) := by decide +kernel
theorem dX3_binary_168 : decode cX3_binary 168 = .ok (.goto 7, 3) := by decide +kernel
theorem dX3_binary_171 : decode cX3_binary 171 = .ok (.lload 13, 2) := by decide +kernel
theorem dX3_binary_173 : decode cX3_binary 173 = .ok (.lstore 10, 2) := by decide +kernel
theorem dX3_binary_175 : decode cX3_binary 175 = .ok (.iinc 12 1, 3) := by decide +kernel
theorem dX3_binary_178 : decode cX3_binary 178 = .ok (.goto (-114), 3) := by decide +kernel
theorem dX3_binary_181 : decode cX3_binary 181 = .ok (.iload 7, 2) := by decide +kernel
theorem dX3_binary_183 : decode cX3_binary 183 = .ok (.invokestatic 138, 3) := by decide +kernel
theorem dX3_binary_186 : decode cX3_binary 186 = .ok (.ireturn, 1) := by decide +kernel
set_option maxRecDepth 20000 in
theorem ggX3_linked_X3_isSearch : GoodIn wsX3_linked wsX3_isSearch := goodIn_r _ [6, 7, 8, 5, 9] (by decide +kernel) (by decide +kernel)
set_option maxRecDepth 20000 in
theorem gX3_linked_X3_isSearch : GoodIn wsX3_linked (va_wsS RX3 117 yX3_isSearch wsX3_isSearch) := goodIn_app (goodIn_of _ (by decide +kernel)) ggX3_linked_X3_isSearch
set_option maxRecDepth 20000 in
theorem ggX3_linked_X1_load : GoodIn wsX3_linked wsX1_load := goodIn_r _ [14, 15, 16, 17, 18, 19, 20, 21, 22, 23, 24, 25, 26, 27, 55, 56, 57, 58, 59, 60, 61, 62] (by decide +kernel) (by decide +kernel)
set_option maxRecDepth 20000 in
theorem gX3_linked_X1_load : GoodIn wsX3_linked (wsV RX3 121 RX1 yX1_load wsX1_load) := goodIn_app (goodIn_of _ (by decide +kernel)) ggX3_linked_X1_load
set_option maxRecDepth 20000 in
theorem ggX3_linked_X3_look : GoodIn wsX3_linked wsX3_look := goodIn_r _ [31, 2, 1, 32, 33, 23, 24, 25, 26, 27, 34, 35, 36, 13, 37, 15, 17, 16, 38, 39, 40, 41, 42, 47, 48, 49, 50, 51, 52, 53, 54, 55, 56, 57, 58, 59, 60, 61, 62] (by decide +kernel) (by decide +kernel)
set_option maxRecDepth 20000 in
theorem gX3_linked_X3_look : GoodIn wsX3_linked (wsV RX3 130 RX3 yX3_look wsX3_look) := goodIn_app (goodIn_of _ (by decide +kernel)) ggX3_linked_X3_look
set_option maxRecDepth 20000 in
theorem ggX3_linked_X2_has : GoodIn wsX3_linked wsX2_has := goodIn_r _ [26, 27, 57, 58, 59, 60, 61, 62] (by decide +kernel) (by decide +kernel)
set_option maxRecDepth 20000 in
theorem gX3_linked_X2_has : GoodIn wsX3_linked (wsV RX3 43 RX2 yX2_has wsX2_has) := goodIn_app (goodIn_of _ (by decide +kernel)) ggX3_linked_X2_has
set_option maxRecDepth 20000 in
theorem ggX3_linked_X2_number : GoodIn wsX3_linked wsX2_number := goodIn_r _ [46, 42, 57, 58, 59, 60, 61, 62] (by decide +kernel) (by decide +kernel)
set_option maxRecDepth 20000 in
theorem gX3_linked_X2_number : GoodIn wsX3_linked (wsV RX3 49 RX2 yX2_number wsX2_number) := goodIn_app (goodIn_of _ (by decide +kernel)) ggX3_linked_X2_number
theorem dX3_linked_0 : decode cX3_linked 0 = .ok (.iload 5, 2) := by decide +kernel
theorem dX3_linked_2 : decode cX3_linked 2 = .ok (.ifCond .lt 22, 3) := by decide +kernel
theorem dX3_linked_5 : decode cX3_linked 5 = .ok (.iload_n 2, 1) := by decide +kernel
theorem dX3_linked_6 : decode cX3_linked 6 = .ok (.iload_n 3, 1) := by decide +kernel
theorem dX3_linked_7 : decode cX3_linked 7 = .ok (.iload 4, 2) := by decide +kernel
theorem dX3_linked_9 : decode cX3_linked 9 = .ok (.iload 6, 2) := by decide +kernel
theorem dX3_linked_11 : decode cX3_linked 11 = .ok (.invokestatic 117, 3) := by decide +kernel
theorem dX3_linked_14 : decode cX3_linked 14 = .ok (.ifCond .eq 10, 3) := by decide +kernel
theorem dX3_linked_17 : decode cX3_linked 17 = .ok (.iload 6, 2) := by decide +kernel
theorem dX3_linked_19 : decode cX3_linked 19 = .ok (.iconst 4, 1) := by decide +kernel
theorem dX3_linked_20 : decode cX3_linked 20 = .ok (.iand, 1) := by decide +kernel
theorem dX3_linked_21 : decode cX3_linked 21 = .ok (.ifCond .eq 6, 3) := by decide +kernel
theorem dX3_linked_24 : decode cX3_linked 24 = .ok (.bipush (-11), 2) := by decide +kernel
theorem dX3_linked_26 : decode cX3_linked 26 = .ok (.ireturn, 1) := by decide +kernel
theorem dX3_linked_27 : decode cX3_linked 27 = .ok (.aload_n 0, 1) := by decide +kernel
theorem dX3_linked_28 : decode cX3_linked 28 = .ok (.getfield 18, 3) := by decide +kernel
theorem dX3_linked_31 : decode cX3_linked 31 = .ok (.aload_n 0, 1) := by decide +kernel
theorem dX3_linked_32 : decode cX3_linked 32 = .ok (.getfield 30, 3) := by decide +kernel
theorem dX3_linked_35 : decode cX3_linked 35 = .ok (.iload_n 1, 1) := by decide +kernel
theorem dX3_linked_36 : decode cX3_linked 36 = .ok (.iload_n 2, 1) := by decide +kernel
theorem dX3_linked_37 : decode cX3_linked 37 = .ok (.iload 6, 2) := by decide +kernel
theorem dX3_linked_39 : decode cX3_linked 39 = .ok (.invokevirtual 121, 3) := by decide +kernel
theorem dX3_linked_42 : decode cX3_linked 42 = .ok (.ifCond .ne 6, 3) := by decide +kernel
theorem dX3_linked_45 : decode cX3_linked 45 = .ok (.bipush (-12), 2) := by decide +kernel
theorem dX3_linked_47 : decode cX3_linked 47 = .ok (.ireturn, 1) := by decide +kernel
theorem dX3_linked_48 : decode cX3_linked 48 = .ok (.iload_n 3, 1) := by decide +kernel
theorem dX3_linked_49 : decode cX3_linked 49 = .ok (.i2l, 1) := by decide +kernel
theorem dX3_linked_50 : decode cX3_linked 50 = .ok (.lstore 7, 2) := by decide +kernel
theorem dX3_linked_52 : decode cX3_linked 52 = .ok (.iconst 0, 1) := by decide +kernel
theorem dX3_linked_53 : decode cX3_linked 53 = .ok (.istore 9, 2) := by decide +kernel
theorem dX3_linked_55 : decode cX3_linked 55 = .ok (.iload 9, 2) := by decide +kernel
theorem dX3_linked_57 : decode cX3_linked 57 = .ok (.sipush 3000, 3) := by decide +kernel
theorem dX3_linked_60 : decode cX3_linked 60 = .ok (.if_icmp .ge 92, 3) := by decide +kernel
theorem dX3_linked_63 : decode cX3_linked 63 = .ok (.lload 7, 2) := by decide +kernel
theorem dX3_linked_65 : decode cX3_linked 65 = .ok (.lconst 0, 1) := by decide +kernel
theorem dX3_linked_66 : decode cX3_linked 66 = .ok (.lcmp, 1) := by decide +kernel
theorem dX3_linked_67 : decode cX3_linked 67 = .ok (.ifCond .eq 85, 3) := by decide +kernel
theorem dX3_linked_70 : decode cX3_linked 70 = .ok (.aload_n 0, 1) := by decide +kernel
theorem dX3_linked_71 : decode cX3_linked 71 = .ok (.lload 7, 2) := by decide +kernel
theorem dX3_linked_73 : decode cX3_linked 73 = .ok (.iload 4, 2) := by decide +kernel
theorem dX3_linked_75 : decode cX3_linked 75 = .ok (.i2l, 1) := by decide +kernel
theorem dX3_linked_76 : decode cX3_linked 76 = .ok (.ladd, 1) := by decide +kernel
theorem dX3_linked_77 : decode cX3_linked 77 = .ok (.iload 6, 2) := by decide +kernel
theorem dX3_linked_79 : decode cX3_linked 79 = .ok (.invokevirtual 130, 3) := by decide +kernel
theorem dX3_linked_82 : decode cX3_linked 82 = .ok (.istore 10, 2) := by decide +kernel
theorem dX3_linked_84 : decode cX3_linked 84 = .ok (.iload 10, 2) := by decide +kernel
theorem dX3_linked_86 : decode cX3_linked 86 = .ok (.iconst 1, 1) := by decide +kernel
theorem dX3_linked_87 : decode cX3_linked 87 = .ok (.if_icmp .ne 7, 3) := by decide +kernel
theorem dX3_linked_90 : decode cX3_linked 90 = .ok (.lload 7, 2) := by decide +kernel
theorem dX3_linked_92 : decode cX3_linked 92 = .ok (.l2i, 1) := by decide +kernel
theorem dX3_linked_93 : decode cX3_linked 93 = .ok (.ireturn, 1) := by decide +kernel
theorem dX3_linked_94 : decode cX3_linked 94 = .ok (.iload 10, 2) := by decide +kernel
theorem dX3_linked_96 : decode cX3_linked 96 = .ok (.iconst 2, 1) := by decide +kernel
theorem dX3_linked_97 : decode cX3_linked 97 = .ok (.if_icmp .ne 5, 3) := by decide +kernel
theorem dX3_linked_100 : decode cX3_linked 100 = .ok (.iconst 0, 1) := by decide +kernel
theorem dX3_linked_101 : decode cX3_linked 101 = .ok (.ireturn, 1) := by decide +kernel
theorem dX3_linked_102 : decode cX3_linked 102 = .ok (.iload 10, 2) := by decide +kernel
theorem dX3_linked_104 : decode cX3_linked 104 = .ok (.bipush (-12), 2) := by decide +kernel
theorem dX3_linked_106 : decode cX3_linked 106 = .ok (.if_icmp .eq 20, 3) := by decide +kernel
theorem dX3_linked_109 : decode cX3_linked 109 = .ok (.aload_n 0, 1) := by decide +kernel
theorem dX3_linked_110 : decode cX3_linked 110 = .ok (.getfield 30, 3) := by decide +kernel
theorem dX3_linked_113 : decode cX3_linked 113 = .ok (.lload 7, 2) := by decide +kernel
theorem dX3_linked_115 : decode cX3_linked 115 = .ok (.iload 5, 2) := by decide +kernel
theorem dX3_linked_117 : decode cX3_linked 117 = .ok (.i2l, 1) := by decide +kernel
theorem dX3_linked_118 : decode cX3_linked 118 = .ok (.ladd, 1) := by decide +kernel
theorem dX3_linked_119 : decode cX3_linked 119 = .ok (.iconst 4, 1) := by decide +kernel
theorem dX3_linked_120 : decode cX3_linked 120 = .ok (.invokevirtual 43, 3) := by decide +kernel
theorem dX3_linked_123 : decode cX3_linked 123 = .ok (.ifCond .ne 6, 3) := by decide +kernel
theorem dX3_linked_126 : decode cX3_linked 126 = .ok (.bipush (-12), 2) := by decide +kernel
theorem dX3_linked_128 : decode cX3_linked 128 = .ok (.ireturn, 1) := by decide +kernel
theorem dX3_linked_129 : decode cX3_linked 129 = .ok (.aload_n 0, 1) := by decide +kernel
theorem dX3_linked_130 : decode cX3_linked 130 = .ok (.getfield 30, 3) := by decide +kernel
theorem dX3_linked_133 : decode cX3_linked 133 = .ok (.lload 7, 2) := by decide +kernel
theorem dX3_linked_135 : decode cX3_linked 135 = .ok (.iload 5, 2) := by decide +kernel
theorem dX3_linked_137 : decode cX3_linked 137 = .ok (.i2l, 1) := by decide +kernel
theorem dX3_linked_138 : decode cX3_linked 138 = .ok (.ladd, 1) := by decide +kernel
theorem dX3_linked_139 : decode cX3_linked 139 = .ok (.l2i, 1) := by decide +kernel
theorem dX3_linked_140 : decode cX3_linked 140 = .ok (.iconst 4, 1) := by decide +kernel
theorem dX3_linked_141 : decode cX3_linked 141 = .ok (.invokevirtual 49, 3) := by decide +kernel
theorem dX3_linked_144 : decode cX3_linked 144 = .ok (.lstore 7, 2) := by decide +kernel
theorem dX3_linked_146 : decode cX3_linked 146 = .ok (.iinc 9 1, 3) := by decide +kernel
theorem dX3_linked_149 : decode cX3_linked 149 = .ok (.goto (-94), 3) := by decide +kernel
theorem dX3_linked_152 : decode cX3_linked 152 = .ok (.lload 7, 2) := by decide +kernel
theorem dX3_linked_154 : decode cX3_linked 154 = .ok (.lconst 0, 1) := by decide +kernel
theorem dX3_linked_155 : decode cX3_linked 155 = .ok (.lcmp, 1) := by decide +kernel
theorem dX3_linked_156 : decode cX3_linked 156 = .ok (.ifCond .ne 7, 3) := by decide +kernel
theorem dX3_linked_159 : decode cX3_linked 159 = .ok (.iconst 0, 1) := by decide +kernel
theorem dX3_linked_160 : decode cX3_linked 160 = .ok (.goto 5, 3) := by decide +kernel
theorem dX3_linked_163 : decode cX3_linked 163 = .ok (.bipush (-16), 2) := by decide +kernel
theorem dX3_linked_165 : decode cX3_linked 165 = .ok (.ireturn, 1) := by decide +kernel
set_option maxRecDepth 20000 in
theorem ggX3_isSearch_X3_isWidth : GoodIn wsX3_isSearch wsX3_isWidth := goodIn_r _ [4] (by decide +kernel) (by decide +kernel)
set_option maxRecDepth 20000 in
theorem gX3_isSearch_X3_isWidth : GoodIn wsX3_isSearch (va_wsS RX3 37 yX3_isWidth wsX3_isWidth) := goodIn_app (goodIn_of _ (by decide +kernel)) ggX3_isSearch_X3_isWidth
theorem dX3_isSearch_0 : decode cX3_isSearch 0 = .ok (.iload_n 1, 1) := by decide +kernel
theorem dX3_isSearch_1 : decode cX3_isSearch 1 = .ok (.ifCond .lt 17, 3) := by decide +kernel
theorem dX3_isSearch_4 : decode cX3_isSearch 4 = .ok (.iload_n 2, 1) := by decide +kernel
theorem dX3_isSearch_5 : decode cX3_isSearch 5 = .ok (.ifCond .lt 13, 3) := by decide +kernel
theorem dX3_isSearch_8 : decode cX3_isSearch 8 = .ok (.iload_n 3, 1) := by decide +kernel
theorem dX3_isSearch_9 : decode cX3_isSearch 9 = .ok (.ifCond .lt 9, 3) := by decide +kernel
theorem dX3_isSearch_12 : decode cX3_isSearch 12 = .ok (.iload_n 3, 1) := by decide +kernel
theorem dX3_isSearch_13 : decode cX3_isSearch 13 = .ok (.bipush 7, 2) := by decide +kernel
theorem dX3_isSearch_15 : decode cX3_isSearch 15 = .ok (.if_icmp .le 5, 3) := by decide +kernel
theorem dX3_isSearch_18 : decode cX3_isSearch 18 = .ok (.iconst 0, 1) := by decide +kernel
theorem dX3_isSearch_19 : decode cX3_isSearch 19 = .ok (.ireturn, 1) := by decide +kernel
theorem dX3_isSearch_20 : decode cX3_isSearch 20 = .ok (.iload_n 3, 1) := by decide +kernel
theorem dX3_isSearch_21 : decode cX3_isSearch 21 = .ok (.iconst 1, 1) := by decide +kernel
theorem dX3_isSearch_22 : decode cX3_isSearch 22 = .ok (.iand, 1) := by decide +kernel
theorem dX3_isSearch_23 : decode cX3_isSearch 23 = .ok (.ifCond .eq 22, 3) := by decide +kernel
theorem dX3_isSearch_26 : decode cX3_isSearch 26 = .ok (.iload_n 0, 1) := by decide +kernel
theorem dX3_isSearch_27 : decode cX3_isSearch 27 = .ok (.iconst 1, 1) := by decide +kernel
theorem dX3_isSearch_28 : decode cX3_isSearch 28 = .ok (.if_icmp .lt 13, 3) := by decide +kernel
theorem dX3_isSearch_31 : decode cX3_isSearch 31 = .ok (.iload_n 0, 1) := by decide +kernel
theorem dX3_isSearch_32 : decode cX3_isSearch 32 = .ok (.bipush 64, 2) := by decide +kernel
theorem dX3_isSearch_34 : decode cX3_isSearch 34 = .ok (.if_icmp .gt 7, 3) := by decide +kernel
theorem dX3_isSearch_37 : decode cX3_isSearch 37 = .ok (.iconst 1, 1) := by decide +kernel
theorem dX3_isSearch_38 : decode cX3_isSearch 38 = .ok (.goto 11, 3) := by decide +kernel
theorem dX3_isSearch_41 : decode cX3_isSearch 41 = .ok (.iconst 0, 1) := by decide +kernel
theorem dX3_isSearch_42 : decode cX3_isSearch 42 = .ok (.goto 7, 3) := by decide +kernel
theorem dX3_isSearch_45 : decode cX3_isSearch 45 = .ok (.iload_n 0, 1) := by decide +kernel
theorem dX3_isSearch_46 : decode cX3_isSearch 46 = .ok (.invokestatic 37, 3) := by decide +kernel
theorem dX3_isSearch_49 : decode cX3_isSearch 49 = .ok (.ireturn, 1) := by decide +kernel
set_option maxRecDepth 20000 in
theorem ggX3_look_X2_has : GoodIn wsX3_look wsX2_has := goodIn_r _ [8, 9, 33, 34, 35, 36, 37, 38] (by decide +kernel) (by decide +kernel)
set_option maxRecDepth 20000 in
theorem gX3_look_X2_has : GoodIn wsX3_look (wsV RX3 43 RX2 yX2_has wsX2_has) := goodIn_app (goodIn_of _ (by decide +kernel)) ggX3_look_X2_has
set_option maxRecDepth 20000 in
theorem ggX3_look_X1_orderOf : GoodIn wsX3_look wsX1_orderOf := goodIn_r _ [14, 15, 16, 17, 31, 32, 33, 34, 35, 36, 37, 38] (by decide +kernel) (by decide +kernel)
set_option maxRecDepth 20000 in
theorem gX3_look_X1_orderOf : GoodIn wsX3_look (wsV RX3 143 RX1 yX1_orderOf wsX1_orderOf) := goodIn_app (goodIn_of _ (by decide +kernel)) ggX3_look_X1_orderOf
set_option maxRecDepth 20000 in
theorem ggX3_look_X2_allZero : GoodIn wsX3_look wsX2_allZero := goodIn_r _ [21, 22, 33, 34, 35, 36, 37, 38] (by decide +kernel) (by decide +kernel)
set_option maxRecDepth 20000 in
theorem gX3_look_X2_allZero : GoodIn wsX3_look (wsV RX3 150 RX2 yX2_allZero wsX2_allZero) := goodIn_app (goodIn_of _ (by decide +kernel)) ggX3_look_X2_allZero
theorem dX3_look_0 : decode cX3_look 0 = .ok (.aload_n 0, 1) := by decide +kernel
theorem dX3_look_1 : decode cX3_look 1 = .ok (.getfield 30, 3) := by decide +kernel
theorem dX3_look_4 : decode cX3_look 4 = .ok (.lload_n 1, 1) := by decide +kernel
theorem dX3_look_5 : decode cX3_look 5 = .ok (.aload_n 0, 1) := by decide +kernel
theorem dX3_look_6 : decode cX3_look 6 = .ok (.getfield 18, 3) := by decide +kernel
theorem dX3_look_9 : decode cX3_look 9 = .ok (.getfield 147, 3) := by decide +kernel
theorem dX3_look_12 : decode cX3_look 12 = .ok (.invokevirtual 43, 3) := by decide +kernel
theorem dX3_look_15 : decode cX3_look 15 = .ok (.ifCond .ne 6, 3) := by decide +kernel
theorem dX3_look_18 : decode cX3_look 18 = .ok (.bipush (-12), 2) := by decide +kernel
theorem dX3_look_20 : decode cX3_look 20 = .ok (.ireturn, 1) := by decide +kernel
theorem dX3_look_21 : decode cX3_look 21 = .ok (.aload_n 0, 1) := by decide +kernel
theorem dX3_look_22 : decode cX3_look 22 = .ok (.getfield 18, 3) := by decide +kernel
theorem dX3_look_25 : decode cX3_look 25 = .ok (.aload_n 0, 1) := by decide +kernel
theorem dX3_look_26 : decode cX3_look 26 = .ok (.getfield 30, 3) := by decide +kernel
theorem dX3_look_29 : decode cX3_look 29 = .ok (.lload_n 1, 1) := by decide +kernel
theorem dX3_look_30 : decode cX3_look 30 = .ok (.l2i, 1) := by decide +kernel
theorem dX3_look_31 : decode cX3_look 31 = .ok (.invokevirtual 143, 3) := by decide +kernel
theorem dX3_look_34 : decode cX3_look 34 = .ok (.ifCond .ne 5, 3) := by decide +kernel
theorem dX3_look_37 : decode cX3_look 37 = .ok (.iconst 1, 1) := by decide +kernel
theorem dX3_look_38 : decode cX3_look 38 = .ok (.ireturn, 1) := by decide +kernel
theorem dX3_look_39 : decode cX3_look 39 = .ok (.iload_n 3, 1) := by decide +kernel
theorem dX3_look_40 : decode cX3_look 40 = .ok (.iconst 2, 1) := by decide +kernel
theorem dX3_look_41 : decode cX3_look 41 = .ok (.iand, 1) := by decide +kernel
theorem dX3_look_42 : decode cX3_look 42 = .ok (.ifCond .eq 26, 3) := by decide +kernel
theorem dX3_look_45 : decode cX3_look 45 = .ok (.aload_n 0, 1) := by decide +kernel
theorem dX3_look_46 : decode cX3_look 46 = .ok (.getfield 30, 3) := by decide +kernel
theorem dX3_look_49 : decode cX3_look 49 = .ok (.lload_n 1, 1) := by decide +kernel
theorem dX3_look_50 : decode cX3_look 50 = .ok (.l2i, 1) := by decide +kernel
theorem dX3_look_51 : decode cX3_look 51 = .ok (.aload_n 0, 1) := by decide +kernel
theorem dX3_look_52 : decode cX3_look 52 = .ok (.getfield 18, 3) := by decide +kernel
theorem dX3_look_55 : decode cX3_look 55 = .ok (.getfield 147, 3) := by decide +kernel
theorem dX3_look_58 : decode cX3_look 58 = .ok (.invokevirtual 150, 3) := by decide +kernel
theorem dX3_look_61 : decode cX3_look 61 = .ok (.ifCond .eq 7, 3) := by decide +kernel
theorem dX3_look_64 : decode cX3_look 64 = .ok (.iconst 1, 1) := by decide +kernel
theorem dX3_look_65 : decode cX3_look 65 = .ok (.goto 4, 3) := by decide +kernel
theorem dX3_look_68 : decode cX3_look 68 = .ok (.iconst 0, 1) := by decide +kernel
theorem dX3_look_69 : decode cX3_look 69 = .ok (.istore 4, 2) := by decide +kernel
theorem dX3_look_71 : decode cX3_look 71 = .ok (.iload 4, 2) := by decide +kernel
theorem dX3_look_73 : decode cX3_look 73 = .ok (.ifCond .eq 7, 3) := by decide +kernel
theorem dX3_look_76 : decode cX3_look 76 = .ok (.iconst 2, 1) := by decide +kernel
theorem dX3_look_77 : decode cX3_look 77 = .ok (.goto 4, 3) := by decide +kernel
theorem dX3_look_80 : decode cX3_look 80 = .ok (.iconst 3, 1) := by decide +kernel
theorem dX3_look_81 : decode cX3_look 81 = .ok (.ireturn, 1) := by decide +kernel
theorem dX3_foundAnswer_0 : decode cX3_foundAnswer 0 = .ok (.iload_n 3, 1) := by decide +kernel
theorem dX3_foundAnswer_1 : decode cX3_foundAnswer 1 = .ok (.iconst 4, 1) := by decide +kernel
theorem dX3_foundAnswer_2 : decode cX3_foundAnswer 2 = .ok (.iand, 1) := by decide +kernel
theorem dX3_foundAnswer_3 : decode cX3_foundAnswer 3 = .ok (.ifCond .eq 7, 3) := by decide +kernel
theorem dX3_foundAnswer_6 : decode cX3_foundAnswer 6 = .ok (.iload_n 0, 1) := by decide +kernel
theorem dX3_foundAnswer_7 : decode cX3_foundAnswer 7 = .ok (.goto 5, 3) := by decide +kernel
theorem dX3_foundAnswer_10 : decode cX3_foundAnswer 10 = .ok (.lload_n 1, 1) := by decide +kernel
theorem dX3_foundAnswer_11 : decode cX3_foundAnswer 11 = .ok (.l2i, 1) := by decide +kernel
theorem dX3_foundAnswer_12 : decode cX3_foundAnswer 12 = .ok (.ireturn, 1) := by decide +kernel
theorem dX3_noneAnswer_0 : decode cX3_noneAnswer 0 = .ok (.iload_n 0, 1) := by decide +kernel
theorem dX3_noneAnswer_1 : decode cX3_noneAnswer 1 = .ok (.iconst 4, 1) := by decide +kernel
theorem dX3_noneAnswer_2 : decode cX3_noneAnswer 2 = .ok (.iand, 1) := by decide +kernel
theorem dX3_noneAnswer_3 : decode cX3_noneAnswer 3 = .ok (.ifCond .eq 7, 3) := by decide +kernel
theorem dX3_noneAnswer_6 : decode cX3_noneAnswer 6 = .ok (.iconst (-1), 1) := by decide +kernel
theorem dX3_noneAnswer_7 : decode cX3_noneAnswer 7 = .ok (.goto 4, 3) := by decide +kernel
theorem dX3_noneAnswer_10 : decode cX3_noneAnswer 10 = .ok (.iconst 0, 1) := by decide +kernel
theorem dX3_noneAnswer_11 : decode cX3_noneAnswer 11 = .ok (.ireturn, 1) := by decide +kernel
theorem dX3_protect_0 : decode cX3_protect 0 = .ok (.iload_n 1, 1) := by decide +kernel
theorem dX3_protect_1 : decode cX3_protect 1 = .ok (.ifCond .lt 21, 3) := by decide +kernel
theorem dX3_protect_4 : decode cX3_protect 4 = .ok (.iload_n 1, 1) := by decide +kernel
theorem dX3_protect_5 : decode cX3_protect 5 = .ok (.sipush 8192, 3) := by decide +kernel
theorem dX3_protect_8 : decode cX3_protect 8 = .ok (.if_icmp .gt 14, 3) := by decide +kernel
theorem dX3_protect_11 : decode cX3_protect 11 = .ok (.iload_n 2, 1) := by decide +kernel
theorem dX3_protect_12 : decode cX3_protect 12 = .ok (.ifCond .lt 10, 3) := by decide +kernel
theorem dX3_protect_15 : decode cX3_protect 15 = .ok (.iload_n 2, 1) := by decide +kernel
theorem dX3_protect_16 : decode cX3_protect 16 = .ok (.sipush 8192, 3) := by decide +kernel
theorem dX3_protect_19 : decode cX3_protect 19 = .ok (.if_icmp .le 6, 3) := by decide +kernel
theorem dX3_protect_22 : decode cX3_protect 22 = .ok (.bipush (-11), 2) := by decide +kernel
theorem dX3_protect_24 : decode cX3_protect 24 = .ok (.ireturn, 1) := by decide +kernel
theorem dX3_protect_25 : decode cX3_protect 25 = .ok (.aload_n 0, 1) := by decide +kernel
theorem dX3_protect_26 : decode cX3_protect 26 = .ok (.iload_n 2, 1) := by decide +kernel
theorem dX3_protect_27 : decode cX3_protect 27 = .ok (.ifCond .ne 7, 3) := by decide +kernel
theorem dX3_protect_30 : decode cX3_protect 30 = .ok (.iconst 0, 1) := by decide +kernel
theorem dX3_protect_31 : decode cX3_protect 31 = .ok (.goto 4, 3) := by decide +kernel
theorem dX3_protect_34 : decode cX3_protect 34 = .ok (.iload_n 1, 1) := by decide +kernel
theorem dX3_protect_35 : decode cX3_protect 35 = .ok (.putfield 154, 3) := by decide +kernel
theorem dX3_protect_38 : decode cX3_protect 38 = .ok (.aload_n 0, 1) := by decide +kernel
theorem dX3_protect_39 : decode cX3_protect 39 = .ok (.iload_n 2, 1) := by decide +kernel
theorem dX3_protect_40 : decode cX3_protect 40 = .ok (.putfield 157, 3) := by decide +kernel
theorem dX3_protect_43 : decode cX3_protect 43 = .ok (.iconst 1, 1) := by decide +kernel
theorem dX3_protect_44 : decode cX3_protect 44 = .ok (.ireturn, 1) := by decide +kernel
set_option maxRecDepth 20000 in
theorem ggX3_keep_X2_init : GoodIn wsX3_keep wsX2_init := goodIn_r _ [8, 9, 10, 11, 12, 13, 14, 15, 16, 36, 37, 38, 39, 40, 41] (by decide +kernel) (by decide +kernel)
set_option maxRecDepth 20000 in
theorem gX3_keep_X2_init_n29 : GoodIn wsX3_keep (wsX2_init) := ggX3_keep_X2_init
set_option maxRecDepth 20000 in
theorem ggX3_keep_X2_become : GoodIn wsX3_keep wsX2_become := goodIn_r _ [20, 13, 21, 22, 23, 24, 15, 16, 25, 26, 27, 36, 37, 38, 39, 40, 41] (by decide +kernel) (by decide +kernel)
set_option maxRecDepth 20000 in
theorem gX3_keep_X2_become : GoodIn wsX3_keep (wsV RX3 163 RX2 yX2_become wsX2_become) := goodIn_app (goodIn_of _ (by decide +kernel)) ggX3_keep_X2_become
theorem dX3_keep_0 : decode cX3_keep 0 = .ok (.aload_n 0, 1) := by decide +kernel
theorem dX3_keep_1 : decode cX3_keep 1 = .ok (.getfield 160, 3) := by decide +kernel
theorem dX3_keep_4 : decode cX3_keep 4 = .ok (.iconst 4, 1) := by decide +kernel
theorem dX3_keep_5 : decode cX3_keep 5 = .ok (.if_icmp .lt 6, 3) := by decide +kernel
theorem dX3_keep_8 : decode cX3_keep 8 = .ok (.bipush (-15), 2) := by decide +kernel
theorem dX3_keep_10 : decode cX3_keep 10 = .ok (.ireturn, 1) := by decide +kernel
theorem dX3_keep_11 : decode cX3_keep 11 = .ok (.aload_n 0, 1) := by decide +kernel
theorem dX3_keep_12 : decode cX3_keep 12 = .ok (.getfield 11, 3) := by decide +kernel
theorem dX3_keep_15 : decode cX3_keep 15 = .ok (.aload_n 0, 1) := by decide +kernel
theorem dX3_keep_16 : decode cX3_keep 16 = .ok (.getfield 160, 3) := by decide +kernel
theorem dX3_keep_19 : decode cX3_keep 19 = .ok (.aaload, 1) := by decide +kernel
theorem dX3_keep_20 : decode cX3_keep 20 = .ok (.astore_n 1, 1) := by decide +kernel
theorem dX3_keep_21 : decode cX3_keep 21 = .ok (.aload_n 1, 1) := by decide +kernel
theorem dX3_keep_22 : decode cX3_keep 22 = .ok (.ifnonnull 21, 3) := by decide +kernel
theorem dX3_keep_25 : decode cX3_keep 25 = .ok (.new 9, 3) := by decide +kernel
theorem dX3_keep_28 : decode cX3_keep 28 = .ok (.dup, 1) := by decide +kernel
theorem dX3_keep_29 : decode cX3_keep 29 = .ok (.invokespecial 29, 3) := by decide +kernel
theorem dX3_keep_32 : decode cX3_keep 32 = .ok (.astore_n 1, 1) := by decide +kernel
theorem dX3_keep_33 : decode cX3_keep 33 = .ok (.aload_n 0, 1) := by decide +kernel
theorem dX3_keep_34 : decode cX3_keep 34 = .ok (.getfield 11, 3) := by decide +kernel
theorem dX3_keep_37 : decode cX3_keep 37 = .ok (.aload_n 0, 1) := by decide +kernel
theorem dX3_keep_38 : decode cX3_keep 38 = .ok (.getfield 160, 3) := by decide +kernel
theorem dX3_keep_41 : decode cX3_keep 41 = .ok (.aload_n 1, 1) := by decide +kernel
theorem dX3_keep_42 : decode cX3_keep 42 = .ok (.aastore, 1) := by decide +kernel
theorem dX3_keep_43 : decode cX3_keep 43 = .ok (.aload_n 1, 1) := by decide +kernel
theorem dX3_keep_44 : decode cX3_keep 44 = .ok (.aload_n 0, 1) := by decide +kernel
theorem dX3_keep_45 : decode cX3_keep 45 = .ok (.getfield 30, 3) := by decide +kernel
theorem dX3_keep_48 : decode cX3_keep 48 = .ok (.invokevirtual 163, 3) := by decide +kernel
theorem dX3_keep_51 : decode cX3_keep 51 = .ok (.aload_n 0, 1) := by decide +kernel
theorem dX3_keep_52 : decode cX3_keep 52 = .ok (.dup, 1) := by decide +kernel
theorem dX3_keep_53 : decode cX3_keep 53 = .ok (.getfield 160, 3) := by decide +kernel
theorem dX3_keep_56 : decode cX3_keep 56 = .ok (.iconst 1, 1) := by decide +kernel
theorem dX3_keep_57 : decode cX3_keep 57 = .ok (.iadd, 1) := by decide +kernel
theorem dX3_keep_58 : decode cX3_keep 58 = .ok (.putfield 160, 3) := by decide +kernel
theorem dX3_keep_61 : decode cX3_keep 61 = .ok (.aload_n 0, 1) := by decide +kernel
theorem dX3_keep_62 : decode cX3_keep 62 = .ok (.getfield 160, 3) := by decide +kernel
theorem dX3_keep_65 : decode cX3_keep 65 = .ok (.ireturn, 1) := by decide +kernel
set_option maxRecDepth 20000 in
theorem ggX3_back_X3_lastKept : GoodIn wsX3_back wsX3_lastKept := goodIn_r _ [8, 1, 2, 25, 26, 27, 28, 29, 30, 31, 32] (by decide +kernel) (by decide +kernel)
set_option maxRecDepth 20000 in
theorem gX3_back_X3_lastKept : GoodIn wsX3_back (wsV RX3 167 RX3 yX3_lastKept wsX3_lastKept) := goodIn_app (goodIn_of _ (by decide +kernel)) ggX3_back_X3_lastKept
set_option maxRecDepth 20000 in
theorem ggX3_back_X3_comeBack : GoodIn wsX3_back wsX3_comeBack := goodIn_r _ [12, 13, 14, 3, 15, 16, 17, 18, 19, 20, 21, 22, 23, 24, 25, 26, 27, 28, 29, 30, 31, 32, 33, 34, 35, 36, 37, 38] (by decide +kernel) (by decide +kernel)
set_option maxRecDepth 20000 in
theorem gX3_back_X3_comeBack : GoodIn wsX3_back (wsV RX3 171 RX3 yX3_comeBack wsX3_comeBack) := goodIn_app (goodIn_of _ (by decide +kernel)) ggX3_back_X3_comeBack
theorem dX3_back_0 : decode cX3_back 0 = .ok (.aload_n 0, 1) := by decide +kernel
theorem dX3_back_1 : decode cX3_back 1 = .ok (.invokevirtual 167, 3) := by decide +kernel
theorem dX3_back_4 : decode cX3_back 4 = .ok (.astore_n 1, 1) := by decide +kernel
theorem dX3_back_5 : decode cX3_back 5 = .ok (.aload_n 1, 1) := by decide +kernel
theorem dX3_back_6 : decode cX3_back 6 = .ok (.ifnonnull 6, 3) := by decide +kernel
theorem dX3_back_9 : decode cX3_back 9 = .ok (.bipush (-11), 2) := by decide +kernel
theorem dX3_back_11 : decode cX3_back 11 = .ok (.ireturn, 1) := by decide +kernel
theorem dX3_back_12 : decode cX3_back 12 = .ok (.aload_n 0, 1) := by decide +kernel
theorem dX3_back_13 : decode cX3_back 13 = .ok (.dup, 1) := by decide +kernel
theorem dX3_back_14 : decode cX3_back 14 = .ok (.getfield 160, 3) := by decide +kernel
theorem dX3_back_17 : decode cX3_back 17 = .ok (.iconst 1, 1) := by decide +kernel
theorem dX3_back_18 : decode cX3_back 18 = .ok (.isub, 1) := by decide +kernel
theorem dX3_back_19 : decode cX3_back 19 = .ok (.putfield 160, 3) := by decide +kernel
theorem dX3_back_22 : decode cX3_back 22 = .ok (.aload_n 0, 1) := by decide +kernel
theorem dX3_back_23 : decode cX3_back 23 = .ok (.getfield 11, 3) := by decide +kernel
theorem dX3_back_26 : decode cX3_back 26 = .ok (.aload_n 0, 1) := by decide +kernel
theorem dX3_back_27 : decode cX3_back 27 = .ok (.getfield 160, 3) := by decide +kernel
theorem dX3_back_30 : decode cX3_back 30 = .ok (.aload_n 0, 1) := by decide +kernel
theorem dX3_back_31 : decode cX3_back 31 = .ok (.getfield 30, 3) := by decide +kernel
theorem dX3_back_34 : decode cX3_back 34 = .ok (.aastore, 1) := by decide +kernel
theorem dX3_back_35 : decode cX3_back 35 = .ok (.aload_n 0, 1) := by decide +kernel
theorem dX3_back_36 : decode cX3_back 36 = .ok (.aload_n 1, 1) := by decide +kernel
theorem dX3_back_37 : decode cX3_back 37 = .ok (.invokevirtual 171, 3) := by decide +kernel
theorem dX3_back_40 : decode cX3_back 40 = .ok (.aload_n 0, 1) := by decide +kernel
theorem dX3_back_41 : decode cX3_back 41 = .ok (.getfield 160, 3) := by decide +kernel
theorem dX3_back_44 : decode cX3_back 44 = .ok (.ireturn, 1) := by decide +kernel
set_option maxRecDepth 20000 in
theorem ggX3_restart_X3_spareState : GoodIn wsX3_restart wsX3_spareState := goodIn_r _ [7, 2, 8, 9, 10, 11, 12, 13, 14, 15, 16, 17, 18, 19, 20, 51, 52, 53, 54, 55, 56, 57, 58, 59, 60, 61, 62, 63, 64] (by decide +kernel) (by decide +kernel)
set_option maxRecDepth 20000 in
theorem gX3_restart_X3_spareState : GoodIn wsX3_restart (wsV RX3 174 RX3 yX3_spareState wsX3_spareState) := goodIn_app (goodIn_of _ (by decide +kernel)) ggX3_restart_X3_spareState
set_option maxRecDepth 20000 in
theorem ggX3_restart_X2_begin : GoodIn wsX3_restart wsX2_begin := goodIn_r _ [24, 17, 25, 26, 27, 28, 29, 30, 31, 32, 33, 10, 34, 59, 60, 61, 62, 63, 64] (by decide +kernel) (by decide +kernel)
set_option maxRecDepth 20000 in
theorem gX3_restart_X2_begin : GoodIn wsX3_restart (wsV RX3 34 RX2 yX2_begin wsX2_begin) := goodIn_app (goodIn_of _ (by decide +kernel)) ggX3_restart_X2_begin
set_option maxRecDepth 20000 in
theorem ggX3_restart_X3_comeBack : GoodIn wsX3_restart wsX3_comeBack := goodIn_r _ [38, 39, 40, 1, 41, 42, 43, 44, 45, 46, 47, 48, 49, 50, 51, 52, 53, 54, 55, 56, 57, 58, 59, 60, 61, 62, 63, 64] (by decide +kernel) (by decide +kernel)
set_option maxRecDepth 20000 in
theorem gX3_restart_X3_comeBack : GoodIn wsX3_restart (wsV RX3 171 RX3 yX3_comeBack wsX3_comeBack) := goodIn_app (goodIn_of _ (by decide +kernel)) ggX3_restart_X3_comeBack
theorem dX3_restart_0 : decode cX3_restart 0 = .ok (.aload_n 0, 1) := by decide +kernel
theorem dX3_restart_1 : decode cX3_restart 1 = .ok (.invokevirtual 174, 3) := by decide +kernel
theorem dX3_restart_4 : decode cX3_restart 4 = .ok (.astore_n 1, 1) := by decide +kernel
theorem dX3_restart_5 : decode cX3_restart 5 = .ok (.aload_n 1, 1) := by decide +kernel
theorem dX3_restart_6 : decode cX3_restart 6 = .ok (.invokevirtual 34, 3) := by decide +kernel
theorem dX3_restart_9 : decode cX3_restart 9 = .ok (.aload_n 0, 1) := by decide +kernel
theorem dX3_restart_10 : decode cX3_restart 10 = .ok (.aload_n 0, 1) := by decide +kernel
theorem dX3_restart_11 : decode cX3_restart 11 = .ok (.getfield 30, 3) := by decide +kernel
theorem dX3_restart_14 : decode cX3_restart 14 = .ok (.putfield 177, 3) := by decide +kernel
theorem dX3_restart_17 : decode cX3_restart 17 = .ok (.aload_n 0, 1) := by decide +kernel
theorem dX3_restart_18 : decode cX3_restart 18 = .ok (.aload_n 1, 1) := by decide +kernel
theorem dX3_restart_19 : decode cX3_restart 19 = .ok (.invokevirtual 171, 3) := by decide +kernel
theorem dX3_restart_22 : decode cX3_restart 22 = .ok (.iconst 1, 1) := by decide +kernel
theorem dX3_restart_23 : decode cX3_restart 23 = .ok (.ireturn, 1) := by decide +kernel
set_option maxRecDepth 20000 in
theorem ggX3_same_X3_lastKept : GoodIn wsX3_same wsX3_lastKept := goodIn_r _ [6, 7, 8, 20, 21, 22, 23, 24, 25, 26, 27] (by decide +kernel) (by decide +kernel)
set_option maxRecDepth 20000 in
theorem gX3_same_X3_lastKept : GoodIn wsX3_same (wsV RX3 167 RX3 yX3_lastKept wsX3_lastKept) := goodIn_app (goodIn_of _ (by decide +kernel)) ggX3_same_X3_lastKept
set_option maxRecDepth 20000 in
theorem ggX3_same_X2_isLike : GoodIn wsX3_same wsX2_isLike := goodIn_r _ [13, 14, 15, 16, 17, 18, 19, 28, 29, 30, 31, 32, 33] (by decide +kernel) (by decide +kernel)
set_option maxRecDepth 20000 in
theorem gX3_same_X2_isLike : GoodIn wsX3_same (wsV RX3 180 RX2 yX2_isLike wsX2_isLike) := goodIn_app (goodIn_of _ (by decide +kernel)) ggX3_same_X2_isLike
theorem dX3_same_0 : decode cX3_same 0 = .ok (.aload_n 0, 1) := by decide +kernel
theorem dX3_same_1 : decode cX3_same 1 = .ok (.invokevirtual 167, 3) := by decide +kernel
theorem dX3_same_4 : decode cX3_same 4 = .ok (.astore_n 1, 1) := by decide +kernel
theorem dX3_same_5 : decode cX3_same 5 = .ok (.aload_n 1, 1) := by decide +kernel
theorem dX3_same_6 : decode cX3_same 6 = .ok (.ifnonnull 6, 3) := by decide +kernel
theorem dX3_same_9 : decode cX3_same 9 = .ok (.bipush (-11), 2) := by decide +kernel
theorem dX3_same_11 : decode cX3_same 11 = .ok (.ireturn, 1) := by decide +kernel
theorem dX3_same_12 : decode cX3_same 12 = .ok (.aload_n 0, 1) := by decide +kernel
theorem dX3_same_13 : decode cX3_same 13 = .ok (.getfield 30, 3) := by decide +kernel
theorem dX3_same_16 : decode cX3_same 16 = .ok (.aload_n 1, 1) := by decide +kernel
theorem dX3_same_17 : decode cX3_same 17 = .ok (.invokevirtual 180, 3) := by decide +kernel
theorem dX3_same_20 : decode cX3_same 20 = .ok (.ifCond .eq 7, 3) := by decide +kernel
theorem dX3_same_23 : decode cX3_same 23 = .ok (.iconst 1, 1) := by decide +kernel
theorem dX3_same_24 : decode cX3_same 24 = .ok (.goto 4, 3) := by decide +kernel
theorem dX3_same_27 : decode cX3_same 27 = .ok (.iconst 0, 1) := by decide +kernel
theorem dX3_same_28 : decode cX3_same 28 = .ok (.ireturn, 1) := by decide +kernel
theorem dX3_lastKept_0 : decode cX3_lastKept 0 = .ok (.aload_n 0, 1) := by decide +kernel
theorem dX3_lastKept_1 : decode cX3_lastKept 1 = .ok (.getfield 160, 3) := by decide +kernel
theorem dX3_lastKept_4 : decode cX3_lastKept 4 = .ok (.ifCond .le 25, 3) := by decide +kernel
theorem dX3_lastKept_7 : decode cX3_lastKept 7 = .ok (.aload_n 0, 1) := by decide +kernel
theorem dX3_lastKept_8 : decode cX3_lastKept 8 = .ok (.getfield 160, 3) := by decide +kernel
theorem dX3_lastKept_11 : decode cX3_lastKept 11 = .ok (.iconst 4, 1) := by decide +kernel
theorem dX3_lastKept_12 : decode cX3_lastKept 12 = .ok (.if_icmp .gt 17, 3) := by decide +kernel
theorem dX3_lastKept_15 : decode cX3_lastKept 15 = .ok (.aload_n 0, 1) := by decide +kernel
theorem dX3_lastKept_16 : decode cX3_lastKept 16 = .ok (.getfield 11, 3) := by decide +kernel
theorem dX3_lastKept_19 : decode cX3_lastKept 19 = .ok (.aload_n 0, 1) := by decide +kernel
theorem dX3_lastKept_20 : decode cX3_lastKept 20 = .ok (.getfield 160, 3) := by decide +kernel
theorem dX3_lastKept_23 : decode cX3_lastKept 23 = .ok (.iconst 1, 1) := by decide +kernel
theorem dX3_lastKept_24 : decode cX3_lastKept 24 = .ok (.isub, 1) := by decide +kernel
theorem dX3_lastKept_25 : decode cX3_lastKept 25 = .ok (.aaload, 1) := by decide +kernel
theorem dX3_lastKept_26 : decode cX3_lastKept 26 = .ok (.goto 4, 3) := by decide +kernel
theorem dX3_lastKept_29 : decode cX3_lastKept 29 = .ok (.aconst_null, 1) := by decide +kernel
theorem dX3_lastKept_30 : decode cX3_lastKept 30 = .ok (.areturn, 1) := by decide +kernel
set_option maxRecDepth 20000 in
theorem ggX3_spareState_X2_init : GoodIn wsX3_spareState wsX2_init := goodIn_r _ [6, 7, 8, 9, 10, 11, 12, 13, 14, 23, 24, 25, 26, 27, 28] (by decide +kernel) (by decide +kernel)
set_option maxRecDepth 20000 in
theorem gX3_spareState_X2_init_n29 : GoodIn wsX3_spareState (wsX2_init) := ggX3_spareState_X2_init
theorem dX3_spareState_0 : decode cX3_spareState 0 = .ok (.aload_n 0, 1) := by decide +kernel
theorem dX3_spareState_1 : decode cX3_spareState 1 = .ok (.getfield 177, 3) := by decide +kernel
theorem dX3_spareState_4 : decode cX3_spareState 4 = .ok (.ifnonnull 14, 3) := by decide +kernel
theorem dX3_spareState_7 : decode cX3_spareState 7 = .ok (.aload_n 0, 1) := by decide +kernel
theorem dX3_spareState_8 : decode cX3_spareState 8 = .ok (.new 9, 3) := by decide +kernel
theorem dX3_spareState_11 : decode cX3_spareState 11 = .ok (.dup, 1) := by decide +kernel
theorem dX3_spareState_12 : decode cX3_spareState 12 = .ok (.invokespecial 29, 3) := by decide +kernel
theorem dX3_spareState_15 : decode cX3_spareState 15 = .ok (.putfield 177, 3) := by decide +kernel
theorem dX3_spareState_18 : decode cX3_spareState 18 = .ok (.aload_n 0, 1) := by decide +kernel
theorem dX3_spareState_19 : decode cX3_spareState 19 = .ok (.getfield 177, 3) := by decide +kernel
theorem dX3_spareState_22 : decode cX3_spareState 22 = .ok (.areturn, 1) := by decide +kernel
theorem dX3_comeBack_0 : decode cX3_comeBack 0 = .ok (.aload_n 0, 1) := by decide +kernel
theorem dX3_comeBack_1 : decode cX3_comeBack 1 = .ok (.getfield 154, 3) := by decide +kernel
theorem dX3_comeBack_4 : decode cX3_comeBack 4 = .ok (.aload_n 0, 1) := by decide +kernel
theorem dX3_comeBack_5 : decode cX3_comeBack 5 = .ok (.getfield 157, 3) := by decide +kernel
theorem dX3_comeBack_8 : decode cX3_comeBack 8 = .ok (.iadd, 1) := by decide +kernel
theorem dX3_comeBack_9 : decode cX3_comeBack 9 = .ok (.aload_n 0, 1) := by decide +kernel
theorem dX3_comeBack_10 : decode cX3_comeBack 10 = .ok (.getfield 30, 3) := by decide +kernel
theorem dX3_comeBack_13 : decode cX3_comeBack 13 = .ok (.getfield 84, 3) := by decide +kernel
theorem dX3_comeBack_16 : decode cX3_comeBack 16 = .ok (.aload_n 1, 1) := by decide +kernel
theorem dX3_comeBack_17 : decode cX3_comeBack 17 = .ok (.getfield 84, 3) := by decide +kernel
theorem dX3_comeBack_20 : decode cX3_comeBack 20 = .ok (.invokestatic 125, 3) := by decide +kernel
theorem dX3_comeBack_23 : decode cX3_comeBack 23 = .ok (.invokestatic 125, 3) := by decide +kernel
theorem dX3_comeBack_26 : decode cX3_comeBack 26 = .ok (.istore_n 2, 1) := by decide +kernel
theorem dX3_comeBack_27 : decode cX3_comeBack 27 = .ok (.aload_n 0, 1) := by decide +kernel
theorem dX3_comeBack_28 : decode cX3_comeBack 28 = .ok (.getfield 154, 3) := by decide +kernel
theorem dX3_comeBack_31 : decode cX3_comeBack 31 = .ok (.iload_n 2, 1) := by decide +kernel
theorem dX3_comeBack_32 : decode cX3_comeBack 32 = .ok (.if_icmp .ge 31, 3) := by decide +kernel
theorem dX3_comeBack_35 : decode cX3_comeBack 35 = .ok (.aload_n 0, 1) := by decide +kernel
theorem dX3_comeBack_36 : decode cX3_comeBack 36 = .ok (.getfield 30, 3) := by decide +kernel
theorem dX3_comeBack_39 : decode cX3_comeBack 39 = .ok (.getfield 61, 3) := by decide +kernel
theorem dX3_comeBack_42 : decode cX3_comeBack 42 = .ok (.aload_n 0, 1) := by decide +kernel
theorem dX3_comeBack_43 : decode cX3_comeBack 43 = .ok (.getfield 154, 3) := by decide +kernel
theorem dX3_comeBack_46 : decode cX3_comeBack 46 = .ok (.aload_n 1, 1) := by decide +kernel
theorem dX3_comeBack_47 : decode cX3_comeBack 47 = .ok (.getfield 61, 3) := by decide +kernel
theorem dX3_comeBack_50 : decode cX3_comeBack 50 = .ok (.aload_n 0, 1) := by decide +kernel
theorem dX3_comeBack_51 : decode cX3_comeBack 51 = .ok (.getfield 154, 3) := by decide +kernel
theorem dX3_comeBack_54 : decode cX3_comeBack 54 = .ok (.iload_n 2, 1) := by decide +kernel
theorem dX3_comeBack_55 : decode cX3_comeBack 55 = .ok (.aload_n 0, 1) := by decide +kernel
theorem dX3_comeBack_56 : decode cX3_comeBack 56 = .ok (.getfield 154, 3) := by decide +kernel
theorem dX3_comeBack_59 : decode cX3_comeBack 59 = .ok (.isub, 1) := by decide +kernel
theorem dX3_comeBack_60 : decode cX3_comeBack 60 = .ok (.invokestatic 71, 3) := by decide +kernel
theorem dX3_comeBack_63 : decode cX3_comeBack 63 = .ok (.aload_n 0, 1) := by decide +kernel
theorem dX3_comeBack_64 : decode cX3_comeBack 64 = .ok (.aload_n 1, 1) := by decide +kernel
theorem dX3_comeBack_65 : decode cX3_comeBack 65 = .ok (.putfield 30, 3) := by decide +kernel
theorem dX3_comeBack_68 : decode cX3_comeBack 68 = .ok (.return_, 1) := by decide +kernel
set_option maxRecDepth 20000 in
theorem ggX3_write_X0_tell : GoodIn wsX3_write wsX0_tell := goodIn_r _ [8, 9, 10, 11, 12, 13, 14, 15, 16, 17, 18, 19, 7, 20, 21, 22, 23, 24, 25, 26, 27, 28, 29, 30, 31, 32, 33, 34, 35, 36, 37, 38, 39, 40, 41, 42, 43, 44, 45, 46, 47, 48, 49, 50, 51, 60, 61, 62, 63, 64, 65, 66, 67] (by decide +kernel) (by decide +kernel)
set_option maxRecDepth 20000 in
theorem gX3_write_X0_tell : GoodIn wsX3_write (wsV RX3 184 RX0 yX0_tell wsX0_tell) := goodIn_app (goodIn_of _ (by decide +kernel)) ggX3_write_X0_tell
theorem dX3_write_0 : decode cX3_write 0 = .ok (.aload_n 0, 1) := by decide +kernel
theorem dX3_write_1 : decode cX3_write 1 = .ok (.getfield 25, 3) := by decide +kernel
theorem dX3_write_4 : decode cX3_write 4 = .ok (.aload_n 0, 1) := by decide +kernel
theorem dX3_write_5 : decode cX3_write 5 = .ok (.getfield 30, 3) := by decide +kernel
theorem dX3_write_8 : decode cX3_write 8 = .ok (.invokevirtual 184, 3) := by decide +kernel
theorem dX3_write_11 : decode cX3_write 11 = .ok (.aload_n 0, 1) := by decide +kernel
theorem dX3_write_12 : decode cX3_write 12 = .ok (.getfield 25, 3) := by decide +kernel
theorem dX3_write_15 : decode cX3_write 15 = .ok (.getfield 187, 3) := by decide +kernel
theorem dX3_write_18 : decode cX3_write 18 = .ok (.ireturn, 1) := by decide +kernel
set_option maxRecDepth 20000 in
theorem ggX3_code_X0_has : GoodIn wsX3_code wsX0_has := goodIn_r _ [6, 7, 21, 22] (by decide +kernel) (by decide +kernel)
set_option maxRecDepth 20000 in
theorem gX3_code_X0_has : GoodIn wsX3_code (wsV RX3 188 RX0 yX0_has wsX0_has) := goodIn_app (goodIn_of _ (by decide +kernel)) ggX3_code_X0_has
set_option maxRecDepth 20000 in
theorem ggX3_code_X0_byteAt : GoodIn wsX3_code wsX0_byteAt := goodIn_r _ [11, 12, 21, 22] (by decide +kernel) (by decide +kernel)
set_option maxRecDepth 20000 in
theorem gX3_code_X0_byteAt : GoodIn wsX3_code (wsV RX3 190 RX0 yX0_byteAt wsX0_byteAt) := goodIn_app (goodIn_of _ (by decide +kernel)) ggX3_code_X0_byteAt
theorem dX3_code_0 : decode cX3_code 0 = .ok (.aload_n 0, 1) := by decide +kernel
theorem dX3_code_1 : decode cX3_code 1 = .ok (.getfield 25, 3) := by decide +kernel
theorem dX3_code_4 : decode cX3_code 4 = .ok (.iload_n 1, 1) := by decide +kernel
theorem dX3_code_5 : decode cX3_code 5 = .ok (.invokevirtual 188, 3) := by decide +kernel
theorem dX3_code_8 : decode cX3_code 8 = .ok (.ifCond .eq 14, 3) := by decide +kernel
theorem dX3_code_11 : decode cX3_code 11 = .ok (.aload_n 0, 1) := by decide +kernel
theorem dX3_code_12 : decode cX3_code 12 = .ok (.getfield 25, 3) := by decide +kernel
theorem dX3_code_15 : decode cX3_code 15 = .ok (.iload_n 1, 1) := by decide +kernel
theorem dX3_code_16 : decode cX3_code 16 = .ok (.invokevirtual 190, 3) := by decide +kernel
theorem dX3_code_19 : decode cX3_code 19 = .ok (.goto 4, 3) := by decide +kernel
theorem dX3_code_22 : decode cX3_code 22 = .ok (.iconst (-1), 1) := by decide +kernel
theorem dX3_code_23 : decode cX3_code 23 = .ok (.ireturn, 1) := by decide +kernel
set_option maxRecDepth 20000 in
theorem ggX3_poke_X0_has : GoodIn wsX3_poke wsX0_has := goodIn_r _ [7, 8, 22, 23] (by decide +kernel) (by decide +kernel)
set_option maxRecDepth 20000 in
theorem gX3_poke_X0_has : GoodIn wsX3_poke (wsV RX3 188 RX0 yX0_has wsX0_has) := goodIn_app (goodIn_of _ (by decide +kernel)) ggX3_poke_X0_has
set_option maxRecDepth 20000 in
theorem ggX3_poke_X0_byteAt : GoodIn wsX3_poke wsX0_byteAt := goodIn_r _ [12, 13, 22, 23] (by decide +kernel) (by decide +kernel)
set_option maxRecDepth 20000 in
theorem gX3_poke_X0_byteAt : GoodIn wsX3_poke (wsV RX3 190 RX0 yX0_byteAt wsX0_byteAt) := goodIn_app (goodIn_of _ (by decide +kernel)) ggX3_poke_X0_byteAt
theorem dX3_poke_0 : decode cX3_poke 0 = .ok (.aload_n 0, 1) := by decide +kernel
theorem dX3_poke_1 : decode cX3_poke 1 = .ok (.getfield 25, 3) := by decide +kernel
theorem dX3_poke_4 : decode cX3_poke 4 = .ok (.iload_n 1, 1) := by decide +kernel
theorem dX3_poke_5 : decode cX3_poke 5 = .ok (.invokevirtual 188, 3) := by decide +kernel
theorem dX3_poke_8 : decode cX3_poke 8 = .ok (.ifCond .eq 14, 3) := by decide +kernel
theorem dX3_poke_11 : decode cX3_poke 11 = .ok (.iload_n 2, 1) := by decide +kernel
theorem dX3_poke_12 : decode cX3_poke 12 = .ok (.ifCond .lt 10, 3) := by decide +kernel
theorem dX3_poke_15 : decode cX3_poke 15 = .ok (.iload_n 2, 1) := by decide +kernel
theorem dX3_poke_16 : decode cX3_poke 16 = .ok (.sipush 255, 3) := by decide +kernel
theorem dX3_poke_19 : decode cX3_poke 19 = .ok (.if_icmp .le 6, 3) := by decide +kernel
theorem dX3_poke_22 : decode cX3_poke 22 = .ok (.bipush (-11), 2) := by decide +kernel
theorem dX3_poke_24 : decode cX3_poke 24 = .ok (.ireturn, 1) := by decide +kernel
theorem dX3_poke_25 : decode cX3_poke 25 = .ok (.aload_n 0, 1) := by decide +kernel
theorem dX3_poke_26 : decode cX3_poke 26 = .ok (.getfield 25, 3) := by decide +kernel
theorem dX3_poke_29 : decode cX3_poke 29 = .ok (.iload_n 1, 1) := by decide +kernel
theorem dX3_poke_30 : decode cX3_poke 30 = .ok (.invokevirtual 190, 3) := by decide +kernel
theorem dX3_poke_33 : decode cX3_poke 33 = .ok (.istore_n 3, 1) := by decide +kernel
theorem dX3_poke_34 : decode cX3_poke 34 = .ok (.aload_n 0, 1) := by decide +kernel
theorem dX3_poke_35 : decode cX3_poke 35 = .ok (.getfield 25, 3) := by decide +kernel
theorem dX3_poke_38 : decode cX3_poke 38 = .ok (.getfield 193, 3) := by decide +kernel
theorem dX3_poke_41 : decode cX3_poke 41 = .ok (.iload_n 1, 1) := by decide +kernel
theorem dX3_poke_42 : decode cX3_poke 42 = .ok (.iload_n 2, 1) := by decide +kernel
theorem dX3_poke_43 : decode cX3_poke 43 = .ok (.i2b, 1) := by decide +kernel
theorem dX3_poke_44 : decode cX3_poke 44 = .ok (.bastore, 1) := by decide +kernel
theorem dX3_poke_45 : decode cX3_poke 45 = .ok (.iload_n 3, 1) := by decide +kernel
theorem dX3_poke_46 : decode cX3_poke 46 = .ok (.ireturn, 1) := by decide +kernel
theorem dX3_cut_0 : decode cX3_cut 0 = .ok (.iload_n 1, 1) := by decide +kernel
theorem dX3_cut_1 : decode cX3_cut 1 = .ok (.ifCond .lt 14, 3) := by decide +kernel
theorem dX3_cut_4 : decode cX3_cut 4 = .ok (.iload_n 1, 1) := by decide +kernel
theorem dX3_cut_5 : decode cX3_cut 5 = .ok (.aload_n 0, 1) := by decide +kernel
theorem dX3_cut_6 : decode cX3_cut 6 = .ok (.getfield 25, 3) := by decide +kernel
theorem dX3_cut_9 : decode cX3_cut 9 = .ok (.getfield 187, 3) := by decide +kernel
theorem dX3_cut_12 : decode cX3_cut 12 = .ok (.if_icmp .le 6, 3) := by decide +kernel
theorem dX3_cut_15 : decode cX3_cut 15 = .ok (.bipush (-11), 2) := by decide +kernel
theorem dX3_cut_17 : decode cX3_cut 17 = .ok (.ireturn, 1) := by decide +kernel
theorem dX3_cut_18 : decode cX3_cut 18 = .ok (.aload_n 0, 1) := by decide +kernel
theorem dX3_cut_19 : decode cX3_cut 19 = .ok (.getfield 25, 3) := by decide +kernel
theorem dX3_cut_22 : decode cX3_cut 22 = .ok (.getfield 187, 3) := by decide +kernel
theorem dX3_cut_25 : decode cX3_cut 25 = .ok (.iload_n 1, 1) := by decide +kernel
theorem dX3_cut_26 : decode cX3_cut 26 = .ok (.isub, 1) := by decide +kernel
theorem dX3_cut_27 : decode cX3_cut 27 = .ok (.istore_n 2, 1) := by decide +kernel
theorem dX3_cut_28 : decode cX3_cut 28 = .ok (.aload_n 0, 1) := by decide +kernel
theorem dX3_cut_29 : decode cX3_cut 29 = .ok (.getfield 25, 3) := by decide +kernel
theorem dX3_cut_32 : decode cX3_cut 32 = .ok (.iload_n 1, 1) := by decide +kernel
theorem dX3_cut_33 : decode cX3_cut 33 = .ok (.putfield 187, 3) := by decide +kernel
theorem dX3_cut_36 : decode cX3_cut 36 = .ok (.iload_n 2, 1) := by decide +kernel
theorem dX3_cut_37 : decode cX3_cut 37 = .ok (.ireturn, 1) := by decide +kernel
set_option maxRecDepth 20000 in
theorem ggX3_read_X3_spareState : GoodIn wsX3_read wsX3_spareState := goodIn_r _ [9, 3, 10, 11, 12, 13, 14, 15, 16, 17, 18, 19, 20, 21, 22, 87, 88, 89, 90, 91, 92, 93, 94, 95, 96, 97, 98, 99, 100] (by decide +kernel) (by decide +kernel)
set_option maxRecDepth 20000 in
theorem gX3_read_X3_spareState : GoodIn wsX3_read (wsV RX3 174 RX3 yX3_spareState wsX3_spareState) := goodIn_app (goodIn_of _ (by decide +kernel)) ggX3_read_X3_spareState
set_option maxRecDepth 20000 in
theorem ggX3_read_X0_unfold : GoodIn wsX3_read wsX0_unfold := goodIn_r _ [27, 28, 29, 30, 12, 31, 19, 32, 33, 34, 35, 36, 37, 38, 39, 40, 41, 42, 43, 44, 26, 45, 46, 47, 48, 49, 50, 51, 52, 53, 54, 55, 56, 57, 58, 59, 8, 60, 61, 62, 63, 64, 65, 66, 67, 68, 69, 70, 71, 95, 96, 97, 98, 99, 100, 101, 102] (by decide +kernel) (by decide +kernel)
set_option maxRecDepth 20000 in
theorem gX3_read_X0_unfold : GoodIn wsX3_read (wsV RX3 194 RX0 yX0_unfold wsX0_unfold) := goodIn_app (goodIn_of _ (by decide +kernel)) ggX3_read_X0_unfold
set_option maxRecDepth 20000 in
theorem ggX3_read_X3_comeBack : GoodIn wsX3_read wsX3_comeBack := goodIn_r _ [75, 76, 77, 2, 4, 78, 79, 80, 81, 82, 83, 84, 85, 86, 87, 88, 89, 90, 91, 92, 93, 94, 95, 96, 97, 98, 99, 100] (by decide +kernel) (by decide +kernel)
set_option maxRecDepth 20000 in
theorem gX3_read_X3_comeBack : GoodIn wsX3_read (wsV RX3 171 RX3 yX3_comeBack wsX3_comeBack) := goodIn_app (goodIn_of _ (by decide +kernel)) ggX3_read_X3_comeBack
theorem dX3_read_0 : decode cX3_read 0 = .ok (.aload_n 0, 1) := by decide +kernel
theorem dX3_read_1 : decode cX3_read 1 = .ok (.invokevirtual 174, 3) := by decide +kernel
theorem dX3_read_4 : decode cX3_read 4 = .ok (.astore_n 1, 1) := by decide +kernel
theorem dX3_read_5 : decode cX3_read 5 = .ok (.aload_n 0, 1) := by decide +kernel
theorem dX3_read_6 : decode cX3_read 6 = .ok (.getfield 25, 3) := by decide +kernel
theorem dX3_read_9 : decode cX3_read 9 = .ok (.aload_n 1, 1) := by decide +kernel
theorem dX3_read_10 : decode cX3_read 10 = .ok (.invokevirtual 194, 3) := by decide +kernel
theorem dX3_read_13 : decode cX3_read 13 = .ok (.istore_n 2, 1) := by decide +kernel
theorem dX3_read_14 : decode cX3_read 14 = .ok (.iload_n 2, 1) := by decide +kernel
theorem dX3_read_15 : decode cX3_read 15 = .ok (.iconst (-1), 1) := by decide +kernel
theorem dX3_read_16 : decode cX3_read 16 = .ok (.if_icmp .eq 8, 3) := by decide +kernel
theorem dX3_read_19 : decode cX3_read 19 = .ok (.bipush (-100), 2) := by decide +kernel
theorem dX3_read_21 : decode cX3_read 21 = .ok (.iload_n 2, 1) := by decide +kernel
theorem dX3_read_22 : decode cX3_read 22 = .ok (.isub, 1) := by decide +kernel
theorem dX3_read_23 : decode cX3_read 23 = .ok (.ireturn, 1) := by decide +kernel
theorem dX3_read_24 : decode cX3_read 24 = .ok (.aload_n 0, 1) := by decide +kernel
theorem dX3_read_25 : decode cX3_read 25 = .ok (.aload_n 0, 1) := by decide +kernel
theorem dX3_read_26 : decode cX3_read 26 = .ok (.getfield 30, 3) := by decide +kernel
theorem dX3_read_29 : decode cX3_read 29 = .ok (.putfield 177, 3) := by decide +kernel
theorem dX3_read_32 : decode cX3_read 32 = .ok (.aload_n 0, 1) := by decide +kernel
theorem dX3_read_33 : decode cX3_read 33 = .ok (.aload_n 1, 1) := by decide +kernel
theorem dX3_read_34 : decode cX3_read 34 = .ok (.invokevirtual 171, 3) := by decide +kernel
theorem dX3_read_37 : decode cX3_read 37 = .ok (.aload_n 0, 1) := by decide +kernel
theorem dX3_read_38 : decode cX3_read 38 = .ok (.getfield 30, 3) := by decide +kernel
theorem dX3_read_41 : decode cX3_read 41 = .ok (.getfield 84, 3) := by decide +kernel
theorem dX3_read_44 : decode cX3_read 44 = .ok (.ireturn, 1) := by decide +kernel
set_option maxRecDepth 20000 in
theorem ggX3_told_X2_usedBytes : GoodIn wsX3_told wsX2_usedBytes := goodIn_r _ [14, 15, 16, 40, 41, 42, 43, 44, 45] (by decide +kernel) (by decide +kernel)
set_option maxRecDepth 20000 in
theorem gX3_told_X2_usedBytes : GoodIn wsX3_told (wsV RX3 201 RX2 yX2_usedBytes wsX2_usedBytes) := goodIn_app (goodIn_of _ (by decide +kernel)) ggX3_told_X2_usedBytes
set_option maxRecDepth 20000 in
theorem ggX3_told_X2_gapCount : GoodIn wsX3_told wsX2_gapCount := goodIn_r _ [20, 15, 21, 22, 23, 13, 24, 25, 26, 27, 28, 29, 30, 16, 31, 40, 41, 42, 43, 44, 45] (by decide +kernel) (by decide +kernel)
set_option maxRecDepth 20000 in
theorem gX3_told_X2_gapCount : GoodIn wsX3_told (wsV RX3 205 RX2 yX2_gapCount wsX2_gapCount) := goodIn_app (goodIn_of _ (by decide +kernel)) ggX3_told_X2_gapCount
theorem dX3_told_0 : decode cX3_told 0 = .ok (.iload_n 1, 1) := by decide +kernel
theorem dX3_told_1 : decode cX3_told 1 = .ok (.tableswitch 114 0 8 #[51, 59, 67, 75, 83, 91, 96, 104, 109], 51) := by decide +kernel
theorem dX3_told_52 : decode cX3_told 52 = .ok (.aload_n 0, 1) := by decide +kernel
theorem dX3_told_53 : decode cX3_told 53 = .ok (.getfield 30, 3) := by decide +kernel
theorem dX3_told_56 : decode cX3_told 56 = .ok (.getfield 84, 3) := by decide +kernel
theorem dX3_told_59 : decode cX3_told 59 = .ok (.ireturn, 1) := by decide +kernel
theorem dX3_told_60 : decode cX3_told 60 = .ok (.aload_n 0, 1) := by decide +kernel
theorem dX3_told_61 : decode cX3_told 61 = .ok (.getfield 30, 3) := by decide +kernel
theorem dX3_told_64 : decode cX3_told 64 = .ok (.getfield 198, 3) := by decide +kernel
theorem dX3_told_67 : decode cX3_told 67 = .ok (.ireturn, 1) := by decide +kernel
theorem dX3_told_68 : decode cX3_told 68 = .ok (.aload_n 0, 1) := by decide +kernel
theorem dX3_told_69 : decode cX3_told 69 = .ok (.getfield 30, 3) := by decide +kernel
theorem dX3_told_72 : decode cX3_told 72 = .ok (.getfield 80, 3) := by decide +kernel
theorem dX3_told_75 : decode cX3_told 75 = .ok (.ireturn, 1) := by decide +kernel
theorem dX3_told_76 : decode cX3_told 76 = .ok (.aload_n 0, 1) := by decide +kernel
theorem dX3_told_77 : decode cX3_told 77 = .ok (.getfield 30, 3) := by decide +kernel
theorem dX3_told_80 : decode cX3_told 80 = .ok (.invokevirtual 201, 3) := by decide +kernel
theorem dX3_told_83 : decode cX3_told 83 = .ok (.ireturn, 1) := by decide +kernel
theorem dX3_told_84 : decode cX3_told 84 = .ok (.aload_n 0, 1) := by decide +kernel
theorem dX3_told_85 : decode cX3_told 85 = .ok (.getfield 30, 3) := by decide +kernel
theorem dX3_told_88 : decode cX3_told 88 = .ok (.invokevirtual 205, 3) := by decide +kernel
theorem dX3_told_91 : decode cX3_told 91 = .ok (.ireturn, 1) := by decide +kernel
theorem dX3_told_92 : decode cX3_told 92 = .ok (.aload_n 0, 1) := by decide +kernel
theorem dX3_told_93 : decode cX3_told 93 = .ok (.getfield 160, 3) := by decide +kernel
theorem dX3_told_96 : decode cX3_told 96 = .ok (.ireturn, 1) := by decide +kernel
theorem dX3_told_97 : decode cX3_told 97 = .ok (.aload_n 0, 1) := by decide +kernel
theorem dX3_told_98 : decode cX3_told 98 = .ok (.getfield 25, 3) := by decide +kernel
theorem dX3_told_101 : decode cX3_told 101 = .ok (.getfield 187, 3) := by decide +kernel
theorem dX3_told_104 : decode cX3_told 104 = .ok (.ireturn, 1) := by decide +kernel
theorem dX3_told_105 : decode cX3_told 105 = .ok (.aload_n 0, 1) := by decide +kernel
theorem dX3_told_106 : decode cX3_told 106 = .ok (.getfield 154, 3) := by decide +kernel
theorem dX3_told_109 : decode cX3_told 109 = .ok (.ireturn, 1) := by decide +kernel
theorem dX3_told_110 : decode cX3_told 110 = .ok (.aload_n 0, 1) := by decide +kernel
theorem dX3_told_111 : decode cX3_told 111 = .ok (.getfield 157, 3) := by decide +kernel
theorem dX3_told_114 : decode cX3_told 114 = .ok (.ireturn, 1) := by decide +kernel
theorem dX3_told_115 : decode cX3_told 115 = .ok (.bipush (-11), 2) := by decide +kernel
theorem dX3_told_117 : decode cX3_told 117 = .ok (.ireturn, 1) := by decide +kernel
end
section
set_option maxRecDepth 20000 in
theorem ggX4_init_X4_first : GoodIn wsX4_init wsX4_first := goodIn_r _ [21] (by decide +kernel) (by decide +kernel)
set_option maxRecDepth 20000 in
theorem gX4_init_X4_first : GoodIn wsX4_init (va_wsS RX4 48 yX4_first wsX4_first) := goodIn_app (goodIn_of _ (by decide +kernel)) ggX4_init_X4_first
theorem dX4_init_0 : decode cX4_init 0 = .ok (.aload_n 0, 1) := by decide +kernel
theorem dX4_init_1 : decode cX4_init 1 = .ok (.invokespecial 1, 3) := by decide +kernel
theorem dX4_init_4 : decode cX4_init 4 = .ok (.aload_n 0, 1) := by decide +kernel
theorem dX4_init_5 : decode cX4_init 5 = .ok (.sipush 8192, 3) := by decide +kernel
theorem dX4_init_8 : decode cX4_init 8 = .ok (.newarray .int, 2) := by decide +kernel
theorem dX4_init_10 : decode cX4_init 10 = .ok (.putfield 7, 3) := by decide +kernel
theorem dX4_init_13 : decode cX4_init 13 = .ok (.aload_n 0, 1) := by decide +kernel
theorem dX4_init_14 : decode cX4_init 14 = .ok (.bipush 65, 2) := by decide +kernel
theorem dX4_init_16 : decode cX4_init 16 = .ok (.newarray .int, 2) := by decide +kernel
theorem dX4_init_18 : decode cX4_init 18 = .ok (.putfield 13, 3) := by decide +kernel
theorem dX4_init_21 : decode cX4_init 21 = .ok (.aload_n 0, 1) := by decide +kernel
theorem dX4_init_22 : decode cX4_init 22 = .ok (.bipush 65, 2) := by decide +kernel
theorem dX4_init_24 : decode cX4_init 24 = .ok (.newarray .int, 2) := by decide +kernel
theorem dX4_init_26 : decode cX4_init 26 = .ok (.putfield 16, 3) := by decide +kernel
theorem dX4_init_29 : decode cX4_init 29 = .ok (.aload_n 0, 1) := by decide +kernel
theorem dX4_init_30 : decode cX4_init 30 = .ok (.ldc 19, 2) := by decide +kernel
theorem dX4_init_32 : decode cX4_init 32 = .ok (.newarray .int, 2) := by decide +kernel
theorem dX4_init_34 : decode cX4_init 34 = .ok (.putfield 20, 3) := by decide +kernel
theorem dX4_init_37 : decode cX4_init 37 = .ok (.aload_n 0, 1) := by decide +kernel
theorem dX4_init_38 : decode cX4_init 38 = .ok (.iconst 5, 1) := by decide +kernel
theorem dX4_init_39 : decode cX4_init 39 = .ok (.newarray .int, 2) := by decide +kernel
theorem dX4_init_41 : decode cX4_init 41 = .ok (.putfield 23, 3) := by decide +kernel
theorem dX4_init_44 : decode cX4_init 44 = .ok (.aload_n 0, 1) := by decide +kernel
theorem dX4_init_45 : decode cX4_init 45 = .ok (.iconst 5, 1) := by decide +kernel
theorem dX4_init_46 : decode cX4_init 46 = .ok (.newarray .int, 2) := by decide +kernel
theorem dX4_init_48 : decode cX4_init 48 = .ok (.putfield 26, 3) := by decide +kernel
theorem dX4_init_51 : decode cX4_init 51 = .ok (.aload_n 0, 1) := by decide +kernel
theorem dX4_init_52 : decode cX4_init 52 = .ok (.iconst 5, 1) := by decide +kernel
theorem dX4_init_53 : decode cX4_init 53 = .ok (.newarray .int, 2) := by decide +kernel
theorem dX4_init_55 : decode cX4_init 55 = .ok (.putfield 29, 3) := by decide +kernel
theorem dX4_init_58 : decode cX4_init 58 = .ok (.aload_n 0, 1) := by decide +kernel
theorem dX4_init_59 : decode cX4_init 59 = .ok (.sipush 320, 3) := by decide +kernel
theorem dX4_init_62 : decode cX4_init 62 = .ok (.newarray .int, 2) := by decide +kernel
theorem dX4_init_64 : decode cX4_init 64 = .ok (.putfield 32, 3) := by decide +kernel
theorem dX4_init_67 : decode cX4_init 67 = .ok (.aload_n 0, 1) := by decide +kernel
theorem dX4_init_68 : decode cX4_init 68 = .ok (.sipush 320, 3) := by decide +kernel
theorem dX4_init_71 : decode cX4_init 71 = .ok (.newarray .int, 2) := by decide +kernel
theorem dX4_init_73 : decode cX4_init 73 = .ok (.putfield 35, 3) := by decide +kernel
theorem dX4_init_76 : decode cX4_init 76 = .ok (.aload_n 0, 1) := by decide +kernel
theorem dX4_init_77 : decode cX4_init 77 = .ok (.sipush 20000, 3) := by decide +kernel
theorem dX4_init_80 : decode cX4_init 80 = .ok (.newarray .int, 2) := by decide +kernel
theorem dX4_init_82 : decode cX4_init 82 = .ok (.putfield 38, 3) := by decide +kernel
theorem dX4_init_85 : decode cX4_init 85 = .ok (.aload_n 0, 1) := by decide +kernel
theorem dX4_init_86 : decode cX4_init 86 = .ok (.bipush 64, 2) := by decide +kernel
theorem dX4_init_88 : decode cX4_init 88 = .ok (.newarray .int, 2) := by decide +kernel
theorem dX4_init_90 : decode cX4_init 90 = .ok (.putfield 41, 3) := by decide +kernel
theorem dX4_init_93 : decode cX4_init 93 = .ok (.aload_n 0, 1) := by decide +kernel
theorem dX4_init_94 : decode cX4_init 94 = .ok (.sipush 1024, 3) := by decide +kernel
theorem dX4_init_97 : decode cX4_init 97 = .ok (.putfield 44, 3) := by decide +kernel
theorem dX4_init_100 : decode cX4_init 100 = .ok (.iconst 0, 1) := by decide +kernel
theorem dX4_init_101 : decode cX4_init 101 = .ok (.istore_n 1, 1) := by decide +kernel
theorem dX4_init_102 : decode cX4_init 102 = .ok (.iload_n 1, 1) := by decide +kernel
theorem dX4_init_103 : decode cX4_init 103 = .ok (.sipush 8192, 3) := by decide +kernel
theorem dX4_init_106 : decode cX4_init 106 = .ok (.if_icmp .ge 19, 3) := by decide +kernel
theorem dX4_init_109 : decode cX4_init 109 = .ok (.aload_n 0, 1) := by decide +kernel
theorem dX4_init_110 : decode cX4_init 110 = .ok (.getfield 7, 3) := by decide +kernel
theorem dX4_init_113 : decode cX4_init 113 = .ok (.iload_n 1, 1) := by decide +kernel
theorem dX4_init_114 : decode cX4_init 114 = .ok (.iload_n 1, 1) := by decide +kernel
theorem dX4_init_115 : decode cX4_init 115 = .ok (.invokestatic 48, 3) := by decide +kernel
theorem dX4_init_118 : decode cX4_init 118 = .ok (.iastore, 1) := by decide +kernel
theorem dX4_init_119 : decode cX4_init 119 = .ok (.iinc 1 1, 3) := by decide +kernel
theorem dX4_init_122 : decode cX4_init 122 = .ok (.goto (-20), 3) := by decide +kernel
theorem dX4_init_125 : decode cX4_init 125 = .ok (.return_, 1) := by decide +kernel
theorem dX4_first_0 : decode cX4_first 0 = .ok (.iload_n 0, 1) := by decide +kernel
theorem dX4_first_1 : decode cX4_first 1 = .ok (.bipush 64, 2) := by decide +kernel
theorem dX4_first_3 : decode cX4_first 3 = .ok (.if_icmp .ge 14, 3) := by decide +kernel
theorem dX4_first_6 : decode cX4_first 6 = .ok (.bipush 7, 2) := by decide +kernel
theorem dX4_first_8 : decode cX4_first 8 = .ok (.iload_n 0, 1) := by decide +kernel
theorem dX4_first_9 : decode cX4_first 9 = .ok (.imul, 1) := by decide +kernel
theorem dX4_first_10 : decode cX4_first 10 = .ok (.sipush 255, 3) := by decide +kernel
theorem dX4_first_13 : decode cX4_first 13 = .ok (.iand, 1) := by decide +kernel
theorem dX4_first_14 : decode cX4_first 14 = .ok (.goto 4, 3) := by decide +kernel
theorem dX4_first_17 : decode cX4_first 17 = .ok (.iconst 0, 1) := by decide +kernel
theorem dX4_first_18 : decode cX4_first 18 = .ok (.ireturn, 1) := by decide +kernel
theorem dX4_isIn_0 : decode cX4_isIn 0 = .ok (.lload_n 3, 1) := by decide +kernel
theorem dX4_isIn_1 : decode cX4_isIn 1 = .ok (.lconst 0, 1) := by decide +kernel
theorem dX4_isIn_2 : decode cX4_isIn 2 = .ok (.lcmp, 1) := by decide +kernel
theorem dX4_isIn_3 : decode cX4_isIn 3 = .ok (.ifCond .eq 21, 3) := by decide +kernel
theorem dX4_isIn_6 : decode cX4_isIn 6 = .ok (.lload_n 1, 1) := by decide +kernel
theorem dX4_isIn_7 : decode cX4_isIn 7 = .ok (.lconst 0, 1) := by decide +kernel
theorem dX4_isIn_8 : decode cX4_isIn 8 = .ok (.lcmp, 1) := by decide +kernel
theorem dX4_isIn_9 : decode cX4_isIn 9 = .ok (.ifCond .lt 19, 3) := by decide +kernel
theorem dX4_isIn_12 : decode cX4_isIn 12 = .ok (.lload_n 1, 1) := by decide +kernel
theorem dX4_isIn_13 : decode cX4_isIn 13 = .ok (.lload_n 3, 1) := by decide +kernel
theorem dX4_isIn_14 : decode cX4_isIn 14 = .ok (.ladd, 1) := by decide +kernel
theorem dX4_isIn_15 : decode cX4_isIn 15 = .ok (.aload_n 0, 1) := by decide +kernel
theorem dX4_isIn_16 : decode cX4_isIn 16 = .ok (.getfield 44, 3) := by decide +kernel
theorem dX4_isIn_19 : decode cX4_isIn 19 = .ok (.i2l, 1) := by decide +kernel
theorem dX4_isIn_20 : decode cX4_isIn 20 = .ok (.lcmp, 1) := by decide +kernel
theorem dX4_isIn_21 : decode cX4_isIn 21 = .ok (.ifCond .gt 7, 3) := by decide +kernel
theorem dX4_isIn_24 : decode cX4_isIn 24 = .ok (.iconst 1, 1) := by decide +kernel
theorem dX4_isIn_25 : decode cX4_isIn 25 = .ok (.goto 4, 3) := by decide +kernel
theorem dX4_isIn_28 : decode cX4_isIn 28 = .ok (.iconst 0, 1) := by decide +kernel
theorem dX4_isIn_29 : decode cX4_isIn 29 = .ok (.ireturn, 1) := by decide +kernel
theorem dX4_isWidth_0 : decode cX4_isWidth 0 = .ok (.iload_n 0, 1) := by decide +kernel
theorem dX4_isWidth_1 : decode cX4_isWidth 1 = .ok (.iconst 1, 1) := by decide +kernel
theorem dX4_isWidth_2 : decode cX4_isWidth 2 = .ok (.if_icmp .eq 13, 3) := by decide +kernel
theorem dX4_isWidth_5 : decode cX4_isWidth 5 = .ok (.iload_n 0, 1) := by decide +kernel
theorem dX4_isWidth_6 : decode cX4_isWidth 6 = .ok (.iconst 2, 1) := by decide +kernel
theorem dX4_isWidth_7 : decode cX4_isWidth 7 = .ok (.if_icmp .eq 8, 3) := by decide +kernel
theorem dX4_isWidth_10 : decode cX4_isWidth 10 = .ok (.iload_n 0, 1) := by decide +kernel
theorem dX4_isWidth_11 : decode cX4_isWidth 11 = .ok (.iconst 4, 1) := by decide +kernel
theorem dX4_isWidth_12 : decode cX4_isWidth 12 = .ok (.if_icmp .ne 7, 3) := by decide +kernel
theorem dX4_isWidth_15 : decode cX4_isWidth 15 = .ok (.iconst 1, 1) := by decide +kernel
theorem dX4_isWidth_16 : decode cX4_isWidth 16 = .ok (.goto 4, 3) := by decide +kernel
theorem dX4_isWidth_19 : decode cX4_isWidth 19 = .ok (.iconst 0, 1) := by decide +kernel
theorem dX4_isWidth_20 : decode cX4_isWidth 20 = .ok (.ireturn, 1) := by decide +kernel
theorem dX4_number_0 : decode cX4_number 0 = .ok (.lconst 0, 1) := by decide +kernel
theorem dX4_number_1 : decode cX4_number 1 = .ok (.lstore_n 3, 1) := by decide +kernel
theorem dX4_number_2 : decode cX4_number 2 = .ok (.iconst 0, 1) := by decide +kernel
theorem dX4_number_3 : decode cX4_number 3 = .ok (.istore 5, 2) := by decide +kernel
theorem dX4_number_5 : decode cX4_number 5 = .ok (.iload 5, 2) := by decide +kernel
theorem dX4_number_7 : decode cX4_number 7 = .ok (.iload_n 2, 1) := by decide +kernel
theorem dX4_number_8 : decode cX4_number 8 = .ok (.if_icmp .ge 25, 3) := by decide +kernel
theorem dX4_number_11 : decode cX4_number 11 = .ok (.lload_n 3, 1) := by decide +kernel
theorem dX4_number_12 : decode cX4_number 12 = .ok (.bipush 8, 2) := by decide +kernel
theorem dX4_number_14 : decode cX4_number 14 = .ok (.lshl, 1) := by decide +kernel
theorem dX4_number_15 : decode cX4_number 15 = .ok (.aload_n 0, 1) := by decide +kernel
theorem dX4_number_16 : decode cX4_number 16 = .ok (.getfield 7, 3) := by decide +kernel
theorem dX4_number_19 : decode cX4_number 19 = .ok (.iload_n 1, 1) := by decide +kernel
theorem dX4_number_20 : decode cX4_number 20 = .ok (.iload 5, 2) := by decide +kernel
theorem dX4_number_22 : decode cX4_number 22 = .ok (.iadd, 1) := by decide +kernel
theorem dX4_number_23 : decode cX4_number 23 = .ok (.iaload, 1) := by decide +kernel
theorem dX4_number_24 : decode cX4_number 24 = .ok (.i2l, 1) := by decide +kernel
theorem dX4_number_25 : decode cX4_number 25 = .ok (.lor, 1) := by decide +kernel
theorem dX4_number_26 : decode cX4_number 26 = .ok (.lstore_n 3, 1) := by decide +kernel
theorem dX4_number_27 : decode cX4_number 27 = .ok (.iinc 5 1, 3) := by decide +kernel
theorem dX4_number_30 : decode cX4_number 30 = .ok (.goto (-25), 3) := by decide +kernel
theorem dX4_number_33 : decode cX4_number 33 = .ok (.lload_n 3, 1) := by decide +kernel
theorem dX4_number_34 : decode cX4_number 34 = .ok (.lreturn, 1) := by decide +kernel
set_option maxRecDepth 20000 in
theorem ggX4_get_X4_isWidth : GoodIn wsX4_get wsX4_isWidth := goodIn_r _ [6] (by decide +kernel) (by decide +kernel)
set_option maxRecDepth 20000 in
theorem gX4_get_X4_isWidth : GoodIn wsX4_get (va_wsS RX4 52 yX4_isWidth wsX4_isWidth) := goodIn_app (goodIn_of _ (by decide +kernel)) ggX4_get_X4_isWidth
set_option maxRecDepth 20000 in
theorem ggX4_get_X4_isIn : GoodIn wsX4_get wsX4_isIn := goodIn_r _ [10, 11, 17, 18, 19, 20, 21, 22, 23, 24, 25, 26, 27, 28, 29, 30, 31, 32, 33, 34] (by decide +kernel) (by decide +kernel)
set_option maxRecDepth 20000 in
theorem gX4_get_X4_isIn : GoodIn wsX4_get (wsV RX4 58 RX4 yX4_isIn wsX4_isIn) := goodIn_app (goodIn_of _ (by decide +kernel)) ggX4_get_X4_isIn
set_option maxRecDepth 20000 in
theorem ggX4_get_X4_number : GoodIn wsX4_get wsX4_number := goodIn_r _ [15, 16, 17, 18, 19, 20, 21, 22, 23, 24, 25, 26, 27, 28, 29, 30, 31, 32, 33, 34] (by decide +kernel) (by decide +kernel)
set_option maxRecDepth 20000 in
theorem gX4_get_X4_number : GoodIn wsX4_get (wsV RX4 62 RX4 yX4_number wsX4_number) := goodIn_app (goodIn_of _ (by decide +kernel)) ggX4_get_X4_number
theorem dX4_get_0 : decode cX4_get 0 = .ok (.iload_n 2, 1) := by decide +kernel
theorem dX4_get_1 : decode cX4_get 1 = .ok (.invokestatic 52, 3) := by decide +kernel
theorem dX4_get_4 : decode cX4_get 4 = .ok (.ifCond .eq 7, 3) := by decide +kernel
theorem dX4_get_7 : decode cX4_get 7 = .ok (.iload_n 1, 1) := by decide +kernel
theorem dX4_get_8 : decode cX4_get 8 = .ok (.ifCond .ge 7, 3) := by decide +kernel
theorem dX4_get_11 : decode cX4_get 11 = .ok (.ldc2_w 56, 3) := by decide +kernel
theorem dX4_get_14 : decode cX4_get 14 = .ok (.lreturn, 1) := by decide +kernel
theorem dX4_get_15 : decode cX4_get 15 = .ok (.aload_n 0, 1) := by decide +kernel
theorem dX4_get_16 : decode cX4_get 16 = .ok (.iload_n 1, 1) := by decide +kernel
theorem dX4_get_17 : decode cX4_get 17 = .ok (.i2l, 1) := by decide +kernel
theorem dX4_get_18 : decode cX4_get 18 = .ok (.iload_n 2, 1) := by decide +kernel
theorem dX4_get_19 : decode cX4_get 19 = .ok (.i2l, 1) := by decide +kernel
theorem dX4_get_20 : decode cX4_get 20 = .ok (.invokevirtual 58, 3) := by decide +kernel
theorem dX4_get_23 : decode cX4_get 23 = .ok (.ifCond .eq 12, 3) := by decide +kernel
theorem dX4_get_26 : decode cX4_get 26 = .ok (.aload_n 0, 1) := by decide +kernel
theorem dX4_get_27 : decode cX4_get 27 = .ok (.iload_n 1, 1) := by decide +kernel
theorem dX4_get_28 : decode cX4_get 28 = .ok (.iload_n 2, 1) := by decide +kernel
theorem dX4_get_29 : decode cX4_get 29 = .ok (.invokevirtual 62, 3) := by decide +kernel
theorem dX4_get_32 : decode cX4_get 32 = .ok (.goto 6, 3) := by decide +kernel
theorem dX4_get_35 : decode cX4_get 35 = .ok (.ldc2_w 66, 3) := by decide +kernel
theorem dX4_get_38 : decode cX4_get 38 = .ok (.lreturn, 1) := by decide +kernel
set_option maxRecDepth 20000 in
theorem ggX4_set_X4_isWidth : GoodIn wsX4_set wsX4_isWidth := goodIn_r _ [5] (by decide +kernel) (by decide +kernel)
set_option maxRecDepth 20000 in
theorem gX4_set_X4_isWidth : GoodIn wsX4_set (va_wsS RX4 52 yX4_isWidth wsX4_isWidth) := goodIn_app (goodIn_of _ (by decide +kernel)) ggX4_set_X4_isWidth
set_option maxRecDepth 20000 in
theorem ggX4_set_X4_isIn : GoodIn wsX4_set wsX4_isIn := goodIn_r _ [9, 10, 11, 12, 13, 14, 15, 16, 17, 18, 19, 20, 21, 22, 23, 24, 25, 26, 27, 28] (by decide +kernel) (by decide +kernel)
set_option maxRecDepth 20000 in
theorem gX4_set_X4_isIn : GoodIn wsX4_set (wsV RX4 58 RX4 yX4_isIn wsX4_isIn) := goodIn_app (goodIn_of _ (by decide +kernel)) ggX4_set_X4_isIn
theorem dX4_set_0 : decode cX4_set 0 = .ok (.iload_n 2, 1) := by decide +kernel
theorem dX4_set_1 : decode cX4_set 1 = .ok (.invokestatic 52, 3) := by decide +kernel
theorem dX4_set_4 : decode cX4_set 4 = .ok (.ifCond .eq 7, 3) := by decide +kernel
theorem dX4_set_7 : decode cX4_set 7 = .ok (.iload_n 1, 1) := by decide +kernel
theorem dX4_set_8 : decode cX4_set 8 = .ok (.ifCond .ge 6, 3) := by decide +kernel
theorem dX4_set_11 : decode cX4_set 11 = .ok (.bipush (-11), 2) := by decide +kernel
theorem dX4_set_13 : decode cX4_set 13 = .ok (.ireturn, 1) := by decide +kernel
theorem dX4_set_14 : decode cX4_set 14 = .ok (.aload_n 0, 1) := by decide +kernel
theorem dX4_set_15 : decode cX4_set 15 = .ok (.iload_n 1, 1) := by decide +kernel
theorem dX4_set_16 : decode cX4_set 16 = .ok (.i2l, 1) := by decide +kernel
theorem dX4_set_17 : decode cX4_set 17 = .ok (.iload_n 2, 1) := by decide +kernel
theorem dX4_set_18 : decode cX4_set 18 = .ok (.i2l, 1) := by decide +kernel
theorem dX4_set_19 : decode cX4_set 19 = .ok (.invokevirtual 58, 3) := by decide +kernel
theorem dX4_set_22 : decode cX4_set 22 = .ok (.ifCond .ne 6, 3) := by decide +kernel
theorem dX4_set_25 : decode cX4_set 25 = .ok (.bipush (-12), 2) := by decide +kernel
theorem dX4_set_27 : decode cX4_set 27 = .ok (.ireturn, 1) := by decide +kernel
theorem dX4_set_28 : decode cX4_set 28 = .ok (.iload_n 1, 1) := by decide +kernel
theorem dX4_set_29 : decode cX4_set 29 = .ok (.bipush 64, 2) := by decide +kernel
theorem dX4_set_31 : decode cX4_set 31 = .ok (.if_icmp .ge 6, 3) := by decide +kernel
theorem dX4_set_34 : decode cX4_set 34 = .ok (.bipush (-13), 2) := by decide +kernel
theorem dX4_set_36 : decode cX4_set 36 = .ok (.ireturn, 1) := by decide +kernel
theorem dX4_set_37 : decode cX4_set 37 = .ok (.iconst 0, 1) := by decide +kernel
theorem dX4_set_38 : decode cX4_set 38 = .ok (.istore 4, 2) := by decide +kernel
theorem dX4_set_40 : decode cX4_set 40 = .ok (.iload 4, 2) := by decide +kernel
theorem dX4_set_42 : decode cX4_set 42 = .ok (.iload_n 2, 1) := by decide +kernel
theorem dX4_set_43 : decode cX4_set 43 = .ok (.if_icmp .ge 33, 3) := by decide +kernel
theorem dX4_set_46 : decode cX4_set 46 = .ok (.aload_n 0, 1) := by decide +kernel
theorem dX4_set_47 : decode cX4_set 47 = .ok (.getfield 7, 3) := by decide +kernel
theorem dX4_set_50 : decode cX4_set 50 = .ok (.iload_n 1, 1) := by decide +kernel
theorem dX4_set_51 : decode cX4_set 51 = .ok (.iload 4, 2) := by decide +kernel
theorem dX4_set_53 : decode cX4_set 53 = .ok (.iadd, 1) := by decide +kernel
theorem dX4_set_54 : decode cX4_set 54 = .ok (.iload_n 3, 1) := by decide +kernel
theorem dX4_set_55 : decode cX4_set 55 = .ok (.bipush 8, 2) := by decide +kernel
theorem dX4_set_57 : decode cX4_set 57 = .ok (.iload_n 2, 1) := by decide +kernel
theorem dX4_set_58 : decode cX4_set 58 = .ok (.iconst 1, 1) := by decide +kernel
theorem dX4_set_59 : decode cX4_set 59 = .ok (.isub, 1) := by decide +kernel
theorem dX4_set_60 : decode cX4_set 60 = .ok (.iload 4, 2) := by decide +kernel
theorem dX4_set_62 : decode cX4_set 62 = .ok (.isub, 1) := by decide +kernel
theorem dX4_set_63 : decode cX4_set 63 = .ok (.imul, 1) := by decide +kernel
theorem dX4_set_64 : decode cX4_set 64 = .ok (.ishr, 1) := by decide +kernel
theorem dX4_set_65 : decode cX4_set 65 = .ok (.sipush 255, 3) := by decide +kernel
theorem dX4_set_68 : decode cX4_set 68 = .ok (.iand, 1) := by decide +kernel
theorem dX4_set_69 : decode cX4_set 69 = .ok (.iastore, 1) := by decide +kernel
theorem dX4_set_70 : decode cX4_set 70 = .ok (.iinc 4 1, 3) := by decide +kernel
theorem dX4_set_73 : decode cX4_set 73 = .ok (.goto (-33), 3) := by decide +kernel
theorem dX4_set_76 : decode cX4_set 76 = .ok (.iconst 1, 1) := by decide +kernel
theorem dX4_set_77 : decode cX4_set 77 = .ok (.ireturn, 1) := by decide +kernel
set_option maxRecDepth 20000 in
theorem ggX4_zero_X4_isIn : GoodIn wsX4_zero wsX4_isIn := goodIn_r _ [6, 7, 8, 9, 10, 11, 12, 13, 14, 15, 16, 17, 18, 19, 20, 21, 22, 23, 24, 25] (by decide +kernel) (by decide +kernel)
set_option maxRecDepth 20000 in
theorem gX4_zero_X4_isIn : GoodIn wsX4_zero (wsV RX4 58 RX4 yX4_isIn wsX4_isIn) := goodIn_app (goodIn_of _ (by decide +kernel)) ggX4_zero_X4_isIn
theorem dX4_zero_0 : decode cX4_zero 0 = .ok (.iload_n 1, 1) := by decide +kernel
theorem dX4_zero_1 : decode cX4_zero 1 = .ok (.ifCond .lt 7, 3) := by decide +kernel
theorem dX4_zero_4 : decode cX4_zero 4 = .ok (.iload_n 2, 1) := by decide +kernel
theorem dX4_zero_5 : decode cX4_zero 5 = .ok (.ifCond .ge 6, 3) := by decide +kernel
theorem dX4_zero_8 : decode cX4_zero 8 = .ok (.bipush (-11), 2) := by decide +kernel
theorem dX4_zero_10 : decode cX4_zero 10 = .ok (.ireturn, 1) := by decide +kernel
theorem dX4_zero_11 : decode cX4_zero 11 = .ok (.aload_n 0, 1) := by decide +kernel
theorem dX4_zero_12 : decode cX4_zero 12 = .ok (.iload_n 1, 1) := by decide +kernel
theorem dX4_zero_13 : decode cX4_zero 13 = .ok (.i2l, 1) := by decide +kernel
theorem dX4_zero_14 : decode cX4_zero 14 = .ok (.iload_n 2, 1) := by decide +kernel
theorem dX4_zero_15 : decode cX4_zero 15 = .ok (.i2l, 1) := by decide +kernel
theorem dX4_zero_16 : decode cX4_zero 16 = .ok (.invokevirtual 58, 3) := by decide +kernel
theorem dX4_zero_19 : decode cX4_zero 19 = .ok (.ifCond .ne 6, 3) := by decide +kernel
theorem dX4_zero_22 : decode cX4_zero 22 = .ok (.bipush (-12), 2) := by decide +kernel
theorem dX4_zero_24 : decode cX4_zero 24 = .ok (.ireturn, 1) := by decide +kernel
theorem dX4_zero_25 : decode cX4_zero 25 = .ok (.iload_n 2, 1) := by decide +kernel
theorem dX4_zero_26 : decode cX4_zero 26 = .ok (.ifCond .le 12, 3) := by decide +kernel
theorem dX4_zero_29 : decode cX4_zero 29 = .ok (.iload_n 1, 1) := by decide +kernel
theorem dX4_zero_30 : decode cX4_zero 30 = .ok (.bipush 64, 2) := by decide +kernel
theorem dX4_zero_32 : decode cX4_zero 32 = .ok (.if_icmp .ge 6, 3) := by decide +kernel
theorem dX4_zero_35 : decode cX4_zero 35 = .ok (.bipush (-13), 2) := by decide +kernel
theorem dX4_zero_37 : decode cX4_zero 37 = .ok (.ireturn, 1) := by decide +kernel
theorem dX4_zero_38 : decode cX4_zero 38 = .ok (.iconst 0, 1) := by decide +kernel
theorem dX4_zero_39 : decode cX4_zero 39 = .ok (.istore_n 3, 1) := by decide +kernel
theorem dX4_zero_40 : decode cX4_zero 40 = .ok (.iload_n 3, 1) := by decide +kernel
theorem dX4_zero_41 : decode cX4_zero 41 = .ok (.iload_n 2, 1) := by decide +kernel
theorem dX4_zero_42 : decode cX4_zero 42 = .ok (.if_icmp .ge 18, 3) := by decide +kernel
theorem dX4_zero_45 : decode cX4_zero 45 = .ok (.aload_n 0, 1) := by decide +kernel
theorem dX4_zero_46 : decode cX4_zero 46 = .ok (.getfield 7, 3) := by decide +kernel
theorem dX4_zero_49 : decode cX4_zero 49 = .ok (.iload_n 1, 1) := by decide +kernel
theorem dX4_zero_50 : decode cX4_zero 50 = .ok (.iload_n 3, 1) := by decide +kernel
theorem dX4_zero_51 : decode cX4_zero 51 = .ok (.iadd, 1) := by decide +kernel
theorem dX4_zero_52 : decode cX4_zero 52 = .ok (.iconst 0, 1) := by decide +kernel
theorem dX4_zero_53 : decode cX4_zero 53 = .ok (.iastore, 1) := by decide +kernel
theorem dX4_zero_54 : decode cX4_zero 54 = .ok (.iinc 3 1, 3) := by decide +kernel
theorem dX4_zero_57 : decode cX4_zero 57 = .ok (.goto (-17), 3) := by decide +kernel
theorem dX4_zero_60 : decode cX4_zero 60 = .ok (.iconst 1, 1) := by decide +kernel
theorem dX4_zero_61 : decode cX4_zero 61 = .ok (.ireturn, 1) := by decide +kernel
set_option maxRecDepth 20000 in
theorem ggX4_copy_X4_isIn : GoodIn wsX4_copy wsX4_isIn := goodIn_r _ [6, 7, 8, 9, 10, 11, 12, 13, 14, 15, 16, 17, 18, 19, 20, 21, 22, 23, 24, 25] (by decide +kernel) (by decide +kernel)
set_option maxRecDepth 20000 in
theorem gX4_copy_X4_isIn : GoodIn wsX4_copy (wsV RX4 58 RX4 yX4_isIn wsX4_isIn) := goodIn_app (goodIn_of _ (by decide +kernel)) ggX4_copy_X4_isIn
theorem dX4_copy_0 : decode cX4_copy 0 = .ok (.iload_n 1, 1) := by decide +kernel
theorem dX4_copy_1 : decode cX4_copy 1 = .ok (.ifCond .lt 11, 3) := by decide +kernel
theorem dX4_copy_4 : decode cX4_copy 4 = .ok (.iload_n 2, 1) := by decide +kernel
theorem dX4_copy_5 : decode cX4_copy 5 = .ok (.ifCond .lt 7, 3) := by decide +kernel
theorem dX4_copy_8 : decode cX4_copy 8 = .ok (.iload_n 3, 1) := by decide +kernel
theorem dX4_copy_9 : decode cX4_copy 9 = .ok (.ifCond .ge 6, 3) := by decide +kernel
theorem dX4_copy_12 : decode cX4_copy 12 = .ok (.bipush (-11), 2) := by decide +kernel
theorem dX4_copy_14 : decode cX4_copy 14 = .ok (.ireturn, 1) := by decide +kernel
theorem dX4_copy_15 : decode cX4_copy 15 = .ok (.aload_n 0, 1) := by decide +kernel
theorem dX4_copy_16 : decode cX4_copy 16 = .ok (.iload_n 1, 1) := by decide +kernel
theorem dX4_copy_17 : decode cX4_copy 17 = .ok (.i2l, 1) := by decide +kernel
theorem dX4_copy_18 : decode cX4_copy 18 = .ok (.iload_n 3, 1) := by decide +kernel
theorem dX4_copy_19 : decode cX4_copy 19 = .ok (.i2l, 1) := by decide +kernel
theorem dX4_copy_20 : decode cX4_copy 20 = .ok (.invokevirtual 58, 3) := by decide +kernel
theorem dX4_copy_23 : decode cX4_copy 23 = .ok (.ifCond .eq 14, 3) := by decide +kernel
theorem dX4_copy_26 : decode cX4_copy 26 = .ok (.aload_n 0, 1) := by decide +kernel
theorem dX4_copy_27 : decode cX4_copy 27 = .ok (.iload_n 2, 1) := by decide +kernel
theorem dX4_copy_28 : decode cX4_copy 28 = .ok (.i2l, 1) := by decide +kernel
theorem dX4_copy_29 : decode cX4_copy 29 = .ok (.iload_n 3, 1) := by decide +kernel
theorem dX4_copy_30 : decode cX4_copy 30 = .ok (.i2l, 1) := by decide +kernel
theorem dX4_copy_31 : decode cX4_copy 31 = .ok (.invokevirtual 58, 3) := by decide +kernel
theorem dX4_copy_34 : decode cX4_copy 34 = .ok (.ifCond .ne 6, 3) := by decide +kernel
theorem dX4_copy_37 : decode cX4_copy 37 = .ok (.bipush (-12), 2) := by decide +kernel
theorem dX4_copy_39 : decode cX4_copy 39 = .ok (.ireturn, 1) := by decide +kernel
theorem dX4_copy_40 : decode cX4_copy 40 = .ok (.iload_n 3, 1) := by decide +kernel
theorem dX4_copy_41 : decode cX4_copy 41 = .ok (.ifCond .le 12, 3) := by decide +kernel
theorem dX4_copy_44 : decode cX4_copy 44 = .ok (.iload_n 2, 1) := by decide +kernel
theorem dX4_copy_45 : decode cX4_copy 45 = .ok (.bipush 64, 2) := by decide +kernel
theorem dX4_copy_47 : decode cX4_copy 47 = .ok (.if_icmp .ge 6, 3) := by decide +kernel
theorem dX4_copy_50 : decode cX4_copy 50 = .ok (.bipush (-13), 2) := by decide +kernel
theorem dX4_copy_52 : decode cX4_copy 52 = .ok (.ireturn, 1) := by decide +kernel
theorem dX4_copy_53 : decode cX4_copy 53 = .ok (.iconst 0, 1) := by decide +kernel
theorem dX4_copy_54 : decode cX4_copy 54 = .ok (.istore 4, 2) := by decide +kernel
theorem dX4_copy_56 : decode cX4_copy 56 = .ok (.iload 4, 2) := by decide +kernel
theorem dX4_copy_58 : decode cX4_copy 58 = .ok (.iload_n 3, 1) := by decide +kernel
theorem dX4_copy_59 : decode cX4_copy 59 = .ok (.if_icmp .ge 45, 3) := by decide +kernel
theorem dX4_copy_62 : decode cX4_copy 62 = .ok (.iload_n 1, 1) := by decide +kernel
theorem dX4_copy_63 : decode cX4_copy 63 = .ok (.iload_n 2, 1) := by decide +kernel
theorem dX4_copy_64 : decode cX4_copy 64 = .ok (.if_icmp .ge 12, 3) := by decide +kernel
theorem dX4_copy_67 : decode cX4_copy 67 = .ok (.iload_n 3, 1) := by decide +kernel
theorem dX4_copy_68 : decode cX4_copy 68 = .ok (.iconst 1, 1) := by decide +kernel
theorem dX4_copy_69 : decode cX4_copy 69 = .ok (.isub, 1) := by decide +kernel
theorem dX4_copy_70 : decode cX4_copy 70 = .ok (.iload 4, 2) := by decide +kernel
theorem dX4_copy_72 : decode cX4_copy 72 = .ok (.isub, 1) := by decide +kernel
theorem dX4_copy_73 : decode cX4_copy 73 = .ok (.goto 5, 3) := by decide +kernel
theorem dX4_copy_76 : decode cX4_copy 76 = .ok (.iload 4, 2) := by decide +kernel
theorem dX4_copy_78 : decode cX4_copy 78 = .ok (.istore 5, 2) := by decide +kernel
theorem dX4_copy_80 : decode cX4_copy 80 = .ok (.aload_n 0, 1) := by decide +kernel
theorem dX4_copy_81 : decode cX4_copy 81 = .ok (.getfield 7, 3) := by decide +kernel
theorem dX4_copy_84 : decode cX4_copy 84 = .ok (.iload_n 2, 1) := by decide +kernel
theorem dX4_copy_85 : decode cX4_copy 85 = .ok (.iload 5, 2) := by decide +kernel
theorem dX4_copy_87 : decode cX4_copy 87 = .ok (.iadd, 1) := by decide +kernel
theorem dX4_copy_88 : decode cX4_copy 88 = .ok (.aload_n 0, 1) := by decide +kernel
theorem dX4_copy_89 : decode cX4_copy 89 = .ok (.getfield 7, 3) := by decide +kernel
theorem dX4_copy_92 : decode cX4_copy 92 = .ok (.iload_n 1, 1) := by decide +kernel
theorem dX4_copy_93 : decode cX4_copy 93 = .ok (.iload 5, 2) := by decide +kernel
theorem dX4_copy_95 : decode cX4_copy 95 = .ok (.iadd, 1) := by decide +kernel
theorem dX4_copy_96 : decode cX4_copy 96 = .ok (.iaload, 1) := by decide +kernel
theorem dX4_copy_97 : decode cX4_copy 97 = .ok (.iastore, 1) := by decide +kernel
theorem dX4_copy_98 : decode cX4_copy 98 = .ok (.iinc 4 1, 3) := by decide +kernel
theorem dX4_copy_101 : decode cX4_copy 101 = .ok (.goto (-45), 3) := by decide +kernel
theorem dX4_copy_104 : decode cX4_copy 104 = .ok (.iconst 1, 1) := by decide +kernel
theorem dX4_copy_105 : decode cX4_copy 105 = .ok (.ireturn, 1) := by decide +kernel
theorem dX4_grow_0 : decode cX4_grow 0 = .ok (.aload_n 0, 1) := by decide +kernel
theorem dX4_grow_1 : decode cX4_grow 1 = .ok (.getfield 44, 3) := by decide +kernel
theorem dX4_grow_4 : decode cX4_grow 4 = .ok (.istore_n 2, 1) := by decide +kernel
theorem dX4_grow_5 : decode cX4_grow 5 = .ok (.iload_n 2, 1) := by decide +kernel
theorem dX4_grow_6 : decode cX4_grow 6 = .ok (.iload_n 1, 1) := by decide +kernel
theorem dX4_grow_7 : decode cX4_grow 7 = .ok (.if_icmp .ge 16, 3) := by decide +kernel
theorem dX4_grow_10 : decode cX4_grow 10 = .ok (.aload_n 0, 1) := by decide +kernel
theorem dX4_grow_11 : decode cX4_grow 11 = .ok (.getfield 7, 3) := by decide +kernel
theorem dX4_grow_14 : decode cX4_grow 14 = .ok (.iload_n 2, 1) := by decide +kernel
theorem dX4_grow_15 : decode cX4_grow 15 = .ok (.iconst 0, 1) := by decide +kernel
theorem dX4_grow_16 : decode cX4_grow 16 = .ok (.iastore, 1) := by decide +kernel
theorem dX4_grow_17 : decode cX4_grow 17 = .ok (.iinc 2 1, 3) := by decide +kernel
theorem dX4_grow_20 : decode cX4_grow 20 = .ok (.goto (-15), 3) := by decide +kernel
theorem dX4_grow_23 : decode cX4_grow 23 = .ok (.aload_n 0, 1) := by decide +kernel
theorem dX4_grow_24 : decode cX4_grow 24 = .ok (.iload_n 1, 1) := by decide +kernel
theorem dX4_grow_25 : decode cX4_grow 25 = .ok (.putfield 44, 3) := by decide +kernel
theorem dX4_grow_28 : decode cX4_grow 28 = .ok (.return_, 1) := by decide +kernel
theorem dX4_isSize_0 : decode cX4_isSize 0 = .ok (.iload_n 0, 1) := by decide +kernel
theorem dX4_isSize_1 : decode cX4_isSize 1 = .ok (.sipush 256, 3) := by decide +kernel
theorem dX4_isSize_4 : decode cX4_isSize 4 = .ok (.if_icmp .lt 22, 3) := by decide +kernel
theorem dX4_isSize_7 : decode cX4_isSize 7 = .ok (.iload_n 0, 1) := by decide +kernel
theorem dX4_isSize_8 : decode cX4_isSize 8 = .ok (.sipush 8192, 3) := by decide +kernel
theorem dX4_isSize_11 : decode cX4_isSize 11 = .ok (.if_icmp .gt 15, 3) := by decide +kernel
theorem dX4_isSize_14 : decode cX4_isSize 14 = .ok (.iload_n 0, 1) := by decide +kernel
theorem dX4_isSize_15 : decode cX4_isSize 15 = .ok (.sipush 256, 3) := by decide +kernel
theorem dX4_isSize_18 : decode cX4_isSize 18 = .ok (.irem, 1) := by decide +kernel
theorem dX4_isSize_19 : decode cX4_isSize 19 = .ok (.ifCond .ne 7, 3) := by decide +kernel
theorem dX4_isSize_22 : decode cX4_isSize 22 = .ok (.iconst 1, 1) := by decide +kernel
theorem dX4_isSize_23 : decode cX4_isSize 23 = .ok (.goto 4, 3) := by decide +kernel
theorem dX4_isSize_26 : decode cX4_isSize 26 = .ok (.iconst 0, 1) := by decide +kernel
theorem dX4_isSize_27 : decode cX4_isSize 27 = .ok (.ireturn, 1) := by decide +kernel
set_option maxRecDepth 20000 in
theorem ggX4_resize_X4_isSize : GoodIn wsX4_resize wsX4_isSize := goodIn_r _ [6] (by decide +kernel) (by decide +kernel)
set_option maxRecDepth 20000 in
theorem gX4_resize_X4_isSize : GoodIn wsX4_resize (va_wsS RX4 68 yX4_isSize wsX4_isSize) := goodIn_app (goodIn_of _ (by decide +kernel)) ggX4_resize_X4_isSize
set_option maxRecDepth 20000 in
theorem ggX4_resize_X4_grow : GoodIn wsX4_resize wsX4_grow := goodIn_r _ [10, 2, 11, 12, 13, 14, 15, 16, 17, 18, 19, 20, 21, 22, 23, 24, 25, 26, 27, 28, 29] (by decide +kernel) (by decide +kernel)
set_option maxRecDepth 20000 in
theorem gX4_resize_X4_grow : GoodIn wsX4_resize (wsV RX4 74 RX4 yX4_grow wsX4_grow) := goodIn_app (goodIn_of _ (by decide +kernel)) ggX4_resize_X4_grow
theorem dX4_resize_0 : decode cX4_resize 0 = .ok (.iload_n 1, 1) := by decide +kernel
theorem dX4_resize_1 : decode cX4_resize 1 = .ok (.invokestatic 68, 3) := by decide +kernel
theorem dX4_resize_4 : decode cX4_resize 4 = .ok (.ifCond .ne 6, 3) := by decide +kernel
theorem dX4_resize_7 : decode cX4_resize 7 = .ok (.bipush (-11), 2) := by decide +kernel
theorem dX4_resize_9 : decode cX4_resize 9 = .ok (.ireturn, 1) := by decide +kernel
theorem dX4_resize_10 : decode cX4_resize 10 = .ok (.aload_n 0, 1) := by decide +kernel
theorem dX4_resize_11 : decode cX4_resize 11 = .ok (.getfield 71, 3) := by decide +kernel
theorem dX4_resize_14 : decode cX4_resize 14 = .ok (.ifCond .le 6, 3) := by decide +kernel
theorem dX4_resize_17 : decode cX4_resize 17 = .ok (.bipush (-14), 2) := by decide +kernel
theorem dX4_resize_19 : decode cX4_resize 19 = .ok (.ireturn, 1) := by decide +kernel
theorem dX4_resize_20 : decode cX4_resize 20 = .ok (.aload_n 0, 1) := by decide +kernel
theorem dX4_resize_21 : decode cX4_resize 21 = .ok (.getfield 44, 3) := by decide +kernel
theorem dX4_resize_24 : decode cX4_resize 24 = .ok (.istore_n 2, 1) := by decide +kernel
theorem dX4_resize_25 : decode cX4_resize 25 = .ok (.aload_n 0, 1) := by decide +kernel
theorem dX4_resize_26 : decode cX4_resize 26 = .ok (.iload_n 1, 1) := by decide +kernel
theorem dX4_resize_27 : decode cX4_resize 27 = .ok (.invokevirtual 74, 3) := by decide +kernel
theorem dX4_resize_30 : decode cX4_resize 30 = .ok (.iload_n 2, 1) := by decide +kernel
theorem dX4_resize_31 : decode cX4_resize 31 = .ok (.ireturn, 1) := by decide +kernel
theorem dX4_behind_0 : decode cX4_behind 0 = .ok (.aload_n 0, 1) := by decide +kernel
theorem dX4_behind_1 : decode cX4_behind 1 = .ok (.getfield 13, 3) := by decide +kernel
theorem dX4_behind_4 : decode cX4_behind 4 = .ok (.iload_n 1, 1) := by decide +kernel
theorem dX4_behind_5 : decode cX4_behind 5 = .ok (.iaload, 1) := by decide +kernel
theorem dX4_behind_6 : decode cX4_behind 6 = .ok (.aload_n 0, 1) := by decide +kernel
theorem dX4_behind_7 : decode cX4_behind 7 = .ok (.getfield 16, 3) := by decide +kernel
theorem dX4_behind_10 : decode cX4_behind 10 = .ok (.iload_n 1, 1) := by decide +kernel
theorem dX4_behind_11 : decode cX4_behind 11 = .ok (.iaload, 1) := by decide +kernel
theorem dX4_behind_12 : decode cX4_behind 12 = .ok (.iadd, 1) := by decide +kernel
theorem dX4_behind_13 : decode cX4_behind 13 = .ok (.ireturn, 1) := by decide +kernel
set_option maxRecDepth 20000 in
theorem ggX4_gapAt_X4_behind : GoodIn wsX4_gapAt wsX4_behind := goodIn_r _ [6, 7, 8, 9, 10, 11, 12, 13, 14, 15, 16, 17, 18, 19, 20, 21, 22, 23, 24, 25, 26] (by decide +kernel) (by decide +kernel)
set_option maxRecDepth 20000 in
theorem gX4_gapAt_X4_behind : GoodIn wsX4_gapAt (wsV RX4 81 RX4 yX4_behind wsX4_behind) := goodIn_app (goodIn_of _ (by decide +kernel)) ggX4_gapAt_X4_behind
theorem dX4_gapAt_0 : decode cX4_gapAt 0 = .ok (.iload_n 1, 1) := by decide +kernel
theorem dX4_gapAt_1 : decode cX4_gapAt 1 = .ok (.ifCond .ne 10, 3) := by decide +kernel
theorem dX4_gapAt_4 : decode cX4_gapAt 4 = .ok (.aload_n 0, 1) := by decide +kernel
theorem dX4_gapAt_5 : decode cX4_gapAt 5 = .ok (.getfield 78, 3) := by decide +kernel
theorem dX4_gapAt_8 : decode cX4_gapAt 8 = .ok (.goto 10, 3) := by decide +kernel
theorem dX4_gapAt_11 : decode cX4_gapAt 11 = .ok (.aload_n 0, 1) := by decide +kernel
theorem dX4_gapAt_12 : decode cX4_gapAt 12 = .ok (.iload_n 1, 1) := by decide +kernel
theorem dX4_gapAt_13 : decode cX4_gapAt 13 = .ok (.iconst 1, 1) := by decide +kernel
theorem dX4_gapAt_14 : decode cX4_gapAt 14 = .ok (.isub, 1) := by decide +kernel
theorem dX4_gapAt_15 : decode cX4_gapAt 15 = .ok (.invokevirtual 81, 3) := by decide +kernel
theorem dX4_gapAt_18 : decode cX4_gapAt 18 = .ok (.ireturn, 1) := by decide +kernel
theorem dX4_gapEnd_0 : decode cX4_gapEnd 0 = .ok (.iload_n 1, 1) := by decide +kernel
theorem dX4_gapEnd_1 : decode cX4_gapEnd 1 = .ok (.aload_n 0, 1) := by decide +kernel
theorem dX4_gapEnd_2 : decode cX4_gapEnd 2 = .ok (.getfield 71, 3) := by decide +kernel
theorem dX4_gapEnd_5 : decode cX4_gapEnd 5 = .ok (.if_icmp .ne 10, 3) := by decide +kernel
theorem dX4_gapEnd_8 : decode cX4_gapEnd 8 = .ok (.aload_n 0, 1) := by decide +kernel
theorem dX4_gapEnd_9 : decode cX4_gapEnd 9 = .ok (.getfield 44, 3) := by decide +kernel
theorem dX4_gapEnd_12 : decode cX4_gapEnd 12 = .ok (.goto 9, 3) := by decide +kernel
theorem dX4_gapEnd_15 : decode cX4_gapEnd 15 = .ok (.aload_n 0, 1) := by decide +kernel
theorem dX4_gapEnd_16 : decode cX4_gapEnd 16 = .ok (.getfield 13, 3) := by decide +kernel
theorem dX4_gapEnd_19 : decode cX4_gapEnd 19 = .ok (.iload_n 1, 1) := by decide +kernel
theorem dX4_gapEnd_20 : decode cX4_gapEnd 20 = .ok (.iaload, 1) := by decide +kernel
theorem dX4_gapEnd_21 : decode cX4_gapEnd 21 = .ok (.ireturn, 1) := by decide +kernel
set_option maxRecDepth 20000 in
theorem ggX4_make_X4_gapEnd : GoodIn wsX4_make wsX4_gapEnd := goodIn_r _ [13, 1, 2, 7, 27, 28, 29, 30, 31, 32, 33, 34, 35, 36, 37, 38, 39, 40, 41, 42, 43, 44] (by decide +kernel) (by decide +kernel)
set_option maxRecDepth 20000 in
theorem gX4_make_X4_gapEnd : GoodIn wsX4_make (wsV RX4 84 RX4 yX4_gapEnd wsX4_gapEnd) := goodIn_app (goodIn_of _ (by decide +kernel)) ggX4_make_X4_gapEnd
set_option maxRecDepth 20000 in
theorem ggX4_make_X4_gapAt : GoodIn wsX4_make wsX4_gapAt := goodIn_r _ [17, 3, 18, 19, 20, 12, 21, 7, 8, 27, 28, 29, 30, 31, 32, 33, 34, 35, 36, 37, 38, 39, 40, 41, 42, 43, 44] (by decide +kernel) (by decide +kernel)
set_option maxRecDepth 20000 in
theorem gX4_make_X4_gapAt : GoodIn wsX4_make (wsV RX4 87 RX4 yX4_gapAt wsX4_gapAt) := goodIn_app (goodIn_of _ (by decide +kernel)) ggX4_make_X4_gapAt
set_option maxRecDepth 20000 in
theorem ggX4_make_X4_grow : GoodIn wsX4_make wsX4_grow := goodIn_r _ [25, 2, 26, 27, 28, 29, 30, 31, 32, 33, 34, 35, 36, 37, 38, 39, 40, 41, 42, 43, 44] (by decide +kernel) (by decide +kernel)
set_option maxRecDepth 20000 in
theorem gX4_make_X4_grow : GoodIn wsX4_make (wsV RX4 74 RX4 yX4_grow wsX4_grow) := goodIn_app (goodIn_of _ (by decide +kernel)) ggX4_make_X4_grow
theorem dX4_make_0 : decode cX4_make 0 = .ok (.iload_n 1, 1) := by decide +kernel
theorem dX4_make_1 : decode cX4_make 1 = .ok (.iconst 1, 1) := by decide +kernel
theorem dX4_make_2 : decode cX4_make 2 = .ok (.if_icmp .ge 6, 3) := by decide +kernel
theorem dX4_make_5 : decode cX4_make 5 = .ok (.bipush (-11), 2) := by decide +kernel
theorem dX4_make_7 : decode cX4_make 7 = .ok (.ireturn, 1) := by decide +kernel
theorem dX4_make_8 : decode cX4_make 8 = .ok (.aload_n 0, 1) := by decide +kernel
theorem dX4_make_9 : decode cX4_make 9 = .ok (.getfield 71, 3) := by decide +kernel
theorem dX4_make_12 : decode cX4_make 12 = .ok (.bipush 64, 2) := by decide +kernel
theorem dX4_make_14 : decode cX4_make 14 = .ok (.if_icmp .ne 5, 3) := by decide +kernel
theorem dX4_make_17 : decode cX4_make 17 = .ok (.iconst 0, 1) := by decide +kernel
theorem dX4_make_18 : decode cX4_make 18 = .ok (.ireturn, 1) := by decide +kernel
theorem dX4_make_19 : decode cX4_make 19 = .ok (.aload_n 0, 1) := by decide +kernel
theorem dX4_make_20 : decode cX4_make 20 = .ok (.getfield 71, 3) := by decide +kernel
theorem dX4_make_23 : decode cX4_make 23 = .ok (.ifCond .ne 10, 3) := by decide +kernel
theorem dX4_make_26 : decode cX4_make 26 = .ok (.aload_n 0, 1) := by decide +kernel
theorem dX4_make_27 : decode cX4_make 27 = .ok (.getfield 44, 3) := by decide +kernel
theorem dX4_make_30 : decode cX4_make 30 = .ok (.goto 7, 3) := by decide +kernel
theorem dX4_make_33 : decode cX4_make 33 = .ok (.aload_n 0, 1) := by decide +kernel
theorem dX4_make_34 : decode cX4_make 34 = .ok (.getfield 78, 3) := by decide +kernel
theorem dX4_make_37 : decode cX4_make 37 = .ok (.istore_n 2, 1) := by decide +kernel
theorem dX4_make_38 : decode cX4_make 38 = .ok (.iconst 0, 1) := by decide +kernel
theorem dX4_make_39 : decode cX4_make 39 = .ok (.istore_n 3, 1) := by decide +kernel
theorem dX4_make_40 : decode cX4_make 40 = .ok (.aload_n 0, 1) := by decide +kernel
theorem dX4_make_41 : decode cX4_make 41 = .ok (.getfield 71, 3) := by decide +kernel
theorem dX4_make_44 : decode cX4_make 44 = .ok (.ifCond .le 55, 3) := by decide +kernel
theorem dX4_make_47 : decode cX4_make 47 = .ok (.iload_n 3, 1) := by decide +kernel
theorem dX4_make_48 : decode cX4_make 48 = .ok (.aload_n 0, 1) := by decide +kernel
theorem dX4_make_49 : decode cX4_make 49 = .ok (.getfield 71, 3) := by decide +kernel
theorem dX4_make_52 : decode cX4_make 52 = .ok (.if_icmp .gt 24, 3) := by decide +kernel
theorem dX4_make_55 : decode cX4_make 55 = .ok (.aload_n 0, 1) := by decide +kernel
theorem dX4_make_56 : decode cX4_make 56 = .ok (.iload_n 3, 1) := by decide +kernel
theorem dX4_make_57 : decode cX4_make 57 = .ok (.invokevirtual 84, 3) := by decide +kernel
theorem dX4_make_60 : decode cX4_make 60 = .ok (.aload_n 0, 1) := by decide +kernel
theorem dX4_make_61 : decode cX4_make 61 = .ok (.iload_n 3, 1) := by decide +kernel
theorem dX4_make_62 : decode cX4_make 62 = .ok (.invokevirtual 87, 3) := by decide +kernel
theorem dX4_make_65 : decode cX4_make 65 = .ok (.isub, 1) := by decide +kernel
theorem dX4_make_66 : decode cX4_make 66 = .ok (.iload_n 1, 1) := by decide +kernel
theorem dX4_make_67 : decode cX4_make 67 = .ok (.if_icmp .ge 9, 3) := by decide +kernel
theorem dX4_make_70 : decode cX4_make 70 = .ok (.iinc 3 1, 3) := by decide +kernel
theorem dX4_make_73 : decode cX4_make 73 = .ok (.goto (-26), 3) := by decide +kernel
theorem dX4_make_76 : decode cX4_make 76 = .ok (.iload_n 3, 1) := by decide +kernel
theorem dX4_make_77 : decode cX4_make 77 = .ok (.aload_n 0, 1) := by decide +kernel
theorem dX4_make_78 : decode cX4_make 78 = .ok (.getfield 71, 3) := by decide +kernel
theorem dX4_make_81 : decode cX4_make 81 = .ok (.if_icmp .le 10, 3) := by decide +kernel
theorem dX4_make_84 : decode cX4_make 84 = .ok (.aload_n 0, 1) := by decide +kernel
theorem dX4_make_85 : decode cX4_make 85 = .ok (.getfield 71, 3) := by decide +kernel
theorem dX4_make_88 : decode cX4_make 88 = .ok (.goto 4, 3) := by decide +kernel
theorem dX4_make_91 : decode cX4_make 91 = .ok (.iload_n 3, 1) := by decide +kernel
theorem dX4_make_92 : decode cX4_make 92 = .ok (.istore_n 3, 1) := by decide +kernel
theorem dX4_make_93 : decode cX4_make 93 = .ok (.aload_n 0, 1) := by decide +kernel
theorem dX4_make_94 : decode cX4_make 94 = .ok (.iload_n 3, 1) := by decide +kernel
theorem dX4_make_95 : decode cX4_make 95 = .ok (.invokevirtual 87, 3) := by decide +kernel
theorem dX4_make_98 : decode cX4_make 98 = .ok (.istore_n 2, 1) := by decide +kernel
theorem dX4_make_99 : decode cX4_make 99 = .ok (.iload_n 2, 1) := by decide +kernel
theorem dX4_make_100 : decode cX4_make 100 = .ok (.i2l, 1) := by decide +kernel
theorem dX4_make_101 : decode cX4_make 101 = .ok (.iload_n 1, 1) := by decide +kernel
theorem dX4_make_102 : decode cX4_make 102 = .ok (.i2l, 1) := by decide +kernel
theorem dX4_make_103 : decode cX4_make 103 = .ok (.ladd, 1) := by decide +kernel
theorem dX4_make_104 : decode cX4_make 104 = .ok (.lstore 4, 2) := by decide +kernel
theorem dX4_make_106 : decode cX4_make 106 = .ok (.lload 4, 2) := by decide +kernel
theorem dX4_make_108 : decode cX4_make 108 = .ok (.ldc2_w 90, 3) := by decide +kernel
theorem dX4_make_111 : decode cX4_make 111 = .ok (.lcmp, 1) := by decide +kernel
theorem dX4_make_112 : decode cX4_make 112 = .ok (.ifCond .le 5, 3) := by decide +kernel
theorem dX4_make_115 : decode cX4_make 115 = .ok (.iconst 0, 1) := by decide +kernel
theorem dX4_make_116 : decode cX4_make 116 = .ok (.ireturn, 1) := by decide +kernel
theorem dX4_make_117 : decode cX4_make 117 = .ok (.aload_n 0, 1) := by decide +kernel
theorem dX4_make_118 : decode cX4_make 118 = .ok (.getfield 71, 3) := by decide +kernel
theorem dX4_make_121 : decode cX4_make 121 = .ok (.ifCond .ne 11, 3) := by decide +kernel
theorem dX4_make_124 : decode cX4_make 124 = .ok (.aload_n 0, 1) := by decide +kernel
theorem dX4_make_125 : decode cX4_make 125 = .ok (.aload_n 0, 1) := by decide +kernel
theorem dX4_make_126 : decode cX4_make 126 = .ok (.getfield 44, 3) := by decide +kernel
theorem dX4_make_129 : decode cX4_make 129 = .ok (.putfield 78, 3) := by decide +kernel
theorem dX4_make_132 : decode cX4_make 132 = .ok (.iload_n 3, 1) := by decide +kernel
theorem dX4_make_133 : decode cX4_make 133 = .ok (.aload_n 0, 1) := by decide +kernel
theorem dX4_make_134 : decode cX4_make 134 = .ok (.getfield 71, 3) := by decide +kernel
theorem dX4_make_137 : decode cX4_make 137 = .ok (.if_icmp .ne 33, 3) := by decide +kernel
theorem dX4_make_140 : decode cX4_make 140 = .ok (.lload 4, 2) := by decide +kernel
theorem dX4_make_142 : decode cX4_make 142 = .ok (.aload_n 0, 1) := by decide +kernel
theorem dX4_make_143 : decode cX4_make 143 = .ok (.getfield 44, 3) := by decide +kernel
theorem dX4_make_146 : decode cX4_make 146 = .ok (.i2l, 1) := by decide +kernel
theorem dX4_make_147 : decode cX4_make 147 = .ok (.lcmp, 1) := by decide +kernel
theorem dX4_make_148 : decode cX4_make 148 = .ok (.ifCond .le 22, 3) := by decide +kernel
theorem dX4_make_151 : decode cX4_make 151 = .ok (.aload_n 0, 1) := by decide +kernel
theorem dX4_make_152 : decode cX4_make 152 = .ok (.lload 4, 2) := by decide +kernel
theorem dX4_make_154 : decode cX4_make 154 = .ok (.ldc2_w 92, 3) := by decide +kernel
theorem dX4_make_157 : decode cX4_make 157 = .ok (.ladd, 1) := by decide +kernel
theorem dX4_make_158 : decode cX4_make 158 = .ok (.ldc2_w 94, 3) := by decide +kernel
theorem dX4_make_161 : decode cX4_make 161 = .ok (.ldiv, 1) := by decide +kernel
theorem dX4_make_162 : decode cX4_make 162 = .ok (.ldc2_w 94, 3) := by decide +kernel
theorem dX4_make_165 : decode cX4_make 165 = .ok (.lmul, 1) := by decide +kernel
theorem dX4_make_166 : decode cX4_make 166 = .ok (.l2i, 1) := by decide +kernel
theorem dX4_make_167 : decode cX4_make 167 = .ok (.invokevirtual 74, 3) := by decide +kernel
theorem dX4_make_170 : decode cX4_make 170 = .ok (.aload_n 0, 1) := by decide +kernel
theorem dX4_make_171 : decode cX4_make 171 = .ok (.getfield 71, 3) := by decide +kernel
theorem dX4_make_174 : decode cX4_make 174 = .ok (.istore 6, 2) := by decide +kernel
theorem dX4_make_176 : decode cX4_make 176 = .ok (.iload 6, 2) := by decide +kernel
theorem dX4_make_178 : decode cX4_make 178 = .ok (.iload_n 3, 1) := by decide +kernel
theorem dX4_make_179 : decode cX4_make 179 = .ok (.if_icmp .le 41, 3) := by decide +kernel
theorem dX4_make_182 : decode cX4_make 182 = .ok (.aload_n 0, 1) := by decide +kernel
theorem dX4_make_183 : decode cX4_make 183 = .ok (.getfield 13, 3) := by decide +kernel
theorem dX4_make_186 : decode cX4_make 186 = .ok (.iload 6, 2) := by decide +kernel
theorem dX4_make_188 : decode cX4_make 188 = .ok (.aload_n 0, 1) := by decide +kernel
theorem dX4_make_189 : decode cX4_make 189 = .ok (.getfield 13, 3) := by decide +kernel
theorem dX4_make_192 : decode cX4_make 192 = .ok (.iload 6, 2) := by decide +kernel
theorem dX4_make_194 : decode cX4_make 194 = .ok (.iconst 1, 1) := by decide +kernel
theorem dX4_make_195 : decode cX4_make 195 = .ok (.isub, 1) := by decide +kernel
theorem dX4_make_196 : decode cX4_make 196 = .ok (.iaload, 1) := by decide +kernel
theorem dX4_make_197 : decode cX4_make 197 = .ok (.iastore, 1) := by decide +kernel
theorem dX4_make_198 : decode cX4_make 198 = .ok (.aload_n 0, 1) := by decide +kernel
theorem dX4_make_199 : decode cX4_make 199 = .ok (.getfield 16, 3) := by decide +kernel
theorem dX4_make_202 : decode cX4_make 202 = .ok (.iload 6, 2) := by decide +kernel
theorem dX4_make_204 : decode cX4_make 204 = .ok (.aload_n 0, 1) := by decide +kernel
theorem dX4_make_205 : decode cX4_make 205 = .ok (.getfield 16, 3) := by decide +kernel
theorem dX4_make_208 : decode cX4_make 208 = .ok (.iload 6, 2) := by decide +kernel
theorem dX4_make_210 : decode cX4_make 210 = .ok (.iconst 1, 1) := by decide +kernel
theorem dX4_make_211 : decode cX4_make 211 = .ok (.isub, 1) := by decide +kernel
theorem dX4_make_212 : decode cX4_make 212 = .ok (.iaload, 1) := by decide +kernel
theorem dX4_make_213 : decode cX4_make 213 = .ok (.iastore, 1) := by decide +kernel
theorem dX4_make_214 : decode cX4_make 214 = .ok (.iinc 6 (-1), 3) := by decide +kernel
theorem dX4_make_217 : decode cX4_make 217 = .ok (.goto (-41), 3) := by decide +kernel
theorem dX4_make_220 : decode cX4_make 220 = .ok (.aload_n 0, 1) := by decide +kernel
theorem dX4_make_221 : decode cX4_make 221 = .ok (.getfield 13, 3) := by decide +kernel
theorem dX4_make_224 : decode cX4_make 224 = .ok (.iload_n 3, 1) := by decide +kernel
theorem dX4_make_225 : decode cX4_make 225 = .ok (.iload_n 2, 1) := by decide +kernel
theorem dX4_make_226 : decode cX4_make 226 = .ok (.iastore, 1) := by decide +kernel
theorem dX4_make_227 : decode cX4_make 227 = .ok (.aload_n 0, 1) := by decide +kernel
theorem dX4_make_228 : decode cX4_make 228 = .ok (.getfield 16, 3) := by decide +kernel
theorem dX4_make_231 : decode cX4_make 231 = .ok (.iload_n 3, 1) := by decide +kernel
theorem dX4_make_232 : decode cX4_make 232 = .ok (.iload_n 1, 1) := by decide +kernel
theorem dX4_make_233 : decode cX4_make 233 = .ok (.iastore, 1) := by decide +kernel
theorem dX4_make_234 : decode cX4_make 234 = .ok (.aload_n 0, 1) := by decide +kernel
theorem dX4_make_235 : decode cX4_make 235 = .ok (.dup, 1) := by decide +kernel
theorem dX4_make_236 : decode cX4_make 236 = .ok (.getfield 71, 3) := by decide +kernel
theorem dX4_make_239 : decode cX4_make 239 = .ok (.iconst 1, 1) := by decide +kernel
theorem dX4_make_240 : decode cX4_make 240 = .ok (.iadd, 1) := by decide +kernel
theorem dX4_make_241 : decode cX4_make 241 = .ok (.putfield 71, 3) := by decide +kernel
theorem dX4_make_244 : decode cX4_make 244 = .ok (.iload_n 2, 1) := by decide +kernel
theorem dX4_make_245 : decode cX4_make 245 = .ok (.ireturn, 1) := by decide +kernel
theorem dX4_free_0 : decode cX4_free 0 = .ok (.iconst 0, 1) := by decide +kernel
theorem dX4_free_1 : decode cX4_free 1 = .ok (.istore_n 2, 1) := by decide +kernel
theorem dX4_free_2 : decode cX4_free 2 = .ok (.iload_n 2, 1) := by decide +kernel
theorem dX4_free_3 : decode cX4_free 3 = .ok (.aload_n 0, 1) := by decide +kernel
theorem dX4_free_4 : decode cX4_free 4 = .ok (.getfield 71, 3) := by decide +kernel
theorem dX4_free_7 : decode cX4_free 7 = .ok (.if_icmp .ge 19, 3) := by decide +kernel
theorem dX4_free_10 : decode cX4_free 10 = .ok (.aload_n 0, 1) := by decide +kernel
theorem dX4_free_11 : decode cX4_free 11 = .ok (.getfield 13, 3) := by decide +kernel
theorem dX4_free_14 : decode cX4_free 14 = .ok (.iload_n 2, 1) := by decide +kernel
theorem dX4_free_15 : decode cX4_free 15 = .ok (.iaload, 1) := by decide +kernel
theorem dX4_free_16 : decode cX4_free 16 = .ok (.iload_n 1, 1) := by decide +kernel
theorem dX4_free_17 : decode cX4_free 17 = .ok (.if_icmp .eq 9, 3) := by decide +kernel
theorem dX4_free_20 : decode cX4_free 20 = .ok (.iinc 2 1, 3) := by decide +kernel
theorem dX4_free_23 : decode cX4_free 23 = .ok (.goto (-21), 3) := by decide +kernel
theorem dX4_free_26 : decode cX4_free 26 = .ok (.iload_n 2, 1) := by decide +kernel
theorem dX4_free_27 : decode cX4_free 27 = .ok (.aload_n 0, 1) := by decide +kernel
theorem dX4_free_28 : decode cX4_free 28 = .ok (.getfield 71, 3) := by decide +kernel
theorem dX4_free_31 : decode cX4_free 31 = .ok (.if_icmp .ne 6, 3) := by decide +kernel
theorem dX4_free_34 : decode cX4_free 34 = .ok (.bipush (-11), 2) := by decide +kernel
theorem dX4_free_36 : decode cX4_free 36 = .ok (.ireturn, 1) := by decide +kernel
theorem dX4_free_37 : decode cX4_free 37 = .ok (.aload_n 0, 1) := by decide +kernel
theorem dX4_free_38 : decode cX4_free 38 = .ok (.getfield 16, 3) := by decide +kernel
theorem dX4_free_41 : decode cX4_free 41 = .ok (.iload_n 2, 1) := by decide +kernel
theorem dX4_free_42 : decode cX4_free 42 = .ok (.iaload, 1) := by decide +kernel
theorem dX4_free_43 : decode cX4_free 43 = .ok (.istore_n 3, 1) := by decide +kernel
theorem dX4_free_44 : decode cX4_free 44 = .ok (.aload_n 0, 1) := by decide +kernel
theorem dX4_free_45 : decode cX4_free 45 = .ok (.dup, 1) := by decide +kernel
theorem dX4_free_46 : decode cX4_free 46 = .ok (.getfield 71, 3) := by decide +kernel
theorem dX4_free_49 : decode cX4_free 49 = .ok (.iconst 1, 1) := by decide +kernel
theorem dX4_free_50 : decode cX4_free 50 = .ok (.isub, 1) := by decide +kernel
theorem dX4_free_51 : decode cX4_free 51 = .ok (.putfield 71, 3) := by decide +kernel
theorem dX4_free_54 : decode cX4_free 54 = .ok (.iload_n 2, 1) := by decide +kernel
theorem dX4_free_55 : decode cX4_free 55 = .ok (.istore 4, 2) := by decide +kernel
theorem dX4_free_57 : decode cX4_free 57 = .ok (.iload 4, 2) := by decide +kernel
theorem dX4_free_59 : decode cX4_free 59 = .ok (.aload_n 0, 1) := by decide +kernel
theorem dX4_free_60 : decode cX4_free 60 = .ok (.getfield 71, 3) := by decide +kernel
theorem dX4_free_63 : decode cX4_free 63 = .ok (.if_icmp .ge 41, 3) := by decide +kernel
theorem dX4_free_66 : decode cX4_free 66 = .ok (.aload_n 0, 1) := by decide +kernel
theorem dX4_free_67 : decode cX4_free 67 = .ok (.getfield 13, 3) := by decide +kernel
theorem dX4_free_70 : decode cX4_free 70 = .ok (.iload 4, 2) := by decide +kernel
theorem dX4_free_72 : decode cX4_free 72 = .ok (.aload_n 0, 1) := by decide +kernel
theorem dX4_free_73 : decode cX4_free 73 = .ok (.getfield 13, 3) := by decide +kernel
theorem dX4_free_76 : decode cX4_free 76 = .ok (.iload 4, 2) := by decide +kernel
theorem dX4_free_78 : decode cX4_free 78 = .ok (.iconst 1, 1) := by decide +kernel
theorem dX4_free_79 : decode cX4_free 79 = .ok (.iadd, 1) := by decide +kernel
theorem dX4_free_80 : decode cX4_free 80 = .ok (.iaload, 1) := by decide +kernel
theorem dX4_free_81 : decode cX4_free 81 = .ok (.iastore, 1) := by decide +kernel
theorem dX4_free_82 : decode cX4_free 82 = .ok (.aload_n 0, 1) := by decide +kernel
theorem dX4_free_83 : decode cX4_free 83 = .ok (.getfield 16, 3) := by decide +kernel
theorem dX4_free_86 : decode cX4_free 86 = .ok (.iload 4, 2) := by decide +kernel
theorem dX4_free_88 : decode cX4_free 88 = .ok (.aload_n 0, 1) := by decide +kernel
theorem dX4_free_89 : decode cX4_free 89 = .ok (.getfield 16, 3) := by decide +kernel
theorem dX4_free_92 : decode cX4_free 92 = .ok (.iload 4, 2) := by decide +kernel
theorem dX4_free_94 : decode cX4_free 94 = .ok (.iconst 1, 1) := by decide +kernel
theorem dX4_free_95 : decode cX4_free 95 = .ok (.iadd, 1) := by decide +kernel
theorem dX4_free_96 : decode cX4_free 96 = .ok (.iaload, 1) := by decide +kernel
theorem dX4_free_97 : decode cX4_free 97 = .ok (.iastore, 1) := by decide +kernel
theorem dX4_free_98 : decode cX4_free 98 = .ok (.iinc 4 1, 3) := by decide +kernel
theorem dX4_free_101 : decode cX4_free 101 = .ok (.goto (-44), 3) := by decide +kernel
theorem dX4_free_104 : decode cX4_free 104 = .ok (.aload_n 0, 1) := by decide +kernel
theorem dX4_free_105 : decode cX4_free 105 = .ok (.getfield 71, 3) := by decide +kernel
theorem dX4_free_108 : decode cX4_free 108 = .ok (.ifCond .ne 16, 3) := by decide +kernel
theorem dX4_free_111 : decode cX4_free 111 = .ok (.aload_n 0, 1) := by decide +kernel
theorem dX4_free_112 : decode cX4_free 112 = .ok (.aload_n 0, 1) := by decide +kernel
theorem dX4_free_113 : decode cX4_free 113 = .ok (.getfield 78, 3) := by decide +kernel
theorem dX4_free_116 : decode cX4_free 116 = .ok (.putfield 44, 3) := by decide +kernel
theorem dX4_free_119 : decode cX4_free 119 = .ok (.aload_n 0, 1) := by decide +kernel
theorem dX4_free_120 : decode cX4_free 120 = .ok (.iconst 0, 1) := by decide +kernel
theorem dX4_free_121 : decode cX4_free 121 = .ok (.putfield 78, 3) := by decide +kernel
theorem dX4_free_124 : decode cX4_free 124 = .ok (.iload_n 3, 1) := by decide +kernel
theorem dX4_free_125 : decode cX4_free 125 = .ok (.ireturn, 1) := by decide +kernel
set_option maxRecDepth 20000 in
theorem ggX4_block_X4_gapEnd : GoodIn wsX4_block wsX4_gapEnd := goodIn_r _ [8, 1, 9, 2, 19, 20, 21, 22, 23, 24, 25, 26, 27, 28, 29, 30, 31, 32, 33, 34, 35, 36] (by decide +kernel) (by decide +kernel)
set_option maxRecDepth 20000 in
theorem gX4_block_X4_gapEnd : GoodIn wsX4_block (wsV RX4 84 RX4 yX4_gapEnd wsX4_gapEnd) := goodIn_app (goodIn_of _ (by decide +kernel)) ggX4_block_X4_gapEnd
set_option maxRecDepth 20000 in
theorem ggX4_block_X4_gapAt : GoodIn wsX4_block wsX4_gapAt := goodIn_r _ [13, 14, 15, 16, 17, 7, 18, 2, 3, 19, 20, 21, 22, 23, 24, 25, 26, 27, 28, 29, 30, 31, 32, 33, 34, 35, 36] (by decide +kernel) (by decide +kernel)
set_option maxRecDepth 20000 in
theorem gX4_block_X4_gapAt : GoodIn wsX4_block (wsV RX4 87 RX4 yX4_gapAt wsX4_gapAt) := goodIn_app (goodIn_of _ (by decide +kernel)) ggX4_block_X4_gapAt
theorem dX4_block_0 : decode cX4_block 0 = .ok (.iload_n 1, 1) := by decide +kernel
theorem dX4_block_1 : decode cX4_block 1 = .ok (.ifCond .lt 20, 3) := by decide +kernel
theorem dX4_block_4 : decode cX4_block 4 = .ok (.iload_n 1, 1) := by decide +kernel
theorem dX4_block_5 : decode cX4_block 5 = .ok (.aload_n 0, 1) := by decide +kernel
theorem dX4_block_6 : decode cX4_block 6 = .ok (.getfield 71, 3) := by decide +kernel
theorem dX4_block_9 : decode cX4_block 9 = .ok (.if_icmp .ge 12, 3) := by decide +kernel
theorem dX4_block_12 : decode cX4_block 12 = .ok (.iload_n 2, 1) := by decide +kernel
theorem dX4_block_13 : decode cX4_block 13 = .ok (.ifCond .lt 8, 3) := by decide +kernel
theorem dX4_block_16 : decode cX4_block 16 = .ok (.iload_n 2, 1) := by decide +kernel
theorem dX4_block_17 : decode cX4_block 17 = .ok (.iconst 2, 1) := by decide +kernel
theorem dX4_block_18 : decode cX4_block 18 = .ok (.if_icmp .le 6, 3) := by decide +kernel
theorem dX4_block_21 : decode cX4_block 21 = .ok (.bipush (-11), 2) := by decide +kernel
theorem dX4_block_23 : decode cX4_block 23 = .ok (.ireturn, 1) := by decide +kernel
theorem dX4_block_24 : decode cX4_block 24 = .ok (.iload_n 2, 1) := by decide +kernel
theorem dX4_block_25 : decode cX4_block 25 = .ok (.ifCond .ne 12, 3) := by decide +kernel
theorem dX4_block_28 : decode cX4_block 28 = .ok (.aload_n 0, 1) := by decide +kernel
theorem dX4_block_29 : decode cX4_block 29 = .ok (.getfield 13, 3) := by decide +kernel
theorem dX4_block_32 : decode cX4_block 32 = .ok (.iload_n 1, 1) := by decide +kernel
theorem dX4_block_33 : decode cX4_block 33 = .ok (.iaload, 1) := by decide +kernel
theorem dX4_block_34 : decode cX4_block 34 = .ok (.goto 32, 3) := by decide +kernel
theorem dX4_block_37 : decode cX4_block 37 = .ok (.iload_n 2, 1) := by decide +kernel
theorem dX4_block_38 : decode cX4_block 38 = .ok (.iconst 1, 1) := by decide +kernel
theorem dX4_block_39 : decode cX4_block 39 = .ok (.if_icmp .ne 12, 3) := by decide +kernel
theorem dX4_block_42 : decode cX4_block 42 = .ok (.aload_n 0, 1) := by decide +kernel
theorem dX4_block_43 : decode cX4_block 43 = .ok (.getfield 16, 3) := by decide +kernel
theorem dX4_block_46 : decode cX4_block 46 = .ok (.iload_n 1, 1) := by decide +kernel
theorem dX4_block_47 : decode cX4_block 47 = .ok (.iaload, 1) := by decide +kernel
theorem dX4_block_48 : decode cX4_block 48 = .ok (.goto 18, 3) := by decide +kernel
theorem dX4_block_51 : decode cX4_block 51 = .ok (.aload_n 0, 1) := by decide +kernel
theorem dX4_block_52 : decode cX4_block 52 = .ok (.iload_n 1, 1) := by decide +kernel
theorem dX4_block_53 : decode cX4_block 53 = .ok (.iconst 1, 1) := by decide +kernel
theorem dX4_block_54 : decode cX4_block 54 = .ok (.iadd, 1) := by decide +kernel
theorem dX4_block_55 : decode cX4_block 55 = .ok (.invokevirtual 84, 3) := by decide +kernel
theorem dX4_block_58 : decode cX4_block 58 = .ok (.aload_n 0, 1) := by decide +kernel
theorem dX4_block_59 : decode cX4_block 59 = .ok (.iload_n 1, 1) := by decide +kernel
theorem dX4_block_60 : decode cX4_block 60 = .ok (.iconst 1, 1) := by decide +kernel
theorem dX4_block_61 : decode cX4_block 61 = .ok (.iadd, 1) := by decide +kernel
theorem dX4_block_62 : decode cX4_block 62 = .ok (.invokevirtual 87, 3) := by decide +kernel
theorem dX4_block_65 : decode cX4_block 65 = .ok (.isub, 1) := by decide +kernel
theorem dX4_block_66 : decode cX4_block 66 = .ok (.ireturn, 1) := by decide +kernel
set_option maxRecDepth 20000 in
theorem ggX4_isKey_X4_isWidth : GoodIn wsX4_isKey wsX4_isWidth := goodIn_r _ [4] (by decide +kernel) (by decide +kernel)
set_option maxRecDepth 20000 in
theorem gX4_isKey_X4_isWidth : GoodIn wsX4_isKey (va_wsS RX4 52 yX4_isWidth wsX4_isWidth) := goodIn_app (goodIn_of _ (by decide +kernel)) ggX4_isKey_X4_isWidth
theorem dX4_isKey_0 : decode cX4_isKey 0 = .ok (.iload_n 1, 1) := by decide +kernel
theorem dX4_isKey_1 : decode cX4_isKey 1 = .ok (.iconst 1, 1) := by decide +kernel
theorem dX4_isKey_2 : decode cX4_isKey 2 = .ok (.iand, 1) := by decide +kernel
theorem dX4_isKey_3 : decode cX4_isKey 3 = .ok (.iconst 1, 1) := by decide +kernel
theorem dX4_isKey_4 : decode cX4_isKey 4 = .ok (.if_icmp .ne 22, 3) := by decide +kernel
theorem dX4_isKey_7 : decode cX4_isKey 7 = .ok (.iload_n 0, 1) := by decide +kernel
theorem dX4_isKey_8 : decode cX4_isKey 8 = .ok (.iconst 1, 1) := by decide +kernel
theorem dX4_isKey_9 : decode cX4_isKey 9 = .ok (.if_icmp .lt 13, 3) := by decide +kernel
theorem dX4_isKey_12 : decode cX4_isKey 12 = .ok (.iload_n 0, 1) := by decide +kernel
theorem dX4_isKey_13 : decode cX4_isKey 13 = .ok (.bipush 64, 2) := by decide +kernel
theorem dX4_isKey_15 : decode cX4_isKey 15 = .ok (.if_icmp .gt 7, 3) := by decide +kernel
theorem dX4_isKey_18 : decode cX4_isKey 18 = .ok (.iconst 1, 1) := by decide +kernel
theorem dX4_isKey_19 : decode cX4_isKey 19 = .ok (.goto 11, 3) := by decide +kernel
theorem dX4_isKey_22 : decode cX4_isKey 22 = .ok (.iconst 0, 1) := by decide +kernel
theorem dX4_isKey_23 : decode cX4_isKey 23 = .ok (.goto 7, 3) := by decide +kernel
theorem dX4_isKey_26 : decode cX4_isKey 26 = .ok (.iload_n 0, 1) := by decide +kernel
theorem dX4_isKey_27 : decode cX4_isKey 27 = .ok (.invokestatic 52, 3) := by decide +kernel
theorem dX4_isKey_30 : decode cX4_isKey 30 = .ok (.ireturn, 1) := by decide +kernel
set_option maxRecDepth 20000 in
theorem ggX4_isTaken_X4_isIn : GoodIn wsX4_isTaken wsX4_isIn := goodIn_r _ [7, 8, 9, 10, 11, 12, 13, 14, 15, 16, 17, 18, 19, 20, 21, 22, 23, 24, 25, 26] (by decide +kernel) (by decide +kernel)
set_option maxRecDepth 20000 in
theorem gX4_isTaken_X4_isIn : GoodIn wsX4_isTaken (wsV RX4 58 RX4 yX4_isIn wsX4_isIn) := goodIn_app (goodIn_of _ (by decide +kernel)) ggX4_isTaken_X4_isIn
theorem dX4_isTaken_0 : decode cX4_isTaken 0 = .ok (.iload_n 3, 1) := by decide +kernel
theorem dX4_isTaken_1 : decode cX4_isTaken 1 = .ok (.iconst 1, 1) := by decide +kernel
theorem dX4_isTaken_2 : decode cX4_isTaken 2 = .ok (.iand, 1) := by decide +kernel
theorem dX4_isTaken_3 : decode cX4_isTaken 3 = .ok (.ifCond .ne 42, 3) := by decide +kernel
theorem dX4_isTaken_6 : decode cX4_isTaken 6 = .ok (.iconst 0, 1) := by decide +kernel
theorem dX4_isTaken_7 : decode cX4_isTaken 7 = .ok (.istore 4, 2) := by decide +kernel
theorem dX4_isTaken_9 : decode cX4_isTaken 9 = .ok (.iload 4, 2) := by decide +kernel
theorem dX4_isTaken_11 : decode cX4_isTaken 11 = .ok (.iload_n 2, 1) := by decide +kernel
theorem dX4_isTaken_12 : decode cX4_isTaken 12 = .ok (.if_icmp .ge 31, 3) := by decide +kernel
theorem dX4_isTaken_15 : decode cX4_isTaken 15 = .ok (.aload_n 0, 1) := by decide +kernel
theorem dX4_isTaken_16 : decode cX4_isTaken 16 = .ok (.getfield 41, 3) := by decide +kernel
theorem dX4_isTaken_19 : decode cX4_isTaken 19 = .ok (.iload 4, 2) := by decide +kernel
theorem dX4_isTaken_21 : decode cX4_isTaken 21 = .ok (.iload_n 1, 1) := by decide +kernel
theorem dX4_isTaken_22 : decode cX4_isTaken 22 = .ok (.bipush 8, 2) := by decide +kernel
theorem dX4_isTaken_24 : decode cX4_isTaken 24 = .ok (.iload_n 2, 1) := by decide +kernel
theorem dX4_isTaken_25 : decode cX4_isTaken 25 = .ok (.iconst 1, 1) := by decide +kernel
theorem dX4_isTaken_26 : decode cX4_isTaken 26 = .ok (.isub, 1) := by decide +kernel
theorem dX4_isTaken_27 : decode cX4_isTaken 27 = .ok (.iload 4, 2) := by decide +kernel
theorem dX4_isTaken_29 : decode cX4_isTaken 29 = .ok (.isub, 1) := by decide +kernel
theorem dX4_isTaken_30 : decode cX4_isTaken 30 = .ok (.imul, 1) := by decide +kernel
theorem dX4_isTaken_31 : decode cX4_isTaken 31 = .ok (.ishr, 1) := by decide +kernel
theorem dX4_isTaken_32 : decode cX4_isTaken 32 = .ok (.sipush 255, 3) := by decide +kernel
theorem dX4_isTaken_35 : decode cX4_isTaken 35 = .ok (.iand, 1) := by decide +kernel
theorem dX4_isTaken_36 : decode cX4_isTaken 36 = .ok (.iastore, 1) := by decide +kernel
theorem dX4_isTaken_37 : decode cX4_isTaken 37 = .ok (.iinc 4 1, 3) := by decide +kernel
theorem dX4_isTaken_40 : decode cX4_isTaken 40 = .ok (.goto (-31), 3) := by decide +kernel
theorem dX4_isTaken_43 : decode cX4_isTaken 43 = .ok (.iconst 1, 1) := by decide +kernel
theorem dX4_isTaken_44 : decode cX4_isTaken 44 = .ok (.ireturn, 1) := by decide +kernel
theorem dX4_isTaken_45 : decode cX4_isTaken 45 = .ok (.aload_n 0, 1) := by decide +kernel
theorem dX4_isTaken_46 : decode cX4_isTaken 46 = .ok (.iload_n 1, 1) := by decide +kernel
theorem dX4_isTaken_47 : decode cX4_isTaken 47 = .ok (.i2l, 1) := by decide +kernel
theorem dX4_isTaken_48 : decode cX4_isTaken 48 = .ok (.iload_n 2, 1) := by decide +kernel
theorem dX4_isTaken_49 : decode cX4_isTaken 49 = .ok (.i2l, 1) := by decide +kernel
theorem dX4_isTaken_50 : decode cX4_isTaken 50 = .ok (.invokevirtual 58, 3) := by decide +kernel
theorem dX4_isTaken_53 : decode cX4_isTaken 53 = .ok (.ifCond .ne 5, 3) := by decide +kernel
theorem dX4_isTaken_56 : decode cX4_isTaken 56 = .ok (.iconst 0, 1) := by decide +kernel
theorem dX4_isTaken_57 : decode cX4_isTaken 57 = .ok (.ireturn, 1) := by decide +kernel
theorem dX4_isTaken_58 : decode cX4_isTaken 58 = .ok (.iconst 0, 1) := by decide +kernel
theorem dX4_isTaken_59 : decode cX4_isTaken 59 = .ok (.istore 4, 2) := by decide +kernel
theorem dX4_isTaken_61 : decode cX4_isTaken 61 = .ok (.iload 4, 2) := by decide +kernel
theorem dX4_isTaken_63 : decode cX4_isTaken 63 = .ok (.iload_n 2, 1) := by decide +kernel
theorem dX4_isTaken_64 : decode cX4_isTaken 64 = .ok (.if_icmp .ge 25, 3) := by decide +kernel
theorem dX4_isTaken_67 : decode cX4_isTaken 67 = .ok (.aload_n 0, 1) := by decide +kernel
theorem dX4_isTaken_68 : decode cX4_isTaken 68 = .ok (.getfield 41, 3) := by decide +kernel
theorem dX4_isTaken_71 : decode cX4_isTaken 71 = .ok (.iload 4, 2) := by decide +kernel
theorem dX4_isTaken_73 : decode cX4_isTaken 73 = .ok (.aload_n 0, 1) := by decide +kernel
theorem dX4_isTaken_74 : decode cX4_isTaken 74 = .ok (.getfield 7, 3) := by decide +kernel
theorem dX4_isTaken_77 : decode cX4_isTaken 77 = .ok (.iload_n 1, 1) := by decide +kernel
theorem dX4_isTaken_78 : decode cX4_isTaken 78 = .ok (.iload 4, 2) := by decide +kernel
theorem dX4_isTaken_80 : decode cX4_isTaken 80 = .ok (.iadd, 1) := by decide +kernel
theorem dX4_isTaken_81 : decode cX4_isTaken 81 = .ok (.iaload, 1) := by decide +kernel
theorem dX4_isTaken_82 : decode cX4_isTaken 82 = .ok (.iastore, 1) := by decide +kernel
theorem dX4_isTaken_83 : decode cX4_isTaken 83 = .ok (.iinc 4 1, 3) := by decide +kernel
theorem dX4_isTaken_86 : decode cX4_isTaken 86 = .ok (.goto (-25), 3) := by decide +kernel
theorem dX4_isTaken_89 : decode cX4_isTaken 89 = .ok (.iconst 1, 1) := by decide +kernel
theorem dX4_isTaken_90 : decode cX4_isTaken 90 = .ok (.ireturn, 1) := by decide +kernel
theorem dX4_compare_0 : decode cX4_compare 0 = .ok (.iconst 0, 1) := by decide +kernel
theorem dX4_compare_1 : decode cX4_compare 1 = .ok (.istore_n 3, 1) := by decide +kernel
theorem dX4_compare_2 : decode cX4_compare 2 = .ok (.iload_n 3, 1) := by decide +kernel
theorem dX4_compare_3 : decode cX4_compare 3 = .ok (.iload_n 2, 1) := by decide +kernel
theorem dX4_compare_4 : decode cX4_compare 4 = .ok (.if_icmp .ge 49, 3) := by decide +kernel
theorem dX4_compare_7 : decode cX4_compare 7 = .ok (.aload_n 0, 1) := by decide +kernel
theorem dX4_compare_8 : decode cX4_compare 8 = .ok (.getfield 7, 3) := by decide +kernel
theorem dX4_compare_11 : decode cX4_compare 11 = .ok (.iload_n 1, 1) := by decide +kernel
theorem dX4_compare_12 : decode cX4_compare 12 = .ok (.iload_n 3, 1) := by decide +kernel
theorem dX4_compare_13 : decode cX4_compare 13 = .ok (.iadd, 1) := by decide +kernel
theorem dX4_compare_14 : decode cX4_compare 14 = .ok (.iaload, 1) := by decide +kernel
theorem dX4_compare_15 : decode cX4_compare 15 = .ok (.aload_n 0, 1) := by decide +kernel
theorem dX4_compare_16 : decode cX4_compare 16 = .ok (.getfield 41, 3) := by decide +kernel
theorem dX4_compare_19 : decode cX4_compare 19 = .ok (.iload_n 3, 1) := by decide +kernel
theorem dX4_compare_20 : decode cX4_compare 20 = .ok (.iaload, 1) := by decide +kernel
theorem dX4_compare_21 : decode cX4_compare 21 = .ok (.if_icmp .eq 26, 3) := by decide +kernel
theorem dX4_compare_24 : decode cX4_compare 24 = .ok (.aload_n 0, 1) := by decide +kernel
theorem dX4_compare_25 : decode cX4_compare 25 = .ok (.getfield 7, 3) := by decide +kernel
theorem dX4_compare_28 : decode cX4_compare 28 = .ok (.iload_n 1, 1) := by decide +kernel
theorem dX4_compare_29 : decode cX4_compare 29 = .ok (.iload_n 3, 1) := by decide +kernel
theorem dX4_compare_30 : decode cX4_compare 30 = .ok (.iadd, 1) := by decide +kernel
theorem dX4_compare_31 : decode cX4_compare 31 = .ok (.iaload, 1) := by decide +kernel
theorem dX4_compare_32 : decode cX4_compare 32 = .ok (.aload_n 0, 1) := by decide +kernel
theorem dX4_compare_33 : decode cX4_compare 33 = .ok (.getfield 41, 3) := by decide +kernel
theorem dX4_compare_36 : decode cX4_compare 36 = .ok (.iload_n 3, 1) := by decide +kernel
theorem dX4_compare_37 : decode cX4_compare 37 = .ok (.iaload, 1) := by decide +kernel
theorem dX4_compare_38 : decode cX4_compare 38 = .ok (.if_icmp .ge 7, 3) := by decide +kernel
theorem dX4_compare_41 : decode cX4_compare 41 = .ok (.iconst (-1), 1) := by decide +kernel
theorem dX4_compare_42 : decode cX4_compare 42 = .ok (.goto 4, 3) := by decide +kernel
theorem dX4_compare_45 : decode cX4_compare 45 = .ok (.iconst 1, 1) := by decide +kernel
theorem dX4_compare_46 : decode cX4_compare 46 = .ok (.ireturn, 1) := by decide +kernel
theorem dX4_compare_47 : decode cX4_compare 47 = .ok (.iinc 3 1, 3) := by decide +kernel
theorem dX4_compare_50 : decode cX4_compare 50 = .ok (.goto (-48), 3) := by decide +kernel
theorem dX4_compare_53 : decode cX4_compare 53 = .ok (.iconst 0, 1) := by decide +kernel
theorem dX4_compare_54 : decode cX4_compare 54 = .ok (.ireturn, 1) := by decide +kernel
theorem dX4_isZero_0 : decode cX4_isZero 0 = .ok (.iconst 1, 1) := by decide +kernel
theorem dX4_isZero_1 : decode cX4_isZero 1 = .ok (.istore_n 3, 1) := by decide +kernel
theorem dX4_isZero_2 : decode cX4_isZero 2 = .ok (.iconst 0, 1) := by decide +kernel
theorem dX4_isZero_3 : decode cX4_isZero 3 = .ok (.istore 4, 2) := by decide +kernel
theorem dX4_isZero_5 : decode cX4_isZero 5 = .ok (.iload 4, 2) := by decide +kernel
theorem dX4_isZero_7 : decode cX4_isZero 7 = .ok (.iload_n 2, 1) := by decide +kernel
theorem dX4_isZero_8 : decode cX4_isZero 8 = .ok (.if_icmp .ge 31, 3) := by decide +kernel
theorem dX4_isZero_11 : decode cX4_isZero 11 = .ok (.iload_n 3, 1) := by decide +kernel
theorem dX4_isZero_12 : decode cX4_isZero 12 = .ok (.ifCond .eq 19, 3) := by decide +kernel
theorem dX4_isZero_15 : decode cX4_isZero 15 = .ok (.aload_n 0, 1) := by decide +kernel
theorem dX4_isZero_16 : decode cX4_isZero 16 = .ok (.getfield 7, 3) := by decide +kernel
theorem dX4_isZero_19 : decode cX4_isZero 19 = .ok (.iload_n 1, 1) := by decide +kernel
theorem dX4_isZero_20 : decode cX4_isZero 20 = .ok (.iload 4, 2) := by decide +kernel
theorem dX4_isZero_22 : decode cX4_isZero 22 = .ok (.iadd, 1) := by decide +kernel
theorem dX4_isZero_23 : decode cX4_isZero 23 = .ok (.iaload, 1) := by decide +kernel
theorem dX4_isZero_24 : decode cX4_isZero 24 = .ok (.ifCond .ne 7, 3) := by decide +kernel
theorem dX4_isZero_27 : decode cX4_isZero 27 = .ok (.iconst 1, 1) := by decide +kernel
theorem dX4_isZero_28 : decode cX4_isZero 28 = .ok (.goto 4, 3) := by decide +kernel
theorem dX4_isZero_31 : decode cX4_isZero 31 = .ok (.iconst 0, 1) := by decide +kernel
theorem dX4_isZero_32 : decode cX4_isZero 32 = .ok (.istore_n 3, 1) := by decide +kernel
theorem dX4_isZero_33 : decode cX4_isZero 33 = .ok (.iinc 4 1, 3) := by decide +kernel
theorem dX4_isZero_36 : decode cX4_isZero 36 = .ok (.goto (-31), 3) := by decide +kernel
theorem dX4_isZero_39 : decode cX4_isZero 39 = .ok (.iload_n 3, 1) := by decide +kernel
theorem dX4_isZero_40 : decode cX4_isZero 40 = .ok (.ireturn, 1) := by decide +kernel
set_option maxRecDepth 20000 in
theorem ggX4_linear_X4_isKey : GoodIn wsX4_linear wsX4_isKey := goodIn_r _ [4, 5, 6, 3, 7] (by decide +kernel) (by decide +kernel)
set_option maxRecDepth 20000 in
theorem gX4_linear_X4_isKey : GoodIn wsX4_linear (va_wsS RX4 96 yX4_isKey wsX4_isKey) := goodIn_app (goodIn_of _ (by decide +kernel)) ggX4_linear_X4_isKey
set_option maxRecDepth 20000 in
theorem ggX4_linear_X4_isTaken : GoodIn wsX4_linear wsX4_isTaken := goodIn_r _ [11, 12, 13, 14, 15, 16, 3, 17, 18, 27, 28, 29, 30, 31, 32, 33, 34, 35, 36, 37, 38, 39, 40, 41, 42, 43, 44] (by decide +kernel) (by decide +kernel)
set_option maxRecDepth 20000 in
theorem gX4_linear_X4_isTaken : GoodIn wsX4_linear (wsV RX4 100 RX4 yX4_isTaken wsX4_isTaken) := goodIn_app (goodIn_of _ (by decide +kernel)) ggX4_linear_X4_isTaken
set_option maxRecDepth 20000 in
theorem ggX4_linear_X4_isIn : GoodIn wsX4_linear wsX4_isIn := goodIn_r _ [17, 18, 27, 28, 29, 30, 31, 32, 33, 34, 35, 36, 37, 38, 39, 40, 41, 42, 43, 44] (by decide +kernel) (by decide +kernel)
set_option maxRecDepth 20000 in
theorem gX4_linear_X4_isIn : GoodIn wsX4_linear (wsV RX4 58 RX4 yX4_isIn wsX4_isIn) := goodIn_app (goodIn_of _ (by decide +kernel)) ggX4_linear_X4_isIn
set_option maxRecDepth 20000 in
theorem ggX4_linear_X4_compare : GoodIn wsX4_linear wsX4_compare := goodIn_r _ [22, 13, 12, 27, 28, 29, 30, 31, 32, 33, 34, 35, 36, 37, 38, 39, 40, 41, 42, 43, 44] (by decide +kernel) (by decide +kernel)
set_option maxRecDepth 20000 in
theorem gX4_linear_X4_compare : GoodIn wsX4_linear (wsV RX4 104 RX4 yX4_compare wsX4_compare) := goodIn_app (goodIn_of _ (by decide +kernel)) ggX4_linear_X4_compare
set_option maxRecDepth 20000 in
theorem ggX4_linear_X4_isZero : GoodIn wsX4_linear wsX4_isZero := goodIn_r _ [26, 13, 27, 28, 29, 30, 31, 32, 33, 34, 35, 36, 37, 38, 39, 40, 41, 42, 43, 44] (by decide +kernel) (by decide +kernel)
set_option maxRecDepth 20000 in
theorem gX4_linear_X4_isZero : GoodIn wsX4_linear (wsV RX4 108 RX4 yX4_isZero wsX4_isZero) := goodIn_app (goodIn_of _ (by decide +kernel)) ggX4_linear_X4_isZero
theorem dX4_linear_0 : decode cX4_linear 0 = .ok (.iload 4, 2) := by decide +kernel
theorem dX4_linear_2 : decode cX4_linear 2 = .ok (.ifCond .lt 39, 3) := by decide +kernel
theorem dX4_linear_5 : decode cX4_linear 5 = .ok (.iload 5, 2) := by decide +kernel
theorem dX4_linear_7 : decode cX4_linear 7 = .ok (.iconst (-1), 1) := by decide +kernel
theorem dX4_linear_8 : decode cX4_linear 8 = .ok (.if_icmp .lt 33, 3) := by decide +kernel
theorem dX4_linear_11 : decode cX4_linear 11 = .ok (.iload 6, 2) := by decide +kernel
theorem dX4_linear_13 : decode cX4_linear 13 = .ok (.ifCond .lt 28, 3) := by decide +kernel
theorem dX4_linear_16 : decode cX4_linear 16 = .ok (.iload_n 3, 1) := by decide +kernel
theorem dX4_linear_17 : decode cX4_linear 17 = .ok (.ifCond .lt 24, 3) := by decide +kernel
theorem dX4_linear_20 : decode cX4_linear 20 = .ok (.iload 7, 2) := by decide +kernel
theorem dX4_linear_22 : decode cX4_linear 22 = .ok (.ifCond .lt 19, 3) := by decide +kernel
theorem dX4_linear_25 : decode cX4_linear 25 = .ok (.iload 7, 2) := by decide +kernel
theorem dX4_linear_27 : decode cX4_linear 27 = .ok (.bipush 7, 2) := by decide +kernel
theorem dX4_linear_29 : decode cX4_linear 29 = .ok (.if_icmp .gt 12, 3) := by decide +kernel
theorem dX4_linear_32 : decode cX4_linear 32 = .ok (.iload_n 2, 1) := by decide +kernel
theorem dX4_linear_33 : decode cX4_linear 33 = .ok (.iload 7, 2) := by decide +kernel
theorem dX4_linear_35 : decode cX4_linear 35 = .ok (.invokestatic 96, 3) := by decide +kernel
theorem dX4_linear_38 : decode cX4_linear 38 = .ok (.ifCond .ne 6, 3) := by decide +kernel
theorem dX4_linear_41 : decode cX4_linear 41 = .ok (.bipush (-11), 2) := by decide +kernel
theorem dX4_linear_43 : decode cX4_linear 43 = .ok (.ireturn, 1) := by decide +kernel
theorem dX4_linear_44 : decode cX4_linear 44 = .ok (.aload_n 0, 1) := by decide +kernel
theorem dX4_linear_45 : decode cX4_linear 45 = .ok (.iload_n 1, 1) := by decide +kernel
theorem dX4_linear_46 : decode cX4_linear 46 = .ok (.iload_n 2, 1) := by decide +kernel
theorem dX4_linear_47 : decode cX4_linear 47 = .ok (.iload 7, 2) := by decide +kernel
theorem dX4_linear_49 : decode cX4_linear 49 = .ok (.invokevirtual 100, 3) := by decide +kernel
theorem dX4_linear_52 : decode cX4_linear 52 = .ok (.ifCond .ne 6, 3) := by decide +kernel
theorem dX4_linear_55 : decode cX4_linear 55 = .ok (.bipush (-12), 2) := by decide +kernel
theorem dX4_linear_57 : decode cX4_linear 57 = .ok (.ireturn, 1) := by decide +kernel
theorem dX4_linear_58 : decode cX4_linear 58 = .ok (.iload 7, 2) := by decide +kernel
theorem dX4_linear_60 : decode cX4_linear 60 = .ok (.iconst 4, 1) := by decide +kernel
theorem dX4_linear_61 : decode cX4_linear 61 = .ok (.if_icmp .lt 7, 3) := by decide +kernel
theorem dX4_linear_64 : decode cX4_linear 64 = .ok (.iconst 1, 1) := by decide +kernel
theorem dX4_linear_65 : decode cX4_linear 65 = .ok (.goto 4, 3) := by decide +kernel
theorem dX4_linear_68 : decode cX4_linear 68 = .ok (.iconst 0, 1) := by decide +kernel
theorem dX4_linear_69 : decode cX4_linear 69 = .ok (.istore 8, 2) := by decide +kernel
theorem dX4_linear_71 : decode cX4_linear 71 = .ok (.iconst 0, 1) := by decide +kernel
theorem dX4_linear_72 : decode cX4_linear 72 = .ok (.istore 9, 2) := by decide +kernel
theorem dX4_linear_74 : decode cX4_linear 74 = .ok (.iload 5, 2) := by decide +kernel
theorem dX4_linear_76 : decode cX4_linear 76 = .ok (.iconst (-1), 1) := by decide +kernel
theorem dX4_linear_77 : decode cX4_linear 77 = .ok (.if_icmp .eq 10, 3) := by decide +kernel
theorem dX4_linear_80 : decode cX4_linear 80 = .ok (.iload 9, 2) := by decide +kernel
theorem dX4_linear_82 : decode cX4_linear 82 = .ok (.iload 5, 2) := by decide +kernel
theorem dX4_linear_84 : decode cX4_linear 84 = .ok (.if_icmp .ge 120, 3) := by decide +kernel
theorem dX4_linear_87 : decode cX4_linear 87 = .ok (.iload 9, 2) := by decide +kernel
theorem dX4_linear_89 : decode cX4_linear 89 = .ok (.sipush 3000, 3) := by decide +kernel
theorem dX4_linear_92 : decode cX4_linear 92 = .ok (.if_icmp .ne 6, 3) := by decide +kernel
theorem dX4_linear_95 : decode cX4_linear 95 = .ok (.bipush (-16), 2) := by decide +kernel
theorem dX4_linear_97 : decode cX4_linear 97 = .ok (.ireturn, 1) := by decide +kernel
theorem dX4_linear_98 : decode cX4_linear 98 = .ok (.iload_n 3, 1) := by decide +kernel
theorem dX4_linear_99 : decode cX4_linear 99 = .ok (.i2l, 1) := by decide +kernel
theorem dX4_linear_100 : decode cX4_linear 100 = .ok (.iload 9, 2) := by decide +kernel
theorem dX4_linear_102 : decode cX4_linear 102 = .ok (.i2l, 1) := by decide +kernel
theorem dX4_linear_103 : decode cX4_linear 103 = .ok (.iload 4, 2) := by decide +kernel
theorem dX4_linear_105 : decode cX4_linear 105 = .ok (.i2l, 1) := by decide +kernel
theorem dX4_linear_106 : decode cX4_linear 106 = .ok (.lmul, 1) := by decide +kernel
theorem dX4_linear_107 : decode cX4_linear 107 = .ok (.ladd, 1) := by decide +kernel
theorem dX4_linear_108 : decode cX4_linear 108 = .ok (.lstore 10, 2) := by decide +kernel
theorem dX4_linear_110 : decode cX4_linear 110 = .ok (.aload_n 0, 1) := by decide +kernel
theorem dX4_linear_111 : decode cX4_linear 111 = .ok (.lload 10, 2) := by decide +kernel
theorem dX4_linear_113 : decode cX4_linear 113 = .ok (.iload 6, 2) := by decide +kernel
theorem dX4_linear_115 : decode cX4_linear 115 = .ok (.i2l, 1) := by decide +kernel
theorem dX4_linear_116 : decode cX4_linear 116 = .ok (.ladd, 1) := by decide +kernel
theorem dX4_linear_117 : decode cX4_linear 117 = .ok (.iload_n 2, 1) := by decide +kernel
theorem dX4_linear_118 : decode cX4_linear 118 = .ok (.i2l, 1) := by decide +kernel
theorem dX4_linear_119 : decode cX4_linear 119 = .ok (.invokevirtual 58, 3) := by decide +kernel
theorem dX4_linear_122 : decode cX4_linear 122 = .ok (.ifCond .ne 6, 3) := by decide +kernel
theorem dX4_linear_125 : decode cX4_linear 125 = .ok (.bipush (-12), 2) := by decide +kernel
theorem dX4_linear_127 : decode cX4_linear 127 = .ok (.ireturn, 1) := by decide +kernel
theorem dX4_linear_128 : decode cX4_linear 128 = .ok (.iload_n 2, 1) := by decide +kernel
theorem dX4_linear_129 : decode cX4_linear 129 = .ok (.ifCond .ne 7, 3) := by decide +kernel
theorem dX4_linear_132 : decode cX4_linear 132 = .ok (.lconst 0, 1) := by decide +kernel
theorem dX4_linear_133 : decode cX4_linear 133 = .ok (.goto 9, 3) := by decide +kernel
theorem dX4_linear_136 : decode cX4_linear 136 = .ok (.lload 10, 2) := by decide +kernel
theorem dX4_linear_138 : decode cX4_linear 138 = .ok (.iload 6, 2) := by decide +kernel
theorem dX4_linear_140 : decode cX4_linear 140 = .ok (.i2l, 1) := by decide +kernel
theorem dX4_linear_141 : decode cX4_linear 141 = .ok (.ladd, 1) := by decide +kernel
theorem dX4_linear_142 : decode cX4_linear 142 = .ok (.l2i, 1) := by decide +kernel
theorem dX4_linear_143 : decode cX4_linear 143 = .ok (.istore 12, 2) := by decide +kernel
theorem dX4_linear_145 : decode cX4_linear 145 = .ok (.aload_n 0, 1) := by decide +kernel
theorem dX4_linear_146 : decode cX4_linear 146 = .ok (.iload 12, 2) := by decide +kernel
theorem dX4_linear_148 : decode cX4_linear 148 = .ok (.iload_n 2, 1) := by decide +kernel
theorem dX4_linear_149 : decode cX4_linear 149 = .ok (.invokevirtual 104, 3) := by decide +kernel
theorem dX4_linear_152 : decode cX4_linear 152 = .ok (.ifCond .ne 17, 3) := by decide +kernel
theorem dX4_linear_155 : decode cX4_linear 155 = .ok (.iload 8, 2) := by decide +kernel
theorem dX4_linear_157 : decode cX4_linear 157 = .ok (.ifCond .eq 8, 3) := by decide +kernel
theorem dX4_linear_160 : decode cX4_linear 160 = .ok (.iload 9, 2) := by decide +kernel
theorem dX4_linear_162 : decode cX4_linear 162 = .ok (.goto 6, 3) := by decide +kernel
theorem dX4_linear_165 : decode cX4_linear 165 = .ok (.lload 10, 2) := by decide +kernel
theorem dX4_linear_167 : decode cX4_linear 167 = .ok (.l2i, 1) := by decide +kernel
theorem dX4_linear_168 : decode cX4_linear 168 = .ok (.ireturn, 1) := by decide +kernel
theorem dX4_linear_169 : decode cX4_linear 169 = .ok (.iload 7, 2) := by decide +kernel
theorem dX4_linear_171 : decode cX4_linear 171 = .ok (.iconst 2, 1) := by decide +kernel
theorem dX4_linear_172 : decode cX4_linear 172 = .ok (.iand, 1) := by decide +kernel
theorem dX4_linear_173 : decode cX4_linear 173 = .ok (.iconst 2, 1) := by decide +kernel
theorem dX4_linear_174 : decode cX4_linear 174 = .ok (.if_icmp .ne 24, 3) := by decide +kernel
theorem dX4_linear_177 : decode cX4_linear 177 = .ok (.aload_n 0, 1) := by decide +kernel
theorem dX4_linear_178 : decode cX4_linear 178 = .ok (.iload 12, 2) := by decide +kernel
theorem dX4_linear_180 : decode cX4_linear 180 = .ok (.iload_n 2, 1) := by decide +kernel
theorem dX4_linear_181 : decode cX4_linear 181 = .ok (.invokevirtual 108, 3) := by decide +kernel
theorem dX4_linear_184 : decode cX4_linear 184 = .ok (.ifCond .eq 14, 3) := by decide +kernel
theorem dX4_linear_187 : decode cX4_linear 187 = .ok (.iload 8, 2) := by decide +kernel
theorem dX4_linear_189 : decode cX4_linear 189 = .ok (.ifCond .eq 7, 3) := by decide +kernel
theorem dX4_linear_192 : decode cX4_linear 192 = .ok (.iconst (-1), 1) := by decide +kernel
theorem dX4_linear_193 : decode cX4_linear 193 = .ok (.goto 4, 3) := by decide +kernel
theorem dX4_linear_196 : decode cX4_linear 196 = .ok (.iconst 0, 1) := by decide +kernel
theorem dX4_linear_197 : decode cX4_linear 197 = .ok (.ireturn, 1) := by decide +kernel
theorem dX4_linear_198 : decode cX4_linear 198 = .ok (.iinc 9 1, 3) := by decide +kernel
theorem dX4_linear_201 : decode cX4_linear 201 = .ok (.goto (-127), 3) := by decide +kernel
theorem dX4_linear_204 : decode cX4_linear 204 = .ok (.iload 8, 2) := by decide +kernel
theorem dX4_linear_206 : decode cX4_linear 206 = .ok (.ifCond .eq 7, 3) := by decide +kernel
theorem dX4_linear_209 : decode cX4_linear 209 = .ok (.iconst (-1), 1) := by decide +kernel
theorem dX4_linear_210 : decode cX4_linear 210 = .ok (.goto 4, 3) := by decide +kernel
theorem dX4_linear_213 : decode cX4_linear 213 = .ok (.iconst 0, 1) := by decide +kernel
theorem dX4_linear_214 : decode cX4_linear 214 = .ok (.ireturn, 1) := by decide +kernel
set_option maxRecDepth 20000 in
theorem ggX4_binary_X4_isKey : GoodIn wsX4_binary wsX4_isKey := goodIn_r _ [5, 6, 7, 4, 8] (by decide +kernel) (by decide +kernel)
set_option maxRecDepth 20000 in
theorem gX4_binary_X4_isKey : GoodIn wsX4_binary (va_wsS RX4 96 yX4_isKey wsX4_isKey) := goodIn_app (goodIn_of _ (by decide +kernel)) ggX4_binary_X4_isKey
set_option maxRecDepth 20000 in
theorem ggX4_binary_X4_isTaken : GoodIn wsX4_binary wsX4_isTaken := goodIn_r _ [12, 13, 14, 15, 16, 17, 4, 18, 19, 24, 25, 26, 27, 28, 29, 30, 31, 32, 33, 34, 35, 36, 37, 38, 39, 40, 41] (by decide +kernel) (by decide +kernel)
set_option maxRecDepth 20000 in
theorem gX4_binary_X4_isTaken : GoodIn wsX4_binary (wsV RX4 100 RX4 yX4_isTaken wsX4_isTaken) := goodIn_app (goodIn_of _ (by decide +kernel)) ggX4_binary_X4_isTaken
set_option maxRecDepth 20000 in
theorem ggX4_binary_X4_isIn : GoodIn wsX4_binary wsX4_isIn := goodIn_r _ [18, 19, 24, 25, 26, 27, 28, 29, 30, 31, 32, 33, 34, 35, 36, 37, 38, 39, 40, 41] (by decide +kernel) (by decide +kernel)
set_option maxRecDepth 20000 in
theorem gX4_binary_X4_isIn : GoodIn wsX4_binary (wsV RX4 58 RX4 yX4_isIn wsX4_isIn) := goodIn_app (goodIn_of _ (by decide +kernel)) ggX4_binary_X4_isIn
set_option maxRecDepth 20000 in
theorem ggX4_binary_X4_compare : GoodIn wsX4_binary wsX4_compare := goodIn_r _ [23, 14, 13, 24, 25, 26, 27, 28, 29, 30, 31, 32, 33, 34, 35, 36, 37, 38, 39, 40, 41] (by decide +kernel) (by decide +kernel)
set_option maxRecDepth 20000 in
theorem gX4_binary_X4_compare : GoodIn wsX4_binary (wsV RX4 104 RX4 yX4_compare wsX4_compare) := goodIn_app (goodIn_of _ (by decide +kernel)) ggX4_binary_X4_compare
theorem dX4_binary_0 : decode cX4_binary 0 = .ok (.iload 4, 2) := by decide +kernel
theorem dX4_binary_2 : decode cX4_binary 2 = .ok (.ifCond .lt 46, 3) := by decide +kernel
theorem dX4_binary_5 : decode cX4_binary 5 = .ok (.iload 5, 2) := by decide +kernel
theorem dX4_binary_7 : decode cX4_binary 7 = .ok (.ifCond .lt 41, 3) := by decide +kernel
theorem dX4_binary_10 : decode cX4_binary 10 = .ok (.iload 6, 2) := by decide +kernel
theorem dX4_binary_12 : decode cX4_binary 12 = .ok (.ifCond .lt 36, 3) := by decide +kernel
theorem dX4_binary_15 : decode cX4_binary 15 = .ok (.iload_n 3, 1) := by decide +kernel
theorem dX4_binary_16 : decode cX4_binary 16 = .ok (.ifCond .lt 32, 3) := by decide +kernel
theorem dX4_binary_19 : decode cX4_binary 19 = .ok (.iload 7, 2) := by decide +kernel
theorem dX4_binary_21 : decode cX4_binary 21 = .ok (.ifCond .lt 27, 3) := by decide +kernel
theorem dX4_binary_24 : decode cX4_binary 24 = .ok (.iload 7, 2) := by decide +kernel
theorem dX4_binary_26 : decode cX4_binary 26 = .ok (.bipush 7, 2) := by decide +kernel
theorem dX4_binary_28 : decode cX4_binary 28 = .ok (.if_icmp .gt 20, 3) := by decide +kernel
theorem dX4_binary_31 : decode cX4_binary 31 = .ok (.iload 7, 2) := by decide +kernel
theorem dX4_binary_33 : decode cX4_binary 33 = .ok (.iconst 2, 1) := by decide +kernel
theorem dX4_binary_34 : decode cX4_binary 34 = .ok (.iand, 1) := by decide +kernel
theorem dX4_binary_35 : decode cX4_binary 35 = .ok (.iconst 2, 1) := by decide +kernel
theorem dX4_binary_36 : decode cX4_binary 36 = .ok (.if_icmp .eq 12, 3) := by decide +kernel
theorem dX4_binary_39 : decode cX4_binary 39 = .ok (.iload_n 2, 1) := by decide +kernel
theorem dX4_binary_40 : decode cX4_binary 40 = .ok (.iload 7, 2) := by decide +kernel
theorem dX4_binary_42 : decode cX4_binary 42 = .ok (.invokestatic 96, 3) := by decide +kernel
theorem dX4_binary_45 : decode cX4_binary 45 = .ok (.ifCond .ne 6, 3) := by decide +kernel
theorem dX4_binary_48 : decode cX4_binary 48 = .ok (.bipush (-11), 2) := by decide +kernel
theorem dX4_binary_50 : decode cX4_binary 50 = .ok (.ireturn, 1) := by decide +kernel
theorem dX4_binary_51 : decode cX4_binary 51 = .ok (.aload_n 0, 1) := by decide +kernel
theorem dX4_binary_52 : decode cX4_binary 52 = .ok (.iload_n 1, 1) := by decide +kernel
theorem dX4_binary_53 : decode cX4_binary 53 = .ok (.iload_n 2, 1) := by decide +kernel
theorem dX4_binary_54 : decode cX4_binary 54 = .ok (.iload 7, 2) := by decide +kernel
theorem dX4_binary_56 : decode cX4_binary 56 = .ok (.invokevirtual 100, 3) := by decide +kernel
theorem dX4_binary_59 : decode cX4_binary 59 = .ok (.ifCond .ne 6, 3) := by decide +kernel
theorem dX4_binary_62 : decode cX4_binary 62 = .ok (.bipush (-12), 2) := by decide +kernel
theorem dX4_binary_64 : decode cX4_binary 64 = .ok (.ireturn, 1) := by decide +kernel
theorem dX4_binary_65 : decode cX4_binary 65 = .ok (.iload 7, 2) := by decide +kernel
theorem dX4_binary_67 : decode cX4_binary 67 = .ok (.iconst 4, 1) := by decide +kernel
theorem dX4_binary_68 : decode cX4_binary 68 = .ok (.if_icmp .lt 7, 3) := by decide +kernel
theorem dX4_binary_71 : decode cX4_binary 71 = .ok (.iconst 1, 1) := by decide +kernel
theorem dX4_binary_72 : decode cX4_binary 72 = .ok (.goto 4, 3) := by decide +kernel
theorem dX4_binary_75 : decode cX4_binary 75 = .ok (.iconst 0, 1) := by decide +kernel
theorem dX4_binary_76 : decode cX4_binary 76 = .ok (.istore 8, 2) := by decide +kernel
theorem dX4_binary_78 : decode cX4_binary 78 = .ok (.lconst 0, 1) := by decide +kernel
theorem dX4_binary_79 : decode cX4_binary 79 = .ok (.lstore 9, 2) := by decide +kernel
theorem dX4_binary_81 : decode cX4_binary 81 = .ok (.iload 5, 2) := by decide +kernel
theorem dX4_binary_83 : decode cX4_binary 83 = .ok (.i2l, 1) := by decide +kernel
theorem dX4_binary_84 : decode cX4_binary 84 = .ok (.lstore 11, 2) := by decide +kernel
theorem dX4_binary_86 : decode cX4_binary 86 = .ok (.lload 9, 2) := by decide +kernel
theorem dX4_binary_88 : decode cX4_binary 88 = .ok (.lload 11, 2) := by decide +kernel
theorem dX4_binary_90 : decode cX4_binary 90 = .ok (.lcmp, 1) := by decide +kernel
theorem dX4_binary_91 : decode cX4_binary 91 = .ok (.ifCond .ge 117, 3) := by decide +kernel
theorem dX4_binary_94 : decode cX4_binary 94 = .ok (.lload 9, 2) := by decide +kernel
theorem dX4_binary_96 : decode cX4_binary 96 = .ok (.lload 11, 2) := by decide +kernel
theorem dX4_binary_98 : decode cX4_binary 98 = .ok (.ladd, 1) := by decide +kernel
theorem dX4_binary_99 : decode cX4_binary 99 = .ok (.ldc2_w 111, 3) := by decide +kernel
theorem dX4_binary_102 : decode cX4_binary 102 = .ok (.ldiv, 1) := by decide +kernel
theorem dX4_binary_103 : decode cX4_binary 103 = .ok (.lstore 13, 2) := by decide +kernel
theorem dX4_binary_105 : decode cX4_binary 105 = .ok (.iload_n 3, 1) := by decide +kernel
theorem dX4_binary_106 : decode cX4_binary 106 = .ok (.i2l, 1) := by decide +kernel
theorem dX4_binary_107 : decode cX4_binary 107 = .ok (.lload 13, 2) := by decide +kernel
theorem dX4_binary_109 : decode cX4_binary 109 = .ok (.iload 4, 2) := by decide +kernel
theorem dX4_binary_111 : decode cX4_binary 111 = .ok (.i2l, 1) := by decide +kernel
theorem dX4_binary_112 : decode cX4_binary 112 = .ok (.lmul, 1) := by decide +kernel
theorem dX4_binary_113 : decode cX4_binary 113 = .ok (.ladd, 1) := by decide +kernel
theorem dX4_binary_114 : decode cX4_binary 114 = .ok (.lstore 15, 2) := by decide +kernel
theorem dX4_binary_116 : decode cX4_binary 116 = .ok (.aload_n 0, 1) := by decide +kernel
theorem dX4_binary_117 : decode cX4_binary 117 = .ok (.lload 15, 2) := by decide +kernel
theorem dX4_binary_119 : decode cX4_binary 119 = .ok (.iload 6, 2) := by decide +kernel
theorem dX4_binary_121 : decode cX4_binary 121 = .ok (.i2l, 1) := by decide +kernel
theorem dX4_binary_122 : decode cX4_binary 122 = .ok (.ladd, 1) := by decide +kernel
theorem dX4_binary_123 : decode cX4_binary 123 = .ok (.iload_n 2, 1) := by decide +kernel
theorem dX4_binary_124 : decode cX4_binary 124 = .ok (.i2l, 1) := by decide +kernel
theorem dX4_binary_125 : decode cX4_binary 125 = .ok (.invokevirtual 58, 3) := by decide +kernel
theorem dX4_binary_128 : decode cX4_binary 128 = .ok (.ifCond .ne 6, 3) := by decide +kernel
theorem dX4_binary_131 : decode cX4_binary 131 = .ok (.bipush (-12), 2) := by decide +kernel
theorem dX4_binary_133 : decode cX4_binary 133 = .ok (.ireturn, 1) := by decide +kernel
theorem dX4_binary_134 : decode cX4_binary 134 = .ok (.aload_n 0, 1) := by decide +kernel
theorem dX4_binary_135 : decode cX4_binary 135 = .ok (.iload_n 2, 1) := by decide +kernel
theorem dX4_binary_136 : decode cX4_binary 136 = .ok (.ifCond .ne 7, 3) := by decide +kernel
theorem dX4_binary_139 : decode cX4_binary 139 = .ok (.lconst 0, 1) := by decide +kernel
theorem dX4_binary_140 : decode cX4_binary 140 = .ok (.goto 9, 3) := by decide +kernel
theorem dX4_binary_143 : decode cX4_binary 143 = .ok (.lload 15, 2) := by decide +kernel
theorem dX4_binary_145 : decode cX4_binary 145 = .ok (.iload 6, 2) := by decide +kernel
theorem dX4_binary_147 : decode cX4_binary 147 = .ok (.i2l, 1) := by decide +kernel
theorem dX4_binary_148 : decode cX4_binary 148 = .ok (.ladd, 1) := by decide +kernel
theorem dX4_binary_149 : decode cX4_binary 149 = .ok (.l2i, 1) := by decide +kernel
theorem dX4_binary_150 : decode cX4_binary 150 = .ok (.iload_n 2, 1) := by decide +kernel
theorem dX4_binary_151 : decode cX4_binary 151 = .ok (.invokevirtual 104, 3) := by decide +kernel
theorem dX4_binary_154 : decode cX4_binary 154 = .ok (.istore 17, 2) := by decide +kernel
theorem dX4_binary_156 : decode cX4_binary 156 = .ok (.iload 17, 2) := by decide +kernel
theorem dX4_binary_158 : decode cX4_binary 158 = .ok (.ifCond .ne 17, 3) := by decide +kernel
theorem dX4_binary_161 : decode cX4_binary 161 = .ok (.iload 8, 2) := by decide +kernel
theorem dX4_binary_163 : decode cX4_binary 163 = .ok (.ifCond .eq 8, 3) := by decide +kernel
theorem dX4_binary_166 : decode cX4_binary 166 = .ok (.lload 13, 2) := by decide +kernel
theorem dX4_binary_168 : decode cX4_binary 168 = .ok (.goto 5, 3) := by decide +kernel
theorem dX4_binary_171 : decode cX4_binary 171 = .ok (.lload 15, 2) := by decide +kernel
theorem dX4_binary_173 : decode cX4_binary 173 = .ok (.l2i, 1) := by decide +kernel
theorem dX4_binary_174 : decode cX4_binary 174 = .ok (.ireturn, 1) := by decide +kernel
theorem dX4_binary_175 : decode cX4_binary 175 = .ok (.iload 17, 2) := by decide +kernel
theorem dX4_binary_177 : decode cX4_binary 177 = .ok (.ifCond .ge 10, 3) := by decide +kernel
theorem dX4_binary_180 : decode cX4_binary 180 = .ok (.lload 13, 2) := by decide +kernel
theorem dX4_binary_182 : decode cX4_binary 182 = .ok (.lconst 1, 1) := by decide +kernel
theorem dX4_binary_183 : decode cX4_binary 183 = .ok (.ladd, 1) := by decide +kernel
theorem dX4_binary_184 : decode cX4_binary 184 = .ok (.goto 5, 3) := by decide +kernel
theorem dX4_binary_187 : decode cX4_binary 187 = .ok (.lload 9, 2) := by decide +kernel
theorem dX4_binary_189 : decode cX4_binary 189 = .ok (.lstore 9, 2) := by decide +kernel
theorem dX4_binary_191 : decode cX4_binary 191 = .ok (.iload 17, 2) := by decide +kernel
theorem dX4_binary_193 : decode cX4_binary 193 = .ok (.ifCond .ge 8, 3) := by decide +kernel
theorem dX4_binary_196 : decode cX4_binary 196 = .ok (.lload 11, 2) := by decide +kernel
theorem dX4_binary_198 : decode cX4_binary 198 = .ok (.goto 5, 3) := by decide +kernel
theorem dX4_binary_201 : decode cX4_binary 201 = .ok (.lload 13, 2) := by decide +kernel
theorem dX4_binary_203 : decode cX4_binary 203 = .ok (.lstore 11, 2) := by decide +kernel
theorem dX4_binary_205 : decode cX4_binary 205 = .ok (.goto (-119), 3) := by decide +kernel
theorem dX4_binary_208 : decode cX4_binary 208 = .ok (.iload 8, 2) := by decide +kernel
theorem dX4_binary_210 : decode cX4_binary 210 = .ok (.ifCond .eq 7, 3) := by decide +kernel
theorem dX4_binary_213 : decode cX4_binary 213 = .ok (.iconst (-1), 1) := by decide +kernel
theorem dX4_binary_214 : decode cX4_binary 214 = .ok (.goto 4, 3) := by decide +kernel
theorem dX4_binary_217 : decode cX4_binary 217 = .ok (.iconst 0, 1) := by decide +kernel
theorem dX4_binary_218 : decode cX4_binary 218 = .ok (.ireturn, 1) := by decide +kernel
set_option maxRecDepth 20000 in
theorem ggX4_linked_X4_isKey : GoodIn wsX4_linked wsX4_isKey := goodIn_r _ [5, 6, 7, 4, 8] (by decide +kernel) (by decide +kernel)
set_option maxRecDepth 20000 in
theorem gX4_linked_X4_isKey : GoodIn wsX4_linked (va_wsS RX4 96 yX4_isKey wsX4_isKey) := goodIn_app (goodIn_of _ (by decide +kernel)) ggX4_linked_X4_isKey
set_option maxRecDepth 20000 in
theorem ggX4_linked_X4_isTaken : GoodIn wsX4_linked wsX4_isTaken := goodIn_r _ [12, 13, 14, 15, 16, 17, 4, 18, 19, 32, 33, 34, 35, 36, 37, 38, 39, 40, 41, 42, 43, 44, 45, 46, 47, 48, 49] (by decide +kernel) (by decide +kernel)
set_option maxRecDepth 20000 in
theorem gX4_linked_X4_isTaken : GoodIn wsX4_linked (wsV RX4 100 RX4 yX4_isTaken wsX4_isTaken) := goodIn_app (goodIn_of _ (by decide +kernel)) ggX4_linked_X4_isTaken
set_option maxRecDepth 20000 in
theorem ggX4_linked_X4_isIn : GoodIn wsX4_linked wsX4_isIn := goodIn_r _ [18, 19, 32, 33, 34, 35, 36, 37, 38, 39, 40, 41, 42, 43, 44, 45, 46, 47, 48, 49] (by decide +kernel) (by decide +kernel)
set_option maxRecDepth 20000 in
theorem gX4_linked_X4_isIn : GoodIn wsX4_linked (wsV RX4 58 RX4 yX4_isIn wsX4_isIn) := goodIn_app (goodIn_of _ (by decide +kernel)) ggX4_linked_X4_isIn
set_option maxRecDepth 20000 in
theorem ggX4_linked_X4_compare : GoodIn wsX4_linked wsX4_compare := goodIn_r _ [23, 14, 13, 32, 33, 34, 35, 36, 37, 38, 39, 40, 41, 42, 43, 44, 45, 46, 47, 48, 49] (by decide +kernel) (by decide +kernel)
set_option maxRecDepth 20000 in
theorem gX4_linked_X4_compare : GoodIn wsX4_linked (wsV RX4 104 RX4 yX4_compare wsX4_compare) := goodIn_app (goodIn_of _ (by decide +kernel)) ggX4_linked_X4_compare
set_option maxRecDepth 20000 in
theorem ggX4_linked_X4_isZero : GoodIn wsX4_linked wsX4_isZero := goodIn_r _ [27, 14, 32, 33, 34, 35, 36, 37, 38, 39, 40, 41, 42, 43, 44, 45, 46, 47, 48, 49] (by decide +kernel) (by decide +kernel)
set_option maxRecDepth 20000 in
theorem gX4_linked_X4_isZero : GoodIn wsX4_linked (wsV RX4 108 RX4 yX4_isZero wsX4_isZero) := goodIn_app (goodIn_of _ (by decide +kernel)) ggX4_linked_X4_isZero
set_option maxRecDepth 20000 in
theorem ggX4_linked_X4_number : GoodIn wsX4_linked wsX4_number := goodIn_r _ [31, 14, 32, 33, 34, 35, 36, 37, 38, 39, 40, 41, 42, 43, 44, 45, 46, 47, 48, 49] (by decide +kernel) (by decide +kernel)
set_option maxRecDepth 20000 in
theorem gX4_linked_X4_number : GoodIn wsX4_linked (wsV RX4 62 RX4 yX4_number wsX4_number) := goodIn_app (goodIn_of _ (by decide +kernel)) ggX4_linked_X4_number
theorem dX4_linked_0 : decode cX4_linked 0 = .ok (.iload 4, 2) := by decide +kernel
theorem dX4_linked_2 : decode cX4_linked 2 = .ok (.ifCond .lt 32, 3) := by decide +kernel
theorem dX4_linked_5 : decode cX4_linked 5 = .ok (.iload_n 3, 1) := by decide +kernel
theorem dX4_linked_6 : decode cX4_linked 6 = .ok (.ifCond .lt 28, 3) := by decide +kernel
theorem dX4_linked_9 : decode cX4_linked 9 = .ok (.iload 5, 2) := by decide +kernel
theorem dX4_linked_11 : decode cX4_linked 11 = .ok (.ifCond .lt 23, 3) := by decide +kernel
theorem dX4_linked_14 : decode cX4_linked 14 = .ok (.iload 6, 2) := by decide +kernel
theorem dX4_linked_16 : decode cX4_linked 16 = .ok (.ifCond .lt 18, 3) := by decide +kernel
theorem dX4_linked_19 : decode cX4_linked 19 = .ok (.iload 6, 2) := by decide +kernel
theorem dX4_linked_21 : decode cX4_linked 21 = .ok (.iconst 3, 1) := by decide +kernel
theorem dX4_linked_22 : decode cX4_linked 22 = .ok (.if_icmp .gt 12, 3) := by decide +kernel
theorem dX4_linked_25 : decode cX4_linked 25 = .ok (.iload_n 2, 1) := by decide +kernel
theorem dX4_linked_26 : decode cX4_linked 26 = .ok (.iload 6, 2) := by decide +kernel
theorem dX4_linked_28 : decode cX4_linked 28 = .ok (.invokestatic 96, 3) := by decide +kernel
theorem dX4_linked_31 : decode cX4_linked 31 = .ok (.ifCond .ne 6, 3) := by decide +kernel
theorem dX4_linked_34 : decode cX4_linked 34 = .ok (.bipush (-11), 2) := by decide +kernel
theorem dX4_linked_36 : decode cX4_linked 36 = .ok (.ireturn, 1) := by decide +kernel
theorem dX4_linked_37 : decode cX4_linked 37 = .ok (.aload_n 0, 1) := by decide +kernel
theorem dX4_linked_38 : decode cX4_linked 38 = .ok (.iload_n 1, 1) := by decide +kernel
theorem dX4_linked_39 : decode cX4_linked 39 = .ok (.iload_n 2, 1) := by decide +kernel
theorem dX4_linked_40 : decode cX4_linked 40 = .ok (.iload 6, 2) := by decide +kernel
theorem dX4_linked_42 : decode cX4_linked 42 = .ok (.invokevirtual 100, 3) := by decide +kernel
theorem dX4_linked_45 : decode cX4_linked 45 = .ok (.ifCond .ne 6, 3) := by decide +kernel
theorem dX4_linked_48 : decode cX4_linked 48 = .ok (.bipush (-12), 2) := by decide +kernel
theorem dX4_linked_50 : decode cX4_linked 50 = .ok (.ireturn, 1) := by decide +kernel
theorem dX4_linked_51 : decode cX4_linked 51 = .ok (.iload_n 3, 1) := by decide +kernel
theorem dX4_linked_52 : decode cX4_linked 52 = .ok (.i2l, 1) := by decide +kernel
theorem dX4_linked_53 : decode cX4_linked 53 = .ok (.lstore 7, 2) := by decide +kernel
theorem dX4_linked_55 : decode cX4_linked 55 = .ok (.iconst 0, 1) := by decide +kernel
theorem dX4_linked_56 : decode cX4_linked 56 = .ok (.istore 9, 2) := by decide +kernel
theorem dX4_linked_58 : decode cX4_linked 58 = .ok (.lload 7, 2) := by decide +kernel
theorem dX4_linked_60 : decode cX4_linked 60 = .ok (.lconst 0, 1) := by decide +kernel
theorem dX4_linked_61 : decode cX4_linked 61 = .ok (.lcmp, 1) := by decide +kernel
theorem dX4_linked_62 : decode cX4_linked 62 = .ok (.ifCond .eq 122, 3) := by decide +kernel
theorem dX4_linked_65 : decode cX4_linked 65 = .ok (.iload 9, 2) := by decide +kernel
theorem dX4_linked_67 : decode cX4_linked 67 = .ok (.sipush 3000, 3) := by decide +kernel
theorem dX4_linked_70 : decode cX4_linked 70 = .ok (.if_icmp .ne 6, 3) := by decide +kernel
theorem dX4_linked_73 : decode cX4_linked 73 = .ok (.bipush (-16), 2) := by decide +kernel
theorem dX4_linked_75 : decode cX4_linked 75 = .ok (.ireturn, 1) := by decide +kernel
theorem dX4_linked_76 : decode cX4_linked 76 = .ok (.iinc 9 1, 3) := by decide +kernel
theorem dX4_linked_79 : decode cX4_linked 79 = .ok (.aload_n 0, 1) := by decide +kernel
theorem dX4_linked_80 : decode cX4_linked 80 = .ok (.lload 7, 2) := by decide +kernel
theorem dX4_linked_82 : decode cX4_linked 82 = .ok (.iload 4, 2) := by decide +kernel
theorem dX4_linked_84 : decode cX4_linked 84 = .ok (.i2l, 1) := by decide +kernel
theorem dX4_linked_85 : decode cX4_linked 85 = .ok (.ladd, 1) := by decide +kernel
theorem dX4_linked_86 : decode cX4_linked 86 = .ok (.iload_n 2, 1) := by decide +kernel
theorem dX4_linked_87 : decode cX4_linked 87 = .ok (.i2l, 1) := by decide +kernel
theorem dX4_linked_88 : decode cX4_linked 88 = .ok (.invokevirtual 58, 3) := by decide +kernel
theorem dX4_linked_91 : decode cX4_linked 91 = .ok (.ifCond .ne 6, 3) := by decide +kernel
theorem dX4_linked_94 : decode cX4_linked 94 = .ok (.bipush (-12), 2) := by decide +kernel
theorem dX4_linked_96 : decode cX4_linked 96 = .ok (.ireturn, 1) := by decide +kernel
theorem dX4_linked_97 : decode cX4_linked 97 = .ok (.iload_n 2, 1) := by decide +kernel
theorem dX4_linked_98 : decode cX4_linked 98 = .ok (.ifCond .ne 7, 3) := by decide +kernel
theorem dX4_linked_101 : decode cX4_linked 101 = .ok (.lconst 0, 1) := by decide +kernel
theorem dX4_linked_102 : decode cX4_linked 102 = .ok (.goto 9, 3) := by decide +kernel
theorem dX4_linked_105 : decode cX4_linked 105 = .ok (.lload 7, 2) := by decide +kernel
theorem dX4_linked_107 : decode cX4_linked 107 = .ok (.iload 4, 2) := by decide +kernel
theorem dX4_linked_109 : decode cX4_linked 109 = .ok (.i2l, 1) := by decide +kernel
theorem dX4_linked_110 : decode cX4_linked 110 = .ok (.ladd, 1) := by decide +kernel
theorem dX4_linked_111 : decode cX4_linked 111 = .ok (.l2i, 1) := by decide +kernel
theorem dX4_linked_112 : decode cX4_linked 112 = .ok (.istore 10, 2) := by decide +kernel
theorem dX4_linked_114 : decode cX4_linked 114 = .ok (.aload_n 0, 1) := by decide +kernel
theorem dX4_linked_115 : decode cX4_linked 115 = .ok (.iload 10, 2) := by decide +kernel
theorem dX4_linked_117 : decode cX4_linked 117 = .ok (.iload_n 2, 1) := by decide +kernel
theorem dX4_linked_118 : decode cX4_linked 118 = .ok (.invokevirtual 104, 3) := by decide +kernel
theorem dX4_linked_121 : decode cX4_linked 121 = .ok (.ifCond .ne 7, 3) := by decide +kernel
theorem dX4_linked_124 : decode cX4_linked 124 = .ok (.lload 7, 2) := by decide +kernel
theorem dX4_linked_126 : decode cX4_linked 126 = .ok (.l2i, 1) := by decide +kernel
theorem dX4_linked_127 : decode cX4_linked 127 = .ok (.ireturn, 1) := by decide +kernel
theorem dX4_linked_128 : decode cX4_linked 128 = .ok (.iload 6, 2) := by decide +kernel
theorem dX4_linked_130 : decode cX4_linked 130 = .ok (.iconst 2, 1) := by decide +kernel
theorem dX4_linked_131 : decode cX4_linked 131 = .ok (.iand, 1) := by decide +kernel
theorem dX4_linked_132 : decode cX4_linked 132 = .ok (.iconst 2, 1) := by decide +kernel
theorem dX4_linked_133 : decode cX4_linked 133 = .ok (.if_icmp .ne 15, 3) := by decide +kernel
theorem dX4_linked_136 : decode cX4_linked 136 = .ok (.aload_n 0, 1) := by decide +kernel
theorem dX4_linked_137 : decode cX4_linked 137 = .ok (.iload 10, 2) := by decide +kernel
theorem dX4_linked_139 : decode cX4_linked 139 = .ok (.iload_n 2, 1) := by decide +kernel
theorem dX4_linked_140 : decode cX4_linked 140 = .ok (.invokevirtual 108, 3) := by decide +kernel
theorem dX4_linked_143 : decode cX4_linked 143 = .ok (.ifCond .eq 5, 3) := by decide +kernel
theorem dX4_linked_146 : decode cX4_linked 146 = .ok (.iconst 0, 1) := by decide +kernel
theorem dX4_linked_147 : decode cX4_linked 147 = .ok (.ireturn, 1) := by decide +kernel
theorem dX4_linked_148 : decode cX4_linked 148 = .ok (.aload_n 0, 1) := by decide +kernel
theorem dX4_linked_149 : decode cX4_linked 149 = .ok (.lload 7, 2) := by decide +kernel
theorem dX4_linked_151 : decode cX4_linked 151 = .ok (.iload 5, 2) := by decide +kernel
theorem dX4_linked_153 : decode cX4_linked 153 = .ok (.i2l, 1) := by decide +kernel
theorem dX4_linked_154 : decode cX4_linked 154 = .ok (.ladd, 1) := by decide +kernel
theorem dX4_linked_155 : decode cX4_linked 155 = .ok (.ldc2_w 113, 3) := by decide +kernel
theorem dX4_linked_158 : decode cX4_linked 158 = .ok (.invokevirtual 58, 3) := by decide +kernel
theorem dX4_linked_161 : decode cX4_linked 161 = .ok (.ifCond .ne 6, 3) := by decide +kernel
theorem dX4_linked_164 : decode cX4_linked 164 = .ok (.bipush (-12), 2) := by decide +kernel
theorem dX4_linked_166 : decode cX4_linked 166 = .ok (.ireturn, 1) := by decide +kernel
theorem dX4_linked_167 : decode cX4_linked 167 = .ok (.aload_n 0, 1) := by decide +kernel
theorem dX4_linked_168 : decode cX4_linked 168 = .ok (.lload 7, 2) := by decide +kernel
theorem dX4_linked_170 : decode cX4_linked 170 = .ok (.iload 5, 2) := by decide +kernel
theorem dX4_linked_172 : decode cX4_linked 172 = .ok (.i2l, 1) := by decide +kernel
theorem dX4_linked_173 : decode cX4_linked 173 = .ok (.ladd, 1) := by decide +kernel
theorem dX4_linked_174 : decode cX4_linked 174 = .ok (.l2i, 1) := by decide +kernel
theorem dX4_linked_175 : decode cX4_linked 175 = .ok (.iconst 4, 1) := by decide +kernel
theorem dX4_linked_176 : decode cX4_linked 176 = .ok (.invokevirtual 62, 3) := by decide +kernel
theorem dX4_linked_179 : decode cX4_linked 179 = .ok (.lstore 7, 2) := by decide +kernel
theorem dX4_linked_181 : decode cX4_linked 181 = .ok (.goto (-123), 3) := by decide +kernel
theorem dX4_linked_184 : decode cX4_linked 184 = .ok (.iconst 0, 1) := by decide +kernel
theorem dX4_linked_185 : decode cX4_linked 185 = .ok (.ireturn, 1) := by decide +kernel
end
section
theorem dX4_protect_0 : decode cX4_protect 0 = .ok (.iload_n 1, 1) := by decide +kernel
theorem dX4_protect_1 : decode cX4_protect 1 = .ok (.ifCond .lt 21, 3) := by decide +kernel
theorem dX4_protect_4 : decode cX4_protect 4 = .ok (.iload_n 2, 1) := by decide +kernel
theorem dX4_protect_5 : decode cX4_protect 5 = .ok (.ifCond .lt 17, 3) := by decide +kernel
theorem dX4_protect_8 : decode cX4_protect 8 = .ok (.iload_n 1, 1) := by decide +kernel
theorem dX4_protect_9 : decode cX4_protect 9 = .ok (.sipush 8192, 3) := by decide +kernel
theorem dX4_protect_12 : decode cX4_protect 12 = .ok (.if_icmp .gt 10, 3) := by decide +kernel
theorem dX4_protect_15 : decode cX4_protect 15 = .ok (.iload_n 2, 1) := by decide +kernel
theorem dX4_protect_16 : decode cX4_protect 16 = .ok (.sipush 8192, 3) := by decide +kernel
theorem dX4_protect_19 : decode cX4_protect 19 = .ok (.if_icmp .le 6, 3) := by decide +kernel
theorem dX4_protect_22 : decode cX4_protect 22 = .ok (.bipush (-11), 2) := by decide +kernel
theorem dX4_protect_24 : decode cX4_protect 24 = .ok (.ireturn, 1) := by decide +kernel
theorem dX4_protect_25 : decode cX4_protect 25 = .ok (.aload_n 0, 1) := by decide +kernel
theorem dX4_protect_26 : decode cX4_protect 26 = .ok (.iload_n 2, 1) := by decide +kernel
theorem dX4_protect_27 : decode cX4_protect 27 = .ok (.ifCond .ne 7, 3) := by decide +kernel
theorem dX4_protect_30 : decode cX4_protect 30 = .ok (.iconst 0, 1) := by decide +kernel
theorem dX4_protect_31 : decode cX4_protect 31 = .ok (.goto 4, 3) := by decide +kernel
theorem dX4_protect_34 : decode cX4_protect 34 = .ok (.iload_n 1, 1) := by decide +kernel
theorem dX4_protect_35 : decode cX4_protect 35 = .ok (.putfield 115, 3) := by decide +kernel
theorem dX4_protect_38 : decode cX4_protect 38 = .ok (.aload_n 0, 1) := by decide +kernel
theorem dX4_protect_39 : decode cX4_protect 39 = .ok (.iload_n 2, 1) := by decide +kernel
theorem dX4_protect_40 : decode cX4_protect 40 = .ok (.putfield 118, 3) := by decide +kernel
theorem dX4_protect_43 : decode cX4_protect 43 = .ok (.iconst 1, 1) := by decide +kernel
theorem dX4_protect_44 : decode cX4_protect 44 = .ok (.ireturn, 1) := by decide +kernel
theorem dX4_keep_0 : decode cX4_keep 0 = .ok (.aload_n 0, 1) := by decide +kernel
theorem dX4_keep_1 : decode cX4_keep 1 = .ok (.getfield 121, 3) := by decide +kernel
theorem dX4_keep_4 : decode cX4_keep 4 = .ok (.iconst 4, 1) := by decide +kernel
theorem dX4_keep_5 : decode cX4_keep 5 = .ok (.if_icmp .ne 6, 3) := by decide +kernel
theorem dX4_keep_8 : decode cX4_keep 8 = .ok (.bipush (-15), 2) := by decide +kernel
theorem dX4_keep_10 : decode cX4_keep 10 = .ok (.ireturn, 1) := by decide +kernel
theorem dX4_keep_11 : decode cX4_keep 11 = .ok (.iconst 0, 1) := by decide +kernel
theorem dX4_keep_12 : decode cX4_keep 12 = .ok (.istore_n 1, 1) := by decide +kernel
theorem dX4_keep_13 : decode cX4_keep 13 = .ok (.iload_n 1, 1) := by decide +kernel
theorem dX4_keep_14 : decode cX4_keep 14 = .ok (.sipush 8192, 3) := by decide +kernel
theorem dX4_keep_17 : decode cX4_keep 17 = .ok (.if_icmp .ge 42, 3) := by decide +kernel
theorem dX4_keep_20 : decode cX4_keep 20 = .ok (.aload_n 0, 1) := by decide +kernel
theorem dX4_keep_21 : decode cX4_keep 21 = .ok (.getfield 20, 3) := by decide +kernel
theorem dX4_keep_24 : decode cX4_keep 24 = .ok (.sipush 8192, 3) := by decide +kernel
theorem dX4_keep_27 : decode cX4_keep 27 = .ok (.aload_n 0, 1) := by decide +kernel
theorem dX4_keep_28 : decode cX4_keep 28 = .ok (.getfield 121, 3) := by decide +kernel
theorem dX4_keep_31 : decode cX4_keep 31 = .ok (.imul, 1) := by decide +kernel
theorem dX4_keep_32 : decode cX4_keep 32 = .ok (.iload_n 1, 1) := by decide +kernel
theorem dX4_keep_33 : decode cX4_keep 33 = .ok (.iadd, 1) := by decide +kernel
theorem dX4_keep_34 : decode cX4_keep 34 = .ok (.iload_n 1, 1) := by decide +kernel
theorem dX4_keep_35 : decode cX4_keep 35 = .ok (.aload_n 0, 1) := by decide +kernel
theorem dX4_keep_36 : decode cX4_keep 36 = .ok (.getfield 44, 3) := by decide +kernel
theorem dX4_keep_39 : decode cX4_keep 39 = .ok (.if_icmp .ge 12, 3) := by decide +kernel
theorem dX4_keep_42 : decode cX4_keep 42 = .ok (.aload_n 0, 1) := by decide +kernel
theorem dX4_keep_43 : decode cX4_keep 43 = .ok (.getfield 7, 3) := by decide +kernel
theorem dX4_keep_46 : decode cX4_keep 46 = .ok (.iload_n 1, 1) := by decide +kernel
theorem dX4_keep_47 : decode cX4_keep 47 = .ok (.iaload, 1) := by decide +kernel
theorem dX4_keep_48 : decode cX4_keep 48 = .ok (.goto 4, 3) := by decide +kernel
theorem dX4_keep_51 : decode cX4_keep 51 = .ok (.iconst 0, 1) := by decide +kernel
theorem dX4_keep_52 : decode cX4_keep 52 = .ok (.iastore, 1) := by decide +kernel
theorem dX4_keep_53 : decode cX4_keep 53 = .ok (.iinc 1 1, 3) := by decide +kernel
theorem dX4_keep_56 : decode cX4_keep 56 = .ok (.goto (-43), 3) := by decide +kernel
theorem dX4_keep_59 : decode cX4_keep 59 = .ok (.aload_n 0, 1) := by decide +kernel
theorem dX4_keep_60 : decode cX4_keep 60 = .ok (.getfield 23, 3) := by decide +kernel
theorem dX4_keep_63 : decode cX4_keep 63 = .ok (.aload_n 0, 1) := by decide +kernel
theorem dX4_keep_64 : decode cX4_keep 64 = .ok (.getfield 121, 3) := by decide +kernel
theorem dX4_keep_67 : decode cX4_keep 67 = .ok (.aload_n 0, 1) := by decide +kernel
theorem dX4_keep_68 : decode cX4_keep 68 = .ok (.getfield 44, 3) := by decide +kernel
theorem dX4_keep_71 : decode cX4_keep 71 = .ok (.iastore, 1) := by decide +kernel
theorem dX4_keep_72 : decode cX4_keep 72 = .ok (.aload_n 0, 1) := by decide +kernel
theorem dX4_keep_73 : decode cX4_keep 73 = .ok (.getfield 26, 3) := by decide +kernel
theorem dX4_keep_76 : decode cX4_keep 76 = .ok (.aload_n 0, 1) := by decide +kernel
theorem dX4_keep_77 : decode cX4_keep 77 = .ok (.getfield 121, 3) := by decide +kernel
theorem dX4_keep_80 : decode cX4_keep 80 = .ok (.aload_n 0, 1) := by decide +kernel
theorem dX4_keep_81 : decode cX4_keep 81 = .ok (.getfield 78, 3) := by decide +kernel
theorem dX4_keep_84 : decode cX4_keep 84 = .ok (.iastore, 1) := by decide +kernel
theorem dX4_keep_85 : decode cX4_keep 85 = .ok (.aload_n 0, 1) := by decide +kernel
theorem dX4_keep_86 : decode cX4_keep 86 = .ok (.getfield 29, 3) := by decide +kernel
theorem dX4_keep_89 : decode cX4_keep 89 = .ok (.aload_n 0, 1) := by decide +kernel
theorem dX4_keep_90 : decode cX4_keep 90 = .ok (.getfield 121, 3) := by decide +kernel
theorem dX4_keep_93 : decode cX4_keep 93 = .ok (.aload_n 0, 1) := by decide +kernel
theorem dX4_keep_94 : decode cX4_keep 94 = .ok (.getfield 71, 3) := by decide +kernel
theorem dX4_keep_97 : decode cX4_keep 97 = .ok (.iastore, 1) := by decide +kernel
theorem dX4_keep_98 : decode cX4_keep 98 = .ok (.iconst 0, 1) := by decide +kernel
theorem dX4_keep_99 : decode cX4_keep 99 = .ok (.istore_n 1, 1) := by decide +kernel
theorem dX4_keep_100 : decode cX4_keep 100 = .ok (.iload_n 1, 1) := by decide +kernel
theorem dX4_keep_101 : decode cX4_keep 101 = .ok (.aload_n 0, 1) := by decide +kernel
theorem dX4_keep_102 : decode cX4_keep 102 = .ok (.getfield 71, 3) := by decide +kernel
theorem dX4_keep_105 : decode cX4_keep 105 = .ok (.if_icmp .ge 49, 3) := by decide +kernel
theorem dX4_keep_108 : decode cX4_keep 108 = .ok (.aload_n 0, 1) := by decide +kernel
theorem dX4_keep_109 : decode cX4_keep 109 = .ok (.getfield 32, 3) := by decide +kernel
theorem dX4_keep_112 : decode cX4_keep 112 = .ok (.bipush 64, 2) := by decide +kernel
theorem dX4_keep_114 : decode cX4_keep 114 = .ok (.aload_n 0, 1) := by decide +kernel
theorem dX4_keep_115 : decode cX4_keep 115 = .ok (.getfield 121, 3) := by decide +kernel
theorem dX4_keep_118 : decode cX4_keep 118 = .ok (.imul, 1) := by decide +kernel
theorem dX4_keep_119 : decode cX4_keep 119 = .ok (.iload_n 1, 1) := by decide +kernel
theorem dX4_keep_120 : decode cX4_keep 120 = .ok (.iadd, 1) := by decide +kernel
theorem dX4_keep_121 : decode cX4_keep 121 = .ok (.aload_n 0, 1) := by decide +kernel
theorem dX4_keep_122 : decode cX4_keep 122 = .ok (.getfield 13, 3) := by decide +kernel
theorem dX4_keep_125 : decode cX4_keep 125 = .ok (.iload_n 1, 1) := by decide +kernel
theorem dX4_keep_126 : decode cX4_keep 126 = .ok (.iaload, 1) := by decide +kernel
theorem dX4_keep_127 : decode cX4_keep 127 = .ok (.iastore, 1) := by decide +kernel
theorem dX4_keep_128 : decode cX4_keep 128 = .ok (.aload_n 0, 1) := by decide +kernel
theorem dX4_keep_129 : decode cX4_keep 129 = .ok (.getfield 35, 3) := by decide +kernel
theorem dX4_keep_132 : decode cX4_keep 132 = .ok (.bipush 64, 2) := by decide +kernel
theorem dX4_keep_134 : decode cX4_keep 134 = .ok (.aload_n 0, 1) := by decide +kernel
theorem dX4_keep_135 : decode cX4_keep 135 = .ok (.getfield 121, 3) := by decide +kernel
theorem dX4_keep_138 : decode cX4_keep 138 = .ok (.imul, 1) := by decide +kernel
theorem dX4_keep_139 : decode cX4_keep 139 = .ok (.iload_n 1, 1) := by decide +kernel
theorem dX4_keep_140 : decode cX4_keep 140 = .ok (.iadd, 1) := by decide +kernel
theorem dX4_keep_141 : decode cX4_keep 141 = .ok (.aload_n 0, 1) := by decide +kernel
theorem dX4_keep_142 : decode cX4_keep 142 = .ok (.getfield 16, 3) := by decide +kernel
theorem dX4_keep_145 : decode cX4_keep 145 = .ok (.iload_n 1, 1) := by decide +kernel
theorem dX4_keep_146 : decode cX4_keep 146 = .ok (.iaload, 1) := by decide +kernel
theorem dX4_keep_147 : decode cX4_keep 147 = .ok (.iastore, 1) := by decide +kernel
theorem dX4_keep_148 : decode cX4_keep 148 = .ok (.iinc 1 1, 3) := by decide +kernel
theorem dX4_keep_151 : decode cX4_keep 151 = .ok (.goto (-51), 3) := by decide +kernel
theorem dX4_keep_154 : decode cX4_keep 154 = .ok (.aload_n 0, 1) := by decide +kernel
theorem dX4_keep_155 : decode cX4_keep 155 = .ok (.dup, 1) := by decide +kernel
theorem dX4_keep_156 : decode cX4_keep 156 = .ok (.getfield 121, 3) := by decide +kernel
theorem dX4_keep_159 : decode cX4_keep 159 = .ok (.iconst 1, 1) := by decide +kernel
theorem dX4_keep_160 : decode cX4_keep 160 = .ok (.iadd, 1) := by decide +kernel
theorem dX4_keep_161 : decode cX4_keep 161 = .ok (.putfield 121, 3) := by decide +kernel
theorem dX4_keep_164 : decode cX4_keep 164 = .ok (.aload_n 0, 1) := by decide +kernel
theorem dX4_keep_165 : decode cX4_keep 165 = .ok (.getfield 121, 3) := by decide +kernel
theorem dX4_keep_168 : decode cX4_keep 168 = .ok (.ireturn, 1) := by decide +kernel
theorem dX4_come_0 : decode cX4_come 0 = .ok (.aload_n 0, 1) := by decide +kernel
theorem dX4_come_1 : decode cX4_come 1 = .ok (.getfield 44, 3) := by decide +kernel
theorem dX4_come_4 : decode cX4_come 4 = .ok (.aload_n 0, 1) := by decide +kernel
theorem dX4_come_5 : decode cX4_come 5 = .ok (.getfield 23, 3) := by decide +kernel
theorem dX4_come_8 : decode cX4_come 8 = .ok (.iload_n 1, 1) := by decide +kernel
theorem dX4_come_9 : decode cX4_come 9 = .ok (.iaload, 1) := by decide +kernel
theorem dX4_come_10 : decode cX4_come 10 = .ok (.if_icmp .ge 10, 3) := by decide +kernel
theorem dX4_come_13 : decode cX4_come 13 = .ok (.aload_n 0, 1) := by decide +kernel
theorem dX4_come_14 : decode cX4_come 14 = .ok (.getfield 44, 3) := by decide +kernel
theorem dX4_come_17 : decode cX4_come 17 = .ok (.goto 9, 3) := by decide +kernel
theorem dX4_come_20 : decode cX4_come 20 = .ok (.aload_n 0, 1) := by decide +kernel
theorem dX4_come_21 : decode cX4_come 21 = .ok (.getfield 23, 3) := by decide +kernel
theorem dX4_come_24 : decode cX4_come 24 = .ok (.iload_n 1, 1) := by decide +kernel
theorem dX4_come_25 : decode cX4_come 25 = .ok (.iaload, 1) := by decide +kernel
theorem dX4_come_26 : decode cX4_come 26 = .ok (.istore_n 2, 1) := by decide +kernel
theorem dX4_come_27 : decode cX4_come 27 = .ok (.iconst 0, 1) := by decide +kernel
theorem dX4_come_28 : decode cX4_come 28 = .ok (.istore_n 3, 1) := by decide +kernel
theorem dX4_come_29 : decode cX4_come 29 = .ok (.iload_n 3, 1) := by decide +kernel
theorem dX4_come_30 : decode cX4_come 30 = .ok (.sipush 8192, 3) := by decide +kernel
theorem dX4_come_33 : decode cX4_come 33 = .ok (.if_icmp .ge 74, 3) := by decide +kernel
theorem dX4_come_36 : decode cX4_come 36 = .ok (.iload_n 3, 1) := by decide +kernel
theorem dX4_come_37 : decode cX4_come 37 = .ok (.aload_n 0, 1) := by decide +kernel
theorem dX4_come_38 : decode cX4_come 38 = .ok (.getfield 115, 3) := by decide +kernel
theorem dX4_come_41 : decode cX4_come 41 = .ok (.if_icmp .lt 25, 3) := by decide +kernel
theorem dX4_come_44 : decode cX4_come 44 = .ok (.iload_n 3, 1) := by decide +kernel
theorem dX4_come_45 : decode cX4_come 45 = .ok (.aload_n 0, 1) := by decide +kernel
theorem dX4_come_46 : decode cX4_come 46 = .ok (.getfield 115, 3) := by decide +kernel
theorem dX4_come_49 : decode cX4_come 49 = .ok (.aload_n 0, 1) := by decide +kernel
theorem dX4_come_50 : decode cX4_come 50 = .ok (.getfield 118, 3) := by decide +kernel
theorem dX4_come_53 : decode cX4_come 53 = .ok (.iadd, 1) := by decide +kernel
theorem dX4_come_54 : decode cX4_come 54 = .ok (.if_icmp .ge 12, 3) := by decide +kernel
theorem dX4_come_57 : decode cX4_come 57 = .ok (.iload_n 3, 1) := by decide +kernel
theorem dX4_come_58 : decode cX4_come 58 = .ok (.iload_n 2, 1) := by decide +kernel
theorem dX4_come_59 : decode cX4_come 59 = .ok (.if_icmp .ge 7, 3) := by decide +kernel
theorem dX4_come_62 : decode cX4_come 62 = .ok (.iconst 1, 1) := by decide +kernel
theorem dX4_come_63 : decode cX4_come 63 = .ok (.goto 4, 3) := by decide +kernel
theorem dX4_come_66 : decode cX4_come 66 = .ok (.iconst 0, 1) := by decide +kernel
theorem dX4_come_67 : decode cX4_come 67 = .ok (.istore 4, 2) := by decide +kernel
theorem dX4_come_69 : decode cX4_come 69 = .ok (.aload_n 0, 1) := by decide +kernel
theorem dX4_come_70 : decode cX4_come 70 = .ok (.getfield 7, 3) := by decide +kernel
theorem dX4_come_73 : decode cX4_come 73 = .ok (.iload_n 3, 1) := by decide +kernel
theorem dX4_come_74 : decode cX4_come 74 = .ok (.iload 4, 2) := by decide +kernel
theorem dX4_come_76 : decode cX4_come 76 = .ok (.ifCond .eq 12, 3) := by decide +kernel
theorem dX4_come_79 : decode cX4_come 79 = .ok (.aload_n 0, 1) := by decide +kernel
theorem dX4_come_80 : decode cX4_come 80 = .ok (.getfield 7, 3) := by decide +kernel
theorem dX4_come_83 : decode cX4_come 83 = .ok (.iload_n 3, 1) := by decide +kernel
theorem dX4_come_84 : decode cX4_come 84 = .ok (.iaload, 1) := by decide +kernel
theorem dX4_come_85 : decode cX4_come 85 = .ok (.goto 15, 3) := by decide +kernel
theorem dX4_come_88 : decode cX4_come 88 = .ok (.aload_n 0, 1) := by decide +kernel
theorem dX4_come_89 : decode cX4_come 89 = .ok (.getfield 20, 3) := by decide +kernel
theorem dX4_come_92 : decode cX4_come 92 = .ok (.sipush 8192, 3) := by decide +kernel
theorem dX4_come_95 : decode cX4_come 95 = .ok (.iload_n 1, 1) := by decide +kernel
theorem dX4_come_96 : decode cX4_come 96 = .ok (.imul, 1) := by decide +kernel
theorem dX4_come_97 : decode cX4_come 97 = .ok (.iload_n 3, 1) := by decide +kernel
theorem dX4_come_98 : decode cX4_come 98 = .ok (.iadd, 1) := by decide +kernel
theorem dX4_come_99 : decode cX4_come 99 = .ok (.iaload, 1) := by decide +kernel
theorem dX4_come_100 : decode cX4_come 100 = .ok (.iastore, 1) := by decide +kernel
theorem dX4_come_101 : decode cX4_come 101 = .ok (.iinc 3 1, 3) := by decide +kernel
theorem dX4_come_104 : decode cX4_come 104 = .ok (.goto (-75), 3) := by decide +kernel
theorem dX4_come_107 : decode cX4_come 107 = .ok (.aload_n 0, 1) := by decide +kernel
theorem dX4_come_108 : decode cX4_come 108 = .ok (.aload_n 0, 1) := by decide +kernel
theorem dX4_come_109 : decode cX4_come 109 = .ok (.getfield 23, 3) := by decide +kernel
theorem dX4_come_112 : decode cX4_come 112 = .ok (.iload_n 1, 1) := by decide +kernel
theorem dX4_come_113 : decode cX4_come 113 = .ok (.iaload, 1) := by decide +kernel
theorem dX4_come_114 : decode cX4_come 114 = .ok (.putfield 44, 3) := by decide +kernel
theorem dX4_come_117 : decode cX4_come 117 = .ok (.aload_n 0, 1) := by decide +kernel
theorem dX4_come_118 : decode cX4_come 118 = .ok (.aload_n 0, 1) := by decide +kernel
theorem dX4_come_119 : decode cX4_come 119 = .ok (.getfield 26, 3) := by decide +kernel
theorem dX4_come_122 : decode cX4_come 122 = .ok (.iload_n 1, 1) := by decide +kernel
theorem dX4_come_123 : decode cX4_come 123 = .ok (.iaload, 1) := by decide +kernel
theorem dX4_come_124 : decode cX4_come 124 = .ok (.putfield 78, 3) := by decide +kernel
theorem dX4_come_127 : decode cX4_come 127 = .ok (.aload_n 0, 1) := by decide +kernel
theorem dX4_come_128 : decode cX4_come 128 = .ok (.aload_n 0, 1) := by decide +kernel
theorem dX4_come_129 : decode cX4_come 129 = .ok (.getfield 29, 3) := by decide +kernel
theorem dX4_come_132 : decode cX4_come 132 = .ok (.iload_n 1, 1) := by decide +kernel
theorem dX4_come_133 : decode cX4_come 133 = .ok (.iaload, 1) := by decide +kernel
theorem dX4_come_134 : decode cX4_come 134 = .ok (.putfield 71, 3) := by decide +kernel
theorem dX4_come_137 : decode cX4_come 137 = .ok (.iconst 0, 1) := by decide +kernel
theorem dX4_come_138 : decode cX4_come 138 = .ok (.istore_n 3, 1) := by decide +kernel
theorem dX4_come_139 : decode cX4_come 139 = .ok (.iload_n 3, 1) := by decide +kernel
theorem dX4_come_140 : decode cX4_come 140 = .ok (.aload_n 0, 1) := by decide +kernel
theorem dX4_come_141 : decode cX4_come 141 = .ok (.getfield 71, 3) := by decide +kernel
theorem dX4_come_144 : decode cX4_come 144 = .ok (.if_icmp .ge 43, 3) := by decide +kernel
theorem dX4_come_147 : decode cX4_come 147 = .ok (.aload_n 0, 1) := by decide +kernel
theorem dX4_come_148 : decode cX4_come 148 = .ok (.getfield 13, 3) := by decide +kernel
theorem dX4_come_151 : decode cX4_come 151 = .ok (.iload_n 3, 1) := by decide +kernel
theorem dX4_come_152 : decode cX4_come 152 = .ok (.aload_n 0, 1) := by decide +kernel
theorem dX4_come_153 : decode cX4_come 153 = .ok (.getfield 32, 3) := by decide +kernel
theorem dX4_come_156 : decode cX4_come 156 = .ok (.bipush 64, 2) := by decide +kernel
theorem dX4_come_158 : decode cX4_come 158 = .ok (.iload_n 1, 1) := by decide +kernel
theorem dX4_come_159 : decode cX4_come 159 = .ok (.imul, 1) := by decide +kernel
theorem dX4_come_160 : decode cX4_come 160 = .ok (.iload_n 3, 1) := by decide +kernel
theorem dX4_come_161 : decode cX4_come 161 = .ok (.iadd, 1) := by decide +kernel
theorem dX4_come_162 : decode cX4_come 162 = .ok (.iaload, 1) := by decide +kernel
theorem dX4_come_163 : decode cX4_come 163 = .ok (.iastore, 1) := by decide +kernel
theorem dX4_come_164 : decode cX4_come 164 = .ok (.aload_n 0, 1) := by decide +kernel
theorem dX4_come_165 : decode cX4_come 165 = .ok (.getfield 16, 3) := by decide +kernel
theorem dX4_come_168 : decode cX4_come 168 = .ok (.iload_n 3, 1) := by decide +kernel
theorem dX4_come_169 : decode cX4_come 169 = .ok (.aload_n 0, 1) := by decide +kernel
theorem dX4_come_170 : decode cX4_come 170 = .ok (.getfield 35, 3) := by decide +kernel
theorem dX4_come_173 : decode cX4_come 173 = .ok (.bipush 64, 2) := by decide +kernel
theorem dX4_come_175 : decode cX4_come 175 = .ok (.iload_n 1, 1) := by decide +kernel
theorem dX4_come_176 : decode cX4_come 176 = .ok (.imul, 1) := by decide +kernel
theorem dX4_come_177 : decode cX4_come 177 = .ok (.iload_n 3, 1) := by decide +kernel
theorem dX4_come_178 : decode cX4_come 178 = .ok (.iadd, 1) := by decide +kernel
theorem dX4_come_179 : decode cX4_come 179 = .ok (.iaload, 1) := by decide +kernel
theorem dX4_come_180 : decode cX4_come 180 = .ok (.iastore, 1) := by decide +kernel
theorem dX4_come_181 : decode cX4_come 181 = .ok (.iinc 3 1, 3) := by decide +kernel
theorem dX4_come_184 : decode cX4_come 184 = .ok (.goto (-45), 3) := by decide +kernel
theorem dX4_come_187 : decode cX4_come 187 = .ok (.return_, 1) := by decide +kernel
set_option maxRecDepth 20000 in
theorem ggX4_back_X4_come : GoodIn wsX4_back wsX4_come := goodIn_r _ [6, 7, 8, 9, 10, 11, 12, 13, 14, 15, 16, 17, 18, 19, 20, 21, 22, 23, 24, 25, 26, 27, 28, 29, 30, 31, 32, 33, 34, 35, 36, 37, 38] (by decide +kernel) (by decide +kernel)
set_option maxRecDepth 20000 in
theorem gX4_back_X4_come : GoodIn wsX4_back (wsV RX4 124 RX4 yX4_come wsX4_come) := goodIn_app (goodIn_of _ (by decide +kernel)) ggX4_back_X4_come
theorem dX4_back_0 : decode cX4_back 0 = .ok (.aload_n 0, 1) := by decide +kernel
theorem dX4_back_1 : decode cX4_back 1 = .ok (.getfield 121, 3) := by decide +kernel
theorem dX4_back_4 : decode cX4_back 4 = .ok (.ifCond .ne 6, 3) := by decide +kernel
theorem dX4_back_7 : decode cX4_back 7 = .ok (.bipush (-11), 2) := by decide +kernel
theorem dX4_back_9 : decode cX4_back 9 = .ok (.ireturn, 1) := by decide +kernel
theorem dX4_back_10 : decode cX4_back 10 = .ok (.aload_n 0, 1) := by decide +kernel
theorem dX4_back_11 : decode cX4_back 11 = .ok (.dup, 1) := by decide +kernel
theorem dX4_back_12 : decode cX4_back 12 = .ok (.getfield 121, 3) := by decide +kernel
theorem dX4_back_15 : decode cX4_back 15 = .ok (.iconst 1, 1) := by decide +kernel
theorem dX4_back_16 : decode cX4_back 16 = .ok (.isub, 1) := by decide +kernel
theorem dX4_back_17 : decode cX4_back 17 = .ok (.putfield 121, 3) := by decide +kernel
theorem dX4_back_20 : decode cX4_back 20 = .ok (.aload_n 0, 1) := by decide +kernel
theorem dX4_back_21 : decode cX4_back 21 = .ok (.aload_n 0, 1) := by decide +kernel
theorem dX4_back_22 : decode cX4_back 22 = .ok (.getfield 121, 3) := by decide +kernel
theorem dX4_back_25 : decode cX4_back 25 = .ok (.invokevirtual 124, 3) := by decide +kernel
theorem dX4_back_28 : decode cX4_back 28 = .ok (.aload_n 0, 1) := by decide +kernel
theorem dX4_back_29 : decode cX4_back 29 = .ok (.getfield 121, 3) := by decide +kernel
theorem dX4_back_32 : decode cX4_back 32 = .ok (.ireturn, 1) := by decide +kernel
set_option maxRecDepth 20000 in
theorem ggX4_restart_X4_first : GoodIn wsX4_restart wsX4_first := goodIn_r _ [9] (by decide +kernel) (by decide +kernel)
set_option maxRecDepth 20000 in
theorem gX4_restart_X4_first : GoodIn wsX4_restart (va_wsS RX4 48 yX4_first wsX4_first) := goodIn_app (goodIn_of _ (by decide +kernel)) ggX4_restart_X4_first
set_option maxRecDepth 20000 in
theorem ggX4_restart_X4_come : GoodIn wsX4_restart wsX4_come := goodIn_r _ [13, 14, 3, 15, 16, 17, 1, 4, 18, 5, 19, 20, 21, 22, 23, 24, 25, 26, 27, 28, 29, 30, 31, 32, 33, 34, 35, 36, 37, 38, 39, 40, 41] (by decide +kernel) (by decide +kernel)
set_option maxRecDepth 20000 in
theorem gX4_restart_X4_come : GoodIn wsX4_restart (wsV RX4 124 RX4 yX4_come wsX4_come) := goodIn_app (goodIn_of _ (by decide +kernel)) ggX4_restart_X4_come
theorem dX4_restart_0 : decode cX4_restart 0 = .ok (.iconst 0, 1) := by decide +kernel
theorem dX4_restart_1 : decode cX4_restart 1 = .ok (.istore_n 1, 1) := by decide +kernel
theorem dX4_restart_2 : decode cX4_restart 2 = .ok (.iload_n 1, 1) := by decide +kernel
theorem dX4_restart_3 : decode cX4_restart 3 = .ok (.sipush 8192, 3) := by decide +kernel
theorem dX4_restart_6 : decode cX4_restart 6 = .ok (.if_icmp .ge 22, 3) := by decide +kernel
theorem dX4_restart_9 : decode cX4_restart 9 = .ok (.aload_n 0, 1) := by decide +kernel
theorem dX4_restart_10 : decode cX4_restart 10 = .ok (.getfield 20, 3) := by decide +kernel
theorem dX4_restart_13 : decode cX4_restart 13 = .ok (.ldc 127, 2) := by decide +kernel
theorem dX4_restart_15 : decode cX4_restart 15 = .ok (.iload_n 1, 1) := by decide +kernel
theorem dX4_restart_16 : decode cX4_restart 16 = .ok (.iadd, 1) := by decide +kernel
theorem dX4_restart_17 : decode cX4_restart 17 = .ok (.iload_n 1, 1) := by decide +kernel
theorem dX4_restart_18 : decode cX4_restart 18 = .ok (.invokestatic 48, 3) := by decide +kernel
theorem dX4_restart_21 : decode cX4_restart 21 = .ok (.iastore, 1) := by decide +kernel
theorem dX4_restart_22 : decode cX4_restart 22 = .ok (.iinc 1 1, 3) := by decide +kernel
theorem dX4_restart_25 : decode cX4_restart 25 = .ok (.goto (-23), 3) := by decide +kernel
theorem dX4_restart_28 : decode cX4_restart 28 = .ok (.aload_n 0, 1) := by decide +kernel
theorem dX4_restart_29 : decode cX4_restart 29 = .ok (.getfield 23, 3) := by decide +kernel
theorem dX4_restart_32 : decode cX4_restart 32 = .ok (.iconst 4, 1) := by decide +kernel
theorem dX4_restart_33 : decode cX4_restart 33 = .ok (.sipush 1024, 3) := by decide +kernel
theorem dX4_restart_36 : decode cX4_restart 36 = .ok (.iastore, 1) := by decide +kernel
theorem dX4_restart_37 : decode cX4_restart 37 = .ok (.aload_n 0, 1) := by decide +kernel
theorem dX4_restart_38 : decode cX4_restart 38 = .ok (.getfield 26, 3) := by decide +kernel
theorem dX4_restart_41 : decode cX4_restart 41 = .ok (.iconst 4, 1) := by decide +kernel
theorem dX4_restart_42 : decode cX4_restart 42 = .ok (.iconst 0, 1) := by decide +kernel
theorem dX4_restart_43 : decode cX4_restart 43 = .ok (.iastore, 1) := by decide +kernel
theorem dX4_restart_44 : decode cX4_restart 44 = .ok (.aload_n 0, 1) := by decide +kernel
theorem dX4_restart_45 : decode cX4_restart 45 = .ok (.getfield 29, 3) := by decide +kernel
theorem dX4_restart_48 : decode cX4_restart 48 = .ok (.iconst 4, 1) := by decide +kernel
theorem dX4_restart_49 : decode cX4_restart 49 = .ok (.iconst 0, 1) := by decide +kernel
theorem dX4_restart_50 : decode cX4_restart 50 = .ok (.iastore, 1) := by decide +kernel
theorem dX4_restart_51 : decode cX4_restart 51 = .ok (.aload_n 0, 1) := by decide +kernel
theorem dX4_restart_52 : decode cX4_restart 52 = .ok (.iconst 4, 1) := by decide +kernel
theorem dX4_restart_53 : decode cX4_restart 53 = .ok (.invokevirtual 124, 3) := by decide +kernel
theorem dX4_restart_56 : decode cX4_restart 56 = .ok (.iconst 1, 1) := by decide +kernel
theorem dX4_restart_57 : decode cX4_restart 57 = .ok (.ireturn, 1) := by decide +kernel
theorem dX4_same_0 : decode cX4_same 0 = .ok (.aload_n 0, 1) := by decide +kernel
theorem dX4_same_1 : decode cX4_same 1 = .ok (.getfield 121, 3) := by decide +kernel
theorem dX4_same_4 : decode cX4_same 4 = .ok (.ifCond .ne 6, 3) := by decide +kernel
theorem dX4_same_7 : decode cX4_same 7 = .ok (.bipush (-11), 2) := by decide +kernel
theorem dX4_same_9 : decode cX4_same 9 = .ok (.ireturn, 1) := by decide +kernel
theorem dX4_same_10 : decode cX4_same 10 = .ok (.aload_n 0, 1) := by decide +kernel
theorem dX4_same_11 : decode cX4_same 11 = .ok (.getfield 121, 3) := by decide +kernel
theorem dX4_same_14 : decode cX4_same 14 = .ok (.iconst 1, 1) := by decide +kernel
theorem dX4_same_15 : decode cX4_same 15 = .ok (.isub, 1) := by decide +kernel
theorem dX4_same_16 : decode cX4_same 16 = .ok (.istore_n 1, 1) := by decide +kernel
theorem dX4_same_17 : decode cX4_same 17 = .ok (.aload_n 0, 1) := by decide +kernel
theorem dX4_same_18 : decode cX4_same 18 = .ok (.getfield 44, 3) := by decide +kernel
theorem dX4_same_21 : decode cX4_same 21 = .ok (.aload_n 0, 1) := by decide +kernel
theorem dX4_same_22 : decode cX4_same 22 = .ok (.getfield 23, 3) := by decide +kernel
theorem dX4_same_25 : decode cX4_same 25 = .ok (.iload_n 1, 1) := by decide +kernel
theorem dX4_same_26 : decode cX4_same 26 = .ok (.iaload, 1) := by decide +kernel
theorem dX4_same_27 : decode cX4_same 27 = .ok (.if_icmp .ne 33, 3) := by decide +kernel
theorem dX4_same_30 : decode cX4_same 30 = .ok (.aload_n 0, 1) := by decide +kernel
theorem dX4_same_31 : decode cX4_same 31 = .ok (.getfield 78, 3) := by decide +kernel
theorem dX4_same_34 : decode cX4_same 34 = .ok (.aload_n 0, 1) := by decide +kernel
theorem dX4_same_35 : decode cX4_same 35 = .ok (.getfield 26, 3) := by decide +kernel
theorem dX4_same_38 : decode cX4_same 38 = .ok (.iload_n 1, 1) := by decide +kernel
theorem dX4_same_39 : decode cX4_same 39 = .ok (.iaload, 1) := by decide +kernel
theorem dX4_same_40 : decode cX4_same 40 = .ok (.if_icmp .ne 20, 3) := by decide +kernel
theorem dX4_same_43 : decode cX4_same 43 = .ok (.aload_n 0, 1) := by decide +kernel
theorem dX4_same_44 : decode cX4_same 44 = .ok (.getfield 71, 3) := by decide +kernel
theorem dX4_same_47 : decode cX4_same 47 = .ok (.aload_n 0, 1) := by decide +kernel
theorem dX4_same_48 : decode cX4_same 48 = .ok (.getfield 29, 3) := by decide +kernel
theorem dX4_same_51 : decode cX4_same 51 = .ok (.iload_n 1, 1) := by decide +kernel
theorem dX4_same_52 : decode cX4_same 52 = .ok (.iaload, 1) := by decide +kernel
theorem dX4_same_53 : decode cX4_same 53 = .ok (.if_icmp .ne 7, 3) := by decide +kernel
theorem dX4_same_56 : decode cX4_same 56 = .ok (.iconst 1, 1) := by decide +kernel
theorem dX4_same_57 : decode cX4_same 57 = .ok (.goto 4, 3) := by decide +kernel
theorem dX4_same_60 : decode cX4_same 60 = .ok (.iconst 0, 1) := by decide +kernel
theorem dX4_same_61 : decode cX4_same 61 = .ok (.istore_n 2, 1) := by decide +kernel
theorem dX4_same_62 : decode cX4_same 62 = .ok (.iconst 0, 1) := by decide +kernel
theorem dX4_same_63 : decode cX4_same 63 = .ok (.istore_n 3, 1) := by decide +kernel
theorem dX4_same_64 : decode cX4_same 64 = .ok (.iload_n 3, 1) := by decide +kernel
theorem dX4_same_65 : decode cX4_same 65 = .ok (.aload_n 0, 1) := by decide +kernel
theorem dX4_same_66 : decode cX4_same 66 = .ok (.getfield 44, 3) := by decide +kernel
theorem dX4_same_69 : decode cX4_same 69 = .ok (.if_icmp .ge 40, 3) := by decide +kernel
theorem dX4_same_72 : decode cX4_same 72 = .ok (.iload_n 2, 1) := by decide +kernel
theorem dX4_same_73 : decode cX4_same 73 = .ok (.ifCond .eq 36, 3) := by decide +kernel
theorem dX4_same_76 : decode cX4_same 76 = .ok (.aload_n 0, 1) := by decide +kernel
theorem dX4_same_77 : decode cX4_same 77 = .ok (.getfield 7, 3) := by decide +kernel
theorem dX4_same_80 : decode cX4_same 80 = .ok (.iload_n 3, 1) := by decide +kernel
theorem dX4_same_81 : decode cX4_same 81 = .ok (.iaload, 1) := by decide +kernel
theorem dX4_same_82 : decode cX4_same 82 = .ok (.aload_n 0, 1) := by decide +kernel
theorem dX4_same_83 : decode cX4_same 83 = .ok (.getfield 20, 3) := by decide +kernel
theorem dX4_same_86 : decode cX4_same 86 = .ok (.sipush 8192, 3) := by decide +kernel
theorem dX4_same_89 : decode cX4_same 89 = .ok (.iload_n 1, 1) := by decide +kernel
theorem dX4_same_90 : decode cX4_same 90 = .ok (.imul, 1) := by decide +kernel
theorem dX4_same_91 : decode cX4_same 91 = .ok (.iload_n 3, 1) := by decide +kernel
theorem dX4_same_92 : decode cX4_same 92 = .ok (.iadd, 1) := by decide +kernel
theorem dX4_same_93 : decode cX4_same 93 = .ok (.iaload, 1) := by decide +kernel
theorem dX4_same_94 : decode cX4_same 94 = .ok (.if_icmp .ne 7, 3) := by decide +kernel
theorem dX4_same_97 : decode cX4_same 97 = .ok (.iconst 1, 1) := by decide +kernel
theorem dX4_same_98 : decode cX4_same 98 = .ok (.goto 4, 3) := by decide +kernel
theorem dX4_same_101 : decode cX4_same 101 = .ok (.iconst 0, 1) := by decide +kernel
theorem dX4_same_102 : decode cX4_same 102 = .ok (.istore_n 2, 1) := by decide +kernel
theorem dX4_same_103 : decode cX4_same 103 = .ok (.iinc 3 1, 3) := by decide +kernel
theorem dX4_same_106 : decode cX4_same 106 = .ok (.goto (-42), 3) := by decide +kernel
theorem dX4_same_109 : decode cX4_same 109 = .ok (.iconst 0, 1) := by decide +kernel
theorem dX4_same_110 : decode cX4_same 110 = .ok (.istore_n 3, 1) := by decide +kernel
theorem dX4_same_111 : decode cX4_same 111 = .ok (.iload_n 3, 1) := by decide +kernel
theorem dX4_same_112 : decode cX4_same 112 = .ok (.aload_n 0, 1) := by decide +kernel
theorem dX4_same_113 : decode cX4_same 113 = .ok (.getfield 71, 3) := by decide +kernel
theorem dX4_same_116 : decode cX4_same 116 = .ok (.if_icmp .ge 59, 3) := by decide +kernel
theorem dX4_same_119 : decode cX4_same 119 = .ok (.iload_n 2, 1) := by decide +kernel
theorem dX4_same_120 : decode cX4_same 120 = .ok (.ifCond .eq 55, 3) := by decide +kernel
theorem dX4_same_123 : decode cX4_same 123 = .ok (.aload_n 0, 1) := by decide +kernel
theorem dX4_same_124 : decode cX4_same 124 = .ok (.getfield 13, 3) := by decide +kernel
theorem dX4_same_127 : decode cX4_same 127 = .ok (.iload_n 3, 1) := by decide +kernel
theorem dX4_same_128 : decode cX4_same 128 = .ok (.iaload, 1) := by decide +kernel
theorem dX4_same_129 : decode cX4_same 129 = .ok (.aload_n 0, 1) := by decide +kernel
theorem dX4_same_130 : decode cX4_same 130 = .ok (.getfield 32, 3) := by decide +kernel
theorem dX4_same_133 : decode cX4_same 133 = .ok (.bipush 64, 2) := by decide +kernel
theorem dX4_same_135 : decode cX4_same 135 = .ok (.iload_n 1, 1) := by decide +kernel
theorem dX4_same_136 : decode cX4_same 136 = .ok (.imul, 1) := by decide +kernel
theorem dX4_same_137 : decode cX4_same 137 = .ok (.iload_n 3, 1) := by decide +kernel
theorem dX4_same_138 : decode cX4_same 138 = .ok (.iadd, 1) := by decide +kernel
theorem dX4_same_139 : decode cX4_same 139 = .ok (.iaload, 1) := by decide +kernel
theorem dX4_same_140 : decode cX4_same 140 = .ok (.if_icmp .ne 27, 3) := by decide +kernel
theorem dX4_same_143 : decode cX4_same 143 = .ok (.aload_n 0, 1) := by decide +kernel
theorem dX4_same_144 : decode cX4_same 144 = .ok (.getfield 16, 3) := by decide +kernel
theorem dX4_same_147 : decode cX4_same 147 = .ok (.iload_n 3, 1) := by decide +kernel
theorem dX4_same_148 : decode cX4_same 148 = .ok (.iaload, 1) := by decide +kernel
theorem dX4_same_149 : decode cX4_same 149 = .ok (.aload_n 0, 1) := by decide +kernel
theorem dX4_same_150 : decode cX4_same 150 = .ok (.getfield 35, 3) := by decide +kernel
theorem dX4_same_153 : decode cX4_same 153 = .ok (.bipush 64, 2) := by decide +kernel
theorem dX4_same_155 : decode cX4_same 155 = .ok (.iload_n 1, 1) := by decide +kernel
theorem dX4_same_156 : decode cX4_same 156 = .ok (.imul, 1) := by decide +kernel
theorem dX4_same_157 : decode cX4_same 157 = .ok (.iload_n 3, 1) := by decide +kernel
theorem dX4_same_158 : decode cX4_same 158 = .ok (.iadd, 1) := by decide +kernel
theorem dX4_same_159 : decode cX4_same 159 = .ok (.iaload, 1) := by decide +kernel
theorem dX4_same_160 : decode cX4_same 160 = .ok (.if_icmp .ne 7, 3) := by decide +kernel
theorem dX4_same_163 : decode cX4_same 163 = .ok (.iconst 1, 1) := by decide +kernel
theorem dX4_same_164 : decode cX4_same 164 = .ok (.goto 4, 3) := by decide +kernel
theorem dX4_same_167 : decode cX4_same 167 = .ok (.iconst 0, 1) := by decide +kernel
theorem dX4_same_168 : decode cX4_same 168 = .ok (.istore_n 2, 1) := by decide +kernel
theorem dX4_same_169 : decode cX4_same 169 = .ok (.iinc 3 1, 3) := by decide +kernel
theorem dX4_same_172 : decode cX4_same 172 = .ok (.goto (-61), 3) := by decide +kernel
theorem dX4_same_175 : decode cX4_same 175 = .ok (.iload_n 2, 1) := by decide +kernel
theorem dX4_same_176 : decode cX4_same 176 = .ok (.ifCond .eq 7, 3) := by decide +kernel
theorem dX4_same_179 : decode cX4_same 179 = .ok (.iconst 1, 1) := by decide +kernel
theorem dX4_same_180 : decode cX4_same 180 = .ok (.goto 4, 3) := by decide +kernel
theorem dX4_same_183 : decode cX4_same 183 = .ok (.iconst 0, 1) := by decide +kernel
theorem dX4_same_184 : decode cX4_same 184 = .ok (.ireturn, 1) := by decide +kernel
theorem dX4_put_0 : decode cX4_put 0 = .ok (.aload_n 0, 1) := by decide +kernel
theorem dX4_put_1 : decode cX4_put 1 = .ok (.getfield 38, 3) := by decide +kernel
theorem dX4_put_4 : decode cX4_put 4 = .ok (.aload_n 0, 1) := by decide +kernel
theorem dX4_put_5 : decode cX4_put 5 = .ok (.getfield 128, 3) := by decide +kernel
theorem dX4_put_8 : decode cX4_put 8 = .ok (.iload_n 1, 1) := by decide +kernel
theorem dX4_put_9 : decode cX4_put 9 = .ok (.sipush 255, 3) := by decide +kernel
theorem dX4_put_12 : decode cX4_put 12 = .ok (.iand, 1) := by decide +kernel
theorem dX4_put_13 : decode cX4_put 13 = .ok (.iastore, 1) := by decide +kernel
theorem dX4_put_14 : decode cX4_put 14 = .ok (.aload_n 0, 1) := by decide +kernel
theorem dX4_put_15 : decode cX4_put 15 = .ok (.dup, 1) := by decide +kernel
theorem dX4_put_16 : decode cX4_put 16 = .ok (.getfield 128, 3) := by decide +kernel
theorem dX4_put_19 : decode cX4_put 19 = .ok (.iconst 1, 1) := by decide +kernel
theorem dX4_put_20 : decode cX4_put 20 = .ok (.iadd, 1) := by decide +kernel
theorem dX4_put_21 : decode cX4_put 21 = .ok (.putfield 128, 3) := by decide +kernel
theorem dX4_put_24 : decode cX4_put 24 = .ok (.return_, 1) := by decide +kernel
set_option maxRecDepth 20000 in
theorem ggX4_putTwo_X4_put : GoodIn wsX4_putTwo wsX4_put := goodIn_r _ [5, 6, 7, 8, 9, 10, 11, 12, 13, 14, 15, 16, 17, 18, 19, 20, 21, 22, 23, 24, 25] (by decide +kernel) (by decide +kernel)
set_option maxRecDepth 20000 in
theorem gX4_putTwo_X4_put : GoodIn wsX4_putTwo (wsV RX4 131 RX4 yX4_put wsX4_put) := goodIn_app (goodIn_of _ (by decide +kernel)) ggX4_putTwo_X4_put
theorem dX4_putTwo_0 : decode cX4_putTwo 0 = .ok (.aload_n 0, 1) := by decide +kernel
theorem dX4_putTwo_1 : decode cX4_putTwo 1 = .ok (.iload_n 1, 1) := by decide +kernel
theorem dX4_putTwo_2 : decode cX4_putTwo 2 = .ok (.bipush 8, 2) := by decide +kernel
theorem dX4_putTwo_4 : decode cX4_putTwo 4 = .ok (.ishr, 1) := by decide +kernel
theorem dX4_putTwo_5 : decode cX4_putTwo 5 = .ok (.invokevirtual 131, 3) := by decide +kernel
theorem dX4_putTwo_8 : decode cX4_putTwo 8 = .ok (.aload_n 0, 1) := by decide +kernel
theorem dX4_putTwo_9 : decode cX4_putTwo 9 = .ok (.iload_n 1, 1) := by decide +kernel
theorem dX4_putTwo_10 : decode cX4_putTwo 10 = .ok (.invokevirtual 131, 3) := by decide +kernel
theorem dX4_putTwo_13 : decode cX4_putTwo 13 = .ok (.return_, 1) := by decide +kernel
set_option maxRecDepth 20000 in
theorem ggX4_write_X4_putTwo : GoodIn wsX4_write wsX4_putTwo := goodIn_r _ [12, 13, 14, 15, 11, 16, 17, 1, 21, 22, 23, 24, 25, 26, 27, 28, 29, 30, 31, 32, 33, 34, 35, 36, 37, 38] (by decide +kernel) (by decide +kernel)
set_option maxRecDepth 20000 in
theorem gX4_write_X4_putTwo : GoodIn wsX4_write (wsV RX4 134 RX4 yX4_putTwo wsX4_putTwo) := goodIn_app (goodIn_of _ (by decide +kernel)) ggX4_write_X4_putTwo
set_option maxRecDepth 20000 in
theorem ggX4_write_X4_first : GoodIn wsX4_write wsX4_first := goodIn_r _ [20] (by decide +kernel) (by decide +kernel)
set_option maxRecDepth 20000 in
theorem gX4_write_X4_first : GoodIn wsX4_write (va_wsS RX4 48 yX4_first wsX4_first) := goodIn_app (goodIn_of _ (by decide +kernel)) ggX4_write_X4_first
set_option maxRecDepth 20000 in
theorem ggX4_write_X4_put : GoodIn wsX4_write wsX4_put := goodIn_r _ [16, 17, 1, 21, 22, 23, 24, 25, 26, 27, 28, 29, 30, 31, 32, 33, 34, 35, 36, 37, 38] (by decide +kernel) (by decide +kernel)
set_option maxRecDepth 20000 in
theorem gX4_write_X4_put : GoodIn wsX4_write (wsV RX4 131 RX4 yX4_put wsX4_put) := goodIn_app (goodIn_of _ (by decide +kernel)) ggX4_write_X4_put
theorem dX4_write_0 : decode cX4_write 0 = .ok (.aload_n 0, 1) := by decide +kernel
theorem dX4_write_1 : decode cX4_write 1 = .ok (.iconst 0, 1) := by decide +kernel
theorem dX4_write_2 : decode cX4_write 2 = .ok (.putfield 128, 3) := by decide +kernel
theorem dX4_write_5 : decode cX4_write 5 = .ok (.aload_n 0, 1) := by decide +kernel
theorem dX4_write_6 : decode cX4_write 6 = .ok (.aload_n 0, 1) := by decide +kernel
theorem dX4_write_7 : decode cX4_write 7 = .ok (.getfield 44, 3) := by decide +kernel
theorem dX4_write_10 : decode cX4_write 10 = .ok (.invokevirtual 134, 3) := by decide +kernel
theorem dX4_write_13 : decode cX4_write 13 = .ok (.aload_n 0, 1) := by decide +kernel
theorem dX4_write_14 : decode cX4_write 14 = .ok (.aload_n 0, 1) := by decide +kernel
theorem dX4_write_15 : decode cX4_write 15 = .ok (.getfield 78, 3) := by decide +kernel
theorem dX4_write_18 : decode cX4_write 18 = .ok (.invokevirtual 134, 3) := by decide +kernel
theorem dX4_write_21 : decode cX4_write 21 = .ok (.aload_n 0, 1) := by decide +kernel
theorem dX4_write_22 : decode cX4_write 22 = .ok (.aload_n 0, 1) := by decide +kernel
theorem dX4_write_23 : decode cX4_write 23 = .ok (.getfield 71, 3) := by decide +kernel
theorem dX4_write_26 : decode cX4_write 26 = .ok (.invokevirtual 134, 3) := by decide +kernel
theorem dX4_write_29 : decode cX4_write 29 = .ok (.iconst 0, 1) := by decide +kernel
theorem dX4_write_30 : decode cX4_write 30 = .ok (.istore_n 1, 1) := by decide +kernel
theorem dX4_write_31 : decode cX4_write 31 = .ok (.iload_n 1, 1) := by decide +kernel
theorem dX4_write_32 : decode cX4_write 32 = .ok (.aload_n 0, 1) := by decide +kernel
theorem dX4_write_33 : decode cX4_write 33 = .ok (.getfield 71, 3) := by decide +kernel
theorem dX4_write_36 : decode cX4_write 36 = .ok (.if_icmp .ge 29, 3) := by decide +kernel
theorem dX4_write_39 : decode cX4_write 39 = .ok (.aload_n 0, 1) := by decide +kernel
theorem dX4_write_40 : decode cX4_write 40 = .ok (.aload_n 0, 1) := by decide +kernel
theorem dX4_write_41 : decode cX4_write 41 = .ok (.getfield 13, 3) := by decide +kernel
theorem dX4_write_44 : decode cX4_write 44 = .ok (.iload_n 1, 1) := by decide +kernel
theorem dX4_write_45 : decode cX4_write 45 = .ok (.iaload, 1) := by decide +kernel
theorem dX4_write_46 : decode cX4_write 46 = .ok (.invokevirtual 134, 3) := by decide +kernel
theorem dX4_write_49 : decode cX4_write 49 = .ok (.aload_n 0, 1) := by decide +kernel
theorem dX4_write_50 : decode cX4_write 50 = .ok (.aload_n 0, 1) := by decide +kernel
theorem dX4_write_51 : decode cX4_write 51 = .ok (.getfield 16, 3) := by decide +kernel
theorem dX4_write_54 : decode cX4_write 54 = .ok (.iload_n 1, 1) := by decide +kernel
theorem dX4_write_55 : decode cX4_write 55 = .ok (.iaload, 1) := by decide +kernel
theorem dX4_write_56 : decode cX4_write 56 = .ok (.invokevirtual 134, 3) := by decide +kernel
theorem dX4_write_59 : decode cX4_write 59 = .ok (.iinc 1 1, 3) := by decide +kernel
theorem dX4_write_62 : decode cX4_write 62 = .ok (.goto (-31), 3) := by decide +kernel
theorem dX4_write_65 : decode cX4_write 65 = .ok (.aload_n 0, 1) := by decide +kernel
theorem dX4_write_66 : decode cX4_write 66 = .ok (.getfield 44, 3) := by decide +kernel
theorem dX4_write_69 : decode cX4_write 69 = .ok (.iconst 1, 1) := by decide +kernel
theorem dX4_write_70 : decode cX4_write 70 = .ok (.isub, 1) := by decide +kernel
theorem dX4_write_71 : decode cX4_write 71 = .ok (.istore_n 1, 1) := by decide +kernel
theorem dX4_write_72 : decode cX4_write 72 = .ok (.iload_n 1, 1) := by decide +kernel
theorem dX4_write_73 : decode cX4_write 73 = .ok (.ifCond .lt 22, 3) := by decide +kernel
theorem dX4_write_76 : decode cX4_write 76 = .ok (.aload_n 0, 1) := by decide +kernel
theorem dX4_write_77 : decode cX4_write 77 = .ok (.getfield 7, 3) := by decide +kernel
theorem dX4_write_80 : decode cX4_write 80 = .ok (.iload_n 1, 1) := by decide +kernel
theorem dX4_write_81 : decode cX4_write 81 = .ok (.iaload, 1) := by decide +kernel
theorem dX4_write_82 : decode cX4_write 82 = .ok (.iload_n 1, 1) := by decide +kernel
theorem dX4_write_83 : decode cX4_write 83 = .ok (.invokestatic 48, 3) := by decide +kernel
theorem dX4_write_86 : decode cX4_write 86 = .ok (.if_icmp .ne 9, 3) := by decide +kernel
theorem dX4_write_89 : decode cX4_write 89 = .ok (.iinc 1 (-1), 3) := by decide +kernel
theorem dX4_write_92 : decode cX4_write 92 = .ok (.goto (-20), 3) := by decide +kernel
theorem dX4_write_95 : decode cX4_write 95 = .ok (.iconst 0, 1) := by decide +kernel
theorem dX4_write_96 : decode cX4_write 96 = .ok (.istore_n 2, 1) := by decide +kernel
theorem dX4_write_97 : decode cX4_write 97 = .ok (.iload_n 2, 1) := by decide +kernel
theorem dX4_write_98 : decode cX4_write 98 = .ok (.iload_n 1, 1) := by decide +kernel
theorem dX4_write_99 : decode cX4_write 99 = .ok (.if_icmp .gt 87, 3) := by decide +kernel
theorem dX4_write_102 : decode cX4_write 102 = .ok (.aload_n 0, 1) := by decide +kernel
theorem dX4_write_103 : decode cX4_write 103 = .ok (.getfield 7, 3) := by decide +kernel
theorem dX4_write_106 : decode cX4_write 106 = .ok (.iload_n 2, 1) := by decide +kernel
theorem dX4_write_107 : decode cX4_write 107 = .ok (.iaload, 1) := by decide +kernel
theorem dX4_write_108 : decode cX4_write 108 = .ok (.iload_n 2, 1) := by decide +kernel
theorem dX4_write_109 : decode cX4_write 109 = .ok (.invokestatic 48, 3) := by decide +kernel
theorem dX4_write_112 : decode cX4_write 112 = .ok (.ixor, 1) := by decide +kernel
theorem dX4_write_113 : decode cX4_write 113 = .ok (.istore_n 3, 1) := by decide +kernel
theorem dX4_write_114 : decode cX4_write 114 = .ok (.iload_n 3, 1) := by decide +kernel
theorem dX4_write_115 : decode cX4_write 115 = .ok (.ifCond .eq 14, 3) := by decide +kernel
theorem dX4_write_118 : decode cX4_write 118 = .ok (.aload_n 0, 1) := by decide +kernel
theorem dX4_write_119 : decode cX4_write 119 = .ok (.iload_n 3, 1) := by decide +kernel
theorem dX4_write_120 : decode cX4_write 120 = .ok (.invokevirtual 131, 3) := by decide +kernel
theorem dX4_write_123 : decode cX4_write 123 = .ok (.iinc 2 1, 3) := by decide +kernel
theorem dX4_write_126 : decode cX4_write 126 = .ok (.goto 57, 3) := by decide +kernel
theorem dX4_write_129 : decode cX4_write 129 = .ok (.iconst 0, 1) := by decide +kernel
theorem dX4_write_130 : decode cX4_write 130 = .ok (.istore 4, 2) := by decide +kernel
theorem dX4_write_132 : decode cX4_write 132 = .ok (.iload 4, 2) := by decide +kernel
theorem dX4_write_134 : decode cX4_write 134 = .ok (.sipush 256, 3) := by decide +kernel
theorem dX4_write_137 : decode cX4_write 137 = .ok (.if_icmp .ge 28, 3) := by decide +kernel
theorem dX4_write_140 : decode cX4_write 140 = .ok (.aload_n 0, 1) := by decide +kernel
theorem dX4_write_141 : decode cX4_write 141 = .ok (.getfield 7, 3) := by decide +kernel
theorem dX4_write_144 : decode cX4_write 144 = .ok (.iload_n 2, 1) := by decide +kernel
theorem dX4_write_145 : decode cX4_write 145 = .ok (.iload 4, 2) := by decide +kernel
theorem dX4_write_147 : decode cX4_write 147 = .ok (.iadd, 1) := by decide +kernel
theorem dX4_write_148 : decode cX4_write 148 = .ok (.iaload, 1) := by decide +kernel
theorem dX4_write_149 : decode cX4_write 149 = .ok (.iload_n 2, 1) := by decide +kernel
theorem dX4_write_150 : decode cX4_write 150 = .ok (.iload 4, 2) := by decide +kernel
theorem dX4_write_152 : decode cX4_write 152 = .ok (.iadd, 1) := by decide +kernel
theorem dX4_write_153 : decode cX4_write 153 = .ok (.invokestatic 48, 3) := by decide +kernel
theorem dX4_write_156 : decode cX4_write 156 = .ok (.if_icmp .ne 9, 3) := by decide +kernel
theorem dX4_write_159 : decode cX4_write 159 = .ok (.iinc 4 1, 3) := by decide +kernel
theorem dX4_write_162 : decode cX4_write 162 = .ok (.goto (-30), 3) := by decide +kernel
theorem dX4_write_165 : decode cX4_write 165 = .ok (.aload_n 0, 1) := by decide +kernel
theorem dX4_write_166 : decode cX4_write 166 = .ok (.iconst 0, 1) := by decide +kernel
theorem dX4_write_167 : decode cX4_write 167 = .ok (.invokevirtual 131, 3) := by decide +kernel
theorem dX4_write_170 : decode cX4_write 170 = .ok (.aload_n 0, 1) := by decide +kernel
theorem dX4_write_171 : decode cX4_write 171 = .ok (.iload 4, 2) := by decide +kernel
theorem dX4_write_173 : decode cX4_write 173 = .ok (.iconst 1, 1) := by decide +kernel
theorem dX4_write_174 : decode cX4_write 174 = .ok (.isub, 1) := by decide +kernel
theorem dX4_write_175 : decode cX4_write 175 = .ok (.invokevirtual 131, 3) := by decide +kernel
theorem dX4_write_178 : decode cX4_write 178 = .ok (.iload_n 2, 1) := by decide +kernel
theorem dX4_write_179 : decode cX4_write 179 = .ok (.iload 4, 2) := by decide +kernel
theorem dX4_write_181 : decode cX4_write 181 = .ok (.iadd, 1) := by decide +kernel
theorem dX4_write_182 : decode cX4_write 182 = .ok (.istore_n 2, 1) := by decide +kernel
theorem dX4_write_183 : decode cX4_write 183 = .ok (.goto (-86), 3) := by decide +kernel
theorem dX4_write_186 : decode cX4_write 186 = .ok (.aload_n 0, 1) := by decide +kernel
theorem dX4_write_187 : decode cX4_write 187 = .ok (.getfield 128, 3) := by decide +kernel
theorem dX4_write_190 : decode cX4_write 190 = .ok (.ireturn, 1) := by decide +kernel
theorem dX4_code_0 : decode cX4_code 0 = .ok (.iload_n 1, 1) := by decide +kernel
theorem dX4_code_1 : decode cX4_code 1 = .ok (.ifCond .lt 20, 3) := by decide +kernel
theorem dX4_code_4 : decode cX4_code 4 = .ok (.iload_n 1, 1) := by decide +kernel
theorem dX4_code_5 : decode cX4_code 5 = .ok (.aload_n 0, 1) := by decide +kernel
theorem dX4_code_6 : decode cX4_code 6 = .ok (.getfield 128, 3) := by decide +kernel
theorem dX4_code_9 : decode cX4_code 9 = .ok (.if_icmp .ge 12, 3) := by decide +kernel
theorem dX4_code_12 : decode cX4_code 12 = .ok (.aload_n 0, 1) := by decide +kernel
theorem dX4_code_13 : decode cX4_code 13 = .ok (.getfield 38, 3) := by decide +kernel
theorem dX4_code_16 : decode cX4_code 16 = .ok (.iload_n 1, 1) := by decide +kernel
theorem dX4_code_17 : decode cX4_code 17 = .ok (.iaload, 1) := by decide +kernel
theorem dX4_code_18 : decode cX4_code 18 = .ok (.goto 4, 3) := by decide +kernel
theorem dX4_code_21 : decode cX4_code 21 = .ok (.iconst (-1), 1) := by decide +kernel
theorem dX4_code_22 : decode cX4_code 22 = .ok (.ireturn, 1) := by decide +kernel
theorem dX4_poke_0 : decode cX4_poke 0 = .ok (.iload_n 1, 1) := by decide +kernel
theorem dX4_poke_1 : decode cX4_poke 1 = .ok (.ifCond .lt 22, 3) := by decide +kernel
theorem dX4_poke_4 : decode cX4_poke 4 = .ok (.iload_n 1, 1) := by decide +kernel
theorem dX4_poke_5 : decode cX4_poke 5 = .ok (.aload_n 0, 1) := by decide +kernel
theorem dX4_poke_6 : decode cX4_poke 6 = .ok (.getfield 128, 3) := by decide +kernel
theorem dX4_poke_9 : decode cX4_poke 9 = .ok (.if_icmp .ge 14, 3) := by decide +kernel
theorem dX4_poke_12 : decode cX4_poke 12 = .ok (.iload_n 2, 1) := by decide +kernel
theorem dX4_poke_13 : decode cX4_poke 13 = .ok (.ifCond .lt 10, 3) := by decide +kernel
theorem dX4_poke_16 : decode cX4_poke 16 = .ok (.iload_n 2, 1) := by decide +kernel
theorem dX4_poke_17 : decode cX4_poke 17 = .ok (.sipush 255, 3) := by decide +kernel
theorem dX4_poke_20 : decode cX4_poke 20 = .ok (.if_icmp .le 6, 3) := by decide +kernel
theorem dX4_poke_23 : decode cX4_poke 23 = .ok (.bipush (-11), 2) := by decide +kernel
theorem dX4_poke_25 : decode cX4_poke 25 = .ok (.ireturn, 1) := by decide +kernel
theorem dX4_poke_26 : decode cX4_poke 26 = .ok (.aload_n 0, 1) := by decide +kernel
theorem dX4_poke_27 : decode cX4_poke 27 = .ok (.getfield 38, 3) := by decide +kernel
theorem dX4_poke_30 : decode cX4_poke 30 = .ok (.iload_n 1, 1) := by decide +kernel
theorem dX4_poke_31 : decode cX4_poke 31 = .ok (.iaload, 1) := by decide +kernel
theorem dX4_poke_32 : decode cX4_poke 32 = .ok (.istore_n 3, 1) := by decide +kernel
theorem dX4_poke_33 : decode cX4_poke 33 = .ok (.aload_n 0, 1) := by decide +kernel
theorem dX4_poke_34 : decode cX4_poke 34 = .ok (.getfield 38, 3) := by decide +kernel
theorem dX4_poke_37 : decode cX4_poke 37 = .ok (.iload_n 1, 1) := by decide +kernel
theorem dX4_poke_38 : decode cX4_poke 38 = .ok (.iload_n 2, 1) := by decide +kernel
theorem dX4_poke_39 : decode cX4_poke 39 = .ok (.iastore, 1) := by decide +kernel
theorem dX4_poke_40 : decode cX4_poke 40 = .ok (.iload_n 3, 1) := by decide +kernel
theorem dX4_poke_41 : decode cX4_poke 41 = .ok (.ireturn, 1) := by decide +kernel
theorem dX4_cut_0 : decode cX4_cut 0 = .ok (.iload_n 1, 1) := by decide +kernel
theorem dX4_cut_1 : decode cX4_cut 1 = .ok (.ifCond .lt 11, 3) := by decide +kernel
theorem dX4_cut_4 : decode cX4_cut 4 = .ok (.iload_n 1, 1) := by decide +kernel
theorem dX4_cut_5 : decode cX4_cut 5 = .ok (.aload_n 0, 1) := by decide +kernel
theorem dX4_cut_6 : decode cX4_cut 6 = .ok (.getfield 128, 3) := by decide +kernel
theorem dX4_cut_9 : decode cX4_cut 9 = .ok (.if_icmp .le 6, 3) := by decide +kernel
theorem dX4_cut_12 : decode cX4_cut 12 = .ok (.bipush (-11), 2) := by decide +kernel
theorem dX4_cut_14 : decode cX4_cut 14 = .ok (.ireturn, 1) := by decide +kernel
theorem dX4_cut_15 : decode cX4_cut 15 = .ok (.aload_n 0, 1) := by decide +kernel
theorem dX4_cut_16 : decode cX4_cut 16 = .ok (.getfield 128, 3) := by decide +kernel
theorem dX4_cut_19 : decode cX4_cut 19 = .ok (.iload_n 1, 1) := by decide +kernel
theorem dX4_cut_20 : decode cX4_cut 20 = .ok (.isub, 1) := by decide +kernel
theorem dX4_cut_21 : decode cX4_cut 21 = .ok (.istore_n 2, 1) := by decide +kernel
theorem dX4_cut_22 : decode cX4_cut 22 = .ok (.aload_n 0, 1) := by decide +kernel
theorem dX4_cut_23 : decode cX4_cut 23 = .ok (.iload_n 1, 1) := by decide +kernel
theorem dX4_cut_24 : decode cX4_cut 24 = .ok (.putfield 128, 3) := by decide +kernel
theorem dX4_cut_27 : decode cX4_cut 27 = .ok (.iload_n 2, 1) := by decide +kernel
theorem dX4_cut_28 : decode cX4_cut 28 = .ok (.ireturn, 1) := by decide +kernel
theorem dX4_two_0 : decode cX4_two 0 = .ok (.aload_n 0, 1) := by decide +kernel
theorem dX4_two_1 : decode cX4_two 1 = .ok (.getfield 38, 3) := by decide +kernel
theorem dX4_two_4 : decode cX4_two 4 = .ok (.iload_n 1, 1) := by decide +kernel
theorem dX4_two_5 : decode cX4_two 5 = .ok (.iaload, 1) := by decide +kernel
theorem dX4_two_6 : decode cX4_two 6 = .ok (.bipush 8, 2) := by decide +kernel
theorem dX4_two_8 : decode cX4_two 8 = .ok (.ishl, 1) := by decide +kernel
theorem dX4_two_9 : decode cX4_two 9 = .ok (.aload_n 0, 1) := by decide +kernel
theorem dX4_two_10 : decode cX4_two 10 = .ok (.getfield 38, 3) := by decide +kernel
theorem dX4_two_13 : decode cX4_two 13 = .ok (.iload_n 1, 1) := by decide +kernel
theorem dX4_two_14 : decode cX4_two 14 = .ok (.iconst 1, 1) := by decide +kernel
theorem dX4_two_15 : decode cX4_two 15 = .ok (.iadd, 1) := by decide +kernel
theorem dX4_two_16 : decode cX4_two 16 = .ok (.iaload, 1) := by decide +kernel
theorem dX4_two_17 : decode cX4_two 17 = .ok (.ior, 1) := by decide +kernel
theorem dX4_two_18 : decode cX4_two 18 = .ok (.ireturn, 1) := by decide +kernel
set_option maxRecDepth 20000 in
theorem ggX4_head_X4_two : GoodIn wsX4_head wsX4_two := goodIn_r _ [11, 12, 16, 17, 18, 19, 20, 21, 22, 23, 24, 25, 26, 27, 28, 29, 30, 31, 32, 33] (by decide +kernel) (by decide +kernel)
set_option maxRecDepth 20000 in
theorem gX4_head_X4_two : GoodIn wsX4_head (wsV RX4 137 RX4 yX4_two wsX4_two) := goodIn_app (goodIn_of _ (by decide +kernel)) ggX4_head_X4_two
set_option maxRecDepth 20000 in
theorem ggX4_head_X4_isSize : GoodIn wsX4_head wsX4_isSize := goodIn_r _ [15] (by decide +kernel) (by decide +kernel)
set_option maxRecDepth 20000 in
theorem gX4_head_X4_isSize : GoodIn wsX4_head (va_wsS RX4 68 yX4_isSize wsX4_isSize) := goodIn_app (goodIn_of _ (by decide +kernel)) ggX4_head_X4_isSize
theorem dX4_head_0 : decode cX4_head 0 = .ok (.iconst 4, 1) := by decide +kernel
theorem dX4_head_1 : decode cX4_head 1 = .ok (.istore_n 1, 1) := by decide +kernel
theorem dX4_head_2 : decode cX4_head 2 = .ok (.aload_n 0, 1) := by decide +kernel
theorem dX4_head_3 : decode cX4_head 3 = .ok (.getfield 128, 3) := by decide +kernel
theorem dX4_head_6 : decode cX4_head 6 = .ok (.iconst 2, 1) := by decide +kernel
theorem dX4_head_7 : decode cX4_head 7 = .ok (.if_icmp .ge 8, 3) := by decide +kernel
theorem dX4_head_10 : decode cX4_head 10 = .ok (.aload_n 0, 1) := by decide +kernel
theorem dX4_head_11 : decode cX4_head 11 = .ok (.getfield 128, 3) := by decide +kernel
theorem dX4_head_14 : decode cX4_head 14 = .ok (.ireturn, 1) := by decide +kernel
theorem dX4_head_15 : decode cX4_head 15 = .ok (.aload_n 0, 1) := by decide +kernel
theorem dX4_head_16 : decode cX4_head 16 = .ok (.getfield 23, 3) := by decide +kernel
theorem dX4_head_19 : decode cX4_head 19 = .ok (.iload_n 1, 1) := by decide +kernel
theorem dX4_head_20 : decode cX4_head 20 = .ok (.aload_n 0, 1) := by decide +kernel
theorem dX4_head_21 : decode cX4_head 21 = .ok (.iconst 0, 1) := by decide +kernel
theorem dX4_head_22 : decode cX4_head 22 = .ok (.invokevirtual 137, 3) := by decide +kernel
theorem dX4_head_25 : decode cX4_head 25 = .ok (.iastore, 1) := by decide +kernel
theorem dX4_head_26 : decode cX4_head 26 = .ok (.aload_n 0, 1) := by decide +kernel
theorem dX4_head_27 : decode cX4_head 27 = .ok (.getfield 23, 3) := by decide +kernel
theorem dX4_head_30 : decode cX4_head 30 = .ok (.iload_n 1, 1) := by decide +kernel
theorem dX4_head_31 : decode cX4_head 31 = .ok (.iaload, 1) := by decide +kernel
theorem dX4_head_32 : decode cX4_head 32 = .ok (.invokestatic 68, 3) := by decide +kernel
theorem dX4_head_35 : decode cX4_head 35 = .ok (.ifCond .ne 5, 3) := by decide +kernel
theorem dX4_head_38 : decode cX4_head 38 = .ok (.iconst 0, 1) := by decide +kernel
theorem dX4_head_39 : decode cX4_head 39 = .ok (.ireturn, 1) := by decide +kernel
theorem dX4_head_40 : decode cX4_head 40 = .ok (.aload_n 0, 1) := by decide +kernel
theorem dX4_head_41 : decode cX4_head 41 = .ok (.getfield 128, 3) := by decide +kernel
theorem dX4_head_44 : decode cX4_head 44 = .ok (.iconst 4, 1) := by decide +kernel
theorem dX4_head_45 : decode cX4_head 45 = .ok (.if_icmp .ge 8, 3) := by decide +kernel
theorem dX4_head_48 : decode cX4_head 48 = .ok (.aload_n 0, 1) := by decide +kernel
theorem dX4_head_49 : decode cX4_head 49 = .ok (.getfield 128, 3) := by decide +kernel
theorem dX4_head_52 : decode cX4_head 52 = .ok (.ireturn, 1) := by decide +kernel
theorem dX4_head_53 : decode cX4_head 53 = .ok (.aload_n 0, 1) := by decide +kernel
theorem dX4_head_54 : decode cX4_head 54 = .ok (.getfield 26, 3) := by decide +kernel
theorem dX4_head_57 : decode cX4_head 57 = .ok (.iload_n 1, 1) := by decide +kernel
theorem dX4_head_58 : decode cX4_head 58 = .ok (.aload_n 0, 1) := by decide +kernel
theorem dX4_head_59 : decode cX4_head 59 = .ok (.iconst 2, 1) := by decide +kernel
theorem dX4_head_60 : decode cX4_head 60 = .ok (.invokevirtual 137, 3) := by decide +kernel
theorem dX4_head_63 : decode cX4_head 63 = .ok (.iastore, 1) := by decide +kernel
theorem dX4_head_64 : decode cX4_head 64 = .ok (.aload_n 0, 1) := by decide +kernel
theorem dX4_head_65 : decode cX4_head 65 = .ok (.getfield 26, 3) := by decide +kernel
theorem dX4_head_68 : decode cX4_head 68 = .ok (.iload_n 1, 1) := by decide +kernel
theorem dX4_head_69 : decode cX4_head 69 = .ok (.iaload, 1) := by decide +kernel
theorem dX4_head_70 : decode cX4_head 70 = .ok (.ifCond .eq 32, 3) := by decide +kernel
theorem dX4_head_73 : decode cX4_head 73 = .ok (.aload_n 0, 1) := by decide +kernel
theorem dX4_head_74 : decode cX4_head 74 = .ok (.getfield 26, 3) := by decide +kernel
theorem dX4_head_77 : decode cX4_head 77 = .ok (.iload_n 1, 1) := by decide +kernel
theorem dX4_head_78 : decode cX4_head 78 = .ok (.iaload, 1) := by decide +kernel
theorem dX4_head_79 : decode cX4_head 79 = .ok (.invokestatic 68, 3) := by decide +kernel
theorem dX4_head_82 : decode cX4_head 82 = .ok (.ifCond .eq 18, 3) := by decide +kernel
theorem dX4_head_85 : decode cX4_head 85 = .ok (.aload_n 0, 1) := by decide +kernel
theorem dX4_head_86 : decode cX4_head 86 = .ok (.getfield 26, 3) := by decide +kernel
theorem dX4_head_89 : decode cX4_head 89 = .ok (.iload_n 1, 1) := by decide +kernel
theorem dX4_head_90 : decode cX4_head 90 = .ok (.iaload, 1) := by decide +kernel
theorem dX4_head_91 : decode cX4_head 91 = .ok (.aload_n 0, 1) := by decide +kernel
theorem dX4_head_92 : decode cX4_head 92 = .ok (.getfield 23, 3) := by decide +kernel
theorem dX4_head_95 : decode cX4_head 95 = .ok (.iload_n 1, 1) := by decide +kernel
theorem dX4_head_96 : decode cX4_head 96 = .ok (.iaload, 1) := by decide +kernel
theorem dX4_head_97 : decode cX4_head 97 = .ok (.if_icmp .lt 5, 3) := by decide +kernel
theorem dX4_head_100 : decode cX4_head 100 = .ok (.iconst 2, 1) := by decide +kernel
theorem dX4_head_101 : decode cX4_head 101 = .ok (.ireturn, 1) := by decide +kernel
theorem dX4_head_102 : decode cX4_head 102 = .ok (.aload_n 0, 1) := by decide +kernel
theorem dX4_head_103 : decode cX4_head 103 = .ok (.getfield 128, 3) := by decide +kernel
theorem dX4_head_106 : decode cX4_head 106 = .ok (.bipush 6, 2) := by decide +kernel
theorem dX4_head_108 : decode cX4_head 108 = .ok (.if_icmp .ge 8, 3) := by decide +kernel
theorem dX4_head_111 : decode cX4_head 111 = .ok (.aload_n 0, 1) := by decide +kernel
theorem dX4_head_112 : decode cX4_head 112 = .ok (.getfield 128, 3) := by decide +kernel
theorem dX4_head_115 : decode cX4_head 115 = .ok (.ireturn, 1) := by decide +kernel
theorem dX4_head_116 : decode cX4_head 116 = .ok (.aload_n 0, 1) := by decide +kernel
theorem dX4_head_117 : decode cX4_head 117 = .ok (.getfield 29, 3) := by decide +kernel
theorem dX4_head_120 : decode cX4_head 120 = .ok (.iload_n 1, 1) := by decide +kernel
theorem dX4_head_121 : decode cX4_head 121 = .ok (.aload_n 0, 1) := by decide +kernel
theorem dX4_head_122 : decode cX4_head 122 = .ok (.iconst 4, 1) := by decide +kernel
theorem dX4_head_123 : decode cX4_head 123 = .ok (.invokevirtual 137, 3) := by decide +kernel
theorem dX4_head_126 : decode cX4_head 126 = .ok (.iastore, 1) := by decide +kernel
theorem dX4_head_127 : decode cX4_head 127 = .ok (.aload_n 0, 1) := by decide +kernel
theorem dX4_head_128 : decode cX4_head 128 = .ok (.getfield 29, 3) := by decide +kernel
theorem dX4_head_131 : decode cX4_head 131 = .ok (.iload_n 1, 1) := by decide +kernel
theorem dX4_head_132 : decode cX4_head 132 = .ok (.iaload, 1) := by decide +kernel
theorem dX4_head_133 : decode cX4_head 133 = .ok (.bipush 64, 2) := by decide +kernel
theorem dX4_head_135 : decode cX4_head 135 = .ok (.if_icmp .gt 34, 3) := by decide +kernel
theorem dX4_head_138 : decode cX4_head 138 = .ok (.aload_n 0, 1) := by decide +kernel
theorem dX4_head_139 : decode cX4_head 139 = .ok (.getfield 29, 3) := by decide +kernel
theorem dX4_head_142 : decode cX4_head 142 = .ok (.iload_n 1, 1) := by decide +kernel
theorem dX4_head_143 : decode cX4_head 143 = .ok (.iaload, 1) := by decide +kernel
theorem dX4_head_144 : decode cX4_head 144 = .ok (.ifCond .ne 7, 3) := by decide +kernel
theorem dX4_head_147 : decode cX4_head 147 = .ok (.iconst 1, 1) := by decide +kernel
theorem dX4_head_148 : decode cX4_head 148 = .ok (.goto 4, 3) := by decide +kernel
theorem dX4_head_151 : decode cX4_head 151 = .ok (.iconst 0, 1) := by decide +kernel
theorem dX4_head_152 : decode cX4_head 152 = .ok (.aload_n 0, 1) := by decide +kernel
theorem dX4_head_153 : decode cX4_head 153 = .ok (.getfield 26, 3) := by decide +kernel
theorem dX4_head_156 : decode cX4_head 156 = .ok (.iload_n 1, 1) := by decide +kernel
theorem dX4_head_157 : decode cX4_head 157 = .ok (.iaload, 1) := by decide +kernel
theorem dX4_head_158 : decode cX4_head 158 = .ok (.ifCond .ne 7, 3) := by decide +kernel
theorem dX4_head_161 : decode cX4_head 161 = .ok (.iconst 1, 1) := by decide +kernel
theorem dX4_head_162 : decode cX4_head 162 = .ok (.goto 4, 3) := by decide +kernel
theorem dX4_head_165 : decode cX4_head 165 = .ok (.iconst 0, 1) := by decide +kernel
theorem dX4_head_166 : decode cX4_head 166 = .ok (.if_icmp .eq 5, 3) := by decide +kernel
theorem dX4_head_169 : decode cX4_head 169 = .ok (.iconst 4, 1) := by decide +kernel
theorem dX4_head_170 : decode cX4_head 170 = .ok (.ireturn, 1) := by decide +kernel
theorem dX4_head_171 : decode cX4_head 171 = .ok (.aload_n 0, 1) := by decide +kernel
theorem dX4_head_172 : decode cX4_head 172 = .ok (.getfield 26, 3) := by decide +kernel
theorem dX4_head_175 : decode cX4_head 175 = .ok (.iload_n 1, 1) := by decide +kernel
theorem dX4_head_176 : decode cX4_head 176 = .ok (.iaload, 1) := by decide +kernel
theorem dX4_head_177 : decode cX4_head 177 = .ok (.istore_n 2, 1) := by decide +kernel
theorem dX4_head_178 : decode cX4_head 178 = .ok (.iconst 0, 1) := by decide +kernel
theorem dX4_head_179 : decode cX4_head 179 = .ok (.istore_n 3, 1) := by decide +kernel
theorem dX4_head_180 : decode cX4_head 180 = .ok (.iload_n 3, 1) := by decide +kernel
theorem dX4_head_181 : decode cX4_head 181 = .ok (.aload_n 0, 1) := by decide +kernel
theorem dX4_head_182 : decode cX4_head 182 = .ok (.getfield 29, 3) := by decide +kernel
theorem dX4_head_185 : decode cX4_head 185 = .ok (.iload_n 1, 1) := by decide +kernel
theorem dX4_head_186 : decode cX4_head 186 = .ok (.iaload, 1) := by decide +kernel
theorem dX4_head_187 : decode cX4_head 187 = .ok (.if_icmp .ge 132, 3) := by decide +kernel
theorem dX4_head_190 : decode cX4_head 190 = .ok (.bipush 6, 2) := by decide +kernel
theorem dX4_head_192 : decode cX4_head 192 = .ok (.iconst 4, 1) := by decide +kernel
theorem dX4_head_193 : decode cX4_head 193 = .ok (.iload_n 3, 1) := by decide +kernel
theorem dX4_head_194 : decode cX4_head 194 = .ok (.imul, 1) := by decide +kernel
theorem dX4_head_195 : decode cX4_head 195 = .ok (.iadd, 1) := by decide +kernel
theorem dX4_head_196 : decode cX4_head 196 = .ok (.istore 4, 2) := by decide +kernel
theorem dX4_head_198 : decode cX4_head 198 = .ok (.aload_n 0, 1) := by decide +kernel
theorem dX4_head_199 : decode cX4_head 199 = .ok (.getfield 128, 3) := by decide +kernel
theorem dX4_head_202 : decode cX4_head 202 = .ok (.iload 4, 2) := by decide +kernel
theorem dX4_head_204 : decode cX4_head 204 = .ok (.iconst 2, 1) := by decide +kernel
theorem dX4_head_205 : decode cX4_head 205 = .ok (.iadd, 1) := by decide +kernel
theorem dX4_head_206 : decode cX4_head 206 = .ok (.if_icmp .ge 8, 3) := by decide +kernel
theorem dX4_head_209 : decode cX4_head 209 = .ok (.aload_n 0, 1) := by decide +kernel
theorem dX4_head_210 : decode cX4_head 210 = .ok (.getfield 128, 3) := by decide +kernel
theorem dX4_head_213 : decode cX4_head 213 = .ok (.ireturn, 1) := by decide +kernel
theorem dX4_head_214 : decode cX4_head 214 = .ok (.aload_n 0, 1) := by decide +kernel
theorem dX4_head_215 : decode cX4_head 215 = .ok (.iload 4, 2) := by decide +kernel
theorem dX4_head_217 : decode cX4_head 217 = .ok (.invokevirtual 137, 3) := by decide +kernel
theorem dX4_head_220 : decode cX4_head 220 = .ok (.istore 5, 2) := by decide +kernel
theorem dX4_head_222 : decode cX4_head 222 = .ok (.iload 5, 2) := by decide +kernel
theorem dX4_head_224 : decode cX4_head 224 = .ok (.iload_n 2, 1) := by decide +kernel
theorem dX4_head_225 : decode cX4_head 225 = .ok (.if_icmp .ge 6, 3) := by decide +kernel
theorem dX4_head_228 : decode cX4_head 228 = .ok (.iload 4, 2) := by decide +kernel
theorem dX4_head_230 : decode cX4_head 230 = .ok (.ireturn, 1) := by decide +kernel
theorem dX4_head_231 : decode cX4_head 231 = .ok (.aload_n 0, 1) := by decide +kernel
theorem dX4_head_232 : decode cX4_head 232 = .ok (.getfield 128, 3) := by decide +kernel
theorem dX4_head_235 : decode cX4_head 235 = .ok (.iload 4, 2) := by decide +kernel
theorem dX4_head_237 : decode cX4_head 237 = .ok (.iconst 4, 1) := by decide +kernel
theorem dX4_head_238 : decode cX4_head 238 = .ok (.iadd, 1) := by decide +kernel
theorem dX4_head_239 : decode cX4_head 239 = .ok (.if_icmp .ge 8, 3) := by decide +kernel
theorem dX4_head_242 : decode cX4_head 242 = .ok (.aload_n 0, 1) := by decide +kernel
theorem dX4_head_243 : decode cX4_head 243 = .ok (.getfield 128, 3) := by decide +kernel
theorem dX4_head_246 : decode cX4_head 246 = .ok (.ireturn, 1) := by decide +kernel
theorem dX4_head_247 : decode cX4_head 247 = .ok (.aload_n 0, 1) := by decide +kernel
theorem dX4_head_248 : decode cX4_head 248 = .ok (.iload 4, 2) := by decide +kernel
theorem dX4_head_250 : decode cX4_head 250 = .ok (.iconst 2, 1) := by decide +kernel
theorem dX4_head_251 : decode cX4_head 251 = .ok (.iadd, 1) := by decide +kernel
theorem dX4_head_252 : decode cX4_head 252 = .ok (.invokevirtual 137, 3) := by decide +kernel
theorem dX4_head_255 : decode cX4_head 255 = .ok (.istore 6, 2) := by decide +kernel
theorem dX4_head_257 : decode cX4_head 257 = .ok (.iload 6, 2) := by decide +kernel
theorem dX4_head_259 : decode cX4_head 259 = .ok (.ifCond .eq 17, 3) := by decide +kernel
theorem dX4_head_262 : decode cX4_head 262 = .ok (.iload 5, 2) := by decide +kernel
theorem dX4_head_264 : decode cX4_head 264 = .ok (.iload 6, 2) := by decide +kernel
theorem dX4_head_266 : decode cX4_head 266 = .ok (.iadd, 1) := by decide +kernel
theorem dX4_head_267 : decode cX4_head 267 = .ok (.aload_n 0, 1) := by decide +kernel
theorem dX4_head_268 : decode cX4_head 268 = .ok (.getfield 23, 3) := by decide +kernel
theorem dX4_head_271 : decode cX4_head 271 = .ok (.iload_n 1, 1) := by decide +kernel
theorem dX4_head_272 : decode cX4_head 272 = .ok (.iaload, 1) := by decide +kernel
theorem dX4_head_273 : decode cX4_head 273 = .ok (.if_icmp .le 8, 3) := by decide +kernel
theorem dX4_head_276 : decode cX4_head 276 = .ok (.iload 4, 2) := by decide +kernel
theorem dX4_head_278 : decode cX4_head 278 = .ok (.iconst 2, 1) := by decide +kernel
theorem dX4_head_279 : decode cX4_head 279 = .ok (.iadd, 1) := by decide +kernel
theorem dX4_head_280 : decode cX4_head 280 = .ok (.ireturn, 1) := by decide +kernel
theorem dX4_head_281 : decode cX4_head 281 = .ok (.aload_n 0, 1) := by decide +kernel
theorem dX4_head_282 : decode cX4_head 282 = .ok (.getfield 32, 3) := by decide +kernel
theorem dX4_head_285 : decode cX4_head 285 = .ok (.bipush 64, 2) := by decide +kernel
theorem dX4_head_287 : decode cX4_head 287 = .ok (.iload_n 1, 1) := by decide +kernel
theorem dX4_head_288 : decode cX4_head 288 = .ok (.imul, 1) := by decide +kernel
theorem dX4_head_289 : decode cX4_head 289 = .ok (.iload_n 3, 1) := by decide +kernel
theorem dX4_head_290 : decode cX4_head 290 = .ok (.iadd, 1) := by decide +kernel
theorem dX4_head_291 : decode cX4_head 291 = .ok (.iload 5, 2) := by decide +kernel
theorem dX4_head_293 : decode cX4_head 293 = .ok (.iastore, 1) := by decide +kernel
theorem dX4_head_294 : decode cX4_head 294 = .ok (.aload_n 0, 1) := by decide +kernel
theorem dX4_head_295 : decode cX4_head 295 = .ok (.getfield 35, 3) := by decide +kernel
theorem dX4_head_298 : decode cX4_head 298 = .ok (.bipush 64, 2) := by decide +kernel
theorem dX4_head_300 : decode cX4_head 300 = .ok (.iload_n 1, 1) := by decide +kernel
theorem dX4_head_301 : decode cX4_head 301 = .ok (.imul, 1) := by decide +kernel
theorem dX4_head_302 : decode cX4_head 302 = .ok (.iload_n 3, 1) := by decide +kernel
theorem dX4_head_303 : decode cX4_head 303 = .ok (.iadd, 1) := by decide +kernel
theorem dX4_head_304 : decode cX4_head 304 = .ok (.iload 6, 2) := by decide +kernel
theorem dX4_head_306 : decode cX4_head 306 = .ok (.iastore, 1) := by decide +kernel
theorem dX4_head_307 : decode cX4_head 307 = .ok (.iload 5, 2) := by decide +kernel
theorem dX4_head_309 : decode cX4_head 309 = .ok (.iload 6, 2) := by decide +kernel
theorem dX4_head_311 : decode cX4_head 311 = .ok (.iadd, 1) := by decide +kernel
theorem dX4_head_312 : decode cX4_head 312 = .ok (.istore_n 2, 1) := by decide +kernel
theorem dX4_head_313 : decode cX4_head 313 = .ok (.iinc 3 1, 3) := by decide +kernel
theorem dX4_head_316 : decode cX4_head 316 = .ok (.goto (-136), 3) := by decide +kernel
theorem dX4_head_319 : decode cX4_head 319 = .ok (.iconst (-1), 1) := by decide +kernel
theorem dX4_head_320 : decode cX4_head 320 = .ok (.ireturn, 1) := by decide +kernel
set_option maxRecDepth 20000 in
theorem ggX4_read_X4_head : GoodIn wsX4_read wsX4_head := goodIn_r _ [11, 3, 5, 12, 2, 13, 14, 15, 16, 17, 10, 18, 4, 19, 20, 21, 36, 37, 38, 39, 40, 41, 42, 43, 44, 45, 46, 47, 48, 49, 50, 51, 52, 53] (by decide +kernel) (by decide +kernel)
set_option maxRecDepth 20000 in
theorem gX4_read_X4_head : GoodIn wsX4_read (wsV RX4 140 RX4 yX4_head wsX4_head) := goodIn_app (goodIn_of _ (by decide +kernel)) ggX4_read_X4_head
set_option maxRecDepth 20000 in
theorem ggX4_read_X4_first : GoodIn wsX4_read wsX4_first := goodIn_r _ [24] (by decide +kernel) (by decide +kernel)
set_option maxRecDepth 20000 in
theorem gX4_read_X4_first : GoodIn wsX4_read (va_wsS RX4 48 yX4_first wsX4_first) := goodIn_app (goodIn_of _ (by decide +kernel)) ggX4_read_X4_first
set_option maxRecDepth 20000 in
theorem ggX4_read_X4_come : GoodIn wsX4_read wsX4_come := goodIn_r _ [28, 6, 5, 29, 30, 31, 1, 12, 32, 2, 33, 34, 13, 35, 14, 36, 37, 38, 39, 40, 41, 42, 43, 44, 45, 46, 47, 48, 49, 50, 51, 52, 53] (by decide +kernel) (by decide +kernel)
set_option maxRecDepth 20000 in
theorem gX4_read_X4_come : GoodIn wsX4_read (wsV RX4 124 RX4 yX4_come wsX4_come) := goodIn_app (goodIn_of _ (by decide +kernel)) ggX4_read_X4_come
theorem dX4_read_0 : decode cX4_read 0 = .ok (.aload_n 0, 1) := by decide +kernel
theorem dX4_read_1 : decode cX4_read 1 = .ok (.invokevirtual 140, 3) := by decide +kernel
theorem dX4_read_4 : decode cX4_read 4 = .ok (.istore_n 1, 1) := by decide +kernel
theorem dX4_read_5 : decode cX4_read 5 = .ok (.iload_n 1, 1) := by decide +kernel
theorem dX4_read_6 : decode cX4_read 6 = .ok (.iconst (-1), 1) := by decide +kernel
theorem dX4_read_7 : decode cX4_read 7 = .ok (.if_icmp .eq 8, 3) := by decide +kernel
theorem dX4_read_10 : decode cX4_read 10 = .ok (.bipush (-100), 2) := by decide +kernel
theorem dX4_read_12 : decode cX4_read 12 = .ok (.iload_n 1, 1) := by decide +kernel
theorem dX4_read_13 : decode cX4_read 13 = .ok (.isub, 1) := by decide +kernel
theorem dX4_read_14 : decode cX4_read 14 = .ok (.ireturn, 1) := by decide +kernel
theorem dX4_read_15 : decode cX4_read 15 = .ok (.iconst 4, 1) := by decide +kernel
theorem dX4_read_16 : decode cX4_read 16 = .ok (.istore_n 2, 1) := by decide +kernel
theorem dX4_read_17 : decode cX4_read 17 = .ok (.sipush 8192, 3) := by decide +kernel
theorem dX4_read_20 : decode cX4_read 20 = .ok (.iload_n 2, 1) := by decide +kernel
theorem dX4_read_21 : decode cX4_read 21 = .ok (.imul, 1) := by decide +kernel
theorem dX4_read_22 : decode cX4_read 22 = .ok (.istore_n 3, 1) := by decide +kernel
theorem dX4_read_23 : decode cX4_read 23 = .ok (.iconst 0, 1) := by decide +kernel
theorem dX4_read_24 : decode cX4_read 24 = .ok (.istore 4, 2) := by decide +kernel
theorem dX4_read_26 : decode cX4_read 26 = .ok (.iload 4, 2) := by decide +kernel
theorem dX4_read_28 : decode cX4_read 28 = .ok (.sipush 8192, 3) := by decide +kernel
theorem dX4_read_31 : decode cX4_read 31 = .ok (.if_icmp .ge 23, 3) := by decide +kernel
theorem dX4_read_34 : decode cX4_read 34 = .ok (.aload_n 0, 1) := by decide +kernel
theorem dX4_read_35 : decode cX4_read 35 = .ok (.getfield 20, 3) := by decide +kernel
theorem dX4_read_38 : decode cX4_read 38 = .ok (.iload_n 3, 1) := by decide +kernel
theorem dX4_read_39 : decode cX4_read 39 = .ok (.iload 4, 2) := by decide +kernel
theorem dX4_read_41 : decode cX4_read 41 = .ok (.iadd, 1) := by decide +kernel
theorem dX4_read_42 : decode cX4_read 42 = .ok (.iload 4, 2) := by decide +kernel
theorem dX4_read_44 : decode cX4_read 44 = .ok (.invokestatic 48, 3) := by decide +kernel
theorem dX4_read_47 : decode cX4_read 47 = .ok (.iastore, 1) := by decide +kernel
theorem dX4_read_48 : decode cX4_read 48 = .ok (.iinc 4 1, 3) := by decide +kernel
theorem dX4_read_51 : decode cX4_read 51 = .ok (.goto (-25), 3) := by decide +kernel
theorem dX4_read_54 : decode cX4_read 54 = .ok (.iconst 0, 1) := by decide +kernel
theorem dX4_read_55 : decode cX4_read 55 = .ok (.istore 4, 2) := by decide +kernel
theorem dX4_read_57 : decode cX4_read 57 = .ok (.bipush 6, 2) := by decide +kernel
theorem dX4_read_59 : decode cX4_read 59 = .ok (.iconst 4, 1) := by decide +kernel
theorem dX4_read_60 : decode cX4_read 60 = .ok (.aload_n 0, 1) := by decide +kernel
theorem dX4_read_61 : decode cX4_read 61 = .ok (.getfield 29, 3) := by decide +kernel
theorem dX4_read_64 : decode cX4_read 64 = .ok (.iload_n 2, 1) := by decide +kernel
theorem dX4_read_65 : decode cX4_read 65 = .ok (.iaload, 1) := by decide +kernel
theorem dX4_read_66 : decode cX4_read 66 = .ok (.imul, 1) := by decide +kernel
theorem dX4_read_67 : decode cX4_read 67 = .ok (.iadd, 1) := by decide +kernel
theorem dX4_read_68 : decode cX4_read 68 = .ok (.istore 5, 2) := by decide +kernel
theorem dX4_read_70 : decode cX4_read 70 = .ok (.iload 5, 2) := by decide +kernel
theorem dX4_read_72 : decode cX4_read 72 = .ok (.aload_n 0, 1) := by decide +kernel
theorem dX4_read_73 : decode cX4_read 73 = .ok (.getfield 128, 3) := by decide +kernel
theorem dX4_read_76 : decode cX4_read 76 = .ok (.if_icmp .ge 136, 3) := by decide +kernel
theorem dX4_read_79 : decode cX4_read 79 = .ok (.aload_n 0, 1) := by decide +kernel
theorem dX4_read_80 : decode cX4_read 80 = .ok (.getfield 38, 3) := by decide +kernel
theorem dX4_read_83 : decode cX4_read 83 = .ok (.iload 5, 2) := by decide +kernel
theorem dX4_read_85 : decode cX4_read 85 = .ok (.iaload, 1) := by decide +kernel
theorem dX4_read_86 : decode cX4_read 86 = .ok (.istore 6, 2) := by decide +kernel
theorem dX4_read_88 : decode cX4_read 88 = .ok (.iload 6, 2) := by decide +kernel
theorem dX4_read_90 : decode cX4_read 90 = .ok (.ifCond .eq 53, 3) := by decide +kernel
theorem dX4_read_93 : decode cX4_read 93 = .ok (.iload 4, 2) := by decide +kernel
theorem dX4_read_95 : decode cX4_read 95 = .ok (.aload_n 0, 1) := by decide +kernel
theorem dX4_read_96 : decode cX4_read 96 = .ok (.getfield 23, 3) := by decide +kernel
theorem dX4_read_99 : decode cX4_read 99 = .ok (.iload_n 2, 1) := by decide +kernel
theorem dX4_read_100 : decode cX4_read 100 = .ok (.iaload, 1) := by decide +kernel
theorem dX4_read_101 : decode cX4_read 101 = .ok (.if_icmp .ge 10, 3) := by decide +kernel
theorem dX4_read_104 : decode cX4_read 104 = .ok (.iload 4, 2) := by decide +kernel
theorem dX4_read_106 : decode cX4_read 106 = .ok (.bipush 64, 2) := by decide +kernel
theorem dX4_read_108 : decode cX4_read 108 = .ok (.if_icmp .ge 9, 3) := by decide +kernel
theorem dX4_read_111 : decode cX4_read 111 = .ok (.bipush (-100), 2) := by decide +kernel
theorem dX4_read_113 : decode cX4_read 113 = .ok (.iload 5, 2) := by decide +kernel
theorem dX4_read_115 : decode cX4_read 115 = .ok (.isub, 1) := by decide +kernel
theorem dX4_read_116 : decode cX4_read 116 = .ok (.ireturn, 1) := by decide +kernel
theorem dX4_read_117 : decode cX4_read 117 = .ok (.aload_n 0, 1) := by decide +kernel
theorem dX4_read_118 : decode cX4_read 118 = .ok (.getfield 20, 3) := by decide +kernel
theorem dX4_read_121 : decode cX4_read 121 = .ok (.iload_n 3, 1) := by decide +kernel
theorem dX4_read_122 : decode cX4_read 122 = .ok (.iload 4, 2) := by decide +kernel
theorem dX4_read_124 : decode cX4_read 124 = .ok (.iadd, 1) := by decide +kernel
theorem dX4_read_125 : decode cX4_read 125 = .ok (.iload 6, 2) := by decide +kernel
theorem dX4_read_127 : decode cX4_read 127 = .ok (.iload 4, 2) := by decide +kernel
theorem dX4_read_129 : decode cX4_read 129 = .ok (.invokestatic 48, 3) := by decide +kernel
theorem dX4_read_132 : decode cX4_read 132 = .ok (.ixor, 1) := by decide +kernel
theorem dX4_read_133 : decode cX4_read 133 = .ok (.iastore, 1) := by decide +kernel
theorem dX4_read_134 : decode cX4_read 134 = .ok (.iinc 4 1, 3) := by decide +kernel
theorem dX4_read_137 : decode cX4_read 137 = .ok (.iinc 5 1, 3) := by decide +kernel
theorem dX4_read_140 : decode cX4_read 140 = .ok (.goto 69, 3) := by decide +kernel
theorem dX4_read_143 : decode cX4_read 143 = .ok (.iload 5, 2) := by decide +kernel
theorem dX4_read_145 : decode cX4_read 145 = .ok (.iconst 1, 1) := by decide +kernel
theorem dX4_read_146 : decode cX4_read 146 = .ok (.iadd, 1) := by decide +kernel
theorem dX4_read_147 : decode cX4_read 147 = .ok (.aload_n 0, 1) := by decide +kernel
theorem dX4_read_148 : decode cX4_read 148 = .ok (.getfield 128, 3) := by decide +kernel
theorem dX4_read_151 : decode cX4_read 151 = .ok (.if_icmp .ne 11, 3) := by decide +kernel
theorem dX4_read_154 : decode cX4_read 154 = .ok (.bipush (-100), 2) := by decide +kernel
theorem dX4_read_156 : decode cX4_read 156 = .ok (.aload_n 0, 1) := by decide +kernel
theorem dX4_read_157 : decode cX4_read 157 = .ok (.getfield 128, 3) := by decide +kernel
theorem dX4_read_160 : decode cX4_read 160 = .ok (.isub, 1) := by decide +kernel
theorem dX4_read_161 : decode cX4_read 161 = .ok (.ireturn, 1) := by decide +kernel
theorem dX4_read_162 : decode cX4_read 162 = .ok (.iload 4, 2) := by decide +kernel
theorem dX4_read_164 : decode cX4_read 164 = .ok (.aload_n 0, 1) := by decide +kernel
theorem dX4_read_165 : decode cX4_read 165 = .ok (.getfield 38, 3) := by decide +kernel
theorem dX4_read_168 : decode cX4_read 168 = .ok (.iload 5, 2) := by decide +kernel
theorem dX4_read_170 : decode cX4_read 170 = .ok (.iconst 1, 1) := by decide +kernel
theorem dX4_read_171 : decode cX4_read 171 = .ok (.iadd, 1) := by decide +kernel
theorem dX4_read_172 : decode cX4_read 172 = .ok (.iaload, 1) := by decide +kernel
theorem dX4_read_173 : decode cX4_read 173 = .ok (.iconst 1, 1) := by decide +kernel
theorem dX4_read_174 : decode cX4_read 174 = .ok (.iadd, 1) := by decide +kernel
theorem dX4_read_175 : decode cX4_read 175 = .ok (.iadd, 1) := by decide +kernel
theorem dX4_read_176 : decode cX4_read 176 = .ok (.istore 4, 2) := by decide +kernel
theorem dX4_read_178 : decode cX4_read 178 = .ok (.iload 4, 2) := by decide +kernel
theorem dX4_read_180 : decode cX4_read 180 = .ok (.aload_n 0, 1) := by decide +kernel
theorem dX4_read_181 : decode cX4_read 181 = .ok (.getfield 23, 3) := by decide +kernel
theorem dX4_read_184 : decode cX4_read 184 = .ok (.iload_n 2, 1) := by decide +kernel
theorem dX4_read_185 : decode cX4_read 185 = .ok (.iaload, 1) := by decide +kernel
theorem dX4_read_186 : decode cX4_read 186 = .ok (.if_icmp .gt 14, 3) := by decide +kernel
theorem dX4_read_189 : decode cX4_read 189 = .ok (.iload 5, 2) := by decide +kernel
theorem dX4_read_191 : decode cX4_read 191 = .ok (.iconst 2, 1) := by decide +kernel
theorem dX4_read_192 : decode cX4_read 192 = .ok (.iadd, 1) := by decide +kernel
theorem dX4_read_193 : decode cX4_read 193 = .ok (.aload_n 0, 1) := by decide +kernel
theorem dX4_read_194 : decode cX4_read 194 = .ok (.getfield 128, 3) := by decide +kernel
theorem dX4_read_197 : decode cX4_read 197 = .ok (.if_icmp .ne 9, 3) := by decide +kernel
theorem dX4_read_200 : decode cX4_read 200 = .ok (.bipush (-100), 2) := by decide +kernel
theorem dX4_read_202 : decode cX4_read 202 = .ok (.iload 5, 2) := by decide +kernel
theorem dX4_read_204 : decode cX4_read 204 = .ok (.isub, 1) := by decide +kernel
theorem dX4_read_205 : decode cX4_read 205 = .ok (.ireturn, 1) := by decide +kernel
theorem dX4_read_206 : decode cX4_read 206 = .ok (.iinc 5 2, 3) := by decide +kernel
theorem dX4_read_209 : decode cX4_read 209 = .ok (.goto (-139), 3) := by decide +kernel
theorem dX4_read_212 : decode cX4_read 212 = .ok (.aload_n 0, 1) := by decide +kernel
theorem dX4_read_213 : decode cX4_read 213 = .ok (.iload_n 2, 1) := by decide +kernel
theorem dX4_read_214 : decode cX4_read 214 = .ok (.invokevirtual 124, 3) := by decide +kernel
theorem dX4_read_217 : decode cX4_read 217 = .ok (.aload_n 0, 1) := by decide +kernel
theorem dX4_read_218 : decode cX4_read 218 = .ok (.getfield 44, 3) := by decide +kernel
theorem dX4_read_221 : decode cX4_read 221 = .ok (.ireturn, 1) := by decide +kernel
set_option maxRecDepth 20000 in
theorem ggX4_told_X4_gapEnd : GoodIn wsX4_told wsX4_gapEnd := goodIn_r _ [13, 1, 3, 14, 23, 24, 25, 26, 27, 28, 29, 30, 31, 32, 33, 34, 35, 36, 37, 38, 39, 40] (by decide +kernel) (by decide +kernel)
set_option maxRecDepth 20000 in
theorem gX4_told_X4_gapEnd : GoodIn wsX4_told (wsV RX4 84 RX4 yX4_gapEnd wsX4_gapEnd) := goodIn_app (goodIn_of _ (by decide +kernel)) ggX4_told_X4_gapEnd
set_option maxRecDepth 20000 in
theorem ggX4_told_X4_gapAt : GoodIn wsX4_told wsX4_gapAt := goodIn_r _ [18, 4, 19, 20, 21, 12, 22, 14, 2, 23, 24, 25, 26, 27, 28, 29, 30, 31, 32, 33, 34, 35, 36, 37, 38, 39, 40] (by decide +kernel) (by decide +kernel)
set_option maxRecDepth 20000 in
theorem gX4_told_X4_gapAt : GoodIn wsX4_told (wsV RX4 87 RX4 yX4_gapAt wsX4_gapAt) := goodIn_app (goodIn_of _ (by decide +kernel)) ggX4_told_X4_gapAt
theorem dX4_told_0 : decode cX4_told 0 = .ok (.iconst 0, 1) := by decide +kernel
theorem dX4_told_1 : decode cX4_told 1 = .ok (.istore_n 2, 1) := by decide +kernel
theorem dX4_told_2 : decode cX4_told 2 = .ok (.iconst 0, 1) := by decide +kernel
theorem dX4_told_3 : decode cX4_told 3 = .ok (.istore_n 3, 1) := by decide +kernel
theorem dX4_told_4 : decode cX4_told 4 = .ok (.iconst 0, 1) := by decide +kernel
theorem dX4_told_5 : decode cX4_told 5 = .ok (.istore 4, 2) := by decide +kernel
theorem dX4_told_7 : decode cX4_told 7 = .ok (.iload 4, 2) := by decide +kernel
theorem dX4_told_9 : decode cX4_told 9 = .ok (.aload_n 0, 1) := by decide +kernel
theorem dX4_told_10 : decode cX4_told 10 = .ok (.getfield 71, 3) := by decide +kernel
theorem dX4_told_13 : decode cX4_told 13 = .ok (.if_icmp .ge 42, 3) := by decide +kernel
theorem dX4_told_16 : decode cX4_told 16 = .ok (.iload_n 2, 1) := by decide +kernel
theorem dX4_told_17 : decode cX4_told 17 = .ok (.aload_n 0, 1) := by decide +kernel
theorem dX4_told_18 : decode cX4_told 18 = .ok (.getfield 16, 3) := by decide +kernel
theorem dX4_told_21 : decode cX4_told 21 = .ok (.iload 4, 2) := by decide +kernel
theorem dX4_told_23 : decode cX4_told 23 = .ok (.iaload, 1) := by decide +kernel
theorem dX4_told_24 : decode cX4_told 24 = .ok (.iadd, 1) := by decide +kernel
theorem dX4_told_25 : decode cX4_told 25 = .ok (.istore_n 2, 1) := by decide +kernel
theorem dX4_told_26 : decode cX4_told 26 = .ok (.iload_n 3, 1) := by decide +kernel
theorem dX4_told_27 : decode cX4_told 27 = .ok (.aload_n 0, 1) := by decide +kernel
theorem dX4_told_28 : decode cX4_told 28 = .ok (.iload 4, 2) := by decide +kernel
theorem dX4_told_30 : decode cX4_told 30 = .ok (.invokevirtual 84, 3) := by decide +kernel
theorem dX4_told_33 : decode cX4_told 33 = .ok (.aload_n 0, 1) := by decide +kernel
theorem dX4_told_34 : decode cX4_told 34 = .ok (.iload 4, 2) := by decide +kernel
theorem dX4_told_36 : decode cX4_told 36 = .ok (.invokevirtual 87, 3) := by decide +kernel
theorem dX4_told_39 : decode cX4_told 39 = .ok (.if_icmp .le 7, 3) := by decide +kernel
theorem dX4_told_42 : decode cX4_told 42 = .ok (.iconst 1, 1) := by decide +kernel
theorem dX4_told_43 : decode cX4_told 43 = .ok (.goto 4, 3) := by decide +kernel
theorem dX4_told_46 : decode cX4_told 46 = .ok (.iconst 0, 1) := by decide +kernel
theorem dX4_told_47 : decode cX4_told 47 = .ok (.iadd, 1) := by decide +kernel
theorem dX4_told_48 : decode cX4_told 48 = .ok (.istore_n 3, 1) := by decide +kernel
theorem dX4_told_49 : decode cX4_told 49 = .ok (.iinc 4 1, 3) := by decide +kernel
theorem dX4_told_52 : decode cX4_told 52 = .ok (.goto (-45), 3) := by decide +kernel
theorem dX4_told_55 : decode cX4_told 55 = .ok (.iload_n 3, 1) := by decide +kernel
theorem dX4_told_56 : decode cX4_told 56 = .ok (.aload_n 0, 1) := by decide +kernel
theorem dX4_told_57 : decode cX4_told 57 = .ok (.getfield 71, 3) := by decide +kernel
theorem dX4_told_60 : decode cX4_told 60 = .ok (.ifCond .le 26, 3) := by decide +kernel
theorem dX4_told_63 : decode cX4_told 63 = .ok (.aload_n 0, 1) := by decide +kernel
theorem dX4_told_64 : decode cX4_told 64 = .ok (.aload_n 0, 1) := by decide +kernel
theorem dX4_told_65 : decode cX4_told 65 = .ok (.getfield 71, 3) := by decide +kernel
theorem dX4_told_68 : decode cX4_told 68 = .ok (.invokevirtual 84, 3) := by decide +kernel
theorem dX4_told_71 : decode cX4_told 71 = .ok (.aload_n 0, 1) := by decide +kernel
theorem dX4_told_72 : decode cX4_told 72 = .ok (.aload_n 0, 1) := by decide +kernel
theorem dX4_told_73 : decode cX4_told 73 = .ok (.getfield 71, 3) := by decide +kernel
theorem dX4_told_76 : decode cX4_told 76 = .ok (.invokevirtual 87, 3) := by decide +kernel
theorem dX4_told_79 : decode cX4_told 79 = .ok (.if_icmp .le 7, 3) := by decide +kernel
theorem dX4_told_82 : decode cX4_told 82 = .ok (.iconst 1, 1) := by decide +kernel
theorem dX4_told_83 : decode cX4_told 83 = .ok (.goto 4, 3) := by decide +kernel
theorem dX4_told_86 : decode cX4_told 86 = .ok (.iconst 0, 1) := by decide +kernel
theorem dX4_told_87 : decode cX4_told 87 = .ok (.iadd, 1) := by decide +kernel
theorem dX4_told_88 : decode cX4_told 88 = .ok (.istore_n 3, 1) := by decide +kernel
theorem dX4_told_89 : decode cX4_told 89 = .ok (.iload_n 1, 1) := by decide +kernel
theorem dX4_told_90 : decode cX4_told 90 = .ok (.ifCond .ne 10, 3) := by decide +kernel
theorem dX4_told_93 : decode cX4_told 93 = .ok (.aload_n 0, 1) := by decide +kernel
theorem dX4_told_94 : decode cX4_told 94 = .ok (.getfield 44, 3) := by decide +kernel
theorem dX4_told_97 : decode cX4_told 97 = .ok (.goto 98, 3) := by decide +kernel
theorem dX4_told_100 : decode cX4_told 100 = .ok (.iload_n 1, 1) := by decide +kernel
theorem dX4_told_101 : decode cX4_told 101 = .ok (.iconst 1, 1) := by decide +kernel
theorem dX4_told_102 : decode cX4_told 102 = .ok (.if_icmp .ne 10, 3) := by decide +kernel
theorem dX4_told_105 : decode cX4_told 105 = .ok (.aload_n 0, 1) := by decide +kernel
theorem dX4_told_106 : decode cX4_told 106 = .ok (.getfield 78, 3) := by decide +kernel
theorem dX4_told_109 : decode cX4_told 109 = .ok (.goto 86, 3) := by decide +kernel
theorem dX4_told_112 : decode cX4_told 112 = .ok (.iload_n 1, 1) := by decide +kernel
theorem dX4_told_113 : decode cX4_told 113 = .ok (.iconst 2, 1) := by decide +kernel
theorem dX4_told_114 : decode cX4_told 114 = .ok (.if_icmp .ne 10, 3) := by decide +kernel
theorem dX4_told_117 : decode cX4_told 117 = .ok (.aload_n 0, 1) := by decide +kernel
theorem dX4_told_118 : decode cX4_told 118 = .ok (.getfield 71, 3) := by decide +kernel
theorem dX4_told_121 : decode cX4_told 121 = .ok (.goto 74, 3) := by decide +kernel
theorem dX4_told_124 : decode cX4_told 124 = .ok (.iload_n 1, 1) := by decide +kernel
theorem dX4_told_125 : decode cX4_told 125 = .ok (.iconst 3, 1) := by decide +kernel
theorem dX4_told_126 : decode cX4_told 126 = .ok (.if_icmp .ne 7, 3) := by decide +kernel
theorem dX4_told_129 : decode cX4_told 129 = .ok (.iload_n 2, 1) := by decide +kernel
theorem dX4_told_130 : decode cX4_told 130 = .ok (.goto 65, 3) := by decide +kernel
theorem dX4_told_133 : decode cX4_told 133 = .ok (.iload_n 1, 1) := by decide +kernel
theorem dX4_told_134 : decode cX4_told 134 = .ok (.iconst 4, 1) := by decide +kernel
theorem dX4_told_135 : decode cX4_told 135 = .ok (.if_icmp .ne 7, 3) := by decide +kernel
theorem dX4_told_138 : decode cX4_told 138 = .ok (.iload_n 3, 1) := by decide +kernel
theorem dX4_told_139 : decode cX4_told 139 = .ok (.goto 56, 3) := by decide +kernel
theorem dX4_told_142 : decode cX4_told 142 = .ok (.iload_n 1, 1) := by decide +kernel
theorem dX4_told_143 : decode cX4_told 143 = .ok (.iconst 5, 1) := by decide +kernel
theorem dX4_told_144 : decode cX4_told 144 = .ok (.if_icmp .ne 10, 3) := by decide +kernel
theorem dX4_told_147 : decode cX4_told 147 = .ok (.aload_n 0, 1) := by decide +kernel
theorem dX4_told_148 : decode cX4_told 148 = .ok (.getfield 121, 3) := by decide +kernel
theorem dX4_told_151 : decode cX4_told 151 = .ok (.goto 44, 3) := by decide +kernel
theorem dX4_told_154 : decode cX4_told 154 = .ok (.iload_n 1, 1) := by decide +kernel
theorem dX4_told_155 : decode cX4_told 155 = .ok (.bipush 6, 2) := by decide +kernel
theorem dX4_told_157 : decode cX4_told 157 = .ok (.if_icmp .ne 10, 3) := by decide +kernel
theorem dX4_told_160 : decode cX4_told 160 = .ok (.aload_n 0, 1) := by decide +kernel
theorem dX4_told_161 : decode cX4_told 161 = .ok (.getfield 128, 3) := by decide +kernel
theorem dX4_told_164 : decode cX4_told 164 = .ok (.goto 31, 3) := by decide +kernel
theorem dX4_told_167 : decode cX4_told 167 = .ok (.iload_n 1, 1) := by decide +kernel
theorem dX4_told_168 : decode cX4_told 168 = .ok (.bipush 7, 2) := by decide +kernel
theorem dX4_told_170 : decode cX4_told 170 = .ok (.if_icmp .ne 10, 3) := by decide +kernel
theorem dX4_told_173 : decode cX4_told 173 = .ok (.aload_n 0, 1) := by decide +kernel
theorem dX4_told_174 : decode cX4_told 174 = .ok (.getfield 115, 3) := by decide +kernel
theorem dX4_told_177 : decode cX4_told 177 = .ok (.goto 18, 3) := by decide +kernel
theorem dX4_told_180 : decode cX4_told 180 = .ok (.iload_n 1, 1) := by decide +kernel
theorem dX4_told_181 : decode cX4_told 181 = .ok (.bipush 8, 2) := by decide +kernel
theorem dX4_told_183 : decode cX4_told 183 = .ok (.if_icmp .ne 10, 3) := by decide +kernel
theorem dX4_told_186 : decode cX4_told 186 = .ok (.aload_n 0, 1) := by decide +kernel
theorem dX4_told_187 : decode cX4_told 187 = .ok (.getfield 118, 3) := by decide +kernel
theorem dX4_told_190 : decode cX4_told 190 = .ok (.goto 5, 3) := by decide +kernel
theorem dX4_told_193 : decode cX4_told 193 = .ok (.bipush (-11), 2) := by decide +kernel
theorem dX4_told_195 : decode cX4_told 195 = .ok (.ireturn, 1) := by decide +kernel
end
section
theorem dJ9_min_7cf53_0 : decode cJ9_min_7cf53 0 = .ok (.iload_n 0, 1) := by decide +kernel
theorem dJ9_min_7cf53_1 : decode cJ9_min_7cf53 1 = .ok (.iload_n 1, 1) := by decide +kernel
theorem dJ9_min_7cf53_2 : decode cJ9_min_7cf53 2 = .ok (.if_icmp .gt 7, 3) := by decide +kernel
theorem dJ9_min_7cf53_5 : decode cJ9_min_7cf53 5 = .ok (.iload_n 0, 1) := by decide +kernel
theorem dJ9_min_7cf53_6 : decode cJ9_min_7cf53 6 = .ok (.goto 4, 3) := by decide +kernel
theorem dJ9_min_7cf53_9 : decode cJ9_min_7cf53 9 = .ok (.iload_n 1, 1) := by decide +kernel
theorem dJ9_min_7cf53_10 : decode cJ9_min_7cf53 10 = .ok (.ireturn, 1) := by decide +kernel
theorem dJ7_rangeCheck_23922_0 : decode cJ7_rangeCheck_23922 0 = .ok (.iload_n 1, 1) := by decide +kernel
theorem dJ7_rangeCheck_23922_1 : decode cJ7_rangeCheck_23922 1 = .ok (.iload_n 2, 1) := by decide +kernel
theorem dJ7_rangeCheck_23922_2 : decode cJ7_rangeCheck_23922 2 = .ok (.if_icmp .le 44, 3) := by decide +kernel
theorem dJ7_rangeCheck_23922_5 : decode cJ7_rangeCheck_23922 5 = .ok (.new 43, 3) := by decide +kernel
theorem dJ7_rangeCheck_23922_8 : decode cJ7_rangeCheck_23922 8 = .ok (.dup, 1) := by decide +kernel
theorem dJ7_rangeCheck_23922_9 : decode cJ7_rangeCheck_23922 9 = .ok (.new 45, 3) := by decide +kernel
theorem dJ7_rangeCheck_23922_12 : decode cJ7_rangeCheck_23922 12 = .ok (.dup, 1) := by decide +kernel
theorem dJ7_rangeCheck_23922_13 : decode cJ7_rangeCheck_23922 13 = .ok (.invokespecial 47, 3) := by decide +kernel
theorem dJ7_rangeCheck_23922_16 : decode cJ7_rangeCheck_23922 16 = .ok (.ldc 48, 2) := by decide +kernel
theorem dJ7_rangeCheck_23922_18 : decode cJ7_rangeCheck_23922 18 = .ok (.invokevirtual 50, 3) := by decide +kernel
theorem dJ7_rangeCheck_23922_21 : decode cJ7_rangeCheck_23922 21 = .ok (.iload_n 1, 1) := by decide +kernel
theorem dJ7_rangeCheck_23922_22 : decode cJ7_rangeCheck_23922 22 = .ok (.invokevirtual 54, 3) := by decide +kernel
theorem dJ7_rangeCheck_23922_25 : decode cJ7_rangeCheck_23922 25 = .ok (.ldc 57, 2) := by decide +kernel
theorem dJ7_rangeCheck_23922_27 : decode cJ7_rangeCheck_23922 27 = .ok (.invokevirtual 50, 3) := by decide +kernel
theorem dJ7_rangeCheck_23922_30 : decode cJ7_rangeCheck_23922 30 = .ok (.iload_n 2, 1) := by decide +kernel
theorem dJ7_rangeCheck_23922_31 : decode cJ7_rangeCheck_23922 31 = .ok (.invokevirtual 54, 3) := by decide +kernel
theorem dJ7_rangeCheck_23922_34 : decode cJ7_rangeCheck_23922 34 = .ok (.ldc 59, 2) := by decide +kernel
theorem dJ7_rangeCheck_23922_36 : decode cJ7_rangeCheck_23922 36 = .ok (.invokevirtual 50, 3) := by decide +kernel
theorem dJ7_rangeCheck_23922_39 : decode cJ7_rangeCheck_23922 39 = .ok (.invokevirtual 61, 3) := by decide +kernel
theorem dJ7_rangeCheck_23922_42 : decode cJ7_rangeCheck_23922 42 = .ok (.invokespecial 65, 3) := by decide +kernel
theorem dJ7_rangeCheck_23922_45 : decode cJ7_rangeCheck_23922 45 = .ok (.athrow, 1) := by decide +kernel
theorem dJ7_rangeCheck_23922_46 : decode cJ7_rangeCheck_23922 46 = .ok (.iload_n 1, 1) := by decide +kernel
theorem dJ7_rangeCheck_23922_47 : decode cJ7_rangeCheck_23922 47 = .ok (.ifCond .ge 12, 3) := by decide +kernel
theorem dJ7_rangeCheck_23922_50 : decode cJ7_rangeCheck_23922 50 = .ok (.new 68, 3) := by decide +kernel
theorem dJ7_rangeCheck_23922_53 : decode cJ7_rangeCheck_23922 53 = .ok (.dup, 1) := by decide +kernel
theorem dJ7_rangeCheck_23922_54 : decode cJ7_rangeCheck_23922 54 = .ok (.iload_n 1, 1) := by decide +kernel
theorem dJ7_rangeCheck_23922_55 : decode cJ7_rangeCheck_23922 55 = .ok (.invokespecial 70, 3) := by decide +kernel
theorem dJ7_rangeCheck_23922_58 : decode cJ7_rangeCheck_23922 58 = .ok (.athrow, 1) := by decide +kernel
theorem dJ7_rangeCheck_23922_59 : decode cJ7_rangeCheck_23922 59 = .ok (.iload_n 2, 1) := by decide +kernel
theorem dJ7_rangeCheck_23922_60 : decode cJ7_rangeCheck_23922 60 = .ok (.iload_n 0, 1) := by decide +kernel
theorem dJ7_rangeCheck_23922_61 : decode cJ7_rangeCheck_23922 61 = .ok (.if_icmp .le 12, 3) := by decide +kernel
theorem dJ7_rangeCheck_23922_64 : decode cJ7_rangeCheck_23922 64 = .ok (.new 68, 3) := by decide +kernel
theorem dJ7_rangeCheck_23922_67 : decode cJ7_rangeCheck_23922 67 = .ok (.dup, 1) := by decide +kernel
theorem dJ7_rangeCheck_23922_68 : decode cJ7_rangeCheck_23922 68 = .ok (.iload_n 2, 1) := by decide +kernel
theorem dJ7_rangeCheck_23922_69 : decode cJ7_rangeCheck_23922 69 = .ok (.invokespecial 70, 3) := by decide +kernel
theorem dJ7_rangeCheck_23922_72 : decode cJ7_rangeCheck_23922 72 = .ok (.athrow, 1) := by decide +kernel
theorem dJ7_rangeCheck_23922_73 : decode cJ7_rangeCheck_23922 73 = .ok (.return_, 1) := by decide +kernel
theorem dJ7_fill_031fb_0 : decode cJ7_fill_031fb 0 = .ok (.iconst 0, 1) := by decide +kernel
theorem dJ7_fill_031fb_1 : decode cJ7_fill_031fb 1 = .ok (.istore_n 2, 1) := by decide +kernel
theorem dJ7_fill_031fb_2 : decode cJ7_fill_031fb 2 = .ok (.aload_n 0, 1) := by decide +kernel
theorem dJ7_fill_031fb_3 : decode cJ7_fill_031fb 3 = .ok (.arraylength, 1) := by decide +kernel
theorem dJ7_fill_031fb_4 : decode cJ7_fill_031fb 4 = .ok (.istore_n 3, 1) := by decide +kernel
theorem dJ7_fill_031fb_5 : decode cJ7_fill_031fb 5 = .ok (.iload_n 2, 1) := by decide +kernel
theorem dJ7_fill_031fb_6 : decode cJ7_fill_031fb 6 = .ok (.iload_n 3, 1) := by decide +kernel
theorem dJ7_fill_031fb_7 : decode cJ7_fill_031fb 7 = .ok (.if_icmp .ge 13, 3) := by decide +kernel
theorem dJ7_fill_031fb_10 : decode cJ7_fill_031fb 10 = .ok (.aload_n 0, 1) := by decide +kernel
theorem dJ7_fill_031fb_11 : decode cJ7_fill_031fb 11 = .ok (.iload_n 2, 1) := by decide +kernel
theorem dJ7_fill_031fb_12 : decode cJ7_fill_031fb 12 = .ok (.iload_n 1, 1) := by decide +kernel
theorem dJ7_fill_031fb_13 : decode cJ7_fill_031fb 13 = .ok (.bastore, 1) := by decide +kernel
theorem dJ7_fill_031fb_14 : decode cJ7_fill_031fb 14 = .ok (.iinc 2 1, 3) := by decide +kernel
theorem dJ7_fill_031fb_17 : decode cJ7_fill_031fb 17 = .ok (.goto (-12), 3) := by decide +kernel
theorem dJ7_fill_031fb_20 : decode cJ7_fill_031fb 20 = .ok (.return_, 1) := by decide +kernel
set_option maxRecDepth 20000 in
theorem ggJ7_fill_eb02e_J7_rangeCheck_23922 : GoodIn wsJ7_fill_eb02e wsJ7_rangeCheck_23922 := goodIn_r _ [4] (by decide +kernel) (by decide +kernel)
set_option maxRecDepth 20000 in
theorem gJ7_fill_eb02e_J7_rangeCheck_23922 : GoodIn wsJ7_fill_eb02e (va_wsS RJ7 13 yJ7_rangeCheck_23922 wsJ7_rangeCheck_23922) := goodIn_app (goodIn_of _ (by decide +kernel)) ggJ7_fill_eb02e_J7_rangeCheck_23922
theorem dJ7_fill_eb02e_0 : decode cJ7_fill_eb02e 0 = .ok (.aload_n 0, 1) := by decide +kernel
theorem dJ7_fill_eb02e_1 : decode cJ7_fill_eb02e 1 = .ok (.arraylength, 1) := by decide +kernel
theorem dJ7_fill_eb02e_2 : decode cJ7_fill_eb02e 2 = .ok (.iload_n 1, 1) := by decide +kernel
theorem dJ7_fill_eb02e_3 : decode cJ7_fill_eb02e 3 = .ok (.iload_n 2, 1) := by decide +kernel
theorem dJ7_fill_eb02e_4 : decode cJ7_fill_eb02e 4 = .ok (.invokestatic 13, 3) := by decide +kernel
theorem dJ7_fill_eb02e_7 : decode cJ7_fill_eb02e 7 = .ok (.iload_n 1, 1) := by decide +kernel
theorem dJ7_fill_eb02e_8 : decode cJ7_fill_eb02e 8 = .ok (.istore 4, 2) := by decide +kernel
theorem dJ7_fill_eb02e_10 : decode cJ7_fill_eb02e 10 = .ok (.iload 4, 2) := by decide +kernel
theorem dJ7_fill_eb02e_12 : decode cJ7_fill_eb02e 12 = .ok (.iload_n 2, 1) := by decide +kernel
theorem dJ7_fill_eb02e_13 : decode cJ7_fill_eb02e 13 = .ok (.if_icmp .ge 14, 3) := by decide +kernel
theorem dJ7_fill_eb02e_16 : decode cJ7_fill_eb02e 16 = .ok (.aload_n 0, 1) := by decide +kernel
theorem dJ7_fill_eb02e_17 : decode cJ7_fill_eb02e 17 = .ok (.iload 4, 2) := by decide +kernel
theorem dJ7_fill_eb02e_19 : decode cJ7_fill_eb02e 19 = .ok (.iload_n 3, 1) := by decide +kernel
theorem dJ7_fill_eb02e_20 : decode cJ7_fill_eb02e 20 = .ok (.bastore, 1) := by decide +kernel
theorem dJ7_fill_eb02e_21 : decode cJ7_fill_eb02e 21 = .ok (.iinc 4 1, 3) := by decide +kernel
theorem dJ7_fill_eb02e_24 : decode cJ7_fill_eb02e 24 = .ok (.goto (-14), 3) := by decide +kernel
theorem dJ7_fill_eb02e_27 : decode cJ7_fill_eb02e 27 = .ok (.return_, 1) := by decide +kernel
end
section
/-- a row of numbers as a row of ints -/
def nf (f : Nat → Nat) : Nat → Int32 := fun j => nI (f j)
theorem nf_at {f : Nat → Nat} {i : Nat} (h : i < 2 ^ 31) : nf f (nI i).toNatClampNeg = nI (f i) := by
  rw [nI_clamp h]; rfl
theorem nf_up {f : Nat → Nat} {i v : Nat} (h : i < 2 ^ 31) : upd (nf f) (nI i).toNatClampNeg (nI v) = nf (va_up f i v) := by
  rw [nI_clamp h]
  funext j
  by_cases hj : j = i
  · simp [upd, nf, va_up, hj]
  · simp [upd, nf, va_up, hj]
theorem nI_inc (n : Nat) : nI n + Int32.ofInt 1 = nI (n + 1) := nI_1 n
theorem nI_inc8 (n : Nat) : nI n + Int32.ofInt 8 = nI (n + 8) := nI_add n 8
theorem nI_dec {n : Nat} (h : 1 ≤ n) : nI n + Int32.ofInt (-1) = nI (n - 1) := by
  obtain ⟨k, rfl⟩ : ∃ k, n = k + 1 := ⟨n - 1, by omega⟩
  exact pk_m1 k
theorem nZ_lt {n : Nat} (h : n < 2 ^ 31) : nI n < 0 ↔ n < 0 := ⟨fun q => absurd q (nI_pos h), fun q => absurd q (Nat.not_lt_zero _)⟩
theorem nZ_ge {n : Nat} (h : n < 2 ^ 31) : 0 ≤ nI n ↔ 0 ≤ n := ⟨fun _ => Nat.zero_le _, fun _ => nI_pos' h⟩
theorem nZ_eq {n : Nat} (h : n < 2 ^ 31) : nI n = 0 ↔ n = 0 := (nI_eq (b := 0) h (by decide))
theorem nZ_le {n : Nat} (h : n < 2 ^ 31) : nI n ≤ 0 ↔ n ≤ 0 := (nI_leI (b := 0) h (by decide))
theorem nZ_gt {n : Nat} (h : n < 2 ^ 31) : 0 < nI n ↔ 0 < n := (nI_ltI (a := 0) (by decide) h)
theorem i0_ge {x : Int32} : 0 ≤ x ↔ ¬ x < 0 := Int32.not_lt.symm
theorem i0_nge {x : Int32} : ¬ 0 ≤ x ↔ x < 0 := Int32.not_le
section LP
variable {p : Program} {l : Launch} {e : Env} {R : Room} {s : State} {m : MethodId} {args : Array Value} {below : List Frame} {meth : Method} {c : Code} {H : Heap} {locs : List Loc} {cells slots : Nat} {Q : State → Prop}
theorem tpi {pc : Nat} {ls : Array Slot} {rest : List Value} {x y : Int32} (h : x = y) (k : W p l e R s m args below meth c H locs cells slots Q (F0 m pc ls (.int y :: rest))) : W p l e R s m args below meth c H locs cells slots Q (F0 m pc ls (.int x :: rest)) := h ▸ k
theorem tpl {pc : Nat} {ls : Array Slot} {rest : List Value} {x y : Int64} (h : x = y) (k : W p l e R s m args below meth c H locs cells slots Q (F0 m pc ls (.long y :: rest))) : W p l e R s m args below meth c H locs cells slots Q (F0 m pc ls (.long x :: rest)) := h ▸ k
/-- a loop that writes nothing -/
theorem lp_still {pc nL : Nat} {rest : List Value} {σ : Type} (Inv : σ → Prop) (μ : σ → Nat) (lv : σ → List (Nat × Value))
    (step : ∀ x : σ, Inv x → (∀ y : σ, Inv y → μ y < μ x → ∀ ls : Array Slot, lv_has ls nL (lv y) → W p l e R s m args below meth c H locs cells slots Q (F0 m pc ls rest)) → ∀ ls : Array Slot, lv_has ls nL (lv x) → W p l e R s m args below meth c H locs cells slots Q (F0 m pc ls rest))
    (x : σ) (hI : Inv x) {ls : Array Slot} (hl : lv_has ls nL (lv x)) : W p l e R s m args below meth c H locs cells slots Q (F0 m pc ls rest) := by
  have key : ∀ (n : Nat) (x : σ), μ x < n → Inv x → ∀ ls : Array Slot, lv_has ls nL (lv x) → W p l e R s m args below meth c H locs cells slots Q (F0 m pc ls rest) := by
    intro n
    induction n with
    | zero => intro x h; exact absurd h (Nat.not_lt_zero _)
    | succ n ih => intro x h hI ls hl; exact step x hI (fun y hy hm ls hl => ih y (by omega) hy ls hl) ls hl
  exact key (μ x + 1) x (Nat.lt_succ_self _) hI ls hl
/-- a loop that writes the world -/
theorem lp_world {pc nL : Nat} {rest : List Value} {σ : Type} {D : va_G} {cl : List vw_C} {A : Nat → Prop} {H0 : Heap} (Inv : σ → Prop) (μ : σ → Nat) (lv : σ → List (Nat × Value)) (ws : σ → va_W)
    (step : ∀ x : σ, Inv x → (∀ y : σ, Inv y → μ y < μ x → ∀ (H : Heap) (locs : List Loc) (ls : Array Slot), va_P D cl (ws y) H → va_D A (ws y) → va_S A H0 H locs → lv_has ls nL (lv y) → W p l e R s m args below meth c H locs cells slots Q (F0 m pc ls rest)) → ∀ (H : Heap) (locs : List Loc) (ls : Array Slot), va_P D cl (ws x) H → va_D A (ws x) → va_S A H0 H locs → lv_has ls nL (lv x) → W p l e R s m args below meth c H locs cells slots Q (F0 m pc ls rest))
    (x : σ) (hI : Inv x) (hP : va_P D cl (ws x) H) (hD : va_D A (ws x)) (hS : va_S A H0 H locs) {ls : Array Slot} (hl : lv_has ls nL (lv x)) : W p l e R s m args below meth c H locs cells slots Q (F0 m pc ls rest) := by
  have key : ∀ (n : Nat) (x : σ), μ x < n → Inv x → ∀ (H : Heap) (locs : List Loc) (ls : Array Slot), va_P D cl (ws x) H → va_D A (ws x) → va_S A H0 H locs → lv_has ls nL (lv x) → W p l e R s m args below meth c H locs cells slots Q (F0 m pc ls rest) := by
    intro n
    induction n with
    | zero => intro x h; exact absurd h (Nat.not_lt_zero _)
    | succ n ih => intro x h hI H locs ls hP hD hS hl; exact step x hI (fun y hy hm H locs ls hP hD hS hl => ih y (by omega) hy H locs ls hP hD hS hl) H locs ls hP hD hS hl
  exact key (μ x + 1) x (Nat.lt_succ_self _) hI H locs ls hP hD hS hl
end LP
/-- the reference's cells: the object, then its eleven rows -/
abbrev mw (cI : ClassId) (a : Nat → Nat) (sz st us kp ga gl cs : Nat) (mem pl ln km ks kt ku kl kn cd wt : Nat → Nat) : va_W :=
  [(a 0, .inr (4, [.ref (a 1), .int (nI sz), .int (nI st), .int (nI us), .ref (a 2), .ref (a 3), .int (nI kp), .ref (a 4), .ref (a 5), .ref (a 6), .ref (a 7), .ref (a 8), .ref (a 9), .int (nI ga), .int (nI gl), .ref (a 10), .int (nI cs), .ref (a 11)])),
   (a 1, .inl (cI, 8192, .inl (nf mem))), (a 2, .inl (cI, 65, .inl (nf pl))), (a 3, .inl (cI, 65, .inl (nf ln))), (a 4, .inl (cI, 40960, .inl (nf km))), (a 5, .inl (cI, 5, .inl (nf ks))), (a 6, .inl (cI, 5, .inl (nf kt))), (a 7, .inl (cI, 5, .inl (nf ku))), (a 8, .inl (cI, 320, .inl (nf kl))), (a 9, .inl (cI, 320, .inl (nf kn))), (a 10, .inl (cI, 20000, .inl (nf cd))), (a 11, .inl (cI, 64, .inl (nf wt)))]
end
section
/-! ===== nI under and, xor, >>>, one bit, 65535 ===== -/
theorem nx_and (a b : Nat) : nI a &&& nI b = nI (a &&& b) := by
  apply Int32.toBitVec_inj.1
  show BitVec.ofNat 32 a &&& BitVec.ofNat 32 b = BitVec.ofNat 32 (a &&& b)
  apply BitVec.eq_of_getLsbD_eq
  intro i hi
  simp [hi]
theorem nx_xor (a b : Nat) : nI a ^^^ nI b = nI (a ^^^ b) := by
  apply Int32.toBitVec_inj.1
  show BitVec.ofNat 32 a ^^^ BitVec.ofNat 32 b = BitVec.ofNat 32 (a ^^^ b)
  apply BitVec.eq_of_getLsbD_eq
  intro i hi
  simp [hi]
theorem nx_cnt : ∀ j : Fin 32, (UInt32.ofNat j.val &&& Int32.toUInt32 31).toNat % 32 = j.val := by decide +kernel
theorem nx_ush {k j : Nat} (hk : k < 65536) (hj : j < 32) : ((nI k).toUInt32 >>> ((nI j).toUInt32 &&& Int32.toUInt32 31)).toInt32 = nI (k >>> j) := by
  have hs : k >>> j ≤ k := by
    rw [Nat.shiftRight_eq_div_pow]
    exact Nat.div_le_self _ _
  have e2 : UInt32.ofNat k >>> (UInt32.ofNat j &&& Int32.toUInt32 31) = UInt32.ofNat (k >>> j) := by
    apply UInt32.toNat_inj.1
    have h1 : (UInt32.ofNat k).toNat = k := Nat.mod_eq_of_lt (by omega)
    have h2 : (UInt32.ofNat (k >>> j)).toNat = k >>> j := Nat.mod_eq_of_lt (by omega)
    rw [UInt32.toNat_shiftRight, nx_cnt ⟨j, hj⟩, h1, h2]
  show (UInt32.ofNat k >>> (UInt32.ofNat j &&& Int32.toUInt32 31)).toInt32 = _
  rw [e2]
  rfl
theorem nx_bit {k j : Nat} (hk : k < 65536) (hj : j < 16) : (((nI k).toUInt32 >>> ((nI j).toUInt32 &&& Int32.toUInt32 31)).toInt32 &&& 1) = 0 ↔ k.testBit j = false := by
  rw [nx_ush hk (by omega)]
  show nI (k >>> j) &&& nI 1 = 0 ↔ _
  rw [nx_and, Nat.and_one_is_mod, ← nI_0, nI_eq (by omega) (by omega), Nat.testBit_eq_decide_div_mod_eq, Nat.shiftRight_eq_div_pow, decide_eq_false_iff_not]
  generalize k / 2 ^ j = z
  omega
theorem nx_mod (k : Nat) : nI k &&& 65535 = nI (k % 65536) := by
  show nI k &&& nI 65535 = _
  rw [nx_and, show (65535 : Nat) = 2 ^ 16 - 1 from rfl, Nat.and_two_pow_sub_one_eq_mod]
theorem nx_m16 {k : Nat} (h : k < 65536) : nI k &&& 65535 = nI k := by rw [nx_mod, Nat.mod_eq_of_lt h]
theorem nx_mask (x : Int32) : ∃ k, k < 65536 ∧ x &&& 65535 = nI k := by
  have e : x = nI x.toBitVec.toNat := by
    apply Int32.toBitVec_inj.1
    show x.toBitVec = BitVec.ofNat 32 x.toBitVec.toNat
    simp
  refine ⟨x.toBitVec.toNat % 65536, Nat.mod_lt _ (by omega), ?_⟩
  rw [← nx_mod, ← e]
/-! ===== a byte read unsigned ===== -/
theorem bp_b (x : Int32) : x.toInt8.toInt32 &&& 255 = x &&& 255 := by
  apply Int32.toBitVec_inj.mp
  rw [Int32.toBitVec_and, Int32.toBitVec_and, Int8.toBitVec_toInt32, Int32.toBitVec_toInt8]
  apply BitVec.eq_of_getLsbD_eq
  intro i hi
  rw [BitVec.getLsbD_and, BitVec.getLsbD_and]
  have hm : ∀ i < 32, 8 ≤ i → (255 : Int32).toBitVec.getLsbD i = false := by decide
  rcases Nat.lt_or_ge i 8 with z | z
  · rw [BitVec.getLsbD_signExtend, BitVec.getLsbD_signExtend, if_pos z, if_pos hi]
    simp only [z, hi, decide_true, Bool.true_and]
  · rw [hm i hi z]; simp
/-! ===== lN n to 2^64: shifts, and, or, masks, one bit ===== -/
theorem wb_tb (n : Nat) : (lN n).toBitVec = BitVec.ofNat 64 n := rfl
theorem wb_inj {a b : Int64} (h : a.toBitVec = b.toBitVec) : a = b := Int64.toBitVec_inj.mp h
theorem wb_tn {n : Nat} (h : n < 2 ^ 64) : (lN n).toBitVec.toNat = n := by rw [wb_tb, BitVec.toNat_ofNat, Nat.mod_eq_of_lt h]
theorem wb_of (x : Int64) : ∃ n, n < 2 ^ 64 ∧ x = lN n := ⟨x.toBitVec.toNat, x.toBitVec.isLt, wb_inj (by rw [wb_tb]; simp)⟩
theorem wb_of32 (x : Int32) : ∃ n, n < 2 ^ 32 ∧ x = nI n := ⟨x.toBitVec.toNat, x.toBitVec.isLt, Int32.toBitVec_inj.mp (by show _ = BitVec.ofNat 32 _; simp)⟩
theorem wb_c : ∀ k, k < 64 → ((nI k).toInt64 &&& 63) = lN k := by decide +kernel
theorem wb_cu : ∀ k, k < 64 → ((nI k).toInt64.toUInt64 &&& Int64.toUInt64 63) = UInt64.ofNat k := by decide +kernel
theorem wb_sm : ∀ k, k < 64 → (BitVec.ofNat 64 k).smod 64 = BitVec.ofNat 64 k := by decide +kernel
theorem wb_pw {a b : Nat} (h : a ≤ b) : 2 ^ b = 2 ^ a * 2 ^ (b - a) := by rw [← Nat.pow_add]; congr 1; omega
theorem wb_lt2 {a b : Nat} (h : a < b) : 2 ^ a < 2 ^ b := Nat.pow_lt_pow_right (by decide) h
theorem wb_mod (n : Nat) : lN n = lN (n % 2 ^ 64) := wb_inj (by rw [wb_tb, wb_tb]; apply BitVec.eq_of_toNat_eq; rw [BitVec.toNat_ofNat, BitVec.toNat_ofNat, Nat.mod_mod])
theorem wb_shr {n k : Nat} (hn : n < 2 ^ 64) (hk : k < 64) : ((lN n).toUInt64 >>> ((nI k).toInt64.toUInt64 &&& Int64.toUInt64 63)).toInt64 = lN (n / 2 ^ k) := by
  rw [wb_cu k hk]
  apply wb_inj
  apply BitVec.eq_of_toNat_eq
  show ((lN n).toUInt64 >>> UInt64.ofNat k).toNat = (BitVec.ofNat 64 _).toNat
  have h1 : (UInt64.ofNat k).toNat = k := by
    show (BitVec.ofNat 64 k).toNat = k
    rw [BitVec.toNat_ofNat, Nat.mod_eq_of_lt (by omega)]
  have h2 : (lN n).toUInt64.toNat = n := wb_tn hn
  rw [UInt64.toNat_shiftRight, h1, h2, Nat.mod_eq_of_lt hk, Nat.shiftRight_eq_div_pow, BitVec.toNat_ofNat, Nat.mod_eq_of_lt (Nat.lt_of_le_of_lt (Nat.div_le_self _ _) hn)]
theorem wb_shl (n : Nat) {k : Nat} (hk : k < 64) : lN n <<< ((nI k).toInt64 &&& 63) = lN (n * 2 ^ k) := by
  rw [wb_c k hk]
  apply wb_inj
  rw [Int64.toBitVec_shiftLeft, wb_tb, wb_tb, wb_tb, wb_sm k hk]
  apply BitVec.eq_of_toNat_eq
  rw [BitVec.shiftLeft_eq', BitVec.toNat_shiftLeft, BitVec.toNat_ofNat, BitVec.toNat_ofNat, BitVec.toNat_ofNat, Nat.mod_eq_of_lt (show k < 2 ^ 64 by omega), Nat.shiftLeft_eq, Nat.mul_mod, Nat.mod_mod, ← Nat.mul_mod]
theorem wb_and {a b : Nat} (ha : a < 2 ^ 64) (hb : b < 2 ^ 64) : lN a &&& lN b = lN (a &&& b) := by
  apply wb_inj
  rw [Int64.toBitVec_and, wb_tb, wb_tb, wb_tb]
  apply BitVec.eq_of_toNat_eq
  rw [BitVec.toNat_and, BitVec.toNat_ofNat, BitVec.toNat_ofNat, BitVec.toNat_ofNat, Nat.mod_eq_of_lt ha, Nat.mod_eq_of_lt hb, Nat.mod_eq_of_lt (Nat.and_lt_two_pow _ hb)]
theorem wb_or {a b : Nat} (ha : a < 2 ^ 64) (hb : b < 2 ^ 64) : lN a ||| lN b = lN (a ||| b) := by
  apply wb_inj
  rw [Int64.toBitVec_or, wb_tb, wb_tb, wb_tb]
  apply BitVec.eq_of_toNat_eq
  rw [BitVec.toNat_or, BitVec.toNat_ofNat, BitVec.toNat_ofNat, BitVec.toNat_ofNat, Nat.mod_eq_of_lt ha, Nat.mod_eq_of_lt hb, Nat.mod_eq_of_lt (Nat.or_lt_two_pow ha hb)]
theorem wb_mask {n k : Nat} (hn : n < 2 ^ 64) (hk : k < 64) : lN n &&& lN (2 ^ k - 1) = lN (n % 2 ^ k) := by
  rw [wb_and hn (by have := wb_lt2 hk; omega), Nat.and_two_pow_sub_one_eq_mod]
theorem wb_a1 {n : Nat} (hn : n < 2 ^ 64) : lN n &&& 1 = lN (n % 2) := wb_mask (k := 1) hn (by decide)
theorem wb_bit {n k : Nat} (hn : n < 2 ^ 64) (hk : k < 64) : ((lN n).toUInt64 >>> ((nI k).toInt64.toUInt64 &&& Int64.toUInt64 63)).toInt64 &&& 1 = lN (n / 2 ^ k % 2) := by
  rw [wb_shr hn hk, wb_a1 (Nat.lt_of_le_of_lt (Nat.div_le_self _ _) hn)]
theorem wb_xor {q k : Nat} (hk : k < 63) (h : 2 ^ k ≤ q) (h2 : q < 2 ^ (k + 1)) : lN q ^^^ lN (2 ^ k) = lN (q - 2 ^ k) := by
  obtain ⟨r, rfl⟩ : ∃ r, q = 2 ^ k + r := ⟨q - 2 ^ k, by omega⟩
  have hr : r < 2 ^ k := by rw [Nat.pow_succ] at h2; omega
  have hx : (2 ^ k + r) ^^^ 2 ^ k = r := by
    apply Nat.eq_of_testBit_eq
    intro i
    rw [Nat.testBit_xor, Nat.testBit_two_pow]
    rcases Nat.lt_trichotomy i k with h | h | h
    · rw [Nat.testBit_two_pow_add_gt h]
      simp [show ¬ k = i by omega]
    · subst h
      rw [Nat.testBit_two_pow_add_eq]
      simp
    · have a1 : 2 ^ (k + 1) ≤ 2 ^ i := Nat.pow_le_pow_right (by decide) h
      rw [Nat.testBit_lt_two_pow (show 2 ^ k + r < 2 ^ i by omega), Nat.testBit_lt_two_pow (show r < 2 ^ i by omega)]
      simp [show ¬ k = i by omega]
  have b1 := wb_lt2 (show k + 1 < 64 by omega)
  have b2 := wb_lt2 (show k < 64 by omega)
  apply wb_inj
  rw [Int64.toBitVec_xor, wb_tb, wb_tb, wb_tb]
  apply BitVec.eq_of_toNat_eq
  rw [BitVec.toNat_xor, BitVec.toNat_ofNat, BitVec.toNat_ofNat, BitVec.toNat_ofNat, Nat.mod_eq_of_lt (by omega : 2 ^ k + r < 2 ^ 64), Nat.mod_eq_of_lt b2, hx, Nat.add_sub_cancel_left, Nat.mod_eq_of_lt (by omega)]
/-! ===== lN: masks, 'or' of parts that don't overlap is a sum ===== -/
theorem u_tn {n : Nat} (h : n < 2 ^ 64) : (UInt64.ofNat n).toNat = n := Nat.mod_eq_of_lt h
theorem g_and {a b c : Nat} (ha : a < 2 ^ 64) (hb : b < 2 ^ 64) (hc : a &&& b = c) : lN a &&& lN b = lN c := by
  subst hc
  have h : UInt64.ofNat a &&& UInt64.ofNat b = UInt64.ofNat (a &&& b) := UInt64.toNat_inj.mp (by rw [UInt64.toNat_and, u_tn ha, u_tn hb, u_tn (Nat.and_lt_two_pow a hb)])
  have h2 := congrArg UInt64.toInt64 h
  exact h2
theorem g_and1 {a : Nat} (ha : a < 2 ^ 64) : lN a &&& 1 = lN (a % 2) := g_and (b := 1) ha (by decide) (Nat.and_two_pow_sub_one_eq_mod a 1)
theorem g_mask {a s p : Nat} (hp : 2 ^ s = p) (hs : s < 64) (ha : a < 2 ^ 64) : lN a &&& lN (p - 1) = lN (a % p) := by
  subst hp
  have := Nat.pow_lt_pow_right (show 1 < 2 by decide) hs
  exact g_and ha (by omega) (Nat.and_two_pow_sub_one_eq_mod a s)
theorem g_or {k p a b : Nat} (hp : 2 ^ k = p) (ha : a < p) (h : b * p + a < 2 ^ 64) : lN (b * p) ||| lN a = lN (b * p + a) := by
  subst hp
  have h1 : b * 2 ^ k ||| a = b * 2 ^ k + a := by rw [← Nat.shiftLeft_eq, Nat.shiftLeft_add_eq_or_of_lt ha]
  have h3 : UInt64.ofNat (b * 2 ^ k) ||| UInt64.ofNat a = UInt64.ofNat (b * 2 ^ k + a) := UInt64.toNat_inj.mp (by rw [UInt64.toNat_or, u_tn (by omega), u_tn (by omega), u_tn h, h1])
  have h2 := congrArg UInt64.toInt64 h3
  exact h2
theorem g_or' {k p a b : Nat} (hp : 2 ^ k = p) (ha : a < p) (h : a + b * p < 2 ^ 64) : lN a ||| lN (b * p) = lN (a + b * p) := by
  rw [Int64.or_comm, g_or hp ha (by omega), Nat.add_comm]
theorem g_ushr {a k p : Nat} {y : UInt64} (hy : y = UInt64.ofNat k) (hk : k < 64) (hp : 2 ^ k = p) (ha : a < 2 ^ 64) : ((lN a).toUInt64 >>> y).toInt64 = lN (a / p) := by
  subst hy hp
  have h : UInt64.ofNat a >>> UInt64.ofNat k = UInt64.ofNat (a / 2 ^ k) := UInt64.toNat_inj.mp (by rw [UInt64.toNat_shiftRight, u_tn ha, u_tn (by omega), u_tn (Nat.lt_of_le_of_lt (Nat.div_le_self _ _) ha), Nat.mod_eq_of_lt hk, Nat.shiftRight_eq_div_pow])
  have h2 := congrArg UInt64.toInt64 h
  exact h2
theorem g_shl {a k p : Nat} {y : Int64} (hy : y.toBitVec.smod 64 = BitVec.ofNat 64 k) (hk : k < 64) (hp : 2 ^ k = p) (ha : a < 2 ^ 64) : lN a <<< y = lN (a * p) := by
  subst hp
  apply Int64.toBitVec_inj.mp
  rw [Int64.toBitVec_shiftLeft, hy]
  apply BitVec.eq_of_toNat_eq
  have hb : (lN a).toBitVec.toNat = a := Nat.mod_eq_of_lt ha
  have hk' : (BitVec.ofNat 64 k).toNat = k := Nat.mod_eq_of_lt (by omega)
  have h : ((lN a).toBitVec <<< BitVec.ofNat 64 k).toNat = (a * 2 ^ k) % 2 ^ 64 := by simp only [BitVec.shiftLeft_eq', BitVec.toNat_shiftLeft, hb, hk', Nat.shiftLeft_eq]
  exact h
end
section
/-- what a byte is at first -/
def fst (i : Nat) : Nat := if i < 64 then 7 * i % 256 else 0
theorem fst_lt (i : Nat) : fst i < 256 := by unfold fst; split <;> omega
theorem fst_0 {i : Nat} (h : 64 ≤ i) : fst i = 0 := by unfold fst; rw [if_neg (by omega)]
/-- the number of k bytes at x, the highest first -/
def num (f : Nat → Nat) (x : Nat) : Nat → Nat
  | 0 => 0
  | k + 1 => num f x k * 256 + f (x + k)
theorem num_lt {f : Nat → Nat} {x : Nat} (h : ∀ j, f j < 256) : ∀ k, num f x k < 256 ^ k
  | 0 => by simp [num]
  | k + 1 => by
    have h1 := num_lt (x := x) h k
    have h2 := h (x + k)
    show num f x k * 256 + f (x + k) < 256 ^ k * 256
    omega
theorem num_lt4 {f : Nat → Nat} {x k : Nat} (h : ∀ j, f j < 256) (hk : k ≤ 4) : num f x k < 2 ^ 32 := by
  have h1 := num_lt (x := x) h k
  rcases (show k = 0 ∨ k = 1 ∨ k = 2 ∨ k = 3 ∨ k = 4 by omega) with rfl | rfl | rfl | rfl | rfl <;> omega
theorem or8 {a b : Nat} (hb : b < 256) : nI (a * 256) ||| nI b = nI (a * 256 + b) := by
  have h : a * 256 ||| b = a * 256 + b := by
    rw [show a * 256 = a <<< 8 by rw [Nat.shiftLeft_eq], Nat.shiftLeft_add_eq_or_of_lt (by omega)]
  rw [← h]
  apply Int32.toBitVec_inj.1
  show BitVec.ofNat 32 (a * 256) ||| BitVec.ofNat 32 b = BitVec.ofNat 32 (a * 256 ||| b)
  apply BitVec.eq_of_getLsbD_eq
  intro i hi
  simp [hi]
theorem shl8 {a : Nat} (h : a < 2 ^ 20) : nI a <<< (nI 8 &&& 31) = nI (a * 256) := pk_shlN (nI 8 &&& 31) 8 (by decide) (by omega)
theorem shl8l (n : Nat) : lN n <<< ((nI 8).toInt64 &&& 63) = lN (n * 256) := wb_shl n (k := 8) (by decide)
theorem or8l {a b : Nat} (hb : b < 256) (ha : a < 2 ^ 50) : lN (a * 256) ||| lN b = lN (a * 256 + b) := g_or (k := 8) (p := 256) (by decide) hb (by omega)
theorem and255 {n : Nat} (h : n < 2 ^ 32) : nI n &&& nI 255 = nI (n % 256) := pk_andN h (m := nI 255) 8 (by decide)
/-- two rows of k bytes, from place i on: 0 the same, 1 the first is less where they part, 2 it is greater -/
def cmpF (f : Nat → Nat) (x : Nat) (g : Nat → Nat) (k : Nat) : Nat → Nat → Nat
  | 0, _ => 0
  | n + 1, i => if k ≤ i then 0 else if f (x + i) = g i then cmpF f x g k n (i + 1) else if f (x + i) < g i then 1 else 2
def cmpB (f : Nat → Nat) (x : Nat) (g : Nat → Nat) (k : Nat) : Nat := cmpF f x g k k 0
theorem cmpF_end {f : Nat → Nat} {x : Nat} {g : Nat → Nat} {k i n : Nat} (h : k ≤ i) : cmpF f x g k n i = 0 := by
  cases n with
  | zero => rfl
  | succ n => simp [cmpF, h]
theorem cmpF_step {f : Nat → Nat} {x : Nat} {g : Nat → Nat} {k i : Nat} (h : i < k) : cmpF f x g k (k - i) i = if f (x + i) = g i then cmpF f x g k (k - (i + 1)) (i + 1) else if f (x + i) < g i then 1 else 2 := by
  obtain ⟨n, hn⟩ : ∃ n, k - i = n + 1 := ⟨k - i - 1, by omega⟩
  rw [hn, show k - (i + 1) = n by omega]
  show (if k ≤ i then 0 else _) = _
  rw [if_neg (by omega)]
/-- k bytes at x are 0 -/
def allZ (f : Nat → Nat) (x k : Nat) : Prop := ∀ j, j < k → f (x + j) = 0
/-- n bytes from x on become 0 -/
def zr (f : Nat → Nat) (x n : Nat) : Nat → Nat := fun j => if x ≤ j ∧ j < x + n then 0 else f j
theorem zr_0 (f : Nat → Nat) (x : Nat) : zr f x 0 = f := by
  funext j; unfold zr; rw [if_neg (by omega)]
theorem zr_s (f : Nat → Nat) (x n : Nat) : va_up (zr f x n) (x + n) 0 = zr f x (n + 1) := by
  funext j; unfold zr va_up
  by_cases h : j = x + n
  · rw [if_pos h, if_pos (by omega)]
  · rw [if_neg h]
    show (if x ≤ j ∧ j < x + n then 0 else f j) = _
    by_cases h2 : x ≤ j ∧ j < x + n
    · rw [if_pos h2, if_pos (by omega)]
    · rw [if_neg h2, if_neg (by omega)]
theorem zr_step {f : Nat → Nat} {x i : Nat} (h : x ≤ i) : va_up (zr f x (i - x)) i 0 = zr f x (i + 1 - x) := by
  have h1 := zr_s f x (i - x)
  rw [show x + (i - x) = i by omega, show i - x + 1 = i + 1 - x by omega] at h1
  exact h1
/-- where GAP i begins and ends -/
def gAt (st : Nat) (pl ln : Nat → Nat) (i : Nat) : Nat := if i = 0 then st else pl (i - 1) + ln (i - 1)
def gEn (sz us : Nat) (pl : Nat → Nat) (i : Nat) : Nat := if i = us then sz else pl i
end
section
/-- an int's number, 0 below 0 -/
abbrev cl (p : Int32) : Nat := p.toNatClampNeg
abbrev isW (q : Int32) : Prop := q = nI 1 ∨ q = nI 2 ∨ q = nI 4
theorem isW_of {q : Int32} (h : isW q) : ∃ k : Nat, (k = 1 ∨ k = 2 ∨ k = 4) ∧ q = nI k := by
  rcases h with h | h | h
  · exact ⟨1, by omega, h⟩
  · exact ⟨2, by omega, h⟩
  · exact ⟨4, by omega, h⟩
theorem isW_nI {k : Nat} (h : k = 1 ∨ k = 2 ∨ k = 4) : isW (nI k) := by
  rcases h with rfl | rfl | rfl <;> simp [isW]
/-- byte e of an int, from the lowest on -/
def byt (v : Int32) (e : Nat) : Nat := v.toBitVec.toNat / 256 ^ e % 256
theorem byt_lt (v : Int32) (e : Nat) : byt v e < 256 := Nat.mod_lt _ (by decide)
theorem i32_nat (x : Int32) : (x.toBitVec.toNat : Int) = x.toInt % 4294967296 := by
  have h := BitVec.toInt_eq_toNat_cond x.toBitVec
  have h2 := x.toBitVec.isLt
  have h3 : x.toInt = x.toBitVec.toInt := rfl
  rw [h3, h]
  split <;> omega
theorem sarB (v : Int32) {e : Nat} (he : e < 4) : (v >>> (nI (8 * e) &&& 31)) &&& nI 255 = nI (byt v e) := by
  rw [pk_and (v >>> (nI (8 * e) &&& 31)) (m := nI 255) 8 (by decide)]
  have h1 : (v >>> (nI (8 * e) &&& 31)).toBitVec.toNat % 2 ^ 8 = byt v e := by
    have hn := i32_nat v
    have hm := i32_nat (v >>> (nI (8 * e) &&& 31))
    unfold byt
    rcases (show e = 0 ∨ e = 1 ∨ e = 2 ∨ e = 3 by omega) with rfl | rfl | rfl | rfl
    · have h := pk_shr v (nI (8 * 0) &&& 31) 0 (by decide)
      rw [h, Int.shiftRight_eq_div_pow] at hm
      omega
    · have h := pk_shr v (nI (8 * 1) &&& 31) 8 (by decide)
      rw [h, Int.shiftRight_eq_div_pow] at hm
      omega
    · have h := pk_shr v (nI (8 * 2) &&& 31) 16 (by decide)
      rw [h, Int.shiftRight_eq_div_pow] at hm
      omega
    · have h := pk_shr v (nI (8 * 3) &&& 31) 24 (by decide)
      rw [h, Int.shiftRight_eq_div_pow] at hm
      omega
  rw [h1]
/-- the lowest k bytes of v at x -/
def wr (f : Nat → Nat) (x k : Nat) (v : Int32) (n : Nat) : Nat → Nat := fun j => if x ≤ j ∧ j < x + n then byt v (k - 1 - (j - x)) else f j
theorem wr_0 (f : Nat → Nat) (x k : Nat) (v : Int32) : wr f x k v 0 = f := by
  funext j; unfold wr; rw [if_neg (by omega)]
theorem wr_s (f : Nat → Nat) (x k : Nat) (v : Int32) (n : Nat) : va_up (wr f x k v n) (x + n) (byt v (k - 1 - n)) = wr f x k v (n + 1) := by
  funext j; unfold wr va_up
  by_cases h : j = x + n
  · rw [if_pos h, if_pos (by omega), show j - x = n by omega]
  · rw [if_neg h]
    show (if x ≤ j ∧ j < x + n then byt v (k - 1 - (j - x)) else f j) = _
    by_cases h2 : x ≤ j ∧ j < x + n
    · rw [if_pos h2, if_pos (by omega)]
    · rw [if_neg h2, if_neg (by omega)]
-- promise 2: get
def gS (sz : Nat) (mem : Nat → Nat) (p q : Int32) : Int64 := if ¬ isW q ∨ p < 0 then (-11) else if cl p + cl q ≤ sz then lN (num mem (cl p) (cl q)) else (-12)
theorem gS_w {sz : Nat} {mem : Nat → Nat} {p q : Int32} (h : ¬ isW q ∨ p < 0) : gS sz mem p q = (-11) := if_pos h
theorem gS_ok {sz : Nat} {mem : Nat → Nat} {x k : Nat} (hx : x < 2 ^ 31) (hk : k = 1 ∨ k = 2 ∨ k = 4) : gS sz mem (nI x) (nI k) = if x + k ≤ sz then lN (num mem x k) else (-12) := by
  unfold gS
  rw [if_neg (fun h => h.elim (fun h => h (isW_nI hk)) (fun h => nI_pos hx h)), show cl (nI x) = x from nI_clamp hx, show cl (nI k) = k from nI_clamp (by omega)]
-- promise 3: set
def stR (sz : Nat) (p q : Int32) : Int32 := if ¬ isW q ∨ p < 0 then (-11) else if ¬ cl p + cl q ≤ sz then (-12) else if cl p < 64 then (-13) else nI 1
def stM (sz : Nat) (mem : Nat → Nat) (p q v : Int32) : Nat → Nat := if stR sz p q = nI 1 then wr mem (cl p) (cl q) v (cl q) else mem
theorem stR_w {sz : Nat} {p q : Int32} (h : ¬ isW q ∨ p < 0) : stR sz p q = (-11) := if_pos h
theorem stR_ok {sz : Nat} {x k : Nat} (hx : x < 2 ^ 31) (hk : k = 1 ∨ k = 2 ∨ k = 4) : stR sz (nI x) (nI k) = if ¬ x + k ≤ sz then (-12) else if x < 64 then (-13) else nI 1 := by
  unfold stR
  rw [if_neg (fun h => h.elim (fun h => h (isW_nI hk)) (fun h => nI_pos hx h)), show cl (nI x) = x from nI_clamp hx, show cl (nI k) = k from nI_clamp (by omega)]
theorem stM_no {sz : Nat} {mem : Nat → Nat} {p q v r : Int32} (h : stR sz p q = r) (hr : ¬ r = nI 1) : mem = stM sz mem p q v := by
  unfold stM; rw [if_neg (by rw [h]; exact hr)]
theorem stM_ok {sz : Nat} {mem : Nat → Nat} {x k : Nat} {v : Int32} (h : stR sz (nI x) (nI k) = nI 1) (hx : x < 2 ^ 31) (hk : k < 2 ^ 31) : stM sz mem (nI x) (nI k) v = wr mem x k v k := by
  unfold stM; rw [if_pos h, show cl (nI x) = x from nI_clamp hx, show cl (nI k) = k from nI_clamp hk]
-- promise 4: zero
def zrR (sz : Nat) (p q : Int32) : Int32 := if p < 0 ∨ q < 0 then (-11) else if ¬ (cl q = 0 ∨ cl p + cl q ≤ sz) then (-12) else if 0 < cl q ∧ cl p < 64 then (-13) else nI 1
def zrM (sz : Nat) (mem : Nat → Nat) (p q : Int32) : Nat → Nat := if zrR sz p q = nI 1 then zr mem (cl p) (cl q) else mem
theorem zrR_w {sz : Nat} {p q : Int32} (h : p < 0 ∨ q < 0) : zrR sz p q = (-11) := if_pos h
theorem zrR_ok {sz x n : Nat} (hx : x < 2 ^ 31) (hn : n < 2 ^ 31) : zrR sz (nI x) (nI n) = if ¬ (n = 0 ∨ x + n ≤ sz) then (-12) else if 0 < n ∧ x < 64 then (-13) else nI 1 := by
  unfold zrR
  rw [if_neg (fun h => h.elim (fun h => nI_pos hx h) (fun h => nI_pos hn h)), show cl (nI x) = x from nI_clamp hx, show cl (nI n) = n from nI_clamp hn]
theorem zrM_no {sz : Nat} {mem : Nat → Nat} {p q r : Int32} (h : zrR sz p q = r) (hr : ¬ r = nI 1) : mem = zrM sz mem p q := by
  unfold zrM; rw [if_neg (by rw [h]; exact hr)]
theorem zrM_ok {sz : Nat} {mem : Nat → Nat} {x n : Nat} (h : zrR sz (nI x) (nI n) = nI 1) (hx : x < 2 ^ 31) (hn : n < 2 ^ 31) : zrM sz mem (nI x) (nI n) = zr mem x n := by
  unfold zrM; rw [if_pos h, show cl (nI x) = x from nI_clamp hx, show cl (nI n) = n from nI_clamp hn]
-- promise 5: copy
def cpR (sz : Nat) (p q n : Int32) : Int32 := if p < 0 ∨ q < 0 ∨ n < 0 then (-11) else if ¬ (cl n = 0 ∨ (cl p + cl n ≤ sz ∧ cl q + cl n ≤ sz)) then (-12) else if 0 < cl n ∧ cl q < 64 then (-13) else nI 1
def cpM (sz : Nat) (mem : Nat → Nat) (p q n : Int32) : Nat → Nat := if cpR sz p q n = nI 1 then va_cpy mem mem (cl p) (cl q) (cl n) else mem
theorem cpR_w {sz : Nat} {p q n : Int32} (h : p < 0 ∨ q < 0 ∨ n < 0) : cpR sz p q n = (-11) := if_pos h
theorem cpR_ok {sz x y n : Nat} (hx : x < 2 ^ 31) (hy : y < 2 ^ 31) (hn : n < 2 ^ 31) : cpR sz (nI x) (nI y) (nI n) = if ¬ (n = 0 ∨ (x + n ≤ sz ∧ y + n ≤ sz)) then (-12) else if 0 < n ∧ y < 64 then (-13) else nI 1 := by
  unfold cpR
  rw [if_neg (fun h => h.elim (fun h => nI_pos hx h) (fun h => h.elim (fun h => nI_pos hy h) (fun h => nI_pos hn h))), show cl (nI x) = x from nI_clamp hx, show cl (nI n) = n from nI_clamp hn, show cl (nI y) = y from nI_clamp hy]
theorem cpM_no {sz : Nat} {mem : Nat → Nat} {p q n r : Int32} (h : cpR sz p q n = r) (hr : ¬ r = nI 1) : mem = cpM sz mem p q n := by
  unfold cpM; rw [if_neg (by rw [h]; exact hr)]
theorem cpM_ok {sz : Nat} {mem : Nat → Nat} {x y n : Nat} (h : cpR sz (nI x) (nI y) (nI n) = nI 1) (hx : x < 2 ^ 31) (hy : y < 2 ^ 31) (hn : n < 2 ^ 31) : cpM sz mem (nI x) (nI y) (nI n) = va_cpy mem mem x y n := by
  unfold cpM; rw [if_pos h, show cl (nI x) = x from nI_clamp hx, show cl (nI n) = n from nI_clamp hn, show cl (nI y) = y from nI_clamp hy]
theorem cpy_0 (f : Nat → Nat) (x y : Nat) : va_cpy f f x y 0 = f := by
  funext j; unfold va_cpy; rw [if_neg (by omega)]
theorem cpy_up {f : Nat → Nat} {x y n k : Nat} (hxy : ¬ x < y) : va_up (va_cpy f f x y k) (y + k) (va_cpy f f x y k (x + k)) = va_cpy f f x y (k + 1) := by
  funext j; unfold va_up va_cpy
  by_cases h : j = y + k
  · rw [if_pos h]
    show (if y ≤ x + k ∧ x + k < y + k then f (x + (x + k - y)) else f (x + k)) = _
    rw [if_neg (by omega), if_pos (by omega), show x + (j - y) = x + k by omega]
  · rw [if_neg h]
    show (if y ≤ j ∧ j < y + k then f (x + (j - y)) else f j) = _
    by_cases h2 : y ≤ j ∧ j < y + k
    · rw [if_pos h2, if_pos (by omega)]
    · rw [if_neg h2, if_neg (by omega)]
theorem cpy_dn {f : Nat → Nat} {x y n k : Nat} (hxy : x < y) (hk : k < n) : va_up (va_cpy f f (x + (n - k)) (y + (n - k)) k) (y + (n - 1 - k)) (va_cpy f f (x + (n - k)) (y + (n - k)) k (x + (n - 1 - k))) = va_cpy f f (x + (n - (k + 1))) (y + (n - (k + 1))) (k + 1) := by
  funext j; unfold va_up va_cpy
  by_cases h : j = y + (n - 1 - k)
  · rw [if_pos h]
    show (if y + (n - k) ≤ x + (n - 1 - k) ∧ x + (n - 1 - k) < y + (n - k) + k then _ else f (x + (n - 1 - k))) = _
    rw [if_neg (by omega), if_pos (by omega), show x + (n - (k + 1)) + (j - (y + (n - (k + 1)))) = x + (n - 1 - k) by omega]
  · rw [if_neg h]
    show (if y + (n - k) ≤ j ∧ j < y + (n - k) + k then f (x + (n - k) + (j - (y + (n - k)))) else f j) = _
    by_cases h2 : y + (n - k) ≤ j ∧ j < y + (n - k) + k
    · rw [if_pos h2, if_pos (by omega), show x + (n - (k + 1)) + (j - (y + (n - (k + 1)))) = x + (n - k) + (j - (y + (n - k))) by omega]
    · rw [if_neg h2, if_neg (by omega)]
-- promise 6: resize
abbrev isS (x : Nat) : Prop := 256 ≤ x ∧ x ≤ 8192 ∧ x % 256 = 0
def rzR (sz us : Nat) (p : Int32) : Int32 := if p < 0 ∨ ¬ isS (cl p) then (-11) else if 0 < us then (-14) else nI sz
theorem rzR_w {sz us : Nat} {p : Int32} (h : p < 0 ∨ ¬ isS (cl p)) : rzR sz us p = (-11) := if_pos h
abbrev rzO (us : Nat) (p : Int32) : Prop := ¬ (p < 0 ∨ ¬ isS (cl p)) ∧ ¬ 0 < us
def rzZ (sz us : Nat) (p : Int32) : Nat := if rzO us p then cl p else sz
def rzM (sz us : Nat) (mem : Nat → Nat) (p : Int32) : Nat → Nat := if rzO us p then zr mem sz (cl p - sz) else mem
theorem rzO_ok {us x : Nat} (hx : x < 2 ^ 31) (h : isS x) (h0 : ¬ 0 < us) : rzO us (nI x) := ⟨fun q => q.elim (fun q => nI_pos hx q) (fun q => q (by rw [show cl (nI x) = x from nI_clamp hx]; exact h)), h0⟩
-- THE HEAP
/-- blocks in their places, one behind the other, all in THE HEAP -/
def wfB (sz st us : Nat) (pl ln : Nat → Nat) : Prop := us ≤ 64 ∧ isS sz ∧ (us = 0 ↔ st = 0) ∧ (0 < us → isS st ∧ st < sz) ∧ (∀ i, i < us → 1 ≤ ln i ∧ pl i + ln i ≤ sz ∧ st ≤ pl i) ∧ (∀ i, i + 1 < us → pl i + ln i ≤ pl (i + 1))
theorem gAt_le {sz st us : Nat} {pl ln : Nat → Nat} (h : wfB sz st us pl ln) {i : Nat} (hi : i ≤ us) : gAt st pl ln i ≤ sz := by
  obtain ⟨h1, h2, h3, h4, h5, h6⟩ := h
  unfold gAt
  split
  · by_cases h0 : us = 0
    · have := h3.mp h0; omega
    · have := h4 (by omega); omega
  · exact (h5 (i - 1) (by omega)).2.1
theorem gEn_le {sz st us : Nat} {pl ln : Nat → Nat} (h : wfB sz st us pl ln) {i : Nat} (hi : i ≤ us) : gEn sz us pl i ≤ sz := by
  obtain ⟨h1, h2, h3, h4, h5, h6⟩ := h
  unfold gEn
  split
  · exact Nat.le_refl _
  · have := h5 i (by omega); omega
theorem gap_le {sz st us : Nat} {pl ln : Nat → Nat} (h : wfB sz st us pl ln) {i : Nat} (hi : i ≤ us) (h0 : 0 < us) : gAt st pl ln i ≤ gEn sz us pl i := by
  by_cases hu : i = us
  · have h1 := gAt_le h hi
    unfold gEn; rw [if_pos hu]; exact h1
  · obtain ⟨h1, h2, h3, h4, h5, h6⟩ := h
    unfold gAt gEn
    rw [if_neg hu]
    split
    · exact (h5 i (by omega)).2.2
    · have h7 := h6 (i - 1) (by omega)
      rw [show i - 1 + 1 = i by omega] at h7
      exact h7
-- promise 9: block
def bkR (sz st us : Nat) (pl ln : Nat → Nat) (p q : Int32) : Int32 := if p < 0 ∨ ¬ cl p < us ∨ q < 0 ∨ 2 < cl q then (-11) else if cl q = 0 then nI (pl (cl p)) else if cl q = 1 then nI (ln (cl p)) else nI (gEn sz us pl (cl p + 1) - gAt st pl ln (cl p + 1))
theorem bkR_w {sz st us : Nat} {pl ln : Nat → Nat} {p q : Int32} (h : p < 0 ∨ ¬ cl p < us ∨ q < 0 ∨ 2 < cl q) : bkR sz st us pl ln p q = (-11) := if_pos h
theorem bkR_ok {sz st us : Nat} {pl ln : Nat → Nat} {x y : Nat} (hx : x < 2 ^ 31) (hy : y < 2 ^ 31) (h1 : x < us) (h2 : y ≤ 2) : bkR sz st us pl ln (nI x) (nI y) = if y = 0 then nI (pl x) else if y = 1 then nI (ln x) else nI (gEn sz us pl (x + 1) - gAt st pl ln (x + 1)) := by
  have e1 : cl (nI x) = x := nI_clamp hx
  have e2 : cl (nI y) = y := nI_clamp hy
  unfold bkR
  rw [e1, e2, if_neg]
  rintro (h | h | h | h)
  · exact nI_pos hx h
  · omega
  · exact nI_pos hy h
  · omega
-- promise 7: make
/-- the first GAP with n bytes, or the last -/
def fitF (sz st us : Nat) (pl ln : Nat → Nat) (n : Nat) : Nat → Nat → Nat
  | 0, _ => us
  | f + 1, i => if n ≤ gEn sz us pl i - gAt st pl ln i then i else fitF sz st us pl ln n f (i + 1)
def fit (sz st us : Nat) (pl ln : Nat → Nat) (n : Nat) : Nat := fitF sz st us pl ln n us 0
theorem fitF_step {sz st us : Nat} {pl ln : Nat → Nat} {n i : Nat} (h : i < us) : fitF sz st us pl ln n (us - i) i = if n ≤ gEn sz us pl i - gAt st pl ln i then i else fitF sz st us pl ln n (us - (i + 1)) (i + 1) := by
  obtain ⟨k, hk⟩ : ∃ k, us - i = k + 1 := ⟨us - i - 1, by omega⟩
  rw [hk, show us - (i + 1) = k by omega]
  rfl
theorem fitF_end {sz st us : Nat} {pl ln : Nat → Nat} {n i : Nat} (h : us ≤ i) : fitF sz st us pl ln n (us - i) i = us := by
  rw [show us - i = 0 by omega]; rfl
theorem fitF_le (sz st us : Nat) (pl ln : Nat → Nat) (n : Nat) : ∀ f i, i + f ≤ us → fitF sz st us pl ln n f i ≤ us
  | 0, i, _ => Nat.le_refl _
  | f + 1, i, h => by
    unfold fitF
    split
    · omega
    · exact fitF_le sz st us pl ln n f (i + 1) (by omega)
theorem fit_le (sz st us : Nat) (pl ln : Nat → Nat) (n : Nat) : fit sz st us pl ln n ≤ us := fitF_le _ _ _ _ _ _ _ _ (by omega)
theorem fitF_gap {sz st us : Nat} {pl ln : Nat → Nat} {n : Nat} : ∀ f i, i + f = us → fitF sz st us pl ln n f i < us → n ≤ gEn sz us pl (fitF sz st us pl ln n f i) - gAt st pl ln (fitF sz st us pl ln n f i)
  | 0, i, _, h => absurd h (by unfold fitF; omega)
  | f + 1, i, h, hl => by
    unfold fitF at hl ⊢
    split
    · assumption
    · rename_i hn
      rw [if_neg hn] at hl
      exact fitF_gap f (i + 1) (by omega) hl
theorem fit_gap {sz st us : Nat} {pl ln : Nat → Nat} {n : Nat} (h : fit sz st us pl ln n < us) : n ≤ gEn sz us pl (fit sz st us pl ln n) - gAt st pl ln (fit sz st us pl ln n) := fitF_gap us 0 (by omega) h
/-- the place that MAKING takes -/
def mkP (sz st us : Nat) (pl ln : Nat → Nat) (n : Nat) : Nat := if us = 0 then sz else gAt st pl ln (fit sz st us pl ln n)
def mkR (sz st us : Nat) (pl ln : Nat → Nat) (p : Int32) : Int32 := if p < nI 1 then (-11) else if us = 64 then nI 0 else if 8192 < mkP sz st us pl ln (cl p) + cl p then nI 0 else nI (mkP sz st us pl ln (cl p))
abbrev mkO (sz st us : Nat) (pl ln : Nat → Nat) (p : Int32) : Prop := ¬ p < nI 1 ∧ ¬ us = 64 ∧ ¬ 8192 < mkP sz st us pl ln (cl p) + cl p
/-- SIZE, greater where the BLOCK asks for it -/
def mkG (sz e : Nat) : Nat := if sz < e then (e + 255) / 256 * 256 else sz
def shf (f : Nat → Nat) (k us : Nat) : Nat → Nat := fun j => if k < j ∧ j ≤ us then f (j - 1) else f j
def ins (f : Nat → Nat) (i us v : Nat) : Nat → Nat := va_up (shf f i us) i v
theorem shf_0 (f : Nat → Nat) (us : Nat) : shf f us us = f := by
  funext j; unfold shf; rw [if_neg (by omega)]
theorem shf_s {f : Nat → Nat} {k us : Nat} (h : 1 ≤ k) (h2 : k ≤ us) : va_up (shf f k us) k (shf f k us (k - 1)) = shf f (k - 1) us := by
  funext j; unfold va_up shf
  by_cases hj : j = k
  · rw [if_pos hj]
    show (if k < k - 1 ∧ k - 1 ≤ us then f (k - 1 - 1) else f (k - 1)) = _
    rw [if_neg (by omega), if_pos (by omega), hj]
  · rw [if_neg hj]
    show (if k < j ∧ j ≤ us then f (j - 1) else f j) = _
    by_cases h3 : k < j ∧ j ≤ us
    · rw [if_pos h3, if_pos (by omega)]
    · rw [if_neg h3, if_neg (by omega)]
def mkZ (sz st us : Nat) (pl ln : Nat → Nat) (p : Int32) : Nat := if mkO sz st us pl ln p then mkG sz (mkP sz st us pl ln (cl p) + cl p) else sz
def mkS (sz st us : Nat) (pl ln : Nat → Nat) (p : Int32) : Nat := if mkO sz st us pl ln p ∧ us = 0 then sz else st
def mkU (sz st us : Nat) (pl ln : Nat → Nat) (p : Int32) : Nat := if mkO sz st us pl ln p then us + 1 else us
def mkM (sz st us : Nat) (pl ln : Nat → Nat) (mem : Nat → Nat) (p : Int32) : Nat → Nat := if mkO sz st us pl ln p then zr mem sz (mkG sz (mkP sz st us pl ln (cl p) + cl p) - sz) else mem
def mkQ (sz st us : Nat) (pl ln : Nat → Nat) (p : Int32) : Nat → Nat := if mkO sz st us pl ln p then ins pl (fit sz st us pl ln (cl p)) us (mkP sz st us pl ln (cl p)) else pl
def mkL (sz st us : Nat) (pl ln : Nat → Nat) (p : Int32) : Nat → Nat := if mkO sz st us pl ln p then ins ln (fit sz st us pl ln (cl p)) us (cl p) else ln
-- promise 8: free
def fndF (us : Nat) (pl : Nat → Nat) (p : Int32) : Nat → Nat → Nat
  | 0, _ => us
  | f + 1, i => if nI (pl i) = p then i else fndF us pl p f (i + 1)
def fnd (us : Nat) (pl : Nat → Nat) (p : Int32) : Nat := fndF us pl p us 0
theorem fndF_step {us : Nat} {pl : Nat → Nat} {p : Int32} {i : Nat} (h : i < us) : fndF us pl p (us - i) i = if nI (pl i) = p then i else fndF us pl p (us - (i + 1)) (i + 1) := by
  obtain ⟨k, hk⟩ : ∃ k, us - i = k + 1 := ⟨us - i - 1, by omega⟩
  rw [hk, show us - (i + 1) = k by omega]
  rfl
theorem fndF_end {us : Nat} {pl : Nat → Nat} {p : Int32} {i : Nat} (h : us ≤ i) : fndF us pl p (us - i) i = us := by
  rw [show us - i = 0 by omega]; rfl
def frR (us : Nat) (pl ln : Nat → Nat) (p : Int32) : Int32 := if fnd us pl p = us then (-11) else nI (ln (fnd us pl p))
def dlf (f : Nat → Nat) (i k : Nat) : Nat → Nat := fun j => if i ≤ j ∧ j < k then f (j + 1) else f j
theorem dlf_0 (f : Nat → Nat) (i : Nat) : dlf f i i = f := by
  funext j; unfold dlf; rw [if_neg (by omega)]
theorem dlf_s {f : Nat → Nat} {i k : Nat} (h : i ≤ k) : va_up (dlf f i k) k (dlf f i k (k + 1)) = dlf f i (k + 1) := by
  funext j; unfold va_up dlf
  by_cases hj : j = k
  · rw [if_pos hj]
    show (if i ≤ k + 1 ∧ k + 1 < k then f (k + 1 + 1) else f (k + 1)) = _
    rw [if_neg (by omega), if_pos (by omega), hj]
  · rw [if_neg hj]
    show (if i ≤ j ∧ j < k then f (j + 1) else f j) = _
    by_cases h3 : i ≤ j ∧ j < k
    · rw [if_pos h3, if_pos (by omega)]
    · rw [if_neg h3, if_neg (by omega)]
def frU (us : Nat) (pl : Nat → Nat) (p : Int32) : Nat := if fnd us pl p = us then us else us - 1
def frZ (sz st us : Nat) (pl : Nat → Nat) (p : Int32) : Nat := if fnd us pl p = us then sz else if us - 1 = 0 then st else sz
def frS (st us : Nat) (pl : Nat → Nat) (p : Int32) : Nat := if fnd us pl p = us then st else if us - 1 = 0 then 0 else st
def frA (us : Nat) (pl : Nat → Nat) (f : Nat → Nat) (p : Int32) : Nat → Nat := if fnd us pl p = us then f else dlf f (fnd us pl p) (us - 1)
theorem ge1 {p : Int32} (h : nI 1 ≤ p) : ∃ n : Nat, n < 2 ^ 31 ∧ p = nI n ∧ 1 ≤ n := by
  obtain ⟨n, hn, rfl⟩ := nI_of (x := p) (fun q => absurd (Int32.lt_of_le_of_lt h q) (by decide))
  exact ⟨n, hn, rfl, (nI_leI (by omega) hn).mp h⟩
end
section
-- SEARCHES
theorem and1 {n : Nat} (h : n < 2 ^ 31) : nI n &&& nI 1 = nI (n % 2) := pk_andN (by omega) (m := nI 1) 1 (by decide)
theorem and2 {n : Nat} (h : n ≤ 7) : nI n &&& nI 2 = nI (n / 2 % 2 * 2) := by
  rcases (show n = 0 ∨ n = 1 ∨ n = 2 ∨ n = 3 ∨ n = 4 ∨ n = 5 ∨ n = 6 ∨ n = 7 by omega) with rfl | rfl | rfl | rfl | rfl | rfl | rfl | rfl <;> decide
def isK (o : Nat) (q : Int32) : Prop := if o % 2 = 1 then (¬ q < nI 1 ∧ ¬ nI 64 < q) else isW q
theorem isK_nat {o : Nat} {q : Int32} (h : isK o q) : ∃ k : Nat, 1 ≤ k ∧ k ≤ 64 ∧ q = nI k ∧ (o % 2 = 0 → k ≤ 4) := by
  unfold isK at h
  by_cases ho : o % 2 = 1
  · rw [if_pos ho] at h
    obtain ⟨h1, h2⟩ := h
    obtain ⟨k, hk, rfl, hk1⟩ := ge1 (Int32.not_lt.mp h1)
    have h3 : k ≤ 64 := (nI_leI hk (by decide)).mp (Int32.not_lt.mp h2)
    exact ⟨k, hk1, h3, rfl, fun h => by omega⟩
  · rw [if_neg ho] at h
    obtain ⟨k, hk, rfl⟩ := isW_of h
    exact ⟨k, by omega, by omega, rfl, fun _ => by omega⟩
abbrev tkn (sz : Nat) (p : Int32) (k o : Nat) : Prop := o % 2 = 0 ∨ (¬ p < 0 ∧ cl p + k ≤ sz)
/-- byte j of the KEY -/
def ky (mem : Nat → Nat) (p : Int32) (k o : Nat) : Nat → Nat := fun j => if o % 2 = 0 then byt p (k - 1 - j) else mem (cl p + j)
def kyW (mem : Nat → Nat) (p : Int32) (k o : Nat) (wt : Nat → Nat) (n : Nat) : Nat → Nat := fun j => if j < n then ky mem p k o j else wt j
def tkW (sz : Nat) (mem : Nat → Nat) (p : Int32) (k o : Nat) (wt : Nat → Nat) : Nat → Nat := if tkn sz p k o then kyW mem p k o wt k else wt
theorem ky_lt {mem : Nat → Nat} (h : ∀ j, mem j < 256) (p : Int32) (k o j : Nat) : ky mem p k o j < 256 := by
  unfold ky; split
  · exact byt_lt _ _
  · exact h _
theorem tkW_lt {sz : Nat} {mem wt : Nat → Nat} (h : ∀ j, mem j < 256) (hw : ∀ j, wt j < 256) (p : Int32) (k o j : Nat) : tkW sz mem p k o wt j < 256 := by
  unfold tkW kyW; split
  · show (if j < k then _ else _) < 256
    split
    · exact ky_lt h _ _ _ _
    · exact hw _
  · exact hw _
theorem kyW_0 (mem : Nat → Nat) (p : Int32) (k o : Nat) (wt : Nat → Nat) : kyW mem p k o wt 0 = wt := by
  funext j; unfold kyW; rw [if_neg (by omega)]
theorem kyW_s {mem : Nat → Nat} {p : Int32} {k o : Nat} {wt : Nat → Nat} {i v : Nat} (hv : ky mem p k o i = v) : va_up (kyW mem p k o wt i) i v = kyW mem p k o wt (i + 1) := by
  funext j; unfold kyW va_up
  by_cases h : j = i
  · rw [if_pos h, if_pos (by omega), h, hv]
  · rw [if_neg h]
    show (if j < i then _ else _) = _
    by_cases h2 : j < i
    · rw [if_pos h2, if_pos (by omega)]
    · rw [if_neg h2, if_neg (by omega)]
theorem cmpF_congr {f : Nat → Nat} {x : Nat} {g g' : Nat → Nat} {k : Nat} (h : ∀ j, j < k → g j = g' j) : ∀ n i, cmpF f x g k n i = cmpF f x g' k n i
  | 0, _ => rfl
  | n + 1, i => by
    unfold cmpF
    by_cases hi : k ≤ i
    · rw [if_pos hi, if_pos hi]
    · rw [if_neg hi, if_neg hi, h i (by omega), cmpF_congr h n (i + 1)]
theorem cmp_ky {sz : Nat} {mem : Nat → Nat} {p : Int32} {k o : Nat} {wt : Nat → Nat} (h : tkn sz p k o) (x : Nat) : cmpB mem x (tkW sz mem p k o wt) k = cmpB mem x (ky mem p k o) k := by
  refine cmpF_congr (fun j hj => ?_) k 0
  unfold tkW kyW
  rw [if_pos h]
  show (if j < k then _ else _) = _
  rw [if_pos hj]
theorem neg64 {p : Int32} (h : p < 0) : p.toInt64 < lN 0 := by
  rw [Int64.lt_iff_toInt_lt, Int32.toInt_toInt64]
  exact Int32.lt_iff_toInt_lt.mp h
theorem nI_m1 {n : Nat} (h : n < 2 ^ 31) : ¬ nI n = (-1) := fun q => by
  have h1 := congrArg Int32.toInt q
  rw [nI_toInt h] at h1
  have h2 : (-1 : Int32).toInt = -1 := by decide
  omega
theorem gem1 {p : Int32} (h : ¬ p < (-1)) : p = (-1) ∨ ∃ n : Nat, n < 2 ^ 31 ∧ p = nI n := by
  by_cases h0 : p < 0
  · left
    have h1 : ¬ p.toInt < -1 := fun q => h (Int32.lt_iff_toInt_lt.mpr (by simpa using q))
    have h2 : p.toInt < 0 := Int32.lt_iff_toInt_lt.mp h0
    exact Int32.toInt_inj.mp (by rw [show (-1 : Int32).toInt = -1 by decide]; omega)
  · right
    exact nI_of h0
/-- the answer of a search that finds nothing -/
def noA (o : Nat) : Int32 := if 4 ≤ o then (-1) else nI 0
noncomputable def allZb (f : Nat → Nat) (x k : Nat) : Bool := @decide (allZ f x k) (Classical.propDecidable _)
theorem allZb_t {f : Nat → Nat} {x k : Nat} (h : allZ f x k) : allZb f x k = true := @decide_eq_true _ (Classical.propDecidable _) h
theorem allZb_f {f : Nat → Nat} {x k : Nat} (h : ¬ allZ f x k) : allZb f x k = false := @decide_eq_false _ (Classical.propDecidable _) h
noncomputable def isKb (o : Nat) (q : Int32) : Bool := @decide (isK o q) (Classical.propDecidable _)
theorem isKb_t {o : Nat} {q : Int32} (h : isK o q) : isKb o q = true := @decide_eq_true _ (Classical.propDecidable _) h
theorem isKb_f {o : Nat} {q : Int32} (h : ¬ isK o q) : isKb o q = false := @decide_eq_false _ (Classical.propDecidable _) h
-- promise 10: linear
abbrev badL (p2 p3 p4 p5 p6 p7 : Int32) : Prop := p4 < 0 ∨ p5 < (-1) ∨ p6 < 0 ∨ p3 < 0 ∨ p7 < 0 ∨ nI 7 < p7 ∨ isKb (cl p7) p2 = false
noncomputable def lnF (sz : Nat) (mem g : Nat → Nat) (k x w nn off o : Nat) : Nat → Nat → Int32
  | 0, _ => noA o
  | f + 1, i => if nn ≤ i then noA o else if i = 3000 then (-16) else if ¬ x + i * w + off + k ≤ sz then (-12) else if cmpB mem (x + i * w + off) g k = 0 then (if 4 ≤ o then nI i else nI (x + i * w)) else if o / 2 % 2 = 1 ∧ allZb mem (x + i * w + off) k = true then noA o else lnF sz mem g k x w nn off o f (i + 1)
theorem lnF_s {sz : Nat} {mem g : Nat → Nat} {k x w nn off o i : Nat} (h : i ≤ 3000) : lnF sz mem g k x w nn off o (3001 - i) i = if nn ≤ i then noA o else if i = 3000 then (-16) else if ¬ x + i * w + off + k ≤ sz then (-12) else if cmpB mem (x + i * w + off) g k = 0 then (if 4 ≤ o then nI i else nI (x + i * w)) else if o / 2 % 2 = 1 ∧ allZb mem (x + i * w + off) k = true then noA o else lnF sz mem g k x w nn off o (3001 - (i + 1)) (i + 1) := by
  obtain ⟨f, hf⟩ : ∃ f, 3001 - i = f + 1 := ⟨3001 - i - 1, by omega⟩
  rw [hf, show 3001 - (i + 1) = f by omega]
  rfl
/-- how many structures: without an end, more than a search may come to -/
def nnl (p : Int32) : Nat := if p = (-1) then 3001 else cl p
noncomputable def lnR (sz : Nat) (mem : Nat → Nat) (p1 p2 p3 p4 p5 p6 p7 : Int32) : Int32 := if badL p2 p3 p4 p5 p6 p7 then (-11) else if ¬ tkn sz p1 (cl p2) (cl p7) then (-12) else lnF sz mem (ky mem p1 (cl p2) (cl p7)) (cl p2) (cl p3) (cl p4) (nnl p5) (cl p6) (cl p7) 3001 0
noncomputable def lnW (sz : Nat) (mem wt : Nat → Nat) (p1 p2 p3 p4 p5 p6 p7 : Int32) : Nat → Nat := if badL p2 p3 p4 p5 p6 p7 then wt else tkW sz mem p1 (cl p2) (cl p7) wt
-- promise 11: binary
abbrev badB (p2 p3 p4 p5 p6 p7 : Int32) : Prop := p4 < 0 ∨ p5 < 0 ∨ p6 < 0 ∨ p3 < 0 ∨ p7 < 0 ∨ nI 7 < p7 ∨ cl p7 / 2 % 2 = 1 ∨ isKb (cl p7) p2 = false
def bnF (sz : Nat) (mem g : Nat → Nat) (k x w off o lo hi : Nat) : Int32 :=
  if h : hi ≤ lo then noA o else if ¬ x + (lo + hi) / 2 * w + off + k ≤ sz then (-12) else if cmpB mem (x + (lo + hi) / 2 * w + off) g k = 0 then (if 4 ≤ o then nI ((lo + hi) / 2) else nI (x + (lo + hi) / 2 * w)) else if cmpB mem (x + (lo + hi) / 2 * w + off) g k = 1 then bnF sz mem g k x w off o ((lo + hi) / 2 + 1) hi else bnF sz mem g k x w off o lo ((lo + hi) / 2)
termination_by hi - lo
decreasing_by
  · omega
  · omega
noncomputable def bnR (sz : Nat) (mem : Nat → Nat) (p1 p2 p3 p4 p5 p6 p7 : Int32) : Int32 := if badB p2 p3 p4 p5 p6 p7 then (-11) else if ¬ tkn sz p1 (cl p2) (cl p7) then (-12) else bnF sz mem (ky mem p1 (cl p2) (cl p7)) (cl p2) (cl p3) (cl p4) (cl p6) (cl p7) 0 (cl p5)
noncomputable def bnW (sz : Nat) (mem wt : Nat → Nat) (p1 p2 p3 p4 p5 p6 p7 : Int32) : Nat → Nat := if badB p2 p3 p4 p5 p6 p7 then wt else tkW sz mem p1 (cl p2) (cl p7) wt
-- promise 12: linked
abbrev badK (p2 p3 p4 p5 p6 : Int32) : Prop := p4 < 0 ∨ p3 < 0 ∨ p5 < 0 ∨ p6 < 0 ∨ nI 3 < p6 ∨ isKb (cl p6) p2 = false
noncomputable def lkF (sz : Nat) (mem g : Nat → Nat) (k off link o : Nat) : Nat → Nat → Int32
  | 0, z => if z = 0 then nI 0 else (-16)
  | f + 1, z => if z = 0 then nI 0 else if ¬ z + off + k ≤ sz then (-12) else if cmpB mem (z + off) g k = 0 then nI z else if o / 2 % 2 = 1 ∧ allZb mem (z + off) k = true then nI 0 else if ¬ z + link + 4 ≤ sz then (-12) else lkF sz mem g k off link o f (num mem (z + link) 4)
noncomputable def lkR (sz : Nat) (mem : Nat → Nat) (p1 p2 p3 p4 p5 p6 : Int32) : Int32 := if badK p2 p3 p4 p5 p6 then (-11) else if ¬ tkn sz p1 (cl p2) (cl p6) then (-12) else lkF sz mem (ky mem p1 (cl p2) (cl p6)) (cl p2) (cl p4) (cl p5) (cl p6) 3000 (cl p3)
noncomputable def lkW (sz : Nat) (mem wt : Nat → Nat) (p1 p2 p3 p4 p5 p6 : Int32) : Nat → Nat := if badK p2 p3 p4 p5 p6 then wt else tkW sz mem p1 (cl p2) (cl p6) wt
theorem lkF_s {sz : Nat} {mem g : Nat → Nat} {k off link o c z : Nat} (h : c < 3000) (hz : ¬ z = 0) : lkF sz mem g k off link o (3000 - c) z = if ¬ z + off + k ≤ sz then (-12) else if cmpB mem (z + off) g k = 0 then nI z else if o / 2 % 2 = 1 ∧ allZb mem (z + off) k = true then nI 0 else if ¬ z + link + 4 ≤ sz then (-12) else lkF sz mem g k off link o (3000 - (c + 1)) (num mem (z + link) 4) := by
  obtain ⟨f, hf⟩ : ∃ f, 3000 - c = f + 1 := ⟨3000 - c - 1, by omega⟩
  rw [hf, show 3000 - (c + 1) = f by omega]
  show (if z = 0 then _ else _) = _
  rw [if_neg hz]
theorem lkF_z {sz : Nat} {mem g : Nat → Nat} {k off link o : Nat} : ∀ f : Nat, lkF sz mem g k off link o f 0 = nI 0
  | 0 => rfl
  | f + 1 => by unfold lkF; rw [if_pos rfl]
theorem lkF_e {sz : Nat} {mem g : Nat → Nat} {k off link o z : Nat} (h : ¬ z = 0) : lkF sz mem g k off link o 0 z = (-16) := by unfold lkF; rw [if_neg h]
end
section
set_option maxHeartbeats 4000000 in
set_option maxRecDepth 100000 in
theorem c_X4_isWidth (l : Launch) (w : Int32)  : Met l yX4_isWidth wsX4_isWidth ({ frames := 0, cells := 0, slots := 0, locals := 0 }) (va_Pc [.int w] (fun _ => True)) (vp_Si (fun r => ((w = nI 1 ∨ w = nI 2 ∨ w = nI 4) ∧ r = nI 1) ∨ (¬ (w = nI 1 ∨ w = nI 2 ∨ w = nI 4) ∧ r = nI 0))) 0 0 (fun _ => False) := by
  refine Met.ofW (cc := cX4_isWidth) (maxL := 1) (ret := (some .boolean)) (by decide) rfl ?_
  intro p e s m args below meth c s₁ B hml hv
  obtain ⟨rfl, -⟩ := hv
  have hx := B.exec
  have hb := B.bytes
  have hr := B.returns
  have hts := atoms_spec (ws := wsX4_isWidth) B.pre
  have hown : s.vm.findClass RX4 = some m.cls := findClass_of_methodNamed B.named
  have hlocks := B.notSynchronized
  have hl := lv_entry ([.int w]) (n := 1) (Nat.le_of_ble_eq_true rfl)
  rw [lg_entry_eq]
  generalize (lg_sl ([.int w]) ++ List.replicate (1 - (lg_sl ([.int w])).length) Slot.unset).toArray = ls at hl ⊢
  have hl : lv_has ls 1 [(0, .int w)] := hl
  refine lv_iload_n hx hb dX4_isWidth_0 rfl (lv_at hl 0 rfl) ?_
  refine lv_iconst (v := (nI 1)) hx hb dX4_isWidth_1 (by decide) ?_
  refine lv_icmp_eq (tgt := 15) hx hb dX4_isWidth_2 (by decide) (fun c_2 => ?_) (fun c_2 => ?_)
  · refine lv_iconst (v := (nI 1)) hx hb dX4_isWidth_15 (by decide) ?_
    refine lv_goto (tgt := 20) hx hb dX4_isWidth_16 (by decide) ?_
    exact W.zret (v := (nI 1)) (ty := .boolean) hx hb hr (by decide) (fun t ht hW => ⟨(nI 1), rfl, (Or.inl ⟨by first | (left; assumption) | (right; left; assumption) | (right; right; assumption), rfl⟩), ht⟩) (fun _ h9 => absurd h9 List.not_mem_nil) dX4_isWidth_20
  · refine lv_iload_n hx hb dX4_isWidth_5 rfl (lv_at hl 0 rfl) ?_
    refine lv_iconst (v := (nI 2)) hx hb dX4_isWidth_6 (by decide) ?_
    refine lv_icmp_eq (tgt := 15) hx hb dX4_isWidth_7 (by decide) (fun c_7 => ?_) (fun c_7 => ?_)
    · refine lv_iconst (v := (nI 1)) hx hb dX4_isWidth_15 (by decide) ?_
      refine lv_goto (tgt := 20) hx hb dX4_isWidth_16 (by decide) ?_
      exact W.zret (v := (nI 1)) (ty := .boolean) hx hb hr (by decide) (fun t ht hW => ⟨(nI 1), rfl, (Or.inl ⟨by first | (left; assumption) | (right; left; assumption) | (right; right; assumption), rfl⟩), ht⟩) (fun _ h9 => absurd h9 List.not_mem_nil) dX4_isWidth_20
    · refine lv_iload_n hx hb dX4_isWidth_10 rfl (lv_at hl 0 rfl) ?_
      refine lv_iconst (v := (nI 4)) hx hb dX4_isWidth_11 (by decide) ?_
      refine lv_icmp_ne (tgt := 19) hx hb dX4_isWidth_12 (by decide) (fun c_12 => ?_) (fun c_12 => ?_)
      · refine lv_iconst (v := (nI 0)) hx hb dX4_isWidth_19 (by decide) ?_
        exact W.zret (v := (nI 0)) (ty := .boolean) hx hb hr (by decide) (fun t ht hW => ⟨(nI 0), rfl, (Or.inr ⟨by rintro (h | h | h) <;> contradiction, rfl⟩), ht⟩) (fun _ h9 => absurd h9 List.not_mem_nil) dX4_isWidth_20
      · refine lv_iconst (v := (nI 1)) hx hb dX4_isWidth_15 (by decide) ?_
        refine lv_goto (tgt := 20) hx hb dX4_isWidth_16 (by decide) ?_
        exact W.zret (v := (nI 1)) (ty := .boolean) hx hb hr (by decide) (fun t ht hW => ⟨(nI 1), rfl, (Or.inl ⟨by first | (left; assumption) | (right; left; assumption) | (right; right; assumption), rfl⟩), ht⟩) (fun _ h9 => absurd h9 List.not_mem_nil) dX4_isWidth_20
set_option maxHeartbeats 4000000 in
set_option maxRecDepth 100000 in
theorem c_X4_isSize (l : Launch) (v : Nat) (g1 : v < 2 ^ 31) : Met l yX4_isSize wsX4_isSize ({ frames := 0, cells := 0, slots := 0, locals := 0 }) (va_Pc [.int (nI v)] (fun _ => True)) (vp_Si (fun r => ((256 ≤ v ∧ v ≤ 8192 ∧ v % 256 = 0) ∧ r = nI 1) ∨ (¬ (256 ≤ v ∧ v ≤ 8192 ∧ v % 256 = 0) ∧ r = nI 0))) 0 0 (fun _ => False) := by
  refine Met.ofW (cc := cX4_isSize) (maxL := 1) (ret := (some .boolean)) (by decide) rfl ?_
  intro p e s m args below meth c s₁ B hml hv
  obtain ⟨rfl, -⟩ := hv
  have hx := B.exec
  have hb := B.bytes
  have hr := B.returns
  have hts := atoms_spec (ws := wsX4_isSize) B.pre
  have hown : s.vm.findClass RX4 = some m.cls := findClass_of_methodNamed B.named
  have hlocks := B.notSynchronized
  have hl := lv_entry ([.int (nI v)]) (n := 1) (Nat.le_of_ble_eq_true rfl)
  rw [lg_entry_eq]
  generalize (lg_sl ([.int (nI v)]) ++ List.replicate (1 - (lg_sl ([.int (nI v)])).length) Slot.unset).toArray = ls at hl ⊢
  have hl : lv_has ls 1 [(0, .int (nI v))] := hl
  refine lv_iload_n hx hb dX4_isSize_0 rfl (lv_at hl 0 rfl) ?_
  refine lv_sipush (v := (nI 256)) hx hb dX4_isSize_1 (by decide) ?_
  refine lv_icmp_lt (tgt := 26) hx hb dX4_isSize_4 (by decide) (fun c_4 => ?_) (fun c_4 => ?_)
  · have c_4 : v < 256 := (nI_ltI (a := v) (b := 256) (by omega) (by omega)).mp c_4
    refine lv_iconst (v := (nI 0)) hx hb dX4_isSize_26 (by decide) ?_
    exact W.zret (v := (nI 0)) (ty := .boolean) hx hb hr (by decide) (fun t ht hW => ⟨(nI 0), rfl, (Or.inr ⟨by omega, rfl⟩), ht⟩) (fun _ h9 => absurd h9 List.not_mem_nil) dX4_isSize_27
  · have c_4 : ¬ v < 256 := fun q => c_4 ((nI_ltI (a := v) (b := 256) (by omega) (by omega)).mpr q)
    refine lv_iload_n hx hb dX4_isSize_7 rfl (lv_at hl 0 rfl) ?_
    refine lv_sipush (v := (nI 8192)) hx hb dX4_isSize_8 (by decide) ?_
    refine lv_icmp_gt (tgt := 26) hx hb dX4_isSize_11 (by decide) (fun c_11 => ?_) (fun c_11 => ?_)
    · have c_11 : 8192 < v := (nI_ltI (a := 8192) (b := v) (by omega) (by omega)).mp c_11
      refine lv_iconst (v := (nI 0)) hx hb dX4_isSize_26 (by decide) ?_
      exact W.zret (v := (nI 0)) (ty := .boolean) hx hb hr (by decide) (fun t ht hW => ⟨(nI 0), rfl, (Or.inr ⟨by omega, rfl⟩), ht⟩) (fun _ h9 => absurd h9 List.not_mem_nil) dX4_isSize_27
    · have c_11 : ¬ 8192 < v := fun q => c_11 ((nI_ltI (a := 8192) (b := v) (by omega) (by omega)).mpr q)
      refine lv_iload_n hx hb dX4_isSize_14 rfl (lv_at hl 0 rfl) ?_
      refine lv_sipush (v := (nI 256)) hx hb dX4_isSize_15 (by decide) ?_
      refine lv_irem hx hb dX4_isSize_18 (by decide) ?_
      refine tpi (pk_rem (by omega) (by decide) (by decide)) ?_
      refine lv_if_ne (tgt := 26) hx hb dX4_isSize_19 (by decide) (fun c_19 => ?_) (fun c_19 => ?_)
      · have c_19 : ¬ v % 256 = 0 := fun q => c_19 ((nZ_eq (by omega)).mpr q)
        refine lv_iconst (v := (nI 0)) hx hb dX4_isSize_26 (by decide) ?_
        exact W.zret (v := (nI 0)) (ty := .boolean) hx hb hr (by decide) (fun t ht hW => ⟨(nI 0), rfl, (Or.inr ⟨by omega, rfl⟩), ht⟩) (fun _ h9 => absurd h9 List.not_mem_nil) dX4_isSize_27
      · have c_19 : v % 256 = 0 := (nZ_eq (by omega)).mp c_19
        refine lv_iconst (v := (nI 1)) hx hb dX4_isSize_22 (by decide) ?_
        refine lv_goto (tgt := 27) hx hb dX4_isSize_23 (by decide) ?_
        exact W.zret (v := (nI 1)) (ty := .boolean) hx hb hr (by decide) (fun t ht hW => ⟨(nI 1), rfl, (Or.inl ⟨by omega, rfl⟩), ht⟩) (fun _ h9 => absurd h9 List.not_mem_nil) dX4_isSize_27
set_option maxHeartbeats 4000000 in
set_option maxRecDepth 100000 in
theorem c_X4_isIn (l : Launch) (dC : Nat → ClassId) (dI : Nat → Nat → Nat) (cI : ClassId) (a : Nat → Nat) (sz st us kp ga gl cs : Nat) (mem pl ln km ks kt ku kl kn cd wt : Nat → Nat) (x n : Nat) (g1 : x < 2 ^ 62) (g2 : n < 2 ^ 62) (g3 : sz ≤ 8192) : Met l yX4_isIn wsX4_isIn ({ frames := 0, cells := 0, slots := 0, locals := 0 }) (va_Pc [.ref (a 0), .long (lN x), .long (lN n)] (fun U => va_P (dC, dI) vwCl (mw cI a sz st us kp ga gl cs mem pl ln km ks kt ku kl kn cd wt) U.heap ∧ va_K (dC, dI) vwCl [(cI, .int)] U)) (vp_Si (fun r => ((n = 0 ∨ x + n ≤ sz) ∧ r = nI 1) ∨ (¬ (n = 0 ∨ x + n ≤ sz) ∧ r = nI 0))) 0 0 (fun _ => False) := by
  refine Met.ofW (cc := cX4_isIn) (maxL := 5) (ret := (some .boolean)) (by decide) rfl ?_
  intro p e s m args below meth c s₁ B hml hv
  obtain ⟨rfl, hP, hK⟩ := hv
  have hx := B.exec
  have hb := B.bytes
  have hr := B.returns
  have hts := atoms_spec (ws := wsX4_isIn) B.pre
  have hown : s.vm.findClass RX4 = some m.cls := findClass_of_methodNamed B.named
  have hlocks := B.notSynchronized
  have in_X4 : ∀ w ∈ wsX40, w ∈ wsX4_isIn := fun _ h => List.mem_cons_of_mem _ (List.mem_append_right _ h)
  have lk_1 := hts (.fieldLink RX4 44 "GlulxHeapModel" "size" "I") (List.mem_of_getElem? (i := 1) rfl)
  have hl := lv_entry ([.ref (a 0), .long (lN x), .long (lN n)]) (n := 5) (Nat.le_of_ble_eq_true rfl)
  rw [lg_entry_eq]
  generalize (lg_sl ([.ref (a 0), .long (lN x), .long (lN n)]) ++ List.replicate (5 - (lg_sl ([.ref (a 0), .long (lN x), .long (lN n)])).length) Slot.unset).toArray = ls at hl ⊢
  have hl : lv_has ls 5 [(0, .ref (a 0)), (1, .long (lN x)), (3, .long (lN n))] := hl
  refine lv_lload_n hx hb dX4_isIn_0 rfl (lv_at hl 2 rfl) ?_
  refine lv_lconst (v := lN 0) hx hb dX4_isIn_1 (by decide) ?_
  refine W.lcmp hx hb dX4_isIn_2 ?_
  refine lv_if_eq (tgt := 24) hx hb dX4_isIn_3 (by decide) (fun c_3 => ?_) (fun c_3 => ?_)
  · have c_3 : n = 0 := (pk_lEQ (a := n) (b := 0) (by omega) (by omega)).mp ((lg_cmp_eq _ _).mp c_3)
    refine lv_iconst (v := (nI 1)) hx hb dX4_isIn_24 (by decide) ?_
    refine lv_goto (tgt := 29) hx hb dX4_isIn_25 (by decide) ?_
    exact W.zret (v := (nI 1)) (ty := .boolean) hx hb hr (by decide) (fun t ht hW => ⟨(nI 1), rfl, (Or.inl ⟨by omega, rfl⟩), ht⟩) (fun _ h9 => absurd h9 List.not_mem_nil) dX4_isIn_29
  · have c_3 : ¬ n = 0 := fun q => c_3 ((lg_cmp_eq _ _).mpr ((pk_lEQ (a := n) (b := 0) (by omega) (by omega)).mpr q))
    refine lv_lload_n hx hb dX4_isIn_6 rfl (lv_at hl 1 rfl) ?_
    refine lv_lconst (v := lN 0) hx hb dX4_isIn_7 (by decide) ?_
    refine W.lcmp hx hb dX4_isIn_8 ?_
    refine lv_if_lt (tgt := 28) hx hb dX4_isIn_9 (by decide) (fun c_9 => ?_) (fun c_9 => ?_)
    · have c_9 : x < 0 := (pk_lLT (a := x) (b := 0) (by omega) (by omega)).mp ((lg_cmp_lt _ _).mp c_9)
      refine lv_iconst (v := (nI 0)) hx hb dX4_isIn_28 (by decide) ?_
      exact W.zret (v := (nI 0)) (ty := .boolean) hx hb hr (by decide) (fun t ht hW => ⟨(nI 0), rfl, (Or.inr ⟨by omega, rfl⟩), ht⟩) (fun _ h9 => absurd h9 List.not_mem_nil) dX4_isIn_29
    · have c_9 : ¬ x < 0 := fun q => c_9 ((lg_cmp_lt _ _).mpr ((pk_lLT (a := x) (b := 0) (by omega) (by omega)).mpr q))
      refine lv_lload_n hx hb dX4_isIn_12 rfl (lv_at hl 1 rfl) ?_
      refine lv_lload_n hx hb dX4_isIn_13 rfl (lv_at hl 2 rfl) ?_
      refine lv_ladd hx hb dX4_isIn_14 ?_
      refine tpl (lN_add _ _) ?_
      refine lv_aload_n hx hb dX4_isIn_15 rfl (lv_at hl 0 rfl) ?_
      refine va_get (D := (dC, dI)) (ci := 4) (v := .int (nI sz)) (C := RX4) (T := TX4) (N := 18) hx hb hts in_X4 hown hK hP 0 rfl rfl 1 (by decide) lk_1 (fun _ h9 => h9) rfl dX4_isIn_16 ?_
      refine lv_i2l (v := lN sz) hx hb dX4_isIn_19 (nI_l (by omega)) ?_
      refine W.lcmp hx hb dX4_isIn_20 ?_
      refine lv_if_gt (tgt := 28) hx hb dX4_isIn_21 (by decide) (fun c_21 => ?_) (fun c_21 => ?_)
      · have c_21 : sz < x + n := (pk_lLT (a := sz) (b := x + n) (by omega) (by omega)).mp ((lg_cmp_gt _ _).mp c_21)
        refine lv_iconst (v := (nI 0)) hx hb dX4_isIn_28 (by decide) ?_
        exact W.zret (v := (nI 0)) (ty := .boolean) hx hb hr (by decide) (fun t ht hW => ⟨(nI 0), rfl, (Or.inr ⟨by omega, rfl⟩), ht⟩) (fun _ h9 => absurd h9 List.not_mem_nil) dX4_isIn_29
      · have c_21 : ¬ sz < x + n := fun q => c_21 ((lg_cmp_gt _ _).mpr ((pk_lLT (a := sz) (b := x + n) (by omega) (by omega)).mpr q))
        refine lv_iconst (v := (nI 1)) hx hb dX4_isIn_24 (by decide) ?_
        refine lv_goto (tgt := 29) hx hb dX4_isIn_25 (by decide) ?_
        exact W.zret (v := (nI 1)) (ty := .boolean) hx hb hr (by decide) (fun t ht hW => ⟨(nI 1), rfl, (Or.inl ⟨by omega, rfl⟩), ht⟩) (fun _ h9 => absurd h9 List.not_mem_nil) dX4_isIn_29
set_option maxHeartbeats 4000000 in
set_option maxRecDepth 100000 in
theorem c_X4_isInN (l : Launch) (dC : Nat → ClassId) (dI : Nat → Nat → Nat) (cI : ClassId) (a : Nat → Nat) (sz st us kp ga gl cs : Nat) (mem pl ln km ks kt ku kl kn cd wt : Nat → Nat) (x : Int64) (n : Nat) (g1 : x < lN 0) (g0 : 0 < n) (g2 : n < 2 ^ 62) (g3 : sz ≤ 8192) : Met l yX4_isIn wsX4_isIn ({ frames := 0, cells := 0, slots := 0, locals := 0 }) (va_Pc [.ref (a 0), .long x, .long (lN n)] (fun U => va_P (dC, dI) vwCl (mw cI a sz st us kp ga gl cs mem pl ln km ks kt ku kl kn cd wt) U.heap ∧ va_K (dC, dI) vwCl [(cI, .int)] U)) (vp_Si (fun r => r = nI 0)) 0 0 (fun _ => False) := by
  refine Met.ofW (cc := cX4_isIn) (maxL := 5) (ret := (some .boolean)) (by decide) rfl ?_
  intro p e s m args below meth c s₁ B hml hv
  obtain ⟨rfl, hP, hK⟩ := hv
  have hx := B.exec
  have hb := B.bytes
  have hr := B.returns
  have hts := atoms_spec (ws := wsX4_isIn) B.pre
  have hown : s.vm.findClass RX4 = some m.cls := findClass_of_methodNamed B.named
  have hlocks := B.notSynchronized
  have hl := lv_entry ([.ref (a 0), .long x, .long (lN n)]) (n := 5) (Nat.le_of_ble_eq_true rfl)
  rw [lg_entry_eq]
  generalize (lg_sl ([.ref (a 0), .long x, .long (lN n)]) ++ List.replicate (5 - (lg_sl ([.ref (a 0), .long x, .long (lN n)])).length) Slot.unset).toArray = ls at hl ⊢
  have hl : lv_has ls 5 [(0, .ref (a 0)), (1, .long x), (3, .long (lN n))] := hl
  refine lv_lload_n hx hb dX4_isIn_0 rfl (lv_at hl 2 rfl) ?_
  refine lv_lconst (v := lN 0) hx hb dX4_isIn_1 (by decide) ?_
  refine W.lcmp hx hb dX4_isIn_2 ?_
  refine lv_if_eq (tgt := 24) hx hb dX4_isIn_3 (by decide) (fun c_3 => ?_) (fun c_3 => ?_)
  · have c_3 : n = 0 := (pk_lEQ (a := n) (b := 0) (by omega) (by omega)).mp ((lg_cmp_eq _ _).mp c_3)
    exact absurd c_3 (by omega)
  · have c_3 : ¬ n = 0 := fun q => c_3 ((lg_cmp_eq _ _).mpr ((pk_lEQ (a := n) (b := 0) (by omega) (by omega)).mpr q))
    refine lv_lload_n hx hb dX4_isIn_6 rfl (lv_at hl 1 rfl) ?_
    refine lv_lconst (v := lN 0) hx hb dX4_isIn_7 (by decide) ?_
    refine W.lcmp hx hb dX4_isIn_8 ?_
    refine lv_if_lt (tgt := 28) hx hb dX4_isIn_9 (by decide) (fun c_9 => ?_) (fun c_9 => ?_)
    · have c_9 := (lg_cmp_lt _ _).mp c_9
      refine lv_iconst (v := (nI 0)) hx hb dX4_isIn_28 (by decide) ?_
      exact W.zret (v := (nI 0)) (ty := .boolean) hx hb hr (by decide) (fun t ht hW => ⟨(nI 0), rfl, (show (nI 0) = nI 0 from rfl), ht⟩) (fun _ h9 => absurd h9 List.not_mem_nil) dX4_isIn_29
    · have c_9 : ¬ x < (lN 0) := fun q => c_9 ((lg_cmp_lt _ _).mpr q)
      exact absurd g1 c_9
end
section
set_option maxHeartbeats 4000000 in
set_option maxRecDepth 100000 in
theorem c_X4_first (l : Launch) (i : Nat) (g1 : i < 2 ^ 20) : Met l yX4_first wsX4_first ({ frames := 0, cells := 0, slots := 0, locals := 0 }) (va_Pc [.int (nI i)] (fun _ => True)) (vp_Si (fun r => r = nI (fst i))) 0 0 (fun _ => False) := by
  refine Met.ofW (cc := cX4_first) (maxL := 1) (ret := (some .int)) (by decide) rfl ?_
  intro p e s m args below meth c s₁ B hml hv
  obtain ⟨rfl, -⟩ := hv
  have hx := B.exec
  have hb := B.bytes
  have hr := B.returns
  have hts := atoms_spec (ws := wsX4_first) B.pre
  have hown : s.vm.findClass RX4 = some m.cls := findClass_of_methodNamed B.named
  have hlocks := B.notSynchronized
  have hl := lv_entry ([.int (nI i)]) (n := 1) (Nat.le_of_ble_eq_true rfl)
  rw [lg_entry_eq]
  generalize (lg_sl ([.int (nI i)]) ++ List.replicate (1 - (lg_sl ([.int (nI i)])).length) Slot.unset).toArray = ls at hl ⊢
  have hl : lv_has ls 1 [(0, .int (nI i))] := hl
  refine lv_iload_n hx hb dX4_first_0 rfl (lv_at hl 0 rfl) ?_
  refine lv_bipush (v := (nI 64)) hx hb dX4_first_1 (by decide) ?_
  refine lv_icmp_ge (tgt := 17) hx hb dX4_first_3 (by decide) (fun c_3 => ?_) (fun c_3 => ?_)
  · have c_3 : 64 ≤ i := (nI_leI (a := 64) (b := i) (by omega) (by omega)).mp c_3
    refine lv_iconst (v := (nI 0)) hx hb dX4_first_17 (by decide) ?_
    exact W.iret (v := (nI 0)) hx hb hr (fun t ht hW => ⟨(nI 0), rfl, (show (nI 0) = nI (fst i) from by show _ = nI (fst i); unfold fst; rw [if_neg (by omega)]), ht⟩) (fun _ h9 => absurd h9 List.not_mem_nil) dX4_first_18
  · have c_3 : ¬ 64 ≤ i := fun q => c_3 ((nI_leI (a := 64) (b := i) (by omega) (by omega)).mpr q)
    refine lv_bipush (v := (nI 7)) hx hb dX4_first_6 (by decide) ?_
    refine lv_iload_n hx hb dX4_first_8 rfl (lv_at hl 0 rfl) ?_
    refine lv_imul hx hb dX4_first_9 ?_
    refine tpi (pk_mul _ _) ?_
    refine lv_sipush (v := (nI 255)) hx hb dX4_first_10 (by decide) ?_
    refine lv_iand hx hb dX4_first_13 ?_
    refine tpi (and255 (by omega)) ?_
    refine lv_goto (tgt := 18) hx hb dX4_first_14 (by decide) ?_
    exact W.iret (v := (nI ((7 * i) % 256))) hx hb hr (fun t ht hW => ⟨(nI ((7 * i) % 256)), rfl, (show (nI ((7 * i) % 256)) = nI (fst i) from by show _ = nI (fst i); unfold fst; rw [if_pos (by omega)]), ht⟩) (fun _ h9 => absurd h9 List.not_mem_nil) dX4_first_18
set_option maxHeartbeats 4000000 in
set_option maxRecDepth 100000 in
theorem c_X4_isSizeN (l : Launch) (v : Int32) (g1 : v < 0) : Met l yX4_isSize wsX4_isSize ({ frames := 0, cells := 0, slots := 0, locals := 0 }) (va_Pc [.int v] (fun _ => True)) (vp_Si (fun r => r = nI 0)) 0 0 (fun _ => False) := by
  refine Met.ofW (cc := cX4_isSize) (maxL := 1) (ret := (some .boolean)) (by decide) rfl ?_
  intro p e s m args below meth c s₁ B hml hv
  obtain ⟨rfl, -⟩ := hv
  have hx := B.exec
  have hb := B.bytes
  have hr := B.returns
  have hts := atoms_spec (ws := wsX4_isSize) B.pre
  have hown : s.vm.findClass RX4 = some m.cls := findClass_of_methodNamed B.named
  have hlocks := B.notSynchronized
  have hl := lv_entry ([.int v]) (n := 1) (Nat.le_of_ble_eq_true rfl)
  rw [lg_entry_eq]
  generalize (lg_sl ([.int v]) ++ List.replicate (1 - (lg_sl ([.int v])).length) Slot.unset).toArray = ls at hl ⊢
  have hl : lv_has ls 1 [(0, .int v)] := hl
  refine lv_iload_n hx hb dX4_isSize_0 rfl (lv_at hl 0 rfl) ?_
  refine lv_sipush (v := (nI 256)) hx hb dX4_isSize_1 (by decide) ?_
  refine lv_icmp_lt (tgt := 26) hx hb dX4_isSize_4 (by decide) (fun c_4 => ?_) (fun c_4 => ?_)
  · refine lv_iconst (v := (nI 0)) hx hb dX4_isSize_26 (by decide) ?_
    exact W.zret (v := (nI 0)) (ty := .boolean) hx hb hr (by decide) (fun t ht hW => ⟨(nI 0), rfl, (show (nI 0) = nI 0 from rfl), ht⟩) (fun _ h9 => absurd h9 List.not_mem_nil) dX4_isSize_27
  · skip
    exact absurd (Int32.lt_of_lt_of_le g1 (by decide)) c_4
set_option maxHeartbeats 4000000 in
set_option maxRecDepth 100000 in
theorem c_X4_number (l : Launch) (dC : Nat → ClassId) (dI : Nat → Nat → Nat) (cI : ClassId) (a : Nat → Nat) (sz st us kp ga gl cs : Nat) (mem pl ln km ks kt ku kl kn cd wt : Nat → Nat) (x k : Nat) (g1 : x + k ≤ 8192) (g2 : k ≤ 4) (bmem : ∀ j, mem j < 256) : Met l yX4_number wsX4_number ({ frames := 0, cells := 0, slots := 0, locals := 0 }) (va_Pc [.ref (a 0), .int (nI x), .int (nI k)] (fun U => va_P (dC, dI) vwCl (mw cI a sz st us kp ga gl cs mem pl ln km ks kt ku kl kn cd wt) U.heap ∧ va_K (dC, dI) vwCl [(cI, .int)] U)) (vp_Sl (fun r => r = lN (num mem x k))) 0 0 (fun _ => False) := by
  refine Met.ofW (cc := cX4_number) (maxL := 6) (ret := (some .long)) (by decide) rfl ?_
  intro p e s m args below meth c s₁ B hml hv
  obtain ⟨rfl, hP, hK⟩ := hv
  have hx := B.exec
  have hb := B.bytes
  have hr := B.returns
  have hts := atoms_spec (ws := wsX4_number) B.pre
  have hown : s.vm.findClass RX4 = some m.cls := findClass_of_methodNamed B.named
  have hlocks := B.notSynchronized
  have in_X4 : ∀ w ∈ wsX40, w ∈ wsX4_number := fun _ h => List.mem_cons_of_mem _ (List.mem_append_right _ h)
  have lk_1 := hts (.fieldLink RX4 7 "GlulxHeapModel" "memory" "[I") (List.mem_of_getElem? (i := 1) rfl)
  have hl := lv_entry ([.ref (a 0), .int (nI x), .int (nI k)]) (n := 6) (Nat.le_of_ble_eq_true rfl)
  rw [lg_entry_eq]
  generalize (lg_sl ([.ref (a 0), .int (nI x), .int (nI k)]) ++ List.replicate (6 - (lg_sl ([.ref (a 0), .int (nI x), .int (nI k)])).length) Slot.unset).toArray = ls at hl ⊢
  have hl : lv_has ls 6 [(0, .ref (a 0)), (1, .int (nI x)), (2, .int (nI k))] := hl
  refine lv_lconst (v := lN 0) hx hb dX4_number_0 (by decide) ?_
  refine lv_lstore_n (lv' := [(3, .long (lN 0)), (0, .ref (a 0)), (1, .int (nI x)), (2, .int (nI k))]) hx hb dX4_number_1 rfl hl (by decide) rfl (fun ls hl => ?_)
  refine lv_iconst (v := (nI 0)) hx hb dX4_number_2 (by decide) ?_
  refine lv_istore (lv' := [(5, .int (nI 0)), (3, .long (lN 0)), (0, .ref (a 0)), (1, .int (nI x)), (2, .int (nI k))]) hx hb dX4_number_3 hl (by decide) rfl (fun ls hl => ?_)
  refine lp_still (σ := Nat × Nat) (fun ⟨i, v⟩ => i ≤ k ∧ v = num mem x i) (fun ⟨i, v⟩ => k - i) (fun ⟨i, v⟩ => [(5, .int (nI i)), (3, .long (lN v)), (0, .ref (a 0)), (1, .int (nI x)), (2, .int (nI k))]) ?_ ((0, 0)) (⟨Nat.zero_le _, rfl⟩) (lv_sub hl [0, 1, 2, 3, 4] rfl)
  intro ⟨i, v⟩ hI ih ls hl
  have hl : lv_has ls 6 [(5, .int (nI i)), (3, .long (lN v)), (0, .ref (a 0)), (1, .int (nI x)), (2, .int (nI k))] := hl
  have hI : i ≤ k ∧ v = num mem x i := hI
  obtain ⟨hi, hv⟩ := hI
  have ih_5 := ih
  refine lv_iload hx hb dX4_number_5 (lv_at hl 0 rfl) ?_
  refine lv_iload_n hx hb dX4_number_7 rfl (lv_at hl 4 rfl) ?_
  refine lv_icmp_ge (tgt := 33) hx hb dX4_number_8 (by decide) (fun c_8 => ?_) (fun c_8 => ?_)
  · have c_8 : k ≤ i := (nI_leI (a := k) (b := i) (by omega) (by omega)).mp c_8
    refine lv_lload_n hx hb dX4_number_33 rfl (lv_at hl 1 rfl) ?_
    exact W.lret (v := (lN v)) hx hb hr (fun t ht hW => ⟨(lN v), rfl, (show (lN v) = lN (num mem x k) from by rw [hv, show i = k by omega]), ht⟩) (fun _ h9 => absurd h9 List.not_mem_nil) dX4_number_34
  · have c_8 : ¬ k ≤ i := fun q => c_8 ((nI_leI (a := k) (b := i) (by omega) (by omega)).mpr q)
    have hb32 : v < 2 ^ 32 := by rw [hv]; exact num_lt4 bmem (by omega)
    refine lv_lload_n hx hb dX4_number_11 rfl (lv_at hl 1 rfl) ?_
    refine lv_bipush (v := (nI 8)) hx hb dX4_number_12 (by decide) ?_
    refine lv_lshl hx hb dX4_number_14 (shl8l _) ?_
    refine lv_aload_n hx hb dX4_number_15 rfl (lv_at hl 2 rfl) ?_
    refine va_get (D := (dC, dI)) (ci := 4) (v := .ref (a 1)) (C := RX4) (T := TX4) (N := 18) hx hb hts in_X4 hown hK hP 0 rfl rfl 0 (by decide) lk_1 (fun _ h9 => h9) rfl dX4_number_16 ?_
    refine lv_iload_n hx hb dX4_number_19 rfl (lv_at hl 3 rfl) ?_
    refine lv_iload hx hb dX4_number_20 (lv_at hl 0 rfl) ?_
    refine lv_iadd hx hb dX4_number_22 ?_
    refine tpi (nI_add _ _) ?_
    refine va_iald hx hb hK hP 1 0 rfl rfl (vp_in_nI (by omega) (by omega)) dX4_number_23 ?_
    refine tpi (nf_at (by omega)) ?_
    have w_23 := bmem (x + i)
    refine lv_i2l (v := lN (mem (x + i))) hx hb dX4_number_24 (nI_l (by omega)) ?_
    refine lv_lor hx hb dX4_number_25 ?_
    refine tpl (or8l w_23 (by omega)) ?_
    refine lv_lstore_n (lv' := [(3, .long (lN (v * 256 + (mem (x + i))))), (5, .int (nI i)), (0, .ref (a 0)), (1, .int (nI x)), (2, .int (nI k))]) hx hb dX4_number_26 rfl hl (by decide) rfl (fun ls hl => ?_)
    refine lv_iinc (v := (nI (i + 1))) (lv' := [(5, .int (nI (i + 1))), (3, .long (lN (v * 256 + (mem (x + i))))), (0, .ref (a 0)), (1, .int (nI x)), (2, .int (nI k))]) hx hb dX4_number_27 hl (k := 1) rfl (nI_inc _) (by decide) rfl (fun ls hl => ?_)
    refine lv_goto (tgt := 5) hx hb dX4_number_30 (by decide) ?_
    exact ih_5 (i + 1, v * 256 + (mem (x + i))) (⟨by omega, by rw [hv]; rfl⟩) (show k - (i + 1) < k - i by omega) ls (lv_sub hl [0, 1, 2, 3, 4] rfl)
set_option maxHeartbeats 4000000 in
set_option maxRecDepth 100000 in
theorem c_X4_compare (l : Launch) (dC : Nat → ClassId) (dI : Nat → Nat → Nat) (cI : ClassId) (a : Nat → Nat) (sz st us kp ga gl cs : Nat) (mem pl ln km ks kt ku kl kn cd wt : Nat → Nat) (x k : Nat) (g1 : x + k ≤ 8192) (g2 : k ≤ 64) (bmem : ∀ j, mem j < 256) (bwt : ∀ j, wt j < 256) : Met l yX4_compare wsX4_compare ({ frames := 0, cells := 0, slots := 0, locals := 0 }) (va_Pc [.ref (a 0), .int (nI x), .int (nI k)] (fun U => va_P (dC, dI) vwCl (mw cI a sz st us kp ga gl cs mem pl ln km ks kt ku kl kn cd wt) U.heap ∧ va_K (dC, dI) vwCl [(cI, .int)] U)) (vp_Si (fun r => (cmpB mem x wt k = 0 ∧ r = nI 0) ∨ (cmpB mem x wt k = 1 ∧ r = (-1)) ∨ (cmpB mem x wt k = 2 ∧ r = nI 1))) 0 0 (fun _ => False) := by
  refine Met.ofW (cc := cX4_compare) (maxL := 4) (ret := (some .int)) (by decide) rfl ?_
  intro p e s m args below meth c s₁ B hml hv
  obtain ⟨rfl, hP, hK⟩ := hv
  have hx := B.exec
  have hb := B.bytes
  have hr := B.returns
  have hts := atoms_spec (ws := wsX4_compare) B.pre
  have hown : s.vm.findClass RX4 = some m.cls := findClass_of_methodNamed B.named
  have hlocks := B.notSynchronized
  have in_X4 : ∀ w ∈ wsX40, w ∈ wsX4_compare := fun _ h => List.mem_cons_of_mem _ (List.mem_append_right _ h)
  have lk_1 := hts (.fieldLink RX4 7 "GlulxHeapModel" "memory" "[I") (List.mem_of_getElem? (i := 1) rfl)
  have lk_2 := hts (.fieldLink RX4 41 "GlulxHeapModel" "wanted" "[I") (List.mem_of_getElem? (i := 2) rfl)
  have hl := lv_entry ([.ref (a 0), .int (nI x), .int (nI k)]) (n := 4) (Nat.le_of_ble_eq_true rfl)
  rw [lg_entry_eq]
  generalize (lg_sl ([.ref (a 0), .int (nI x), .int (nI k)]) ++ List.replicate (4 - (lg_sl ([.ref (a 0), .int (nI x), .int (nI k)])).length) Slot.unset).toArray = ls at hl ⊢
  have hl : lv_has ls 4 [(0, .ref (a 0)), (1, .int (nI x)), (2, .int (nI k))] := hl
  refine lv_iconst (v := (nI 0)) hx hb dX4_compare_0 (by decide) ?_
  refine lv_istore_n (lv' := [(3, .int (nI 0)), (0, .ref (a 0)), (1, .int (nI x)), (2, .int (nI k))]) hx hb dX4_compare_1 rfl hl (by decide) rfl (fun ls hl => ?_)
  refine lp_still (σ := Nat) (fun i => i ≤ k ∧ cmpB mem x wt k = cmpF mem x wt k (k - i) i) (fun i => k - i) (fun i => [(3, .int (nI i)), (0, .ref (a 0)), (1, .int (nI x)), (2, .int (nI k))]) ?_ 0 (⟨Nat.zero_le _, rfl⟩) (lv_sub hl [0, 1, 2, 3] rfl)
  intro i hI ih ls hl
  have hl : lv_has ls 4 [(3, .int (nI i)), (0, .ref (a 0)), (1, .int (nI x)), (2, .int (nI k))] := hl
  have hI : i ≤ k ∧ cmpB mem x wt k = cmpF mem x wt k (k - i) i := hI
  obtain ⟨hi, hv⟩ := hI
  have ih_2 := ih
  refine lv_iload_n hx hb dX4_compare_2 rfl (lv_at hl 0 rfl) ?_
  refine lv_iload_n hx hb dX4_compare_3 rfl (lv_at hl 3 rfl) ?_
  refine lv_icmp_ge (tgt := 53) hx hb dX4_compare_4 (by decide) (fun c_4 => ?_) (fun c_4 => ?_)
  · have c_4 : k ≤ i := (nI_leI (a := k) (b := i) (by omega) (by omega)).mp c_4
    refine lv_iconst (v := (nI 0)) hx hb dX4_compare_53 (by decide) ?_
    exact W.iret (v := (nI 0)) hx hb hr (fun t ht hW => ⟨(nI 0), rfl, Or.inl ⟨by rw [hv, cmpF_end (by omega)], rfl⟩, ht⟩) (fun _ h9 => absurd h9 List.not_mem_nil) dX4_compare_54
  · have c_4 : ¬ k ≤ i := fun q => c_4 ((nI_leI (a := k) (b := i) (by omega) (by omega)).mpr q)
    refine lv_aload_n hx hb dX4_compare_7 rfl (lv_at hl 1 rfl) ?_
    refine va_get (D := (dC, dI)) (ci := 4) (v := .ref (a 1)) (C := RX4) (T := TX4) (N := 18) hx hb hts in_X4 hown hK hP 0 rfl rfl 0 (by decide) lk_1 (fun _ h9 => h9) rfl dX4_compare_8 ?_
    refine lv_iload_n hx hb dX4_compare_11 rfl (lv_at hl 2 rfl) ?_
    refine lv_iload_n hx hb dX4_compare_12 rfl (lv_at hl 0 rfl) ?_
    refine lv_iadd hx hb dX4_compare_13 ?_
    refine tpi (nI_add _ _) ?_
    refine va_iald hx hb hK hP 1 0 rfl rfl (vp_in_nI (by omega) (by omega)) dX4_compare_14 ?_
    refine tpi (nf_at (by omega)) ?_
    have w_14 := bmem (x + i)
    refine lv_aload_n hx hb dX4_compare_15 rfl (lv_at hl 1 rfl) ?_
    refine va_get (D := (dC, dI)) (ci := 4) (v := .ref (a 11)) (C := RX4) (T := TX4) (N := 18) hx hb hts in_X4 hown hK hP 0 rfl rfl 17 (by decide) lk_2 (fun _ h9 => h9) rfl dX4_compare_16 ?_
    refine lv_iload_n hx hb dX4_compare_19 rfl (lv_at hl 0 rfl) ?_
    refine va_iald hx hb hK hP 11 0 rfl rfl (vp_in_nI (by omega) (by omega)) dX4_compare_20 ?_
    refine tpi (nf_at (by omega)) ?_
    have w_20 := bwt i
    refine lv_icmp_eq (tgt := 47) hx hb dX4_compare_21 (by decide) (fun c_21 => ?_) (fun c_21 => ?_)
    · have c_21 : mem (x + i) = wt i := (nI_eq (a := mem (x + i)) (b := wt i) (by omega) (by omega)).mp c_21
      refine lv_iinc (v := (nI (i + 1))) (lv' := [(3, .int (nI (i + 1))), (0, .ref (a 0)), (1, .int (nI x)), (2, .int (nI k))]) hx hb dX4_compare_47 hl (k := 0) rfl (nI_inc _) (by decide) rfl (fun ls hl => ?_)
      refine lv_goto (tgt := 2) hx hb dX4_compare_50 (by decide) ?_
      exact ih_2 (i + 1) (⟨by omega, by rw [hv, cmpF_step (by omega), if_pos c_21]⟩) (show k - (i + 1) < k - i by omega) ls (lv_sub hl [0, 1, 2, 3] rfl)
    · have c_21 : ¬ mem (x + i) = wt i := fun q => c_21 ((nI_eq (a := mem (x + i)) (b := wt i) (by omega) (by omega)).mpr q)
      refine lv_aload_n hx hb dX4_compare_24 rfl (lv_at hl 1 rfl) ?_
      refine va_get (D := (dC, dI)) (ci := 4) (v := .ref (a 1)) (C := RX4) (T := TX4) (N := 18) hx hb hts in_X4 hown hK hP 0 rfl rfl 0 (by decide) lk_1 (fun _ h9 => h9) rfl dX4_compare_25 ?_
      refine lv_iload_n hx hb dX4_compare_28 rfl (lv_at hl 2 rfl) ?_
      refine lv_iload_n hx hb dX4_compare_29 rfl (lv_at hl 0 rfl) ?_
      refine lv_iadd hx hb dX4_compare_30 ?_
      refine tpi (nI_add _ _) ?_
      refine va_iald hx hb hK hP 1 0 rfl rfl (vp_in_nI (by omega) (by omega)) dX4_compare_31 ?_
      refine tpi (nf_at (by omega)) ?_
      have w_31 := bmem (x + i)
      refine lv_aload_n hx hb dX4_compare_32 rfl (lv_at hl 1 rfl) ?_
      refine va_get (D := (dC, dI)) (ci := 4) (v := .ref (a 11)) (C := RX4) (T := TX4) (N := 18) hx hb hts in_X4 hown hK hP 0 rfl rfl 17 (by decide) lk_2 (fun _ h9 => h9) rfl dX4_compare_33 ?_
      refine lv_iload_n hx hb dX4_compare_36 rfl (lv_at hl 0 rfl) ?_
      refine va_iald hx hb hK hP 11 0 rfl rfl (vp_in_nI (by omega) (by omega)) dX4_compare_37 ?_
      refine tpi (nf_at (by omega)) ?_
      have w_37 := bwt i
      refine lv_icmp_ge (tgt := 45) hx hb dX4_compare_38 (by decide) (fun c_38 => ?_) (fun c_38 => ?_)
      · have c_38 : wt i ≤ mem (x + i) := (nI_leI (a := wt i) (b := mem (x + i)) (by omega) (by omega)).mp c_38
        refine lv_iconst (v := (nI 1)) hx hb dX4_compare_45 (by decide) ?_
        exact W.iret (v := (nI 1)) hx hb hr (fun t ht hW => ⟨(nI 1), rfl, Or.inr (Or.inr ⟨by rw [hv, cmpF_step (by omega), if_neg c_21, if_neg (by omega)], rfl⟩), ht⟩) (fun _ h9 => absurd h9 List.not_mem_nil) dX4_compare_46
      · have c_38 : ¬ wt i ≤ mem (x + i) := fun q => c_38 ((nI_leI (a := wt i) (b := mem (x + i)) (by omega) (by omega)).mpr q)
        refine lv_iconst (v := ((-1))) hx hb dX4_compare_41 (by decide) ?_
        refine lv_goto (tgt := 46) hx hb dX4_compare_42 (by decide) ?_
        exact W.iret (v := ((-1))) hx hb hr (fun t ht hW => ⟨((-1)), rfl, Or.inr (Or.inl ⟨by rw [hv, cmpF_step (by omega), if_neg c_21, if_pos (by omega)], rfl⟩), ht⟩) (fun _ h9 => absurd h9 List.not_mem_nil) dX4_compare_46
set_option maxHeartbeats 4000000 in
set_option maxRecDepth 100000 in
theorem c_X4_isZero (l : Launch) (dC : Nat → ClassId) (dI : Nat → Nat → Nat) (cI : ClassId) (a : Nat → Nat) (sz st us kp ga gl cs : Nat) (mem pl ln km ks kt ku kl kn cd wt : Nat → Nat) (x k : Nat) (g1 : x + k ≤ 8192) (g2 : k ≤ 64) (bmem : ∀ j, mem j < 256) : Met l yX4_isZero wsX4_isZero ({ frames := 0, cells := 0, slots := 0, locals := 0 }) (va_Pc [.ref (a 0), .int (nI x), .int (nI k)] (fun U => va_P (dC, dI) vwCl (mw cI a sz st us kp ga gl cs mem pl ln km ks kt ku kl kn cd wt) U.heap ∧ va_K (dC, dI) vwCl [(cI, .int)] U)) (vp_Si (fun r => ((allZ mem x k) ∧ r = nI 1) ∨ (¬ (allZ mem x k) ∧ r = nI 0))) 0 0 (fun _ => False) := by
  refine Met.ofW (cc := cX4_isZero) (maxL := 5) (ret := (some .boolean)) (by decide) rfl ?_
  intro p e s m args below meth c s₁ B hml hv
  obtain ⟨rfl, hP, hK⟩ := hv
  have hx := B.exec
  have hb := B.bytes
  have hr := B.returns
  have hts := atoms_spec (ws := wsX4_isZero) B.pre
  have hown : s.vm.findClass RX4 = some m.cls := findClass_of_methodNamed B.named
  have hlocks := B.notSynchronized
  have in_X4 : ∀ w ∈ wsX40, w ∈ wsX4_isZero := fun _ h => List.mem_cons_of_mem _ (List.mem_append_right _ h)
  have lk_1 := hts (.fieldLink RX4 7 "GlulxHeapModel" "memory" "[I") (List.mem_of_getElem? (i := 1) rfl)
  have hl := lv_entry ([.ref (a 0), .int (nI x), .int (nI k)]) (n := 5) (Nat.le_of_ble_eq_true rfl)
  rw [lg_entry_eq]
  generalize (lg_sl ([.ref (a 0), .int (nI x), .int (nI k)]) ++ List.replicate (5 - (lg_sl ([.ref (a 0), .int (nI x), .int (nI k)])).length) Slot.unset).toArray = ls at hl ⊢
  have hl : lv_has ls 5 [(0, .ref (a 0)), (1, .int (nI x)), (2, .int (nI k))] := hl
  refine lv_iconst (v := (nI 1)) hx hb dX4_isZero_0 (by decide) ?_
  refine lv_istore_n (lv' := [(3, .int (nI 1)), (0, .ref (a 0)), (1, .int (nI x)), (2, .int (nI k))]) hx hb dX4_isZero_1 rfl hl (by decide) rfl (fun ls hl => ?_)
  refine lv_iconst (v := (nI 0)) hx hb dX4_isZero_2 (by decide) ?_
  refine lv_istore (lv' := [(4, .int (nI 0)), (3, .int (nI 1)), (0, .ref (a 0)), (1, .int (nI x)), (2, .int (nI k))]) hx hb dX4_isZero_3 hl (by decide) rfl (fun ls hl => ?_)
  refine lp_still (σ := Nat × Nat) (fun ⟨i, b⟩ => i ≤ k ∧ ((b = 1 ∧ allZ mem x i) ∨ (b = 0 ∧ ¬ allZ mem x k))) (fun ⟨i, b⟩ => k - i) (fun ⟨i, b⟩ => [(4, .int (nI i)), (3, .int (nI b)), (0, .ref (a 0)), (1, .int (nI x)), (2, .int (nI k))]) ?_ ((0, 1)) (⟨Nat.zero_le _, Or.inl ⟨rfl, fun j hj => absurd hj (Nat.not_lt_zero _)⟩⟩) (lv_sub hl [0, 1, 2, 3, 4] rfl)
  intro ⟨i, b⟩ hI ih ls hl
  have hl : lv_has ls 5 [(4, .int (nI i)), (3, .int (nI b)), (0, .ref (a 0)), (1, .int (nI x)), (2, .int (nI k))] := hl
  have hI : i ≤ k ∧ ((b = 1 ∧ allZ mem x i) ∨ (b = 0 ∧ ¬ allZ mem x k)) := hI
  obtain ⟨hi, hv⟩ := hI
  have ih_5 := ih
  refine lv_iload hx hb dX4_isZero_5 (lv_at hl 0 rfl) ?_
  refine lv_iload_n hx hb dX4_isZero_7 rfl (lv_at hl 4 rfl) ?_
  refine lv_icmp_ge (tgt := 39) hx hb dX4_isZero_8 (by decide) (fun c_8 => ?_) (fun c_8 => ?_)
  · have c_8 : k ≤ i := (nI_leI (a := k) (b := i) (by omega) (by omega)).mp c_8
    rcases hv with ⟨rfl, hv⟩ | ⟨rfl, hv⟩
    · refine lv_iload_n hx hb dX4_isZero_39 rfl (lv_at hl 1 rfl) ?_
      exact W.zret (v := (nI 1)) (ty := .boolean) hx hb hr (by decide) (fun t ht hW => ⟨(nI 1), rfl, Or.inl ⟨by rw [show k = i by omega]; exact hv, rfl⟩, ht⟩) (fun _ h9 => absurd h9 List.not_mem_nil) dX4_isZero_40
    · refine lv_iload_n hx hb dX4_isZero_39 rfl (lv_at hl 1 rfl) ?_
      exact W.zret (v := (nI 0)) (ty := .boolean) hx hb hr (by decide) (fun t ht hW => ⟨(nI 0), rfl, Or.inr ⟨hv, rfl⟩, ht⟩) (fun _ h9 => absurd h9 List.not_mem_nil) dX4_isZero_40
  · have c_8 : ¬ k ≤ i := fun q => c_8 ((nI_leI (a := k) (b := i) (by omega) (by omega)).mpr q)
    rcases hv with ⟨rfl, hv⟩ | ⟨rfl, hv⟩
    · refine lv_iload_n hx hb dX4_isZero_11 rfl (lv_at hl 1 rfl) ?_
      refine lv_if_eq (tgt := 31) hx hb dX4_isZero_12 (by decide) (fun c_12 => ?_) (fun c_12 => ?_)
      · exact absurd c_12 (by decide)
      · have c_12 : ¬ 1 = 0 := fun q => c_12 ((nZ_eq (by omega)).mpr q)
        refine lv_aload_n hx hb dX4_isZero_15 rfl (lv_at hl 2 rfl) ?_
        refine va_get (D := (dC, dI)) (ci := 4) (v := .ref (a 1)) (C := RX4) (T := TX4) (N := 18) hx hb hts in_X4 hown hK hP 0 rfl rfl 0 (by decide) lk_1 (fun _ h9 => h9) rfl dX4_isZero_16 ?_
        refine lv_iload_n hx hb dX4_isZero_19 rfl (lv_at hl 3 rfl) ?_
        refine lv_iload hx hb dX4_isZero_20 (lv_at hl 0 rfl) ?_
        refine lv_iadd hx hb dX4_isZero_22 ?_
        refine tpi (nI_add _ _) ?_
        refine va_iald hx hb hK hP 1 0 rfl rfl (vp_in_nI (by omega) (by omega)) dX4_isZero_23 ?_
        refine tpi (nf_at (by omega)) ?_
        have w_23 := bmem (x + i)
        refine lv_if_ne (tgt := 31) hx hb dX4_isZero_24 (by decide) (fun c_24 => ?_) (fun c_24 => ?_)
        · have c_24 : ¬ mem (x + i) = 0 := fun q => c_24 ((nZ_eq (by omega)).mpr q)
          refine lv_iconst (v := (nI 0)) hx hb dX4_isZero_31 (by decide) ?_
          refine lv_istore_n (lv' := [(3, .int (nI 0)), (4, .int (nI i)), (0, .ref (a 0)), (1, .int (nI x)), (2, .int (nI k))]) hx hb dX4_isZero_32 rfl hl (by decide) rfl (fun ls hl => ?_)
          refine lv_iinc (v := (nI (i + 1))) (lv' := [(4, .int (nI (i + 1))), (3, .int (nI 0)), (0, .ref (a 0)), (1, .int (nI x)), (2, .int (nI k))]) hx hb dX4_isZero_33 hl (k := 1) rfl (nI_inc _) (by decide) rfl (fun ls hl => ?_)
          refine lv_goto (tgt := 5) hx hb dX4_isZero_36 (by decide) ?_
          exact ih_5 (i + 1, 0) (⟨by omega, Or.inr ⟨rfl, fun hz => c_24 (hz i (by omega))⟩⟩) (show k - (i + 1) < k - i by omega) ls (lv_sub hl [0, 1, 2, 3, 4] rfl)
        · have c_24 : mem (x + i) = 0 := (nZ_eq (by omega)).mp c_24
          refine lv_iconst (v := (nI 1)) hx hb dX4_isZero_27 (by decide) ?_
          refine lv_goto (tgt := 32) hx hb dX4_isZero_28 (by decide) ?_
          refine lv_istore_n (lv' := [(3, .int (nI 1)), (4, .int (nI i)), (0, .ref (a 0)), (1, .int (nI x)), (2, .int (nI k))]) hx hb dX4_isZero_32 rfl hl (by decide) rfl (fun ls hl => ?_)
          refine lv_iinc (v := (nI (i + 1))) (lv' := [(4, .int (nI (i + 1))), (3, .int (nI 1)), (0, .ref (a 0)), (1, .int (nI x)), (2, .int (nI k))]) hx hb dX4_isZero_33 hl (k := 1) rfl (nI_inc _) (by decide) rfl (fun ls hl => ?_)
          refine lv_goto (tgt := 5) hx hb dX4_isZero_36 (by decide) ?_
          exact ih_5 (i + 1, 1) (⟨by omega, Or.inl ⟨rfl, fun j hj => if q : j < i then hv j q else by rw [show j = i by omega]; exact c_24⟩⟩) (show k - (i + 1) < k - i by omega) ls (lv_sub hl [0, 1, 2, 3, 4] rfl)
    · refine lv_iload_n hx hb dX4_isZero_11 rfl (lv_at hl 1 rfl) ?_
      refine lv_if_eq (tgt := 31) hx hb dX4_isZero_12 (by decide) (fun c_12 => ?_) (fun c_12 => ?_)
      · have c_12 : 0 = 0 := (nZ_eq (by omega)).mp c_12
        refine lv_iconst (v := (nI 0)) hx hb dX4_isZero_31 (by decide) ?_
        refine lv_istore_n (lv' := [(3, .int (nI 0)), (4, .int (nI i)), (0, .ref (a 0)), (1, .int (nI x)), (2, .int (nI k))]) hx hb dX4_isZero_32 rfl hl (by decide) rfl (fun ls hl => ?_)
        refine lv_iinc (v := (nI (i + 1))) (lv' := [(4, .int (nI (i + 1))), (3, .int (nI 0)), (0, .ref (a 0)), (1, .int (nI x)), (2, .int (nI k))]) hx hb dX4_isZero_33 hl (k := 1) rfl (nI_inc _) (by decide) rfl (fun ls hl => ?_)
        refine lv_goto (tgt := 5) hx hb dX4_isZero_36 (by decide) ?_
        exact ih_5 (i + 1, 0) (⟨by omega, Or.inr ⟨rfl, hv⟩⟩) (show k - (i + 1) < k - i by omega) ls (lv_sub hl [0, 1, 2, 3, 4] rfl)
      · exact absurd c_12 (by decide)
set_option maxHeartbeats 4000000 in
set_option maxRecDepth 100000 in
theorem c_X4_two (l : Launch) (dC : Nat → ClassId) (dI : Nat → Nat → Nat) (cI : ClassId) (a : Nat → Nat) (sz st us kp ga gl cs : Nat) (mem pl ln km ks kt ku kl kn cd wt : Nat → Nat) (x : Nat) (g1 : x + 2 ≤ 20000) (bcd : ∀ j, cd j < 256) : Met l yX4_two wsX4_two ({ frames := 0, cells := 0, slots := 0, locals := 0 }) (va_Pc [.ref (a 0), .int (nI x)] (fun U => va_P (dC, dI) vwCl (mw cI a sz st us kp ga gl cs mem pl ln km ks kt ku kl kn cd wt) U.heap ∧ va_K (dC, dI) vwCl [(cI, .int)] U)) (vp_Si (fun r => r = nI (cd x * 256 + cd (x + 1)))) 0 0 (fun _ => False) := by
  refine Met.ofW (cc := cX4_two) (maxL := 2) (ret := (some .int)) (by decide) rfl ?_
  intro p e s m args below meth c s₁ B hml hv
  obtain ⟨rfl, hP, hK⟩ := hv
  have hx := B.exec
  have hb := B.bytes
  have hr := B.returns
  have hts := atoms_spec (ws := wsX4_two) B.pre
  have hown : s.vm.findClass RX4 = some m.cls := findClass_of_methodNamed B.named
  have hlocks := B.notSynchronized
  have in_X4 : ∀ w ∈ wsX40, w ∈ wsX4_two := fun _ h => List.mem_cons_of_mem _ (List.mem_append_right _ h)
  have lk_1 := hts (.fieldLink RX4 38 "GlulxHeapModel" "code" "[I") (List.mem_of_getElem? (i := 1) rfl)
  have hl := lv_entry ([.ref (a 0), .int (nI x)]) (n := 2) (Nat.le_of_ble_eq_true rfl)
  rw [lg_entry_eq]
  generalize (lg_sl ([.ref (a 0), .int (nI x)]) ++ List.replicate (2 - (lg_sl ([.ref (a 0), .int (nI x)])).length) Slot.unset).toArray = ls at hl ⊢
  have hl : lv_has ls 2 [(0, .ref (a 0)), (1, .int (nI x))] := hl
  refine lv_aload_n hx hb dX4_two_0 rfl (lv_at hl 0 rfl) ?_
  refine va_get (D := (dC, dI)) (ci := 4) (v := .ref (a 10)) (C := RX4) (T := TX4) (N := 18) hx hb hts in_X4 hown hK hP 0 rfl rfl 15 (by decide) lk_1 (fun _ h9 => h9) rfl dX4_two_1 ?_
  refine lv_iload_n hx hb dX4_two_4 rfl (lv_at hl 1 rfl) ?_
  refine va_iald hx hb hK hP 10 0 rfl rfl (vp_in_nI (by omega) (by omega)) dX4_two_5 ?_
  refine tpi (nf_at (by omega)) ?_
  have w_5 := bcd x
  refine lv_bipush (v := (nI 8)) hx hb dX4_two_6 (by decide) ?_
  refine lv_ishl hx hb dX4_two_8 ?_
  refine tpi (shl8 (by omega)) ?_
  refine lv_aload_n hx hb dX4_two_9 rfl (lv_at hl 0 rfl) ?_
  refine va_get (D := (dC, dI)) (ci := 4) (v := .ref (a 10)) (C := RX4) (T := TX4) (N := 18) hx hb hts in_X4 hown hK hP 0 rfl rfl 15 (by decide) lk_1 (fun _ h9 => h9) rfl dX4_two_10 ?_
  refine lv_iload_n hx hb dX4_two_13 rfl (lv_at hl 1 rfl) ?_
  refine lv_iconst (v := (nI 1)) hx hb dX4_two_14 (by decide) ?_
  refine lv_iadd hx hb dX4_two_15 ?_
  refine tpi (nI_add _ _) ?_
  refine va_iald hx hb hK hP 10 0 rfl rfl (vp_in_nI (by omega) (by omega)) dX4_two_16 ?_
  refine tpi (nf_at (by omega)) ?_
  have w_16 := bcd (x + 1)
  refine lv_ior hx hb dX4_two_17 ?_
  refine tpi (or8 w_16) ?_
  exact W.iret (v := (nI ((cd x) * 256 + (cd (x + 1))))) hx hb hr (fun t ht hW => ⟨(nI ((cd x) * 256 + (cd (x + 1)))), rfl, (show (nI ((cd x) * 256 + (cd (x + 1)))) = nI (cd x * 256 + cd (x + 1)) from rfl), ht⟩) (fun _ h9 => absurd h9 List.not_mem_nil) dX4_two_18
set_option maxHeartbeats 4000000 in
set_option maxRecDepth 100000 in
theorem c_X4_behind (l : Launch) (dC : Nat → ClassId) (dI : Nat → Nat → Nat) (cI : ClassId) (a : Nat → Nat) (sz st us kp ga gl cs : Nat) (mem pl ln km ks kt ku kl kn cd wt : Nat → Nat) (i : Nat) (g1 : i < 65) : Met l yX4_behind wsX4_behind ({ frames := 0, cells := 0, slots := 0, locals := 0 }) (va_Pc [.ref (a 0), .int (nI i)] (fun U => va_P (dC, dI) vwCl (mw cI a sz st us kp ga gl cs mem pl ln km ks kt ku kl kn cd wt) U.heap ∧ va_K (dC, dI) vwCl [(cI, .int)] U)) (vp_Si (fun r => r = nI (pl i + ln i))) 0 0 (fun _ => False) := by
  refine Met.ofW (cc := cX4_behind) (maxL := 2) (ret := (some .int)) (by decide) rfl ?_
  intro p e s m args below meth c s₁ B hml hv
  obtain ⟨rfl, hP, hK⟩ := hv
  have hx := B.exec
  have hb := B.bytes
  have hr := B.returns
  have hts := atoms_spec (ws := wsX4_behind) B.pre
  have hown : s.vm.findClass RX4 = some m.cls := findClass_of_methodNamed B.named
  have hlocks := B.notSynchronized
  have in_X4 : ∀ w ∈ wsX40, w ∈ wsX4_behind := fun _ h => List.mem_cons_of_mem _ (List.mem_append_right _ h)
  have lk_1 := hts (.fieldLink RX4 13 "GlulxHeapModel" "place" "[I") (List.mem_of_getElem? (i := 1) rfl)
  have lk_2 := hts (.fieldLink RX4 16 "GlulxHeapModel" "length" "[I") (List.mem_of_getElem? (i := 2) rfl)
  have hl := lv_entry ([.ref (a 0), .int (nI i)]) (n := 2) (Nat.le_of_ble_eq_true rfl)
  rw [lg_entry_eq]
  generalize (lg_sl ([.ref (a 0), .int (nI i)]) ++ List.replicate (2 - (lg_sl ([.ref (a 0), .int (nI i)])).length) Slot.unset).toArray = ls at hl ⊢
  have hl : lv_has ls 2 [(0, .ref (a 0)), (1, .int (nI i))] := hl
  refine lv_aload_n hx hb dX4_behind_0 rfl (lv_at hl 0 rfl) ?_
  refine va_get (D := (dC, dI)) (ci := 4) (v := .ref (a 2)) (C := RX4) (T := TX4) (N := 18) hx hb hts in_X4 hown hK hP 0 rfl rfl 4 (by decide) lk_1 (fun _ h9 => h9) rfl dX4_behind_1 ?_
  refine lv_iload_n hx hb dX4_behind_4 rfl (lv_at hl 1 rfl) ?_
  refine va_iald hx hb hK hP 2 0 rfl rfl (vp_in_nI (by omega) (by omega)) dX4_behind_5 ?_
  refine tpi (nf_at (by omega)) ?_
  refine lv_aload_n hx hb dX4_behind_6 rfl (lv_at hl 0 rfl) ?_
  refine va_get (D := (dC, dI)) (ci := 4) (v := .ref (a 3)) (C := RX4) (T := TX4) (N := 18) hx hb hts in_X4 hown hK hP 0 rfl rfl 5 (by decide) lk_2 (fun _ h9 => h9) rfl dX4_behind_7 ?_
  refine lv_iload_n hx hb dX4_behind_10 rfl (lv_at hl 1 rfl) ?_
  refine va_iald hx hb hK hP 3 0 rfl rfl (vp_in_nI (by omega) (by omega)) dX4_behind_11 ?_
  refine tpi (nf_at (by omega)) ?_
  refine lv_iadd hx hb dX4_behind_12 ?_
  refine tpi (nI_add _ _) ?_
  exact W.iret (v := (nI (pl i + (ln i)))) hx hb hr (fun t ht hW => ⟨(nI (pl i + (ln i))), rfl, (show (nI (pl i + (ln i))) = nI (pl i + ln i) from rfl), ht⟩) (fun _ h9 => absurd h9 List.not_mem_nil) dX4_behind_13
set_option maxHeartbeats 4000000 in
set_option maxRecDepth 100000 in
theorem c_X4_gapAt (l : Launch) (dC : Nat → ClassId) (dI : Nat → Nat → Nat) (cI : ClassId) (a : Nat → Nat) (sz st us kp ga gl cs : Nat) (mem pl ln km ks kt ku kl kn cd wt : Nat → Nat) (i : Nat) (g1 : i ≤ 65) : Met l yX4_gapAt wsX4_gapAt ({ frames := 1, cells := 0, slots := 0, locals := 21 }) (va_Pc [.ref (a 0), .int (nI i)] (fun U => va_P (dC, dI) vwCl (mw cI a sz st us kp ga gl cs mem pl ln km ks kt ku kl kn cd wt) U.heap ∧ va_K (dC, dI) vwCl [(cI, .int)] U)) (vp_Si (fun r => r = nI (gAt st pl ln i))) 0 0 (fun _ => False) := by
  refine Met.ofW (cc := cX4_gapAt) (maxL := 2) (ret := (some .int)) (by decide) rfl ?_
  intro p e s m args below meth c s₁ B hml hv
  obtain ⟨rfl, hP, hK⟩ := hv
  have hx := B.exec
  have hb := B.bytes
  have hr := B.returns
  have hts := atoms_spec (ws := wsX4_gapAt) B.pre
  have hown : s.vm.findClass RX4 = some m.cls := findClass_of_methodNamed B.named
  have hlocks := B.notSynchronized
  have in_X4 : ∀ w ∈ wsX40, w ∈ wsX4_gapAt := fun _ h => List.mem_cons_of_mem _ (List.mem_append_right _ h)
  have lk_1 := hts (.fieldLink RX4 78 "GlulxHeapModel" "start" "I") (List.mem_of_getElem? (i := 1) rfl)
  have hl := lv_entry ([.ref (a 0), .int (nI i)]) (n := 2) (Nat.le_of_ble_eq_true rfl)
  rw [lg_entry_eq]
  generalize (lg_sl ([.ref (a 0), .int (nI i)]) ++ List.replicate (2 - (lg_sl ([.ref (a 0), .int (nI i)])).length) Slot.unset).toArray = ls at hl ⊢
  have hl : lv_has ls 2 [(0, .ref (a 0)), (1, .int (nI i))] := hl
  refine lv_iload_n hx hb dX4_gapAt_0 rfl (lv_at hl 1 rfl) ?_
  refine lv_if_ne (tgt := 11) hx hb dX4_gapAt_1 (by decide) (fun c_1 => ?_) (fun c_1 => ?_)
  · have c_1 : ¬ i = 0 := fun q => c_1 ((nZ_eq (by omega)).mpr q)
    refine lv_aload_n hx hb dX4_gapAt_11 rfl (lv_at hl 0 rfl) ?_
    refine lv_iload_n hx hb dX4_gapAt_12 rfl (lv_at hl 1 rfl) ?_
    refine lv_iconst (v := (nI 1)) hx hb dX4_gapAt_13 (by decide) ?_
    refine lv_isub hx hb dX4_gapAt_14 ?_
    refine tpi (pk_sub (by omega)) ?_
    refine vp_callSi (W.runV (As := [.int (nI (i - 1))]) (rest := []) ⟨hx, hb, hml, hown, hts⟩ (c_X4_behind l dC dI cI a sz st us kp ga gl cs mem pl ln km ks kt ku kl kn cd wt (i - 1) (by omega)) (cwV 1 hts gX4_gapAt_X4_behind rfl rfl rfl (by decide +kernel) ⟨Nat.le_of_ble_eq_true rfl, Nat.le_of_ble_eq_true rfl⟩) ⟨fun a9 U g9 mk9 q9 => by obtain ⟨q0, qP, qK⟩ := q9; exact ⟨q0, qP, va_K.moved (u := U) (U := U.calling g9 mk9 a9) (Vm.Alike.refl U.vm) qK⟩, va_recv hK hP (ci := 4) (q0 := 0) rfl rfl, fun U hU hW => ⟨rfl, by rw [hU]; exact hP, va_K.moved hW.alike hK⟩⟩ rfl rfl hl.1 rfl (lv_room (Nat.le_of_ble_eq_true rfl)) dX4_gapAt_15 ⟨Nat.zero_le _, Nat.zero_le _⟩) (fun r_15 hw => ?_)
    try dsimp only at hw
    subst hw
    exact W.iret (v := (nI (pl (i - 1) + ln (i - 1)))) hx hb hr (fun t ht hW => ⟨(nI (pl (i - 1) + ln (i - 1))), rfl, (show (nI (pl (i - 1) + ln (i - 1))) = nI (gAt st pl ln i) from by unfold gAt; rw [if_neg (by omega)]), ht⟩) (fun _ h9 => absurd h9 List.not_mem_nil) dX4_gapAt_18
  · have c_1 : i = 0 := (nZ_eq (by omega)).mp c_1
    refine lv_aload_n hx hb dX4_gapAt_4 rfl (lv_at hl 0 rfl) ?_
    refine va_get (D := (dC, dI)) (ci := 4) (v := .int (nI st)) (C := RX4) (T := TX4) (N := 18) hx hb hts in_X4 hown hK hP 0 rfl rfl 2 (by decide) lk_1 (fun _ h9 => h9) rfl dX4_gapAt_5 ?_
    refine lv_goto (tgt := 18) hx hb dX4_gapAt_8 (by decide) ?_
    exact W.iret (v := (nI st)) hx hb hr (fun t ht hW => ⟨(nI st), rfl, (show (nI st) = nI (gAt st pl ln i) from by unfold gAt; rw [if_pos (by omega)]), ht⟩) (fun _ h9 => absurd h9 List.not_mem_nil) dX4_gapAt_18
set_option maxHeartbeats 4000000 in
set_option maxRecDepth 100000 in
theorem c_X4_gapEnd (l : Launch) (dC : Nat → ClassId) (dI : Nat → Nat → Nat) (cI : ClassId) (a : Nat → Nat) (sz st us kp ga gl cs : Nat) (mem pl ln km ks kt ku kl kn cd wt : Nat → Nat) (i : Nat) (g1 : i < 65) (g2 : us ≤ 64) : Met l yX4_gapEnd wsX4_gapEnd ({ frames := 0, cells := 0, slots := 0, locals := 0 }) (va_Pc [.ref (a 0), .int (nI i)] (fun U => va_P (dC, dI) vwCl (mw cI a sz st us kp ga gl cs mem pl ln km ks kt ku kl kn cd wt) U.heap ∧ va_K (dC, dI) vwCl [(cI, .int)] U)) (vp_Si (fun r => r = nI (gEn sz us pl i))) 0 0 (fun _ => False) := by
  refine Met.ofW (cc := cX4_gapEnd) (maxL := 2) (ret := (some .int)) (by decide) rfl ?_
  intro p e s m args below meth c s₁ B hml hv
  obtain ⟨rfl, hP, hK⟩ := hv
  have hx := B.exec
  have hb := B.bytes
  have hr := B.returns
  have hts := atoms_spec (ws := wsX4_gapEnd) B.pre
  have hown : s.vm.findClass RX4 = some m.cls := findClass_of_methodNamed B.named
  have hlocks := B.notSynchronized
  have in_X4 : ∀ w ∈ wsX40, w ∈ wsX4_gapEnd := fun _ h => List.mem_cons_of_mem _ (List.mem_append_right _ h)
  have lk_1 := hts (.fieldLink RX4 71 "GlulxHeapModel" "used" "I") (List.mem_of_getElem? (i := 1) rfl)
  have lk_2 := hts (.fieldLink RX4 44 "GlulxHeapModel" "size" "I") (List.mem_of_getElem? (i := 2) rfl)
  have lk_3 := hts (.fieldLink RX4 13 "GlulxHeapModel" "place" "[I") (List.mem_of_getElem? (i := 3) rfl)
  have hl := lv_entry ([.ref (a 0), .int (nI i)]) (n := 2) (Nat.le_of_ble_eq_true rfl)
  rw [lg_entry_eq]
  generalize (lg_sl ([.ref (a 0), .int (nI i)]) ++ List.replicate (2 - (lg_sl ([.ref (a 0), .int (nI i)])).length) Slot.unset).toArray = ls at hl ⊢
  have hl : lv_has ls 2 [(0, .ref (a 0)), (1, .int (nI i))] := hl
  refine lv_iload_n hx hb dX4_gapEnd_0 rfl (lv_at hl 1 rfl) ?_
  refine lv_aload_n hx hb dX4_gapEnd_1 rfl (lv_at hl 0 rfl) ?_
  refine va_get (D := (dC, dI)) (ci := 4) (v := .int (nI us)) (C := RX4) (T := TX4) (N := 18) hx hb hts in_X4 hown hK hP 0 rfl rfl 3 (by decide) lk_1 (fun _ h9 => h9) rfl dX4_gapEnd_2 ?_
  refine lv_icmp_ne (tgt := 15) hx hb dX4_gapEnd_5 (by decide) (fun c_5 => ?_) (fun c_5 => ?_)
  · have c_5 : ¬ i = us := fun q => c_5 ((nI_eq (a := i) (b := us) (by omega) (by omega)).mpr q)
    refine lv_aload_n hx hb dX4_gapEnd_15 rfl (lv_at hl 0 rfl) ?_
    refine va_get (D := (dC, dI)) (ci := 4) (v := .ref (a 2)) (C := RX4) (T := TX4) (N := 18) hx hb hts in_X4 hown hK hP 0 rfl rfl 4 (by decide) lk_3 (fun _ h9 => h9) rfl dX4_gapEnd_16 ?_
    refine lv_iload_n hx hb dX4_gapEnd_19 rfl (lv_at hl 1 rfl) ?_
    refine va_iald hx hb hK hP 2 0 rfl rfl (vp_in_nI (by omega) (by omega)) dX4_gapEnd_20 ?_
    refine tpi (nf_at (by omega)) ?_
    exact W.iret (v := (nI (pl i))) hx hb hr (fun t ht hW => ⟨(nI (pl i)), rfl, (show (nI (pl i)) = nI (gEn sz us pl i) from by unfold gEn; rw [if_neg (by omega)]), ht⟩) (fun _ h9 => absurd h9 List.not_mem_nil) dX4_gapEnd_21
  · have c_5 : i = us := (nI_eq (a := i) (b := us) (by omega) (by omega)).mp c_5
    refine lv_aload_n hx hb dX4_gapEnd_8 rfl (lv_at hl 0 rfl) ?_
    refine va_get (D := (dC, dI)) (ci := 4) (v := .int (nI sz)) (C := RX4) (T := TX4) (N := 18) hx hb hts in_X4 hown hK hP 0 rfl rfl 1 (by decide) lk_2 (fun _ h9 => h9) rfl dX4_gapEnd_9 ?_
    refine lv_goto (tgt := 21) hx hb dX4_gapEnd_12 (by decide) ?_
    exact W.iret (v := (nI sz)) hx hb hr (fun t ht hW => ⟨(nI sz), rfl, (show (nI sz) = nI (gEn sz us pl i) from by unfold gEn; rw [if_pos (by omega)]), ht⟩) (fun _ h9 => absurd h9 List.not_mem_nil) dX4_gapEnd_21
set_option maxHeartbeats 4000000 in
set_option maxRecDepth 100000 in
theorem c_X4_grow (l : Launch) (dC : Nat → ClassId) (dI : Nat → Nat → Nat) (cI : ClassId) (a : Nat → Nat) (sz st us kp ga gl cs : Nat) (mem pl ln km ks kt ku kl kn cd wt : Nat → Nat) (zz : Nat) (to : Nat) (g1 : to ≤ 8192) (g2 : sz ≤ 8192) : Met l yX4_grow wsX4_grow ({ frames := 0, cells := 0, slots := 0, locals := 0 }) (va_Pc [.ref (a 0), .int (nI to)] (fun U => U.heap.size = zz ∧ va_P (dC, dI) vwCl (mw cI a sz st us kp ga gl cs mem pl ln km ks kt ku kl kn cd wt) U.heap ∧ va_K (dC, dI) vwCl [(cI, .int)] U ∧ va_D (fun _ => True) (mw cI a sz st us kp ga gl cs mem pl ln km ks kt ku kl kn cd wt))) (va_Qv (fun _ => True) (fun (_ : Unit) t => va_P (dC, dI) vwCl (mw cI a to st us kp ga gl cs (zr mem sz (to - sz)) pl ln km ks kt ku kl kn cd wt) t.heap ∧ va_K (dC, dI) vwCl [(cI, .int)] t ∧ va_D (va_A (mw cI a sz st us kp ga gl cs mem pl ln km ks kt ku kl kn cd wt) zz) (mw cI a to st us kp ga gl cs (zr mem sz (to - sz)) pl ln km ks kt ku kl kn cd wt)) (va_A (mw cI a sz st us kp ga gl cs mem pl ln km ks kt ku kl kn cd wt) zz)) 0 0 (va_A (mw cI a sz st us kp ga gl cs mem pl ln km ks kt ku kl kn cd wt) zz) := by
  refine Met.ofW (cc := cX4_grow) (maxL := 3) (ret := none) (by decide) rfl ?_
  intro p e s m args below meth c s₁ B hml hv
  obtain ⟨rfl, hsz, hP, hK, hD0⟩ := hv
  have hx := B.exec
  have hb := B.bytes
  have hr := B.returns
  have hts := atoms_spec (ws := wsX4_grow) B.pre
  have hown : s.vm.findClass RX4 = some m.cls := findClass_of_methodNamed B.named
  have hlocks := B.notSynchronized
  subst hsz
  have hD := hD0.self (sz := s.heap.size)
  generalize hAe : va_A (mw cI a sz st us kp ga gl cs mem pl ln km ks kt ku kl kn cd wt) s.heap.size = A at hD ⊢
  have hA : ∀ q : Nat, s.heap.size ≤ q → A q := fun q h => by rw [← hAe]; exact Or.inr h
  have hS : va_S A s.heap s.heap [] := va_S.rf
  have hP : va_P (dC, dI) vwCl (mw cI a sz st us kp ga gl cs mem pl ln km ks kt ku kl kn cd wt) s.heap := hP
  have in_X4 : ∀ w ∈ wsX40, w ∈ wsX4_grow := fun _ h => List.mem_cons_of_mem _ (List.mem_append_right _ h)
  have lk_1 := hts (.fieldLink RX4 44 "GlulxHeapModel" "size" "I") (List.mem_of_getElem? (i := 1) rfl)
  have lk_2 := hts (.fieldLink RX4 7 "GlulxHeapModel" "memory" "[I") (List.mem_of_getElem? (i := 2) rfl)
  have hl := lv_entry ([.ref (a 0), .int (nI to)]) (n := 3) (Nat.le_of_ble_eq_true rfl)
  rw [lg_entry_eq]
  generalize (lg_sl ([.ref (a 0), .int (nI to)]) ++ List.replicate (3 - (lg_sl ([.ref (a 0), .int (nI to)])).length) Slot.unset).toArray = ls at hl ⊢
  have hl : lv_has ls 3 [(0, .ref (a 0)), (1, .int (nI to))] := hl
  refine lv_aload_n hx hb dX4_grow_0 rfl (lv_at hl 0 rfl) ?_
  refine va_get (D := (dC, dI)) (ci := 4) (v := .int (nI sz)) (C := RX4) (T := TX4) (N := 18) hx hb hts in_X4 hown hK hP 0 rfl rfl 1 (by decide) lk_1 (fun _ h9 => h9) rfl dX4_grow_1 ?_
  refine lv_istore_n (lv' := [(2, .int (nI sz)), (0, .ref (a 0)), (1, .int (nI to))]) hx hb dX4_grow_4 rfl hl (by decide) rfl (fun ls hl => ?_)
  refine lp_world (σ := Nat × (Nat → Nat)) (fun ⟨i, f⟩ => sz ≤ i ∧ (i ≤ to ∨ i = sz) ∧ f = zr mem sz (i - sz)) (fun ⟨i, f⟩ => to - i) (fun ⟨i, f⟩ => [(2, .int (nI i)), (0, .ref (a 0)), (1, .int (nI to))]) (fun ⟨i, f⟩ => mw cI a sz st us kp ga gl cs f pl ln km ks kt ku kl kn cd wt) ?_ ((sz, mem)) (⟨Nat.le_refl _, Or.inr rfl, by rw [Nat.sub_self, zr_0]⟩) (hP) (hD) hS (lv_sub hl [0, 1, 2] rfl)
  intro ⟨i, f⟩ hI ih H locs ls hP hD hS hl
  have hl : lv_has ls 3 [(2, .int (nI i)), (0, .ref (a 0)), (1, .int (nI to))] := hl
  have hP : va_P (dC, dI) vwCl (mw cI a sz st us kp ga gl cs f pl ln km ks kt ku kl kn cd wt) H := hP
  have hD : va_D A (mw cI a sz st us kp ga gl cs f pl ln km ks kt ku kl kn cd wt) := hD
  have hI : sz ≤ i ∧ (i ≤ to ∨ i = sz) ∧ f = zr mem sz (i - sz) := hI
  obtain ⟨h1, h2, hf⟩ := hI
  have ih_5 := ih
  refine lv_iload_n hx hb dX4_grow_5 rfl (lv_at hl 0 rfl) ?_
  refine lv_iload_n hx hb dX4_grow_6 rfl (lv_at hl 2 rfl) ?_
  refine lv_icmp_ge (tgt := 23) hx hb dX4_grow_7 (by decide) (fun c_7 => ?_) (fun c_7 => ?_)
  · have c_7 : to ≤ i := (nI_leI (a := to) (b := i) (by omega) (by omega)).mp c_7
    refine lv_aload_n hx hb dX4_grow_23 rfl (lv_at hl 1 rfl) ?_
    refine lv_iload_n hx hb dX4_grow_24 rfl (lv_at hl 2 rfl) ?_
    refine va_put (D := (dC, dI)) (ci := 4) (v := .int (nI to)) (ty := .int) (C := RX4) (T := TX4) (N := 18) hx hb hts in_X4 tyX4 tyX4_ok nmX4 hown hK hP hD hS 0 rfl rfl 1 (by decide) lk_1 (fun _ h9 => h9) rfl (by decide +kernel) rfl rfl (Nat.le_of_ble_eq_true rfl) dX4_grow_25 (fun H locs hP hD hS => ?_)
    have hP : va_P (dC, dI) vwCl (mw cI a to st us kp ga gl cs f pl ln km ks kt ku kl kn cd wt) H := hP
    have hD : va_D A (mw cI a to st us kp ga gl cs f pl ln km ks kt ku kl kn cd wt) := hD
    have e_mem : f = zr mem sz (to - sz) := by rw [hf]; exact h2.elim (fun h => by rw [show i = to by omega]) (fun h => by rw [h, Nat.sub_self, Nat.sub_eq_zero_of_le (by omega)])
    have hP : va_P (dC, dI) vwCl (mw cI a to st us kp ga gl cs (zr mem sz (to - sz)) pl ln km ks kt ku kl kn cd wt) H := by rw [← e_mem]; exact hP
    have hD : va_D A (mw cI a to st us kp ga gl cs (zr mem sz (to - sz)) pl ln km ks kt ku kl kn cd wt) := by rw [← e_mem]; exact hD
    exact W.vret hx hb hr (fun t ht hW => ⟨⟨(), rfl, trivial, by rw [ht]; exact hP, va_K.moved hW.alike hK, hD⟩, hS.F ht⟩) hS.2.2 dX4_grow_28
  · have c_7 : ¬ to ≤ i := fun q => c_7 ((nI_leI (a := to) (b := i) (by omega) (by omega)).mpr q)
    refine lv_aload_n hx hb dX4_grow_10 rfl (lv_at hl 1 rfl) ?_
    refine va_get (D := (dC, dI)) (ci := 4) (v := .ref (a 1)) (C := RX4) (T := TX4) (N := 18) hx hb hts in_X4 hown hK hP 0 rfl rfl 0 (by decide) lk_2 (fun _ h9 => h9) rfl dX4_grow_11 ?_
    refine lv_iload_n hx hb dX4_grow_14 rfl (lv_at hl 0 rfl) ?_
    refine lv_iconst (v := (nI 0)) hx hb dX4_grow_15 (by decide) ?_
    refine va_iast hx hb hK hP hD hS 1 0 rfl rfl (vp_in_nI (by omega) (by omega)) dX4_grow_16 (fun H locs hP hD hS => ?_)
    rw [nf_up (by omega)] at hP hD
    have hP : va_P (dC, dI) vwCl (mw cI a sz st us kp ga gl cs (va_up f i 0) pl ln km ks kt ku kl kn cd wt) H := hP
    have hD : va_D A (mw cI a sz st us kp ga gl cs (va_up f i 0) pl ln km ks kt ku kl kn cd wt) := hD
    refine lv_iinc (v := (nI (i + 1))) (lv' := [(2, .int (nI (i + 1))), (0, .ref (a 0)), (1, .int (nI to))]) hx hb dX4_grow_17 hl (k := 0) rfl (nI_inc _) (by decide) rfl (fun ls hl => ?_)
    refine lv_goto (tgt := 5) hx hb dX4_grow_20 (by decide) ?_
    exact ih_5 (i + 1, va_up f i 0) (⟨by omega, Or.inl (by omega), by rw [hf, zr_step h1]⟩) (show to - (i + 1) < to - i by omega) H locs ls (hP) (hD) hS (lv_sub hl [0, 1, 2] rfl)
set_option maxHeartbeats 4000000 in
set_option maxRecDepth 100000 in
theorem c_X4_put (l : Launch) (dC : Nat → ClassId) (dI : Nat → Nat → Nat) (cI : ClassId) (a : Nat → Nat) (sz st us kp ga gl cs : Nat) (mem pl ln km ks kt ku kl kn cd wt : Nat → Nat) (zz : Nat) (v : Nat) (g1 : cs < 20000) (g2 : v < 2 ^ 31) : Met l yX4_put wsX4_put ({ frames := 0, cells := 0, slots := 0, locals := 0 }) (va_Pc [.ref (a 0), .int (nI v)] (fun U => U.heap.size = zz ∧ va_P (dC, dI) vwCl (mw cI a sz st us kp ga gl cs mem pl ln km ks kt ku kl kn cd wt) U.heap ∧ va_K (dC, dI) vwCl [(cI, .int)] U ∧ va_D (fun _ => True) (mw cI a sz st us kp ga gl cs mem pl ln km ks kt ku kl kn cd wt))) (va_Qv (fun _ => True) (fun (_ : Unit) t => va_P (dC, dI) vwCl (mw cI a sz st us kp ga gl (cs + 1) mem pl ln km ks kt ku kl kn (va_up cd cs (v % 256)) wt) t.heap ∧ va_K (dC, dI) vwCl [(cI, .int)] t ∧ va_D (va_A (mw cI a sz st us kp ga gl cs mem pl ln km ks kt ku kl kn cd wt) zz) (mw cI a sz st us kp ga gl (cs + 1) mem pl ln km ks kt ku kl kn (va_up cd cs (v % 256)) wt)) (va_A (mw cI a sz st us kp ga gl cs mem pl ln km ks kt ku kl kn cd wt) zz)) 0 0 (va_A (mw cI a sz st us kp ga gl cs mem pl ln km ks kt ku kl kn cd wt) zz) := by
  refine Met.ofW (cc := cX4_put) (maxL := 2) (ret := none) (by decide) rfl ?_
  intro p e s m args below meth c s₁ B hml hv
  obtain ⟨rfl, hsz, hP, hK, hD0⟩ := hv
  have hx := B.exec
  have hb := B.bytes
  have hr := B.returns
  have hts := atoms_spec (ws := wsX4_put) B.pre
  have hown : s.vm.findClass RX4 = some m.cls := findClass_of_methodNamed B.named
  have hlocks := B.notSynchronized
  subst hsz
  have hD := hD0.self (sz := s.heap.size)
  generalize hAe : va_A (mw cI a sz st us kp ga gl cs mem pl ln km ks kt ku kl kn cd wt) s.heap.size = A at hD ⊢
  have hA : ∀ q : Nat, s.heap.size ≤ q → A q := fun q h => by rw [← hAe]; exact Or.inr h
  have hS : va_S A s.heap s.heap [] := va_S.rf
  have hP : va_P (dC, dI) vwCl (mw cI a sz st us kp ga gl cs mem pl ln km ks kt ku kl kn cd wt) s.heap := hP
  have in_X4 : ∀ w ∈ wsX40, w ∈ wsX4_put := fun _ h => List.mem_cons_of_mem _ (List.mem_append_right _ h)
  have lk_1 := hts (.fieldLink RX4 38 "GlulxHeapModel" "code" "[I") (List.mem_of_getElem? (i := 1) rfl)
  have lk_2 := hts (.fieldLink RX4 128 "GlulxHeapModel" "codeSize" "I") (List.mem_of_getElem? (i := 2) rfl)
  have hl := lv_entry ([.ref (a 0), .int (nI v)]) (n := 2) (Nat.le_of_ble_eq_true rfl)
  rw [lg_entry_eq]
  generalize (lg_sl ([.ref (a 0), .int (nI v)]) ++ List.replicate (2 - (lg_sl ([.ref (a 0), .int (nI v)])).length) Slot.unset).toArray = ls at hl ⊢
  have hl : lv_has ls 2 [(0, .ref (a 0)), (1, .int (nI v))] := hl
  refine lv_aload_n hx hb dX4_put_0 rfl (lv_at hl 0 rfl) ?_
  refine va_get (D := (dC, dI)) (ci := 4) (v := .ref (a 10)) (C := RX4) (T := TX4) (N := 18) hx hb hts in_X4 hown hK hP 0 rfl rfl 15 (by decide) lk_1 (fun _ h9 => h9) rfl dX4_put_1 ?_
  refine lv_aload_n hx hb dX4_put_4 rfl (lv_at hl 0 rfl) ?_
  refine va_get (D := (dC, dI)) (ci := 4) (v := .int (nI cs)) (C := RX4) (T := TX4) (N := 18) hx hb hts in_X4 hown hK hP 0 rfl rfl 16 (by decide) lk_2 (fun _ h9 => h9) rfl dX4_put_5 ?_
  refine lv_iload_n hx hb dX4_put_8 rfl (lv_at hl 1 rfl) ?_
  refine lv_sipush (v := (nI 255)) hx hb dX4_put_9 (by decide) ?_
  refine lv_iand hx hb dX4_put_12 ?_
  refine tpi (and255 (by omega)) ?_
  refine va_iast hx hb hK hP hD hS 10 0 rfl rfl (vp_in_nI (by omega) (by omega)) dX4_put_13 (fun H locs hP hD hS => ?_)
  rw [nf_up (by omega)] at hP hD
  have hP : va_P (dC, dI) vwCl (mw cI a sz st us kp ga gl cs mem pl ln km ks kt ku kl kn (va_up cd cs (v % 256)) wt) H := hP
  have hD : va_D A (mw cI a sz st us kp ga gl cs mem pl ln km ks kt ku kl kn (va_up cd cs (v % 256)) wt) := hD
  refine lv_aload_n hx hb dX4_put_14 rfl (lv_at hl 0 rfl) ?_
  refine lv_dup hx hb dX4_put_15 rfl ?_
  refine va_get (D := (dC, dI)) (ci := 4) (v := .int (nI cs)) (C := RX4) (T := TX4) (N := 18) hx hb hts in_X4 hown hK hP 0 rfl rfl 16 (by decide) lk_2 (fun _ h9 => h9) rfl dX4_put_16 ?_
  refine lv_iconst (v := (nI 1)) hx hb dX4_put_19 (by decide) ?_
  refine lv_iadd hx hb dX4_put_20 ?_
  refine tpi (nI_add _ _) ?_
  refine va_put (D := (dC, dI)) (ci := 4) (v := .int (nI (cs + 1))) (ty := .int) (C := RX4) (T := TX4) (N := 18) hx hb hts in_X4 tyX4 tyX4_ok nmX4 hown hK hP hD hS 0 rfl rfl 16 (by decide) lk_2 (fun _ h9 => h9) rfl (by decide +kernel) rfl rfl (Nat.le_of_ble_eq_true rfl) dX4_put_21 (fun H locs hP hD hS => ?_)
  have hP : va_P (dC, dI) vwCl (mw cI a sz st us kp ga gl (cs + 1) mem pl ln km ks kt ku kl kn (va_up cd cs (v % 256)) wt) H := hP
  have hD : va_D A (mw cI a sz st us kp ga gl (cs + 1) mem pl ln km ks kt ku kl kn (va_up cd cs (v % 256)) wt) := hD
  have hP : va_P (dC, dI) vwCl (mw cI a sz st us kp ga gl (cs + 1) mem pl ln km ks kt ku kl kn (va_up cd cs (v % 256)) wt) H := hP
  have hD : va_D A (mw cI a sz st us kp ga gl (cs + 1) mem pl ln km ks kt ku kl kn (va_up cd cs (v % 256)) wt) := hD
  exact W.vret hx hb hr (fun t ht hW => ⟨⟨(), rfl, trivial, by rw [ht]; exact hP, va_K.moved hW.alike hK, hD⟩, hS.F ht⟩) hS.2.2 dX4_put_24
end
section
set_option maxHeartbeats 4000000 in
set_option maxRecDepth 100000 in
theorem c_X4_get (l : Launch) (dC : Nat → ClassId) (dI : Nat → Nat → Nat) (cI : ClassId) (a : Nat → Nat) (sz st us kp ga gl cs : Nat) (mem pl ln km ks kt ku kl kn cd wt : Nat → Nat) (p1 p2 : Int32) (g3 : sz ≤ 8192) (bmem : ∀ j, mem j < 256) : Met l yX4_get wsX4_get ({ frames := 1, cells := 0, slots := 0, locals := 25 }) (va_Pc [.ref (a 0), .int p1, .int p2] (fun U => va_P (dC, dI) vwCl (mw cI a sz st us kp ga gl cs mem pl ln km ks kt ku kl kn cd wt) U.heap ∧ va_K (dC, dI) vwCl [(cI, .int)] U)) (vp_Sl (fun r => r = gS sz mem p1 p2)) 0 0 (fun _ => False) := by
  refine Met.ofW (cc := cX4_get) (maxL := 3) (ret := (some .long)) (by decide) rfl ?_
  intro p e s m args below meth c s₁ B hml hv
  obtain ⟨rfl, hP, hK⟩ := hv
  have hx := B.exec
  have hb := B.bytes
  have hr := B.returns
  have hts := atoms_spec (ws := wsX4_get) B.pre
  have hown : s.vm.findClass RX4 = some m.cls := findClass_of_methodNamed B.named
  have hlocks := B.notSynchronized
  have lk_1 := hts (.constantLong RX4 56 (-11)) (List.mem_of_getElem? (i := 1) rfl)
  have lk_2 := hts (.constantLong RX4 66 (-12)) (List.mem_of_getElem? (i := 2) rfl)
  have hl := lv_entry ([.ref (a 0), .int p1, .int p2]) (n := 3) (Nat.le_of_ble_eq_true rfl)
  rw [lg_entry_eq]
  generalize (lg_sl ([.ref (a 0), .int p1, .int p2]) ++ List.replicate (3 - (lg_sl ([.ref (a 0), .int p1, .int p2])).length) Slot.unset).toArray = ls at hl ⊢
  have hl : lv_has ls 3 [(0, .ref (a 0)), (1, .int p1), (2, .int p2)] := hl
  refine lv_iload_n hx hb dX4_get_0 rfl (lv_at hl 2 rfl) ?_
  refine vp_callSi (W.runS (As := [.int p2]) (rest := []) ⟨hx, hb, hml, hown, hts⟩ (c_X4_isWidth l p2) (va_cwS 1 hts gX4_get_X4_isWidth rfl rfl rfl (by decide +kernel) ⟨Nat.le_of_ble_eq_true rfl, Nat.le_of_ble_eq_true rfl⟩) ⟨fun a9 U g9 mk9 q9 => ⟨q9.1, trivial⟩, fun U hU hW => ⟨rfl, trivial⟩⟩ rfl rfl hl.1 rfl (lv_room (Nat.le_of_ble_eq_true rfl)) dX4_get_1 ⟨Nat.zero_le _, Nat.zero_le _⟩) (fun r_1 hw => ?_)
  try dsimp only at hw
  rcases hw with ⟨hc_1, rfl⟩ | ⟨hc_1, rfl⟩
  · obtain ⟨k, hk, rfl⟩ := isW_of hc_1
    refine lv_if_eq (tgt := 11) hx hb dX4_get_4 (by decide) (fun c_4 => ?_) (fun c_4 => ?_)
    · exact absurd c_4 (by decide)
    · have c_4 : ¬ 1 = 0 := fun q => c_4 ((nZ_eq (by omega)).mpr q)
      refine lv_iload_n hx hb dX4_get_7 rfl (lv_at hl 1 rfl) ?_
      refine lv_if_ge (tgt := 15) hx hb dX4_get_8 (by decide) (fun c_8 => ?_) (fun c_8 => ?_)
      · have c_8 : ¬ p1 < 0 := i0_ge.mp c_8
        obtain ⟨x, n_x, rfl⟩ := nI_of c_8
        refine lv_aload_n hx hb dX4_get_15 rfl (lv_at hl 0 rfl) ?_
        refine lv_iload_n hx hb dX4_get_16 rfl (lv_at hl 1 rfl) ?_
        refine lv_i2l (v := lN x) hx hb dX4_get_17 (nI_l (by omega)) ?_
        refine lv_iload_n hx hb dX4_get_18 rfl (lv_at hl 2 rfl) ?_
        refine lv_i2l (v := lN k) hx hb dX4_get_19 (nI_l (by omega)) ?_
        refine vp_callSi (W.runV (As := [.long (lN x), .long (lN k)]) (rest := []) ⟨hx, hb, hml, hown, hts⟩ (c_X4_isIn l dC dI cI a sz st us kp ga gl cs mem pl ln km ks kt ku kl kn cd wt x k (by omega) (by omega) (by omega)) (cwV 2 hts gX4_get_X4_isIn rfl rfl rfl (by decide +kernel) ⟨Nat.le_of_ble_eq_true rfl, Nat.le_of_ble_eq_true rfl⟩) ⟨fun a9 U g9 mk9 q9 => by obtain ⟨q0, qP, qK⟩ := q9; exact ⟨q0, qP, va_K.moved (u := U) (U := U.calling g9 mk9 a9) (Vm.Alike.refl U.vm) qK⟩, va_recv hK hP (ci := 4) (q0 := 0) rfl rfl, fun U hU hW => ⟨rfl, by rw [hU]; exact hP, va_K.moved hW.alike hK⟩⟩ rfl rfl hl.1 rfl (lv_room (Nat.le_of_ble_eq_true rfl)) dX4_get_20 ⟨Nat.zero_le _, Nat.zero_le _⟩) (fun r_20 hw => ?_)
        try dsimp only at hw
        rcases hw with ⟨hc_20, rfl⟩ | ⟨hc_20, rfl⟩
        · skip
          refine lv_if_eq (tgt := 35) hx hb dX4_get_23 (by decide) (fun c_23 => ?_) (fun c_23 => ?_)
          · exact absurd c_23 (by decide)
          · have c_23 : ¬ 1 = 0 := fun q => c_23 ((nZ_eq (by omega)).mpr q)
            refine lv_aload_n hx hb dX4_get_26 rfl (lv_at hl 0 rfl) ?_
            refine lv_iload_n hx hb dX4_get_27 rfl (lv_at hl 1 rfl) ?_
            refine lv_iload_n hx hb dX4_get_28 rfl (lv_at hl 2 rfl) ?_
            refine vp_callSl (W.runV (As := [.int (nI x), .int (nI k)]) (rest := []) ⟨hx, hb, hml, hown, hts⟩ (c_X4_number l dC dI cI a sz st us kp ga gl cs mem pl ln km ks kt ku kl kn cd wt x k (by omega) (by omega) bmem) (cwV 2 hts gX4_get_X4_number rfl rfl rfl (by decide +kernel) ⟨Nat.le_of_ble_eq_true rfl, Nat.le_of_ble_eq_true rfl⟩) ⟨fun a9 U g9 mk9 q9 => by obtain ⟨q0, qP, qK⟩ := q9; exact ⟨q0, qP, va_K.moved (u := U) (U := U.calling g9 mk9 a9) (Vm.Alike.refl U.vm) qK⟩, va_recv hK hP (ci := 4) (q0 := 0) rfl rfl, fun U hU hW => ⟨rfl, by rw [hU]; exact hP, va_K.moved hW.alike hK⟩⟩ rfl rfl hl.1 rfl (lv_room (Nat.le_of_ble_eq_true rfl)) dX4_get_29 ⟨Nat.zero_le _, Nat.zero_le _⟩) (fun r_29 hw => ?_)
            try dsimp only at hw
            subst hw
            refine lv_goto (tgt := 38) hx hb dX4_get_32 (by decide) ?_
            exact W.lret (v := (lN (num mem x k))) hx hb hr (fun t ht hW => ⟨(lN (num mem x k)), rfl, (show (lN (num mem x k)) = gS sz mem (nI x) (nI k) from by rw [gS_ok n_x hk, if_pos (by omega)]), ht⟩) (fun _ h9 => absurd h9 List.not_mem_nil) dX4_get_38
        · skip
          refine lv_if_eq (tgt := 35) hx hb dX4_get_23 (by decide) (fun c_23 => ?_) (fun c_23 => ?_)
          · have c_23 : 0 = 0 := (nZ_eq (by omega)).mp c_23
            refine lv_ldc2 (own := RX4) (v := (-12)) hx hb hown lk_2 dX4_get_35 ?_
            exact W.lret (v := ((-12))) hx hb hr (fun t ht hW => ⟨((-12)), rfl, (show ((-12)) = gS sz mem (nI x) (nI k) from by rw [gS_ok n_x hk, if_neg (by omega)]), ht⟩) (fun _ h9 => absurd h9 List.not_mem_nil) dX4_get_38
          · exact absurd c_23 (by decide)
      · have c_8 : p1 < 0 := i0_nge.mp c_8
        refine lv_ldc2 (own := RX4) (v := (-11)) hx hb hown lk_1 dX4_get_11 ?_
        exact W.lret (v := ((-11))) hx hb hr (fun t ht hW => ⟨((-11)), rfl, (show ((-11)) = gS sz mem p1 (nI k) from (gS_w (by first | exact Or.inl hc_1 | exact Or.inr c_8)).symm), ht⟩) (fun _ h9 => absurd h9 List.not_mem_nil) dX4_get_14
  · refine lv_if_eq (tgt := 11) hx hb dX4_get_4 (by decide) (fun c_4 => ?_) (fun c_4 => ?_)
    · have c_4 : 0 = 0 := (nZ_eq (by omega)).mp c_4
      refine lv_ldc2 (own := RX4) (v := (-11)) hx hb hown lk_1 dX4_get_11 ?_
      exact W.lret (v := ((-11))) hx hb hr (fun t ht hW => ⟨((-11)), rfl, (show ((-11)) = gS sz mem p1 p2 from (gS_w (by first | exact Or.inl hc_1 | exact Or.inr c_8)).symm), ht⟩) (fun _ h9 => absurd h9 List.not_mem_nil) dX4_get_14
    · exact absurd c_4 (by decide)
set_option maxHeartbeats 4000000 in
set_option maxRecDepth 100000 in
theorem c_X4_set (l : Launch) (dC : Nat → ClassId) (dI : Nat → Nat → Nat) (cI : ClassId) (a : Nat → Nat) (sz st us kp ga gl cs : Nat) (mem pl ln km ks kt ku kl kn cd wt : Nat → Nat) (zz : Nat) (p1 p2 v : Int32) (g3 : sz ≤ 8192) : Met l yX4_set wsX4_set ({ frames := 1, cells := 0, slots := 0, locals := 24 }) (va_Pc [.ref (a 0), .int p1, .int p2, .int v] (fun U => U.heap.size = zz ∧ va_P (dC, dI) vwCl (mw cI a sz st us kp ga gl cs mem pl ln km ks kt ku kl kn cd wt) U.heap ∧ va_K (dC, dI) vwCl [(cI, .int)] U ∧ va_D (fun _ => True) (mw cI a sz st us kp ga gl cs mem pl ln km ks kt ku kl kn cd wt))) (va_Qi (fun r _ => r = stR sz p1 p2) (fun (_ : Unit) t => va_P (dC, dI) vwCl (mw cI a sz st us kp ga gl cs (stM sz mem p1 p2 v) pl ln km ks kt ku kl kn cd wt) t.heap ∧ va_K (dC, dI) vwCl [(cI, .int)] t ∧ va_D (va_A (mw cI a sz st us kp ga gl cs mem pl ln km ks kt ku kl kn cd wt) zz) (mw cI a sz st us kp ga gl cs (stM sz mem p1 p2 v) pl ln km ks kt ku kl kn cd wt)) (va_A (mw cI a sz st us kp ga gl cs mem pl ln km ks kt ku kl kn cd wt) zz)) 0 0 (va_A (mw cI a sz st us kp ga gl cs mem pl ln km ks kt ku kl kn cd wt) zz) := by
  refine Met.ofW (cc := cX4_set) (maxL := 5) (ret := (some .int)) (by decide) rfl ?_
  intro p e s m args below meth c s₁ B hml hv
  obtain ⟨rfl, hsz, hP, hK, hD0⟩ := hv
  have hx := B.exec
  have hb := B.bytes
  have hr := B.returns
  have hts := atoms_spec (ws := wsX4_set) B.pre
  have hown : s.vm.findClass RX4 = some m.cls := findClass_of_methodNamed B.named
  have hlocks := B.notSynchronized
  subst hsz
  have hD := hD0.self (sz := s.heap.size)
  generalize hAe : va_A (mw cI a sz st us kp ga gl cs mem pl ln km ks kt ku kl kn cd wt) s.heap.size = A at hD ⊢
  have hA : ∀ q : Nat, s.heap.size ≤ q → A q := fun q h => by rw [← hAe]; exact Or.inr h
  have hS : va_S A s.heap s.heap [] := va_S.rf
  have hP : va_P (dC, dI) vwCl (mw cI a sz st us kp ga gl cs mem pl ln km ks kt ku kl kn cd wt) s.heap := hP
  have in_X4 : ∀ w ∈ wsX40, w ∈ wsX4_set := fun _ h => List.mem_cons_of_mem _ (List.mem_append_right _ h)
  have lk_1 := hts (.fieldLink RX4 7 "GlulxHeapModel" "memory" "[I") (List.mem_of_getElem? (i := 1) rfl)
  have hl := lv_entry ([.ref (a 0), .int p1, .int p2, .int v]) (n := 5) (Nat.le_of_ble_eq_true rfl)
  rw [lg_entry_eq]
  generalize (lg_sl ([.ref (a 0), .int p1, .int p2, .int v]) ++ List.replicate (5 - (lg_sl ([.ref (a 0), .int p1, .int p2, .int v])).length) Slot.unset).toArray = ls at hl ⊢
  have hl : lv_has ls 5 [(0, .ref (a 0)), (1, .int p1), (2, .int p2), (3, .int v)] := hl
  refine lv_iload_n hx hb dX4_set_0 rfl (lv_at hl 2 rfl) ?_
  refine vp_callSi (W.runS (As := [.int p2]) (rest := []) ⟨hx, hb, hml, hown, hts⟩ (c_X4_isWidth l p2) (va_cwS 1 hts gX4_set_X4_isWidth rfl rfl rfl (by decide +kernel) ⟨Nat.le_of_ble_eq_true rfl, Nat.le_of_ble_eq_true rfl⟩) ⟨fun a9 U g9 mk9 q9 => ⟨q9.1, trivial⟩, fun U hU hW => ⟨rfl, trivial⟩⟩ rfl rfl hl.1 rfl (lv_room (Nat.le_of_ble_eq_true rfl)) dX4_set_1 ⟨Nat.zero_le _, Nat.zero_le _⟩) (fun r_1 hw => ?_)
  try dsimp only at hw
  rcases hw with ⟨hc_1, rfl⟩ | ⟨hc_1, rfl⟩
  · obtain ⟨k, hk, rfl⟩ := isW_of hc_1
    refine lv_if_eq (tgt := 11) hx hb dX4_set_4 (by decide) (fun c_4 => ?_) (fun c_4 => ?_)
    · exact absurd c_4 (by decide)
    · have c_4 : ¬ 1 = 0 := fun q => c_4 ((nZ_eq (by omega)).mpr q)
      refine lv_iload_n hx hb dX4_set_7 rfl (lv_at hl 1 rfl) ?_
      refine lv_if_ge (tgt := 14) hx hb dX4_set_8 (by decide) (fun c_8 => ?_) (fun c_8 => ?_)
      · have c_8 : ¬ p1 < 0 := i0_ge.mp c_8
        obtain ⟨x, n_x, rfl⟩ := nI_of c_8
        refine lv_aload_n hx hb dX4_set_14 rfl (lv_at hl 0 rfl) ?_
        refine lv_iload_n hx hb dX4_set_15 rfl (lv_at hl 1 rfl) ?_
        refine lv_i2l (v := lN x) hx hb dX4_set_16 (nI_l (by omega)) ?_
        refine lv_iload_n hx hb dX4_set_17 rfl (lv_at hl 2 rfl) ?_
        refine lv_i2l (v := lN k) hx hb dX4_set_18 (nI_l (by omega)) ?_
        refine vp_callSi (W.runV (As := [.long (lN x), .long (lN k)]) (rest := []) ⟨hx, hb, hml, hown, hts⟩ (c_X4_isIn l dC dI cI a sz st us kp ga gl cs mem pl ln km ks kt ku kl kn cd wt x k (by omega) (by omega) (by omega)) (cwV 2 hts gX4_set_X4_isIn rfl rfl rfl (by decide +kernel) ⟨Nat.le_of_ble_eq_true rfl, Nat.le_of_ble_eq_true rfl⟩) ⟨fun a9 U g9 mk9 q9 => by obtain ⟨q0, qP, qK⟩ := q9; exact ⟨q0, qP, va_K.moved (u := U) (U := U.calling g9 mk9 a9) (Vm.Alike.refl U.vm) qK⟩, va_recv hK hP (ci := 4) (q0 := 0) rfl rfl, fun U hU hW => ⟨rfl, by rw [hU]; exact hP, va_K.moved hW.alike hK⟩⟩ rfl rfl hl.1 rfl (lv_room (Nat.le_of_ble_eq_true rfl)) dX4_set_19 ⟨Nat.zero_le _, Nat.zero_le _⟩) (fun r_19 hw => ?_)
        try dsimp only at hw
        rcases hw with ⟨hc_19, rfl⟩ | ⟨hc_19, rfl⟩
        · skip
          refine lv_if_ne (tgt := 28) hx hb dX4_set_22 (by decide) (fun c_22 => ?_) (fun c_22 => ?_)
          · have c_22 : ¬ 1 = 0 := fun q => c_22 ((nZ_eq (by omega)).mpr q)
            refine lv_iload_n hx hb dX4_set_28 rfl (lv_at hl 1 rfl) ?_
            refine lv_bipush (v := (nI 64)) hx hb dX4_set_29 (by decide) ?_
            refine lv_icmp_ge (tgt := 37) hx hb dX4_set_31 (by decide) (fun c_31 => ?_) (fun c_31 => ?_)
            · have c_31 : 64 ≤ x := (nI_leI (a := 64) (b := x) (by omega) (by omega)).mp c_31
              refine lv_iconst (v := (nI 0)) hx hb dX4_set_37 (by decide) ?_
              refine lv_istore (lv' := [(4, .int (nI 0)), (0, .ref (a 0)), (1, .int (nI x)), (2, .int (nI k)), (3, .int v)]) hx hb dX4_set_38 hl (by decide) rfl (fun ls hl => ?_)
              refine lp_world (σ := Nat × (Nat → Nat)) (fun ⟨i, f⟩ => i ≤ k ∧ f = wr mem x k v i) (fun ⟨i, f⟩ => k - i) (fun ⟨i, f⟩ => [(4, .int (nI i)), (0, .ref (a 0)), (1, .int (nI x)), (2, .int (nI k)), (3, .int v)]) (fun ⟨i, f⟩ => mw cI a sz st us kp ga gl cs f pl ln km ks kt ku kl kn cd wt) ?_ ((0, mem)) (⟨Nat.zero_le _, by rw [wr_0]⟩) (hP) (hD) hS (lv_sub hl [0, 1, 2, 3, 4] rfl)
              intro ⟨i, f⟩ hI ih H locs ls hP hD hS hl
              have hl : lv_has ls 5 [(4, .int (nI i)), (0, .ref (a 0)), (1, .int (nI x)), (2, .int (nI k)), (3, .int v)] := hl
              have hP : va_P (dC, dI) vwCl (mw cI a sz st us kp ga gl cs f pl ln km ks kt ku kl kn cd wt) H := hP
              have hD : va_D A (mw cI a sz st us kp ga gl cs f pl ln km ks kt ku kl kn cd wt) := hD
              have hI : i ≤ k ∧ f = wr mem x k v i := hI
              obtain ⟨hi, hf⟩ := hI
              have ih_40 := ih
              refine lv_iload hx hb dX4_set_40 (lv_at hl 0 rfl) ?_
              refine lv_iload_n hx hb dX4_set_42 rfl (lv_at hl 3 rfl) ?_
              refine lv_icmp_ge (tgt := 76) hx hb dX4_set_43 (by decide) (fun c_43 => ?_) (fun c_43 => ?_)
              · have c_43 : k ≤ i := (nI_leI (a := k) (b := i) (by omega) (by omega)).mp c_43
                refine lv_iconst (v := (nI 1)) hx hb dX4_set_76 (by decide) ?_
                have e_mem : f = stM sz mem (nI x) (nI k) v := by rw [stM_ok (by rw [stR_ok n_x hk, if_neg (by omega), if_neg (by omega)]) n_x (by omega), hf, show i = k by omega]
                have hP : va_P (dC, dI) vwCl (mw cI a sz st us kp ga gl cs (stM sz mem (nI x) (nI k) v) pl ln km ks kt ku kl kn cd wt) H := by rw [← e_mem]; exact hP
                have hD : va_D A (mw cI a sz st us kp ga gl cs (stM sz mem (nI x) (nI k) v) pl ln km ks kt ku kl kn cd wt) := by rw [← e_mem]; exact hD
                exact W.iret (v := (nI 1)) hx hb hr (fun t ht hW => ⟨⟨(nI 1), (), rfl, (show (nI 1) = stR sz (nI x) (nI k) from by rw [stR_ok n_x hk, if_neg (by omega), if_neg (by omega)]), by rw [ht]; exact hP, va_K.moved hW.alike hK, hD⟩, hS.F ht⟩) hS.2.2 dX4_set_77
              · have c_43 : ¬ k ≤ i := fun q => c_43 ((nI_leI (a := k) (b := i) (by omega) (by omega)).mpr q)
                have he : k - 1 - i < 4 := by omega
                refine lv_aload_n hx hb dX4_set_46 rfl (lv_at hl 1 rfl) ?_
                refine va_get (D := (dC, dI)) (ci := 4) (v := .ref (a 1)) (C := RX4) (T := TX4) (N := 18) hx hb hts in_X4 hown hK hP 0 rfl rfl 0 (by decide) lk_1 (fun _ h9 => h9) rfl dX4_set_47 ?_
                refine lv_iload_n hx hb dX4_set_50 rfl (lv_at hl 2 rfl) ?_
                refine lv_iload hx hb dX4_set_51 (lv_at hl 0 rfl) ?_
                refine lv_iadd hx hb dX4_set_53 ?_
                refine tpi (nI_add _ _) ?_
                refine lv_iload_n hx hb dX4_set_54 rfl (lv_at hl 4 rfl) ?_
                refine lv_bipush (v := (nI 8)) hx hb dX4_set_55 (by decide) ?_
                refine lv_iload_n hx hb dX4_set_57 rfl (lv_at hl 3 rfl) ?_
                refine lv_iconst (v := (nI 1)) hx hb dX4_set_58 (by decide) ?_
                refine lv_isub hx hb dX4_set_59 ?_
                refine tpi (pk_sub (by omega)) ?_
                refine lv_iload hx hb dX4_set_60 (lv_at hl 0 rfl) ?_
                refine lv_isub hx hb dX4_set_62 ?_
                refine tpi (pk_sub (by omega)) ?_
                refine lv_imul hx hb dX4_set_63 ?_
                refine tpi (pk_mul _ _) ?_
                refine lv_ishr hx hb dX4_set_64 ?_
                refine tpi (rfl) ?_
                refine lv_sipush (v := (nI 255)) hx hb dX4_set_65 (by decide) ?_
                refine lv_iand hx hb dX4_set_68 ?_
                refine tpi (sarB v he) ?_
                refine va_iast hx hb hK hP hD hS 1 0 rfl rfl (vp_in_nI (by omega) (by omega)) dX4_set_69 (fun H locs hP hD hS => ?_)
                rw [nf_up (by omega)] at hP hD
                have hP : va_P (dC, dI) vwCl (mw cI a sz st us kp ga gl cs (va_up f (x + i) (byt v (k - 1 - i))) pl ln km ks kt ku kl kn cd wt) H := hP
                have hD : va_D A (mw cI a sz st us kp ga gl cs (va_up f (x + i) (byt v (k - 1 - i))) pl ln km ks kt ku kl kn cd wt) := hD
                refine lv_iinc (v := (nI (i + 1))) (lv' := [(4, .int (nI (i + 1))), (0, .ref (a 0)), (1, .int (nI x)), (2, .int (nI k)), (3, .int v)]) hx hb dX4_set_70 hl (k := 0) rfl (nI_inc _) (by decide) rfl (fun ls hl => ?_)
                refine lv_goto (tgt := 40) hx hb dX4_set_73 (by decide) ?_
                exact ih_40 (i + 1, va_up f (x + i) (byt v (k - 1 - i))) (⟨by omega, by rw [hf, wr_s]⟩) (show k - (i + 1) < k - i by omega) H locs ls (hP) (hD) hS (lv_sub hl [0, 1, 2, 3, 4] rfl)
            · have c_31 : ¬ 64 ≤ x := fun q => c_31 ((nI_leI (a := 64) (b := x) (by omega) (by omega)).mpr q)
              refine lv_bipush (v := ((-13))) hx hb dX4_set_34 (by decide) ?_
              have e_mem : mem = stM sz mem (nI x) (nI k) v := stM_no (show _ = (-13) by rw [stR_ok n_x hk, if_neg (by omega), if_pos (by omega)]) (by decide)
              have hP : va_P (dC, dI) vwCl (mw cI a sz st us kp ga gl cs (stM sz mem (nI x) (nI k) v) pl ln km ks kt ku kl kn cd wt) s.heap := by rw [← e_mem]; exact hP
              have hD : va_D A (mw cI a sz st us kp ga gl cs (stM sz mem (nI x) (nI k) v) pl ln km ks kt ku kl kn cd wt) := by rw [← e_mem]; exact hD
              exact W.iret (v := ((-13))) hx hb hr (fun t ht hW => ⟨⟨((-13)), (), rfl, (show ((-13)) = stR sz (nI x) (nI k) from by rw [stR_ok n_x hk, if_neg (by omega), if_pos (by omega)]), by rw [ht]; exact hP, va_K.moved hW.alike hK, hD⟩, hS.F ht⟩) hS.2.2 dX4_set_36
          · exact absurd c_22 (by decide)
        · skip
          refine lv_if_ne (tgt := 28) hx hb dX4_set_22 (by decide) (fun c_22 => ?_) (fun c_22 => ?_)
          · exact absurd c_22 (by decide)
          · have c_22 : 0 = 0 := (nZ_eq (by omega)).mp c_22
            refine lv_bipush (v := ((-12))) hx hb dX4_set_25 (by decide) ?_
            have e_mem : mem = stM sz mem (nI x) (nI k) v := stM_no (show _ = (-12) by rw [stR_ok n_x hk, if_pos (by omega)]) (by decide)
            have hP : va_P (dC, dI) vwCl (mw cI a sz st us kp ga gl cs (stM sz mem (nI x) (nI k) v) pl ln km ks kt ku kl kn cd wt) s.heap := by rw [← e_mem]; exact hP
            have hD : va_D A (mw cI a sz st us kp ga gl cs (stM sz mem (nI x) (nI k) v) pl ln km ks kt ku kl kn cd wt) := by rw [← e_mem]; exact hD
            exact W.iret (v := ((-12))) hx hb hr (fun t ht hW => ⟨⟨((-12)), (), rfl, (show ((-12)) = stR sz (nI x) (nI k) from by rw [stR_ok n_x hk, if_pos (by omega)]), by rw [ht]; exact hP, va_K.moved hW.alike hK, hD⟩, hS.F ht⟩) hS.2.2 dX4_set_27
      · have c_8 : p1 < 0 := i0_nge.mp c_8
        refine lv_bipush (v := ((-11))) hx hb dX4_set_11 (by decide) ?_
        have e_mem : mem = stM sz mem p1 (nI k) v := stM_no (stR_w (by first | exact Or.inl hc_1 | exact Or.inr c_8)) (by decide)
        have hP : va_P (dC, dI) vwCl (mw cI a sz st us kp ga gl cs (stM sz mem p1 (nI k) v) pl ln km ks kt ku kl kn cd wt) s.heap := by rw [← e_mem]; exact hP
        have hD : va_D A (mw cI a sz st us kp ga gl cs (stM sz mem p1 (nI k) v) pl ln km ks kt ku kl kn cd wt) := by rw [← e_mem]; exact hD
        exact W.iret (v := ((-11))) hx hb hr (fun t ht hW => ⟨⟨((-11)), (), rfl, (show ((-11)) = stR sz p1 (nI k) from (stR_w (by first | exact Or.inl hc_1 | exact Or.inr c_8)).symm), by rw [ht]; exact hP, va_K.moved hW.alike hK, hD⟩, hS.F ht⟩) hS.2.2 dX4_set_13
  · refine lv_if_eq (tgt := 11) hx hb dX4_set_4 (by decide) (fun c_4 => ?_) (fun c_4 => ?_)
    · have c_4 : 0 = 0 := (nZ_eq (by omega)).mp c_4
      refine lv_bipush (v := ((-11))) hx hb dX4_set_11 (by decide) ?_
      have e_mem : mem = stM sz mem p1 p2 v := stM_no (stR_w (by first | exact Or.inl hc_1 | exact Or.inr c_8)) (by decide)
      have hP : va_P (dC, dI) vwCl (mw cI a sz st us kp ga gl cs (stM sz mem p1 p2 v) pl ln km ks kt ku kl kn cd wt) s.heap := by rw [← e_mem]; exact hP
      have hD : va_D A (mw cI a sz st us kp ga gl cs (stM sz mem p1 p2 v) pl ln km ks kt ku kl kn cd wt) := by rw [← e_mem]; exact hD
      exact W.iret (v := ((-11))) hx hb hr (fun t ht hW => ⟨⟨((-11)), (), rfl, (show ((-11)) = stR sz p1 p2 from (stR_w (by first | exact Or.inl hc_1 | exact Or.inr c_8)).symm), by rw [ht]; exact hP, va_K.moved hW.alike hK, hD⟩, hS.F ht⟩) hS.2.2 dX4_set_13
    · exact absurd c_4 (by decide)
set_option maxHeartbeats 4000000 in
set_option maxRecDepth 100000 in
theorem c_X4_zero (l : Launch) (dC : Nat → ClassId) (dI : Nat → Nat → Nat) (cI : ClassId) (a : Nat → Nat) (sz st us kp ga gl cs : Nat) (mem pl ln km ks kt ku kl kn cd wt : Nat → Nat) (zz : Nat) (p1 p2 : Int32) (g3 : sz ≤ 8192) : Met l yX4_zero wsX4_zero ({ frames := 1, cells := 0, slots := 0, locals := 24 }) (va_Pc [.ref (a 0), .int p1, .int p2] (fun U => U.heap.size = zz ∧ va_P (dC, dI) vwCl (mw cI a sz st us kp ga gl cs mem pl ln km ks kt ku kl kn cd wt) U.heap ∧ va_K (dC, dI) vwCl [(cI, .int)] U ∧ va_D (fun _ => True) (mw cI a sz st us kp ga gl cs mem pl ln km ks kt ku kl kn cd wt))) (va_Qi (fun r _ => r = zrR sz p1 p2) (fun (_ : Unit) t => va_P (dC, dI) vwCl (mw cI a sz st us kp ga gl cs (zrM sz mem p1 p2) pl ln km ks kt ku kl kn cd wt) t.heap ∧ va_K (dC, dI) vwCl [(cI, .int)] t ∧ va_D (va_A (mw cI a sz st us kp ga gl cs mem pl ln km ks kt ku kl kn cd wt) zz) (mw cI a sz st us kp ga gl cs (zrM sz mem p1 p2) pl ln km ks kt ku kl kn cd wt)) (va_A (mw cI a sz st us kp ga gl cs mem pl ln km ks kt ku kl kn cd wt) zz)) 0 0 (va_A (mw cI a sz st us kp ga gl cs mem pl ln km ks kt ku kl kn cd wt) zz) := by
  refine Met.ofW (cc := cX4_zero) (maxL := 4) (ret := (some .int)) (by decide) rfl ?_
  intro p e s m args below meth c s₁ B hml hv
  obtain ⟨rfl, hsz, hP, hK, hD0⟩ := hv
  have hx := B.exec
  have hb := B.bytes
  have hr := B.returns
  have hts := atoms_spec (ws := wsX4_zero) B.pre
  have hown : s.vm.findClass RX4 = some m.cls := findClass_of_methodNamed B.named
  have hlocks := B.notSynchronized
  subst hsz
  have hD := hD0.self (sz := s.heap.size)
  generalize hAe : va_A (mw cI a sz st us kp ga gl cs mem pl ln km ks kt ku kl kn cd wt) s.heap.size = A at hD ⊢
  have hA : ∀ q : Nat, s.heap.size ≤ q → A q := fun q h => by rw [← hAe]; exact Or.inr h
  have hS : va_S A s.heap s.heap [] := va_S.rf
  have hP : va_P (dC, dI) vwCl (mw cI a sz st us kp ga gl cs mem pl ln km ks kt ku kl kn cd wt) s.heap := hP
  have in_X4 : ∀ w ∈ wsX40, w ∈ wsX4_zero := fun _ h => List.mem_cons_of_mem _ (List.mem_append_right _ h)
  have lk_1 := hts (.fieldLink RX4 7 "GlulxHeapModel" "memory" "[I") (List.mem_of_getElem? (i := 1) rfl)
  have hl := lv_entry ([.ref (a 0), .int p1, .int p2]) (n := 4) (Nat.le_of_ble_eq_true rfl)
  rw [lg_entry_eq]
  generalize (lg_sl ([.ref (a 0), .int p1, .int p2]) ++ List.replicate (4 - (lg_sl ([.ref (a 0), .int p1, .int p2])).length) Slot.unset).toArray = ls at hl ⊢
  have hl : lv_has ls 4 [(0, .ref (a 0)), (1, .int p1), (2, .int p2)] := hl
  refine lv_iload_n hx hb dX4_zero_0 rfl (lv_at hl 1 rfl) ?_
  refine lv_if_lt (tgt := 8) hx hb dX4_zero_1 (by decide) (fun c_1 => ?_) (fun c_1 => ?_)
  · refine lv_bipush (v := ((-11))) hx hb dX4_zero_8 (by decide) ?_
    have e_mem : mem = zrM sz mem p1 p2 := zrM_no (zrR_w (by first | exact Or.inl c_1 | exact Or.inr c_5)) (by decide)
    have hP : va_P (dC, dI) vwCl (mw cI a sz st us kp ga gl cs (zrM sz mem p1 p2) pl ln km ks kt ku kl kn cd wt) s.heap := by rw [← e_mem]; exact hP
    have hD : va_D A (mw cI a sz st us kp ga gl cs (zrM sz mem p1 p2) pl ln km ks kt ku kl kn cd wt) := by rw [← e_mem]; exact hD
    exact W.iret (v := ((-11))) hx hb hr (fun t ht hW => ⟨⟨((-11)), (), rfl, (show ((-11)) = zrR sz p1 p2 from (zrR_w (by first | exact Or.inl c_1 | exact Or.inr c_5)).symm), by rw [ht]; exact hP, va_K.moved hW.alike hK, hD⟩, hS.F ht⟩) hS.2.2 dX4_zero_10
  · obtain ⟨x, n_x, rfl⟩ := nI_of c_1
    refine lv_iload_n hx hb dX4_zero_4 rfl (lv_at hl 2 rfl) ?_
    refine lv_if_ge (tgt := 11) hx hb dX4_zero_5 (by decide) (fun c_5 => ?_) (fun c_5 => ?_)
    · have c_5 : ¬ p2 < 0 := i0_ge.mp c_5
      obtain ⟨n, n_n, rfl⟩ := nI_of c_5
      refine lv_aload_n hx hb dX4_zero_11 rfl (lv_at hl 0 rfl) ?_
      refine lv_iload_n hx hb dX4_zero_12 rfl (lv_at hl 1 rfl) ?_
      refine lv_i2l (v := lN x) hx hb dX4_zero_13 (nI_l (by omega)) ?_
      refine lv_iload_n hx hb dX4_zero_14 rfl (lv_at hl 2 rfl) ?_
      refine lv_i2l (v := lN n) hx hb dX4_zero_15 (nI_l (by omega)) ?_
      refine vp_callSi (W.runV (As := [.long (lN x), .long (lN n)]) (rest := []) ⟨hx, hb, hml, hown, hts⟩ (c_X4_isIn l dC dI cI a sz st us kp ga gl cs mem pl ln km ks kt ku kl kn cd wt x n (by omega) (by omega) (by omega)) (cwV 2 hts gX4_zero_X4_isIn rfl rfl rfl (by decide +kernel) ⟨Nat.le_of_ble_eq_true rfl, Nat.le_of_ble_eq_true rfl⟩) ⟨fun a9 U g9 mk9 q9 => by obtain ⟨q0, qP, qK⟩ := q9; exact ⟨q0, qP, va_K.moved (u := U) (U := U.calling g9 mk9 a9) (Vm.Alike.refl U.vm) qK⟩, va_recv hK hP (ci := 4) (q0 := 0) rfl rfl, fun U hU hW => ⟨rfl, by rw [hU]; exact hP, va_K.moved hW.alike hK⟩⟩ rfl rfl hl.1 rfl (lv_room (Nat.le_of_ble_eq_true rfl)) dX4_zero_16 ⟨Nat.zero_le _, Nat.zero_le _⟩) (fun r_16 hw => ?_)
      try dsimp only at hw
      rcases hw with ⟨hc_16, rfl⟩ | ⟨hc_16, rfl⟩
      · skip
        refine lv_if_ne (tgt := 25) hx hb dX4_zero_19 (by decide) (fun c_19 => ?_) (fun c_19 => ?_)
        · have c_19 : ¬ 1 = 0 := fun q => c_19 ((nZ_eq (by omega)).mpr q)
          refine lv_iload_n hx hb dX4_zero_25 rfl (lv_at hl 2 rfl) ?_
          refine lv_if_le (tgt := 38) hx hb dX4_zero_26 (by decide) (fun c_26 => ?_) (fun c_26 => ?_)
          · have c_26 : n ≤ 0 := (nZ_le (by omega)).mp c_26
            refine lv_iconst (v := (nI 0)) hx hb dX4_zero_38 (by decide) ?_
            refine lv_istore_n (lv' := [(3, .int (nI 0)), (0, .ref (a 0)), (1, .int (nI x)), (2, .int (nI n))]) hx hb dX4_zero_39 rfl hl (by decide) rfl (fun ls hl => ?_)
            refine lp_world (σ := Nat × (Nat → Nat)) (fun ⟨i, f⟩ => i ≤ n ∧ f = zr mem x i) (fun ⟨i, f⟩ => n - i) (fun ⟨i, f⟩ => [(3, .int (nI i)), (0, .ref (a 0)), (1, .int (nI x)), (2, .int (nI n))]) (fun ⟨i, f⟩ => mw cI a sz st us kp ga gl cs f pl ln km ks kt ku kl kn cd wt) ?_ ((0, mem)) (⟨Nat.zero_le _, by rw [zr_0]⟩) (hP) (hD) hS (lv_sub hl [0, 1, 2, 3] rfl)
            intro ⟨i, f⟩ hI ih H locs ls hP hD hS hl
            have hl : lv_has ls 4 [(3, .int (nI i)), (0, .ref (a 0)), (1, .int (nI x)), (2, .int (nI n))] := hl
            have hP : va_P (dC, dI) vwCl (mw cI a sz st us kp ga gl cs f pl ln km ks kt ku kl kn cd wt) H := hP
            have hD : va_D A (mw cI a sz st us kp ga gl cs f pl ln km ks kt ku kl kn cd wt) := hD
            have hI : i ≤ n ∧ f = zr mem x i := hI
            obtain ⟨hi, hf⟩ := hI
            have ih_40 := ih
            refine lv_iload_n hx hb dX4_zero_40 rfl (lv_at hl 0 rfl) ?_
            refine lv_iload_n hx hb dX4_zero_41 rfl (lv_at hl 3 rfl) ?_
            refine lv_icmp_ge (tgt := 60) hx hb dX4_zero_42 (by decide) (fun c_42 => ?_) (fun c_42 => ?_)
            · have c_42 : n ≤ i := (nI_leI (a := n) (b := i) (by omega) (by omega)).mp c_42
              refine lv_iconst (v := (nI 1)) hx hb dX4_zero_60 (by decide) ?_
              have e_mem : f = zrM sz mem (nI x) (nI n) := by rw [zrM_ok (by rw [zrR_ok n_x n_n, if_neg (by omega), if_neg (by omega)]) n_x n_n, hf, show i = n by omega]
              have hP : va_P (dC, dI) vwCl (mw cI a sz st us kp ga gl cs (zrM sz mem (nI x) (nI n)) pl ln km ks kt ku kl kn cd wt) H := by rw [← e_mem]; exact hP
              have hD : va_D A (mw cI a sz st us kp ga gl cs (zrM sz mem (nI x) (nI n)) pl ln km ks kt ku kl kn cd wt) := by rw [← e_mem]; exact hD
              exact W.iret (v := (nI 1)) hx hb hr (fun t ht hW => ⟨⟨(nI 1), (), rfl, (show (nI 1) = zrR sz (nI x) (nI n) from by rw [zrR_ok n_x n_n, if_neg (by omega), if_neg (by omega)]), by rw [ht]; exact hP, va_K.moved hW.alike hK, hD⟩, hS.F ht⟩) hS.2.2 dX4_zero_61
            · have c_42 : ¬ n ≤ i := fun q => c_42 ((nI_leI (a := n) (b := i) (by omega) (by omega)).mpr q)
              refine lv_aload_n hx hb dX4_zero_45 rfl (lv_at hl 1 rfl) ?_
              refine va_get (D := (dC, dI)) (ci := 4) (v := .ref (a 1)) (C := RX4) (T := TX4) (N := 18) hx hb hts in_X4 hown hK hP 0 rfl rfl 0 (by decide) lk_1 (fun _ h9 => h9) rfl dX4_zero_46 ?_
              refine lv_iload_n hx hb dX4_zero_49 rfl (lv_at hl 2 rfl) ?_
              refine lv_iload_n hx hb dX4_zero_50 rfl (lv_at hl 0 rfl) ?_
              refine lv_iadd hx hb dX4_zero_51 ?_
              refine tpi (nI_add _ _) ?_
              refine lv_iconst (v := (nI 0)) hx hb dX4_zero_52 (by decide) ?_
              refine va_iast hx hb hK hP hD hS 1 0 rfl rfl (vp_in_nI (by omega) (by omega)) dX4_zero_53 (fun H locs hP hD hS => ?_)
              rw [nf_up (by omega)] at hP hD
              have hP : va_P (dC, dI) vwCl (mw cI a sz st us kp ga gl cs (va_up f (x + i) 0) pl ln km ks kt ku kl kn cd wt) H := hP
              have hD : va_D A (mw cI a sz st us kp ga gl cs (va_up f (x + i) 0) pl ln km ks kt ku kl kn cd wt) := hD
              refine lv_iinc (v := (nI (i + 1))) (lv' := [(3, .int (nI (i + 1))), (0, .ref (a 0)), (1, .int (nI x)), (2, .int (nI n))]) hx hb dX4_zero_54 hl (k := 0) rfl (nI_inc _) (by decide) rfl (fun ls hl => ?_)
              refine lv_goto (tgt := 40) hx hb dX4_zero_57 (by decide) ?_
              exact ih_40 (i + 1, va_up f (x + i) 0) (⟨by omega, by rw [hf, zr_s]⟩) (show n - (i + 1) < n - i by omega) H locs ls (hP) (hD) hS (lv_sub hl [0, 1, 2, 3] rfl)
          · have c_26 : ¬ n ≤ 0 := fun q => c_26 ((nZ_le (by omega)).mpr q)
            refine lv_iload_n hx hb dX4_zero_29 rfl (lv_at hl 1 rfl) ?_
            refine lv_bipush (v := (nI 64)) hx hb dX4_zero_30 (by decide) ?_
            refine lv_icmp_ge (tgt := 38) hx hb dX4_zero_32 (by decide) (fun c_32 => ?_) (fun c_32 => ?_)
            · have c_32 : 64 ≤ x := (nI_leI (a := 64) (b := x) (by omega) (by omega)).mp c_32
              refine lv_iconst (v := (nI 0)) hx hb dX4_zero_38 (by decide) ?_
              refine lv_istore_n (lv' := [(3, .int (nI 0)), (0, .ref (a 0)), (1, .int (nI x)), (2, .int (nI n))]) hx hb dX4_zero_39 rfl hl (by decide) rfl (fun ls hl => ?_)
              refine lp_world (σ := Nat × (Nat → Nat)) (fun ⟨i, f⟩ => i ≤ n ∧ f = zr mem x i) (fun ⟨i, f⟩ => n - i) (fun ⟨i, f⟩ => [(3, .int (nI i)), (0, .ref (a 0)), (1, .int (nI x)), (2, .int (nI n))]) (fun ⟨i, f⟩ => mw cI a sz st us kp ga gl cs f pl ln km ks kt ku kl kn cd wt) ?_ ((0, mem)) (⟨Nat.zero_le _, by rw [zr_0]⟩) (hP) (hD) hS (lv_sub hl [0, 1, 2, 3] rfl)
              intro ⟨i, f⟩ hI ih H locs ls hP hD hS hl
              have hl : lv_has ls 4 [(3, .int (nI i)), (0, .ref (a 0)), (1, .int (nI x)), (2, .int (nI n))] := hl
              have hP : va_P (dC, dI) vwCl (mw cI a sz st us kp ga gl cs f pl ln km ks kt ku kl kn cd wt) H := hP
              have hD : va_D A (mw cI a sz st us kp ga gl cs f pl ln km ks kt ku kl kn cd wt) := hD
              have hI : i ≤ n ∧ f = zr mem x i := hI
              obtain ⟨hi, hf⟩ := hI
              have ih_40 := ih
              refine lv_iload_n hx hb dX4_zero_40 rfl (lv_at hl 0 rfl) ?_
              refine lv_iload_n hx hb dX4_zero_41 rfl (lv_at hl 3 rfl) ?_
              refine lv_icmp_ge (tgt := 60) hx hb dX4_zero_42 (by decide) (fun c_42 => ?_) (fun c_42 => ?_)
              · have c_42 : n ≤ i := (nI_leI (a := n) (b := i) (by omega) (by omega)).mp c_42
                refine lv_iconst (v := (nI 1)) hx hb dX4_zero_60 (by decide) ?_
                have e_mem : f = zrM sz mem (nI x) (nI n) := by rw [zrM_ok (by rw [zrR_ok n_x n_n, if_neg (by omega), if_neg (by omega)]) n_x n_n, hf, show i = n by omega]
                have hP : va_P (dC, dI) vwCl (mw cI a sz st us kp ga gl cs (zrM sz mem (nI x) (nI n)) pl ln km ks kt ku kl kn cd wt) H := by rw [← e_mem]; exact hP
                have hD : va_D A (mw cI a sz st us kp ga gl cs (zrM sz mem (nI x) (nI n)) pl ln km ks kt ku kl kn cd wt) := by rw [← e_mem]; exact hD
                exact W.iret (v := (nI 1)) hx hb hr (fun t ht hW => ⟨⟨(nI 1), (), rfl, (show (nI 1) = zrR sz (nI x) (nI n) from by rw [zrR_ok n_x n_n, if_neg (by omega), if_neg (by omega)]), by rw [ht]; exact hP, va_K.moved hW.alike hK, hD⟩, hS.F ht⟩) hS.2.2 dX4_zero_61
              · have c_42 : ¬ n ≤ i := fun q => c_42 ((nI_leI (a := n) (b := i) (by omega) (by omega)).mpr q)
                refine lv_aload_n hx hb dX4_zero_45 rfl (lv_at hl 1 rfl) ?_
                refine va_get (D := (dC, dI)) (ci := 4) (v := .ref (a 1)) (C := RX4) (T := TX4) (N := 18) hx hb hts in_X4 hown hK hP 0 rfl rfl 0 (by decide) lk_1 (fun _ h9 => h9) rfl dX4_zero_46 ?_
                refine lv_iload_n hx hb dX4_zero_49 rfl (lv_at hl 2 rfl) ?_
                refine lv_iload_n hx hb dX4_zero_50 rfl (lv_at hl 0 rfl) ?_
                refine lv_iadd hx hb dX4_zero_51 ?_
                refine tpi (nI_add _ _) ?_
                refine lv_iconst (v := (nI 0)) hx hb dX4_zero_52 (by decide) ?_
                refine va_iast hx hb hK hP hD hS 1 0 rfl rfl (vp_in_nI (by omega) (by omega)) dX4_zero_53 (fun H locs hP hD hS => ?_)
                rw [nf_up (by omega)] at hP hD
                have hP : va_P (dC, dI) vwCl (mw cI a sz st us kp ga gl cs (va_up f (x + i) 0) pl ln km ks kt ku kl kn cd wt) H := hP
                have hD : va_D A (mw cI a sz st us kp ga gl cs (va_up f (x + i) 0) pl ln km ks kt ku kl kn cd wt) := hD
                refine lv_iinc (v := (nI (i + 1))) (lv' := [(3, .int (nI (i + 1))), (0, .ref (a 0)), (1, .int (nI x)), (2, .int (nI n))]) hx hb dX4_zero_54 hl (k := 0) rfl (nI_inc _) (by decide) rfl (fun ls hl => ?_)
                refine lv_goto (tgt := 40) hx hb dX4_zero_57 (by decide) ?_
                exact ih_40 (i + 1, va_up f (x + i) 0) (⟨by omega, by rw [hf, zr_s]⟩) (show n - (i + 1) < n - i by omega) H locs ls (hP) (hD) hS (lv_sub hl [0, 1, 2, 3] rfl)
            · have c_32 : ¬ 64 ≤ x := fun q => c_32 ((nI_leI (a := 64) (b := x) (by omega) (by omega)).mpr q)
              refine lv_bipush (v := ((-13))) hx hb dX4_zero_35 (by decide) ?_
              have e_mem : mem = zrM sz mem (nI x) (nI n) := zrM_no (show _ = (-13) by rw [zrR_ok n_x n_n, if_neg (by omega), if_pos (by omega)]) (by decide)
              have hP : va_P (dC, dI) vwCl (mw cI a sz st us kp ga gl cs (zrM sz mem (nI x) (nI n)) pl ln km ks kt ku kl kn cd wt) s.heap := by rw [← e_mem]; exact hP
              have hD : va_D A (mw cI a sz st us kp ga gl cs (zrM sz mem (nI x) (nI n)) pl ln km ks kt ku kl kn cd wt) := by rw [← e_mem]; exact hD
              exact W.iret (v := ((-13))) hx hb hr (fun t ht hW => ⟨⟨((-13)), (), rfl, (show ((-13)) = zrR sz (nI x) (nI n) from by rw [zrR_ok n_x n_n, if_neg (by omega), if_pos (by omega)]), by rw [ht]; exact hP, va_K.moved hW.alike hK, hD⟩, hS.F ht⟩) hS.2.2 dX4_zero_37
        · exact absurd c_19 (by decide)
      · skip
        refine lv_if_ne (tgt := 25) hx hb dX4_zero_19 (by decide) (fun c_19 => ?_) (fun c_19 => ?_)
        · exact absurd c_19 (by decide)
        · have c_19 : 0 = 0 := (nZ_eq (by omega)).mp c_19
          refine lv_bipush (v := ((-12))) hx hb dX4_zero_22 (by decide) ?_
          have e_mem : mem = zrM sz mem (nI x) (nI n) := zrM_no (show _ = (-12) by rw [zrR_ok n_x n_n, if_pos (by omega)]) (by decide)
          have hP : va_P (dC, dI) vwCl (mw cI a sz st us kp ga gl cs (zrM sz mem (nI x) (nI n)) pl ln km ks kt ku kl kn cd wt) s.heap := by rw [← e_mem]; exact hP
          have hD : va_D A (mw cI a sz st us kp ga gl cs (zrM sz mem (nI x) (nI n)) pl ln km ks kt ku kl kn cd wt) := by rw [← e_mem]; exact hD
          exact W.iret (v := ((-12))) hx hb hr (fun t ht hW => ⟨⟨((-12)), (), rfl, (show ((-12)) = zrR sz (nI x) (nI n) from by rw [zrR_ok n_x n_n, if_pos (by omega)]), by rw [ht]; exact hP, va_K.moved hW.alike hK, hD⟩, hS.F ht⟩) hS.2.2 dX4_zero_24
    · have c_5 : p2 < 0 := i0_nge.mp c_5
      refine lv_bipush (v := ((-11))) hx hb dX4_zero_8 (by decide) ?_
      have e_mem : mem = zrM sz mem (nI x) p2 := zrM_no (zrR_w (by first | exact Or.inl c_1 | exact Or.inr c_5)) (by decide)
      have hP : va_P (dC, dI) vwCl (mw cI a sz st us kp ga gl cs (zrM sz mem (nI x) p2) pl ln km ks kt ku kl kn cd wt) s.heap := by rw [← e_mem]; exact hP
      have hD : va_D A (mw cI a sz st us kp ga gl cs (zrM sz mem (nI x) p2) pl ln km ks kt ku kl kn cd wt) := by rw [← e_mem]; exact hD
      exact W.iret (v := ((-11))) hx hb hr (fun t ht hW => ⟨⟨((-11)), (), rfl, (show ((-11)) = zrR sz (nI x) p2 from (zrR_w (by first | exact Or.inl c_1 | exact Or.inr c_5)).symm), by rw [ht]; exact hP, va_K.moved hW.alike hK, hD⟩, hS.F ht⟩) hS.2.2 dX4_zero_10
set_option maxHeartbeats 4000000 in
set_option maxRecDepth 100000 in
theorem c_X4_copy (l : Launch) (dC : Nat → ClassId) (dI : Nat → Nat → Nat) (cI : ClassId) (a : Nat → Nat) (sz st us kp ga gl cs : Nat) (mem pl ln km ks kt ku kl kn cd wt : Nat → Nat) (zz : Nat) (p1 p2 p3 : Int32) (g3 : sz ≤ 8192) : Met l yX4_copy wsX4_copy ({ frames := 1, cells := 0, slots := 0, locals := 24 }) (va_Pc [.ref (a 0), .int p1, .int p2, .int p3] (fun U => U.heap.size = zz ∧ va_P (dC, dI) vwCl (mw cI a sz st us kp ga gl cs mem pl ln km ks kt ku kl kn cd wt) U.heap ∧ va_K (dC, dI) vwCl [(cI, .int)] U ∧ va_D (fun _ => True) (mw cI a sz st us kp ga gl cs mem pl ln km ks kt ku kl kn cd wt))) (va_Qi (fun r _ => r = cpR sz p1 p2 p3) (fun (_ : Unit) t => va_P (dC, dI) vwCl (mw cI a sz st us kp ga gl cs (cpM sz mem p1 p2 p3) pl ln km ks kt ku kl kn cd wt) t.heap ∧ va_K (dC, dI) vwCl [(cI, .int)] t ∧ va_D (va_A (mw cI a sz st us kp ga gl cs mem pl ln km ks kt ku kl kn cd wt) zz) (mw cI a sz st us kp ga gl cs (cpM sz mem p1 p2 p3) pl ln km ks kt ku kl kn cd wt)) (va_A (mw cI a sz st us kp ga gl cs mem pl ln km ks kt ku kl kn cd wt) zz)) 0 0 (va_A (mw cI a sz st us kp ga gl cs mem pl ln km ks kt ku kl kn cd wt) zz) := by
  refine Met.ofW (cc := cX4_copy) (maxL := 6) (ret := (some .int)) (by decide) rfl ?_
  intro p e s m args below meth c s₁ B hml hv
  obtain ⟨rfl, hsz, hP, hK, hD0⟩ := hv
  have hx := B.exec
  have hb := B.bytes
  have hr := B.returns
  have hts := atoms_spec (ws := wsX4_copy) B.pre
  have hown : s.vm.findClass RX4 = some m.cls := findClass_of_methodNamed B.named
  have hlocks := B.notSynchronized
  subst hsz
  have hD := hD0.self (sz := s.heap.size)
  generalize hAe : va_A (mw cI a sz st us kp ga gl cs mem pl ln km ks kt ku kl kn cd wt) s.heap.size = A at hD ⊢
  have hA : ∀ q : Nat, s.heap.size ≤ q → A q := fun q h => by rw [← hAe]; exact Or.inr h
  have hS : va_S A s.heap s.heap [] := va_S.rf
  have hP : va_P (dC, dI) vwCl (mw cI a sz st us kp ga gl cs mem pl ln km ks kt ku kl kn cd wt) s.heap := hP
  have in_X4 : ∀ w ∈ wsX40, w ∈ wsX4_copy := fun _ h => List.mem_cons_of_mem _ (List.mem_append_right _ h)
  have lk_1 := hts (.fieldLink RX4 7 "GlulxHeapModel" "memory" "[I") (List.mem_of_getElem? (i := 1) rfl)
  have hl := lv_entry ([.ref (a 0), .int p1, .int p2, .int p3]) (n := 6) (Nat.le_of_ble_eq_true rfl)
  rw [lg_entry_eq]
  generalize (lg_sl ([.ref (a 0), .int p1, .int p2, .int p3]) ++ List.replicate (6 - (lg_sl ([.ref (a 0), .int p1, .int p2, .int p3])).length) Slot.unset).toArray = ls at hl ⊢
  have hl : lv_has ls 6 [(0, .ref (a 0)), (1, .int p1), (2, .int p2), (3, .int p3)] := hl
  refine lv_iload_n hx hb dX4_copy_0 rfl (lv_at hl 1 rfl) ?_
  refine lv_if_lt (tgt := 12) hx hb dX4_copy_1 (by decide) (fun c_1 => ?_) (fun c_1 => ?_)
  · refine lv_bipush (v := ((-11))) hx hb dX4_copy_12 (by decide) ?_
    have e_mem : mem = cpM sz mem p1 p2 p3 := cpM_no (cpR_w (by first | exact Or.inl c_1 | exact Or.inr (Or.inl c_5) | exact Or.inr (Or.inr c_9))) (by decide)
    have hP : va_P (dC, dI) vwCl (mw cI a sz st us kp ga gl cs (cpM sz mem p1 p2 p3) pl ln km ks kt ku kl kn cd wt) s.heap := by rw [← e_mem]; exact hP
    have hD : va_D A (mw cI a sz st us kp ga gl cs (cpM sz mem p1 p2 p3) pl ln km ks kt ku kl kn cd wt) := by rw [← e_mem]; exact hD
    exact W.iret (v := ((-11))) hx hb hr (fun t ht hW => ⟨⟨((-11)), (), rfl, (show ((-11)) = cpR sz p1 p2 p3 from (cpR_w (by first | exact Or.inl c_1 | exact Or.inr (Or.inl c_5) | exact Or.inr (Or.inr c_9))).symm), by rw [ht]; exact hP, va_K.moved hW.alike hK, hD⟩, hS.F ht⟩) hS.2.2 dX4_copy_14
  · obtain ⟨x, n_x, rfl⟩ := nI_of c_1
    refine lv_iload_n hx hb dX4_copy_4 rfl (lv_at hl 2 rfl) ?_
    refine lv_if_lt (tgt := 12) hx hb dX4_copy_5 (by decide) (fun c_5 => ?_) (fun c_5 => ?_)
    · refine lv_bipush (v := ((-11))) hx hb dX4_copy_12 (by decide) ?_
      have e_mem : mem = cpM sz mem (nI x) p2 p3 := cpM_no (cpR_w (by first | exact Or.inl c_1 | exact Or.inr (Or.inl c_5) | exact Or.inr (Or.inr c_9))) (by decide)
      have hP : va_P (dC, dI) vwCl (mw cI a sz st us kp ga gl cs (cpM sz mem (nI x) p2 p3) pl ln km ks kt ku kl kn cd wt) s.heap := by rw [← e_mem]; exact hP
      have hD : va_D A (mw cI a sz st us kp ga gl cs (cpM sz mem (nI x) p2 p3) pl ln km ks kt ku kl kn cd wt) := by rw [← e_mem]; exact hD
      exact W.iret (v := ((-11))) hx hb hr (fun t ht hW => ⟨⟨((-11)), (), rfl, (show ((-11)) = cpR sz (nI x) p2 p3 from (cpR_w (by first | exact Or.inl c_1 | exact Or.inr (Or.inl c_5) | exact Or.inr (Or.inr c_9))).symm), by rw [ht]; exact hP, va_K.moved hW.alike hK, hD⟩, hS.F ht⟩) hS.2.2 dX4_copy_14
    · obtain ⟨y, n_y, rfl⟩ := nI_of c_5
      refine lv_iload_n hx hb dX4_copy_8 rfl (lv_at hl 3 rfl) ?_
      refine lv_if_ge (tgt := 15) hx hb dX4_copy_9 (by decide) (fun c_9 => ?_) (fun c_9 => ?_)
      · have c_9 : ¬ p3 < 0 := i0_ge.mp c_9
        obtain ⟨n, n_n, rfl⟩ := nI_of c_9
        refine lv_aload_n hx hb dX4_copy_15 rfl (lv_at hl 0 rfl) ?_
        refine lv_iload_n hx hb dX4_copy_16 rfl (lv_at hl 1 rfl) ?_
        refine lv_i2l (v := lN x) hx hb dX4_copy_17 (nI_l (by omega)) ?_
        refine lv_iload_n hx hb dX4_copy_18 rfl (lv_at hl 3 rfl) ?_
        refine lv_i2l (v := lN n) hx hb dX4_copy_19 (nI_l (by omega)) ?_
        refine vp_callSi (W.runV (As := [.long (lN x), .long (lN n)]) (rest := []) ⟨hx, hb, hml, hown, hts⟩ (c_X4_isIn l dC dI cI a sz st us kp ga gl cs mem pl ln km ks kt ku kl kn cd wt x n (by omega) (by omega) (by omega)) (cwV 2 hts gX4_copy_X4_isIn rfl rfl rfl (by decide +kernel) ⟨Nat.le_of_ble_eq_true rfl, Nat.le_of_ble_eq_true rfl⟩) ⟨fun a9 U g9 mk9 q9 => by obtain ⟨q0, qP, qK⟩ := q9; exact ⟨q0, qP, va_K.moved (u := U) (U := U.calling g9 mk9 a9) (Vm.Alike.refl U.vm) qK⟩, va_recv hK hP (ci := 4) (q0 := 0) rfl rfl, fun U hU hW => ⟨rfl, by rw [hU]; exact hP, va_K.moved hW.alike hK⟩⟩ rfl rfl hl.1 rfl (lv_room (Nat.le_of_ble_eq_true rfl)) dX4_copy_20 ⟨Nat.zero_le _, Nat.zero_le _⟩) (fun r_20 hw => ?_)
        try dsimp only at hw
        rcases hw with ⟨hc_20, rfl⟩ | ⟨hc_20, rfl⟩
        · skip
          refine lv_if_eq (tgt := 37) hx hb dX4_copy_23 (by decide) (fun c_23 => ?_) (fun c_23 => ?_)
          · exact absurd c_23 (by decide)
          · have c_23 : ¬ 1 = 0 := fun q => c_23 ((nZ_eq (by omega)).mpr q)
            refine lv_aload_n hx hb dX4_copy_26 rfl (lv_at hl 0 rfl) ?_
            refine lv_iload_n hx hb dX4_copy_27 rfl (lv_at hl 2 rfl) ?_
            refine lv_i2l (v := lN y) hx hb dX4_copy_28 (nI_l (by omega)) ?_
            refine lv_iload_n hx hb dX4_copy_29 rfl (lv_at hl 3 rfl) ?_
            refine lv_i2l (v := lN n) hx hb dX4_copy_30 (nI_l (by omega)) ?_
            refine vp_callSi (W.runV (As := [.long (lN y), .long (lN n)]) (rest := []) ⟨hx, hb, hml, hown, hts⟩ (c_X4_isIn l dC dI cI a sz st us kp ga gl cs mem pl ln km ks kt ku kl kn cd wt y n (by omega) (by omega) (by omega)) (cwV 2 hts gX4_copy_X4_isIn rfl rfl rfl (by decide +kernel) ⟨Nat.le_of_ble_eq_true rfl, Nat.le_of_ble_eq_true rfl⟩) ⟨fun a9 U g9 mk9 q9 => by obtain ⟨q0, qP, qK⟩ := q9; exact ⟨q0, qP, va_K.moved (u := U) (U := U.calling g9 mk9 a9) (Vm.Alike.refl U.vm) qK⟩, va_recv hK hP (ci := 4) (q0 := 0) rfl rfl, fun U hU hW => ⟨rfl, by rw [hU]; exact hP, va_K.moved hW.alike hK⟩⟩ rfl rfl hl.1 rfl (lv_room (Nat.le_of_ble_eq_true rfl)) dX4_copy_31 ⟨Nat.zero_le _, Nat.zero_le _⟩) (fun r_31 hw => ?_)
            try dsimp only at hw
            rcases hw with ⟨hc_31, rfl⟩ | ⟨hc_31, rfl⟩
            · skip
              refine lv_if_ne (tgt := 40) hx hb dX4_copy_34 (by decide) (fun c_34 => ?_) (fun c_34 => ?_)
              · have c_34 : ¬ 1 = 0 := fun q => c_34 ((nZ_eq (by omega)).mpr q)
                refine lv_iload_n hx hb dX4_copy_40 rfl (lv_at hl 3 rfl) ?_
                refine lv_if_le (tgt := 53) hx hb dX4_copy_41 (by decide) (fun c_41 => ?_) (fun c_41 => ?_)
                · have c_41 : n ≤ 0 := (nZ_le (by omega)).mp c_41
                  refine lv_iconst (v := (nI 0)) hx hb dX4_copy_53 (by decide) ?_
                  refine lv_istore (lv' := [(4, .int (nI 0)), (0, .ref (a 0)), (1, .int (nI x)), (2, .int (nI y)), (3, .int (nI n))]) hx hb dX4_copy_54 hl (by decide) rfl (fun ls hl => ?_)
                  refine lp_world (σ := Nat × (Nat → Nat)) (fun ⟨i, f⟩ => i ≤ n ∧ (x < y → f = va_cpy mem mem (x + (n - i)) (y + (n - i)) i) ∧ (¬ x < y → f = va_cpy mem mem x y i)) (fun ⟨i, f⟩ => n - i) (fun ⟨i, f⟩ => [(4, .int (nI i)), (0, .ref (a 0)), (1, .int (nI x)), (2, .int (nI y)), (3, .int (nI n))]) (fun ⟨i, f⟩ => mw cI a sz st us kp ga gl cs f pl ln km ks kt ku kl kn cd wt) ?_ ((0, mem)) (⟨Nat.zero_le _, fun _ => by rw [cpy_0], fun _ => by rw [cpy_0]⟩) (hP) (hD) hS (lv_sub hl [0, 1, 2, 3, 4] rfl)
                  intro ⟨i, f⟩ hI ih H locs ls hP hD hS hl
                  have hl : lv_has ls 6 [(4, .int (nI i)), (0, .ref (a 0)), (1, .int (nI x)), (2, .int (nI y)), (3, .int (nI n))] := hl
                  have hP : va_P (dC, dI) vwCl (mw cI a sz st us kp ga gl cs f pl ln km ks kt ku kl kn cd wt) H := hP
                  have hD : va_D A (mw cI a sz st us kp ga gl cs f pl ln km ks kt ku kl kn cd wt) := hD
                  have hI : i ≤ n ∧ (x < y → f = va_cpy mem mem (x + (n - i)) (y + (n - i)) i) ∧ (¬ x < y → f = va_cpy mem mem x y i) := hI
                  obtain ⟨hi, hf1, hf2⟩ := hI
                  have ih_56 := ih
                  refine lv_iload hx hb dX4_copy_56 (lv_at hl 0 rfl) ?_
                  refine lv_iload_n hx hb dX4_copy_58 rfl (lv_at hl 4 rfl) ?_
                  refine lv_icmp_ge (tgt := 104) hx hb dX4_copy_59 (by decide) (fun c_59 => ?_) (fun c_59 => ?_)
                  · have c_59 : n ≤ i := (nI_leI (a := n) (b := i) (by omega) (by omega)).mp c_59
                    refine lv_iconst (v := (nI 1)) hx hb dX4_copy_104 (by decide) ?_
                    have e_mem : f = cpM sz mem (nI x) (nI y) (nI n) := by rw [cpM_ok (by rw [cpR_ok n_x n_y n_n, if_neg (by omega), if_neg (by omega)]) n_x n_y n_n]; exact if h : x < y then by rw [hf1 h, show i = n by omega, Nat.sub_self, Nat.add_zero, Nat.add_zero] else by rw [hf2 h, show i = n by omega]
                    have hP : va_P (dC, dI) vwCl (mw cI a sz st us kp ga gl cs (cpM sz mem (nI x) (nI y) (nI n)) pl ln km ks kt ku kl kn cd wt) H := by rw [← e_mem]; exact hP
                    have hD : va_D A (mw cI a sz st us kp ga gl cs (cpM sz mem (nI x) (nI y) (nI n)) pl ln km ks kt ku kl kn cd wt) := by rw [← e_mem]; exact hD
                    exact W.iret (v := (nI 1)) hx hb hr (fun t ht hW => ⟨⟨(nI 1), (), rfl, (show (nI 1) = cpR sz (nI x) (nI y) (nI n) from by rw [cpR_ok n_x n_y n_n, if_neg (by omega), if_neg (by omega)]), by rw [ht]; exact hP, va_K.moved hW.alike hK, hD⟩, hS.F ht⟩) hS.2.2 dX4_copy_105
                  · have c_59 : ¬ n ≤ i := fun q => c_59 ((nI_leI (a := n) (b := i) (by omega) (by omega)).mpr q)
                    refine lv_iload_n hx hb dX4_copy_62 rfl (lv_at hl 2 rfl) ?_
                    refine lv_iload_n hx hb dX4_copy_63 rfl (lv_at hl 3 rfl) ?_
                    refine lv_icmp_ge (tgt := 76) hx hb dX4_copy_64 (by decide) (fun c_64 => ?_) (fun c_64 => ?_)
                    · have c_64 : y ≤ x := (nI_leI (a := y) (b := x) (by omega) (by omega)).mp c_64
                      refine lv_iload hx hb dX4_copy_76 (lv_at hl 0 rfl) ?_
                      refine lv_istore (lv' := [(5, .int (nI i)), (4, .int (nI i)), (0, .ref (a 0)), (1, .int (nI x)), (2, .int (nI y)), (3, .int (nI n))]) hx hb dX4_copy_78 hl (by decide) rfl (fun ls hl => ?_)
                      refine lv_aload_n hx hb dX4_copy_80 rfl (lv_at hl 2 rfl) ?_
                      refine va_get (D := (dC, dI)) (ci := 4) (v := .ref (a 1)) (C := RX4) (T := TX4) (N := 18) hx hb hts in_X4 hown hK hP 0 rfl rfl 0 (by decide) lk_1 (fun _ h9 => h9) rfl dX4_copy_81 ?_
                      refine lv_iload_n hx hb dX4_copy_84 rfl (lv_at hl 4 rfl) ?_
                      refine lv_iload hx hb dX4_copy_85 (lv_at hl 0 rfl) ?_
                      refine lv_iadd hx hb dX4_copy_87 ?_
                      refine tpi (nI_add _ _) ?_
                      refine lv_aload_n hx hb dX4_copy_88 rfl (lv_at hl 2 rfl) ?_
                      refine va_get (D := (dC, dI)) (ci := 4) (v := .ref (a 1)) (C := RX4) (T := TX4) (N := 18) hx hb hts in_X4 hown hK hP 0 rfl rfl 0 (by decide) lk_1 (fun _ h9 => h9) rfl dX4_copy_89 ?_
                      refine lv_iload_n hx hb dX4_copy_92 rfl (lv_at hl 3 rfl) ?_
                      refine lv_iload hx hb dX4_copy_93 (lv_at hl 0 rfl) ?_
                      refine lv_iadd hx hb dX4_copy_95 ?_
                      refine tpi (nI_add _ _) ?_
                      refine va_iald hx hb hK hP 1 0 rfl rfl (vp_in_nI (by omega) (by omega)) dX4_copy_96 ?_
                      refine tpi (nf_at (by omega)) ?_
                      refine va_iast hx hb hK hP hD hS 1 0 rfl rfl (vp_in_nI (by omega) (by omega)) dX4_copy_97 (fun H locs hP hD hS => ?_)
                      rw [nf_up (by omega)] at hP hD
                      have hP : va_P (dC, dI) vwCl (mw cI a sz st us kp ga gl cs (va_up f (y + i) (f (x + i))) pl ln km ks kt ku kl kn cd wt) H := hP
                      have hD : va_D A (mw cI a sz st us kp ga gl cs (va_up f (y + i) (f (x + i))) pl ln km ks kt ku kl kn cd wt) := hD
                      refine lv_iinc (v := (nI (i + 1))) (lv' := [(4, .int (nI (i + 1))), (5, .int (nI i)), (0, .ref (a 0)), (1, .int (nI x)), (2, .int (nI y)), (3, .int (nI n))]) hx hb dX4_copy_98 hl (k := 1) rfl (nI_inc _) (by decide) rfl (fun ls hl => ?_)
                      refine lv_goto (tgt := 56) hx hb dX4_copy_101 (by decide) ?_
                      exact ih_56 (i + 1, va_up f (y + i) (f (x + i))) (⟨by omega, fun h => absurd h (by omega), fun h => by rw [hf2 h, cpy_up (n := n) h]⟩) (show n - (i + 1) < n - i by omega) H locs ls (hP) (hD) hS (lv_sub hl [0, 2, 3, 4, 5] rfl)
                    · have c_64 : ¬ y ≤ x := fun q => c_64 ((nI_leI (a := y) (b := x) (by omega) (by omega)).mpr q)
                      refine lv_iload_n hx hb dX4_copy_67 rfl (lv_at hl 4 rfl) ?_
                      refine lv_iconst (v := (nI 1)) hx hb dX4_copy_68 (by decide) ?_
                      refine lv_isub hx hb dX4_copy_69 ?_
                      refine tpi (pk_sub (by omega)) ?_
                      refine lv_iload hx hb dX4_copy_70 (lv_at hl 0 rfl) ?_
                      refine lv_isub hx hb dX4_copy_72 ?_
                      refine tpi (pk_sub (by omega)) ?_
                      refine lv_goto (tgt := 78) hx hb dX4_copy_73 (by decide) ?_
                      refine lv_istore (lv' := [(5, .int (nI (n - 1 - i))), (4, .int (nI i)), (0, .ref (a 0)), (1, .int (nI x)), (2, .int (nI y)), (3, .int (nI n))]) hx hb dX4_copy_78 hl (by decide) rfl (fun ls hl => ?_)
                      refine lv_aload_n hx hb dX4_copy_80 rfl (lv_at hl 2 rfl) ?_
                      refine va_get (D := (dC, dI)) (ci := 4) (v := .ref (a 1)) (C := RX4) (T := TX4) (N := 18) hx hb hts in_X4 hown hK hP 0 rfl rfl 0 (by decide) lk_1 (fun _ h9 => h9) rfl dX4_copy_81 ?_
                      refine lv_iload_n hx hb dX4_copy_84 rfl (lv_at hl 4 rfl) ?_
                      refine lv_iload hx hb dX4_copy_85 (lv_at hl 0 rfl) ?_
                      refine lv_iadd hx hb dX4_copy_87 ?_
                      refine tpi (nI_add _ _) ?_
                      refine lv_aload_n hx hb dX4_copy_88 rfl (lv_at hl 2 rfl) ?_
                      refine va_get (D := (dC, dI)) (ci := 4) (v := .ref (a 1)) (C := RX4) (T := TX4) (N := 18) hx hb hts in_X4 hown hK hP 0 rfl rfl 0 (by decide) lk_1 (fun _ h9 => h9) rfl dX4_copy_89 ?_
                      refine lv_iload_n hx hb dX4_copy_92 rfl (lv_at hl 3 rfl) ?_
                      refine lv_iload hx hb dX4_copy_93 (lv_at hl 0 rfl) ?_
                      refine lv_iadd hx hb dX4_copy_95 ?_
                      refine tpi (nI_add _ _) ?_
                      refine va_iald hx hb hK hP 1 0 rfl rfl (vp_in_nI (by omega) (by omega)) dX4_copy_96 ?_
                      refine tpi (nf_at (by omega)) ?_
                      refine va_iast hx hb hK hP hD hS 1 0 rfl rfl (vp_in_nI (by omega) (by omega)) dX4_copy_97 (fun H locs hP hD hS => ?_)
                      rw [nf_up (by omega)] at hP hD
                      have hP : va_P (dC, dI) vwCl (mw cI a sz st us kp ga gl cs (va_up f (y + (n - 1 - i)) (f (x + (n - 1 - i)))) pl ln km ks kt ku kl kn cd wt) H := hP
                      have hD : va_D A (mw cI a sz st us kp ga gl cs (va_up f (y + (n - 1 - i)) (f (x + (n - 1 - i)))) pl ln km ks kt ku kl kn cd wt) := hD
                      refine lv_iinc (v := (nI (i + 1))) (lv' := [(4, .int (nI (i + 1))), (5, .int (nI (n - 1 - i))), (0, .ref (a 0)), (1, .int (nI x)), (2, .int (nI y)), (3, .int (nI n))]) hx hb dX4_copy_98 hl (k := 1) rfl (nI_inc _) (by decide) rfl (fun ls hl => ?_)
                      refine lv_goto (tgt := 56) hx hb dX4_copy_101 (by decide) ?_
                      exact ih_56 (i + 1, va_up f (y + (n - 1 - i)) (f (x + (n - 1 - i)))) (⟨by omega, fun h => by rw [hf1 h, cpy_dn h (by omega)], fun h => absurd h (by omega)⟩) (show n - (i + 1) < n - i by omega) H locs ls (hP) (hD) hS (lv_sub hl [0, 2, 3, 4, 5] rfl)
                · have c_41 : ¬ n ≤ 0 := fun q => c_41 ((nZ_le (by omega)).mpr q)
                  refine lv_iload_n hx hb dX4_copy_44 rfl (lv_at hl 2 rfl) ?_
                  refine lv_bipush (v := (nI 64)) hx hb dX4_copy_45 (by decide) ?_
                  refine lv_icmp_ge (tgt := 53) hx hb dX4_copy_47 (by decide) (fun c_47 => ?_) (fun c_47 => ?_)
                  · have c_47 : 64 ≤ y := (nI_leI (a := 64) (b := y) (by omega) (by omega)).mp c_47
                    refine lv_iconst (v := (nI 0)) hx hb dX4_copy_53 (by decide) ?_
                    refine lv_istore (lv' := [(4, .int (nI 0)), (0, .ref (a 0)), (1, .int (nI x)), (2, .int (nI y)), (3, .int (nI n))]) hx hb dX4_copy_54 hl (by decide) rfl (fun ls hl => ?_)
                    refine lp_world (σ := Nat × (Nat → Nat)) (fun ⟨i, f⟩ => i ≤ n ∧ (x < y → f = va_cpy mem mem (x + (n - i)) (y + (n - i)) i) ∧ (¬ x < y → f = va_cpy mem mem x y i)) (fun ⟨i, f⟩ => n - i) (fun ⟨i, f⟩ => [(4, .int (nI i)), (0, .ref (a 0)), (1, .int (nI x)), (2, .int (nI y)), (3, .int (nI n))]) (fun ⟨i, f⟩ => mw cI a sz st us kp ga gl cs f pl ln km ks kt ku kl kn cd wt) ?_ ((0, mem)) (⟨Nat.zero_le _, fun _ => by rw [cpy_0], fun _ => by rw [cpy_0]⟩) (hP) (hD) hS (lv_sub hl [0, 1, 2, 3, 4] rfl)
                    intro ⟨i, f⟩ hI ih H locs ls hP hD hS hl
                    have hl : lv_has ls 6 [(4, .int (nI i)), (0, .ref (a 0)), (1, .int (nI x)), (2, .int (nI y)), (3, .int (nI n))] := hl
                    have hP : va_P (dC, dI) vwCl (mw cI a sz st us kp ga gl cs f pl ln km ks kt ku kl kn cd wt) H := hP
                    have hD : va_D A (mw cI a sz st us kp ga gl cs f pl ln km ks kt ku kl kn cd wt) := hD
                    have hI : i ≤ n ∧ (x < y → f = va_cpy mem mem (x + (n - i)) (y + (n - i)) i) ∧ (¬ x < y → f = va_cpy mem mem x y i) := hI
                    obtain ⟨hi, hf1, hf2⟩ := hI
                    have ih_56 := ih
                    refine lv_iload hx hb dX4_copy_56 (lv_at hl 0 rfl) ?_
                    refine lv_iload_n hx hb dX4_copy_58 rfl (lv_at hl 4 rfl) ?_
                    refine lv_icmp_ge (tgt := 104) hx hb dX4_copy_59 (by decide) (fun c_59 => ?_) (fun c_59 => ?_)
                    · have c_59 : n ≤ i := (nI_leI (a := n) (b := i) (by omega) (by omega)).mp c_59
                      refine lv_iconst (v := (nI 1)) hx hb dX4_copy_104 (by decide) ?_
                      have e_mem : f = cpM sz mem (nI x) (nI y) (nI n) := by rw [cpM_ok (by rw [cpR_ok n_x n_y n_n, if_neg (by omega), if_neg (by omega)]) n_x n_y n_n]; exact if h : x < y then by rw [hf1 h, show i = n by omega, Nat.sub_self, Nat.add_zero, Nat.add_zero] else by rw [hf2 h, show i = n by omega]
                      have hP : va_P (dC, dI) vwCl (mw cI a sz st us kp ga gl cs (cpM sz mem (nI x) (nI y) (nI n)) pl ln km ks kt ku kl kn cd wt) H := by rw [← e_mem]; exact hP
                      have hD : va_D A (mw cI a sz st us kp ga gl cs (cpM sz mem (nI x) (nI y) (nI n)) pl ln km ks kt ku kl kn cd wt) := by rw [← e_mem]; exact hD
                      exact W.iret (v := (nI 1)) hx hb hr (fun t ht hW => ⟨⟨(nI 1), (), rfl, (show (nI 1) = cpR sz (nI x) (nI y) (nI n) from by rw [cpR_ok n_x n_y n_n, if_neg (by omega), if_neg (by omega)]), by rw [ht]; exact hP, va_K.moved hW.alike hK, hD⟩, hS.F ht⟩) hS.2.2 dX4_copy_105
                    · have c_59 : ¬ n ≤ i := fun q => c_59 ((nI_leI (a := n) (b := i) (by omega) (by omega)).mpr q)
                      refine lv_iload_n hx hb dX4_copy_62 rfl (lv_at hl 2 rfl) ?_
                      refine lv_iload_n hx hb dX4_copy_63 rfl (lv_at hl 3 rfl) ?_
                      refine lv_icmp_ge (tgt := 76) hx hb dX4_copy_64 (by decide) (fun c_64 => ?_) (fun c_64 => ?_)
                      · have c_64 : y ≤ x := (nI_leI (a := y) (b := x) (by omega) (by omega)).mp c_64
                        refine lv_iload hx hb dX4_copy_76 (lv_at hl 0 rfl) ?_
                        refine lv_istore (lv' := [(5, .int (nI i)), (4, .int (nI i)), (0, .ref (a 0)), (1, .int (nI x)), (2, .int (nI y)), (3, .int (nI n))]) hx hb dX4_copy_78 hl (by decide) rfl (fun ls hl => ?_)
                        refine lv_aload_n hx hb dX4_copy_80 rfl (lv_at hl 2 rfl) ?_
                        refine va_get (D := (dC, dI)) (ci := 4) (v := .ref (a 1)) (C := RX4) (T := TX4) (N := 18) hx hb hts in_X4 hown hK hP 0 rfl rfl 0 (by decide) lk_1 (fun _ h9 => h9) rfl dX4_copy_81 ?_
                        refine lv_iload_n hx hb dX4_copy_84 rfl (lv_at hl 4 rfl) ?_
                        refine lv_iload hx hb dX4_copy_85 (lv_at hl 0 rfl) ?_
                        refine lv_iadd hx hb dX4_copy_87 ?_
                        refine tpi (nI_add _ _) ?_
                        refine lv_aload_n hx hb dX4_copy_88 rfl (lv_at hl 2 rfl) ?_
                        refine va_get (D := (dC, dI)) (ci := 4) (v := .ref (a 1)) (C := RX4) (T := TX4) (N := 18) hx hb hts in_X4 hown hK hP 0 rfl rfl 0 (by decide) lk_1 (fun _ h9 => h9) rfl dX4_copy_89 ?_
                        refine lv_iload_n hx hb dX4_copy_92 rfl (lv_at hl 3 rfl) ?_
                        refine lv_iload hx hb dX4_copy_93 (lv_at hl 0 rfl) ?_
                        refine lv_iadd hx hb dX4_copy_95 ?_
                        refine tpi (nI_add _ _) ?_
                        refine va_iald hx hb hK hP 1 0 rfl rfl (vp_in_nI (by omega) (by omega)) dX4_copy_96 ?_
                        refine tpi (nf_at (by omega)) ?_
                        refine va_iast hx hb hK hP hD hS 1 0 rfl rfl (vp_in_nI (by omega) (by omega)) dX4_copy_97 (fun H locs hP hD hS => ?_)
                        rw [nf_up (by omega)] at hP hD
                        have hP : va_P (dC, dI) vwCl (mw cI a sz st us kp ga gl cs (va_up f (y + i) (f (x + i))) pl ln km ks kt ku kl kn cd wt) H := hP
                        have hD : va_D A (mw cI a sz st us kp ga gl cs (va_up f (y + i) (f (x + i))) pl ln km ks kt ku kl kn cd wt) := hD
                        refine lv_iinc (v := (nI (i + 1))) (lv' := [(4, .int (nI (i + 1))), (5, .int (nI i)), (0, .ref (a 0)), (1, .int (nI x)), (2, .int (nI y)), (3, .int (nI n))]) hx hb dX4_copy_98 hl (k := 1) rfl (nI_inc _) (by decide) rfl (fun ls hl => ?_)
                        refine lv_goto (tgt := 56) hx hb dX4_copy_101 (by decide) ?_
                        exact ih_56 (i + 1, va_up f (y + i) (f (x + i))) (⟨by omega, fun h => absurd h (by omega), fun h => by rw [hf2 h, cpy_up (n := n) h]⟩) (show n - (i + 1) < n - i by omega) H locs ls (hP) (hD) hS (lv_sub hl [0, 2, 3, 4, 5] rfl)
                      · have c_64 : ¬ y ≤ x := fun q => c_64 ((nI_leI (a := y) (b := x) (by omega) (by omega)).mpr q)
                        refine lv_iload_n hx hb dX4_copy_67 rfl (lv_at hl 4 rfl) ?_
                        refine lv_iconst (v := (nI 1)) hx hb dX4_copy_68 (by decide) ?_
                        refine lv_isub hx hb dX4_copy_69 ?_
                        refine tpi (pk_sub (by omega)) ?_
                        refine lv_iload hx hb dX4_copy_70 (lv_at hl 0 rfl) ?_
                        refine lv_isub hx hb dX4_copy_72 ?_
                        refine tpi (pk_sub (by omega)) ?_
                        refine lv_goto (tgt := 78) hx hb dX4_copy_73 (by decide) ?_
                        refine lv_istore (lv' := [(5, .int (nI (n - 1 - i))), (4, .int (nI i)), (0, .ref (a 0)), (1, .int (nI x)), (2, .int (nI y)), (3, .int (nI n))]) hx hb dX4_copy_78 hl (by decide) rfl (fun ls hl => ?_)
                        refine lv_aload_n hx hb dX4_copy_80 rfl (lv_at hl 2 rfl) ?_
                        refine va_get (D := (dC, dI)) (ci := 4) (v := .ref (a 1)) (C := RX4) (T := TX4) (N := 18) hx hb hts in_X4 hown hK hP 0 rfl rfl 0 (by decide) lk_1 (fun _ h9 => h9) rfl dX4_copy_81 ?_
                        refine lv_iload_n hx hb dX4_copy_84 rfl (lv_at hl 4 rfl) ?_
                        refine lv_iload hx hb dX4_copy_85 (lv_at hl 0 rfl) ?_
                        refine lv_iadd hx hb dX4_copy_87 ?_
                        refine tpi (nI_add _ _) ?_
                        refine lv_aload_n hx hb dX4_copy_88 rfl (lv_at hl 2 rfl) ?_
                        refine va_get (D := (dC, dI)) (ci := 4) (v := .ref (a 1)) (C := RX4) (T := TX4) (N := 18) hx hb hts in_X4 hown hK hP 0 rfl rfl 0 (by decide) lk_1 (fun _ h9 => h9) rfl dX4_copy_89 ?_
                        refine lv_iload_n hx hb dX4_copy_92 rfl (lv_at hl 3 rfl) ?_
                        refine lv_iload hx hb dX4_copy_93 (lv_at hl 0 rfl) ?_
                        refine lv_iadd hx hb dX4_copy_95 ?_
                        refine tpi (nI_add _ _) ?_
                        refine va_iald hx hb hK hP 1 0 rfl rfl (vp_in_nI (by omega) (by omega)) dX4_copy_96 ?_
                        refine tpi (nf_at (by omega)) ?_
                        refine va_iast hx hb hK hP hD hS 1 0 rfl rfl (vp_in_nI (by omega) (by omega)) dX4_copy_97 (fun H locs hP hD hS => ?_)
                        rw [nf_up (by omega)] at hP hD
                        have hP : va_P (dC, dI) vwCl (mw cI a sz st us kp ga gl cs (va_up f (y + (n - 1 - i)) (f (x + (n - 1 - i)))) pl ln km ks kt ku kl kn cd wt) H := hP
                        have hD : va_D A (mw cI a sz st us kp ga gl cs (va_up f (y + (n - 1 - i)) (f (x + (n - 1 - i)))) pl ln km ks kt ku kl kn cd wt) := hD
                        refine lv_iinc (v := (nI (i + 1))) (lv' := [(4, .int (nI (i + 1))), (5, .int (nI (n - 1 - i))), (0, .ref (a 0)), (1, .int (nI x)), (2, .int (nI y)), (3, .int (nI n))]) hx hb dX4_copy_98 hl (k := 1) rfl (nI_inc _) (by decide) rfl (fun ls hl => ?_)
                        refine lv_goto (tgt := 56) hx hb dX4_copy_101 (by decide) ?_
                        exact ih_56 (i + 1, va_up f (y + (n - 1 - i)) (f (x + (n - 1 - i)))) (⟨by omega, fun h => by rw [hf1 h, cpy_dn h (by omega)], fun h => absurd h (by omega)⟩) (show n - (i + 1) < n - i by omega) H locs ls (hP) (hD) hS (lv_sub hl [0, 2, 3, 4, 5] rfl)
                  · have c_47 : ¬ 64 ≤ y := fun q => c_47 ((nI_leI (a := 64) (b := y) (by omega) (by omega)).mpr q)
                    refine lv_bipush (v := ((-13))) hx hb dX4_copy_50 (by decide) ?_
                    have e_mem : mem = cpM sz mem (nI x) (nI y) (nI n) := cpM_no (show _ = (-13) by rw [cpR_ok n_x n_y n_n, if_neg (by omega), if_pos (by omega)]) (by decide)
                    have hP : va_P (dC, dI) vwCl (mw cI a sz st us kp ga gl cs (cpM sz mem (nI x) (nI y) (nI n)) pl ln km ks kt ku kl kn cd wt) s.heap := by rw [← e_mem]; exact hP
                    have hD : va_D A (mw cI a sz st us kp ga gl cs (cpM sz mem (nI x) (nI y) (nI n)) pl ln km ks kt ku kl kn cd wt) := by rw [← e_mem]; exact hD
                    exact W.iret (v := ((-13))) hx hb hr (fun t ht hW => ⟨⟨((-13)), (), rfl, (show ((-13)) = cpR sz (nI x) (nI y) (nI n) from by rw [cpR_ok n_x n_y n_n, if_neg (by omega), if_pos (by omega)]), by rw [ht]; exact hP, va_K.moved hW.alike hK, hD⟩, hS.F ht⟩) hS.2.2 dX4_copy_52
              · exact absurd c_34 (by decide)
            · skip
              refine lv_if_ne (tgt := 40) hx hb dX4_copy_34 (by decide) (fun c_34 => ?_) (fun c_34 => ?_)
              · exact absurd c_34 (by decide)
              · have c_34 : 0 = 0 := (nZ_eq (by omega)).mp c_34
                refine lv_bipush (v := ((-12))) hx hb dX4_copy_37 (by decide) ?_
                have e_mem : mem = cpM sz mem (nI x) (nI y) (nI n) := cpM_no (show _ = (-12) by rw [cpR_ok n_x n_y n_n, if_pos (by omega)]) (by decide)
                have hP : va_P (dC, dI) vwCl (mw cI a sz st us kp ga gl cs (cpM sz mem (nI x) (nI y) (nI n)) pl ln km ks kt ku kl kn cd wt) s.heap := by rw [← e_mem]; exact hP
                have hD : va_D A (mw cI a sz st us kp ga gl cs (cpM sz mem (nI x) (nI y) (nI n)) pl ln km ks kt ku kl kn cd wt) := by rw [← e_mem]; exact hD
                exact W.iret (v := ((-12))) hx hb hr (fun t ht hW => ⟨⟨((-12)), (), rfl, (show ((-12)) = cpR sz (nI x) (nI y) (nI n) from by rw [cpR_ok n_x n_y n_n, if_pos (by omega)]), by rw [ht]; exact hP, va_K.moved hW.alike hK, hD⟩, hS.F ht⟩) hS.2.2 dX4_copy_39
        · skip
          refine lv_if_eq (tgt := 37) hx hb dX4_copy_23 (by decide) (fun c_23 => ?_) (fun c_23 => ?_)
          · have c_23 : 0 = 0 := (nZ_eq (by omega)).mp c_23
            refine lv_bipush (v := ((-12))) hx hb dX4_copy_37 (by decide) ?_
            have e_mem : mem = cpM sz mem (nI x) (nI y) (nI n) := cpM_no (show _ = (-12) by rw [cpR_ok n_x n_y n_n, if_pos (by omega)]) (by decide)
            have hP : va_P (dC, dI) vwCl (mw cI a sz st us kp ga gl cs (cpM sz mem (nI x) (nI y) (nI n)) pl ln km ks kt ku kl kn cd wt) s.heap := by rw [← e_mem]; exact hP
            have hD : va_D A (mw cI a sz st us kp ga gl cs (cpM sz mem (nI x) (nI y) (nI n)) pl ln km ks kt ku kl kn cd wt) := by rw [← e_mem]; exact hD
            exact W.iret (v := ((-12))) hx hb hr (fun t ht hW => ⟨⟨((-12)), (), rfl, (show ((-12)) = cpR sz (nI x) (nI y) (nI n) from by rw [cpR_ok n_x n_y n_n, if_pos (by omega)]), by rw [ht]; exact hP, va_K.moved hW.alike hK, hD⟩, hS.F ht⟩) hS.2.2 dX4_copy_39
          · exact absurd c_23 (by decide)
      · have c_9 : p3 < 0 := i0_nge.mp c_9
        refine lv_bipush (v := ((-11))) hx hb dX4_copy_12 (by decide) ?_
        have e_mem : mem = cpM sz mem (nI x) (nI y) p3 := cpM_no (cpR_w (by first | exact Or.inl c_1 | exact Or.inr (Or.inl c_5) | exact Or.inr (Or.inr c_9))) (by decide)
        have hP : va_P (dC, dI) vwCl (mw cI a sz st us kp ga gl cs (cpM sz mem (nI x) (nI y) p3) pl ln km ks kt ku kl kn cd wt) s.heap := by rw [← e_mem]; exact hP
        have hD : va_D A (mw cI a sz st us kp ga gl cs (cpM sz mem (nI x) (nI y) p3) pl ln km ks kt ku kl kn cd wt) := by rw [← e_mem]; exact hD
        exact W.iret (v := ((-11))) hx hb hr (fun t ht hW => ⟨⟨((-11)), (), rfl, (show ((-11)) = cpR sz (nI x) (nI y) p3 from (cpR_w (by first | exact Or.inl c_1 | exact Or.inr (Or.inl c_5) | exact Or.inr (Or.inr c_9))).symm), by rw [ht]; exact hP, va_K.moved hW.alike hK, hD⟩, hS.F ht⟩) hS.2.2 dX4_copy_14
end
section
set_option maxHeartbeats 4000000 in
set_option maxRecDepth 100000 in
theorem c_X4_resize (l : Launch) (dC : Nat → ClassId) (dI : Nat → Nat → Nat) (cI : ClassId) (a : Nat → Nat) (sz st us kp ga gl cs : Nat) (mem pl ln km ks kt ku kl kn cd wt : Nat → Nat) (zz : Nat) (p1 : Int32) (g3 : sz ≤ 8192) (g4 : us ≤ 64) : Met l yX4_resize wsX4_resize ({ frames := 1, cells := 0, slots := 0, locals := 22 }) (va_Pc [.ref (a 0), .int p1] (fun U => U.heap.size = zz ∧ va_P (dC, dI) vwCl (mw cI a sz st us kp ga gl cs mem pl ln km ks kt ku kl kn cd wt) U.heap ∧ va_K (dC, dI) vwCl [(cI, .int)] U ∧ va_D (fun _ => True) (mw cI a sz st us kp ga gl cs mem pl ln km ks kt ku kl kn cd wt))) (va_Qi (fun r _ => r = rzR sz us p1) (fun (_ : Unit) t => va_P (dC, dI) vwCl (mw cI a (rzZ sz us p1) st us kp ga gl cs (rzM sz us mem p1) pl ln km ks kt ku kl kn cd wt) t.heap ∧ va_K (dC, dI) vwCl [(cI, .int)] t ∧ va_D (va_A (mw cI a sz st us kp ga gl cs mem pl ln km ks kt ku kl kn cd wt) zz) (mw cI a (rzZ sz us p1) st us kp ga gl cs (rzM sz us mem p1) pl ln km ks kt ku kl kn cd wt)) (va_A (mw cI a sz st us kp ga gl cs mem pl ln km ks kt ku kl kn cd wt) zz)) 0 0 (va_A (mw cI a sz st us kp ga gl cs mem pl ln km ks kt ku kl kn cd wt) zz) := by
  refine Met.ofW (cc := cX4_resize) (maxL := 3) (ret := (some .int)) (by decide) rfl ?_
  intro p e s m args below meth c s₁ B hml hv
  obtain ⟨rfl, hsz, hP, hK, hD0⟩ := hv
  have hx := B.exec
  have hb := B.bytes
  have hr := B.returns
  have hts := atoms_spec (ws := wsX4_resize) B.pre
  have hown : s.vm.findClass RX4 = some m.cls := findClass_of_methodNamed B.named
  have hlocks := B.notSynchronized
  subst hsz
  have hD := hD0.self (sz := s.heap.size)
  generalize hAe : va_A (mw cI a sz st us kp ga gl cs mem pl ln km ks kt ku kl kn cd wt) s.heap.size = A at hD ⊢
  have hA : ∀ q : Nat, s.heap.size ≤ q → A q := fun q h => by rw [← hAe]; exact Or.inr h
  have hS : va_S A s.heap s.heap [] := va_S.rf
  have hP : va_P (dC, dI) vwCl (mw cI a sz st us kp ga gl cs mem pl ln km ks kt ku kl kn cd wt) s.heap := hP
  have in_X4 : ∀ w ∈ wsX40, w ∈ wsX4_resize := fun _ h => List.mem_cons_of_mem _ (List.mem_append_right _ h)
  have lk_1 := hts (.fieldLink RX4 71 "GlulxHeapModel" "used" "I") (List.mem_of_getElem? (i := 1) rfl)
  have lk_2 := hts (.fieldLink RX4 44 "GlulxHeapModel" "size" "I") (List.mem_of_getElem? (i := 2) rfl)
  have hl := lv_entry ([.ref (a 0), .int p1]) (n := 3) (Nat.le_of_ble_eq_true rfl)
  rw [lg_entry_eq]
  generalize (lg_sl ([.ref (a 0), .int p1]) ++ List.replicate (3 - (lg_sl ([.ref (a 0), .int p1])).length) Slot.unset).toArray = ls at hl ⊢
  have hl : lv_has ls 3 [(0, .ref (a 0)), (1, .int p1)] := hl
  rcases Classical.em (p1 < 0) with h0 | h0
  · refine lv_iload_n hx hb dX4_resize_0 rfl (lv_at hl 1 rfl) ?_
    refine vp_callSi (W.runS (As := [.int p1]) (rest := []) ⟨hx, hb, hml, hown, hts⟩ (c_X4_isSizeN l p1 h0) (va_cwS 1 hts gX4_resize_X4_isSize rfl rfl rfl (by decide +kernel) ⟨Nat.le_of_ble_eq_true rfl, Nat.le_of_ble_eq_true rfl⟩) ⟨fun a9 U g9 mk9 q9 => ⟨q9.1, trivial⟩, fun U hU hW => ⟨rfl, trivial⟩⟩ rfl rfl hl.1 rfl (lv_room (Nat.le_of_ble_eq_true rfl)) dX4_resize_1 ⟨Nat.zero_le _, Nat.zero_le _⟩) (fun r_1 hw => ?_)
    try dsimp only at hw
    subst hw
    refine lv_if_ne (tgt := 10) hx hb dX4_resize_4 (by decide) (fun c_4 => ?_) (fun c_4 => ?_)
    · exact absurd c_4 (by decide)
    · have c_4 : 0 = 0 := (nZ_eq (by omega)).mp c_4
      refine lv_bipush (v := ((-11))) hx hb dX4_resize_7 (by decide) ?_
      have e_sz : sz = rzZ sz us p1 := by unfold rzZ; rw [if_neg (fun q => q.1 (Or.inl h0))]
      have e_mem : mem = rzM sz us mem p1 := by unfold rzM; rw [if_neg (fun q => q.1 (Or.inl h0))]
      have hP : va_P (dC, dI) vwCl (mw cI a (rzZ sz us p1) st us kp ga gl cs (rzM sz us mem p1) pl ln km ks kt ku kl kn cd wt) s.heap := by rw [← e_sz, ← e_mem]; exact hP
      have hD : va_D A (mw cI a (rzZ sz us p1) st us kp ga gl cs (rzM sz us mem p1) pl ln km ks kt ku kl kn cd wt) := by rw [← e_sz, ← e_mem]; exact hD
      exact W.iret (v := ((-11))) hx hb hr (fun t ht hW => ⟨⟨((-11)), (), rfl, (show ((-11)) = rzR sz us p1 from (rzR_w (Or.inl h0)).symm), by rw [ht]; exact hP, va_K.moved hW.alike hK, hD⟩, hS.F ht⟩) hS.2.2 dX4_resize_9
  · obtain ⟨x, n_x, rfl⟩ := nI_of h0
    refine lv_iload_n hx hb dX4_resize_0 rfl (lv_at hl 1 rfl) ?_
    refine vp_callSi (W.runS (As := [.int (nI x)]) (rest := []) ⟨hx, hb, hml, hown, hts⟩ (c_X4_isSize l x (by omega)) (va_cwS 1 hts gX4_resize_X4_isSize rfl rfl rfl (by decide +kernel) ⟨Nat.le_of_ble_eq_true rfl, Nat.le_of_ble_eq_true rfl⟩) ⟨fun a9 U g9 mk9 q9 => ⟨q9.1, trivial⟩, fun U hU hW => ⟨rfl, trivial⟩⟩ rfl rfl hl.1 rfl (lv_room (Nat.le_of_ble_eq_true rfl)) dX4_resize_1 ⟨Nat.zero_le _, Nat.zero_le _⟩) (fun r_1 hw => ?_)
    try dsimp only at hw
    rcases hw with ⟨hc_1, rfl⟩ | ⟨hc_1, rfl⟩
    · skip
      refine lv_if_ne (tgt := 10) hx hb dX4_resize_4 (by decide) (fun c_4 => ?_) (fun c_4 => ?_)
      · have c_4 : ¬ 1 = 0 := fun q => c_4 ((nZ_eq (by omega)).mpr q)
        refine lv_aload_n hx hb dX4_resize_10 rfl (lv_at hl 0 rfl) ?_
        refine va_get (D := (dC, dI)) (ci := 4) (v := .int (nI us)) (C := RX4) (T := TX4) (N := 18) hx hb hts in_X4 hown hK hP 0 rfl rfl 3 (by decide) lk_1 (fun _ h9 => h9) rfl dX4_resize_11 ?_
        refine lv_if_le (tgt := 20) hx hb dX4_resize_14 (by decide) (fun c_14 => ?_) (fun c_14 => ?_)
        · have c_14 : us ≤ 0 := (nZ_le (by omega)).mp c_14
          refine lv_aload_n hx hb dX4_resize_20 rfl (lv_at hl 0 rfl) ?_
          refine va_get (D := (dC, dI)) (ci := 4) (v := .int (nI sz)) (C := RX4) (T := TX4) (N := 18) hx hb hts in_X4 hown hK hP 0 rfl rfl 1 (by decide) lk_2 (fun _ h9 => h9) rfl dX4_resize_21 ?_
          refine lv_istore_n (lv' := [(2, .int (nI sz)), (0, .ref (a 0)), (1, .int (nI x))]) hx hb dX4_resize_24 rfl hl (by decide) rfl (fun ls hl => ?_)
          refine lv_aload_n hx hb dX4_resize_25 rfl (lv_at hl 1 rfl) ?_
          refine lv_iload_n hx hb dX4_resize_26 rfl (lv_at hl 2 rfl) ?_
          have hFc := va_free (wc := mw cI a sz st us kp ga gl cs mem pl ln km ks kt ku kl kn cd wt) hD hS hA [0, 1, 2, 3, 4, 5, 6, 7, 8, 9, 10, 11] rfl
          refine va_callv (va_runV (As := [.int (nI x)]) (rest := []) ⟨hx, hb, hml, hown, hts⟩ (c_X4_grow l dC dI cI a sz st us kp ga gl cs mem pl ln km ks kt ku kl kn cd wt s.heap.size x (by omega) (by omega)) (cwV 1 hts gX4_resize_X4_grow rfl rfl rfl (by decide +kernel) ⟨Nat.le_of_ble_eq_true rfl, Nat.le_of_ble_eq_true rfl⟩) ⟨fun a9 U g9 mk9 q9 => by obtain ⟨q0, q1, qP, qK, qD⟩ := q9; exact ⟨q0, q1, qP, va_K.moved (u := U) (U := U.calling g9 mk9 a9) (Vm.Alike.refl U.vm) qK, qD⟩, va_recv hK hP (ci := 4) (q0 := 0) rfl rfl, fun U hU hW => ⟨rfl, by rw [hU], by rw [hU]; exact hP, va_K.moved hW.alike hK, hD.weaken (fun _ _ _ _ => trivial)⟩⟩ rfl rfl hl.1 rfl (lv_room (Nat.le_of_ble_eq_true rfl)) dX4_resize_27 ⟨Nat.zero_le _, Nat.zero_le _⟩) hS (fun q _ h => hFc q h) hFc (fun u t H1 locs ht hvm hw hB hz1 hk1 hS => ?_)
          obtain ⟨hP1, hK1, hD1⟩ := hB
          rw [ht] at hP1
          obtain ⟨hP, hD⟩ := va_join (wr := []) (w1 := mw cI a x st us kp ga gl cs (zr mem sz (x - sz)) pl ln km ks kt ku kl kn cd wt) hP hD [0, 1, 2, 3, 4, 5, 6, 7, 8, 9, 10, 11] [] rfl rfl (by decide) (by decide) hk1 hFc hP1 hD1
          generalize H1 = H at hP hS ⊢
          have hP : va_P (dC, dI) vwCl (mw cI a x st us kp ga gl cs (zr mem sz (x - sz)) pl ln km ks kt ku kl kn cd wt) H := hP
          have hD : va_D A (mw cI a x st us kp ga gl cs (zr mem sz (x - sz)) pl ln km ks kt ku kl kn cd wt) := hD
          refine lv_iload_n hx hb dX4_resize_30 rfl (lv_at hl 0 rfl) ?_
          have e_sz : x = rzZ sz us (nI x) := by unfold rzZ; rw [if_pos (rzO_ok n_x hc_1 (by omega)), show cl (nI x) = x from nI_clamp n_x]
          have e_mem : zr mem sz (x - sz) = rzM sz us mem (nI x) := by unfold rzM; rw [if_pos (rzO_ok n_x hc_1 (by omega)), show cl (nI x) = x from nI_clamp n_x]
          have hP : va_P (dC, dI) vwCl (mw cI a (rzZ sz us (nI x)) st us kp ga gl cs (rzM sz us mem (nI x)) pl ln km ks kt ku kl kn cd wt) H := by rw [← e_sz, ← e_mem]; exact hP
          have hD : va_D A (mw cI a (rzZ sz us (nI x)) st us kp ga gl cs (rzM sz us mem (nI x)) pl ln km ks kt ku kl kn cd wt) := by rw [← e_sz, ← e_mem]; exact hD
          exact W.iret (v := (nI sz)) hx hb hr (fun t ht hW => ⟨⟨(nI sz), (), rfl, (show (nI sz) = rzR sz us (nI x) from by unfold rzR; rw [if_neg (fun q => q.elim h0 (fun q => q (by rw [show cl (nI x) = x from nI_clamp n_x]; exact hc_1))), if_neg (by omega)]), by rw [ht]; exact hP, va_K.moved hW.alike hK, hD⟩, hS.F ht⟩) hS.2.2 dX4_resize_31
        · have c_14 : ¬ us ≤ 0 := fun q => c_14 ((nZ_le (by omega)).mpr q)
          refine lv_bipush (v := ((-14))) hx hb dX4_resize_17 (by decide) ?_
          have e_sz : sz = rzZ sz us (nI x) := by unfold rzZ; rw [if_neg (fun q => q.2 (by omega))]
          have e_mem : mem = rzM sz us mem (nI x) := by unfold rzM; rw [if_neg (fun q => q.2 (by omega))]
          have hP : va_P (dC, dI) vwCl (mw cI a (rzZ sz us (nI x)) st us kp ga gl cs (rzM sz us mem (nI x)) pl ln km ks kt ku kl kn cd wt) s.heap := by rw [← e_sz, ← e_mem]; exact hP
          have hD : va_D A (mw cI a (rzZ sz us (nI x)) st us kp ga gl cs (rzM sz us mem (nI x)) pl ln km ks kt ku kl kn cd wt) := by rw [← e_sz, ← e_mem]; exact hD
          exact W.iret (v := ((-14))) hx hb hr (fun t ht hW => ⟨⟨((-14)), (), rfl, (show ((-14)) = rzR sz us (nI x) from by unfold rzR; rw [if_neg (fun q => q.elim h0 (fun q => q (by rw [show cl (nI x) = x from nI_clamp n_x]; exact hc_1))), if_pos (by omega)]), by rw [ht]; exact hP, va_K.moved hW.alike hK, hD⟩, hS.F ht⟩) hS.2.2 dX4_resize_19
      · exact absurd c_4 (by decide)
    · skip
      refine lv_if_ne (tgt := 10) hx hb dX4_resize_4 (by decide) (fun c_4 => ?_) (fun c_4 => ?_)
      · exact absurd c_4 (by decide)
      · have c_4 : 0 = 0 := (nZ_eq (by omega)).mp c_4
        refine lv_bipush (v := ((-11))) hx hb dX4_resize_7 (by decide) ?_
        have e_sz : sz = rzZ sz us (nI x) := by unfold rzZ; rw [if_neg (fun q => q.1 (Or.inr (by rw [show cl (nI x) = x from nI_clamp n_x]; exact hc_1)))]
        have e_mem : mem = rzM sz us mem (nI x) := by unfold rzM; rw [if_neg (fun q => q.1 (Or.inr (by rw [show cl (nI x) = x from nI_clamp n_x]; exact hc_1)))]
        have hP : va_P (dC, dI) vwCl (mw cI a (rzZ sz us (nI x)) st us kp ga gl cs (rzM sz us mem (nI x)) pl ln km ks kt ku kl kn cd wt) s.heap := by rw [← e_sz, ← e_mem]; exact hP
        have hD : va_D A (mw cI a (rzZ sz us (nI x)) st us kp ga gl cs (rzM sz us mem (nI x)) pl ln km ks kt ku kl kn cd wt) := by rw [← e_sz, ← e_mem]; exact hD
        exact W.iret (v := ((-11))) hx hb hr (fun t ht hW => ⟨⟨((-11)), (), rfl, (show ((-11)) = rzR sz us (nI x) from (rzR_w (Or.inr (by rw [show cl (nI x) = x from nI_clamp n_x]; exact hc_1))).symm), by rw [ht]; exact hP, va_K.moved hW.alike hK, hD⟩, hS.F ht⟩) hS.2.2 dX4_resize_9
set_option maxHeartbeats 4000000 in
set_option maxRecDepth 100000 in
theorem c_X4_block (l : Launch) (dC : Nat → ClassId) (dI : Nat → Nat → Nat) (cI : ClassId) (a : Nat → Nat) (sz st us kp ga gl cs : Nat) (mem pl ln km ks kt ku kl kn cd wt : Nat → Nat) (p1 p2 : Int32) (gw : wfB sz st us pl ln) : Met l yX4_block wsX4_block ({ frames := 2, cells := 0, slots := 0, locals := 42 }) (va_Pc [.ref (a 0), .int p1, .int p2] (fun U => va_P (dC, dI) vwCl (mw cI a sz st us kp ga gl cs mem pl ln km ks kt ku kl kn cd wt) U.heap ∧ va_K (dC, dI) vwCl [(cI, .int)] U)) (vp_Si (fun r => r = bkR sz st us pl ln p1 p2)) 0 0 (fun _ => False) := by
  refine Met.ofW (cc := cX4_block) (maxL := 3) (ret := (some .int)) (by decide) rfl ?_
  intro p e s m args below meth c s₁ B hml hv
  obtain ⟨rfl, hP, hK⟩ := hv
  have hx := B.exec
  have hb := B.bytes
  have hr := B.returns
  have hts := atoms_spec (ws := wsX4_block) B.pre
  have hown : s.vm.findClass RX4 = some m.cls := findClass_of_methodNamed B.named
  have hlocks := B.notSynchronized
  have in_X4 : ∀ w ∈ wsX40, w ∈ wsX4_block := fun _ h => List.mem_cons_of_mem _ (List.mem_append_right _ h)
  have lk_1 := hts (.fieldLink RX4 71 "GlulxHeapModel" "used" "I") (List.mem_of_getElem? (i := 1) rfl)
  have lk_2 := hts (.fieldLink RX4 13 "GlulxHeapModel" "place" "[I") (List.mem_of_getElem? (i := 2) rfl)
  have lk_3 := hts (.fieldLink RX4 16 "GlulxHeapModel" "length" "[I") (List.mem_of_getElem? (i := 3) rfl)
  have hl := lv_entry ([.ref (a 0), .int p1, .int p2]) (n := 3) (Nat.le_of_ble_eq_true rfl)
  rw [lg_entry_eq]
  generalize (lg_sl ([.ref (a 0), .int p1, .int p2]) ++ List.replicate (3 - (lg_sl ([.ref (a 0), .int p1, .int p2])).length) Slot.unset).toArray = ls at hl ⊢
  have hl : lv_has ls 3 [(0, .ref (a 0)), (1, .int p1), (2, .int p2)] := hl
  obtain ⟨gw1, gw2, gw3, gw4, gw5, gw6⟩ := id gw
  refine lv_iload_n hx hb dX4_block_0 rfl (lv_at hl 1 rfl) ?_
  refine lv_if_lt (tgt := 21) hx hb dX4_block_1 (by decide) (fun c_1 => ?_) (fun c_1 => ?_)
  · refine lv_bipush (v := ((-11))) hx hb dX4_block_21 (by decide) ?_
    exact W.iret (v := ((-11))) hx hb hr (fun t ht hW => ⟨((-11)), rfl, (show ((-11)) = bkR sz st us pl ln p1 p2 from (bkR_w (by first | exact Or.inl c_1 | (right; left; rw [show cl (nI x) = x from nI_clamp n_x]; omega) | exact Or.inr (Or.inr (Or.inl c_13)) | (right; right; right; rw [show cl (nI y) = y from nI_clamp n_y]; omega))).symm), ht⟩) (fun _ h9 => absurd h9 List.not_mem_nil) dX4_block_23
  · obtain ⟨x, n_x, rfl⟩ := nI_of c_1
    refine lv_iload_n hx hb dX4_block_4 rfl (lv_at hl 1 rfl) ?_
    refine lv_aload_n hx hb dX4_block_5 rfl (lv_at hl 0 rfl) ?_
    refine va_get (D := (dC, dI)) (ci := 4) (v := .int (nI us)) (C := RX4) (T := TX4) (N := 18) hx hb hts in_X4 hown hK hP 0 rfl rfl 3 (by decide) lk_1 (fun _ h9 => h9) rfl dX4_block_6 ?_
    refine lv_icmp_ge (tgt := 21) hx hb dX4_block_9 (by decide) (fun c_9 => ?_) (fun c_9 => ?_)
    · have c_9 : us ≤ x := (nI_leI (a := us) (b := x) (by omega) (by omega)).mp c_9
      refine lv_bipush (v := ((-11))) hx hb dX4_block_21 (by decide) ?_
      exact W.iret (v := ((-11))) hx hb hr (fun t ht hW => ⟨((-11)), rfl, (show ((-11)) = bkR sz st us pl ln (nI x) p2 from (bkR_w (by first | exact Or.inl c_1 | (right; left; rw [show cl (nI x) = x from nI_clamp n_x]; omega) | exact Or.inr (Or.inr (Or.inl c_13)) | (right; right; right; rw [show cl (nI y) = y from nI_clamp n_y]; omega))).symm), ht⟩) (fun _ h9 => absurd h9 List.not_mem_nil) dX4_block_23
    · have c_9 : ¬ us ≤ x := fun q => c_9 ((nI_leI (a := us) (b := x) (by omega) (by omega)).mpr q)
      have w5 := gw5 x (by omega)
      refine lv_iload_n hx hb dX4_block_12 rfl (lv_at hl 2 rfl) ?_
      refine lv_if_lt (tgt := 21) hx hb dX4_block_13 (by decide) (fun c_13 => ?_) (fun c_13 => ?_)
      · refine lv_bipush (v := ((-11))) hx hb dX4_block_21 (by decide) ?_
        exact W.iret (v := ((-11))) hx hb hr (fun t ht hW => ⟨((-11)), rfl, (show ((-11)) = bkR sz st us pl ln (nI x) p2 from (bkR_w (by first | exact Or.inl c_1 | (right; left; rw [show cl (nI x) = x from nI_clamp n_x]; omega) | exact Or.inr (Or.inr (Or.inl c_13)) | (right; right; right; rw [show cl (nI y) = y from nI_clamp n_y]; omega))).symm), ht⟩) (fun _ h9 => absurd h9 List.not_mem_nil) dX4_block_23
      · obtain ⟨y, n_y, rfl⟩ := nI_of c_13
        refine lv_iload_n hx hb dX4_block_16 rfl (lv_at hl 2 rfl) ?_
        refine lv_iconst (v := (nI 2)) hx hb dX4_block_17 (by decide) ?_
        refine lv_icmp_le (tgt := 24) hx hb dX4_block_18 (by decide) (fun c_18 => ?_) (fun c_18 => ?_)
        · have c_18 : y ≤ 2 := (nI_leI (a := y) (b := 2) (by omega) (by omega)).mp c_18
          refine lv_iload_n hx hb dX4_block_24 rfl (lv_at hl 2 rfl) ?_
          refine lv_if_ne (tgt := 37) hx hb dX4_block_25 (by decide) (fun c_25 => ?_) (fun c_25 => ?_)
          · have c_25 : ¬ y = 0 := fun q => c_25 ((nZ_eq (by omega)).mpr q)
            refine lv_iload_n hx hb dX4_block_37 rfl (lv_at hl 2 rfl) ?_
            refine lv_iconst (v := (nI 1)) hx hb dX4_block_38 (by decide) ?_
            refine lv_icmp_ne (tgt := 51) hx hb dX4_block_39 (by decide) (fun c_39 => ?_) (fun c_39 => ?_)
            · have c_39 : ¬ y = 1 := fun q => c_39 ((nI_eq (a := y) (b := 1) (by omega) (by omega)).mpr q)
              refine lv_aload_n hx hb dX4_block_51 rfl (lv_at hl 0 rfl) ?_
              refine lv_iload_n hx hb dX4_block_52 rfl (lv_at hl 1 rfl) ?_
              refine lv_iconst (v := (nI 1)) hx hb dX4_block_53 (by decide) ?_
              refine lv_iadd hx hb dX4_block_54 ?_
              refine tpi (nI_add _ _) ?_
              refine vp_callSi (W.runV (As := [.int (nI (x + 1))]) (rest := []) ⟨hx, hb, hml, hown, hts⟩ (c_X4_gapEnd l dC dI cI a sz st us kp ga gl cs mem pl ln km ks kt ku kl kn cd wt (x + 1) (by omega) (by omega)) (cwV 1 hts gX4_block_X4_gapEnd rfl rfl rfl (by decide +kernel) ⟨Nat.le_of_ble_eq_true rfl, Nat.le_of_ble_eq_true rfl⟩) ⟨fun a9 U g9 mk9 q9 => by obtain ⟨q0, qP, qK⟩ := q9; exact ⟨q0, qP, va_K.moved (u := U) (U := U.calling g9 mk9 a9) (Vm.Alike.refl U.vm) qK⟩, va_recv hK hP (ci := 4) (q0 := 0) rfl rfl, fun U hU hW => ⟨rfl, by rw [hU]; exact hP, va_K.moved hW.alike hK⟩⟩ rfl rfl hl.1 rfl (lv_room (Nat.le_of_ble_eq_true rfl)) dX4_block_55 ⟨Nat.zero_le _, Nat.zero_le _⟩) (fun r_55 hw => ?_)
              try dsimp only at hw
              subst hw
              have we_55 := gEn_le gw (i := (x + 1)) (by omega)
              refine lv_aload_n hx hb dX4_block_58 rfl (lv_at hl 0 rfl) ?_
              refine lv_iload_n hx hb dX4_block_59 rfl (lv_at hl 1 rfl) ?_
              refine lv_iconst (v := (nI 1)) hx hb dX4_block_60 (by decide) ?_
              refine lv_iadd hx hb dX4_block_61 ?_
              refine tpi (nI_add _ _) ?_
              refine vp_callSi (W.runV (As := [.int (nI (x + 1))]) (rest := [.int (nI (gEn sz us pl (x + 1)))]) ⟨hx, hb, hml, hown, hts⟩ (c_X4_gapAt l dC dI cI a sz st us kp ga gl cs mem pl ln km ks kt ku kl kn cd wt (x + 1) (by omega)) (cwV 1 hts gX4_block_X4_gapAt rfl rfl rfl (by decide +kernel) ⟨Nat.le_of_ble_eq_true rfl, Nat.le_of_ble_eq_true rfl⟩) ⟨fun a9 U g9 mk9 q9 => by obtain ⟨q0, qP, qK⟩ := q9; exact ⟨q0, qP, va_K.moved (u := U) (U := U.calling g9 mk9 a9) (Vm.Alike.refl U.vm) qK⟩, va_recv hK hP (ci := 4) (q0 := 0) rfl rfl, fun U hU hW => ⟨rfl, by rw [hU]; exact hP, va_K.moved hW.alike hK⟩⟩ rfl rfl hl.1 rfl (lv_room (Nat.le_of_ble_eq_true rfl)) dX4_block_62 ⟨Nat.zero_le _, Nat.zero_le _⟩) (fun r_62 hw => ?_)
              try dsimp only at hw
              subst hw
              have wg_62 := gAt_le gw (i := (x + 1)) (by omega)
              have wo_62 := gap_le gw (i := (x + 1)) (by omega) (by omega)
              refine lv_isub hx hb dX4_block_65 ?_
              refine tpi (pk_sub (by omega)) ?_
              exact W.iret (v := (nI (gEn sz us pl (x + 1) - (gAt st pl ln (x + 1))))) hx hb hr (fun t ht hW => ⟨(nI (gEn sz us pl (x + 1) - (gAt st pl ln (x + 1)))), rfl, (show (nI (gEn sz us pl (x + 1) - (gAt st pl ln (x + 1)))) = bkR sz st us pl ln (nI x) (nI y) from by rw [bkR_ok n_x n_y (by omega) (by omega), if_neg (by omega), if_neg (by omega)]), ht⟩) (fun _ h9 => absurd h9 List.not_mem_nil) dX4_block_66
            · have c_39 : y = 1 := (nI_eq (a := y) (b := 1) (by omega) (by omega)).mp c_39
              refine lv_aload_n hx hb dX4_block_42 rfl (lv_at hl 0 rfl) ?_
              refine va_get (D := (dC, dI)) (ci := 4) (v := .ref (a 3)) (C := RX4) (T := TX4) (N := 18) hx hb hts in_X4 hown hK hP 0 rfl rfl 5 (by decide) lk_3 (fun _ h9 => h9) rfl dX4_block_43 ?_
              refine lv_iload_n hx hb dX4_block_46 rfl (lv_at hl 1 rfl) ?_
              refine va_iald hx hb hK hP 3 0 rfl rfl (vp_in_nI (by omega) (by omega)) dX4_block_47 ?_
              refine tpi (nf_at (by omega)) ?_
              refine lv_goto (tgt := 66) hx hb dX4_block_48 (by decide) ?_
              exact W.iret (v := (nI (ln x))) hx hb hr (fun t ht hW => ⟨(nI (ln x)), rfl, (show (nI (ln x)) = bkR sz st us pl ln (nI x) (nI y) from by rw [bkR_ok n_x n_y (by omega) (by omega), if_neg (by omega), if_pos (by omega)]), ht⟩) (fun _ h9 => absurd h9 List.not_mem_nil) dX4_block_66
          · have c_25 : y = 0 := (nZ_eq (by omega)).mp c_25
            refine lv_aload_n hx hb dX4_block_28 rfl (lv_at hl 0 rfl) ?_
            refine va_get (D := (dC, dI)) (ci := 4) (v := .ref (a 2)) (C := RX4) (T := TX4) (N := 18) hx hb hts in_X4 hown hK hP 0 rfl rfl 4 (by decide) lk_2 (fun _ h9 => h9) rfl dX4_block_29 ?_
            refine lv_iload_n hx hb dX4_block_32 rfl (lv_at hl 1 rfl) ?_
            refine va_iald hx hb hK hP 2 0 rfl rfl (vp_in_nI (by omega) (by omega)) dX4_block_33 ?_
            refine tpi (nf_at (by omega)) ?_
            refine lv_goto (tgt := 66) hx hb dX4_block_34 (by decide) ?_
            exact W.iret (v := (nI (pl x))) hx hb hr (fun t ht hW => ⟨(nI (pl x)), rfl, (show (nI (pl x)) = bkR sz st us pl ln (nI x) (nI y) from by rw [bkR_ok n_x n_y (by omega) (by omega), if_pos (by omega)]), ht⟩) (fun _ h9 => absurd h9 List.not_mem_nil) dX4_block_66
        · have c_18 : ¬ y ≤ 2 := fun q => c_18 ((nI_leI (a := y) (b := 2) (by omega) (by omega)).mpr q)
          refine lv_bipush (v := ((-11))) hx hb dX4_block_21 (by decide) ?_
          exact W.iret (v := ((-11))) hx hb hr (fun t ht hW => ⟨((-11)), rfl, (show ((-11)) = bkR sz st us pl ln (nI x) (nI y) from (bkR_w (by first | exact Or.inl c_1 | (right; left; rw [show cl (nI x) = x from nI_clamp n_x]; omega) | exact Or.inr (Or.inr (Or.inl c_13)) | (right; right; right; rw [show cl (nI y) = y from nI_clamp n_y]; omega))).symm), ht⟩) (fun _ h9 => absurd h9 List.not_mem_nil) dX4_block_23
end
section
set_option maxHeartbeats 4000000 in
set_option maxRecDepth 100000 in
theorem c_X4_free (l : Launch) (dC : Nat → ClassId) (dI : Nat → Nat → Nat) (cI : ClassId) (a : Nat → Nat) (sz st us kp ga gl cs : Nat) (mem pl ln km ks kt ku kl kn cd wt : Nat → Nat) (zz : Nat) (p1 : Int32) (gw : wfB sz st us pl ln) : Met l yX4_free wsX4_free ({ frames := 0, cells := 0, slots := 0, locals := 0 }) (va_Pc [.ref (a 0), .int p1] (fun U => U.heap.size = zz ∧ va_P (dC, dI) vwCl (mw cI a sz st us kp ga gl cs mem pl ln km ks kt ku kl kn cd wt) U.heap ∧ va_K (dC, dI) vwCl [(cI, .int)] U ∧ va_D (fun _ => True) (mw cI a sz st us kp ga gl cs mem pl ln km ks kt ku kl kn cd wt))) (va_Qi (fun r _ => r = frR us pl ln p1) (fun (_ : Unit) t => va_P (dC, dI) vwCl (mw cI a (frZ sz st us pl p1) (frS st us pl p1) (frU us pl p1) kp ga gl cs mem (frA us pl pl p1) (frA us pl ln p1) km ks kt ku kl kn cd wt) t.heap ∧ va_K (dC, dI) vwCl [(cI, .int)] t ∧ va_D (va_A (mw cI a sz st us kp ga gl cs mem pl ln km ks kt ku kl kn cd wt) zz) (mw cI a (frZ sz st us pl p1) (frS st us pl p1) (frU us pl p1) kp ga gl cs mem (frA us pl pl p1) (frA us pl ln p1) km ks kt ku kl kn cd wt)) (va_A (mw cI a sz st us kp ga gl cs mem pl ln km ks kt ku kl kn cd wt) zz)) 0 0 (va_A (mw cI a sz st us kp ga gl cs mem pl ln km ks kt ku kl kn cd wt) zz) := by
  refine Met.ofW (cc := cX4_free) (maxL := 5) (ret := (some .int)) (by decide) rfl ?_
  intro p e s m args below meth c s₁ B hml hv
  obtain ⟨rfl, hsz, hP, hK, hD0⟩ := hv
  have hx := B.exec
  have hb := B.bytes
  have hr := B.returns
  have hts := atoms_spec (ws := wsX4_free) B.pre
  have hown : s.vm.findClass RX4 = some m.cls := findClass_of_methodNamed B.named
  have hlocks := B.notSynchronized
  subst hsz
  have hD := hD0.self (sz := s.heap.size)
  generalize hAe : va_A (mw cI a sz st us kp ga gl cs mem pl ln km ks kt ku kl kn cd wt) s.heap.size = A at hD ⊢
  have hA : ∀ q : Nat, s.heap.size ≤ q → A q := fun q h => by rw [← hAe]; exact Or.inr h
  have hS : va_S A s.heap s.heap [] := va_S.rf
  have hP : va_P (dC, dI) vwCl (mw cI a sz st us kp ga gl cs mem pl ln km ks kt ku kl kn cd wt) s.heap := hP
  have in_X4 : ∀ w ∈ wsX40, w ∈ wsX4_free := fun _ h => List.mem_cons_of_mem _ (List.mem_append_right _ h)
  have lk_1 := hts (.fieldLink RX4 71 "GlulxHeapModel" "used" "I") (List.mem_of_getElem? (i := 1) rfl)
  have lk_2 := hts (.fieldLink RX4 13 "GlulxHeapModel" "place" "[I") (List.mem_of_getElem? (i := 2) rfl)
  have lk_3 := hts (.fieldLink RX4 16 "GlulxHeapModel" "length" "[I") (List.mem_of_getElem? (i := 3) rfl)
  have lk_4 := hts (.fieldLink RX4 78 "GlulxHeapModel" "start" "I") (List.mem_of_getElem? (i := 4) rfl)
  have lk_5 := hts (.fieldLink RX4 44 "GlulxHeapModel" "size" "I") (List.mem_of_getElem? (i := 5) rfl)
  have hl := lv_entry ([.ref (a 0), .int p1]) (n := 5) (Nat.le_of_ble_eq_true rfl)
  rw [lg_entry_eq]
  generalize (lg_sl ([.ref (a 0), .int p1]) ++ List.replicate (5 - (lg_sl ([.ref (a 0), .int p1])).length) Slot.unset).toArray = ls at hl ⊢
  have hl : lv_has ls 5 [(0, .ref (a 0)), (1, .int p1)] := hl
  obtain ⟨gw1, gw2, gw3, gw4, gw5, gw6⟩ := id gw
  refine lv_iconst (v := (nI 0)) hx hb dX4_free_0 (by decide) ?_
  refine lv_istore_n (lv' := [(2, .int (nI 0)), (0, .ref (a 0)), (1, .int p1)]) hx hb dX4_free_1 rfl hl (by decide) rfl (fun ls hl => ?_)
  refine lp_still (σ := Nat) (fun i => i ≤ us ∧ fnd us pl p1 = fndF us pl p1 (us - i) i) (fun i => us - i) (fun i => [(2, .int (nI i)), (0, .ref (a 0)), (1, .int p1)]) ?_ 0 (⟨Nat.zero_le _, rfl⟩) (lv_sub hl [0, 1, 2] rfl)
  intro i hI ih ls hl
  have hl : lv_has ls 5 [(2, .int (nI i)), (0, .ref (a 0)), (1, .int p1)] := hl
  have hI : i ≤ us ∧ fnd us pl p1 = fndF us pl p1 (us - i) i := hI
  obtain ⟨hi, hv⟩ := hI
  have ih_2 := ih
  refine lv_iload_n hx hb dX4_free_2 rfl (lv_at hl 0 rfl) ?_
  refine lv_aload_n hx hb dX4_free_3 rfl (lv_at hl 1 rfl) ?_
  refine va_get (D := (dC, dI)) (ci := 4) (v := .int (nI us)) (C := RX4) (T := TX4) (N := 18) hx hb hts in_X4 hown hK hP 0 rfl rfl 3 (by decide) lk_1 (fun _ h9 => h9) rfl dX4_free_4 ?_
  refine lv_icmp_ge (tgt := 26) hx hb dX4_free_7 (by decide) (fun c_7 => ?_) (fun c_7 => ?_)
  · have c_7 : us ≤ i := (nI_leI (a := us) (b := i) (by omega) (by omega)).mp c_7
    refine lv_iload_n hx hb dX4_free_26 rfl (lv_at hl 0 rfl) ?_
    refine lv_aload_n hx hb dX4_free_27 rfl (lv_at hl 1 rfl) ?_
    refine va_get (D := (dC, dI)) (ci := 4) (v := .int (nI us)) (C := RX4) (T := TX4) (N := 18) hx hb hts in_X4 hown hK hP 0 rfl rfl 3 (by decide) lk_1 (fun _ h9 => h9) rfl dX4_free_28 ?_
    refine lv_icmp_ne (tgt := 37) hx hb dX4_free_31 (by decide) (fun c_31 => ?_) (fun c_31 => ?_)
    · have c_31 : ¬ i = us := fun q => c_31 ((nI_eq (a := i) (b := us) (by omega) (by omega)).mpr q)
      omega
    · have c_31 : i = us := (nI_eq (a := i) (b := us) (by omega) (by omega)).mp c_31
      have e6 : fnd us pl p1 = us := by rw [hv, fndF_end (by omega)]
      refine lv_bipush (v := ((-11))) hx hb dX4_free_34 (by decide) ?_
      have e_sz : sz = frZ sz st us pl p1 := by unfold frZ; rw [if_pos e6]
      have e_st : st = frS st us pl p1 := by unfold frS; rw [if_pos e6]
      have e_us : us = frU us pl p1 := by unfold frU; rw [if_pos e6]
      have e_pl : pl = frA us pl pl p1 := by unfold frA; rw [if_pos e6]
      have e_ln : ln = frA us pl ln p1 := by unfold frA; rw [if_pos e6]
      have hP : va_P (dC, dI) vwCl (mw cI a (frZ sz st us pl p1) (frS st us pl p1) (frU us pl p1) kp ga gl cs mem (frA us pl pl p1) (frA us pl ln p1) km ks kt ku kl kn cd wt) s.heap := by rw [← e_sz, ← e_st, ← e_us, ← e_pl, ← e_ln]; exact hP
      have hD : va_D A (mw cI a (frZ sz st us pl p1) (frS st us pl p1) (frU us pl p1) kp ga gl cs mem (frA us pl pl p1) (frA us pl ln p1) km ks kt ku kl kn cd wt) := by rw [← e_sz, ← e_st, ← e_us, ← e_pl, ← e_ln]; exact hD
      exact W.iret (v := ((-11))) hx hb hr (fun t ht hW => ⟨⟨((-11)), (), rfl, (show ((-11)) = frR us pl ln p1 from by unfold frR; rw [if_pos e6]), by rw [ht]; exact hP, va_K.moved hW.alike hK, hD⟩, hS.F ht⟩) hS.2.2 dX4_free_36
  · have c_7 : ¬ us ≤ i := fun q => c_7 ((nI_leI (a := us) (b := i) (by omega) (by omega)).mpr q)
    have w5 := gw5 i (by omega)
    refine lv_aload_n hx hb dX4_free_10 rfl (lv_at hl 1 rfl) ?_
    refine va_get (D := (dC, dI)) (ci := 4) (v := .ref (a 2)) (C := RX4) (T := TX4) (N := 18) hx hb hts in_X4 hown hK hP 0 rfl rfl 4 (by decide) lk_2 (fun _ h9 => h9) rfl dX4_free_11 ?_
    refine lv_iload_n hx hb dX4_free_14 rfl (lv_at hl 0 rfl) ?_
    refine va_iald hx hb hK hP 2 0 rfl rfl (vp_in_nI (by omega) (by omega)) dX4_free_15 ?_
    refine tpi (nf_at (by omega)) ?_
    refine lv_iload_n hx hb dX4_free_16 rfl (lv_at hl 2 rfl) ?_
    refine lv_icmp_eq (tgt := 26) hx hb dX4_free_17 (by decide) (fun c_17 => ?_) (fun c_17 => ?_)
    · refine lv_iload_n hx hb dX4_free_26 rfl (lv_at hl 0 rfl) ?_
      refine lv_aload_n hx hb dX4_free_27 rfl (lv_at hl 1 rfl) ?_
      refine va_get (D := (dC, dI)) (ci := 4) (v := .int (nI us)) (C := RX4) (T := TX4) (N := 18) hx hb hts in_X4 hown hK hP 0 rfl rfl 3 (by decide) lk_1 (fun _ h9 => h9) rfl dX4_free_28 ?_
      refine lv_icmp_ne (tgt := 37) hx hb dX4_free_31 (by decide) (fun c_31 => ?_) (fun c_31 => ?_)
      · have c_31 : ¬ i = us := fun q => c_31 ((nI_eq (a := i) (b := us) (by omega) (by omega)).mpr q)
        have e5 : fnd us pl p1 = i := by rw [hv, fndF_step (by omega), if_pos c_17]
        refine lv_aload_n hx hb dX4_free_37 rfl (lv_at hl 1 rfl) ?_
        refine va_get (D := (dC, dI)) (ci := 4) (v := .ref (a 3)) (C := RX4) (T := TX4) (N := 18) hx hb hts in_X4 hown hK hP 0 rfl rfl 5 (by decide) lk_3 (fun _ h9 => h9) rfl dX4_free_38 ?_
        refine lv_iload_n hx hb dX4_free_41 rfl (lv_at hl 0 rfl) ?_
        refine va_iald hx hb hK hP 3 0 rfl rfl (vp_in_nI (by omega) (by omega)) dX4_free_42 ?_
        refine tpi (nf_at (by omega)) ?_
        refine lv_istore_n (lv' := [(3, .int (nI (ln i))), (2, .int (nI i)), (0, .ref (a 0)), (1, .int p1)]) hx hb dX4_free_43 rfl hl (by decide) rfl (fun ls hl => ?_)
        refine lv_aload_n hx hb dX4_free_44 rfl (lv_at hl 2 rfl) ?_
        refine lv_dup hx hb dX4_free_45 rfl ?_
        refine va_get (D := (dC, dI)) (ci := 4) (v := .int (nI us)) (C := RX4) (T := TX4) (N := 18) hx hb hts in_X4 hown hK hP 0 rfl rfl 3 (by decide) lk_1 (fun _ h9 => h9) rfl dX4_free_46 ?_
        refine lv_iconst (v := (nI 1)) hx hb dX4_free_49 (by decide) ?_
        refine lv_isub hx hb dX4_free_50 ?_
        refine tpi (pk_sub (by omega)) ?_
        refine va_put (D := (dC, dI)) (ci := 4) (v := .int (nI (us - 1))) (ty := .int) (C := RX4) (T := TX4) (N := 18) hx hb hts in_X4 tyX4 tyX4_ok nmX4 hown hK hP hD hS 0 rfl rfl 3 (by decide) lk_1 (fun _ h9 => h9) rfl (by decide +kernel) rfl rfl (Nat.le_of_ble_eq_true rfl) dX4_free_51 (fun H locs hP hD hS => ?_)
        have hP : va_P (dC, dI) vwCl (mw cI a sz st (us - 1) kp ga gl cs mem pl ln km ks kt ku kl kn cd wt) H := hP
        have hD : va_D A (mw cI a sz st (us - 1) kp ga gl cs mem pl ln km ks kt ku kl kn cd wt) := hD
        refine lv_iload_n hx hb dX4_free_54 rfl (lv_at hl 1 rfl) ?_
        refine lv_istore (lv' := [(4, .int (nI i)), (3, .int (nI (ln i))), (2, .int (nI i)), (0, .ref (a 0)), (1, .int p1)]) hx hb dX4_free_55 hl (by decide) rfl (fun ls hl => ?_)
        refine lp_world (σ := Nat × (Nat → Nat) × (Nat → Nat)) (fun ⟨k, f, g⟩ => i ≤ k ∧ k ≤ us - 1 ∧ f = dlf pl i k ∧ g = dlf ln i k) (fun ⟨k, f, g⟩ => us - k) (fun ⟨k, f, g⟩ => [(4, .int (nI k)), (3, .int (nI (ln i))), (2, .int (nI i)), (0, .ref (a 0)), (1, .int p1)]) (fun ⟨k, f, g⟩ => mw cI a sz st (us - 1) kp ga gl cs mem f g km ks kt ku kl kn cd wt) ?_ ((i, pl, ln)) (⟨Nat.le_refl _, by omega, by rw [dlf_0], by rw [dlf_0]⟩) (hP) (hD) hS (lv_sub hl [0, 1, 2, 3, 4] rfl)
        intro ⟨k, f, g⟩ hI ih H locs ls hP hD hS hl
        have hl : lv_has ls 5 [(4, .int (nI k)), (3, .int (nI (ln i))), (2, .int (nI i)), (0, .ref (a 0)), (1, .int p1)] := hl
        have hP : va_P (dC, dI) vwCl (mw cI a sz st (us - 1) kp ga gl cs mem f g km ks kt ku kl kn cd wt) H := hP
        have hD : va_D A (mw cI a sz st (us - 1) kp ga gl cs mem f g km ks kt ku kl kn cd wt) := hD
        have hI : i ≤ k ∧ k ≤ us - 1 ∧ f = dlf pl i k ∧ g = dlf ln i k := hI
        obtain ⟨hk1, hk2, hf, hg⟩ := hI
        have ih_57 := ih
        refine lv_iload hx hb dX4_free_57 (lv_at hl 0 rfl) ?_
        refine lv_aload_n hx hb dX4_free_59 rfl (lv_at hl 3 rfl) ?_
        refine va_get (D := (dC, dI)) (ci := 4) (v := .int (nI (us - 1))) (C := RX4) (T := TX4) (N := 18) hx hb hts in_X4 hown hK hP 0 rfl rfl 3 (by decide) lk_1 (fun _ h9 => h9) rfl dX4_free_60 ?_
        refine lv_icmp_ge (tgt := 104) hx hb dX4_free_63 (by decide) (fun c_63 => ?_) (fun c_63 => ?_)
        · have c_63 : us - 1 ≤ k := (nI_leI (a := us - 1) (b := k) (by omega) (by omega)).mp c_63
          refine lv_aload_n hx hb dX4_free_104 rfl (lv_at hl 3 rfl) ?_
          refine va_get (D := (dC, dI)) (ci := 4) (v := .int (nI (us - 1))) (C := RX4) (T := TX4) (N := 18) hx hb hts in_X4 hown hK hP 0 rfl rfl 3 (by decide) lk_1 (fun _ h9 => h9) rfl dX4_free_105 ?_
          refine lv_if_ne (tgt := 124) hx hb dX4_free_108 (by decide) (fun c_108 => ?_) (fun c_108 => ?_)
          · have c_108 : ¬ us - 1 = 0 := fun q => c_108 ((nZ_eq (by omega)).mpr q)
            refine lv_iload_n hx hb dX4_free_124 rfl (lv_at hl 1 rfl) ?_
            have e_sz : sz = frZ sz st us pl p1 := by unfold frZ; rw [if_neg (by rw [e5]; omega), if_neg (by omega)]
            have e_st : st = frS st us pl p1 := by unfold frS; rw [if_neg (by rw [e5]; omega), if_neg (by omega)]
            have e_us : us - 1 = frU us pl p1 := by unfold frU; rw [if_neg (by rw [e5]; omega)]
            have e_pl : f = frA us pl pl p1 := by unfold frA; rw [if_neg (by rw [e5]; omega), e5, hf, show k = us - 1 by omega]
            have e_ln : g = frA us pl ln p1 := by unfold frA; rw [if_neg (by rw [e5]; omega), e5, hg, show k = us - 1 by omega]
            have hP : va_P (dC, dI) vwCl (mw cI a (frZ sz st us pl p1) (frS st us pl p1) (frU us pl p1) kp ga gl cs mem (frA us pl pl p1) (frA us pl ln p1) km ks kt ku kl kn cd wt) H := by rw [← e_sz, ← e_st, ← e_us, ← e_pl, ← e_ln]; exact hP
            have hD : va_D A (mw cI a (frZ sz st us pl p1) (frS st us pl p1) (frU us pl p1) kp ga gl cs mem (frA us pl pl p1) (frA us pl ln p1) km ks kt ku kl kn cd wt) := by rw [← e_sz, ← e_st, ← e_us, ← e_pl, ← e_ln]; exact hD
            exact W.iret (v := (nI (ln i))) hx hb hr (fun t ht hW => ⟨⟨(nI (ln i)), (), rfl, (show (nI (ln i)) = frR us pl ln p1 from by unfold frR; rw [if_neg (by rw [e5]; omega), e5]), by rw [ht]; exact hP, va_K.moved hW.alike hK, hD⟩, hS.F ht⟩) hS.2.2 dX4_free_125
          · have c_108 : us - 1 = 0 := (nZ_eq (by omega)).mp c_108
            refine lv_aload_n hx hb dX4_free_111 rfl (lv_at hl 3 rfl) ?_
            refine lv_aload_n hx hb dX4_free_112 rfl (lv_at hl 3 rfl) ?_
            refine va_get (D := (dC, dI)) (ci := 4) (v := .int (nI st)) (C := RX4) (T := TX4) (N := 18) hx hb hts in_X4 hown hK hP 0 rfl rfl 2 (by decide) lk_4 (fun _ h9 => h9) rfl dX4_free_113 ?_
            refine va_put (D := (dC, dI)) (ci := 4) (v := .int (nI st)) (ty := .int) (C := RX4) (T := TX4) (N := 18) hx hb hts in_X4 tyX4 tyX4_ok nmX4 hown hK hP hD hS 0 rfl rfl 1 (by decide) lk_5 (fun _ h9 => h9) rfl (by decide +kernel) rfl rfl (Nat.le_of_ble_eq_true rfl) dX4_free_116 (fun H locs hP hD hS => ?_)
            have hP : va_P (dC, dI) vwCl (mw cI a st st (us - 1) kp ga gl cs mem f g km ks kt ku kl kn cd wt) H := hP
            have hD : va_D A (mw cI a st st (us - 1) kp ga gl cs mem f g km ks kt ku kl kn cd wt) := hD
            refine lv_aload_n hx hb dX4_free_119 rfl (lv_at hl 3 rfl) ?_
            refine lv_iconst (v := (nI 0)) hx hb dX4_free_120 (by decide) ?_
            refine va_put (D := (dC, dI)) (ci := 4) (v := .int (nI 0)) (ty := .int) (C := RX4) (T := TX4) (N := 18) hx hb hts in_X4 tyX4 tyX4_ok nmX4 hown hK hP hD hS 0 rfl rfl 2 (by decide) lk_4 (fun _ h9 => h9) rfl (by decide +kernel) rfl rfl (Nat.le_of_ble_eq_true rfl) dX4_free_121 (fun H locs hP hD hS => ?_)
            have hP : va_P (dC, dI) vwCl (mw cI a st 0 (us - 1) kp ga gl cs mem f g km ks kt ku kl kn cd wt) H := hP
            have hD : va_D A (mw cI a st 0 (us - 1) kp ga gl cs mem f g km ks kt ku kl kn cd wt) := hD
            refine lv_iload_n hx hb dX4_free_124 rfl (lv_at hl 1 rfl) ?_
            have e_sz : st = frZ sz st us pl p1 := by unfold frZ; rw [if_neg (by rw [e5]; omega), if_pos (by omega)]
            have e_st : 0 = frS st us pl p1 := by unfold frS; rw [if_neg (by rw [e5]; omega), if_pos (by omega)]
            have e_us : us - 1 = frU us pl p1 := by unfold frU; rw [if_neg (by rw [e5]; omega)]
            have e_pl : f = frA us pl pl p1 := by unfold frA; rw [if_neg (by rw [e5]; omega), e5, hf, show k = us - 1 by omega]
            have e_ln : g = frA us pl ln p1 := by unfold frA; rw [if_neg (by rw [e5]; omega), e5, hg, show k = us - 1 by omega]
            have hP : va_P (dC, dI) vwCl (mw cI a (frZ sz st us pl p1) (frS st us pl p1) (frU us pl p1) kp ga gl cs mem (frA us pl pl p1) (frA us pl ln p1) km ks kt ku kl kn cd wt) H := by rw [← e_sz, ← e_st, ← e_us, ← e_pl, ← e_ln]; exact hP
            have hD : va_D A (mw cI a (frZ sz st us pl p1) (frS st us pl p1) (frU us pl p1) kp ga gl cs mem (frA us pl pl p1) (frA us pl ln p1) km ks kt ku kl kn cd wt) := by rw [← e_sz, ← e_st, ← e_us, ← e_pl, ← e_ln]; exact hD
            exact W.iret (v := (nI (ln i))) hx hb hr (fun t ht hW => ⟨⟨(nI (ln i)), (), rfl, (show (nI (ln i)) = frR us pl ln p1 from by unfold frR; rw [if_neg (by rw [e5]; omega), e5]), by rw [ht]; exact hP, va_K.moved hW.alike hK, hD⟩, hS.F ht⟩) hS.2.2 dX4_free_125
        · have c_63 : ¬ us - 1 ≤ k := fun q => c_63 ((nI_leI (a := us - 1) (b := k) (by omega) (by omega)).mpr q)
          refine lv_aload_n hx hb dX4_free_66 rfl (lv_at hl 3 rfl) ?_
          refine va_get (D := (dC, dI)) (ci := 4) (v := .ref (a 2)) (C := RX4) (T := TX4) (N := 18) hx hb hts in_X4 hown hK hP 0 rfl rfl 4 (by decide) lk_2 (fun _ h9 => h9) rfl dX4_free_67 ?_
          refine lv_iload hx hb dX4_free_70 (lv_at hl 0 rfl) ?_
          refine lv_aload_n hx hb dX4_free_72 rfl (lv_at hl 3 rfl) ?_
          refine va_get (D := (dC, dI)) (ci := 4) (v := .ref (a 2)) (C := RX4) (T := TX4) (N := 18) hx hb hts in_X4 hown hK hP 0 rfl rfl 4 (by decide) lk_2 (fun _ h9 => h9) rfl dX4_free_73 ?_
          refine lv_iload hx hb dX4_free_76 (lv_at hl 0 rfl) ?_
          refine lv_iconst (v := (nI 1)) hx hb dX4_free_78 (by decide) ?_
          refine lv_iadd hx hb dX4_free_79 ?_
          refine tpi (nI_add _ _) ?_
          refine va_iald hx hb hK hP 2 0 rfl rfl (vp_in_nI (by omega) (by omega)) dX4_free_80 ?_
          refine tpi (nf_at (by omega)) ?_
          refine va_iast hx hb hK hP hD hS 2 0 rfl rfl (vp_in_nI (by omega) (by omega)) dX4_free_81 (fun H locs hP hD hS => ?_)
          rw [nf_up (by omega)] at hP hD
          have hP : va_P (dC, dI) vwCl (mw cI a sz st (us - 1) kp ga gl cs mem (va_up f k (f (k + 1))) g km ks kt ku kl kn cd wt) H := hP
          have hD : va_D A (mw cI a sz st (us - 1) kp ga gl cs mem (va_up f k (f (k + 1))) g km ks kt ku kl kn cd wt) := hD
          refine lv_aload_n hx hb dX4_free_82 rfl (lv_at hl 3 rfl) ?_
          refine va_get (D := (dC, dI)) (ci := 4) (v := .ref (a 3)) (C := RX4) (T := TX4) (N := 18) hx hb hts in_X4 hown hK hP 0 rfl rfl 5 (by decide) lk_3 (fun _ h9 => h9) rfl dX4_free_83 ?_
          refine lv_iload hx hb dX4_free_86 (lv_at hl 0 rfl) ?_
          refine lv_aload_n hx hb dX4_free_88 rfl (lv_at hl 3 rfl) ?_
          refine va_get (D := (dC, dI)) (ci := 4) (v := .ref (a 3)) (C := RX4) (T := TX4) (N := 18) hx hb hts in_X4 hown hK hP 0 rfl rfl 5 (by decide) lk_3 (fun _ h9 => h9) rfl dX4_free_89 ?_
          refine lv_iload hx hb dX4_free_92 (lv_at hl 0 rfl) ?_
          refine lv_iconst (v := (nI 1)) hx hb dX4_free_94 (by decide) ?_
          refine lv_iadd hx hb dX4_free_95 ?_
          refine tpi (nI_add _ _) ?_
          refine va_iald hx hb hK hP 3 0 rfl rfl (vp_in_nI (by omega) (by omega)) dX4_free_96 ?_
          refine tpi (nf_at (by omega)) ?_
          refine va_iast hx hb hK hP hD hS 3 0 rfl rfl (vp_in_nI (by omega) (by omega)) dX4_free_97 (fun H locs hP hD hS => ?_)
          rw [nf_up (by omega)] at hP hD
          have hP : va_P (dC, dI) vwCl (mw cI a sz st (us - 1) kp ga gl cs mem (va_up f k (f (k + 1))) (va_up g k (g (k + 1))) km ks kt ku kl kn cd wt) H := hP
          have hD : va_D A (mw cI a sz st (us - 1) kp ga gl cs mem (va_up f k (f (k + 1))) (va_up g k (g (k + 1))) km ks kt ku kl kn cd wt) := hD
          refine lv_iinc (v := (nI (k + 1))) (lv' := [(4, .int (nI (k + 1))), (3, .int (nI (ln i))), (2, .int (nI i)), (0, .ref (a 0)), (1, .int p1)]) hx hb dX4_free_98 hl (k := 0) rfl (nI_inc _) (by decide) rfl (fun ls hl => ?_)
          refine lv_goto (tgt := 57) hx hb dX4_free_101 (by decide) ?_
          exact ih_57 (k + 1, va_up f k (f (k + 1)), va_up g k (g (k + 1))) (⟨by omega, by omega, by rw [hf, dlf_s hk1], by rw [hg, dlf_s hk1]⟩) (show us - (k + 1) < us - k by omega) H locs ls (hP) (hD) hS (lv_sub hl [0, 1, 2, 3, 4] rfl)
      · have c_31 : i = us := (nI_eq (a := i) (b := us) (by omega) (by omega)).mp c_31
        omega
    · refine lv_iinc (v := (nI (i + 1))) (lv' := [(2, .int (nI (i + 1))), (0, .ref (a 0)), (1, .int p1)]) hx hb dX4_free_20 hl (k := 0) rfl (nI_inc _) (by decide) rfl (fun ls hl => ?_)
      refine lv_goto (tgt := 2) hx hb dX4_free_23 (by decide) ?_
      exact ih_2 (i + 1) (⟨by omega, by rw [hv, fndF_step (by omega), if_neg c_17]⟩) (show us - (i + 1) < us - i by omega) ls (lv_sub hl [0, 1, 2] rfl)
set_option maxHeartbeats 4000000 in
set_option maxRecDepth 100000 in
theorem c_X4_make (l : Launch) (dC : Nat → ClassId) (dI : Nat → Nat → Nat) (cI : ClassId) (a : Nat → Nat) (sz st us kp ga gl cs : Nat) (mem pl ln km ks kt ku kl kn cd wt : Nat → Nat) (zz : Nat) (p1 : Int32) (gw : wfB sz st us pl ln) : Met l yX4_make wsX4_make ({ frames := 2, cells := 0, slots := 0, locals := 42 }) (va_Pc [.ref (a 0), .int p1] (fun U => U.heap.size = zz ∧ va_P (dC, dI) vwCl (mw cI a sz st us kp ga gl cs mem pl ln km ks kt ku kl kn cd wt) U.heap ∧ va_K (dC, dI) vwCl [(cI, .int)] U ∧ va_D (fun _ => True) (mw cI a sz st us kp ga gl cs mem pl ln km ks kt ku kl kn cd wt))) (va_Qi (fun r _ => r = mkR sz st us pl ln p1) (fun (_ : Unit) t => va_P (dC, dI) vwCl (mw cI a (mkZ sz st us pl ln p1) (mkS sz st us pl ln p1) (mkU sz st us pl ln p1) kp ga gl cs (mkM sz st us pl ln mem p1) (mkQ sz st us pl ln p1) (mkL sz st us pl ln p1) km ks kt ku kl kn cd wt) t.heap ∧ va_K (dC, dI) vwCl [(cI, .int)] t ∧ va_D (va_A (mw cI a sz st us kp ga gl cs mem pl ln km ks kt ku kl kn cd wt) zz) (mw cI a (mkZ sz st us pl ln p1) (mkS sz st us pl ln p1) (mkU sz st us pl ln p1) kp ga gl cs (mkM sz st us pl ln mem p1) (mkQ sz st us pl ln p1) (mkL sz st us pl ln p1) km ks kt ku kl kn cd wt)) (va_A (mw cI a sz st us kp ga gl cs mem pl ln km ks kt ku kl kn cd wt) zz)) 0 0 (va_A (mw cI a sz st us kp ga gl cs mem pl ln km ks kt ku kl kn cd wt) zz) := by
  refine Met.ofW (cc := cX4_make) (maxL := 7) (ret := (some .int)) (by decide) rfl ?_
  intro p e s m args below meth c s₁ B hml hv
  obtain ⟨rfl, hsz, hP, hK, hD0⟩ := hv
  have hx := B.exec
  have hb := B.bytes
  have hr := B.returns
  have hts := atoms_spec (ws := wsX4_make) B.pre
  have hown : s.vm.findClass RX4 = some m.cls := findClass_of_methodNamed B.named
  have hlocks := B.notSynchronized
  subst hsz
  have hD := hD0.self (sz := s.heap.size)
  generalize hAe : va_A (mw cI a sz st us kp ga gl cs mem pl ln km ks kt ku kl kn cd wt) s.heap.size = A at hD ⊢
  have hA : ∀ q : Nat, s.heap.size ≤ q → A q := fun q h => by rw [← hAe]; exact Or.inr h
  have hS : va_S A s.heap s.heap [] := va_S.rf
  have hP : va_P (dC, dI) vwCl (mw cI a sz st us kp ga gl cs mem pl ln km ks kt ku kl kn cd wt) s.heap := hP
  have in_X4 : ∀ w ∈ wsX40, w ∈ wsX4_make := fun _ h => List.mem_cons_of_mem _ (List.mem_append_right _ h)
  have lk_1 := hts (.fieldLink RX4 71 "GlulxHeapModel" "used" "I") (List.mem_of_getElem? (i := 1) rfl)
  have lk_2 := hts (.fieldLink RX4 44 "GlulxHeapModel" "size" "I") (List.mem_of_getElem? (i := 2) rfl)
  have lk_3 := hts (.fieldLink RX4 78 "GlulxHeapModel" "start" "I") (List.mem_of_getElem? (i := 3) rfl)
  have lk_4 := hts (.constantLong RX4 90 (8192)) (List.mem_of_getElem? (i := 4) rfl)
  have lk_5 := hts (.constantLong RX4 92 (255)) (List.mem_of_getElem? (i := 5) rfl)
  have lk_6 := hts (.constantLong RX4 94 (256)) (List.mem_of_getElem? (i := 6) rfl)
  have lk_7 := hts (.fieldLink RX4 13 "GlulxHeapModel" "place" "[I") (List.mem_of_getElem? (i := 7) rfl)
  have lk_8 := hts (.fieldLink RX4 16 "GlulxHeapModel" "length" "[I") (List.mem_of_getElem? (i := 8) rfl)
  have hl := lv_entry ([.ref (a 0), .int p1]) (n := 7) (Nat.le_of_ble_eq_true rfl)
  rw [lg_entry_eq]
  generalize (lg_sl ([.ref (a 0), .int p1]) ++ List.replicate (7 - (lg_sl ([.ref (a 0), .int p1])).length) Slot.unset).toArray = ls at hl ⊢
  have hl : lv_has ls 7 [(0, .ref (a 0)), (1, .int p1)] := hl
  obtain ⟨gw1, gw2, gw3, gw4, gw5, gw6⟩ := id gw
  refine lv_iload_n hx hb dX4_make_0 rfl (lv_at hl 1 rfl) ?_
  refine lv_iconst (v := (nI 1)) hx hb dX4_make_1 (by decide) ?_
  refine lv_icmp_ge (tgt := 8) hx hb dX4_make_2 (by decide) (fun c_2 => ?_) (fun c_2 => ?_)
  · obtain ⟨n, n_n, rfl, n_1⟩ := ge1 c_2
    have hcl : cl (nI n) = n := nI_clamp n_n
    refine lv_aload_n hx hb dX4_make_8 rfl (lv_at hl 0 rfl) ?_
    refine va_get (D := (dC, dI)) (ci := 4) (v := .int (nI us)) (C := RX4) (T := TX4) (N := 18) hx hb hts in_X4 hown hK hP 0 rfl rfl 3 (by decide) lk_1 (fun _ h9 => h9) rfl dX4_make_9 ?_
    refine lv_bipush (v := (nI 64)) hx hb dX4_make_12 (by decide) ?_
    refine lv_icmp_ne (tgt := 19) hx hb dX4_make_14 (by decide) (fun c_14 => ?_) (fun c_14 => ?_)
    · have c_14 : ¬ us = 64 := fun q => c_14 ((nI_eq (a := us) (b := 64) (by omega) (by omega)).mpr q)
      refine lv_aload_n hx hb dX4_make_19 rfl (lv_at hl 0 rfl) ?_
      refine va_get (D := (dC, dI)) (ci := 4) (v := .int (nI us)) (C := RX4) (T := TX4) (N := 18) hx hb hts in_X4 hown hK hP 0 rfl rfl 3 (by decide) lk_1 (fun _ h9 => h9) rfl dX4_make_20 ?_
      refine lv_if_ne (tgt := 33) hx hb dX4_make_23 (by decide) (fun c_23 => ?_) (fun c_23 => ?_)
      · have c_23 : ¬ us = 0 := fun q => c_23 ((nZ_eq (by omega)).mpr q)
        refine lv_aload_n hx hb dX4_make_33 rfl (lv_at hl 0 rfl) ?_
        refine va_get (D := (dC, dI)) (ci := 4) (v := .int (nI st)) (C := RX4) (T := TX4) (N := 18) hx hb hts in_X4 hown hK hP 0 rfl rfl 2 (by decide) lk_3 (fun _ h9 => h9) rfl dX4_make_34 ?_
        refine lv_istore_n (lv' := [(2, .int (nI st)), (0, .ref (a 0)), (1, .int (nI n))]) hx hb dX4_make_37 rfl hl (by decide) rfl (fun ls hl => ?_)
        refine lv_iconst (v := (nI 0)) hx hb dX4_make_38 (by decide) ?_
        refine lv_istore_n (lv' := [(3, .int (nI 0)), (2, .int (nI st)), (0, .ref (a 0)), (1, .int (nI n))]) hx hb dX4_make_39 rfl hl (by decide) rfl (fun ls hl => ?_)
        refine lv_aload_n hx hb dX4_make_40 rfl (lv_at hl 2 rfl) ?_
        refine va_get (D := (dC, dI)) (ci := 4) (v := .int (nI us)) (C := RX4) (T := TX4) (N := 18) hx hb hts in_X4 hown hK hP 0 rfl rfl 3 (by decide) lk_1 (fun _ h9 => h9) rfl dX4_make_41 ?_
        refine lv_if_le (tgt := 99) hx hb dX4_make_44 (by decide) (fun c_44 => ?_) (fun c_44 => ?_)
        · have c_44 : us ≤ 0 := (nZ_le (by omega)).mp c_44
          omega
        · have c_44 : ¬ us ≤ 0 := fun q => c_44 ((nZ_le (by omega)).mpr q)
          refine lp_still (σ := Nat) (fun i => i ≤ us + 1 ∧ fit sz st us pl ln n = fitF sz st us pl ln n (us - i) i) (fun i => us + 2 - i) (fun i => [(3, .int (nI i)), (2, .int (nI st)), (0, .ref (a 0)), (1, .int (nI n))]) ?_ 0 (⟨by omega, rfl⟩) (lv_sub hl [0, 1, 2, 3] rfl)
          intro i hI ih ls hl
          have hl : lv_has ls 7 [(3, .int (nI i)), (2, .int (nI st)), (0, .ref (a 0)), (1, .int (nI n))] := hl
          have hI : i ≤ us + 1 ∧ fit sz st us pl ln n = fitF sz st us pl ln n (us - i) i := hI
          obtain ⟨hi, hv⟩ := hI
          have ih_47 := ih
          refine lv_iload_n hx hb dX4_make_47 rfl (lv_at hl 0 rfl) ?_
          refine lv_aload_n hx hb dX4_make_48 rfl (lv_at hl 2 rfl) ?_
          refine va_get (D := (dC, dI)) (ci := 4) (v := .int (nI us)) (C := RX4) (T := TX4) (N := 18) hx hb hts in_X4 hown hK hP 0 rfl rfl 3 (by decide) lk_1 (fun _ h9 => h9) rfl dX4_make_49 ?_
          refine lv_icmp_gt (tgt := 76) hx hb dX4_make_52 (by decide) (fun c_52 => ?_) (fun c_52 => ?_)
          · have c_52 : us < i := (nI_ltI (a := us) (b := i) (by omega) (by omega)).mp c_52
            refine lv_iload_n hx hb dX4_make_76 rfl (lv_at hl 0 rfl) ?_
            refine lv_aload_n hx hb dX4_make_77 rfl (lv_at hl 2 rfl) ?_
            refine va_get (D := (dC, dI)) (ci := 4) (v := .int (nI us)) (C := RX4) (T := TX4) (N := 18) hx hb hts in_X4 hown hK hP 0 rfl rfl 3 (by decide) lk_1 (fun _ h9 => h9) rfl dX4_make_78 ?_
            refine lv_icmp_le (tgt := 91) hx hb dX4_make_81 (by decide) (fun c_81 => ?_) (fun c_81 => ?_)
            · have c_81 : i ≤ us := (nI_leI (a := i) (b := us) (by omega) (by omega)).mp c_81
              omega
            · have c_81 : ¬ i ≤ us := fun q => c_81 ((nI_leI (a := i) (b := us) (by omega) (by omega)).mpr q)
              refine lv_aload_n hx hb dX4_make_84 rfl (lv_at hl 2 rfl) ?_
              refine va_get (D := (dC, dI)) (ci := 4) (v := .int (nI us)) (C := RX4) (T := TX4) (N := 18) hx hb hts in_X4 hown hK hP 0 rfl rfl 3 (by decide) lk_1 (fun _ h9 => h9) rfl dX4_make_85 ?_
              refine lv_goto (tgt := 92) hx hb dX4_make_88 (by decide) ?_
              refine lv_istore_n (lv' := [(3, .int (nI us)), (2, .int (nI st)), (0, .ref (a 0)), (1, .int (nI n))]) hx hb dX4_make_92 rfl hl (by decide) rfl (fun ls hl => ?_)
              refine lv_aload_n hx hb dX4_make_93 rfl (lv_at hl 2 rfl) ?_
              refine lv_iload_n hx hb dX4_make_94 rfl (lv_at hl 0 rfl) ?_
              refine vp_callSi (W.runV (As := [.int (nI us)]) (rest := []) ⟨hx, hb, hml, hown, hts⟩ (c_X4_gapAt l dC dI cI a sz st us kp ga gl cs mem pl ln km ks kt ku kl kn cd wt us (by omega)) (cwV 1 hts gX4_make_X4_gapAt rfl rfl rfl (by decide +kernel) ⟨Nat.le_of_ble_eq_true rfl, Nat.le_of_ble_eq_true rfl⟩) ⟨fun a9 U g9 mk9 q9 => by obtain ⟨q0, qP, qK⟩ := q9; exact ⟨q0, qP, va_K.moved (u := U) (U := U.calling g9 mk9 a9) (Vm.Alike.refl U.vm) qK⟩, va_recv hK hP (ci := 4) (q0 := 0) rfl rfl, fun U hU hW => ⟨rfl, by rw [hU]; exact hP, va_K.moved hW.alike hK⟩⟩ rfl rfl hl.1 rfl (lv_room (Nat.le_of_ble_eq_true rfl)) dX4_make_95 ⟨Nat.zero_le _, Nat.zero_le _⟩) (fun r_95 hw => ?_)
              try dsimp only at hw
              subst hw
              have wg_95 := gAt_le gw (i := us) (by omega)
              have wo_95 := gap_le gw (i := us) (by omega) (by omega)
              refine lv_istore_n (lv' := [(2, .int (nI (gAt st pl ln us))), (3, .int (nI us)), (0, .ref (a 0)), (1, .int (nI n))]) hx hb dX4_make_98 rfl hl (by decide) rfl (fun ls hl => ?_)
              have hfit : fit sz st us pl ln n = us := by rw [hv, fitF_end (by omega)]
              have hmk : mkP sz st us pl ln n = gAt st pl ln us := by unfold mkP; rw [if_neg (by omega), hfit]
              have wg := gAt_le gw (i := us) (by omega)
              have hi3 : us ≤ us := by omega
              have hb2 : gAt st pl ln us ≤ sz := by omega
              refine lv_iload_n hx hb dX4_make_99 rfl (lv_at hl 0 rfl) ?_
              refine lv_i2l (v := lN (gAt st pl ln us)) hx hb dX4_make_100 (nI_l (by omega)) ?_
              refine lv_iload_n hx hb dX4_make_101 rfl (lv_at hl 3 rfl) ?_
              refine lv_i2l (v := lN n) hx hb dX4_make_102 (nI_l (by omega)) ?_
              refine lv_ladd hx hb dX4_make_103 ?_
              refine tpl (lN_add _ _) ?_
              refine lv_lstore (lv' := [(4, .long (lN (gAt st pl ln us + n))), (2, .int (nI (gAt st pl ln us))), (3, .int (nI us)), (0, .ref (a 0)), (1, .int (nI n))]) hx hb dX4_make_104 hl (by decide) rfl (fun ls hl => ?_)
              refine lv_lload hx hb dX4_make_106 (lv_at hl 0 rfl) ?_
              refine lv_ldc2 (own := RX4) (v := (8192)) hx hb hown lk_4 dX4_make_108 ?_
              refine tpl (show (8192 : Int64) = lN 8192 from rfl) ?_
              refine W.lcmp hx hb dX4_make_111 ?_
              refine lv_if_le (tgt := 117) hx hb dX4_make_112 (by decide) (fun c_112 => ?_) (fun c_112 => ?_)
              · have c_112 : gAt st pl ln us + n ≤ 8192 := (pk_lLE (a := gAt st pl ln us + n) (b := 8192) (by omega) (by omega)).mp ((lg_cmp_le _ _).mp c_112)
                have hO : mkO sz st us pl ln (nI n) := ⟨fun q => absurd ((nI_ltI n_n (by omega)).mp q) (by omega), by omega, by rw [hcl, hmk]; omega⟩
                refine lv_aload_n hx hb dX4_make_117 rfl (lv_at hl 3 rfl) ?_
                refine va_get (D := (dC, dI)) (ci := 4) (v := .int (nI us)) (C := RX4) (T := TX4) (N := 18) hx hb hts in_X4 hown hK hP 0 rfl rfl 3 (by decide) lk_1 (fun _ h9 => h9) rfl dX4_make_118 ?_
                refine lv_if_ne (tgt := 132) hx hb dX4_make_121 (by decide) (fun c_121 => ?_) (fun c_121 => ?_)
                · have c_121 : ¬ us = 0 := fun q => c_121 ((nZ_eq (by omega)).mpr q)
                  refine lv_iload_n hx hb dX4_make_132 rfl (lv_at hl 2 rfl) ?_
                  refine lv_aload_n hx hb dX4_make_133 rfl (lv_at hl 3 rfl) ?_
                  refine va_get (D := (dC, dI)) (ci := 4) (v := .int (nI us)) (C := RX4) (T := TX4) (N := 18) hx hb hts in_X4 hown hK hP 0 rfl rfl 3 (by decide) lk_1 (fun _ h9 => h9) rfl dX4_make_134 ?_
                  refine lv_icmp_ne (tgt := 170) hx hb dX4_make_137 (by decide) (fun c_137 => ?_) (fun c_137 => ?_)
                  · have c_137 : ¬ us = us := fun q => c_137 ((nI_eq (a := us) (b := us) (by omega) (by omega)).mpr q)
                    have hgp := fit_gap (sz := sz) (st := st) (us := us) (pl := pl) (ln := ln) (n := n) (by rw [hfit]; omega)
                    rw [hfit] at hgp
                    have wen := gEn_le gw (i := us) (by omega)
                    have hG : sz = mkG sz (gAt st pl ln us + n) := by unfold mkG; rw [if_neg (by omega)]
                    refine lv_aload_n hx hb dX4_make_170 rfl (lv_at hl 3 rfl) ?_
                    refine va_get (D := (dC, dI)) (ci := 4) (v := .int (nI us)) (C := RX4) (T := TX4) (N := 18) hx hb hts in_X4 hown hK hP 0 rfl rfl 3 (by decide) lk_1 (fun _ h9 => h9) rfl dX4_make_171 ?_
                    refine lv_istore (lv' := [(6, .int (nI us)), (4, .long (lN (gAt st pl ln us + n))), (2, .int (nI (gAt st pl ln us))), (3, .int (nI us)), (0, .ref (a 0)), (1, .int (nI n))]) hx hb dX4_make_174 hl (by decide) rfl (fun ls hl => ?_)
                    refine lp_world (σ := Nat × (Nat → Nat) × (Nat → Nat)) (fun ⟨k, f, g⟩ => us ≤ k ∧ k ≤ us ∧ f = shf pl k us ∧ g = shf ln k us) (fun ⟨k, f, g⟩ => k) (fun ⟨k, f, g⟩ => [(6, .int (nI k)), (4, .long (lN (gAt st pl ln us + n))), (2, .int (nI (gAt st pl ln us))), (3, .int (nI us)), (0, .ref (a 0)), (1, .int (nI n))]) (fun ⟨k, f, g⟩ => mw cI a sz st us kp ga gl cs mem f g km ks kt ku kl kn cd wt) ?_ ((us, pl, ln)) (⟨by omega, Nat.le_refl _, by rw [shf_0], by rw [shf_0]⟩) (hP) (hD) hS (lv_sub hl [0, 1, 2, 3, 4, 5] rfl)
                    intro ⟨k, f, g⟩ hI ih H locs ls hP hD hS hl
                    have hl : lv_has ls 7 [(6, .int (nI k)), (4, .long (lN (gAt st pl ln us + n))), (2, .int (nI (gAt st pl ln us))), (3, .int (nI us)), (0, .ref (a 0)), (1, .int (nI n))] := hl
                    have hP : va_P (dC, dI) vwCl (mw cI a sz st us kp ga gl cs mem f g km ks kt ku kl kn cd wt) H := hP
                    have hD : va_D A (mw cI a sz st us kp ga gl cs mem f g km ks kt ku kl kn cd wt) := hD
                    have hI : us ≤ k ∧ k ≤ us ∧ f = shf pl k us ∧ g = shf ln k us := hI
                    obtain ⟨hk1, hk2, hf, hg⟩ := hI
                    have ih_176 := ih
                    refine lv_iload hx hb dX4_make_176 (lv_at hl 0 rfl) ?_
                    refine lv_iload_n hx hb dX4_make_178 rfl (lv_at hl 3 rfl) ?_
                    refine lv_icmp_le (tgt := 220) hx hb dX4_make_179 (by decide) (fun c_179 => ?_) (fun c_179 => ?_)
                    · have c_179 : k ≤ us := (nI_leI (a := k) (b := us) (by omega) (by omega)).mp c_179
                      refine lv_aload_n hx hb dX4_make_220 rfl (lv_at hl 4 rfl) ?_
                      refine va_get (D := (dC, dI)) (ci := 4) (v := .ref (a 2)) (C := RX4) (T := TX4) (N := 18) hx hb hts in_X4 hown hK hP 0 rfl rfl 4 (by decide) lk_7 (fun _ h9 => h9) rfl dX4_make_221 ?_
                      refine lv_iload_n hx hb dX4_make_224 rfl (lv_at hl 3 rfl) ?_
                      refine lv_iload_n hx hb dX4_make_225 rfl (lv_at hl 2 rfl) ?_
                      refine va_iast hx hb hK hP hD hS 2 0 rfl rfl (vp_in_nI (by omega) (by omega)) dX4_make_226 (fun H locs hP hD hS => ?_)
                      rw [nf_up (by omega)] at hP hD
                      have hP : va_P (dC, dI) vwCl (mw cI a sz st us kp ga gl cs mem (va_up f us (gAt st pl ln us)) g km ks kt ku kl kn cd wt) H := hP
                      have hD : va_D A (mw cI a sz st us kp ga gl cs mem (va_up f us (gAt st pl ln us)) g km ks kt ku kl kn cd wt) := hD
                      refine lv_aload_n hx hb dX4_make_227 rfl (lv_at hl 4 rfl) ?_
                      refine va_get (D := (dC, dI)) (ci := 4) (v := .ref (a 3)) (C := RX4) (T := TX4) (N := 18) hx hb hts in_X4 hown hK hP 0 rfl rfl 5 (by decide) lk_8 (fun _ h9 => h9) rfl dX4_make_228 ?_
                      refine lv_iload_n hx hb dX4_make_231 rfl (lv_at hl 3 rfl) ?_
                      refine lv_iload_n hx hb dX4_make_232 rfl (lv_at hl 5 rfl) ?_
                      refine va_iast hx hb hK hP hD hS 3 0 rfl rfl (vp_in_nI (by omega) (by omega)) dX4_make_233 (fun H locs hP hD hS => ?_)
                      rw [nf_up (by omega)] at hP hD
                      have hP : va_P (dC, dI) vwCl (mw cI a sz st us kp ga gl cs mem (va_up f us (gAt st pl ln us)) (va_up g us n) km ks kt ku kl kn cd wt) H := hP
                      have hD : va_D A (mw cI a sz st us kp ga gl cs mem (va_up f us (gAt st pl ln us)) (va_up g us n) km ks kt ku kl kn cd wt) := hD
                      refine lv_aload_n hx hb dX4_make_234 rfl (lv_at hl 4 rfl) ?_
                      refine lv_dup hx hb dX4_make_235 rfl ?_
                      refine va_get (D := (dC, dI)) (ci := 4) (v := .int (nI us)) (C := RX4) (T := TX4) (N := 18) hx hb hts in_X4 hown hK hP 0 rfl rfl 3 (by decide) lk_1 (fun _ h9 => h9) rfl dX4_make_236 ?_
                      refine lv_iconst (v := (nI 1)) hx hb dX4_make_239 (by decide) ?_
                      refine lv_iadd hx hb dX4_make_240 ?_
                      refine tpi (nI_add _ _) ?_
                      refine va_put (D := (dC, dI)) (ci := 4) (v := .int (nI (us + 1))) (ty := .int) (C := RX4) (T := TX4) (N := 18) hx hb hts in_X4 tyX4 tyX4_ok nmX4 hown hK hP hD hS 0 rfl rfl 3 (by decide) lk_1 (fun _ h9 => h9) rfl (by decide +kernel) rfl rfl (Nat.le_of_ble_eq_true rfl) dX4_make_241 (fun H locs hP hD hS => ?_)
                      have hP : va_P (dC, dI) vwCl (mw cI a sz st (us + 1) kp ga gl cs mem (va_up f us (gAt st pl ln us)) (va_up g us n) km ks kt ku kl kn cd wt) H := hP
                      have hD : va_D A (mw cI a sz st (us + 1) kp ga gl cs mem (va_up f us (gAt st pl ln us)) (va_up g us n) km ks kt ku kl kn cd wt) := hD
                      refine lv_iload_n hx hb dX4_make_244 rfl (lv_at hl 2 rfl) ?_
                      have e_sz : sz = mkZ sz st us pl ln (nI n) := by unfold mkZ; rw [if_pos hO, hcl, hmk, ← hG]
                      have e_st : st = mkS sz st us pl ln (nI n) := by unfold mkS; rw [if_neg (fun q => absurd q.2 (by omega))]
                      have e_us : us + 1 = mkU sz st us pl ln (nI n) := by unfold mkU; rw [if_pos hO]
                      have e_mem : mem = mkM sz st us pl ln mem (nI n) := by unfold mkM; rw [if_pos hO, hcl, hmk, ← hG, Nat.sub_self, zr_0]
                      have e_pl : va_up f us (gAt st pl ln us) = mkQ sz st us pl ln (nI n) := by unfold mkQ ins; rw [if_pos hO, hcl, hmk, hfit, hf, show k = us by omega]
                      have e_ln : va_up g us n = mkL sz st us pl ln (nI n) := by unfold mkL ins; rw [if_pos hO, hcl, hfit, hg, show k = us by omega]
                      have hP : va_P (dC, dI) vwCl (mw cI a (mkZ sz st us pl ln (nI n)) (mkS sz st us pl ln (nI n)) (mkU sz st us pl ln (nI n)) kp ga gl cs (mkM sz st us pl ln mem (nI n)) (mkQ sz st us pl ln (nI n)) (mkL sz st us pl ln (nI n)) km ks kt ku kl kn cd wt) H := by rw [← e_sz, ← e_st, ← e_us, ← e_mem, ← e_pl, ← e_ln]; exact hP
                      have hD : va_D A (mw cI a (mkZ sz st us pl ln (nI n)) (mkS sz st us pl ln (nI n)) (mkU sz st us pl ln (nI n)) kp ga gl cs (mkM sz st us pl ln mem (nI n)) (mkQ sz st us pl ln (nI n)) (mkL sz st us pl ln (nI n)) km ks kt ku kl kn cd wt) := by rw [← e_sz, ← e_st, ← e_us, ← e_mem, ← e_pl, ← e_ln]; exact hD
                      exact W.iret (v := (nI (gAt st pl ln us))) hx hb hr (fun t ht hW => ⟨⟨(nI (gAt st pl ln us)), (), rfl, (show (nI (gAt st pl ln us)) = mkR sz st us pl ln (nI n) from by unfold mkR; rw [if_neg (fun q => absurd ((nI_ltI n_n (by omega)).mp q) (by omega)), if_neg (by omega), hcl, if_neg (by rw [hmk]; omega), hmk]), by rw [ht]; exact hP, va_K.moved hW.alike hK, hD⟩, hS.F ht⟩) hS.2.2 dX4_make_245
                    · have c_179 : ¬ k ≤ us := fun q => c_179 ((nI_leI (a := k) (b := us) (by omega) (by omega)).mpr q)
                      refine lv_aload_n hx hb dX4_make_182 rfl (lv_at hl 4 rfl) ?_
                      refine va_get (D := (dC, dI)) (ci := 4) (v := .ref (a 2)) (C := RX4) (T := TX4) (N := 18) hx hb hts in_X4 hown hK hP 0 rfl rfl 4 (by decide) lk_7 (fun _ h9 => h9) rfl dX4_make_183 ?_
                      refine lv_iload hx hb dX4_make_186 (lv_at hl 0 rfl) ?_
                      refine lv_aload_n hx hb dX4_make_188 rfl (lv_at hl 4 rfl) ?_
                      refine va_get (D := (dC, dI)) (ci := 4) (v := .ref (a 2)) (C := RX4) (T := TX4) (N := 18) hx hb hts in_X4 hown hK hP 0 rfl rfl 4 (by decide) lk_7 (fun _ h9 => h9) rfl dX4_make_189 ?_
                      refine lv_iload hx hb dX4_make_192 (lv_at hl 0 rfl) ?_
                      refine lv_iconst (v := (nI 1)) hx hb dX4_make_194 (by decide) ?_
                      refine lv_isub hx hb dX4_make_195 ?_
                      refine tpi (pk_sub (by omega)) ?_
                      refine va_iald hx hb hK hP 2 0 rfl rfl (vp_in_nI (by omega) (by omega)) dX4_make_196 ?_
                      refine tpi (nf_at (by omega)) ?_
                      refine va_iast hx hb hK hP hD hS 2 0 rfl rfl (vp_in_nI (by omega) (by omega)) dX4_make_197 (fun H locs hP hD hS => ?_)
                      rw [nf_up (by omega)] at hP hD
                      have hP : va_P (dC, dI) vwCl (mw cI a sz st us kp ga gl cs mem (va_up f k (f (k - 1))) g km ks kt ku kl kn cd wt) H := hP
                      have hD : va_D A (mw cI a sz st us kp ga gl cs mem (va_up f k (f (k - 1))) g km ks kt ku kl kn cd wt) := hD
                      refine lv_aload_n hx hb dX4_make_198 rfl (lv_at hl 4 rfl) ?_
                      refine va_get (D := (dC, dI)) (ci := 4) (v := .ref (a 3)) (C := RX4) (T := TX4) (N := 18) hx hb hts in_X4 hown hK hP 0 rfl rfl 5 (by decide) lk_8 (fun _ h9 => h9) rfl dX4_make_199 ?_
                      refine lv_iload hx hb dX4_make_202 (lv_at hl 0 rfl) ?_
                      refine lv_aload_n hx hb dX4_make_204 rfl (lv_at hl 4 rfl) ?_
                      refine va_get (D := (dC, dI)) (ci := 4) (v := .ref (a 3)) (C := RX4) (T := TX4) (N := 18) hx hb hts in_X4 hown hK hP 0 rfl rfl 5 (by decide) lk_8 (fun _ h9 => h9) rfl dX4_make_205 ?_
                      refine lv_iload hx hb dX4_make_208 (lv_at hl 0 rfl) ?_
                      refine lv_iconst (v := (nI 1)) hx hb dX4_make_210 (by decide) ?_
                      refine lv_isub hx hb dX4_make_211 ?_
                      refine tpi (pk_sub (by omega)) ?_
                      refine va_iald hx hb hK hP 3 0 rfl rfl (vp_in_nI (by omega) (by omega)) dX4_make_212 ?_
                      refine tpi (nf_at (by omega)) ?_
                      refine va_iast hx hb hK hP hD hS 3 0 rfl rfl (vp_in_nI (by omega) (by omega)) dX4_make_213 (fun H locs hP hD hS => ?_)
                      rw [nf_up (by omega)] at hP hD
                      have hP : va_P (dC, dI) vwCl (mw cI a sz st us kp ga gl cs mem (va_up f k (f (k - 1))) (va_up g k (g (k - 1))) km ks kt ku kl kn cd wt) H := hP
                      have hD : va_D A (mw cI a sz st us kp ga gl cs mem (va_up f k (f (k - 1))) (va_up g k (g (k - 1))) km ks kt ku kl kn cd wt) := hD
                      refine lv_iinc (v := (nI (k - 1))) (lv' := [(6, .int (nI (k - 1))), (4, .long (lN (gAt st pl ln us + n))), (2, .int (nI (gAt st pl ln us))), (3, .int (nI us)), (0, .ref (a 0)), (1, .int (nI n))]) hx hb dX4_make_214 hl (k := 0) rfl (nI_dec (by omega)) (by decide) rfl (fun ls hl => ?_)
                      refine lv_goto (tgt := 176) hx hb dX4_make_217 (by decide) ?_
                      exact ih_176 (k - 1, va_up f k (f (k - 1)), va_up g k (g (k - 1))) (⟨by omega, by omega, by rw [hf, shf_s (by omega) hk2], by rw [hg, shf_s (by omega) hk2]⟩) (show (k - 1) < k by omega) H locs ls (hP) (hD) hS (lv_sub hl [0, 1, 2, 3, 4, 5] rfl)
                  · have c_137 : us = us := (nI_eq (a := us) (b := us) (by omega) (by omega)).mp c_137
                    refine lv_lload hx hb dX4_make_140 (lv_at hl 0 rfl) ?_
                    refine lv_aload_n hx hb dX4_make_142 rfl (lv_at hl 3 rfl) ?_
                    refine va_get (D := (dC, dI)) (ci := 4) (v := .int (nI sz)) (C := RX4) (T := TX4) (N := 18) hx hb hts in_X4 hown hK hP 0 rfl rfl 1 (by decide) lk_2 (fun _ h9 => h9) rfl dX4_make_143 ?_
                    refine lv_i2l (v := lN sz) hx hb dX4_make_146 (nI_l (by omega)) ?_
                    refine W.lcmp hx hb dX4_make_147 ?_
                    refine lv_if_le (tgt := 170) hx hb dX4_make_148 (by decide) (fun c_148 => ?_) (fun c_148 => ?_)
                    · have c_148 : gAt st pl ln us + n ≤ sz := (pk_lLE (a := gAt st pl ln us + n) (b := sz) (by omega) (by omega)).mp ((lg_cmp_le _ _).mp c_148)
                      have hG : sz = mkG sz (gAt st pl ln us + n) := by unfold mkG; rw [if_neg (by omega)]
                      refine lv_aload_n hx hb dX4_make_170 rfl (lv_at hl 3 rfl) ?_
                      refine va_get (D := (dC, dI)) (ci := 4) (v := .int (nI us)) (C := RX4) (T := TX4) (N := 18) hx hb hts in_X4 hown hK hP 0 rfl rfl 3 (by decide) lk_1 (fun _ h9 => h9) rfl dX4_make_171 ?_
                      refine lv_istore (lv' := [(6, .int (nI us)), (4, .long (lN (gAt st pl ln us + n))), (2, .int (nI (gAt st pl ln us))), (3, .int (nI us)), (0, .ref (a 0)), (1, .int (nI n))]) hx hb dX4_make_174 hl (by decide) rfl (fun ls hl => ?_)
                      refine lp_world (σ := Nat × (Nat → Nat) × (Nat → Nat)) (fun ⟨k, f, g⟩ => us ≤ k ∧ k ≤ us ∧ f = shf pl k us ∧ g = shf ln k us) (fun ⟨k, f, g⟩ => k) (fun ⟨k, f, g⟩ => [(6, .int (nI k)), (4, .long (lN (gAt st pl ln us + n))), (2, .int (nI (gAt st pl ln us))), (3, .int (nI us)), (0, .ref (a 0)), (1, .int (nI n))]) (fun ⟨k, f, g⟩ => mw cI a sz st us kp ga gl cs mem f g km ks kt ku kl kn cd wt) ?_ ((us, pl, ln)) (⟨by omega, Nat.le_refl _, by rw [shf_0], by rw [shf_0]⟩) (hP) (hD) hS (lv_sub hl [0, 1, 2, 3, 4, 5] rfl)
                      intro ⟨k, f, g⟩ hI ih H locs ls hP hD hS hl
                      have hl : lv_has ls 7 [(6, .int (nI k)), (4, .long (lN (gAt st pl ln us + n))), (2, .int (nI (gAt st pl ln us))), (3, .int (nI us)), (0, .ref (a 0)), (1, .int (nI n))] := hl
                      have hP : va_P (dC, dI) vwCl (mw cI a sz st us kp ga gl cs mem f g km ks kt ku kl kn cd wt) H := hP
                      have hD : va_D A (mw cI a sz st us kp ga gl cs mem f g km ks kt ku kl kn cd wt) := hD
                      have hI : us ≤ k ∧ k ≤ us ∧ f = shf pl k us ∧ g = shf ln k us := hI
                      obtain ⟨hk1, hk2, hf, hg⟩ := hI
                      have ih_176 := ih
                      refine lv_iload hx hb dX4_make_176 (lv_at hl 0 rfl) ?_
                      refine lv_iload_n hx hb dX4_make_178 rfl (lv_at hl 3 rfl) ?_
                      refine lv_icmp_le (tgt := 220) hx hb dX4_make_179 (by decide) (fun c_179 => ?_) (fun c_179 => ?_)
                      · have c_179 : k ≤ us := (nI_leI (a := k) (b := us) (by omega) (by omega)).mp c_179
                        refine lv_aload_n hx hb dX4_make_220 rfl (lv_at hl 4 rfl) ?_
                        refine va_get (D := (dC, dI)) (ci := 4) (v := .ref (a 2)) (C := RX4) (T := TX4) (N := 18) hx hb hts in_X4 hown hK hP 0 rfl rfl 4 (by decide) lk_7 (fun _ h9 => h9) rfl dX4_make_221 ?_
                        refine lv_iload_n hx hb dX4_make_224 rfl (lv_at hl 3 rfl) ?_
                        refine lv_iload_n hx hb dX4_make_225 rfl (lv_at hl 2 rfl) ?_
                        refine va_iast hx hb hK hP hD hS 2 0 rfl rfl (vp_in_nI (by omega) (by omega)) dX4_make_226 (fun H locs hP hD hS => ?_)
                        rw [nf_up (by omega)] at hP hD
                        have hP : va_P (dC, dI) vwCl (mw cI a sz st us kp ga gl cs mem (va_up f us (gAt st pl ln us)) g km ks kt ku kl kn cd wt) H := hP
                        have hD : va_D A (mw cI a sz st us kp ga gl cs mem (va_up f us (gAt st pl ln us)) g km ks kt ku kl kn cd wt) := hD
                        refine lv_aload_n hx hb dX4_make_227 rfl (lv_at hl 4 rfl) ?_
                        refine va_get (D := (dC, dI)) (ci := 4) (v := .ref (a 3)) (C := RX4) (T := TX4) (N := 18) hx hb hts in_X4 hown hK hP 0 rfl rfl 5 (by decide) lk_8 (fun _ h9 => h9) rfl dX4_make_228 ?_
                        refine lv_iload_n hx hb dX4_make_231 rfl (lv_at hl 3 rfl) ?_
                        refine lv_iload_n hx hb dX4_make_232 rfl (lv_at hl 5 rfl) ?_
                        refine va_iast hx hb hK hP hD hS 3 0 rfl rfl (vp_in_nI (by omega) (by omega)) dX4_make_233 (fun H locs hP hD hS => ?_)
                        rw [nf_up (by omega)] at hP hD
                        have hP : va_P (dC, dI) vwCl (mw cI a sz st us kp ga gl cs mem (va_up f us (gAt st pl ln us)) (va_up g us n) km ks kt ku kl kn cd wt) H := hP
                        have hD : va_D A (mw cI a sz st us kp ga gl cs mem (va_up f us (gAt st pl ln us)) (va_up g us n) km ks kt ku kl kn cd wt) := hD
                        refine lv_aload_n hx hb dX4_make_234 rfl (lv_at hl 4 rfl) ?_
                        refine lv_dup hx hb dX4_make_235 rfl ?_
                        refine va_get (D := (dC, dI)) (ci := 4) (v := .int (nI us)) (C := RX4) (T := TX4) (N := 18) hx hb hts in_X4 hown hK hP 0 rfl rfl 3 (by decide) lk_1 (fun _ h9 => h9) rfl dX4_make_236 ?_
                        refine lv_iconst (v := (nI 1)) hx hb dX4_make_239 (by decide) ?_
                        refine lv_iadd hx hb dX4_make_240 ?_
                        refine tpi (nI_add _ _) ?_
                        refine va_put (D := (dC, dI)) (ci := 4) (v := .int (nI (us + 1))) (ty := .int) (C := RX4) (T := TX4) (N := 18) hx hb hts in_X4 tyX4 tyX4_ok nmX4 hown hK hP hD hS 0 rfl rfl 3 (by decide) lk_1 (fun _ h9 => h9) rfl (by decide +kernel) rfl rfl (Nat.le_of_ble_eq_true rfl) dX4_make_241 (fun H locs hP hD hS => ?_)
                        have hP : va_P (dC, dI) vwCl (mw cI a sz st (us + 1) kp ga gl cs mem (va_up f us (gAt st pl ln us)) (va_up g us n) km ks kt ku kl kn cd wt) H := hP
                        have hD : va_D A (mw cI a sz st (us + 1) kp ga gl cs mem (va_up f us (gAt st pl ln us)) (va_up g us n) km ks kt ku kl kn cd wt) := hD
                        refine lv_iload_n hx hb dX4_make_244 rfl (lv_at hl 2 rfl) ?_
                        have e_sz : sz = mkZ sz st us pl ln (nI n) := by unfold mkZ; rw [if_pos hO, hcl, hmk, ← hG]
                        have e_st : st = mkS sz st us pl ln (nI n) := by unfold mkS; rw [if_neg (fun q => absurd q.2 (by omega))]
                        have e_us : us + 1 = mkU sz st us pl ln (nI n) := by unfold mkU; rw [if_pos hO]
                        have e_mem : mem = mkM sz st us pl ln mem (nI n) := by unfold mkM; rw [if_pos hO, hcl, hmk, ← hG, Nat.sub_self, zr_0]
                        have e_pl : va_up f us (gAt st pl ln us) = mkQ sz st us pl ln (nI n) := by unfold mkQ ins; rw [if_pos hO, hcl, hmk, hfit, hf, show k = us by omega]
                        have e_ln : va_up g us n = mkL sz st us pl ln (nI n) := by unfold mkL ins; rw [if_pos hO, hcl, hfit, hg, show k = us by omega]
                        have hP : va_P (dC, dI) vwCl (mw cI a (mkZ sz st us pl ln (nI n)) (mkS sz st us pl ln (nI n)) (mkU sz st us pl ln (nI n)) kp ga gl cs (mkM sz st us pl ln mem (nI n)) (mkQ sz st us pl ln (nI n)) (mkL sz st us pl ln (nI n)) km ks kt ku kl kn cd wt) H := by rw [← e_sz, ← e_st, ← e_us, ← e_mem, ← e_pl, ← e_ln]; exact hP
                        have hD : va_D A (mw cI a (mkZ sz st us pl ln (nI n)) (mkS sz st us pl ln (nI n)) (mkU sz st us pl ln (nI n)) kp ga gl cs (mkM sz st us pl ln mem (nI n)) (mkQ sz st us pl ln (nI n)) (mkL sz st us pl ln (nI n)) km ks kt ku kl kn cd wt) := by rw [← e_sz, ← e_st, ← e_us, ← e_mem, ← e_pl, ← e_ln]; exact hD
                        exact W.iret (v := (nI (gAt st pl ln us))) hx hb hr (fun t ht hW => ⟨⟨(nI (gAt st pl ln us)), (), rfl, (show (nI (gAt st pl ln us)) = mkR sz st us pl ln (nI n) from by unfold mkR; rw [if_neg (fun q => absurd ((nI_ltI n_n (by omega)).mp q) (by omega)), if_neg (by omega), hcl, if_neg (by rw [hmk]; omega), hmk]), by rw [ht]; exact hP, va_K.moved hW.alike hK, hD⟩, hS.F ht⟩) hS.2.2 dX4_make_245
                      · have c_179 : ¬ k ≤ us := fun q => c_179 ((nI_leI (a := k) (b := us) (by omega) (by omega)).mpr q)
                        refine lv_aload_n hx hb dX4_make_182 rfl (lv_at hl 4 rfl) ?_
                        refine va_get (D := (dC, dI)) (ci := 4) (v := .ref (a 2)) (C := RX4) (T := TX4) (N := 18) hx hb hts in_X4 hown hK hP 0 rfl rfl 4 (by decide) lk_7 (fun _ h9 => h9) rfl dX4_make_183 ?_
                        refine lv_iload hx hb dX4_make_186 (lv_at hl 0 rfl) ?_
                        refine lv_aload_n hx hb dX4_make_188 rfl (lv_at hl 4 rfl) ?_
                        refine va_get (D := (dC, dI)) (ci := 4) (v := .ref (a 2)) (C := RX4) (T := TX4) (N := 18) hx hb hts in_X4 hown hK hP 0 rfl rfl 4 (by decide) lk_7 (fun _ h9 => h9) rfl dX4_make_189 ?_
                        refine lv_iload hx hb dX4_make_192 (lv_at hl 0 rfl) ?_
                        refine lv_iconst (v := (nI 1)) hx hb dX4_make_194 (by decide) ?_
                        refine lv_isub hx hb dX4_make_195 ?_
                        refine tpi (pk_sub (by omega)) ?_
                        refine va_iald hx hb hK hP 2 0 rfl rfl (vp_in_nI (by omega) (by omega)) dX4_make_196 ?_
                        refine tpi (nf_at (by omega)) ?_
                        refine va_iast hx hb hK hP hD hS 2 0 rfl rfl (vp_in_nI (by omega) (by omega)) dX4_make_197 (fun H locs hP hD hS => ?_)
                        rw [nf_up (by omega)] at hP hD
                        have hP : va_P (dC, dI) vwCl (mw cI a sz st us kp ga gl cs mem (va_up f k (f (k - 1))) g km ks kt ku kl kn cd wt) H := hP
                        have hD : va_D A (mw cI a sz st us kp ga gl cs mem (va_up f k (f (k - 1))) g km ks kt ku kl kn cd wt) := hD
                        refine lv_aload_n hx hb dX4_make_198 rfl (lv_at hl 4 rfl) ?_
                        refine va_get (D := (dC, dI)) (ci := 4) (v := .ref (a 3)) (C := RX4) (T := TX4) (N := 18) hx hb hts in_X4 hown hK hP 0 rfl rfl 5 (by decide) lk_8 (fun _ h9 => h9) rfl dX4_make_199 ?_
                        refine lv_iload hx hb dX4_make_202 (lv_at hl 0 rfl) ?_
                        refine lv_aload_n hx hb dX4_make_204 rfl (lv_at hl 4 rfl) ?_
                        refine va_get (D := (dC, dI)) (ci := 4) (v := .ref (a 3)) (C := RX4) (T := TX4) (N := 18) hx hb hts in_X4 hown hK hP 0 rfl rfl 5 (by decide) lk_8 (fun _ h9 => h9) rfl dX4_make_205 ?_
                        refine lv_iload hx hb dX4_make_208 (lv_at hl 0 rfl) ?_
                        refine lv_iconst (v := (nI 1)) hx hb dX4_make_210 (by decide) ?_
                        refine lv_isub hx hb dX4_make_211 ?_
                        refine tpi (pk_sub (by omega)) ?_
                        refine va_iald hx hb hK hP 3 0 rfl rfl (vp_in_nI (by omega) (by omega)) dX4_make_212 ?_
                        refine tpi (nf_at (by omega)) ?_
                        refine va_iast hx hb hK hP hD hS 3 0 rfl rfl (vp_in_nI (by omega) (by omega)) dX4_make_213 (fun H locs hP hD hS => ?_)
                        rw [nf_up (by omega)] at hP hD
                        have hP : va_P (dC, dI) vwCl (mw cI a sz st us kp ga gl cs mem (va_up f k (f (k - 1))) (va_up g k (g (k - 1))) km ks kt ku kl kn cd wt) H := hP
                        have hD : va_D A (mw cI a sz st us kp ga gl cs mem (va_up f k (f (k - 1))) (va_up g k (g (k - 1))) km ks kt ku kl kn cd wt) := hD
                        refine lv_iinc (v := (nI (k - 1))) (lv' := [(6, .int (nI (k - 1))), (4, .long (lN (gAt st pl ln us + n))), (2, .int (nI (gAt st pl ln us))), (3, .int (nI us)), (0, .ref (a 0)), (1, .int (nI n))]) hx hb dX4_make_214 hl (k := 0) rfl (nI_dec (by omega)) (by decide) rfl (fun ls hl => ?_)
                        refine lv_goto (tgt := 176) hx hb dX4_make_217 (by decide) ?_
                        exact ih_176 (k - 1, va_up f k (f (k - 1)), va_up g k (g (k - 1))) (⟨by omega, by omega, by rw [hf, shf_s (by omega) hk2], by rw [hg, shf_s (by omega) hk2]⟩) (show (k - 1) < k by omega) H locs ls (hP) (hD) hS (lv_sub hl [0, 1, 2, 3, 4, 5] rfl)
                    · have c_148 : ¬ gAt st pl ln us + n ≤ sz := fun q => c_148 ((lg_cmp_le _ _).mpr ((pk_lLE (a := gAt st pl ln us + n) (b := sz) (by omega) (by omega)).mpr q))
                      refine lv_aload_n hx hb dX4_make_151 rfl (lv_at hl 3 rfl) ?_
                      refine lv_lload hx hb dX4_make_152 (lv_at hl 0 rfl) ?_
                      refine lv_ldc2 (own := RX4) (v := (255)) hx hb hown lk_5 dX4_make_154 ?_
                      refine tpl (show (255 : Int64) = lN 255 from rfl) ?_
                      refine lv_ladd hx hb dX4_make_157 ?_
                      refine tpl (lN_add _ _) ?_
                      refine lv_ldc2 (own := RX4) (v := (256)) hx hb hown lk_6 dX4_make_158 ?_
                      refine tpl (show (256 : Int64) = lN 256 from rfl) ?_
                      refine lv_ldiv hx hb dX4_make_161 (by decide) ?_
                      refine tpl (pk_lDiv (by omega) (by decide) (by decide)) ?_
                      refine lv_ldc2 (own := RX4) (v := (256)) hx hb hown lk_6 dX4_make_162 ?_
                      refine tpl (show (256 : Int64) = lN 256 from rfl) ?_
                      refine lv_lmul hx hb dX4_make_165 ?_
                      refine tpl (lN_mul _ _) ?_
                      refine lv_l2i (v := nI (((gAt st pl ln us + n + 255) / 256) * 256)) hx hb dX4_make_166 (lN_i _) ?_
                      have hFc := va_free (wc := mw cI a sz st us kp ga gl cs mem pl ln km ks kt ku kl kn cd wt) hD hS hA [0, 1, 2, 3, 4, 5, 6, 7, 8, 9, 10, 11] rfl
                      refine va_callv (va_runV (As := [.int (nI (((gAt st pl ln us + n + 255) / 256) * 256))]) (rest := []) ⟨hx, hb, hml, hown, hts⟩ (c_X4_grow l dC dI cI a sz st us kp ga gl cs mem pl ln km ks kt ku kl kn cd wt s.heap.size (((gAt st pl ln us + n + 255) / 256) * 256) (by omega) (by omega)) (cwV 1 hts gX4_make_X4_grow rfl rfl rfl (by decide +kernel) ⟨Nat.le_of_ble_eq_true rfl, Nat.le_of_ble_eq_true rfl⟩) ⟨fun a9 U g9 mk9 q9 => by obtain ⟨q0, q1, qP, qK, qD⟩ := q9; exact ⟨q0, q1, qP, va_K.moved (u := U) (U := U.calling g9 mk9 a9) (Vm.Alike.refl U.vm) qK, qD⟩, va_recv hK hP (ci := 4) (q0 := 0) rfl rfl, fun U hU hW => ⟨rfl, by rw [hU], by rw [hU]; exact hP, va_K.moved hW.alike hK, hD.weaken (fun _ _ _ _ => trivial)⟩⟩ rfl rfl hl.1 rfl (lv_room (Nat.le_of_ble_eq_true rfl)) dX4_make_167 ⟨Nat.zero_le _, Nat.zero_le _⟩) hS (fun q _ h => hFc q h) hFc (fun u t H1 locs ht hvm hw hB hz1 hk1 hS => ?_)
                      obtain ⟨hP1, hK1, hD1⟩ := hB
                      rw [ht] at hP1
                      obtain ⟨hP, hD⟩ := va_join (wr := []) (w1 := mw cI a (((gAt st pl ln us + n + 255) / 256) * 256) st us kp ga gl cs (zr mem sz (((gAt st pl ln us + n + 255) / 256) * 256 - sz)) pl ln km ks kt ku kl kn cd wt) hP hD [0, 1, 2, 3, 4, 5, 6, 7, 8, 9, 10, 11] [] rfl rfl (by decide) (by decide) hk1 hFc hP1 hD1
                      generalize H1 = H at hP hS ⊢
                      have hP : va_P (dC, dI) vwCl (mw cI a (((gAt st pl ln us + n + 255) / 256) * 256) st us kp ga gl cs (zr mem sz (((gAt st pl ln us + n + 255) / 256) * 256 - sz)) pl ln km ks kt ku kl kn cd wt) H := hP
                      have hD : va_D A (mw cI a (((gAt st pl ln us + n + 255) / 256) * 256) st us kp ga gl cs (zr mem sz (((gAt st pl ln us + n + 255) / 256) * 256 - sz)) pl ln km ks kt ku kl kn cd wt) := hD
                      have hG : (gAt st pl ln us + n + 255) / 256 * 256 = mkG sz (gAt st pl ln us + n) := by unfold mkG; rw [if_pos (by omega)]
                      refine lv_aload_n hx hb dX4_make_170 rfl (lv_at hl 3 rfl) ?_
                      refine va_get (D := (dC, dI)) (ci := 4) (v := .int (nI us)) (C := RX4) (T := TX4) (N := 18) hx hb hts in_X4 hown hK hP 0 rfl rfl 3 (by decide) lk_1 (fun _ h9 => h9) rfl dX4_make_171 ?_
                      refine lv_istore (lv' := [(6, .int (nI us)), (4, .long (lN (gAt st pl ln us + n))), (2, .int (nI (gAt st pl ln us))), (3, .int (nI us)), (0, .ref (a 0)), (1, .int (nI n))]) hx hb dX4_make_174 hl (by decide) rfl (fun ls hl => ?_)
                      refine lp_world (σ := Nat × (Nat → Nat) × (Nat → Nat)) (fun ⟨k, f, g⟩ => us ≤ k ∧ k ≤ us ∧ f = shf pl k us ∧ g = shf ln k us) (fun ⟨k, f, g⟩ => k) (fun ⟨k, f, g⟩ => [(6, .int (nI k)), (4, .long (lN (gAt st pl ln us + n))), (2, .int (nI (gAt st pl ln us))), (3, .int (nI us)), (0, .ref (a 0)), (1, .int (nI n))]) (fun ⟨k, f, g⟩ => mw cI a (((gAt st pl ln us + n + 255) / 256) * 256) st us kp ga gl cs (zr mem sz (((gAt st pl ln us + n + 255) / 256) * 256 - sz)) f g km ks kt ku kl kn cd wt) ?_ ((us, pl, ln)) (⟨by omega, Nat.le_refl _, by rw [shf_0], by rw [shf_0]⟩) (hP) (hD) hS (lv_sub hl [0, 1, 2, 3, 4, 5] rfl)
                      intro ⟨k, f, g⟩ hI ih H locs ls hP hD hS hl
                      have hl : lv_has ls 7 [(6, .int (nI k)), (4, .long (lN (gAt st pl ln us + n))), (2, .int (nI (gAt st pl ln us))), (3, .int (nI us)), (0, .ref (a 0)), (1, .int (nI n))] := hl
                      have hP : va_P (dC, dI) vwCl (mw cI a (((gAt st pl ln us + n + 255) / 256) * 256) st us kp ga gl cs (zr mem sz (((gAt st pl ln us + n + 255) / 256) * 256 - sz)) f g km ks kt ku kl kn cd wt) H := hP
                      have hD : va_D A (mw cI a (((gAt st pl ln us + n + 255) / 256) * 256) st us kp ga gl cs (zr mem sz (((gAt st pl ln us + n + 255) / 256) * 256 - sz)) f g km ks kt ku kl kn cd wt) := hD
                      have hI : us ≤ k ∧ k ≤ us ∧ f = shf pl k us ∧ g = shf ln k us := hI
                      obtain ⟨hk1, hk2, hf, hg⟩ := hI
                      have ih_176 := ih
                      refine lv_iload hx hb dX4_make_176 (lv_at hl 0 rfl) ?_
                      refine lv_iload_n hx hb dX4_make_178 rfl (lv_at hl 3 rfl) ?_
                      refine lv_icmp_le (tgt := 220) hx hb dX4_make_179 (by decide) (fun c_179 => ?_) (fun c_179 => ?_)
                      · have c_179 : k ≤ us := (nI_leI (a := k) (b := us) (by omega) (by omega)).mp c_179
                        refine lv_aload_n hx hb dX4_make_220 rfl (lv_at hl 4 rfl) ?_
                        refine va_get (D := (dC, dI)) (ci := 4) (v := .ref (a 2)) (C := RX4) (T := TX4) (N := 18) hx hb hts in_X4 hown hK hP 0 rfl rfl 4 (by decide) lk_7 (fun _ h9 => h9) rfl dX4_make_221 ?_
                        refine lv_iload_n hx hb dX4_make_224 rfl (lv_at hl 3 rfl) ?_
                        refine lv_iload_n hx hb dX4_make_225 rfl (lv_at hl 2 rfl) ?_
                        refine va_iast hx hb hK hP hD hS 2 0 rfl rfl (vp_in_nI (by omega) (by omega)) dX4_make_226 (fun H locs hP hD hS => ?_)
                        rw [nf_up (by omega)] at hP hD
                        have hP : va_P (dC, dI) vwCl (mw cI a (((gAt st pl ln us + n + 255) / 256) * 256) st us kp ga gl cs (zr mem sz (((gAt st pl ln us + n + 255) / 256) * 256 - sz)) (va_up f us (gAt st pl ln us)) g km ks kt ku kl kn cd wt) H := hP
                        have hD : va_D A (mw cI a (((gAt st pl ln us + n + 255) / 256) * 256) st us kp ga gl cs (zr mem sz (((gAt st pl ln us + n + 255) / 256) * 256 - sz)) (va_up f us (gAt st pl ln us)) g km ks kt ku kl kn cd wt) := hD
                        refine lv_aload_n hx hb dX4_make_227 rfl (lv_at hl 4 rfl) ?_
                        refine va_get (D := (dC, dI)) (ci := 4) (v := .ref (a 3)) (C := RX4) (T := TX4) (N := 18) hx hb hts in_X4 hown hK hP 0 rfl rfl 5 (by decide) lk_8 (fun _ h9 => h9) rfl dX4_make_228 ?_
                        refine lv_iload_n hx hb dX4_make_231 rfl (lv_at hl 3 rfl) ?_
                        refine lv_iload_n hx hb dX4_make_232 rfl (lv_at hl 5 rfl) ?_
                        refine va_iast hx hb hK hP hD hS 3 0 rfl rfl (vp_in_nI (by omega) (by omega)) dX4_make_233 (fun H locs hP hD hS => ?_)
                        rw [nf_up (by omega)] at hP hD
                        have hP : va_P (dC, dI) vwCl (mw cI a (((gAt st pl ln us + n + 255) / 256) * 256) st us kp ga gl cs (zr mem sz (((gAt st pl ln us + n + 255) / 256) * 256 - sz)) (va_up f us (gAt st pl ln us)) (va_up g us n) km ks kt ku kl kn cd wt) H := hP
                        have hD : va_D A (mw cI a (((gAt st pl ln us + n + 255) / 256) * 256) st us kp ga gl cs (zr mem sz (((gAt st pl ln us + n + 255) / 256) * 256 - sz)) (va_up f us (gAt st pl ln us)) (va_up g us n) km ks kt ku kl kn cd wt) := hD
                        refine lv_aload_n hx hb dX4_make_234 rfl (lv_at hl 4 rfl) ?_
                        refine lv_dup hx hb dX4_make_235 rfl ?_
                        refine va_get (D := (dC, dI)) (ci := 4) (v := .int (nI us)) (C := RX4) (T := TX4) (N := 18) hx hb hts in_X4 hown hK hP 0 rfl rfl 3 (by decide) lk_1 (fun _ h9 => h9) rfl dX4_make_236 ?_
                        refine lv_iconst (v := (nI 1)) hx hb dX4_make_239 (by decide) ?_
                        refine lv_iadd hx hb dX4_make_240 ?_
                        refine tpi (nI_add _ _) ?_
                        refine va_put (D := (dC, dI)) (ci := 4) (v := .int (nI (us + 1))) (ty := .int) (C := RX4) (T := TX4) (N := 18) hx hb hts in_X4 tyX4 tyX4_ok nmX4 hown hK hP hD hS 0 rfl rfl 3 (by decide) lk_1 (fun _ h9 => h9) rfl (by decide +kernel) rfl rfl (Nat.le_of_ble_eq_true rfl) dX4_make_241 (fun H locs hP hD hS => ?_)
                        have hP : va_P (dC, dI) vwCl (mw cI a (((gAt st pl ln us + n + 255) / 256) * 256) st (us + 1) kp ga gl cs (zr mem sz (((gAt st pl ln us + n + 255) / 256) * 256 - sz)) (va_up f us (gAt st pl ln us)) (va_up g us n) km ks kt ku kl kn cd wt) H := hP
                        have hD : va_D A (mw cI a (((gAt st pl ln us + n + 255) / 256) * 256) st (us + 1) kp ga gl cs (zr mem sz (((gAt st pl ln us + n + 255) / 256) * 256 - sz)) (va_up f us (gAt st pl ln us)) (va_up g us n) km ks kt ku kl kn cd wt) := hD
                        refine lv_iload_n hx hb dX4_make_244 rfl (lv_at hl 2 rfl) ?_
                        have e_sz : ((gAt st pl ln us + n + 255) / 256) * 256 = mkZ sz st us pl ln (nI n) := by unfold mkZ; rw [if_pos hO, hcl, hmk, ← hG]
                        have e_st : st = mkS sz st us pl ln (nI n) := by unfold mkS; rw [if_neg (fun q => absurd q.2 (by omega))]
                        have e_us : us + 1 = mkU sz st us pl ln (nI n) := by unfold mkU; rw [if_pos hO]
                        have e_mem : zr mem sz (((gAt st pl ln us + n + 255) / 256) * 256 - sz) = mkM sz st us pl ln mem (nI n) := by unfold mkM; rw [if_pos hO, hcl, hmk, ← hG]
                        have e_pl : va_up f us (gAt st pl ln us) = mkQ sz st us pl ln (nI n) := by unfold mkQ ins; rw [if_pos hO, hcl, hmk, hfit, hf, show k = us by omega]
                        have e_ln : va_up g us n = mkL sz st us pl ln (nI n) := by unfold mkL ins; rw [if_pos hO, hcl, hfit, hg, show k = us by omega]
                        have hP : va_P (dC, dI) vwCl (mw cI a (mkZ sz st us pl ln (nI n)) (mkS sz st us pl ln (nI n)) (mkU sz st us pl ln (nI n)) kp ga gl cs (mkM sz st us pl ln mem (nI n)) (mkQ sz st us pl ln (nI n)) (mkL sz st us pl ln (nI n)) km ks kt ku kl kn cd wt) H := by rw [← e_sz, ← e_st, ← e_us, ← e_mem, ← e_pl, ← e_ln]; exact hP
                        have hD : va_D A (mw cI a (mkZ sz st us pl ln (nI n)) (mkS sz st us pl ln (nI n)) (mkU sz st us pl ln (nI n)) kp ga gl cs (mkM sz st us pl ln mem (nI n)) (mkQ sz st us pl ln (nI n)) (mkL sz st us pl ln (nI n)) km ks kt ku kl kn cd wt) := by rw [← e_sz, ← e_st, ← e_us, ← e_mem, ← e_pl, ← e_ln]; exact hD
                        exact W.iret (v := (nI (gAt st pl ln us))) hx hb hr (fun t ht hW => ⟨⟨(nI (gAt st pl ln us)), (), rfl, (show (nI (gAt st pl ln us)) = mkR sz st us pl ln (nI n) from by unfold mkR; rw [if_neg (fun q => absurd ((nI_ltI n_n (by omega)).mp q) (by omega)), if_neg (by omega), hcl, if_neg (by rw [hmk]; omega), hmk]), by rw [ht]; exact hP, va_K.moved hW.alike hK, hD⟩, hS.F ht⟩) hS.2.2 dX4_make_245
                      · have c_179 : ¬ k ≤ us := fun q => c_179 ((nI_leI (a := k) (b := us) (by omega) (by omega)).mpr q)
                        refine lv_aload_n hx hb dX4_make_182 rfl (lv_at hl 4 rfl) ?_
                        refine va_get (D := (dC, dI)) (ci := 4) (v := .ref (a 2)) (C := RX4) (T := TX4) (N := 18) hx hb hts in_X4 hown hK hP 0 rfl rfl 4 (by decide) lk_7 (fun _ h9 => h9) rfl dX4_make_183 ?_
                        refine lv_iload hx hb dX4_make_186 (lv_at hl 0 rfl) ?_
                        refine lv_aload_n hx hb dX4_make_188 rfl (lv_at hl 4 rfl) ?_
                        refine va_get (D := (dC, dI)) (ci := 4) (v := .ref (a 2)) (C := RX4) (T := TX4) (N := 18) hx hb hts in_X4 hown hK hP 0 rfl rfl 4 (by decide) lk_7 (fun _ h9 => h9) rfl dX4_make_189 ?_
                        refine lv_iload hx hb dX4_make_192 (lv_at hl 0 rfl) ?_
                        refine lv_iconst (v := (nI 1)) hx hb dX4_make_194 (by decide) ?_
                        refine lv_isub hx hb dX4_make_195 ?_
                        refine tpi (pk_sub (by omega)) ?_
                        refine va_iald hx hb hK hP 2 0 rfl rfl (vp_in_nI (by omega) (by omega)) dX4_make_196 ?_
                        refine tpi (nf_at (by omega)) ?_
                        refine va_iast hx hb hK hP hD hS 2 0 rfl rfl (vp_in_nI (by omega) (by omega)) dX4_make_197 (fun H locs hP hD hS => ?_)
                        rw [nf_up (by omega)] at hP hD
                        have hP : va_P (dC, dI) vwCl (mw cI a (((gAt st pl ln us + n + 255) / 256) * 256) st us kp ga gl cs (zr mem sz (((gAt st pl ln us + n + 255) / 256) * 256 - sz)) (va_up f k (f (k - 1))) g km ks kt ku kl kn cd wt) H := hP
                        have hD : va_D A (mw cI a (((gAt st pl ln us + n + 255) / 256) * 256) st us kp ga gl cs (zr mem sz (((gAt st pl ln us + n + 255) / 256) * 256 - sz)) (va_up f k (f (k - 1))) g km ks kt ku kl kn cd wt) := hD
                        refine lv_aload_n hx hb dX4_make_198 rfl (lv_at hl 4 rfl) ?_
                        refine va_get (D := (dC, dI)) (ci := 4) (v := .ref (a 3)) (C := RX4) (T := TX4) (N := 18) hx hb hts in_X4 hown hK hP 0 rfl rfl 5 (by decide) lk_8 (fun _ h9 => h9) rfl dX4_make_199 ?_
                        refine lv_iload hx hb dX4_make_202 (lv_at hl 0 rfl) ?_
                        refine lv_aload_n hx hb dX4_make_204 rfl (lv_at hl 4 rfl) ?_
                        refine va_get (D := (dC, dI)) (ci := 4) (v := .ref (a 3)) (C := RX4) (T := TX4) (N := 18) hx hb hts in_X4 hown hK hP 0 rfl rfl 5 (by decide) lk_8 (fun _ h9 => h9) rfl dX4_make_205 ?_
                        refine lv_iload hx hb dX4_make_208 (lv_at hl 0 rfl) ?_
                        refine lv_iconst (v := (nI 1)) hx hb dX4_make_210 (by decide) ?_
                        refine lv_isub hx hb dX4_make_211 ?_
                        refine tpi (pk_sub (by omega)) ?_
                        refine va_iald hx hb hK hP 3 0 rfl rfl (vp_in_nI (by omega) (by omega)) dX4_make_212 ?_
                        refine tpi (nf_at (by omega)) ?_
                        refine va_iast hx hb hK hP hD hS 3 0 rfl rfl (vp_in_nI (by omega) (by omega)) dX4_make_213 (fun H locs hP hD hS => ?_)
                        rw [nf_up (by omega)] at hP hD
                        have hP : va_P (dC, dI) vwCl (mw cI a (((gAt st pl ln us + n + 255) / 256) * 256) st us kp ga gl cs (zr mem sz (((gAt st pl ln us + n + 255) / 256) * 256 - sz)) (va_up f k (f (k - 1))) (va_up g k (g (k - 1))) km ks kt ku kl kn cd wt) H := hP
                        have hD : va_D A (mw cI a (((gAt st pl ln us + n + 255) / 256) * 256) st us kp ga gl cs (zr mem sz (((gAt st pl ln us + n + 255) / 256) * 256 - sz)) (va_up f k (f (k - 1))) (va_up g k (g (k - 1))) km ks kt ku kl kn cd wt) := hD
                        refine lv_iinc (v := (nI (k - 1))) (lv' := [(6, .int (nI (k - 1))), (4, .long (lN (gAt st pl ln us + n))), (2, .int (nI (gAt st pl ln us))), (3, .int (nI us)), (0, .ref (a 0)), (1, .int (nI n))]) hx hb dX4_make_214 hl (k := 0) rfl (nI_dec (by omega)) (by decide) rfl (fun ls hl => ?_)
                        refine lv_goto (tgt := 176) hx hb dX4_make_217 (by decide) ?_
                        exact ih_176 (k - 1, va_up f k (f (k - 1)), va_up g k (g (k - 1))) (⟨by omega, by omega, by rw [hf, shf_s (by omega) hk2], by rw [hg, shf_s (by omega) hk2]⟩) (show (k - 1) < k by omega) H locs ls (hP) (hD) hS (lv_sub hl [0, 1, 2, 3, 4, 5] rfl)
                · have c_121 : us = 0 := (nZ_eq (by omega)).mp c_121
                  omega
              · have c_112 : ¬ gAt st pl ln us + n ≤ 8192 := fun q => c_112 ((lg_cmp_le _ _).mpr ((pk_lLE (a := gAt st pl ln us + n) (b := 8192) (by omega) (by omega)).mpr q))
                refine lv_iconst (v := (nI 0)) hx hb dX4_make_115 (by decide) ?_
                have e_sz : sz = mkZ sz st us pl ln (nI n) := by unfold mkZ; rw [if_neg (fun q => q.2.2 (by rw [hcl, hmk]; omega))]
                have e_st : st = mkS sz st us pl ln (nI n) := by unfold mkS; rw [if_neg (fun q => (fun q => q.2.2 (by rw [hcl, hmk]; omega)) q.1)]
                have e_us : us = mkU sz st us pl ln (nI n) := by unfold mkU; rw [if_neg (fun q => q.2.2 (by rw [hcl, hmk]; omega))]
                have e_mem : mem = mkM sz st us pl ln mem (nI n) := by unfold mkM; rw [if_neg (fun q => q.2.2 (by rw [hcl, hmk]; omega))]
                have e_pl : pl = mkQ sz st us pl ln (nI n) := by unfold mkQ; rw [if_neg (fun q => q.2.2 (by rw [hcl, hmk]; omega))]
                have e_ln : ln = mkL sz st us pl ln (nI n) := by unfold mkL; rw [if_neg (fun q => q.2.2 (by rw [hcl, hmk]; omega))]
                have hP : va_P (dC, dI) vwCl (mw cI a (mkZ sz st us pl ln (nI n)) (mkS sz st us pl ln (nI n)) (mkU sz st us pl ln (nI n)) kp ga gl cs (mkM sz st us pl ln mem (nI n)) (mkQ sz st us pl ln (nI n)) (mkL sz st us pl ln (nI n)) km ks kt ku kl kn cd wt) s.heap := by rw [← e_sz, ← e_st, ← e_us, ← e_mem, ← e_pl, ← e_ln]; exact hP
                have hD : va_D A (mw cI a (mkZ sz st us pl ln (nI n)) (mkS sz st us pl ln (nI n)) (mkU sz st us pl ln (nI n)) kp ga gl cs (mkM sz st us pl ln mem (nI n)) (mkQ sz st us pl ln (nI n)) (mkL sz st us pl ln (nI n)) km ks kt ku kl kn cd wt) := by rw [← e_sz, ← e_st, ← e_us, ← e_mem, ← e_pl, ← e_ln]; exact hD
                exact W.iret (v := (nI 0)) hx hb hr (fun t ht hW => ⟨⟨(nI 0), (), rfl, (show (nI 0) = mkR sz st us pl ln (nI n) from by unfold mkR; rw [if_neg (fun q => absurd ((nI_ltI n_n (by omega)).mp q) (by omega)), if_neg (by omega), hcl, if_pos (by rw [hmk]; omega)]), by rw [ht]; exact hP, va_K.moved hW.alike hK, hD⟩, hS.F ht⟩) hS.2.2 dX4_make_116
          · have c_52 : ¬ us < i := fun q => c_52 ((nI_ltI (a := us) (b := i) (by omega) (by omega)).mpr q)
            refine lv_aload_n hx hb dX4_make_55 rfl (lv_at hl 2 rfl) ?_
            refine lv_iload_n hx hb dX4_make_56 rfl (lv_at hl 0 rfl) ?_
            refine vp_callSi (W.runV (As := [.int (nI i)]) (rest := []) ⟨hx, hb, hml, hown, hts⟩ (c_X4_gapEnd l dC dI cI a sz st us kp ga gl cs mem pl ln km ks kt ku kl kn cd wt i (by omega) (by omega)) (cwV 1 hts gX4_make_X4_gapEnd rfl rfl rfl (by decide +kernel) ⟨Nat.le_of_ble_eq_true rfl, Nat.le_of_ble_eq_true rfl⟩) ⟨fun a9 U g9 mk9 q9 => by obtain ⟨q0, qP, qK⟩ := q9; exact ⟨q0, qP, va_K.moved (u := U) (U := U.calling g9 mk9 a9) (Vm.Alike.refl U.vm) qK⟩, va_recv hK hP (ci := 4) (q0 := 0) rfl rfl, fun U hU hW => ⟨rfl, by rw [hU]; exact hP, va_K.moved hW.alike hK⟩⟩ rfl rfl hl.1 rfl (lv_room (Nat.le_of_ble_eq_true rfl)) dX4_make_57 ⟨Nat.zero_le _, Nat.zero_le _⟩) (fun r_57 hw => ?_)
            try dsimp only at hw
            subst hw
            have we_57 := gEn_le gw (i := i) (by omega)
            refine lv_aload_n hx hb dX4_make_60 rfl (lv_at hl 2 rfl) ?_
            refine lv_iload_n hx hb dX4_make_61 rfl (lv_at hl 0 rfl) ?_
            refine vp_callSi (W.runV (As := [.int (nI i)]) (rest := [.int (nI (gEn sz us pl i))]) ⟨hx, hb, hml, hown, hts⟩ (c_X4_gapAt l dC dI cI a sz st us kp ga gl cs mem pl ln km ks kt ku kl kn cd wt i (by omega)) (cwV 1 hts gX4_make_X4_gapAt rfl rfl rfl (by decide +kernel) ⟨Nat.le_of_ble_eq_true rfl, Nat.le_of_ble_eq_true rfl⟩) ⟨fun a9 U g9 mk9 q9 => by obtain ⟨q0, qP, qK⟩ := q9; exact ⟨q0, qP, va_K.moved (u := U) (U := U.calling g9 mk9 a9) (Vm.Alike.refl U.vm) qK⟩, va_recv hK hP (ci := 4) (q0 := 0) rfl rfl, fun U hU hW => ⟨rfl, by rw [hU]; exact hP, va_K.moved hW.alike hK⟩⟩ rfl rfl hl.1 rfl (lv_room (Nat.le_of_ble_eq_true rfl)) dX4_make_62 ⟨Nat.zero_le _, Nat.zero_le _⟩) (fun r_62 hw => ?_)
            try dsimp only at hw
            subst hw
            have wg_62 := gAt_le gw (i := i) (by omega)
            have wo_62 := gap_le gw (i := i) (by omega) (by omega)
            refine lv_isub hx hb dX4_make_65 ?_
            refine tpi (pk_sub (by omega)) ?_
            refine lv_iload_n hx hb dX4_make_66 rfl (lv_at hl 3 rfl) ?_
            refine lv_icmp_ge (tgt := 76) hx hb dX4_make_67 (by decide) (fun c_67 => ?_) (fun c_67 => ?_)
            · have c_67 : n ≤ gEn sz us pl i - (gAt st pl ln i) := (nI_leI (a := n) (b := gEn sz us pl i - (gAt st pl ln i)) (by omega) (by omega)).mp c_67
              refine lv_iload_n hx hb dX4_make_76 rfl (lv_at hl 0 rfl) ?_
              refine lv_aload_n hx hb dX4_make_77 rfl (lv_at hl 2 rfl) ?_
              refine va_get (D := (dC, dI)) (ci := 4) (v := .int (nI us)) (C := RX4) (T := TX4) (N := 18) hx hb hts in_X4 hown hK hP 0 rfl rfl 3 (by decide) lk_1 (fun _ h9 => h9) rfl dX4_make_78 ?_
              refine lv_icmp_le (tgt := 91) hx hb dX4_make_81 (by decide) (fun c_81 => ?_) (fun c_81 => ?_)
              · have c_81 : i ≤ us := (nI_leI (a := i) (b := us) (by omega) (by omega)).mp c_81
                refine lv_iload_n hx hb dX4_make_91 rfl (lv_at hl 0 rfl) ?_
                refine lv_istore_n (lv' := [(3, .int (nI i)), (2, .int (nI st)), (0, .ref (a 0)), (1, .int (nI n))]) hx hb dX4_make_92 rfl hl (by decide) rfl (fun ls hl => ?_)
                refine lv_aload_n hx hb dX4_make_93 rfl (lv_at hl 2 rfl) ?_
                refine lv_iload_n hx hb dX4_make_94 rfl (lv_at hl 0 rfl) ?_
                refine vp_callSi (W.runV (As := [.int (nI i)]) (rest := []) ⟨hx, hb, hml, hown, hts⟩ (c_X4_gapAt l dC dI cI a sz st us kp ga gl cs mem pl ln km ks kt ku kl kn cd wt i (by omega)) (cwV 1 hts gX4_make_X4_gapAt rfl rfl rfl (by decide +kernel) ⟨Nat.le_of_ble_eq_true rfl, Nat.le_of_ble_eq_true rfl⟩) ⟨fun a9 U g9 mk9 q9 => by obtain ⟨q0, qP, qK⟩ := q9; exact ⟨q0, qP, va_K.moved (u := U) (U := U.calling g9 mk9 a9) (Vm.Alike.refl U.vm) qK⟩, va_recv hK hP (ci := 4) (q0 := 0) rfl rfl, fun U hU hW => ⟨rfl, by rw [hU]; exact hP, va_K.moved hW.alike hK⟩⟩ rfl rfl hl.1 rfl (lv_room (Nat.le_of_ble_eq_true rfl)) dX4_make_95 ⟨Nat.zero_le _, Nat.zero_le _⟩) (fun r_95 hw => ?_)
                try dsimp only at hw
                subst hw
                have wg_95 := gAt_le gw (i := i) (by omega)
                have wo_95 := gap_le gw (i := i) (by omega) (by omega)
                refine lv_istore_n (lv' := [(2, .int (nI (gAt st pl ln i))), (3, .int (nI i)), (0, .ref (a 0)), (1, .int (nI n))]) hx hb dX4_make_98 rfl hl (by decide) rfl (fun ls hl => ?_)
                have hfit : fit sz st us pl ln n = i := by rw [hv]; exact if h : i < us then by rw [fitF_step h, if_pos (by omega)] else by rw [fitF_end (by omega)]; omega
                have hmk : mkP sz st us pl ln n = gAt st pl ln i := by unfold mkP; rw [if_neg (by omega), hfit]
                have wg := gAt_le gw (i := i) (by omega)
                have hi3 : i ≤ us := by omega
                have hb2 : gAt st pl ln i ≤ sz := by omega
                refine lv_iload_n hx hb dX4_make_99 rfl (lv_at hl 0 rfl) ?_
                refine lv_i2l (v := lN (gAt st pl ln i)) hx hb dX4_make_100 (nI_l (by omega)) ?_
                refine lv_iload_n hx hb dX4_make_101 rfl (lv_at hl 3 rfl) ?_
                refine lv_i2l (v := lN n) hx hb dX4_make_102 (nI_l (by omega)) ?_
                refine lv_ladd hx hb dX4_make_103 ?_
                refine tpl (lN_add _ _) ?_
                refine lv_lstore (lv' := [(4, .long (lN (gAt st pl ln i + n))), (2, .int (nI (gAt st pl ln i))), (3, .int (nI i)), (0, .ref (a 0)), (1, .int (nI n))]) hx hb dX4_make_104 hl (by decide) rfl (fun ls hl => ?_)
                refine lv_lload hx hb dX4_make_106 (lv_at hl 0 rfl) ?_
                refine lv_ldc2 (own := RX4) (v := (8192)) hx hb hown lk_4 dX4_make_108 ?_
                refine tpl (show (8192 : Int64) = lN 8192 from rfl) ?_
                refine W.lcmp hx hb dX4_make_111 ?_
                refine lv_if_le (tgt := 117) hx hb dX4_make_112 (by decide) (fun c_112 => ?_) (fun c_112 => ?_)
                · have c_112 : gAt st pl ln i + n ≤ 8192 := (pk_lLE (a := gAt st pl ln i + n) (b := 8192) (by omega) (by omega)).mp ((lg_cmp_le _ _).mp c_112)
                  have hO : mkO sz st us pl ln (nI n) := ⟨fun q => absurd ((nI_ltI n_n (by omega)).mp q) (by omega), by omega, by rw [hcl, hmk]; omega⟩
                  refine lv_aload_n hx hb dX4_make_117 rfl (lv_at hl 3 rfl) ?_
                  refine va_get (D := (dC, dI)) (ci := 4) (v := .int (nI us)) (C := RX4) (T := TX4) (N := 18) hx hb hts in_X4 hown hK hP 0 rfl rfl 3 (by decide) lk_1 (fun _ h9 => h9) rfl dX4_make_118 ?_
                  refine lv_if_ne (tgt := 132) hx hb dX4_make_121 (by decide) (fun c_121 => ?_) (fun c_121 => ?_)
                  · have c_121 : ¬ us = 0 := fun q => c_121 ((nZ_eq (by omega)).mpr q)
                    refine lv_iload_n hx hb dX4_make_132 rfl (lv_at hl 2 rfl) ?_
                    refine lv_aload_n hx hb dX4_make_133 rfl (lv_at hl 3 rfl) ?_
                    refine va_get (D := (dC, dI)) (ci := 4) (v := .int (nI us)) (C := RX4) (T := TX4) (N := 18) hx hb hts in_X4 hown hK hP 0 rfl rfl 3 (by decide) lk_1 (fun _ h9 => h9) rfl dX4_make_134 ?_
                    refine lv_icmp_ne (tgt := 170) hx hb dX4_make_137 (by decide) (fun c_137 => ?_) (fun c_137 => ?_)
                    · have c_137 : ¬ i = us := fun q => c_137 ((nI_eq (a := i) (b := us) (by omega) (by omega)).mpr q)
                      have hgp := fit_gap (sz := sz) (st := st) (us := us) (pl := pl) (ln := ln) (n := n) (by rw [hfit]; omega)
                      rw [hfit] at hgp
                      have wen := gEn_le gw (i := i) (by omega)
                      have hG : sz = mkG sz (gAt st pl ln i + n) := by unfold mkG; rw [if_neg (by omega)]
                      refine lv_aload_n hx hb dX4_make_170 rfl (lv_at hl 3 rfl) ?_
                      refine va_get (D := (dC, dI)) (ci := 4) (v := .int (nI us)) (C := RX4) (T := TX4) (N := 18) hx hb hts in_X4 hown hK hP 0 rfl rfl 3 (by decide) lk_1 (fun _ h9 => h9) rfl dX4_make_171 ?_
                      refine lv_istore (lv' := [(6, .int (nI us)), (4, .long (lN (gAt st pl ln i + n))), (2, .int (nI (gAt st pl ln i))), (3, .int (nI i)), (0, .ref (a 0)), (1, .int (nI n))]) hx hb dX4_make_174 hl (by decide) rfl (fun ls hl => ?_)
                      refine lp_world (σ := Nat × (Nat → Nat) × (Nat → Nat)) (fun ⟨k, f, g⟩ => i ≤ k ∧ k ≤ us ∧ f = shf pl k us ∧ g = shf ln k us) (fun ⟨k, f, g⟩ => k) (fun ⟨k, f, g⟩ => [(6, .int (nI k)), (4, .long (lN (gAt st pl ln i + n))), (2, .int (nI (gAt st pl ln i))), (3, .int (nI i)), (0, .ref (a 0)), (1, .int (nI n))]) (fun ⟨k, f, g⟩ => mw cI a sz st us kp ga gl cs mem f g km ks kt ku kl kn cd wt) ?_ ((us, pl, ln)) (⟨by omega, Nat.le_refl _, by rw [shf_0], by rw [shf_0]⟩) (hP) (hD) hS (lv_sub hl [0, 1, 2, 3, 4, 5] rfl)
                      intro ⟨k, f, g⟩ hI ih H locs ls hP hD hS hl
                      have hl : lv_has ls 7 [(6, .int (nI k)), (4, .long (lN (gAt st pl ln i + n))), (2, .int (nI (gAt st pl ln i))), (3, .int (nI i)), (0, .ref (a 0)), (1, .int (nI n))] := hl
                      have hP : va_P (dC, dI) vwCl (mw cI a sz st us kp ga gl cs mem f g km ks kt ku kl kn cd wt) H := hP
                      have hD : va_D A (mw cI a sz st us kp ga gl cs mem f g km ks kt ku kl kn cd wt) := hD
                      have hI : i ≤ k ∧ k ≤ us ∧ f = shf pl k us ∧ g = shf ln k us := hI
                      obtain ⟨hk1, hk2, hf, hg⟩ := hI
                      have ih_176 := ih
                      refine lv_iload hx hb dX4_make_176 (lv_at hl 0 rfl) ?_
                      refine lv_iload_n hx hb dX4_make_178 rfl (lv_at hl 3 rfl) ?_
                      refine lv_icmp_le (tgt := 220) hx hb dX4_make_179 (by decide) (fun c_179 => ?_) (fun c_179 => ?_)
                      · have c_179 : k ≤ i := (nI_leI (a := k) (b := i) (by omega) (by omega)).mp c_179
                        refine lv_aload_n hx hb dX4_make_220 rfl (lv_at hl 4 rfl) ?_
                        refine va_get (D := (dC, dI)) (ci := 4) (v := .ref (a 2)) (C := RX4) (T := TX4) (N := 18) hx hb hts in_X4 hown hK hP 0 rfl rfl 4 (by decide) lk_7 (fun _ h9 => h9) rfl dX4_make_221 ?_
                        refine lv_iload_n hx hb dX4_make_224 rfl (lv_at hl 3 rfl) ?_
                        refine lv_iload_n hx hb dX4_make_225 rfl (lv_at hl 2 rfl) ?_
                        refine va_iast hx hb hK hP hD hS 2 0 rfl rfl (vp_in_nI (by omega) (by omega)) dX4_make_226 (fun H locs hP hD hS => ?_)
                        rw [nf_up (by omega)] at hP hD
                        have hP : va_P (dC, dI) vwCl (mw cI a sz st us kp ga gl cs mem (va_up f i (gAt st pl ln i)) g km ks kt ku kl kn cd wt) H := hP
                        have hD : va_D A (mw cI a sz st us kp ga gl cs mem (va_up f i (gAt st pl ln i)) g km ks kt ku kl kn cd wt) := hD
                        refine lv_aload_n hx hb dX4_make_227 rfl (lv_at hl 4 rfl) ?_
                        refine va_get (D := (dC, dI)) (ci := 4) (v := .ref (a 3)) (C := RX4) (T := TX4) (N := 18) hx hb hts in_X4 hown hK hP 0 rfl rfl 5 (by decide) lk_8 (fun _ h9 => h9) rfl dX4_make_228 ?_
                        refine lv_iload_n hx hb dX4_make_231 rfl (lv_at hl 3 rfl) ?_
                        refine lv_iload_n hx hb dX4_make_232 rfl (lv_at hl 5 rfl) ?_
                        refine va_iast hx hb hK hP hD hS 3 0 rfl rfl (vp_in_nI (by omega) (by omega)) dX4_make_233 (fun H locs hP hD hS => ?_)
                        rw [nf_up (by omega)] at hP hD
                        have hP : va_P (dC, dI) vwCl (mw cI a sz st us kp ga gl cs mem (va_up f i (gAt st pl ln i)) (va_up g i n) km ks kt ku kl kn cd wt) H := hP
                        have hD : va_D A (mw cI a sz st us kp ga gl cs mem (va_up f i (gAt st pl ln i)) (va_up g i n) km ks kt ku kl kn cd wt) := hD
                        refine lv_aload_n hx hb dX4_make_234 rfl (lv_at hl 4 rfl) ?_
                        refine lv_dup hx hb dX4_make_235 rfl ?_
                        refine va_get (D := (dC, dI)) (ci := 4) (v := .int (nI us)) (C := RX4) (T := TX4) (N := 18) hx hb hts in_X4 hown hK hP 0 rfl rfl 3 (by decide) lk_1 (fun _ h9 => h9) rfl dX4_make_236 ?_
                        refine lv_iconst (v := (nI 1)) hx hb dX4_make_239 (by decide) ?_
                        refine lv_iadd hx hb dX4_make_240 ?_
                        refine tpi (nI_add _ _) ?_
                        refine va_put (D := (dC, dI)) (ci := 4) (v := .int (nI (us + 1))) (ty := .int) (C := RX4) (T := TX4) (N := 18) hx hb hts in_X4 tyX4 tyX4_ok nmX4 hown hK hP hD hS 0 rfl rfl 3 (by decide) lk_1 (fun _ h9 => h9) rfl (by decide +kernel) rfl rfl (Nat.le_of_ble_eq_true rfl) dX4_make_241 (fun H locs hP hD hS => ?_)
                        have hP : va_P (dC, dI) vwCl (mw cI a sz st (us + 1) kp ga gl cs mem (va_up f i (gAt st pl ln i)) (va_up g i n) km ks kt ku kl kn cd wt) H := hP
                        have hD : va_D A (mw cI a sz st (us + 1) kp ga gl cs mem (va_up f i (gAt st pl ln i)) (va_up g i n) km ks kt ku kl kn cd wt) := hD
                        refine lv_iload_n hx hb dX4_make_244 rfl (lv_at hl 2 rfl) ?_
                        have e_sz : sz = mkZ sz st us pl ln (nI n) := by unfold mkZ; rw [if_pos hO, hcl, hmk, ← hG]
                        have e_st : st = mkS sz st us pl ln (nI n) := by unfold mkS; rw [if_neg (fun q => absurd q.2 (by omega))]
                        have e_us : us + 1 = mkU sz st us pl ln (nI n) := by unfold mkU; rw [if_pos hO]
                        have e_mem : mem = mkM sz st us pl ln mem (nI n) := by unfold mkM; rw [if_pos hO, hcl, hmk, ← hG, Nat.sub_self, zr_0]
                        have e_pl : va_up f i (gAt st pl ln i) = mkQ sz st us pl ln (nI n) := by unfold mkQ ins; rw [if_pos hO, hcl, hmk, hfit, hf, show k = i by omega]
                        have e_ln : va_up g i n = mkL sz st us pl ln (nI n) := by unfold mkL ins; rw [if_pos hO, hcl, hfit, hg, show k = i by omega]
                        have hP : va_P (dC, dI) vwCl (mw cI a (mkZ sz st us pl ln (nI n)) (mkS sz st us pl ln (nI n)) (mkU sz st us pl ln (nI n)) kp ga gl cs (mkM sz st us pl ln mem (nI n)) (mkQ sz st us pl ln (nI n)) (mkL sz st us pl ln (nI n)) km ks kt ku kl kn cd wt) H := by rw [← e_sz, ← e_st, ← e_us, ← e_mem, ← e_pl, ← e_ln]; exact hP
                        have hD : va_D A (mw cI a (mkZ sz st us pl ln (nI n)) (mkS sz st us pl ln (nI n)) (mkU sz st us pl ln (nI n)) kp ga gl cs (mkM sz st us pl ln mem (nI n)) (mkQ sz st us pl ln (nI n)) (mkL sz st us pl ln (nI n)) km ks kt ku kl kn cd wt) := by rw [← e_sz, ← e_st, ← e_us, ← e_mem, ← e_pl, ← e_ln]; exact hD
                        exact W.iret (v := (nI (gAt st pl ln i))) hx hb hr (fun t ht hW => ⟨⟨(nI (gAt st pl ln i)), (), rfl, (show (nI (gAt st pl ln i)) = mkR sz st us pl ln (nI n) from by unfold mkR; rw [if_neg (fun q => absurd ((nI_ltI n_n (by omega)).mp q) (by omega)), if_neg (by omega), hcl, if_neg (by rw [hmk]; omega), hmk]), by rw [ht]; exact hP, va_K.moved hW.alike hK, hD⟩, hS.F ht⟩) hS.2.2 dX4_make_245
                      · have c_179 : ¬ k ≤ i := fun q => c_179 ((nI_leI (a := k) (b := i) (by omega) (by omega)).mpr q)
                        refine lv_aload_n hx hb dX4_make_182 rfl (lv_at hl 4 rfl) ?_
                        refine va_get (D := (dC, dI)) (ci := 4) (v := .ref (a 2)) (C := RX4) (T := TX4) (N := 18) hx hb hts in_X4 hown hK hP 0 rfl rfl 4 (by decide) lk_7 (fun _ h9 => h9) rfl dX4_make_183 ?_
                        refine lv_iload hx hb dX4_make_186 (lv_at hl 0 rfl) ?_
                        refine lv_aload_n hx hb dX4_make_188 rfl (lv_at hl 4 rfl) ?_
                        refine va_get (D := (dC, dI)) (ci := 4) (v := .ref (a 2)) (C := RX4) (T := TX4) (N := 18) hx hb hts in_X4 hown hK hP 0 rfl rfl 4 (by decide) lk_7 (fun _ h9 => h9) rfl dX4_make_189 ?_
                        refine lv_iload hx hb dX4_make_192 (lv_at hl 0 rfl) ?_
                        refine lv_iconst (v := (nI 1)) hx hb dX4_make_194 (by decide) ?_
                        refine lv_isub hx hb dX4_make_195 ?_
                        refine tpi (pk_sub (by omega)) ?_
                        refine va_iald hx hb hK hP 2 0 rfl rfl (vp_in_nI (by omega) (by omega)) dX4_make_196 ?_
                        refine tpi (nf_at (by omega)) ?_
                        refine va_iast hx hb hK hP hD hS 2 0 rfl rfl (vp_in_nI (by omega) (by omega)) dX4_make_197 (fun H locs hP hD hS => ?_)
                        rw [nf_up (by omega)] at hP hD
                        have hP : va_P (dC, dI) vwCl (mw cI a sz st us kp ga gl cs mem (va_up f k (f (k - 1))) g km ks kt ku kl kn cd wt) H := hP
                        have hD : va_D A (mw cI a sz st us kp ga gl cs mem (va_up f k (f (k - 1))) g km ks kt ku kl kn cd wt) := hD
                        refine lv_aload_n hx hb dX4_make_198 rfl (lv_at hl 4 rfl) ?_
                        refine va_get (D := (dC, dI)) (ci := 4) (v := .ref (a 3)) (C := RX4) (T := TX4) (N := 18) hx hb hts in_X4 hown hK hP 0 rfl rfl 5 (by decide) lk_8 (fun _ h9 => h9) rfl dX4_make_199 ?_
                        refine lv_iload hx hb dX4_make_202 (lv_at hl 0 rfl) ?_
                        refine lv_aload_n hx hb dX4_make_204 rfl (lv_at hl 4 rfl) ?_
                        refine va_get (D := (dC, dI)) (ci := 4) (v := .ref (a 3)) (C := RX4) (T := TX4) (N := 18) hx hb hts in_X4 hown hK hP 0 rfl rfl 5 (by decide) lk_8 (fun _ h9 => h9) rfl dX4_make_205 ?_
                        refine lv_iload hx hb dX4_make_208 (lv_at hl 0 rfl) ?_
                        refine lv_iconst (v := (nI 1)) hx hb dX4_make_210 (by decide) ?_
                        refine lv_isub hx hb dX4_make_211 ?_
                        refine tpi (pk_sub (by omega)) ?_
                        refine va_iald hx hb hK hP 3 0 rfl rfl (vp_in_nI (by omega) (by omega)) dX4_make_212 ?_
                        refine tpi (nf_at (by omega)) ?_
                        refine va_iast hx hb hK hP hD hS 3 0 rfl rfl (vp_in_nI (by omega) (by omega)) dX4_make_213 (fun H locs hP hD hS => ?_)
                        rw [nf_up (by omega)] at hP hD
                        have hP : va_P (dC, dI) vwCl (mw cI a sz st us kp ga gl cs mem (va_up f k (f (k - 1))) (va_up g k (g (k - 1))) km ks kt ku kl kn cd wt) H := hP
                        have hD : va_D A (mw cI a sz st us kp ga gl cs mem (va_up f k (f (k - 1))) (va_up g k (g (k - 1))) km ks kt ku kl kn cd wt) := hD
                        refine lv_iinc (v := (nI (k - 1))) (lv' := [(6, .int (nI (k - 1))), (4, .long (lN (gAt st pl ln i + n))), (2, .int (nI (gAt st pl ln i))), (3, .int (nI i)), (0, .ref (a 0)), (1, .int (nI n))]) hx hb dX4_make_214 hl (k := 0) rfl (nI_dec (by omega)) (by decide) rfl (fun ls hl => ?_)
                        refine lv_goto (tgt := 176) hx hb dX4_make_217 (by decide) ?_
                        exact ih_176 (k - 1, va_up f k (f (k - 1)), va_up g k (g (k - 1))) (⟨by omega, by omega, by rw [hf, shf_s (by omega) hk2], by rw [hg, shf_s (by omega) hk2]⟩) (show (k - 1) < k by omega) H locs ls (hP) (hD) hS (lv_sub hl [0, 1, 2, 3, 4, 5] rfl)
                    · have c_137 : i = us := (nI_eq (a := i) (b := us) (by omega) (by omega)).mp c_137
                      refine lv_lload hx hb dX4_make_140 (lv_at hl 0 rfl) ?_
                      refine lv_aload_n hx hb dX4_make_142 rfl (lv_at hl 3 rfl) ?_
                      refine va_get (D := (dC, dI)) (ci := 4) (v := .int (nI sz)) (C := RX4) (T := TX4) (N := 18) hx hb hts in_X4 hown hK hP 0 rfl rfl 1 (by decide) lk_2 (fun _ h9 => h9) rfl dX4_make_143 ?_
                      refine lv_i2l (v := lN sz) hx hb dX4_make_146 (nI_l (by omega)) ?_
                      refine W.lcmp hx hb dX4_make_147 ?_
                      refine lv_if_le (tgt := 170) hx hb dX4_make_148 (by decide) (fun c_148 => ?_) (fun c_148 => ?_)
                      · have c_148 : gAt st pl ln i + n ≤ sz := (pk_lLE (a := gAt st pl ln i + n) (b := sz) (by omega) (by omega)).mp ((lg_cmp_le _ _).mp c_148)
                        have hG : sz = mkG sz (gAt st pl ln i + n) := by unfold mkG; rw [if_neg (by omega)]
                        refine lv_aload_n hx hb dX4_make_170 rfl (lv_at hl 3 rfl) ?_
                        refine va_get (D := (dC, dI)) (ci := 4) (v := .int (nI us)) (C := RX4) (T := TX4) (N := 18) hx hb hts in_X4 hown hK hP 0 rfl rfl 3 (by decide) lk_1 (fun _ h9 => h9) rfl dX4_make_171 ?_
                        refine lv_istore (lv' := [(6, .int (nI us)), (4, .long (lN (gAt st pl ln i + n))), (2, .int (nI (gAt st pl ln i))), (3, .int (nI i)), (0, .ref (a 0)), (1, .int (nI n))]) hx hb dX4_make_174 hl (by decide) rfl (fun ls hl => ?_)
                        refine lp_world (σ := Nat × (Nat → Nat) × (Nat → Nat)) (fun ⟨k, f, g⟩ => i ≤ k ∧ k ≤ us ∧ f = shf pl k us ∧ g = shf ln k us) (fun ⟨k, f, g⟩ => k) (fun ⟨k, f, g⟩ => [(6, .int (nI k)), (4, .long (lN (gAt st pl ln i + n))), (2, .int (nI (gAt st pl ln i))), (3, .int (nI i)), (0, .ref (a 0)), (1, .int (nI n))]) (fun ⟨k, f, g⟩ => mw cI a sz st us kp ga gl cs mem f g km ks kt ku kl kn cd wt) ?_ ((us, pl, ln)) (⟨by omega, Nat.le_refl _, by rw [shf_0], by rw [shf_0]⟩) (hP) (hD) hS (lv_sub hl [0, 1, 2, 3, 4, 5] rfl)
                        intro ⟨k, f, g⟩ hI ih H locs ls hP hD hS hl
                        have hl : lv_has ls 7 [(6, .int (nI k)), (4, .long (lN (gAt st pl ln i + n))), (2, .int (nI (gAt st pl ln i))), (3, .int (nI i)), (0, .ref (a 0)), (1, .int (nI n))] := hl
                        have hP : va_P (dC, dI) vwCl (mw cI a sz st us kp ga gl cs mem f g km ks kt ku kl kn cd wt) H := hP
                        have hD : va_D A (mw cI a sz st us kp ga gl cs mem f g km ks kt ku kl kn cd wt) := hD
                        have hI : i ≤ k ∧ k ≤ us ∧ f = shf pl k us ∧ g = shf ln k us := hI
                        obtain ⟨hk1, hk2, hf, hg⟩ := hI
                        have ih_176 := ih
                        refine lv_iload hx hb dX4_make_176 (lv_at hl 0 rfl) ?_
                        refine lv_iload_n hx hb dX4_make_178 rfl (lv_at hl 3 rfl) ?_
                        refine lv_icmp_le (tgt := 220) hx hb dX4_make_179 (by decide) (fun c_179 => ?_) (fun c_179 => ?_)
                        · have c_179 : k ≤ i := (nI_leI (a := k) (b := i) (by omega) (by omega)).mp c_179
                          refine lv_aload_n hx hb dX4_make_220 rfl (lv_at hl 4 rfl) ?_
                          refine va_get (D := (dC, dI)) (ci := 4) (v := .ref (a 2)) (C := RX4) (T := TX4) (N := 18) hx hb hts in_X4 hown hK hP 0 rfl rfl 4 (by decide) lk_7 (fun _ h9 => h9) rfl dX4_make_221 ?_
                          refine lv_iload_n hx hb dX4_make_224 rfl (lv_at hl 3 rfl) ?_
                          refine lv_iload_n hx hb dX4_make_225 rfl (lv_at hl 2 rfl) ?_
                          refine va_iast hx hb hK hP hD hS 2 0 rfl rfl (vp_in_nI (by omega) (by omega)) dX4_make_226 (fun H locs hP hD hS => ?_)
                          rw [nf_up (by omega)] at hP hD
                          have hP : va_P (dC, dI) vwCl (mw cI a sz st us kp ga gl cs mem (va_up f i (gAt st pl ln i)) g km ks kt ku kl kn cd wt) H := hP
                          have hD : va_D A (mw cI a sz st us kp ga gl cs mem (va_up f i (gAt st pl ln i)) g km ks kt ku kl kn cd wt) := hD
                          refine lv_aload_n hx hb dX4_make_227 rfl (lv_at hl 4 rfl) ?_
                          refine va_get (D := (dC, dI)) (ci := 4) (v := .ref (a 3)) (C := RX4) (T := TX4) (N := 18) hx hb hts in_X4 hown hK hP 0 rfl rfl 5 (by decide) lk_8 (fun _ h9 => h9) rfl dX4_make_228 ?_
                          refine lv_iload_n hx hb dX4_make_231 rfl (lv_at hl 3 rfl) ?_
                          refine lv_iload_n hx hb dX4_make_232 rfl (lv_at hl 5 rfl) ?_
                          refine va_iast hx hb hK hP hD hS 3 0 rfl rfl (vp_in_nI (by omega) (by omega)) dX4_make_233 (fun H locs hP hD hS => ?_)
                          rw [nf_up (by omega)] at hP hD
                          have hP : va_P (dC, dI) vwCl (mw cI a sz st us kp ga gl cs mem (va_up f i (gAt st pl ln i)) (va_up g i n) km ks kt ku kl kn cd wt) H := hP
                          have hD : va_D A (mw cI a sz st us kp ga gl cs mem (va_up f i (gAt st pl ln i)) (va_up g i n) km ks kt ku kl kn cd wt) := hD
                          refine lv_aload_n hx hb dX4_make_234 rfl (lv_at hl 4 rfl) ?_
                          refine lv_dup hx hb dX4_make_235 rfl ?_
                          refine va_get (D := (dC, dI)) (ci := 4) (v := .int (nI us)) (C := RX4) (T := TX4) (N := 18) hx hb hts in_X4 hown hK hP 0 rfl rfl 3 (by decide) lk_1 (fun _ h9 => h9) rfl dX4_make_236 ?_
                          refine lv_iconst (v := (nI 1)) hx hb dX4_make_239 (by decide) ?_
                          refine lv_iadd hx hb dX4_make_240 ?_
                          refine tpi (nI_add _ _) ?_
                          refine va_put (D := (dC, dI)) (ci := 4) (v := .int (nI (us + 1))) (ty := .int) (C := RX4) (T := TX4) (N := 18) hx hb hts in_X4 tyX4 tyX4_ok nmX4 hown hK hP hD hS 0 rfl rfl 3 (by decide) lk_1 (fun _ h9 => h9) rfl (by decide +kernel) rfl rfl (Nat.le_of_ble_eq_true rfl) dX4_make_241 (fun H locs hP hD hS => ?_)
                          have hP : va_P (dC, dI) vwCl (mw cI a sz st (us + 1) kp ga gl cs mem (va_up f i (gAt st pl ln i)) (va_up g i n) km ks kt ku kl kn cd wt) H := hP
                          have hD : va_D A (mw cI a sz st (us + 1) kp ga gl cs mem (va_up f i (gAt st pl ln i)) (va_up g i n) km ks kt ku kl kn cd wt) := hD
                          refine lv_iload_n hx hb dX4_make_244 rfl (lv_at hl 2 rfl) ?_
                          have e_sz : sz = mkZ sz st us pl ln (nI n) := by unfold mkZ; rw [if_pos hO, hcl, hmk, ← hG]
                          have e_st : st = mkS sz st us pl ln (nI n) := by unfold mkS; rw [if_neg (fun q => absurd q.2 (by omega))]
                          have e_us : us + 1 = mkU sz st us pl ln (nI n) := by unfold mkU; rw [if_pos hO]
                          have e_mem : mem = mkM sz st us pl ln mem (nI n) := by unfold mkM; rw [if_pos hO, hcl, hmk, ← hG, Nat.sub_self, zr_0]
                          have e_pl : va_up f i (gAt st pl ln i) = mkQ sz st us pl ln (nI n) := by unfold mkQ ins; rw [if_pos hO, hcl, hmk, hfit, hf, show k = i by omega]
                          have e_ln : va_up g i n = mkL sz st us pl ln (nI n) := by unfold mkL ins; rw [if_pos hO, hcl, hfit, hg, show k = i by omega]
                          have hP : va_P (dC, dI) vwCl (mw cI a (mkZ sz st us pl ln (nI n)) (mkS sz st us pl ln (nI n)) (mkU sz st us pl ln (nI n)) kp ga gl cs (mkM sz st us pl ln mem (nI n)) (mkQ sz st us pl ln (nI n)) (mkL sz st us pl ln (nI n)) km ks kt ku kl kn cd wt) H := by rw [← e_sz, ← e_st, ← e_us, ← e_mem, ← e_pl, ← e_ln]; exact hP
                          have hD : va_D A (mw cI a (mkZ sz st us pl ln (nI n)) (mkS sz st us pl ln (nI n)) (mkU sz st us pl ln (nI n)) kp ga gl cs (mkM sz st us pl ln mem (nI n)) (mkQ sz st us pl ln (nI n)) (mkL sz st us pl ln (nI n)) km ks kt ku kl kn cd wt) := by rw [← e_sz, ← e_st, ← e_us, ← e_mem, ← e_pl, ← e_ln]; exact hD
                          exact W.iret (v := (nI (gAt st pl ln i))) hx hb hr (fun t ht hW => ⟨⟨(nI (gAt st pl ln i)), (), rfl, (show (nI (gAt st pl ln i)) = mkR sz st us pl ln (nI n) from by unfold mkR; rw [if_neg (fun q => absurd ((nI_ltI n_n (by omega)).mp q) (by omega)), if_neg (by omega), hcl, if_neg (by rw [hmk]; omega), hmk]), by rw [ht]; exact hP, va_K.moved hW.alike hK, hD⟩, hS.F ht⟩) hS.2.2 dX4_make_245
                        · have c_179 : ¬ k ≤ i := fun q => c_179 ((nI_leI (a := k) (b := i) (by omega) (by omega)).mpr q)
                          refine lv_aload_n hx hb dX4_make_182 rfl (lv_at hl 4 rfl) ?_
                          refine va_get (D := (dC, dI)) (ci := 4) (v := .ref (a 2)) (C := RX4) (T := TX4) (N := 18) hx hb hts in_X4 hown hK hP 0 rfl rfl 4 (by decide) lk_7 (fun _ h9 => h9) rfl dX4_make_183 ?_
                          refine lv_iload hx hb dX4_make_186 (lv_at hl 0 rfl) ?_
                          refine lv_aload_n hx hb dX4_make_188 rfl (lv_at hl 4 rfl) ?_
                          refine va_get (D := (dC, dI)) (ci := 4) (v := .ref (a 2)) (C := RX4) (T := TX4) (N := 18) hx hb hts in_X4 hown hK hP 0 rfl rfl 4 (by decide) lk_7 (fun _ h9 => h9) rfl dX4_make_189 ?_
                          refine lv_iload hx hb dX4_make_192 (lv_at hl 0 rfl) ?_
                          refine lv_iconst (v := (nI 1)) hx hb dX4_make_194 (by decide) ?_
                          refine lv_isub hx hb dX4_make_195 ?_
                          refine tpi (pk_sub (by omega)) ?_
                          refine va_iald hx hb hK hP 2 0 rfl rfl (vp_in_nI (by omega) (by omega)) dX4_make_196 ?_
                          refine tpi (nf_at (by omega)) ?_
                          refine va_iast hx hb hK hP hD hS 2 0 rfl rfl (vp_in_nI (by omega) (by omega)) dX4_make_197 (fun H locs hP hD hS => ?_)
                          rw [nf_up (by omega)] at hP hD
                          have hP : va_P (dC, dI) vwCl (mw cI a sz st us kp ga gl cs mem (va_up f k (f (k - 1))) g km ks kt ku kl kn cd wt) H := hP
                          have hD : va_D A (mw cI a sz st us kp ga gl cs mem (va_up f k (f (k - 1))) g km ks kt ku kl kn cd wt) := hD
                          refine lv_aload_n hx hb dX4_make_198 rfl (lv_at hl 4 rfl) ?_
                          refine va_get (D := (dC, dI)) (ci := 4) (v := .ref (a 3)) (C := RX4) (T := TX4) (N := 18) hx hb hts in_X4 hown hK hP 0 rfl rfl 5 (by decide) lk_8 (fun _ h9 => h9) rfl dX4_make_199 ?_
                          refine lv_iload hx hb dX4_make_202 (lv_at hl 0 rfl) ?_
                          refine lv_aload_n hx hb dX4_make_204 rfl (lv_at hl 4 rfl) ?_
                          refine va_get (D := (dC, dI)) (ci := 4) (v := .ref (a 3)) (C := RX4) (T := TX4) (N := 18) hx hb hts in_X4 hown hK hP 0 rfl rfl 5 (by decide) lk_8 (fun _ h9 => h9) rfl dX4_make_205 ?_
                          refine lv_iload hx hb dX4_make_208 (lv_at hl 0 rfl) ?_
                          refine lv_iconst (v := (nI 1)) hx hb dX4_make_210 (by decide) ?_
                          refine lv_isub hx hb dX4_make_211 ?_
                          refine tpi (pk_sub (by omega)) ?_
                          refine va_iald hx hb hK hP 3 0 rfl rfl (vp_in_nI (by omega) (by omega)) dX4_make_212 ?_
                          refine tpi (nf_at (by omega)) ?_
                          refine va_iast hx hb hK hP hD hS 3 0 rfl rfl (vp_in_nI (by omega) (by omega)) dX4_make_213 (fun H locs hP hD hS => ?_)
                          rw [nf_up (by omega)] at hP hD
                          have hP : va_P (dC, dI) vwCl (mw cI a sz st us kp ga gl cs mem (va_up f k (f (k - 1))) (va_up g k (g (k - 1))) km ks kt ku kl kn cd wt) H := hP
                          have hD : va_D A (mw cI a sz st us kp ga gl cs mem (va_up f k (f (k - 1))) (va_up g k (g (k - 1))) km ks kt ku kl kn cd wt) := hD
                          refine lv_iinc (v := (nI (k - 1))) (lv' := [(6, .int (nI (k - 1))), (4, .long (lN (gAt st pl ln i + n))), (2, .int (nI (gAt st pl ln i))), (3, .int (nI i)), (0, .ref (a 0)), (1, .int (nI n))]) hx hb dX4_make_214 hl (k := 0) rfl (nI_dec (by omega)) (by decide) rfl (fun ls hl => ?_)
                          refine lv_goto (tgt := 176) hx hb dX4_make_217 (by decide) ?_
                          exact ih_176 (k - 1, va_up f k (f (k - 1)), va_up g k (g (k - 1))) (⟨by omega, by omega, by rw [hf, shf_s (by omega) hk2], by rw [hg, shf_s (by omega) hk2]⟩) (show (k - 1) < k by omega) H locs ls (hP) (hD) hS (lv_sub hl [0, 1, 2, 3, 4, 5] rfl)
                      · have c_148 : ¬ gAt st pl ln i + n ≤ sz := fun q => c_148 ((lg_cmp_le _ _).mpr ((pk_lLE (a := gAt st pl ln i + n) (b := sz) (by omega) (by omega)).mpr q))
                        refine lv_aload_n hx hb dX4_make_151 rfl (lv_at hl 3 rfl) ?_
                        refine lv_lload hx hb dX4_make_152 (lv_at hl 0 rfl) ?_
                        refine lv_ldc2 (own := RX4) (v := (255)) hx hb hown lk_5 dX4_make_154 ?_
                        refine tpl (show (255 : Int64) = lN 255 from rfl) ?_
                        refine lv_ladd hx hb dX4_make_157 ?_
                        refine tpl (lN_add _ _) ?_
                        refine lv_ldc2 (own := RX4) (v := (256)) hx hb hown lk_6 dX4_make_158 ?_
                        refine tpl (show (256 : Int64) = lN 256 from rfl) ?_
                        refine lv_ldiv hx hb dX4_make_161 (by decide) ?_
                        refine tpl (pk_lDiv (by omega) (by decide) (by decide)) ?_
                        refine lv_ldc2 (own := RX4) (v := (256)) hx hb hown lk_6 dX4_make_162 ?_
                        refine tpl (show (256 : Int64) = lN 256 from rfl) ?_
                        refine lv_lmul hx hb dX4_make_165 ?_
                        refine tpl (lN_mul _ _) ?_
                        refine lv_l2i (v := nI (((gAt st pl ln i + n + 255) / 256) * 256)) hx hb dX4_make_166 (lN_i _) ?_
                        have hFc := va_free (wc := mw cI a sz st us kp ga gl cs mem pl ln km ks kt ku kl kn cd wt) hD hS hA [0, 1, 2, 3, 4, 5, 6, 7, 8, 9, 10, 11] rfl
                        refine va_callv (va_runV (As := [.int (nI (((gAt st pl ln i + n + 255) / 256) * 256))]) (rest := []) ⟨hx, hb, hml, hown, hts⟩ (c_X4_grow l dC dI cI a sz st us kp ga gl cs mem pl ln km ks kt ku kl kn cd wt s.heap.size (((gAt st pl ln i + n + 255) / 256) * 256) (by omega) (by omega)) (cwV 1 hts gX4_make_X4_grow rfl rfl rfl (by decide +kernel) ⟨Nat.le_of_ble_eq_true rfl, Nat.le_of_ble_eq_true rfl⟩) ⟨fun a9 U g9 mk9 q9 => by obtain ⟨q0, q1, qP, qK, qD⟩ := q9; exact ⟨q0, q1, qP, va_K.moved (u := U) (U := U.calling g9 mk9 a9) (Vm.Alike.refl U.vm) qK, qD⟩, va_recv hK hP (ci := 4) (q0 := 0) rfl rfl, fun U hU hW => ⟨rfl, by rw [hU], by rw [hU]; exact hP, va_K.moved hW.alike hK, hD.weaken (fun _ _ _ _ => trivial)⟩⟩ rfl rfl hl.1 rfl (lv_room (Nat.le_of_ble_eq_true rfl)) dX4_make_167 ⟨Nat.zero_le _, Nat.zero_le _⟩) hS (fun q _ h => hFc q h) hFc (fun u t H1 locs ht hvm hw hB hz1 hk1 hS => ?_)
                        obtain ⟨hP1, hK1, hD1⟩ := hB
                        rw [ht] at hP1
                        obtain ⟨hP, hD⟩ := va_join (wr := []) (w1 := mw cI a (((gAt st pl ln i + n + 255) / 256) * 256) st us kp ga gl cs (zr mem sz (((gAt st pl ln i + n + 255) / 256) * 256 - sz)) pl ln km ks kt ku kl kn cd wt) hP hD [0, 1, 2, 3, 4, 5, 6, 7, 8, 9, 10, 11] [] rfl rfl (by decide) (by decide) hk1 hFc hP1 hD1
                        generalize H1 = H at hP hS ⊢
                        have hP : va_P (dC, dI) vwCl (mw cI a (((gAt st pl ln i + n + 255) / 256) * 256) st us kp ga gl cs (zr mem sz (((gAt st pl ln i + n + 255) / 256) * 256 - sz)) pl ln km ks kt ku kl kn cd wt) H := hP
                        have hD : va_D A (mw cI a (((gAt st pl ln i + n + 255) / 256) * 256) st us kp ga gl cs (zr mem sz (((gAt st pl ln i + n + 255) / 256) * 256 - sz)) pl ln km ks kt ku kl kn cd wt) := hD
                        have hG : (gAt st pl ln i + n + 255) / 256 * 256 = mkG sz (gAt st pl ln i + n) := by unfold mkG; rw [if_pos (by omega)]
                        refine lv_aload_n hx hb dX4_make_170 rfl (lv_at hl 3 rfl) ?_
                        refine va_get (D := (dC, dI)) (ci := 4) (v := .int (nI us)) (C := RX4) (T := TX4) (N := 18) hx hb hts in_X4 hown hK hP 0 rfl rfl 3 (by decide) lk_1 (fun _ h9 => h9) rfl dX4_make_171 ?_
                        refine lv_istore (lv' := [(6, .int (nI us)), (4, .long (lN (gAt st pl ln i + n))), (2, .int (nI (gAt st pl ln i))), (3, .int (nI i)), (0, .ref (a 0)), (1, .int (nI n))]) hx hb dX4_make_174 hl (by decide) rfl (fun ls hl => ?_)
                        refine lp_world (σ := Nat × (Nat → Nat) × (Nat → Nat)) (fun ⟨k, f, g⟩ => i ≤ k ∧ k ≤ us ∧ f = shf pl k us ∧ g = shf ln k us) (fun ⟨k, f, g⟩ => k) (fun ⟨k, f, g⟩ => [(6, .int (nI k)), (4, .long (lN (gAt st pl ln i + n))), (2, .int (nI (gAt st pl ln i))), (3, .int (nI i)), (0, .ref (a 0)), (1, .int (nI n))]) (fun ⟨k, f, g⟩ => mw cI a (((gAt st pl ln i + n + 255) / 256) * 256) st us kp ga gl cs (zr mem sz (((gAt st pl ln i + n + 255) / 256) * 256 - sz)) f g km ks kt ku kl kn cd wt) ?_ ((us, pl, ln)) (⟨by omega, Nat.le_refl _, by rw [shf_0], by rw [shf_0]⟩) (hP) (hD) hS (lv_sub hl [0, 1, 2, 3, 4, 5] rfl)
                        intro ⟨k, f, g⟩ hI ih H locs ls hP hD hS hl
                        have hl : lv_has ls 7 [(6, .int (nI k)), (4, .long (lN (gAt st pl ln i + n))), (2, .int (nI (gAt st pl ln i))), (3, .int (nI i)), (0, .ref (a 0)), (1, .int (nI n))] := hl
                        have hP : va_P (dC, dI) vwCl (mw cI a (((gAt st pl ln i + n + 255) / 256) * 256) st us kp ga gl cs (zr mem sz (((gAt st pl ln i + n + 255) / 256) * 256 - sz)) f g km ks kt ku kl kn cd wt) H := hP
                        have hD : va_D A (mw cI a (((gAt st pl ln i + n + 255) / 256) * 256) st us kp ga gl cs (zr mem sz (((gAt st pl ln i + n + 255) / 256) * 256 - sz)) f g km ks kt ku kl kn cd wt) := hD
                        have hI : i ≤ k ∧ k ≤ us ∧ f = shf pl k us ∧ g = shf ln k us := hI
                        obtain ⟨hk1, hk2, hf, hg⟩ := hI
                        have ih_176 := ih
                        refine lv_iload hx hb dX4_make_176 (lv_at hl 0 rfl) ?_
                        refine lv_iload_n hx hb dX4_make_178 rfl (lv_at hl 3 rfl) ?_
                        refine lv_icmp_le (tgt := 220) hx hb dX4_make_179 (by decide) (fun c_179 => ?_) (fun c_179 => ?_)
                        · have c_179 : k ≤ i := (nI_leI (a := k) (b := i) (by omega) (by omega)).mp c_179
                          refine lv_aload_n hx hb dX4_make_220 rfl (lv_at hl 4 rfl) ?_
                          refine va_get (D := (dC, dI)) (ci := 4) (v := .ref (a 2)) (C := RX4) (T := TX4) (N := 18) hx hb hts in_X4 hown hK hP 0 rfl rfl 4 (by decide) lk_7 (fun _ h9 => h9) rfl dX4_make_221 ?_
                          refine lv_iload_n hx hb dX4_make_224 rfl (lv_at hl 3 rfl) ?_
                          refine lv_iload_n hx hb dX4_make_225 rfl (lv_at hl 2 rfl) ?_
                          refine va_iast hx hb hK hP hD hS 2 0 rfl rfl (vp_in_nI (by omega) (by omega)) dX4_make_226 (fun H locs hP hD hS => ?_)
                          rw [nf_up (by omega)] at hP hD
                          have hP : va_P (dC, dI) vwCl (mw cI a (((gAt st pl ln i + n + 255) / 256) * 256) st us kp ga gl cs (zr mem sz (((gAt st pl ln i + n + 255) / 256) * 256 - sz)) (va_up f i (gAt st pl ln i)) g km ks kt ku kl kn cd wt) H := hP
                          have hD : va_D A (mw cI a (((gAt st pl ln i + n + 255) / 256) * 256) st us kp ga gl cs (zr mem sz (((gAt st pl ln i + n + 255) / 256) * 256 - sz)) (va_up f i (gAt st pl ln i)) g km ks kt ku kl kn cd wt) := hD
                          refine lv_aload_n hx hb dX4_make_227 rfl (lv_at hl 4 rfl) ?_
                          refine va_get (D := (dC, dI)) (ci := 4) (v := .ref (a 3)) (C := RX4) (T := TX4) (N := 18) hx hb hts in_X4 hown hK hP 0 rfl rfl 5 (by decide) lk_8 (fun _ h9 => h9) rfl dX4_make_228 ?_
                          refine lv_iload_n hx hb dX4_make_231 rfl (lv_at hl 3 rfl) ?_
                          refine lv_iload_n hx hb dX4_make_232 rfl (lv_at hl 5 rfl) ?_
                          refine va_iast hx hb hK hP hD hS 3 0 rfl rfl (vp_in_nI (by omega) (by omega)) dX4_make_233 (fun H locs hP hD hS => ?_)
                          rw [nf_up (by omega)] at hP hD
                          have hP : va_P (dC, dI) vwCl (mw cI a (((gAt st pl ln i + n + 255) / 256) * 256) st us kp ga gl cs (zr mem sz (((gAt st pl ln i + n + 255) / 256) * 256 - sz)) (va_up f i (gAt st pl ln i)) (va_up g i n) km ks kt ku kl kn cd wt) H := hP
                          have hD : va_D A (mw cI a (((gAt st pl ln i + n + 255) / 256) * 256) st us kp ga gl cs (zr mem sz (((gAt st pl ln i + n + 255) / 256) * 256 - sz)) (va_up f i (gAt st pl ln i)) (va_up g i n) km ks kt ku kl kn cd wt) := hD
                          refine lv_aload_n hx hb dX4_make_234 rfl (lv_at hl 4 rfl) ?_
                          refine lv_dup hx hb dX4_make_235 rfl ?_
                          refine va_get (D := (dC, dI)) (ci := 4) (v := .int (nI us)) (C := RX4) (T := TX4) (N := 18) hx hb hts in_X4 hown hK hP 0 rfl rfl 3 (by decide) lk_1 (fun _ h9 => h9) rfl dX4_make_236 ?_
                          refine lv_iconst (v := (nI 1)) hx hb dX4_make_239 (by decide) ?_
                          refine lv_iadd hx hb dX4_make_240 ?_
                          refine tpi (nI_add _ _) ?_
                          refine va_put (D := (dC, dI)) (ci := 4) (v := .int (nI (us + 1))) (ty := .int) (C := RX4) (T := TX4) (N := 18) hx hb hts in_X4 tyX4 tyX4_ok nmX4 hown hK hP hD hS 0 rfl rfl 3 (by decide) lk_1 (fun _ h9 => h9) rfl (by decide +kernel) rfl rfl (Nat.le_of_ble_eq_true rfl) dX4_make_241 (fun H locs hP hD hS => ?_)
                          have hP : va_P (dC, dI) vwCl (mw cI a (((gAt st pl ln i + n + 255) / 256) * 256) st (us + 1) kp ga gl cs (zr mem sz (((gAt st pl ln i + n + 255) / 256) * 256 - sz)) (va_up f i (gAt st pl ln i)) (va_up g i n) km ks kt ku kl kn cd wt) H := hP
                          have hD : va_D A (mw cI a (((gAt st pl ln i + n + 255) / 256) * 256) st (us + 1) kp ga gl cs (zr mem sz (((gAt st pl ln i + n + 255) / 256) * 256 - sz)) (va_up f i (gAt st pl ln i)) (va_up g i n) km ks kt ku kl kn cd wt) := hD
                          refine lv_iload_n hx hb dX4_make_244 rfl (lv_at hl 2 rfl) ?_
                          have e_sz : ((gAt st pl ln i + n + 255) / 256) * 256 = mkZ sz st us pl ln (nI n) := by unfold mkZ; rw [if_pos hO, hcl, hmk, ← hG]
                          have e_st : st = mkS sz st us pl ln (nI n) := by unfold mkS; rw [if_neg (fun q => absurd q.2 (by omega))]
                          have e_us : us + 1 = mkU sz st us pl ln (nI n) := by unfold mkU; rw [if_pos hO]
                          have e_mem : zr mem sz (((gAt st pl ln i + n + 255) / 256) * 256 - sz) = mkM sz st us pl ln mem (nI n) := by unfold mkM; rw [if_pos hO, hcl, hmk, ← hG]
                          have e_pl : va_up f i (gAt st pl ln i) = mkQ sz st us pl ln (nI n) := by unfold mkQ ins; rw [if_pos hO, hcl, hmk, hfit, hf, show k = i by omega]
                          have e_ln : va_up g i n = mkL sz st us pl ln (nI n) := by unfold mkL ins; rw [if_pos hO, hcl, hfit, hg, show k = i by omega]
                          have hP : va_P (dC, dI) vwCl (mw cI a (mkZ sz st us pl ln (nI n)) (mkS sz st us pl ln (nI n)) (mkU sz st us pl ln (nI n)) kp ga gl cs (mkM sz st us pl ln mem (nI n)) (mkQ sz st us pl ln (nI n)) (mkL sz st us pl ln (nI n)) km ks kt ku kl kn cd wt) H := by rw [← e_sz, ← e_st, ← e_us, ← e_mem, ← e_pl, ← e_ln]; exact hP
                          have hD : va_D A (mw cI a (mkZ sz st us pl ln (nI n)) (mkS sz st us pl ln (nI n)) (mkU sz st us pl ln (nI n)) kp ga gl cs (mkM sz st us pl ln mem (nI n)) (mkQ sz st us pl ln (nI n)) (mkL sz st us pl ln (nI n)) km ks kt ku kl kn cd wt) := by rw [← e_sz, ← e_st, ← e_us, ← e_mem, ← e_pl, ← e_ln]; exact hD
                          exact W.iret (v := (nI (gAt st pl ln i))) hx hb hr (fun t ht hW => ⟨⟨(nI (gAt st pl ln i)), (), rfl, (show (nI (gAt st pl ln i)) = mkR sz st us pl ln (nI n) from by unfold mkR; rw [if_neg (fun q => absurd ((nI_ltI n_n (by omega)).mp q) (by omega)), if_neg (by omega), hcl, if_neg (by rw [hmk]; omega), hmk]), by rw [ht]; exact hP, va_K.moved hW.alike hK, hD⟩, hS.F ht⟩) hS.2.2 dX4_make_245
                        · have c_179 : ¬ k ≤ i := fun q => c_179 ((nI_leI (a := k) (b := i) (by omega) (by omega)).mpr q)
                          refine lv_aload_n hx hb dX4_make_182 rfl (lv_at hl 4 rfl) ?_
                          refine va_get (D := (dC, dI)) (ci := 4) (v := .ref (a 2)) (C := RX4) (T := TX4) (N := 18) hx hb hts in_X4 hown hK hP 0 rfl rfl 4 (by decide) lk_7 (fun _ h9 => h9) rfl dX4_make_183 ?_
                          refine lv_iload hx hb dX4_make_186 (lv_at hl 0 rfl) ?_
                          refine lv_aload_n hx hb dX4_make_188 rfl (lv_at hl 4 rfl) ?_
                          refine va_get (D := (dC, dI)) (ci := 4) (v := .ref (a 2)) (C := RX4) (T := TX4) (N := 18) hx hb hts in_X4 hown hK hP 0 rfl rfl 4 (by decide) lk_7 (fun _ h9 => h9) rfl dX4_make_189 ?_
                          refine lv_iload hx hb dX4_make_192 (lv_at hl 0 rfl) ?_
                          refine lv_iconst (v := (nI 1)) hx hb dX4_make_194 (by decide) ?_
                          refine lv_isub hx hb dX4_make_195 ?_
                          refine tpi (pk_sub (by omega)) ?_
                          refine va_iald hx hb hK hP 2 0 rfl rfl (vp_in_nI (by omega) (by omega)) dX4_make_196 ?_
                          refine tpi (nf_at (by omega)) ?_
                          refine va_iast hx hb hK hP hD hS 2 0 rfl rfl (vp_in_nI (by omega) (by omega)) dX4_make_197 (fun H locs hP hD hS => ?_)
                          rw [nf_up (by omega)] at hP hD
                          have hP : va_P (dC, dI) vwCl (mw cI a (((gAt st pl ln i + n + 255) / 256) * 256) st us kp ga gl cs (zr mem sz (((gAt st pl ln i + n + 255) / 256) * 256 - sz)) (va_up f k (f (k - 1))) g km ks kt ku kl kn cd wt) H := hP
                          have hD : va_D A (mw cI a (((gAt st pl ln i + n + 255) / 256) * 256) st us kp ga gl cs (zr mem sz (((gAt st pl ln i + n + 255) / 256) * 256 - sz)) (va_up f k (f (k - 1))) g km ks kt ku kl kn cd wt) := hD
                          refine lv_aload_n hx hb dX4_make_198 rfl (lv_at hl 4 rfl) ?_
                          refine va_get (D := (dC, dI)) (ci := 4) (v := .ref (a 3)) (C := RX4) (T := TX4) (N := 18) hx hb hts in_X4 hown hK hP 0 rfl rfl 5 (by decide) lk_8 (fun _ h9 => h9) rfl dX4_make_199 ?_
                          refine lv_iload hx hb dX4_make_202 (lv_at hl 0 rfl) ?_
                          refine lv_aload_n hx hb dX4_make_204 rfl (lv_at hl 4 rfl) ?_
                          refine va_get (D := (dC, dI)) (ci := 4) (v := .ref (a 3)) (C := RX4) (T := TX4) (N := 18) hx hb hts in_X4 hown hK hP 0 rfl rfl 5 (by decide) lk_8 (fun _ h9 => h9) rfl dX4_make_205 ?_
                          refine lv_iload hx hb dX4_make_208 (lv_at hl 0 rfl) ?_
                          refine lv_iconst (v := (nI 1)) hx hb dX4_make_210 (by decide) ?_
                          refine lv_isub hx hb dX4_make_211 ?_
                          refine tpi (pk_sub (by omega)) ?_
                          refine va_iald hx hb hK hP 3 0 rfl rfl (vp_in_nI (by omega) (by omega)) dX4_make_212 ?_
                          refine tpi (nf_at (by omega)) ?_
                          refine va_iast hx hb hK hP hD hS 3 0 rfl rfl (vp_in_nI (by omega) (by omega)) dX4_make_213 (fun H locs hP hD hS => ?_)
                          rw [nf_up (by omega)] at hP hD
                          have hP : va_P (dC, dI) vwCl (mw cI a (((gAt st pl ln i + n + 255) / 256) * 256) st us kp ga gl cs (zr mem sz (((gAt st pl ln i + n + 255) / 256) * 256 - sz)) (va_up f k (f (k - 1))) (va_up g k (g (k - 1))) km ks kt ku kl kn cd wt) H := hP
                          have hD : va_D A (mw cI a (((gAt st pl ln i + n + 255) / 256) * 256) st us kp ga gl cs (zr mem sz (((gAt st pl ln i + n + 255) / 256) * 256 - sz)) (va_up f k (f (k - 1))) (va_up g k (g (k - 1))) km ks kt ku kl kn cd wt) := hD
                          refine lv_iinc (v := (nI (k - 1))) (lv' := [(6, .int (nI (k - 1))), (4, .long (lN (gAt st pl ln i + n))), (2, .int (nI (gAt st pl ln i))), (3, .int (nI i)), (0, .ref (a 0)), (1, .int (nI n))]) hx hb dX4_make_214 hl (k := 0) rfl (nI_dec (by omega)) (by decide) rfl (fun ls hl => ?_)
                          refine lv_goto (tgt := 176) hx hb dX4_make_217 (by decide) ?_
                          exact ih_176 (k - 1, va_up f k (f (k - 1)), va_up g k (g (k - 1))) (⟨by omega, by omega, by rw [hf, shf_s (by omega) hk2], by rw [hg, shf_s (by omega) hk2]⟩) (show (k - 1) < k by omega) H locs ls (hP) (hD) hS (lv_sub hl [0, 1, 2, 3, 4, 5] rfl)
                  · have c_121 : us = 0 := (nZ_eq (by omega)).mp c_121
                    omega
                · have c_112 : ¬ gAt st pl ln i + n ≤ 8192 := fun q => c_112 ((lg_cmp_le _ _).mpr ((pk_lLE (a := gAt st pl ln i + n) (b := 8192) (by omega) (by omega)).mpr q))
                  refine lv_iconst (v := (nI 0)) hx hb dX4_make_115 (by decide) ?_
                  have e_sz : sz = mkZ sz st us pl ln (nI n) := by unfold mkZ; rw [if_neg (fun q => q.2.2 (by rw [hcl, hmk]; omega))]
                  have e_st : st = mkS sz st us pl ln (nI n) := by unfold mkS; rw [if_neg (fun q => (fun q => q.2.2 (by rw [hcl, hmk]; omega)) q.1)]
                  have e_us : us = mkU sz st us pl ln (nI n) := by unfold mkU; rw [if_neg (fun q => q.2.2 (by rw [hcl, hmk]; omega))]
                  have e_mem : mem = mkM sz st us pl ln mem (nI n) := by unfold mkM; rw [if_neg (fun q => q.2.2 (by rw [hcl, hmk]; omega))]
                  have e_pl : pl = mkQ sz st us pl ln (nI n) := by unfold mkQ; rw [if_neg (fun q => q.2.2 (by rw [hcl, hmk]; omega))]
                  have e_ln : ln = mkL sz st us pl ln (nI n) := by unfold mkL; rw [if_neg (fun q => q.2.2 (by rw [hcl, hmk]; omega))]
                  have hP : va_P (dC, dI) vwCl (mw cI a (mkZ sz st us pl ln (nI n)) (mkS sz st us pl ln (nI n)) (mkU sz st us pl ln (nI n)) kp ga gl cs (mkM sz st us pl ln mem (nI n)) (mkQ sz st us pl ln (nI n)) (mkL sz st us pl ln (nI n)) km ks kt ku kl kn cd wt) s.heap := by rw [← e_sz, ← e_st, ← e_us, ← e_mem, ← e_pl, ← e_ln]; exact hP
                  have hD : va_D A (mw cI a (mkZ sz st us pl ln (nI n)) (mkS sz st us pl ln (nI n)) (mkU sz st us pl ln (nI n)) kp ga gl cs (mkM sz st us pl ln mem (nI n)) (mkQ sz st us pl ln (nI n)) (mkL sz st us pl ln (nI n)) km ks kt ku kl kn cd wt) := by rw [← e_sz, ← e_st, ← e_us, ← e_mem, ← e_pl, ← e_ln]; exact hD
                  exact W.iret (v := (nI 0)) hx hb hr (fun t ht hW => ⟨⟨(nI 0), (), rfl, (show (nI 0) = mkR sz st us pl ln (nI n) from by unfold mkR; rw [if_neg (fun q => absurd ((nI_ltI n_n (by omega)).mp q) (by omega)), if_neg (by omega), hcl, if_pos (by rw [hmk]; omega)]), by rw [ht]; exact hP, va_K.moved hW.alike hK, hD⟩, hS.F ht⟩) hS.2.2 dX4_make_116
              · have c_81 : ¬ i ≤ us := fun q => c_81 ((nI_leI (a := i) (b := us) (by omega) (by omega)).mpr q)
                omega
            · have c_67 : ¬ n ≤ gEn sz us pl i - (gAt st pl ln i) := fun q => c_67 ((nI_leI (a := n) (b := gEn sz us pl i - (gAt st pl ln i)) (by omega) (by omega)).mpr q)
              refine lv_iinc (v := (nI (i + 1))) (lv' := [(3, .int (nI (i + 1))), (2, .int (nI st)), (0, .ref (a 0)), (1, .int (nI n))]) hx hb dX4_make_70 hl (k := 0) rfl (nI_inc _) (by decide) rfl (fun ls hl => ?_)
              refine lv_goto (tgt := 47) hx hb dX4_make_73 (by decide) ?_
              exact ih_47 (i + 1) (⟨by omega, by rw [hv]; exact if h : i < us then by rw [fitF_step h, if_neg (by omega)] else by rw [fitF_end (by omega), fitF_end (by omega)]⟩) (show us + 2 - (i + 1) < us + 2 - i by omega) ls (lv_sub hl [0, 1, 2, 3] rfl)
      · have c_23 : us = 0 := (nZ_eq (by omega)).mp c_23
        refine lv_aload_n hx hb dX4_make_26 rfl (lv_at hl 0 rfl) ?_
        refine va_get (D := (dC, dI)) (ci := 4) (v := .int (nI sz)) (C := RX4) (T := TX4) (N := 18) hx hb hts in_X4 hown hK hP 0 rfl rfl 1 (by decide) lk_2 (fun _ h9 => h9) rfl dX4_make_27 ?_
        refine lv_goto (tgt := 37) hx hb dX4_make_30 (by decide) ?_
        refine lv_istore_n (lv' := [(2, .int (nI sz)), (0, .ref (a 0)), (1, .int (nI n))]) hx hb dX4_make_37 rfl hl (by decide) rfl (fun ls hl => ?_)
        refine lv_iconst (v := (nI 0)) hx hb dX4_make_38 (by decide) ?_
        refine lv_istore_n (lv' := [(3, .int (nI 0)), (2, .int (nI sz)), (0, .ref (a 0)), (1, .int (nI n))]) hx hb dX4_make_39 rfl hl (by decide) rfl (fun ls hl => ?_)
        refine lv_aload_n hx hb dX4_make_40 rfl (lv_at hl 2 rfl) ?_
        refine va_get (D := (dC, dI)) (ci := 4) (v := .int (nI us)) (C := RX4) (T := TX4) (N := 18) hx hb hts in_X4 hown hK hP 0 rfl rfl 3 (by decide) lk_1 (fun _ h9 => h9) rfl dX4_make_41 ?_
        refine lv_if_le (tgt := 99) hx hb dX4_make_44 (by decide) (fun c_44 => ?_) (fun c_44 => ?_)
        · have c_44 : us ≤ 0 := (nZ_le (by omega)).mp c_44
          have hfit : fit sz st us pl ln n = 0 := by have := fit_le sz st us pl ln n; omega
          have hmk : mkP sz st us pl ln n = sz := by unfold mkP; rw [if_pos (by omega)]
          have hi3 : 0 ≤ us := by omega
          have hb2 : sz ≤ sz := by omega
          refine lv_iload_n hx hb dX4_make_99 rfl (lv_at hl 1 rfl) ?_
          refine lv_i2l (v := lN sz) hx hb dX4_make_100 (nI_l (by omega)) ?_
          refine lv_iload_n hx hb dX4_make_101 rfl (lv_at hl 3 rfl) ?_
          refine lv_i2l (v := lN n) hx hb dX4_make_102 (nI_l (by omega)) ?_
          refine lv_ladd hx hb dX4_make_103 ?_
          refine tpl (lN_add _ _) ?_
          refine lv_lstore (lv' := [(4, .long (lN (sz + n))), (3, .int (nI 0)), (2, .int (nI sz)), (0, .ref (a 0)), (1, .int (nI n))]) hx hb dX4_make_104 hl (by decide) rfl (fun ls hl => ?_)
          refine lv_lload hx hb dX4_make_106 (lv_at hl 0 rfl) ?_
          refine lv_ldc2 (own := RX4) (v := (8192)) hx hb hown lk_4 dX4_make_108 ?_
          refine tpl (show (8192 : Int64) = lN 8192 from rfl) ?_
          refine W.lcmp hx hb dX4_make_111 ?_
          refine lv_if_le (tgt := 117) hx hb dX4_make_112 (by decide) (fun c_112 => ?_) (fun c_112 => ?_)
          · have c_112 : sz + n ≤ 8192 := (pk_lLE (a := sz + n) (b := 8192) (by omega) (by omega)).mp ((lg_cmp_le _ _).mp c_112)
            have hO : mkO sz st us pl ln (nI n) := ⟨fun q => absurd ((nI_ltI n_n (by omega)).mp q) (by omega), by omega, by rw [hcl, hmk]; omega⟩
            refine lv_aload_n hx hb dX4_make_117 rfl (lv_at hl 3 rfl) ?_
            refine va_get (D := (dC, dI)) (ci := 4) (v := .int (nI us)) (C := RX4) (T := TX4) (N := 18) hx hb hts in_X4 hown hK hP 0 rfl rfl 3 (by decide) lk_1 (fun _ h9 => h9) rfl dX4_make_118 ?_
            refine lv_if_ne (tgt := 132) hx hb dX4_make_121 (by decide) (fun c_121 => ?_) (fun c_121 => ?_)
            · have c_121 : ¬ us = 0 := fun q => c_121 ((nZ_eq (by omega)).mpr q)
              omega
            · have c_121 : us = 0 := (nZ_eq (by omega)).mp c_121
              refine lv_aload_n hx hb dX4_make_124 rfl (lv_at hl 3 rfl) ?_
              refine lv_aload_n hx hb dX4_make_125 rfl (lv_at hl 3 rfl) ?_
              refine va_get (D := (dC, dI)) (ci := 4) (v := .int (nI sz)) (C := RX4) (T := TX4) (N := 18) hx hb hts in_X4 hown hK hP 0 rfl rfl 1 (by decide) lk_2 (fun _ h9 => h9) rfl dX4_make_126 ?_
              refine va_put (D := (dC, dI)) (ci := 4) (v := .int (nI sz)) (ty := .int) (C := RX4) (T := TX4) (N := 18) hx hb hts in_X4 tyX4 tyX4_ok nmX4 hown hK hP hD hS 0 rfl rfl 2 (by decide) lk_3 (fun _ h9 => h9) rfl (by decide +kernel) rfl rfl (Nat.le_of_ble_eq_true rfl) dX4_make_129 (fun H locs hP hD hS => ?_)
              have hP : va_P (dC, dI) vwCl (mw cI a sz sz us kp ga gl cs mem pl ln km ks kt ku kl kn cd wt) H := hP
              have hD : va_D A (mw cI a sz sz us kp ga gl cs mem pl ln km ks kt ku kl kn cd wt) := hD
              refine lv_iload_n hx hb dX4_make_132 rfl (lv_at hl 1 rfl) ?_
              refine lv_aload_n hx hb dX4_make_133 rfl (lv_at hl 3 rfl) ?_
              refine va_get (D := (dC, dI)) (ci := 4) (v := .int (nI us)) (C := RX4) (T := TX4) (N := 18) hx hb hts in_X4 hown hK hP 0 rfl rfl 3 (by decide) lk_1 (fun _ h9 => h9) rfl dX4_make_134 ?_
              refine lv_icmp_ne (tgt := 170) hx hb dX4_make_137 (by decide) (fun c_137 => ?_) (fun c_137 => ?_)
              · have c_137 : ¬ 0 = us := fun q => c_137 ((nI_eq (a := 0) (b := us) (by omega) (by omega)).mpr q)
                have hgp := fit_gap (sz := sz) (st := st) (us := us) (pl := pl) (ln := ln) (n := n) (by rw [hfit]; omega)
                rw [hfit] at hgp
                have wen := gEn_le gw (i := 0) (by omega)
                have hG : sz = mkG sz (sz + n) := by unfold mkG; rw [if_neg (by omega)]
                refine lv_aload_n hx hb dX4_make_170 rfl (lv_at hl 3 rfl) ?_
                refine va_get (D := (dC, dI)) (ci := 4) (v := .int (nI us)) (C := RX4) (T := TX4) (N := 18) hx hb hts in_X4 hown hK hP 0 rfl rfl 3 (by decide) lk_1 (fun _ h9 => h9) rfl dX4_make_171 ?_
                refine lv_istore (lv' := [(6, .int (nI us)), (4, .long (lN (sz + n))), (3, .int (nI 0)), (2, .int (nI sz)), (0, .ref (a 0)), (1, .int (nI n))]) hx hb dX4_make_174 hl (by decide) rfl (fun ls hl => ?_)
                refine lp_world (σ := Nat × (Nat → Nat) × (Nat → Nat)) (fun ⟨k, f, g⟩ => 0 ≤ k ∧ k ≤ us ∧ f = shf pl k us ∧ g = shf ln k us) (fun ⟨k, f, g⟩ => k) (fun ⟨k, f, g⟩ => [(6, .int (nI k)), (4, .long (lN (sz + n))), (3, .int (nI 0)), (2, .int (nI sz)), (0, .ref (a 0)), (1, .int (nI n))]) (fun ⟨k, f, g⟩ => mw cI a sz sz us kp ga gl cs mem f g km ks kt ku kl kn cd wt) ?_ ((us, pl, ln)) (⟨by omega, Nat.le_refl _, by rw [shf_0], by rw [shf_0]⟩) (hP) (hD) hS (lv_sub hl [0, 1, 2, 3, 4, 5] rfl)
                intro ⟨k, f, g⟩ hI ih H locs ls hP hD hS hl
                have hl : lv_has ls 7 [(6, .int (nI k)), (4, .long (lN (sz + n))), (3, .int (nI 0)), (2, .int (nI sz)), (0, .ref (a 0)), (1, .int (nI n))] := hl
                have hP : va_P (dC, dI) vwCl (mw cI a sz sz us kp ga gl cs mem f g km ks kt ku kl kn cd wt) H := hP
                have hD : va_D A (mw cI a sz sz us kp ga gl cs mem f g km ks kt ku kl kn cd wt) := hD
                have hI : 0 ≤ k ∧ k ≤ us ∧ f = shf pl k us ∧ g = shf ln k us := hI
                obtain ⟨hk1, hk2, hf, hg⟩ := hI
                have ih_176 := ih
                refine lv_iload hx hb dX4_make_176 (lv_at hl 0 rfl) ?_
                refine lv_iload_n hx hb dX4_make_178 rfl (lv_at hl 2 rfl) ?_
                refine lv_icmp_le (tgt := 220) hx hb dX4_make_179 (by decide) (fun c_179 => ?_) (fun c_179 => ?_)
                · have c_179 : k ≤ 0 := (nI_leI (a := k) (b := 0) (by omega) (by omega)).mp c_179
                  refine lv_aload_n hx hb dX4_make_220 rfl (lv_at hl 4 rfl) ?_
                  refine va_get (D := (dC, dI)) (ci := 4) (v := .ref (a 2)) (C := RX4) (T := TX4) (N := 18) hx hb hts in_X4 hown hK hP 0 rfl rfl 4 (by decide) lk_7 (fun _ h9 => h9) rfl dX4_make_221 ?_
                  refine lv_iload_n hx hb dX4_make_224 rfl (lv_at hl 2 rfl) ?_
                  refine lv_iload_n hx hb dX4_make_225 rfl (lv_at hl 3 rfl) ?_
                  refine va_iast hx hb hK hP hD hS 2 0 rfl rfl (vp_in_nI (by omega) (by omega)) dX4_make_226 (fun H locs hP hD hS => ?_)
                  rw [nf_up (by omega)] at hP hD
                  have hP : va_P (dC, dI) vwCl (mw cI a sz sz us kp ga gl cs mem (va_up f 0 sz) g km ks kt ku kl kn cd wt) H := hP
                  have hD : va_D A (mw cI a sz sz us kp ga gl cs mem (va_up f 0 sz) g km ks kt ku kl kn cd wt) := hD
                  refine lv_aload_n hx hb dX4_make_227 rfl (lv_at hl 4 rfl) ?_
                  refine va_get (D := (dC, dI)) (ci := 4) (v := .ref (a 3)) (C := RX4) (T := TX4) (N := 18) hx hb hts in_X4 hown hK hP 0 rfl rfl 5 (by decide) lk_8 (fun _ h9 => h9) rfl dX4_make_228 ?_
                  refine lv_iload_n hx hb dX4_make_231 rfl (lv_at hl 2 rfl) ?_
                  refine lv_iload_n hx hb dX4_make_232 rfl (lv_at hl 5 rfl) ?_
                  refine va_iast hx hb hK hP hD hS 3 0 rfl rfl (vp_in_nI (by omega) (by omega)) dX4_make_233 (fun H locs hP hD hS => ?_)
                  rw [nf_up (by omega)] at hP hD
                  have hP : va_P (dC, dI) vwCl (mw cI a sz sz us kp ga gl cs mem (va_up f 0 sz) (va_up g 0 n) km ks kt ku kl kn cd wt) H := hP
                  have hD : va_D A (mw cI a sz sz us kp ga gl cs mem (va_up f 0 sz) (va_up g 0 n) km ks kt ku kl kn cd wt) := hD
                  refine lv_aload_n hx hb dX4_make_234 rfl (lv_at hl 4 rfl) ?_
                  refine lv_dup hx hb dX4_make_235 rfl ?_
                  refine va_get (D := (dC, dI)) (ci := 4) (v := .int (nI us)) (C := RX4) (T := TX4) (N := 18) hx hb hts in_X4 hown hK hP 0 rfl rfl 3 (by decide) lk_1 (fun _ h9 => h9) rfl dX4_make_236 ?_
                  refine lv_iconst (v := (nI 1)) hx hb dX4_make_239 (by decide) ?_
                  refine lv_iadd hx hb dX4_make_240 ?_
                  refine tpi (nI_add _ _) ?_
                  refine va_put (D := (dC, dI)) (ci := 4) (v := .int (nI (us + 1))) (ty := .int) (C := RX4) (T := TX4) (N := 18) hx hb hts in_X4 tyX4 tyX4_ok nmX4 hown hK hP hD hS 0 rfl rfl 3 (by decide) lk_1 (fun _ h9 => h9) rfl (by decide +kernel) rfl rfl (Nat.le_of_ble_eq_true rfl) dX4_make_241 (fun H locs hP hD hS => ?_)
                  have hP : va_P (dC, dI) vwCl (mw cI a sz sz (us + 1) kp ga gl cs mem (va_up f 0 sz) (va_up g 0 n) km ks kt ku kl kn cd wt) H := hP
                  have hD : va_D A (mw cI a sz sz (us + 1) kp ga gl cs mem (va_up f 0 sz) (va_up g 0 n) km ks kt ku kl kn cd wt) := hD
                  refine lv_iload_n hx hb dX4_make_244 rfl (lv_at hl 3 rfl) ?_
                  have e_sz : sz = mkZ sz st us pl ln (nI n) := by unfold mkZ; rw [if_pos hO, hcl, hmk, ← hG]
                  have e_st : sz = mkS sz st us pl ln (nI n) := by unfold mkS; rw [if_pos ⟨hO, by omega⟩]
                  have e_us : us + 1 = mkU sz st us pl ln (nI n) := by unfold mkU; rw [if_pos hO]
                  have e_mem : mem = mkM sz st us pl ln mem (nI n) := by unfold mkM; rw [if_pos hO, hcl, hmk, ← hG, Nat.sub_self, zr_0]
                  have e_pl : va_up f 0 sz = mkQ sz st us pl ln (nI n) := by unfold mkQ ins; rw [if_pos hO, hcl, hmk, hfit, hf, show k = 0 by omega]
                  have e_ln : va_up g 0 n = mkL sz st us pl ln (nI n) := by unfold mkL ins; rw [if_pos hO, hcl, hfit, hg, show k = 0 by omega]
                  have hP : va_P (dC, dI) vwCl (mw cI a (mkZ sz st us pl ln (nI n)) (mkS sz st us pl ln (nI n)) (mkU sz st us pl ln (nI n)) kp ga gl cs (mkM sz st us pl ln mem (nI n)) (mkQ sz st us pl ln (nI n)) (mkL sz st us pl ln (nI n)) km ks kt ku kl kn cd wt) H := by rw [← e_sz, ← e_st, ← e_us, ← e_mem, ← e_pl, ← e_ln]; exact hP
                  have hD : va_D A (mw cI a (mkZ sz st us pl ln (nI n)) (mkS sz st us pl ln (nI n)) (mkU sz st us pl ln (nI n)) kp ga gl cs (mkM sz st us pl ln mem (nI n)) (mkQ sz st us pl ln (nI n)) (mkL sz st us pl ln (nI n)) km ks kt ku kl kn cd wt) := by rw [← e_sz, ← e_st, ← e_us, ← e_mem, ← e_pl, ← e_ln]; exact hD
                  exact W.iret (v := (nI sz)) hx hb hr (fun t ht hW => ⟨⟨(nI sz), (), rfl, (show (nI sz) = mkR sz st us pl ln (nI n) from by unfold mkR; rw [if_neg (fun q => absurd ((nI_ltI n_n (by omega)).mp q) (by omega)), if_neg (by omega), hcl, if_neg (by rw [hmk]; omega), hmk]), by rw [ht]; exact hP, va_K.moved hW.alike hK, hD⟩, hS.F ht⟩) hS.2.2 dX4_make_245
                · have c_179 : ¬ k ≤ 0 := fun q => c_179 ((nI_leI (a := k) (b := 0) (by omega) (by omega)).mpr q)
                  refine lv_aload_n hx hb dX4_make_182 rfl (lv_at hl 4 rfl) ?_
                  refine va_get (D := (dC, dI)) (ci := 4) (v := .ref (a 2)) (C := RX4) (T := TX4) (N := 18) hx hb hts in_X4 hown hK hP 0 rfl rfl 4 (by decide) lk_7 (fun _ h9 => h9) rfl dX4_make_183 ?_
                  refine lv_iload hx hb dX4_make_186 (lv_at hl 0 rfl) ?_
                  refine lv_aload_n hx hb dX4_make_188 rfl (lv_at hl 4 rfl) ?_
                  refine va_get (D := (dC, dI)) (ci := 4) (v := .ref (a 2)) (C := RX4) (T := TX4) (N := 18) hx hb hts in_X4 hown hK hP 0 rfl rfl 4 (by decide) lk_7 (fun _ h9 => h9) rfl dX4_make_189 ?_
                  refine lv_iload hx hb dX4_make_192 (lv_at hl 0 rfl) ?_
                  refine lv_iconst (v := (nI 1)) hx hb dX4_make_194 (by decide) ?_
                  refine lv_isub hx hb dX4_make_195 ?_
                  refine tpi (pk_sub (by omega)) ?_
                  refine va_iald hx hb hK hP 2 0 rfl rfl (vp_in_nI (by omega) (by omega)) dX4_make_196 ?_
                  refine tpi (nf_at (by omega)) ?_
                  refine va_iast hx hb hK hP hD hS 2 0 rfl rfl (vp_in_nI (by omega) (by omega)) dX4_make_197 (fun H locs hP hD hS => ?_)
                  rw [nf_up (by omega)] at hP hD
                  have hP : va_P (dC, dI) vwCl (mw cI a sz sz us kp ga gl cs mem (va_up f k (f (k - 1))) g km ks kt ku kl kn cd wt) H := hP
                  have hD : va_D A (mw cI a sz sz us kp ga gl cs mem (va_up f k (f (k - 1))) g km ks kt ku kl kn cd wt) := hD
                  refine lv_aload_n hx hb dX4_make_198 rfl (lv_at hl 4 rfl) ?_
                  refine va_get (D := (dC, dI)) (ci := 4) (v := .ref (a 3)) (C := RX4) (T := TX4) (N := 18) hx hb hts in_X4 hown hK hP 0 rfl rfl 5 (by decide) lk_8 (fun _ h9 => h9) rfl dX4_make_199 ?_
                  refine lv_iload hx hb dX4_make_202 (lv_at hl 0 rfl) ?_
                  refine lv_aload_n hx hb dX4_make_204 rfl (lv_at hl 4 rfl) ?_
                  refine va_get (D := (dC, dI)) (ci := 4) (v := .ref (a 3)) (C := RX4) (T := TX4) (N := 18) hx hb hts in_X4 hown hK hP 0 rfl rfl 5 (by decide) lk_8 (fun _ h9 => h9) rfl dX4_make_205 ?_
                  refine lv_iload hx hb dX4_make_208 (lv_at hl 0 rfl) ?_
                  refine lv_iconst (v := (nI 1)) hx hb dX4_make_210 (by decide) ?_
                  refine lv_isub hx hb dX4_make_211 ?_
                  refine tpi (pk_sub (by omega)) ?_
                  refine va_iald hx hb hK hP 3 0 rfl rfl (vp_in_nI (by omega) (by omega)) dX4_make_212 ?_
                  refine tpi (nf_at (by omega)) ?_
                  refine va_iast hx hb hK hP hD hS 3 0 rfl rfl (vp_in_nI (by omega) (by omega)) dX4_make_213 (fun H locs hP hD hS => ?_)
                  rw [nf_up (by omega)] at hP hD
                  have hP : va_P (dC, dI) vwCl (mw cI a sz sz us kp ga gl cs mem (va_up f k (f (k - 1))) (va_up g k (g (k - 1))) km ks kt ku kl kn cd wt) H := hP
                  have hD : va_D A (mw cI a sz sz us kp ga gl cs mem (va_up f k (f (k - 1))) (va_up g k (g (k - 1))) km ks kt ku kl kn cd wt) := hD
                  refine lv_iinc (v := (nI (k - 1))) (lv' := [(6, .int (nI (k - 1))), (4, .long (lN (sz + n))), (3, .int (nI 0)), (2, .int (nI sz)), (0, .ref (a 0)), (1, .int (nI n))]) hx hb dX4_make_214 hl (k := 0) rfl (nI_dec (by omega)) (by decide) rfl (fun ls hl => ?_)
                  refine lv_goto (tgt := 176) hx hb dX4_make_217 (by decide) ?_
                  exact ih_176 (k - 1, va_up f k (f (k - 1)), va_up g k (g (k - 1))) (⟨by omega, by omega, by rw [hf, shf_s (by omega) hk2], by rw [hg, shf_s (by omega) hk2]⟩) (show (k - 1) < k by omega) H locs ls (hP) (hD) hS (lv_sub hl [0, 1, 2, 3, 4, 5] rfl)
              · have c_137 : 0 = us := (nI_eq (a := 0) (b := us) (by omega) (by omega)).mp c_137
                refine lv_lload hx hb dX4_make_140 (lv_at hl 0 rfl) ?_
                refine lv_aload_n hx hb dX4_make_142 rfl (lv_at hl 3 rfl) ?_
                refine va_get (D := (dC, dI)) (ci := 4) (v := .int (nI sz)) (C := RX4) (T := TX4) (N := 18) hx hb hts in_X4 hown hK hP 0 rfl rfl 1 (by decide) lk_2 (fun _ h9 => h9) rfl dX4_make_143 ?_
                refine lv_i2l (v := lN sz) hx hb dX4_make_146 (nI_l (by omega)) ?_
                refine W.lcmp hx hb dX4_make_147 ?_
                refine lv_if_le (tgt := 170) hx hb dX4_make_148 (by decide) (fun c_148 => ?_) (fun c_148 => ?_)
                · have c_148 : sz + n ≤ sz := (pk_lLE (a := sz + n) (b := sz) (by omega) (by omega)).mp ((lg_cmp_le _ _).mp c_148)
                  have hG : sz = mkG sz (sz + n) := by unfold mkG; rw [if_neg (by omega)]
                  refine lv_aload_n hx hb dX4_make_170 rfl (lv_at hl 3 rfl) ?_
                  refine va_get (D := (dC, dI)) (ci := 4) (v := .int (nI us)) (C := RX4) (T := TX4) (N := 18) hx hb hts in_X4 hown hK hP 0 rfl rfl 3 (by decide) lk_1 (fun _ h9 => h9) rfl dX4_make_171 ?_
                  refine lv_istore (lv' := [(6, .int (nI us)), (4, .long (lN (sz + n))), (3, .int (nI 0)), (2, .int (nI sz)), (0, .ref (a 0)), (1, .int (nI n))]) hx hb dX4_make_174 hl (by decide) rfl (fun ls hl => ?_)
                  refine lp_world (σ := Nat × (Nat → Nat) × (Nat → Nat)) (fun ⟨k, f, g⟩ => 0 ≤ k ∧ k ≤ us ∧ f = shf pl k us ∧ g = shf ln k us) (fun ⟨k, f, g⟩ => k) (fun ⟨k, f, g⟩ => [(6, .int (nI k)), (4, .long (lN (sz + n))), (3, .int (nI 0)), (2, .int (nI sz)), (0, .ref (a 0)), (1, .int (nI n))]) (fun ⟨k, f, g⟩ => mw cI a sz sz us kp ga gl cs mem f g km ks kt ku kl kn cd wt) ?_ ((us, pl, ln)) (⟨by omega, Nat.le_refl _, by rw [shf_0], by rw [shf_0]⟩) (hP) (hD) hS (lv_sub hl [0, 1, 2, 3, 4, 5] rfl)
                  intro ⟨k, f, g⟩ hI ih H locs ls hP hD hS hl
                  have hl : lv_has ls 7 [(6, .int (nI k)), (4, .long (lN (sz + n))), (3, .int (nI 0)), (2, .int (nI sz)), (0, .ref (a 0)), (1, .int (nI n))] := hl
                  have hP : va_P (dC, dI) vwCl (mw cI a sz sz us kp ga gl cs mem f g km ks kt ku kl kn cd wt) H := hP
                  have hD : va_D A (mw cI a sz sz us kp ga gl cs mem f g km ks kt ku kl kn cd wt) := hD
                  have hI : 0 ≤ k ∧ k ≤ us ∧ f = shf pl k us ∧ g = shf ln k us := hI
                  obtain ⟨hk1, hk2, hf, hg⟩ := hI
                  have ih_176 := ih
                  refine lv_iload hx hb dX4_make_176 (lv_at hl 0 rfl) ?_
                  refine lv_iload_n hx hb dX4_make_178 rfl (lv_at hl 2 rfl) ?_
                  refine lv_icmp_le (tgt := 220) hx hb dX4_make_179 (by decide) (fun c_179 => ?_) (fun c_179 => ?_)
                  · have c_179 : k ≤ 0 := (nI_leI (a := k) (b := 0) (by omega) (by omega)).mp c_179
                    refine lv_aload_n hx hb dX4_make_220 rfl (lv_at hl 4 rfl) ?_
                    refine va_get (D := (dC, dI)) (ci := 4) (v := .ref (a 2)) (C := RX4) (T := TX4) (N := 18) hx hb hts in_X4 hown hK hP 0 rfl rfl 4 (by decide) lk_7 (fun _ h9 => h9) rfl dX4_make_221 ?_
                    refine lv_iload_n hx hb dX4_make_224 rfl (lv_at hl 2 rfl) ?_
                    refine lv_iload_n hx hb dX4_make_225 rfl (lv_at hl 3 rfl) ?_
                    refine va_iast hx hb hK hP hD hS 2 0 rfl rfl (vp_in_nI (by omega) (by omega)) dX4_make_226 (fun H locs hP hD hS => ?_)
                    rw [nf_up (by omega)] at hP hD
                    have hP : va_P (dC, dI) vwCl (mw cI a sz sz us kp ga gl cs mem (va_up f 0 sz) g km ks kt ku kl kn cd wt) H := hP
                    have hD : va_D A (mw cI a sz sz us kp ga gl cs mem (va_up f 0 sz) g km ks kt ku kl kn cd wt) := hD
                    refine lv_aload_n hx hb dX4_make_227 rfl (lv_at hl 4 rfl) ?_
                    refine va_get (D := (dC, dI)) (ci := 4) (v := .ref (a 3)) (C := RX4) (T := TX4) (N := 18) hx hb hts in_X4 hown hK hP 0 rfl rfl 5 (by decide) lk_8 (fun _ h9 => h9) rfl dX4_make_228 ?_
                    refine lv_iload_n hx hb dX4_make_231 rfl (lv_at hl 2 rfl) ?_
                    refine lv_iload_n hx hb dX4_make_232 rfl (lv_at hl 5 rfl) ?_
                    refine va_iast hx hb hK hP hD hS 3 0 rfl rfl (vp_in_nI (by omega) (by omega)) dX4_make_233 (fun H locs hP hD hS => ?_)
                    rw [nf_up (by omega)] at hP hD
                    have hP : va_P (dC, dI) vwCl (mw cI a sz sz us kp ga gl cs mem (va_up f 0 sz) (va_up g 0 n) km ks kt ku kl kn cd wt) H := hP
                    have hD : va_D A (mw cI a sz sz us kp ga gl cs mem (va_up f 0 sz) (va_up g 0 n) km ks kt ku kl kn cd wt) := hD
                    refine lv_aload_n hx hb dX4_make_234 rfl (lv_at hl 4 rfl) ?_
                    refine lv_dup hx hb dX4_make_235 rfl ?_
                    refine va_get (D := (dC, dI)) (ci := 4) (v := .int (nI us)) (C := RX4) (T := TX4) (N := 18) hx hb hts in_X4 hown hK hP 0 rfl rfl 3 (by decide) lk_1 (fun _ h9 => h9) rfl dX4_make_236 ?_
                    refine lv_iconst (v := (nI 1)) hx hb dX4_make_239 (by decide) ?_
                    refine lv_iadd hx hb dX4_make_240 ?_
                    refine tpi (nI_add _ _) ?_
                    refine va_put (D := (dC, dI)) (ci := 4) (v := .int (nI (us + 1))) (ty := .int) (C := RX4) (T := TX4) (N := 18) hx hb hts in_X4 tyX4 tyX4_ok nmX4 hown hK hP hD hS 0 rfl rfl 3 (by decide) lk_1 (fun _ h9 => h9) rfl (by decide +kernel) rfl rfl (Nat.le_of_ble_eq_true rfl) dX4_make_241 (fun H locs hP hD hS => ?_)
                    have hP : va_P (dC, dI) vwCl (mw cI a sz sz (us + 1) kp ga gl cs mem (va_up f 0 sz) (va_up g 0 n) km ks kt ku kl kn cd wt) H := hP
                    have hD : va_D A (mw cI a sz sz (us + 1) kp ga gl cs mem (va_up f 0 sz) (va_up g 0 n) km ks kt ku kl kn cd wt) := hD
                    refine lv_iload_n hx hb dX4_make_244 rfl (lv_at hl 3 rfl) ?_
                    have e_sz : sz = mkZ sz st us pl ln (nI n) := by unfold mkZ; rw [if_pos hO, hcl, hmk, ← hG]
                    have e_st : sz = mkS sz st us pl ln (nI n) := by unfold mkS; rw [if_pos ⟨hO, by omega⟩]
                    have e_us : us + 1 = mkU sz st us pl ln (nI n) := by unfold mkU; rw [if_pos hO]
                    have e_mem : mem = mkM sz st us pl ln mem (nI n) := by unfold mkM; rw [if_pos hO, hcl, hmk, ← hG, Nat.sub_self, zr_0]
                    have e_pl : va_up f 0 sz = mkQ sz st us pl ln (nI n) := by unfold mkQ ins; rw [if_pos hO, hcl, hmk, hfit, hf, show k = 0 by omega]
                    have e_ln : va_up g 0 n = mkL sz st us pl ln (nI n) := by unfold mkL ins; rw [if_pos hO, hcl, hfit, hg, show k = 0 by omega]
                    have hP : va_P (dC, dI) vwCl (mw cI a (mkZ sz st us pl ln (nI n)) (mkS sz st us pl ln (nI n)) (mkU sz st us pl ln (nI n)) kp ga gl cs (mkM sz st us pl ln mem (nI n)) (mkQ sz st us pl ln (nI n)) (mkL sz st us pl ln (nI n)) km ks kt ku kl kn cd wt) H := by rw [← e_sz, ← e_st, ← e_us, ← e_mem, ← e_pl, ← e_ln]; exact hP
                    have hD : va_D A (mw cI a (mkZ sz st us pl ln (nI n)) (mkS sz st us pl ln (nI n)) (mkU sz st us pl ln (nI n)) kp ga gl cs (mkM sz st us pl ln mem (nI n)) (mkQ sz st us pl ln (nI n)) (mkL sz st us pl ln (nI n)) km ks kt ku kl kn cd wt) := by rw [← e_sz, ← e_st, ← e_us, ← e_mem, ← e_pl, ← e_ln]; exact hD
                    exact W.iret (v := (nI sz)) hx hb hr (fun t ht hW => ⟨⟨(nI sz), (), rfl, (show (nI sz) = mkR sz st us pl ln (nI n) from by unfold mkR; rw [if_neg (fun q => absurd ((nI_ltI n_n (by omega)).mp q) (by omega)), if_neg (by omega), hcl, if_neg (by rw [hmk]; omega), hmk]), by rw [ht]; exact hP, va_K.moved hW.alike hK, hD⟩, hS.F ht⟩) hS.2.2 dX4_make_245
                  · have c_179 : ¬ k ≤ 0 := fun q => c_179 ((nI_leI (a := k) (b := 0) (by omega) (by omega)).mpr q)
                    refine lv_aload_n hx hb dX4_make_182 rfl (lv_at hl 4 rfl) ?_
                    refine va_get (D := (dC, dI)) (ci := 4) (v := .ref (a 2)) (C := RX4) (T := TX4) (N := 18) hx hb hts in_X4 hown hK hP 0 rfl rfl 4 (by decide) lk_7 (fun _ h9 => h9) rfl dX4_make_183 ?_
                    refine lv_iload hx hb dX4_make_186 (lv_at hl 0 rfl) ?_
                    refine lv_aload_n hx hb dX4_make_188 rfl (lv_at hl 4 rfl) ?_
                    refine va_get (D := (dC, dI)) (ci := 4) (v := .ref (a 2)) (C := RX4) (T := TX4) (N := 18) hx hb hts in_X4 hown hK hP 0 rfl rfl 4 (by decide) lk_7 (fun _ h9 => h9) rfl dX4_make_189 ?_
                    refine lv_iload hx hb dX4_make_192 (lv_at hl 0 rfl) ?_
                    refine lv_iconst (v := (nI 1)) hx hb dX4_make_194 (by decide) ?_
                    refine lv_isub hx hb dX4_make_195 ?_
                    refine tpi (pk_sub (by omega)) ?_
                    refine va_iald hx hb hK hP 2 0 rfl rfl (vp_in_nI (by omega) (by omega)) dX4_make_196 ?_
                    refine tpi (nf_at (by omega)) ?_
                    refine va_iast hx hb hK hP hD hS 2 0 rfl rfl (vp_in_nI (by omega) (by omega)) dX4_make_197 (fun H locs hP hD hS => ?_)
                    rw [nf_up (by omega)] at hP hD
                    have hP : va_P (dC, dI) vwCl (mw cI a sz sz us kp ga gl cs mem (va_up f k (f (k - 1))) g km ks kt ku kl kn cd wt) H := hP
                    have hD : va_D A (mw cI a sz sz us kp ga gl cs mem (va_up f k (f (k - 1))) g km ks kt ku kl kn cd wt) := hD
                    refine lv_aload_n hx hb dX4_make_198 rfl (lv_at hl 4 rfl) ?_
                    refine va_get (D := (dC, dI)) (ci := 4) (v := .ref (a 3)) (C := RX4) (T := TX4) (N := 18) hx hb hts in_X4 hown hK hP 0 rfl rfl 5 (by decide) lk_8 (fun _ h9 => h9) rfl dX4_make_199 ?_
                    refine lv_iload hx hb dX4_make_202 (lv_at hl 0 rfl) ?_
                    refine lv_aload_n hx hb dX4_make_204 rfl (lv_at hl 4 rfl) ?_
                    refine va_get (D := (dC, dI)) (ci := 4) (v := .ref (a 3)) (C := RX4) (T := TX4) (N := 18) hx hb hts in_X4 hown hK hP 0 rfl rfl 5 (by decide) lk_8 (fun _ h9 => h9) rfl dX4_make_205 ?_
                    refine lv_iload hx hb dX4_make_208 (lv_at hl 0 rfl) ?_
                    refine lv_iconst (v := (nI 1)) hx hb dX4_make_210 (by decide) ?_
                    refine lv_isub hx hb dX4_make_211 ?_
                    refine tpi (pk_sub (by omega)) ?_
                    refine va_iald hx hb hK hP 3 0 rfl rfl (vp_in_nI (by omega) (by omega)) dX4_make_212 ?_
                    refine tpi (nf_at (by omega)) ?_
                    refine va_iast hx hb hK hP hD hS 3 0 rfl rfl (vp_in_nI (by omega) (by omega)) dX4_make_213 (fun H locs hP hD hS => ?_)
                    rw [nf_up (by omega)] at hP hD
                    have hP : va_P (dC, dI) vwCl (mw cI a sz sz us kp ga gl cs mem (va_up f k (f (k - 1))) (va_up g k (g (k - 1))) km ks kt ku kl kn cd wt) H := hP
                    have hD : va_D A (mw cI a sz sz us kp ga gl cs mem (va_up f k (f (k - 1))) (va_up g k (g (k - 1))) km ks kt ku kl kn cd wt) := hD
                    refine lv_iinc (v := (nI (k - 1))) (lv' := [(6, .int (nI (k - 1))), (4, .long (lN (sz + n))), (3, .int (nI 0)), (2, .int (nI sz)), (0, .ref (a 0)), (1, .int (nI n))]) hx hb dX4_make_214 hl (k := 0) rfl (nI_dec (by omega)) (by decide) rfl (fun ls hl => ?_)
                    refine lv_goto (tgt := 176) hx hb dX4_make_217 (by decide) ?_
                    exact ih_176 (k - 1, va_up f k (f (k - 1)), va_up g k (g (k - 1))) (⟨by omega, by omega, by rw [hf, shf_s (by omega) hk2], by rw [hg, shf_s (by omega) hk2]⟩) (show (k - 1) < k by omega) H locs ls (hP) (hD) hS (lv_sub hl [0, 1, 2, 3, 4, 5] rfl)
                · have c_148 : ¬ sz + n ≤ sz := fun q => c_148 ((lg_cmp_le _ _).mpr ((pk_lLE (a := sz + n) (b := sz) (by omega) (by omega)).mpr q))
                  refine lv_aload_n hx hb dX4_make_151 rfl (lv_at hl 3 rfl) ?_
                  refine lv_lload hx hb dX4_make_152 (lv_at hl 0 rfl) ?_
                  refine lv_ldc2 (own := RX4) (v := (255)) hx hb hown lk_5 dX4_make_154 ?_
                  refine tpl (show (255 : Int64) = lN 255 from rfl) ?_
                  refine lv_ladd hx hb dX4_make_157 ?_
                  refine tpl (lN_add _ _) ?_
                  refine lv_ldc2 (own := RX4) (v := (256)) hx hb hown lk_6 dX4_make_158 ?_
                  refine tpl (show (256 : Int64) = lN 256 from rfl) ?_
                  refine lv_ldiv hx hb dX4_make_161 (by decide) ?_
                  refine tpl (pk_lDiv (by omega) (by decide) (by decide)) ?_
                  refine lv_ldc2 (own := RX4) (v := (256)) hx hb hown lk_6 dX4_make_162 ?_
                  refine tpl (show (256 : Int64) = lN 256 from rfl) ?_
                  refine lv_lmul hx hb dX4_make_165 ?_
                  refine tpl (lN_mul _ _) ?_
                  refine lv_l2i (v := nI (((sz + n + 255) / 256) * 256)) hx hb dX4_make_166 (lN_i _) ?_
                  have hFc := va_free (wc := mw cI a sz sz us kp ga gl cs mem pl ln km ks kt ku kl kn cd wt) hD hS hA [0, 1, 2, 3, 4, 5, 6, 7, 8, 9, 10, 11] rfl
                  refine va_callv (va_runV (As := [.int (nI (((sz + n + 255) / 256) * 256))]) (rest := []) ⟨hx, hb, hml, hown, hts⟩ (c_X4_grow l dC dI cI a sz sz us kp ga gl cs mem pl ln km ks kt ku kl kn cd wt H.size (((sz + n + 255) / 256) * 256) (by omega) (by omega)) (cwV 1 hts gX4_make_X4_grow rfl rfl rfl (by decide +kernel) ⟨Nat.le_of_ble_eq_true rfl, Nat.le_of_ble_eq_true rfl⟩) ⟨fun a9 U g9 mk9 q9 => by obtain ⟨q0, q1, qP, qK, qD⟩ := q9; exact ⟨q0, q1, qP, va_K.moved (u := U) (U := U.calling g9 mk9 a9) (Vm.Alike.refl U.vm) qK, qD⟩, va_recv hK hP (ci := 4) (q0 := 0) rfl rfl, fun U hU hW => ⟨rfl, by rw [hU], by rw [hU]; exact hP, va_K.moved hW.alike hK, hD.weaken (fun _ _ _ _ => trivial)⟩⟩ rfl rfl hl.1 rfl (lv_room (Nat.le_of_ble_eq_true rfl)) dX4_make_167 ⟨Nat.zero_le _, Nat.zero_le _⟩) hS (fun q _ h => hFc q h) hFc (fun u t H1 locs ht hvm hw hB hz1 hk1 hS => ?_)
                  obtain ⟨hP1, hK1, hD1⟩ := hB
                  rw [ht] at hP1
                  obtain ⟨hP, hD⟩ := va_join (wr := []) (w1 := mw cI a (((sz + n + 255) / 256) * 256) sz us kp ga gl cs (zr mem sz (((sz + n + 255) / 256) * 256 - sz)) pl ln km ks kt ku kl kn cd wt) hP hD [0, 1, 2, 3, 4, 5, 6, 7, 8, 9, 10, 11] [] rfl rfl (by decide) (by decide) hk1 hFc hP1 hD1
                  generalize H1 = H at hP hS ⊢
                  have hP : va_P (dC, dI) vwCl (mw cI a (((sz + n + 255) / 256) * 256) sz us kp ga gl cs (zr mem sz (((sz + n + 255) / 256) * 256 - sz)) pl ln km ks kt ku kl kn cd wt) H := hP
                  have hD : va_D A (mw cI a (((sz + n + 255) / 256) * 256) sz us kp ga gl cs (zr mem sz (((sz + n + 255) / 256) * 256 - sz)) pl ln km ks kt ku kl kn cd wt) := hD
                  have hG : (sz + n + 255) / 256 * 256 = mkG sz (sz + n) := by unfold mkG; rw [if_pos (by omega)]
                  refine lv_aload_n hx hb dX4_make_170 rfl (lv_at hl 3 rfl) ?_
                  refine va_get (D := (dC, dI)) (ci := 4) (v := .int (nI us)) (C := RX4) (T := TX4) (N := 18) hx hb hts in_X4 hown hK hP 0 rfl rfl 3 (by decide) lk_1 (fun _ h9 => h9) rfl dX4_make_171 ?_
                  refine lv_istore (lv' := [(6, .int (nI us)), (4, .long (lN (sz + n))), (3, .int (nI 0)), (2, .int (nI sz)), (0, .ref (a 0)), (1, .int (nI n))]) hx hb dX4_make_174 hl (by decide) rfl (fun ls hl => ?_)
                  refine lp_world (σ := Nat × (Nat → Nat) × (Nat → Nat)) (fun ⟨k, f, g⟩ => 0 ≤ k ∧ k ≤ us ∧ f = shf pl k us ∧ g = shf ln k us) (fun ⟨k, f, g⟩ => k) (fun ⟨k, f, g⟩ => [(6, .int (nI k)), (4, .long (lN (sz + n))), (3, .int (nI 0)), (2, .int (nI sz)), (0, .ref (a 0)), (1, .int (nI n))]) (fun ⟨k, f, g⟩ => mw cI a (((sz + n + 255) / 256) * 256) sz us kp ga gl cs (zr mem sz (((sz + n + 255) / 256) * 256 - sz)) f g km ks kt ku kl kn cd wt) ?_ ((us, pl, ln)) (⟨by omega, Nat.le_refl _, by rw [shf_0], by rw [shf_0]⟩) (hP) (hD) hS (lv_sub hl [0, 1, 2, 3, 4, 5] rfl)
                  intro ⟨k, f, g⟩ hI ih H locs ls hP hD hS hl
                  have hl : lv_has ls 7 [(6, .int (nI k)), (4, .long (lN (sz + n))), (3, .int (nI 0)), (2, .int (nI sz)), (0, .ref (a 0)), (1, .int (nI n))] := hl
                  have hP : va_P (dC, dI) vwCl (mw cI a (((sz + n + 255) / 256) * 256) sz us kp ga gl cs (zr mem sz (((sz + n + 255) / 256) * 256 - sz)) f g km ks kt ku kl kn cd wt) H := hP
                  have hD : va_D A (mw cI a (((sz + n + 255) / 256) * 256) sz us kp ga gl cs (zr mem sz (((sz + n + 255) / 256) * 256 - sz)) f g km ks kt ku kl kn cd wt) := hD
                  have hI : 0 ≤ k ∧ k ≤ us ∧ f = shf pl k us ∧ g = shf ln k us := hI
                  obtain ⟨hk1, hk2, hf, hg⟩ := hI
                  have ih_176 := ih
                  refine lv_iload hx hb dX4_make_176 (lv_at hl 0 rfl) ?_
                  refine lv_iload_n hx hb dX4_make_178 rfl (lv_at hl 2 rfl) ?_
                  refine lv_icmp_le (tgt := 220) hx hb dX4_make_179 (by decide) (fun c_179 => ?_) (fun c_179 => ?_)
                  · have c_179 : k ≤ 0 := (nI_leI (a := k) (b := 0) (by omega) (by omega)).mp c_179
                    refine lv_aload_n hx hb dX4_make_220 rfl (lv_at hl 4 rfl) ?_
                    refine va_get (D := (dC, dI)) (ci := 4) (v := .ref (a 2)) (C := RX4) (T := TX4) (N := 18) hx hb hts in_X4 hown hK hP 0 rfl rfl 4 (by decide) lk_7 (fun _ h9 => h9) rfl dX4_make_221 ?_
                    refine lv_iload_n hx hb dX4_make_224 rfl (lv_at hl 2 rfl) ?_
                    refine lv_iload_n hx hb dX4_make_225 rfl (lv_at hl 3 rfl) ?_
                    refine va_iast hx hb hK hP hD hS 2 0 rfl rfl (vp_in_nI (by omega) (by omega)) dX4_make_226 (fun H locs hP hD hS => ?_)
                    rw [nf_up (by omega)] at hP hD
                    have hP : va_P (dC, dI) vwCl (mw cI a (((sz + n + 255) / 256) * 256) sz us kp ga gl cs (zr mem sz (((sz + n + 255) / 256) * 256 - sz)) (va_up f 0 sz) g km ks kt ku kl kn cd wt) H := hP
                    have hD : va_D A (mw cI a (((sz + n + 255) / 256) * 256) sz us kp ga gl cs (zr mem sz (((sz + n + 255) / 256) * 256 - sz)) (va_up f 0 sz) g km ks kt ku kl kn cd wt) := hD
                    refine lv_aload_n hx hb dX4_make_227 rfl (lv_at hl 4 rfl) ?_
                    refine va_get (D := (dC, dI)) (ci := 4) (v := .ref (a 3)) (C := RX4) (T := TX4) (N := 18) hx hb hts in_X4 hown hK hP 0 rfl rfl 5 (by decide) lk_8 (fun _ h9 => h9) rfl dX4_make_228 ?_
                    refine lv_iload_n hx hb dX4_make_231 rfl (lv_at hl 2 rfl) ?_
                    refine lv_iload_n hx hb dX4_make_232 rfl (lv_at hl 5 rfl) ?_
                    refine va_iast hx hb hK hP hD hS 3 0 rfl rfl (vp_in_nI (by omega) (by omega)) dX4_make_233 (fun H locs hP hD hS => ?_)
                    rw [nf_up (by omega)] at hP hD
                    have hP : va_P (dC, dI) vwCl (mw cI a (((sz + n + 255) / 256) * 256) sz us kp ga gl cs (zr mem sz (((sz + n + 255) / 256) * 256 - sz)) (va_up f 0 sz) (va_up g 0 n) km ks kt ku kl kn cd wt) H := hP
                    have hD : va_D A (mw cI a (((sz + n + 255) / 256) * 256) sz us kp ga gl cs (zr mem sz (((sz + n + 255) / 256) * 256 - sz)) (va_up f 0 sz) (va_up g 0 n) km ks kt ku kl kn cd wt) := hD
                    refine lv_aload_n hx hb dX4_make_234 rfl (lv_at hl 4 rfl) ?_
                    refine lv_dup hx hb dX4_make_235 rfl ?_
                    refine va_get (D := (dC, dI)) (ci := 4) (v := .int (nI us)) (C := RX4) (T := TX4) (N := 18) hx hb hts in_X4 hown hK hP 0 rfl rfl 3 (by decide) lk_1 (fun _ h9 => h9) rfl dX4_make_236 ?_
                    refine lv_iconst (v := (nI 1)) hx hb dX4_make_239 (by decide) ?_
                    refine lv_iadd hx hb dX4_make_240 ?_
                    refine tpi (nI_add _ _) ?_
                    refine va_put (D := (dC, dI)) (ci := 4) (v := .int (nI (us + 1))) (ty := .int) (C := RX4) (T := TX4) (N := 18) hx hb hts in_X4 tyX4 tyX4_ok nmX4 hown hK hP hD hS 0 rfl rfl 3 (by decide) lk_1 (fun _ h9 => h9) rfl (by decide +kernel) rfl rfl (Nat.le_of_ble_eq_true rfl) dX4_make_241 (fun H locs hP hD hS => ?_)
                    have hP : va_P (dC, dI) vwCl (mw cI a (((sz + n + 255) / 256) * 256) sz (us + 1) kp ga gl cs (zr mem sz (((sz + n + 255) / 256) * 256 - sz)) (va_up f 0 sz) (va_up g 0 n) km ks kt ku kl kn cd wt) H := hP
                    have hD : va_D A (mw cI a (((sz + n + 255) / 256) * 256) sz (us + 1) kp ga gl cs (zr mem sz (((sz + n + 255) / 256) * 256 - sz)) (va_up f 0 sz) (va_up g 0 n) km ks kt ku kl kn cd wt) := hD
                    refine lv_iload_n hx hb dX4_make_244 rfl (lv_at hl 3 rfl) ?_
                    have e_sz : ((sz + n + 255) / 256) * 256 = mkZ sz st us pl ln (nI n) := by unfold mkZ; rw [if_pos hO, hcl, hmk, ← hG]
                    have e_st : sz = mkS sz st us pl ln (nI n) := by unfold mkS; rw [if_pos ⟨hO, by omega⟩]
                    have e_us : us + 1 = mkU sz st us pl ln (nI n) := by unfold mkU; rw [if_pos hO]
                    have e_mem : zr mem sz (((sz + n + 255) / 256) * 256 - sz) = mkM sz st us pl ln mem (nI n) := by unfold mkM; rw [if_pos hO, hcl, hmk, ← hG]
                    have e_pl : va_up f 0 sz = mkQ sz st us pl ln (nI n) := by unfold mkQ ins; rw [if_pos hO, hcl, hmk, hfit, hf, show k = 0 by omega]
                    have e_ln : va_up g 0 n = mkL sz st us pl ln (nI n) := by unfold mkL ins; rw [if_pos hO, hcl, hfit, hg, show k = 0 by omega]
                    have hP : va_P (dC, dI) vwCl (mw cI a (mkZ sz st us pl ln (nI n)) (mkS sz st us pl ln (nI n)) (mkU sz st us pl ln (nI n)) kp ga gl cs (mkM sz st us pl ln mem (nI n)) (mkQ sz st us pl ln (nI n)) (mkL sz st us pl ln (nI n)) km ks kt ku kl kn cd wt) H := by rw [← e_sz, ← e_st, ← e_us, ← e_mem, ← e_pl, ← e_ln]; exact hP
                    have hD : va_D A (mw cI a (mkZ sz st us pl ln (nI n)) (mkS sz st us pl ln (nI n)) (mkU sz st us pl ln (nI n)) kp ga gl cs (mkM sz st us pl ln mem (nI n)) (mkQ sz st us pl ln (nI n)) (mkL sz st us pl ln (nI n)) km ks kt ku kl kn cd wt) := by rw [← e_sz, ← e_st, ← e_us, ← e_mem, ← e_pl, ← e_ln]; exact hD
                    exact W.iret (v := (nI sz)) hx hb hr (fun t ht hW => ⟨⟨(nI sz), (), rfl, (show (nI sz) = mkR sz st us pl ln (nI n) from by unfold mkR; rw [if_neg (fun q => absurd ((nI_ltI n_n (by omega)).mp q) (by omega)), if_neg (by omega), hcl, if_neg (by rw [hmk]; omega), hmk]), by rw [ht]; exact hP, va_K.moved hW.alike hK, hD⟩, hS.F ht⟩) hS.2.2 dX4_make_245
                  · have c_179 : ¬ k ≤ 0 := fun q => c_179 ((nI_leI (a := k) (b := 0) (by omega) (by omega)).mpr q)
                    refine lv_aload_n hx hb dX4_make_182 rfl (lv_at hl 4 rfl) ?_
                    refine va_get (D := (dC, dI)) (ci := 4) (v := .ref (a 2)) (C := RX4) (T := TX4) (N := 18) hx hb hts in_X4 hown hK hP 0 rfl rfl 4 (by decide) lk_7 (fun _ h9 => h9) rfl dX4_make_183 ?_
                    refine lv_iload hx hb dX4_make_186 (lv_at hl 0 rfl) ?_
                    refine lv_aload_n hx hb dX4_make_188 rfl (lv_at hl 4 rfl) ?_
                    refine va_get (D := (dC, dI)) (ci := 4) (v := .ref (a 2)) (C := RX4) (T := TX4) (N := 18) hx hb hts in_X4 hown hK hP 0 rfl rfl 4 (by decide) lk_7 (fun _ h9 => h9) rfl dX4_make_189 ?_
                    refine lv_iload hx hb dX4_make_192 (lv_at hl 0 rfl) ?_
                    refine lv_iconst (v := (nI 1)) hx hb dX4_make_194 (by decide) ?_
                    refine lv_isub hx hb dX4_make_195 ?_
                    refine tpi (pk_sub (by omega)) ?_
                    refine va_iald hx hb hK hP 2 0 rfl rfl (vp_in_nI (by omega) (by omega)) dX4_make_196 ?_
                    refine tpi (nf_at (by omega)) ?_
                    refine va_iast hx hb hK hP hD hS 2 0 rfl rfl (vp_in_nI (by omega) (by omega)) dX4_make_197 (fun H locs hP hD hS => ?_)
                    rw [nf_up (by omega)] at hP hD
                    have hP : va_P (dC, dI) vwCl (mw cI a (((sz + n + 255) / 256) * 256) sz us kp ga gl cs (zr mem sz (((sz + n + 255) / 256) * 256 - sz)) (va_up f k (f (k - 1))) g km ks kt ku kl kn cd wt) H := hP
                    have hD : va_D A (mw cI a (((sz + n + 255) / 256) * 256) sz us kp ga gl cs (zr mem sz (((sz + n + 255) / 256) * 256 - sz)) (va_up f k (f (k - 1))) g km ks kt ku kl kn cd wt) := hD
                    refine lv_aload_n hx hb dX4_make_198 rfl (lv_at hl 4 rfl) ?_
                    refine va_get (D := (dC, dI)) (ci := 4) (v := .ref (a 3)) (C := RX4) (T := TX4) (N := 18) hx hb hts in_X4 hown hK hP 0 rfl rfl 5 (by decide) lk_8 (fun _ h9 => h9) rfl dX4_make_199 ?_
                    refine lv_iload hx hb dX4_make_202 (lv_at hl 0 rfl) ?_
                    refine lv_aload_n hx hb dX4_make_204 rfl (lv_at hl 4 rfl) ?_
                    refine va_get (D := (dC, dI)) (ci := 4) (v := .ref (a 3)) (C := RX4) (T := TX4) (N := 18) hx hb hts in_X4 hown hK hP 0 rfl rfl 5 (by decide) lk_8 (fun _ h9 => h9) rfl dX4_make_205 ?_
                    refine lv_iload hx hb dX4_make_208 (lv_at hl 0 rfl) ?_
                    refine lv_iconst (v := (nI 1)) hx hb dX4_make_210 (by decide) ?_
                    refine lv_isub hx hb dX4_make_211 ?_
                    refine tpi (pk_sub (by omega)) ?_
                    refine va_iald hx hb hK hP 3 0 rfl rfl (vp_in_nI (by omega) (by omega)) dX4_make_212 ?_
                    refine tpi (nf_at (by omega)) ?_
                    refine va_iast hx hb hK hP hD hS 3 0 rfl rfl (vp_in_nI (by omega) (by omega)) dX4_make_213 (fun H locs hP hD hS => ?_)
                    rw [nf_up (by omega)] at hP hD
                    have hP : va_P (dC, dI) vwCl (mw cI a (((sz + n + 255) / 256) * 256) sz us kp ga gl cs (zr mem sz (((sz + n + 255) / 256) * 256 - sz)) (va_up f k (f (k - 1))) (va_up g k (g (k - 1))) km ks kt ku kl kn cd wt) H := hP
                    have hD : va_D A (mw cI a (((sz + n + 255) / 256) * 256) sz us kp ga gl cs (zr mem sz (((sz + n + 255) / 256) * 256 - sz)) (va_up f k (f (k - 1))) (va_up g k (g (k - 1))) km ks kt ku kl kn cd wt) := hD
                    refine lv_iinc (v := (nI (k - 1))) (lv' := [(6, .int (nI (k - 1))), (4, .long (lN (sz + n))), (3, .int (nI 0)), (2, .int (nI sz)), (0, .ref (a 0)), (1, .int (nI n))]) hx hb dX4_make_214 hl (k := 0) rfl (nI_dec (by omega)) (by decide) rfl (fun ls hl => ?_)
                    refine lv_goto (tgt := 176) hx hb dX4_make_217 (by decide) ?_
                    exact ih_176 (k - 1, va_up f k (f (k - 1)), va_up g k (g (k - 1))) (⟨by omega, by omega, by rw [hf, shf_s (by omega) hk2], by rw [hg, shf_s (by omega) hk2]⟩) (show (k - 1) < k by omega) H locs ls (hP) (hD) hS (lv_sub hl [0, 1, 2, 3, 4, 5] rfl)
          · have c_112 : ¬ sz + n ≤ 8192 := fun q => c_112 ((lg_cmp_le _ _).mpr ((pk_lLE (a := sz + n) (b := 8192) (by omega) (by omega)).mpr q))
            refine lv_iconst (v := (nI 0)) hx hb dX4_make_115 (by decide) ?_
            have e_sz : sz = mkZ sz st us pl ln (nI n) := by unfold mkZ; rw [if_neg (fun q => q.2.2 (by rw [hcl, hmk]; omega))]
            have e_st : st = mkS sz st us pl ln (nI n) := by unfold mkS; rw [if_neg (fun q => (fun q => q.2.2 (by rw [hcl, hmk]; omega)) q.1)]
            have e_us : us = mkU sz st us pl ln (nI n) := by unfold mkU; rw [if_neg (fun q => q.2.2 (by rw [hcl, hmk]; omega))]
            have e_mem : mem = mkM sz st us pl ln mem (nI n) := by unfold mkM; rw [if_neg (fun q => q.2.2 (by rw [hcl, hmk]; omega))]
            have e_pl : pl = mkQ sz st us pl ln (nI n) := by unfold mkQ; rw [if_neg (fun q => q.2.2 (by rw [hcl, hmk]; omega))]
            have e_ln : ln = mkL sz st us pl ln (nI n) := by unfold mkL; rw [if_neg (fun q => q.2.2 (by rw [hcl, hmk]; omega))]
            have hP : va_P (dC, dI) vwCl (mw cI a (mkZ sz st us pl ln (nI n)) (mkS sz st us pl ln (nI n)) (mkU sz st us pl ln (nI n)) kp ga gl cs (mkM sz st us pl ln mem (nI n)) (mkQ sz st us pl ln (nI n)) (mkL sz st us pl ln (nI n)) km ks kt ku kl kn cd wt) s.heap := by rw [← e_sz, ← e_st, ← e_us, ← e_mem, ← e_pl, ← e_ln]; exact hP
            have hD : va_D A (mw cI a (mkZ sz st us pl ln (nI n)) (mkS sz st us pl ln (nI n)) (mkU sz st us pl ln (nI n)) kp ga gl cs (mkM sz st us pl ln mem (nI n)) (mkQ sz st us pl ln (nI n)) (mkL sz st us pl ln (nI n)) km ks kt ku kl kn cd wt) := by rw [← e_sz, ← e_st, ← e_us, ← e_mem, ← e_pl, ← e_ln]; exact hD
            exact W.iret (v := (nI 0)) hx hb hr (fun t ht hW => ⟨⟨(nI 0), (), rfl, (show (nI 0) = mkR sz st us pl ln (nI n) from by unfold mkR; rw [if_neg (fun q => absurd ((nI_ltI n_n (by omega)).mp q) (by omega)), if_neg (by omega), hcl, if_pos (by rw [hmk]; omega)]), by rw [ht]; exact hP, va_K.moved hW.alike hK, hD⟩, hS.F ht⟩) hS.2.2 dX4_make_116
        · have c_44 : ¬ us ≤ 0 := fun q => c_44 ((nZ_le (by omega)).mpr q)
          omega
    · have c_14 : us = 64 := (nI_eq (a := us) (b := 64) (by omega) (by omega)).mp c_14
      refine lv_iconst (v := (nI 0)) hx hb dX4_make_17 (by decide) ?_
      have e_sz : sz = mkZ sz st us pl ln (nI n) := by unfold mkZ; rw [if_neg (fun q => q.2.1 (by omega))]
      have e_st : st = mkS sz st us pl ln (nI n) := by unfold mkS; rw [if_neg (fun q => (fun q => q.2.1 (by omega)) q.1)]
      have e_us : us = mkU sz st us pl ln (nI n) := by unfold mkU; rw [if_neg (fun q => q.2.1 (by omega))]
      have e_mem : mem = mkM sz st us pl ln mem (nI n) := by unfold mkM; rw [if_neg (fun q => q.2.1 (by omega))]
      have e_pl : pl = mkQ sz st us pl ln (nI n) := by unfold mkQ; rw [if_neg (fun q => q.2.1 (by omega))]
      have e_ln : ln = mkL sz st us pl ln (nI n) := by unfold mkL; rw [if_neg (fun q => q.2.1 (by omega))]
      have hP : va_P (dC, dI) vwCl (mw cI a (mkZ sz st us pl ln (nI n)) (mkS sz st us pl ln (nI n)) (mkU sz st us pl ln (nI n)) kp ga gl cs (mkM sz st us pl ln mem (nI n)) (mkQ sz st us pl ln (nI n)) (mkL sz st us pl ln (nI n)) km ks kt ku kl kn cd wt) s.heap := by rw [← e_sz, ← e_st, ← e_us, ← e_mem, ← e_pl, ← e_ln]; exact hP
      have hD : va_D A (mw cI a (mkZ sz st us pl ln (nI n)) (mkS sz st us pl ln (nI n)) (mkU sz st us pl ln (nI n)) kp ga gl cs (mkM sz st us pl ln mem (nI n)) (mkQ sz st us pl ln (nI n)) (mkL sz st us pl ln (nI n)) km ks kt ku kl kn cd wt) := by rw [← e_sz, ← e_st, ← e_us, ← e_mem, ← e_pl, ← e_ln]; exact hD
      exact W.iret (v := (nI 0)) hx hb hr (fun t ht hW => ⟨⟨(nI 0), (), rfl, (show (nI 0) = mkR sz st us pl ln (nI n) from by unfold mkR; rw [if_neg (fun q => absurd ((nI_ltI n_n (by omega)).mp q) (by omega)), if_pos (by omega)]), by rw [ht]; exact hP, va_K.moved hW.alike hK, hD⟩, hS.F ht⟩) hS.2.2 dX4_make_18
  · refine lv_bipush (v := ((-11))) hx hb dX4_make_5 (by decide) ?_
    have e_sz : sz = mkZ sz st us pl ln p1 := by unfold mkZ; rw [if_neg (fun q => q.1 (Int32.not_le.mp c_2))]
    have e_st : st = mkS sz st us pl ln p1 := by unfold mkS; rw [if_neg (fun q => (fun q => q.1 (Int32.not_le.mp c_2)) q.1)]
    have e_us : us = mkU sz st us pl ln p1 := by unfold mkU; rw [if_neg (fun q => q.1 (Int32.not_le.mp c_2))]
    have e_mem : mem = mkM sz st us pl ln mem p1 := by unfold mkM; rw [if_neg (fun q => q.1 (Int32.not_le.mp c_2))]
    have e_pl : pl = mkQ sz st us pl ln p1 := by unfold mkQ; rw [if_neg (fun q => q.1 (Int32.not_le.mp c_2))]
    have e_ln : ln = mkL sz st us pl ln p1 := by unfold mkL; rw [if_neg (fun q => q.1 (Int32.not_le.mp c_2))]
    have hP : va_P (dC, dI) vwCl (mw cI a (mkZ sz st us pl ln p1) (mkS sz st us pl ln p1) (mkU sz st us pl ln p1) kp ga gl cs (mkM sz st us pl ln mem p1) (mkQ sz st us pl ln p1) (mkL sz st us pl ln p1) km ks kt ku kl kn cd wt) s.heap := by rw [← e_sz, ← e_st, ← e_us, ← e_mem, ← e_pl, ← e_ln]; exact hP
    have hD : va_D A (mw cI a (mkZ sz st us pl ln p1) (mkS sz st us pl ln p1) (mkU sz st us pl ln p1) kp ga gl cs (mkM sz st us pl ln mem p1) (mkQ sz st us pl ln p1) (mkL sz st us pl ln p1) km ks kt ku kl kn cd wt) := by rw [← e_sz, ← e_st, ← e_us, ← e_mem, ← e_pl, ← e_ln]; exact hD
    exact W.iret (v := ((-11))) hx hb hr (fun t ht hW => ⟨⟨((-11)), (), rfl, (show ((-11)) = mkR sz st us pl ln p1 from by unfold mkR; rw [if_pos (Int32.not_le.mp c_2)]), by rw [ht]; exact hP, va_K.moved hW.alike hK, hD⟩, hS.F ht⟩) hS.2.2 dX4_make_7
end
section
set_option maxHeartbeats 4000000 in
set_option maxRecDepth 100000 in
theorem c_X4_isKey (l : Launch) (q : Int32) (o : Nat) (g1 : o ≤ 7) : Met l yX4_isKey wsX4_isKey ({ frames := 1, cells := 0, slots := 0, locals := 20 }) (va_Pc [.int q, .int (nI o)] (fun _ => True)) (vp_Si (fun r => ((isK o q) ∧ r = nI 1) ∨ (¬ (isK o q) ∧ r = nI 0))) 0 0 (fun _ => False) := by
  refine Met.ofW (cc := cX4_isKey) (maxL := 2) (ret := (some .boolean)) (by decide) rfl ?_
  intro p e s m args below meth c s₁ B hml hv
  obtain ⟨rfl, -⟩ := hv
  have hx := B.exec
  have hb := B.bytes
  have hr := B.returns
  have hts := atoms_spec (ws := wsX4_isKey) B.pre
  have hown : s.vm.findClass RX4 = some m.cls := findClass_of_methodNamed B.named
  have hlocks := B.notSynchronized
  have hl := lv_entry ([.int q, .int (nI o)]) (n := 2) (Nat.le_of_ble_eq_true rfl)
  rw [lg_entry_eq]
  generalize (lg_sl ([.int q, .int (nI o)]) ++ List.replicate (2 - (lg_sl ([.int q, .int (nI o)])).length) Slot.unset).toArray = ls at hl ⊢
  have hl : lv_has ls 2 [(0, .int q), (1, .int (nI o))] := hl
  refine lv_iload_n hx hb dX4_isKey_0 rfl (lv_at hl 1 rfl) ?_
  refine lv_iconst (v := (nI 1)) hx hb dX4_isKey_1 (by decide) ?_
  refine lv_iand hx hb dX4_isKey_2 ?_
  refine tpi (and1 (by omega)) ?_
  refine lv_iconst (v := (nI 1)) hx hb dX4_isKey_3 (by decide) ?_
  refine lv_icmp_ne (tgt := 26) hx hb dX4_isKey_4 (by decide) (fun c_4 => ?_) (fun c_4 => ?_)
  · have c_4 : ¬ o % 2 = 1 := fun q => c_4 ((nI_eq (a := o % 2) (b := 1) (by omega) (by omega)).mpr q)
    refine lv_iload_n hx hb dX4_isKey_26 rfl (lv_at hl 0 rfl) ?_
    refine vp_callSi (W.runS (As := [.int q]) (rest := []) ⟨hx, hb, hml, hown, hts⟩ (c_X4_isWidth l q) (va_cwS 1 hts gX4_isKey_X4_isWidth rfl rfl rfl (by decide +kernel) ⟨Nat.le_of_ble_eq_true rfl, Nat.le_of_ble_eq_true rfl⟩) ⟨fun a9 U g9 mk9 q9 => ⟨q9.1, trivial⟩, fun U hU hW => ⟨rfl, trivial⟩⟩ rfl rfl hl.1 rfl (lv_room (Nat.le_of_ble_eq_true rfl)) dX4_isKey_27 ⟨Nat.zero_le _, Nat.zero_le _⟩) (fun r_27 hw => ?_)
    try dsimp only at hw
    rcases hw with ⟨hc_27, rfl⟩ | ⟨hc_27, rfl⟩
    · obtain ⟨k, hk, rfl⟩ := isW_of hc_27
      exact W.zret (v := (nI 1)) (ty := .boolean) hx hb hr (by decide) (fun t ht hW => ⟨(nI 1), rfl, Or.inl ⟨by unfold isK; rw [if_neg (by omega)]; exact hc_27, rfl⟩, ht⟩) (fun _ h9 => absurd h9 List.not_mem_nil) dX4_isKey_30
    · exact W.zret (v := (nI 0)) (ty := .boolean) hx hb hr (by decide) (fun t ht hW => ⟨(nI 0), rfl, Or.inr ⟨by unfold isK; rw [if_neg (by omega)]; exact hc_27, rfl⟩, ht⟩) (fun _ h9 => absurd h9 List.not_mem_nil) dX4_isKey_30
  · have c_4 : o % 2 = 1 := (nI_eq (a := o % 2) (b := 1) (by omega) (by omega)).mp c_4
    refine lv_iload_n hx hb dX4_isKey_7 rfl (lv_at hl 0 rfl) ?_
    refine lv_iconst (v := (nI 1)) hx hb dX4_isKey_8 (by decide) ?_
    refine lv_icmp_lt (tgt := 22) hx hb dX4_isKey_9 (by decide) (fun c_9 => ?_) (fun c_9 => ?_)
    · refine lv_iconst (v := (nI 0)) hx hb dX4_isKey_22 (by decide) ?_
      refine lv_goto (tgt := 30) hx hb dX4_isKey_23 (by decide) ?_
      exact W.zret (v := (nI 0)) (ty := .boolean) hx hb hr (by decide) (fun t ht hW => ⟨(nI 0), rfl, Or.inr ⟨by unfold isK; rw [if_pos (by omega)]; exact fun q => q.1 c_9, rfl⟩, ht⟩) (fun _ h9 => absurd h9 List.not_mem_nil) dX4_isKey_30
    · refine lv_iload_n hx hb dX4_isKey_12 rfl (lv_at hl 0 rfl) ?_
      refine lv_bipush (v := (nI 64)) hx hb dX4_isKey_13 (by decide) ?_
      refine lv_icmp_gt (tgt := 22) hx hb dX4_isKey_15 (by decide) (fun c_15 => ?_) (fun c_15 => ?_)
      · refine lv_iconst (v := (nI 0)) hx hb dX4_isKey_22 (by decide) ?_
        refine lv_goto (tgt := 30) hx hb dX4_isKey_23 (by decide) ?_
        exact W.zret (v := (nI 0)) (ty := .boolean) hx hb hr (by decide) (fun t ht hW => ⟨(nI 0), rfl, Or.inr ⟨by unfold isK; rw [if_pos (by omega)]; exact fun q => q.2 c_15, rfl⟩, ht⟩) (fun _ h9 => absurd h9 List.not_mem_nil) dX4_isKey_30
      · refine lv_iconst (v := (nI 1)) hx hb dX4_isKey_18 (by decide) ?_
        refine lv_goto (tgt := 30) hx hb dX4_isKey_19 (by decide) ?_
        exact W.zret (v := (nI 1)) (ty := .boolean) hx hb hr (by decide) (fun t ht hW => ⟨(nI 1), rfl, Or.inl ⟨by unfold isK; rw [if_pos (by omega)]; exact ⟨c_9, c_15⟩, rfl⟩, ht⟩) (fun _ h9 => absurd h9 List.not_mem_nil) dX4_isKey_30
set_option maxHeartbeats 4000000 in
set_option maxRecDepth 100000 in
theorem c_X4_isTaken (l : Launch) (dC : Nat → ClassId) (dI : Nat → Nat → Nat) (cI : ClassId) (a : Nat → Nat) (sz st us kp ga gl cs : Nat) (mem pl ln km ks kt ku kl kn cd wt : Nat → Nat) (zz : Nat) (p1 : Int32) (k o : Nat) (g3 : sz ≤ 8192) (bmem : ∀ j, mem j < 256) (gk1 : 1 ≤ k) (gk2 : k ≤ 64) (gk4 : o % 2 = 0 → k ≤ 4) (go : o ≤ 7) : Met l yX4_isTaken wsX4_isTaken ({ frames := 1, cells := 0, slots := 0, locals := 24 }) (va_Pc [.ref (a 0), .int p1, .int (nI k), .int (nI o)] (fun U => U.heap.size = zz ∧ va_P (dC, dI) vwCl (mw cI a sz st us kp ga gl cs mem pl ln km ks kt ku kl kn cd wt) U.heap ∧ va_K (dC, dI) vwCl [(cI, .int)] U ∧ va_D (fun _ => True) (mw cI a sz st us kp ga gl cs mem pl ln km ks kt ku kl kn cd wt))) (va_Qi (fun r _ => ((tkn sz p1 k o) ∧ r = nI 1) ∨ (¬ (tkn sz p1 k o) ∧ r = nI 0)) (fun (_ : Unit) t => va_P (dC, dI) vwCl (mw cI a sz st us kp ga gl cs mem pl ln km ks kt ku kl kn cd (tkW sz mem p1 k o wt)) t.heap ∧ va_K (dC, dI) vwCl [(cI, .int)] t ∧ va_D (va_A (mw cI a sz st us kp ga gl cs mem pl ln km ks kt ku kl kn cd wt) zz) (mw cI a sz st us kp ga gl cs mem pl ln km ks kt ku kl kn cd (tkW sz mem p1 k o wt))) (va_A (mw cI a sz st us kp ga gl cs mem pl ln km ks kt ku kl kn cd wt) zz)) 0 0 (va_A (mw cI a sz st us kp ga gl cs mem pl ln km ks kt ku kl kn cd wt) zz) := by
  refine Met.ofW (cc := cX4_isTaken) (maxL := 5) (ret := (some .boolean)) (by decide) rfl ?_
  intro p e s m args below meth c s₁ B hml hv
  obtain ⟨rfl, hsz, hP, hK, hD0⟩ := hv
  have hx := B.exec
  have hb := B.bytes
  have hr := B.returns
  have hts := atoms_spec (ws := wsX4_isTaken) B.pre
  have hown : s.vm.findClass RX4 = some m.cls := findClass_of_methodNamed B.named
  have hlocks := B.notSynchronized
  subst hsz
  have hD := hD0.self (sz := s.heap.size)
  generalize hAe : va_A (mw cI a sz st us kp ga gl cs mem pl ln km ks kt ku kl kn cd wt) s.heap.size = A at hD ⊢
  have hA : ∀ q : Nat, s.heap.size ≤ q → A q := fun q h => by rw [← hAe]; exact Or.inr h
  have hS : va_S A s.heap s.heap [] := va_S.rf
  have hP : va_P (dC, dI) vwCl (mw cI a sz st us kp ga gl cs mem pl ln km ks kt ku kl kn cd wt) s.heap := hP
  have in_X4 : ∀ w ∈ wsX40, w ∈ wsX4_isTaken := fun _ h => List.mem_cons_of_mem _ (List.mem_append_right _ h)
  have lk_1 := hts (.fieldLink RX4 41 "GlulxHeapModel" "wanted" "[I") (List.mem_of_getElem? (i := 1) rfl)
  have lk_2 := hts (.fieldLink RX4 7 "GlulxHeapModel" "memory" "[I") (List.mem_of_getElem? (i := 2) rfl)
  have hl := lv_entry ([.ref (a 0), .int p1, .int (nI k), .int (nI o)]) (n := 5) (Nat.le_of_ble_eq_true rfl)
  rw [lg_entry_eq]
  generalize (lg_sl ([.ref (a 0), .int p1, .int (nI k), .int (nI o)]) ++ List.replicate (5 - (lg_sl ([.ref (a 0), .int p1, .int (nI k), .int (nI o)])).length) Slot.unset).toArray = ls at hl ⊢
  have hl : lv_has ls 5 [(0, .ref (a 0)), (1, .int p1), (2, .int (nI k)), (3, .int (nI o))] := hl
  refine lv_iload_n hx hb dX4_isTaken_0 rfl (lv_at hl 3 rfl) ?_
  refine lv_iconst (v := (nI 1)) hx hb dX4_isTaken_1 (by decide) ?_
  refine lv_iand hx hb dX4_isTaken_2 ?_
  refine tpi (and1 (by omega)) ?_
  refine lv_if_ne (tgt := 45) hx hb dX4_isTaken_3 (by decide) (fun c_3 => ?_) (fun c_3 => ?_)
  · have c_3 : ¬ o % 2 = 0 := fun q => c_3 ((nZ_eq (by omega)).mpr q)
    rcases Classical.em (p1 < 0) with h0 | h0
    · refine lv_aload_n hx hb dX4_isTaken_45 rfl (lv_at hl 0 rfl) ?_
      refine lv_iload_n hx hb dX4_isTaken_46 rfl (lv_at hl 1 rfl) ?_
      refine lv_i2l (v := p1.toInt64) hx hb dX4_isTaken_47 rfl ?_
      refine lv_iload_n hx hb dX4_isTaken_48 rfl (lv_at hl 2 rfl) ?_
      refine lv_i2l (v := lN k) hx hb dX4_isTaken_49 (nI_l (by omega)) ?_
      refine vp_callSi (W.runV (As := [.long p1.toInt64, .long (lN k)]) (rest := []) ⟨hx, hb, hml, hown, hts⟩ (c_X4_isInN l dC dI cI a sz st us kp ga gl cs mem pl ln km ks kt ku kl kn cd wt p1.toInt64 k (neg64 h0) (by omega) (by omega) (by omega)) (cwV 2 hts gX4_isTaken_X4_isIn rfl rfl rfl (by decide +kernel) ⟨Nat.le_of_ble_eq_true rfl, Nat.le_of_ble_eq_true rfl⟩) ⟨fun a9 U g9 mk9 q9 => by obtain ⟨q0, qP, qK⟩ := q9; exact ⟨q0, qP, va_K.moved (u := U) (U := U.calling g9 mk9 a9) (Vm.Alike.refl U.vm) qK⟩, va_recv hK hP (ci := 4) (q0 := 0) rfl rfl, fun U hU hW => ⟨rfl, by rw [hU]; exact hP, va_K.moved hW.alike hK⟩⟩ rfl rfl hl.1 rfl (lv_room (Nat.le_of_ble_eq_true rfl)) dX4_isTaken_50 ⟨Nat.zero_le _, Nat.zero_le _⟩) (fun r_50 hw => ?_)
      try dsimp only at hw
      subst hw
      refine lv_if_ne (tgt := 58) hx hb dX4_isTaken_53 (by decide) (fun c_53 => ?_) (fun c_53 => ?_)
      · exact absurd c_53 (by decide)
      · have c_53 : 0 = 0 := (nZ_eq (by omega)).mp c_53
        refine lv_iconst (v := (nI 0)) hx hb dX4_isTaken_56 (by decide) ?_
        have e_wt : wt = tkW sz mem p1 k o wt := by unfold tkW; rw [if_neg (fun q => q.elim (by omega) (fun q => q.1 h0))]
        have hP : va_P (dC, dI) vwCl (mw cI a sz st us kp ga gl cs mem pl ln km ks kt ku kl kn cd (tkW sz mem p1 k o wt)) s.heap := by rw [← e_wt]; exact hP
        have hD : va_D A (mw cI a sz st us kp ga gl cs mem pl ln km ks kt ku kl kn cd (tkW sz mem p1 k o wt)) := by rw [← e_wt]; exact hD
        exact W.zret (v := (nI 0)) (ty := .boolean) hx hb hr (by decide) (fun t ht hW => ⟨⟨(nI 0), (), rfl, Or.inr ⟨fun q => q.elim (by omega) (fun q => q.1 h0), rfl⟩, by rw [ht]; exact hP, va_K.moved hW.alike hK, hD⟩, hS.F ht⟩) hS.2.2 dX4_isTaken_57
    · obtain ⟨y, n_y, rfl⟩ := nI_of h0
      refine lv_aload_n hx hb dX4_isTaken_45 rfl (lv_at hl 0 rfl) ?_
      refine lv_iload_n hx hb dX4_isTaken_46 rfl (lv_at hl 1 rfl) ?_
      refine lv_i2l (v := lN y) hx hb dX4_isTaken_47 (nI_l (by omega)) ?_
      refine lv_iload_n hx hb dX4_isTaken_48 rfl (lv_at hl 2 rfl) ?_
      refine lv_i2l (v := lN k) hx hb dX4_isTaken_49 (nI_l (by omega)) ?_
      refine vp_callSi (W.runV (As := [.long (lN y), .long (lN k)]) (rest := []) ⟨hx, hb, hml, hown, hts⟩ (c_X4_isIn l dC dI cI a sz st us kp ga gl cs mem pl ln km ks kt ku kl kn cd wt y k (by omega) (by omega) (by omega)) (cwV 2 hts gX4_isTaken_X4_isIn rfl rfl rfl (by decide +kernel) ⟨Nat.le_of_ble_eq_true rfl, Nat.le_of_ble_eq_true rfl⟩) ⟨fun a9 U g9 mk9 q9 => by obtain ⟨q0, qP, qK⟩ := q9; exact ⟨q0, qP, va_K.moved (u := U) (U := U.calling g9 mk9 a9) (Vm.Alike.refl U.vm) qK⟩, va_recv hK hP (ci := 4) (q0 := 0) rfl rfl, fun U hU hW => ⟨rfl, by rw [hU]; exact hP, va_K.moved hW.alike hK⟩⟩ rfl rfl hl.1 rfl (lv_room (Nat.le_of_ble_eq_true rfl)) dX4_isTaken_50 ⟨Nat.zero_le _, Nat.zero_le _⟩) (fun r_50 hw => ?_)
      try dsimp only at hw
      rcases hw with ⟨hc_50, rfl⟩ | ⟨hc_50, rfl⟩
      · skip
        refine lv_if_ne (tgt := 58) hx hb dX4_isTaken_53 (by decide) (fun c_53 => ?_) (fun c_53 => ?_)
        · have c_53 : ¬ 1 = 0 := fun q => c_53 ((nZ_eq (by omega)).mpr q)
          refine lv_iconst (v := (nI 0)) hx hb dX4_isTaken_58 (by decide) ?_
          refine lv_istore (lv' := [(4, .int (nI 0)), (0, .ref (a 0)), (1, .int (nI y)), (2, .int (nI k)), (3, .int (nI o))]) hx hb dX4_isTaken_59 hl (by decide) rfl (fun ls hl => ?_)
          refine lp_world (σ := Nat × (Nat → Nat)) (fun ⟨i, f⟩ => i ≤ k ∧ f = kyW mem (nI y) k o wt i) (fun ⟨i, f⟩ => k - i) (fun ⟨i, f⟩ => [(4, .int (nI i)), (0, .ref (a 0)), (1, .int (nI y)), (2, .int (nI k)), (3, .int (nI o))]) (fun ⟨i, f⟩ => mw cI a sz st us kp ga gl cs mem pl ln km ks kt ku kl kn cd f) ?_ ((0, wt)) (⟨Nat.zero_le _, by rw [kyW_0]⟩) (hP) (hD) hS (lv_sub hl [0, 1, 2, 3, 4] rfl)
          intro ⟨i, f⟩ hI ih H locs ls hP hD hS hl
          have hl : lv_has ls 5 [(4, .int (nI i)), (0, .ref (a 0)), (1, .int (nI y)), (2, .int (nI k)), (3, .int (nI o))] := hl
          have hP : va_P (dC, dI) vwCl (mw cI a sz st us kp ga gl cs mem pl ln km ks kt ku kl kn cd f) H := hP
          have hD : va_D A (mw cI a sz st us kp ga gl cs mem pl ln km ks kt ku kl kn cd f) := hD
          have hI : i ≤ k ∧ f = kyW mem (nI y) k o wt i := hI
          obtain ⟨hi, hf⟩ := hI
          have ih_61 := ih
          refine lv_iload hx hb dX4_isTaken_61 (lv_at hl 0 rfl) ?_
          refine lv_iload_n hx hb dX4_isTaken_63 rfl (lv_at hl 3 rfl) ?_
          refine lv_icmp_ge (tgt := 89) hx hb dX4_isTaken_64 (by decide) (fun c_64 => ?_) (fun c_64 => ?_)
          · have c_64 : k ≤ i := (nI_leI (a := k) (b := i) (by omega) (by omega)).mp c_64
            refine lv_iconst (v := (nI 1)) hx hb dX4_isTaken_89 (by decide) ?_
            have e_wt : f = tkW sz mem (nI y) k o wt := by unfold tkW; rw [if_pos (Or.inr ⟨h0, by rw [show cl (nI y) = y from nI_clamp n_y]; omega⟩), hf, show i = k by omega]
            have hP : va_P (dC, dI) vwCl (mw cI a sz st us kp ga gl cs mem pl ln km ks kt ku kl kn cd (tkW sz mem (nI y) k o wt)) H := by rw [← e_wt]; exact hP
            have hD : va_D A (mw cI a sz st us kp ga gl cs mem pl ln km ks kt ku kl kn cd (tkW sz mem (nI y) k o wt)) := by rw [← e_wt]; exact hD
            exact W.zret (v := (nI 1)) (ty := .boolean) hx hb hr (by decide) (fun t ht hW => ⟨⟨(nI 1), (), rfl, Or.inl ⟨Or.inr ⟨h0, by rw [show cl (nI y) = y from nI_clamp n_y]; omega⟩, rfl⟩, by rw [ht]; exact hP, va_K.moved hW.alike hK, hD⟩, hS.F ht⟩) hS.2.2 dX4_isTaken_90
          · have c_64 : ¬ k ≤ i := fun q => c_64 ((nI_leI (a := k) (b := i) (by omega) (by omega)).mpr q)
            refine lv_aload_n hx hb dX4_isTaken_67 rfl (lv_at hl 1 rfl) ?_
            refine va_get (D := (dC, dI)) (ci := 4) (v := .ref (a 11)) (C := RX4) (T := TX4) (N := 18) hx hb hts in_X4 hown hK hP 0 rfl rfl 17 (by decide) lk_1 (fun _ h9 => h9) rfl dX4_isTaken_68 ?_
            refine lv_iload hx hb dX4_isTaken_71 (lv_at hl 0 rfl) ?_
            refine lv_aload_n hx hb dX4_isTaken_73 rfl (lv_at hl 1 rfl) ?_
            refine va_get (D := (dC, dI)) (ci := 4) (v := .ref (a 1)) (C := RX4) (T := TX4) (N := 18) hx hb hts in_X4 hown hK hP 0 rfl rfl 0 (by decide) lk_2 (fun _ h9 => h9) rfl dX4_isTaken_74 ?_
            refine lv_iload_n hx hb dX4_isTaken_77 rfl (lv_at hl 2 rfl) ?_
            refine lv_iload hx hb dX4_isTaken_78 (lv_at hl 0 rfl) ?_
            refine lv_iadd hx hb dX4_isTaken_80 ?_
            refine tpi (nI_add _ _) ?_
            refine va_iald hx hb hK hP 1 0 rfl rfl (vp_in_nI (by omega) (by omega)) dX4_isTaken_81 ?_
            refine tpi (nf_at (by omega)) ?_
            have w_81 := bmem (y + i)
            refine va_iast hx hb hK hP hD hS 11 0 rfl rfl (vp_in_nI (by omega) (by omega)) dX4_isTaken_82 (fun H locs hP hD hS => ?_)
            rw [nf_up (by omega)] at hP hD
            have hP : va_P (dC, dI) vwCl (mw cI a sz st us kp ga gl cs mem pl ln km ks kt ku kl kn cd (va_up f i (mem (y + i)))) H := hP
            have hD : va_D A (mw cI a sz st us kp ga gl cs mem pl ln km ks kt ku kl kn cd (va_up f i (mem (y + i)))) := hD
            refine lv_iinc (v := (nI (i + 1))) (lv' := [(4, .int (nI (i + 1))), (0, .ref (a 0)), (1, .int (nI y)), (2, .int (nI k)), (3, .int (nI o))]) hx hb dX4_isTaken_83 hl (k := 0) rfl (nI_inc _) (by decide) rfl (fun ls hl => ?_)
            refine lv_goto (tgt := 61) hx hb dX4_isTaken_86 (by decide) ?_
            exact ih_61 (i + 1, va_up f i (mem (y + i))) (⟨by omega, by rw [hf, kyW_s (by unfold ky; rw [if_neg (by omega), show cl (nI y) = y from nI_clamp n_y])]⟩) (show k - (i + 1) < k - i by omega) H locs ls (hP) (hD) hS (lv_sub hl [0, 1, 2, 3, 4] rfl)
        · exact absurd c_53 (by decide)
      · skip
        refine lv_if_ne (tgt := 58) hx hb dX4_isTaken_53 (by decide) (fun c_53 => ?_) (fun c_53 => ?_)
        · exact absurd c_53 (by decide)
        · have c_53 : 0 = 0 := (nZ_eq (by omega)).mp c_53
          refine lv_iconst (v := (nI 0)) hx hb dX4_isTaken_56 (by decide) ?_
          have e_wt : wt = tkW sz mem (nI y) k o wt := by unfold tkW; rw [if_neg (fun q => q.elim (by omega) (fun q => absurd q.2 (by rw [show cl (nI y) = y from nI_clamp n_y]; omega)))]
          have hP : va_P (dC, dI) vwCl (mw cI a sz st us kp ga gl cs mem pl ln km ks kt ku kl kn cd (tkW sz mem (nI y) k o wt)) s.heap := by rw [← e_wt]; exact hP
          have hD : va_D A (mw cI a sz st us kp ga gl cs mem pl ln km ks kt ku kl kn cd (tkW sz mem (nI y) k o wt)) := by rw [← e_wt]; exact hD
          exact W.zret (v := (nI 0)) (ty := .boolean) hx hb hr (by decide) (fun t ht hW => ⟨⟨(nI 0), (), rfl, Or.inr ⟨fun q => q.elim (by omega) (fun q => absurd q.2 (by rw [show cl (nI y) = y from nI_clamp n_y]; omega)), rfl⟩, by rw [ht]; exact hP, va_K.moved hW.alike hK, hD⟩, hS.F ht⟩) hS.2.2 dX4_isTaken_57
  · have c_3 : o % 2 = 0 := (nZ_eq (by omega)).mp c_3
    refine lv_iconst (v := (nI 0)) hx hb dX4_isTaken_6 (by decide) ?_
    refine lv_istore (lv' := [(4, .int (nI 0)), (0, .ref (a 0)), (1, .int p1), (2, .int (nI k)), (3, .int (nI o))]) hx hb dX4_isTaken_7 hl (by decide) rfl (fun ls hl => ?_)
    refine lp_world (σ := Nat × (Nat → Nat)) (fun ⟨i, f⟩ => i ≤ k ∧ f = kyW mem p1 k o wt i) (fun ⟨i, f⟩ => k - i) (fun ⟨i, f⟩ => [(4, .int (nI i)), (0, .ref (a 0)), (1, .int p1), (2, .int (nI k)), (3, .int (nI o))]) (fun ⟨i, f⟩ => mw cI a sz st us kp ga gl cs mem pl ln km ks kt ku kl kn cd f) ?_ ((0, wt)) (⟨Nat.zero_le _, by rw [kyW_0]⟩) (hP) (hD) hS (lv_sub hl [0, 1, 2, 3, 4] rfl)
    intro ⟨i, f⟩ hI ih H locs ls hP hD hS hl
    have hl : lv_has ls 5 [(4, .int (nI i)), (0, .ref (a 0)), (1, .int p1), (2, .int (nI k)), (3, .int (nI o))] := hl
    have hP : va_P (dC, dI) vwCl (mw cI a sz st us kp ga gl cs mem pl ln km ks kt ku kl kn cd f) H := hP
    have hD : va_D A (mw cI a sz st us kp ga gl cs mem pl ln km ks kt ku kl kn cd f) := hD
    have hI : i ≤ k ∧ f = kyW mem p1 k o wt i := hI
    obtain ⟨hi, hf⟩ := hI
    have ih_9 := ih
    refine lv_iload hx hb dX4_isTaken_9 (lv_at hl 0 rfl) ?_
    refine lv_iload_n hx hb dX4_isTaken_11 rfl (lv_at hl 3 rfl) ?_
    refine lv_icmp_ge (tgt := 43) hx hb dX4_isTaken_12 (by decide) (fun c_12 => ?_) (fun c_12 => ?_)
    · have c_12 : k ≤ i := (nI_leI (a := k) (b := i) (by omega) (by omega)).mp c_12
      refine lv_iconst (v := (nI 1)) hx hb dX4_isTaken_43 (by decide) ?_
      have e_wt : f = tkW sz mem p1 k o wt := by unfold tkW; rw [if_pos (Or.inl (by omega)), hf, show i = k by omega]
      have hP : va_P (dC, dI) vwCl (mw cI a sz st us kp ga gl cs mem pl ln km ks kt ku kl kn cd (tkW sz mem p1 k o wt)) H := by rw [← e_wt]; exact hP
      have hD : va_D A (mw cI a sz st us kp ga gl cs mem pl ln km ks kt ku kl kn cd (tkW sz mem p1 k o wt)) := by rw [← e_wt]; exact hD
      exact W.zret (v := (nI 1)) (ty := .boolean) hx hb hr (by decide) (fun t ht hW => ⟨⟨(nI 1), (), rfl, Or.inl ⟨Or.inl (by omega), rfl⟩, by rw [ht]; exact hP, va_K.moved hW.alike hK, hD⟩, hS.F ht⟩) hS.2.2 dX4_isTaken_44
    · have c_12 : ¬ k ≤ i := fun q => c_12 ((nI_leI (a := k) (b := i) (by omega) (by omega)).mpr q)
      refine lv_aload_n hx hb dX4_isTaken_15 rfl (lv_at hl 1 rfl) ?_
      refine va_get (D := (dC, dI)) (ci := 4) (v := .ref (a 11)) (C := RX4) (T := TX4) (N := 18) hx hb hts in_X4 hown hK hP 0 rfl rfl 17 (by decide) lk_1 (fun _ h9 => h9) rfl dX4_isTaken_16 ?_
      refine lv_iload hx hb dX4_isTaken_19 (lv_at hl 0 rfl) ?_
      refine lv_iload_n hx hb dX4_isTaken_21 rfl (lv_at hl 2 rfl) ?_
      refine lv_bipush (v := (nI 8)) hx hb dX4_isTaken_22 (by decide) ?_
      refine lv_iload_n hx hb dX4_isTaken_24 rfl (lv_at hl 3 rfl) ?_
      refine lv_iconst (v := (nI 1)) hx hb dX4_isTaken_25 (by decide) ?_
      refine lv_isub hx hb dX4_isTaken_26 ?_
      refine tpi (pk_sub (by omega)) ?_
      refine lv_iload hx hb dX4_isTaken_27 (lv_at hl 0 rfl) ?_
      refine lv_isub hx hb dX4_isTaken_29 ?_
      refine tpi (pk_sub (by omega)) ?_
      refine lv_imul hx hb dX4_isTaken_30 ?_
      refine tpi (pk_mul _ _) ?_
      refine lv_ishr hx hb dX4_isTaken_31 ?_
      refine tpi (rfl) ?_
      refine lv_sipush (v := (nI 255)) hx hb dX4_isTaken_32 (by decide) ?_
      refine lv_iand hx hb dX4_isTaken_35 ?_
      refine tpi (sarB p1 (by have := gk4 (by omega); omega)) ?_
      refine va_iast hx hb hK hP hD hS 11 0 rfl rfl (vp_in_nI (by omega) (by omega)) dX4_isTaken_36 (fun H locs hP hD hS => ?_)
      rw [nf_up (by omega)] at hP hD
      have hP : va_P (dC, dI) vwCl (mw cI a sz st us kp ga gl cs mem pl ln km ks kt ku kl kn cd (va_up f i (byt p1 (k - 1 - i)))) H := hP
      have hD : va_D A (mw cI a sz st us kp ga gl cs mem pl ln km ks kt ku kl kn cd (va_up f i (byt p1 (k - 1 - i)))) := hD
      refine lv_iinc (v := (nI (i + 1))) (lv' := [(4, .int (nI (i + 1))), (0, .ref (a 0)), (1, .int p1), (2, .int (nI k)), (3, .int (nI o))]) hx hb dX4_isTaken_37 hl (k := 0) rfl (nI_inc _) (by decide) rfl (fun ls hl => ?_)
      refine lv_goto (tgt := 9) hx hb dX4_isTaken_40 (by decide) ?_
      exact ih_9 (i + 1, va_up f i (byt p1 (k - 1 - i))) (⟨by omega, by rw [hf, kyW_s (by unfold ky; rw [if_pos (by omega)])]⟩) (show k - (i + 1) < k - i by omega) H locs ls (hP) (hD) hS (lv_sub hl [0, 1, 2, 3, 4] rfl)
end
