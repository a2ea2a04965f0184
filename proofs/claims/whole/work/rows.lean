section
-- ===== PART A: goes FIRST, ahead of the names: the tables' words, and 'selects' of the private methods out of them =====
/-- a private method of a class that the tables say can be made, by its rows of tables_1 -/
def lw_okq (q : MethodName × Nat) : Prop := (q.1.cls ≠ "java/lang/invoke/MethodHandle" ∧ q.1.cls ≠ "java/lang/invoke/VarHandle") ∧ Cond.instantiable q.1.cls q.2 ∈ tables_1 ∧ Cond.privateMethod q.1 ∈ tables_1 ∧ Cond.instanceMethod q.1 ∈ tables_1
theorem lw_p0 : lw_okq (⟨"BitLevels$History", "dropOldest", "()V"⟩, 2) := ⟨⟨by decide +kernel, by decide +kernel⟩, List.mem_of_getElem? (i := 35) (by decide +kernel), List.mem_of_getElem? (i := 177) (by decide +kernel), List.mem_of_getElem? (i := 178) (by decide +kernel)⟩
theorem lw_p1 : lw_okq (⟨"BitLevels$Levels", "moveBits", "(III)I"⟩, 4) := ⟨⟨by decide +kernel, by decide +kernel⟩, List.mem_of_getElem? (i := 51) (by decide +kernel), List.mem_of_getElem? (i := 267) (by decide +kernel), List.mem_of_getElem? (i := 268) (by decide +kernel)⟩
theorem lw_p2 : lw_okq (⟨"BitLevels$Levels", "isOn", "(II)Z"⟩, 4) := ⟨⟨by decide +kernel, by decide +kernel⟩, List.mem_of_getElem? (i := 51) (by decide +kernel), List.mem_of_getElem? (i := 278) (by decide +kernel), List.mem_of_getElem? (i := 279) (by decide +kernel)⟩
theorem lw_p3 : lw_okq (⟨"BitLevels", "blocks", "()I"⟩, 7) := ⟨⟨by decide +kernel, by decide +kernel⟩, List.mem_of_getElem? (i := 13) (by decide +kernel), List.mem_of_getElem? (i := 301) (by decide +kernel), List.mem_of_getElem? (i := 302) (by decide +kernel)⟩
theorem lw_p4 : lw_okq (⟨"BitLevels$Player", "playEdit", "()V"⟩, 10) := ⟨⟨by decide +kernel, by decide +kernel⟩, List.mem_of_getElem? (i := 96) (by decide +kernel), List.mem_of_getElem? (i := 472) (by decide +kernel), List.mem_of_getElem? (i := 473) (by decide +kernel)⟩
theorem lw_p5 : lw_okq (⟨"BitLevels$Player", "readEdit", "()Z"⟩, 10) := ⟨⟨by decide +kernel, by decide +kernel⟩, List.mem_of_getElem? (i := 96) (by decide +kernel), List.mem_of_getElem? (i := 476) (by decide +kernel), List.mem_of_getElem? (i := 477) (by decide +kernel)⟩
theorem lw_p6 : lw_okq (⟨"BitLevels$Player", "readNumber", "()I"⟩, 10) := ⟨⟨by decide +kernel, by decide +kernel⟩, List.mem_of_getElem? (i := 96) (by decide +kernel), List.mem_of_getElem? (i := 484) (by decide +kernel), List.mem_of_getElem? (i := 485) (by decide +kernel)⟩
theorem lw_p7 : lw_okq (⟨"BitLevels$Player", "readSign", "(C)Z"⟩, 10) := ⟨⟨by decide +kernel, by decide +kernel⟩, List.mem_of_getElem? (i := 96) (by decide +kernel), List.mem_of_getElem? (i := 496) (by decide +kernel), List.mem_of_getElem? (i := 497) (by decide +kernel)⟩
theorem lw_p8 : lw_okq (⟨"BitLevels$Player", "readSymbols", "()I"⟩, 10) := ⟨⟨by decide +kernel, by decide +kernel⟩, List.mem_of_getElem? (i := 96) (by decide +kernel), List.mem_of_getElem? (i := 500) (by decide +kernel), List.mem_of_getElem? (i := 501) (by decide +kernel)⟩
theorem lw_p9 : lw_okq (⟨"BitLevels$Player", "reasonAgainst", "()I"⟩, 10) := ⟨⟨by decide +kernel, by decide +kernel⟩, List.mem_of_getElem? (i := 96) (by decide +kernel), List.mem_of_getElem? (i := 508) (by decide +kernel), List.mem_of_getElem? (i := 509) (by decide +kernel)⟩
theorem lw_p10 : lw_okq (⟨"BitLevels$Player", "hasPlaces", "()Z"⟩, 10) := ⟨⟨by decide +kernel, by decide +kernel⟩, List.mem_of_getElem? (i := 96) (by decide +kernel), List.mem_of_getElem? (i := 512) (by decide +kernel), List.mem_of_getElem? (i := 513) (by decide +kernel)⟩
theorem lw_p11 : lw_okq (⟨"BitLevels$Player", "perform", "()V"⟩, 10) := ⟨⟨by decide +kernel, by decide +kernel⟩, List.mem_of_getElem? (i := 96) (by decide +kernel), List.mem_of_getElem? (i := 520) (by decide +kernel), List.mem_of_getElem? (i := 521) (by decide +kernel)⟩
theorem lw_p12 : lw_okq (⟨"BitLevels$Player", "putSymbolsIn", "()V"⟩, 10) := ⟨⟨by decide +kernel, by decide +kernel⟩, List.mem_of_getElem? (i := 96) (by decide +kernel), List.mem_of_getElem? (i := 524) (by decide +kernel), List.mem_of_getElem? (i := 525) (by decide +kernel)⟩
theorem lw_p13 : lw_okq (⟨"BitLevels$Player", "takeSpanOut", "()V"⟩, 10) := ⟨⟨by decide +kernel, by decide +kernel⟩, List.mem_of_getElem? (i := 96) (by decide +kernel), List.mem_of_getElem? (i := 529) (by decide +kernel), List.mem_of_getElem? (i := 530) (by decide +kernel)⟩
theorem lw_p14 : lw_okq (⟨"BitLevelsModel", "keeps", "()V"⟩, 15) := ⟨⟨by decide +kernel, by decide +kernel⟩, List.mem_of_getElem? (i := 557) (by decide +kernel), List.mem_of_getElem? (i := 613) (by decide +kernel), List.mem_of_getElem? (i := 614) (by decide +kernel)⟩
theorem lw_p15 : lw_okq (⟨"BitLevelsModel", "puts", "(II)I"⟩, 15) := ⟨⟨by decide +kernel, by decide +kernel⟩, List.mem_of_getElem? (i := 557) (by decide +kernel), List.mem_of_getElem? (i := 617) (by decide +kernel), List.mem_of_getElem? (i := 618) (by decide +kernel)⟩
def lw_privs_1 : List (MethodName × Nat) := [(⟨"BitLevels$History", "dropOldest", "()V"⟩, 2), (⟨"BitLevels$Levels", "moveBits", "(III)I"⟩, 4), (⟨"BitLevels$Levels", "isOn", "(II)Z"⟩, 4), (⟨"BitLevels", "blocks", "()I"⟩, 7), (⟨"BitLevels$Player", "playEdit", "()V"⟩, 10), (⟨"BitLevels$Player", "readEdit", "()Z"⟩, 10), (⟨"BitLevels$Player", "readNumber", "()I"⟩, 10), (⟨"BitLevels$Player", "readSign", "(C)Z"⟩, 10), (⟨"BitLevels$Player", "readSymbols", "()I"⟩, 10), (⟨"BitLevels$Player", "reasonAgainst", "()I"⟩, 10), (⟨"BitLevels$Player", "hasPlaces", "()Z"⟩, 10), (⟨"BitLevels$Player", "perform", "()V"⟩, 10), (⟨"BitLevels$Player", "putSymbolsIn", "()V"⟩, 10), (⟨"BitLevels$Player", "takeSpanOut", "()V"⟩, 10), (⟨"BitLevelsModel", "keeps", "()V"⟩, 15), (⟨"BitLevelsModel", "puts", "(II)I"⟩, 15)]
theorem lw_r1 : ∀ q ∈ lw_privs_1, lw_okq q := List.forall_mem_cons.mpr ⟨lw_p0, List.forall_mem_cons.mpr ⟨lw_p1, List.forall_mem_cons.mpr ⟨lw_p2, List.forall_mem_cons.mpr ⟨lw_p3, List.forall_mem_cons.mpr ⟨lw_p4, List.forall_mem_cons.mpr ⟨lw_p5, List.forall_mem_cons.mpr ⟨lw_p6, List.forall_mem_cons.mpr ⟨lw_p7, List.forall_mem_cons.mpr ⟨lw_p8, List.forall_mem_cons.mpr ⟨lw_p9, List.forall_mem_cons.mpr ⟨lw_p10, List.forall_mem_cons.mpr ⟨lw_p11, List.forall_mem_cons.mpr ⟨lw_p12, List.forall_mem_cons.mpr ⟨lw_p13, List.forall_mem_cons.mpr ⟨lw_p14, List.forall_mem_cons.mpr ⟨lw_p15, fun _ h => absurd h List.not_mem_nil⟩⟩⟩⟩⟩⟩⟩⟩⟩⟩⟩⟩⟩⟩⟩⟩
theorem lw_p16 : lw_okq (⟨"BitLevelsModel", "acted", "(I)I"⟩, 15) := ⟨⟨by decide +kernel, by decide +kernel⟩, List.mem_of_getElem? (i := 557) (by decide +kernel), List.mem_of_getElem? (i := 626) (by decide +kernel), List.mem_of_getElem? (i := 627) (by decide +kernel)⟩
theorem lw_p17 : lw_okq (⟨"BitLevelsModel", "takes", "(I)I"⟩, 15) := ⟨⟨by decide +kernel, by decide +kernel⟩, List.mem_of_getElem? (i := 557) (by decide +kernel), List.mem_of_getElem? (i := 634) (by decide +kernel), List.mem_of_getElem? (i := 635) (by decide +kernel)⟩
theorem lw_p18 : lw_okq (⟨"BitLevelsModel", "isPlace", "(I)Z"⟩, 15) := ⟨⟨by decide +kernel, by decide +kernel⟩, List.mem_of_getElem? (i := 557) (by decide +kernel), List.mem_of_getElem? (i := 638) (by decide +kernel), List.mem_of_getElem? (i := 639) (by decide +kernel)⟩
theorem lw_p19 : lw_okq (⟨"BitLevelsModel", "swaps", "(II)I"⟩, 15) := ⟨⟨by decide +kernel, by decide +kernel⟩, List.mem_of_getElem? (i := 557) (by decide +kernel), List.mem_of_getElem? (i := 650) (by decide +kernel), List.mem_of_getElem? (i := 651) (by decide +kernel)⟩
theorem lw_p20 : lw_okq (⟨"BitLevelsModel", "turns", "(II)I"⟩, 15) := ⟨⟨by decide +kernel, by decide +kernel⟩, List.mem_of_getElem? (i := 557) (by decide +kernel), List.mem_of_getElem? (i := 658) (by decide +kernel), List.mem_of_getElem? (i := 659) (by decide +kernel)⟩
theorem lw_p21 : lw_okq (⟨"BitLevelsModel", "isSpan", "(II)Z"⟩, 15) := ⟨⟨by decide +kernel, by decide +kernel⟩, List.mem_of_getElem? (i := 557) (by decide +kernel), List.mem_of_getElem? (i := 662) (by decide +kernel), List.mem_of_getElem? (i := 663) (by decide +kernel)⟩
theorem lw_p22 : lw_okq (⟨"BitLevelsModel", "counts", "(II)V"⟩, 15) := ⟨⟨by decide +kernel, by decide +kernel⟩, List.mem_of_getElem? (i := 557) (by decide +kernel), List.mem_of_getElem? (i := 670) (by decide +kernel), List.mem_of_getElem? (i := 671) (by decide +kernel)⟩
theorem lw_p23 : lw_okq (⟨"BitLevelsModel", "lays", "()V"⟩, 15) := ⟨⟨by decide +kernel, by decide +kernel⟩, List.mem_of_getElem? (i := 557) (by decide +kernel), List.mem_of_getElem? (i := 679) (by decide +kernel), List.mem_of_getElem? (i := 680) (by decide +kernel)⟩
theorem lw_p24 : lw_okq (⟨"BitLevelsModel", "bit", "(II)I"⟩, 15) := ⟨⟨by decide +kernel, by decide +kernel⟩, List.mem_of_getElem? (i := 557) (by decide +kernel), List.mem_of_getElem? (i := 683) (by decide +kernel), List.mem_of_getElem? (i := 684) (by decide +kernel)⟩
theorem lw_p25 : lw_okq (⟨"BitLevelsModel", "blocks", "()I"⟩, 15) := ⟨⟨by decide +kernel, by decide +kernel⟩, List.mem_of_getElem? (i := 557) (by decide +kernel), List.mem_of_getElem? (i := 691) (by decide +kernel), List.mem_of_getElem? (i := 692) (by decide +kernel)⟩
theorem lw_p26 : lw_okq (⟨"BitLevelsModel", "unlike", "()I"⟩, 15) := ⟨⟨by decide +kernel, by decide +kernel⟩, List.mem_of_getElem? (i := 557) (by decide +kernel), List.mem_of_getElem? (i := 729) (by decide +kernel), List.mem_of_getElem? (i := 730) (by decide +kernel)⟩
theorem lw_p27 : lw_okq (⟨"BitLevelsModel", "mostFrequent", "()I"⟩, 15) := ⟨⟨by decide +kernel, by decide +kernel⟩, List.mem_of_getElem? (i := 557) (by decide +kernel), List.mem_of_getElem? (i := 733) (by decide +kernel), List.mem_of_getElem? (i := 734) (by decide +kernel)⟩
theorem lw_p28 : lw_okq (⟨"BitLevelsModel", "sum", "(II)I"⟩, 15) := ⟨⟨by decide +kernel, by decide +kernel⟩, List.mem_of_getElem? (i := 557) (by decide +kernel), List.mem_of_getElem? (i := 737) (by decide +kernel), List.mem_of_getElem? (i := 738) (by decide +kernel)⟩
theorem lw_p29 : lw_okq (⟨"BitLevelsModel", "wrong", "(II)I"⟩, 15) := ⟨⟨by decide +kernel, by decide +kernel⟩, List.mem_of_getElem? (i := 557) (by decide +kernel), List.mem_of_getElem? (i := 741) (by decide +kernel), List.mem_of_getElem? (i := 742) (by decide +kernel)⟩
theorem lw_p30 : lw_okq (⟨"BitLevelsModel", "ones", "()I"⟩, 15) := ⟨⟨by decide +kernel, by decide +kernel⟩, List.mem_of_getElem? (i := 557) (by decide +kernel), List.mem_of_getElem? (i := 763) (by decide +kernel), List.mem_of_getElem? (i := 764) (by decide +kernel)⟩
theorem lw_p31 : lw_okq (⟨"BitLevelsModel", "faulty", "()I"⟩, 15) := ⟨⟨by decide +kernel, by decide +kernel⟩, List.mem_of_getElem? (i := 557) (by decide +kernel), List.mem_of_getElem? (i := 784) (by decide +kernel), List.mem_of_getElem? (i := 785) (by decide +kernel)⟩
def lw_privs_2 : List (MethodName × Nat) := [(⟨"BitLevelsModel", "acted", "(I)I"⟩, 15), (⟨"BitLevelsModel", "takes", "(I)I"⟩, 15), (⟨"BitLevelsModel", "isPlace", "(I)Z"⟩, 15), (⟨"BitLevelsModel", "swaps", "(II)I"⟩, 15), (⟨"BitLevelsModel", "turns", "(II)I"⟩, 15), (⟨"BitLevelsModel", "isSpan", "(II)Z"⟩, 15), (⟨"BitLevelsModel", "counts", "(II)V"⟩, 15), (⟨"BitLevelsModel", "lays", "()V"⟩, 15), (⟨"BitLevelsModel", "bit", "(II)I"⟩, 15), (⟨"BitLevelsModel", "blocks", "()I"⟩, 15), (⟨"BitLevelsModel", "unlike", "()I"⟩, 15), (⟨"BitLevelsModel", "mostFrequent", "()I"⟩, 15), (⟨"BitLevelsModel", "sum", "(II)I"⟩, 15), (⟨"BitLevelsModel", "wrong", "(II)I"⟩, 15), (⟨"BitLevelsModel", "ones", "()I"⟩, 15), (⟨"BitLevelsModel", "faulty", "()I"⟩, 15)]
theorem lw_r2 : ∀ q ∈ lw_privs_2, lw_okq q := List.forall_mem_cons.mpr ⟨lw_p16, List.forall_mem_cons.mpr ⟨lw_p17, List.forall_mem_cons.mpr ⟨lw_p18, List.forall_mem_cons.mpr ⟨lw_p19, List.forall_mem_cons.mpr ⟨lw_p20, List.forall_mem_cons.mpr ⟨lw_p21, List.forall_mem_cons.mpr ⟨lw_p22, List.forall_mem_cons.mpr ⟨lw_p23, List.forall_mem_cons.mpr ⟨lw_p24, List.forall_mem_cons.mpr ⟨lw_p25, List.forall_mem_cons.mpr ⟨lw_p26, List.forall_mem_cons.mpr ⟨lw_p27, List.forall_mem_cons.mpr ⟨lw_p28, List.forall_mem_cons.mpr ⟨lw_p29, List.forall_mem_cons.mpr ⟨lw_p30, List.forall_mem_cons.mpr ⟨lw_p31, fun _ h => absurd h List.not_mem_nil⟩⟩⟩⟩⟩⟩⟩⟩⟩⟩⟩⟩⟩⟩⟩⟩
theorem lw_p32 : lw_okq (⟨"BitLevelsModel", "doesNext", "()I"⟩, 15) := ⟨⟨by decide +kernel, by decide +kernel⟩, List.mem_of_getElem? (i := 557) (by decide +kernel), List.mem_of_getElem? (i := 788) (by decide +kernel), List.mem_of_getElem? (i := 789) (by decide +kernel)⟩
theorem lw_p33 : lw_okq (⟨"BitLevelsModel", "sign", "()I"⟩, 15) := ⟨⟨by decide +kernel, by decide +kernel⟩, List.mem_of_getElem? (i := 557) (by decide +kernel), List.mem_of_getElem? (i := 792) (by decide +kernel), List.mem_of_getElem? (i := 793) (by decide +kernel)⟩
theorem lw_p34 : lw_okq (⟨"BitLevelsModel", "readsNumber", "()Z"⟩, 15) := ⟨⟨by decide +kernel, by decide +kernel⟩, List.mem_of_getElem? (i := 557) (by decide +kernel), List.mem_of_getElem? (i := 796) (by decide +kernel), List.mem_of_getElem? (i := 797) (by decide +kernel)⟩
theorem lw_p35 : lw_okq (⟨"BitLevelsModel", "reads", "(C)Z"⟩, 15) := ⟨⟨by decide +kernel, by decide +kernel⟩, List.mem_of_getElem? (i := 557) (by decide +kernel), List.mem_of_getElem? (i := 800) (by decide +kernel), List.mem_of_getElem? (i := 801) (by decide +kernel)⟩
theorem lw_p36 : lw_okq (⟨"BitLevelsModel", "readsSymbols", "()Z"⟩, 15) := ⟨⟨by decide +kernel, by decide +kernel⟩, List.mem_of_getElem? (i := 557) (by decide +kernel), List.mem_of_getElem? (i := 804) (by decide +kernel), List.mem_of_getElem? (i := 805) (by decide +kernel)⟩
theorem lw_p37 : lw_okq (⟨"BitLevelsModel", "symbol", "()I"⟩, 15) := ⟨⟨by decide +kernel, by decide +kernel⟩, List.mem_of_getElem? (i := 557) (by decide +kernel), List.mem_of_getElem? (i := 808) (by decide +kernel), List.mem_of_getElem? (i := 809) (by decide +kernel)⟩
theorem lw_p38 : lw_okq (⟨"BitLevelsModel", "putsAll", "(III)I"⟩, 15) := ⟨⟨by decide +kernel, by decide +kernel⟩, List.mem_of_getElem? (i := 557) (by decide +kernel), List.mem_of_getElem? (i := 812) (by decide +kernel), List.mem_of_getElem? (i := 813) (by decide +kernel)⟩
theorem lw_p39 : lw_okq (⟨"BitLevelsModel", "takesAll", "(II)I"⟩, 15) := ⟨⟨by decide +kernel, by decide +kernel⟩, List.mem_of_getElem? (i := 557) (by decide +kernel), List.mem_of_getElem? (i := 816) (by decide +kernel), List.mem_of_getElem? (i := 817) (by decide +kernel)⟩
def lw_privs_3 : List (MethodName × Nat) := [(⟨"BitLevelsModel", "doesNext", "()I"⟩, 15), (⟨"BitLevelsModel", "sign", "()I"⟩, 15), (⟨"BitLevelsModel", "readsNumber", "()Z"⟩, 15), (⟨"BitLevelsModel", "reads", "(C)Z"⟩, 15), (⟨"BitLevelsModel", "readsSymbols", "()Z"⟩, 15), (⟨"BitLevelsModel", "symbol", "()I"⟩, 15), (⟨"BitLevelsModel", "putsAll", "(III)I"⟩, 15), (⟨"BitLevelsModel", "takesAll", "(II)I"⟩, 15)]
theorem lw_r3 : ∀ q ∈ lw_privs_3, lw_okq q := List.forall_mem_cons.mpr ⟨lw_p32, List.forall_mem_cons.mpr ⟨lw_p33, List.forall_mem_cons.mpr ⟨lw_p34, List.forall_mem_cons.mpr ⟨lw_p35, List.forall_mem_cons.mpr ⟨lw_p36, List.forall_mem_cons.mpr ⟨lw_p37, List.forall_mem_cons.mpr ⟨lw_p38, List.forall_mem_cons.mpr ⟨lw_p39, fun _ h => absurd h List.not_mem_nil⟩⟩⟩⟩⟩⟩⟩⟩
def lw_privs : List (MethodName × Nat) := lw_privs_1 ++ (lw_privs_2 ++ (lw_privs_3))
def lw_tbl : List Cond := k2_sels lw_privs ++ tables_1
theorem lw_privs_ok : ∀ q ∈ lw_privs, lw_okq q := by
  show ∀ q ∈ lw_privs_1 ++ (lw_privs_2 ++ (lw_privs_3)), lw_okq q
  exact List.forall_mem_append.mpr ⟨lw_r1, List.forall_mem_append.mpr ⟨lw_r2, lw_r3⟩⟩
end
section
/-! ===== BEGIN printed: names, fields, word lists, decode rows ===== -/
def RX0 : String := "BitLevels$History"
def TX0 : u_T := fun k => match k with
  | 0 => ("BitLevels$History", "states", "[LBitLevels$Row;", true)
  | _ => ("BitLevels$History", "size", "I", false)
def tyX0 : Nat → FieldType := fun k => match k with
  | 0 => .array (.object "BitLevels$Row")
  | _ => .int
abbrev wsX00 : List Cond := u_ws RX0 TX0 2
theorem nmX0 : ∀ a, a < 2 → ∀ b, b < 2 → a ≠ b → (TX0 a).2.1 ≠ (TX0 b).2.1 := by decide +kernel
theorem tyX0_ok : ∀ k, k < 2 → parseFieldDescriptor (TX0 k).2.2.1 = some (tyX0 k) := by decide +kernel
abbrev cX0_init : ByteArray := prog_2_method_1_code
def yX0_init : MethodName := ⟨RX0, "<init>", "()V"⟩
abbrev cX0_size : ByteArray := prog_2_method_2_code
def yX0_size : MethodName := ⟨RX0, "size", "()I"⟩
abbrev cX0_remember : ByteArray := prog_2_method_3_code
def yX0_remember : MethodName := ⟨RX0, "remember", "(LBitLevels$Row;)V"⟩
abbrev cX0_dropOldest : ByteArray := prog_2_method_4_code
def yX0_dropOldest : MethodName := ⟨RX0, "dropOldest", "()V"⟩
abbrev cX0_restore : ByteArray := prog_2_method_5_code
def yX0_restore : MethodName := ⟨RX0, "restore", "(LBitLevels$Row;)V"⟩
def RX1 : String := "BitLevels$Levels"
def TX1 : u_T := fun k => match k with
  | 0 => ("BitLevels$Levels", "symbols", "[[I", true)
  | 1 => ("BitLevels$Levels", "origins", "[[I", true)
  | 2 => ("BitLevels$Levels", "goals", "[[I", true)
  | _ => ("BitLevels$Levels", "size", "I", false)
def tyX1 : Nat → FieldType := fun k => match k with
  | 0 => .array (.array .int)
  | 1 => .array (.array .int)
  | 2 => .array (.array .int)
  | _ => .int
abbrev wsX10 : List Cond := u_ws RX1 TX1 4
theorem nmX1 : ∀ a, a < 4 → ∀ b, b < 4 → a ≠ b → (TX1 a).2.1 ≠ (TX1 b).2.1 := by decide +kernel
theorem tyX1_ok : ∀ k, k < 4 → parseFieldDescriptor (TX1 k).2.2.1 = some (tyX1 k) := by decide +kernel
abbrev cX1_init : ByteArray := prog_3_method_1_code
def yX1_init : MethodName := ⟨RX1, "<init>", "()V"⟩
abbrev cX1_build : ByteArray := prog_3_method_2_code
def yX1_build : MethodName := ⟨RX1, "build", "(LBitLevels$Row;)V"⟩
abbrev cX1_moveBits : ByteArray := prog_3_method_3_code
def yX1_moveBits : MethodName := ⟨RX1, "moveBits", "(III)I"⟩
abbrev cX1_isOn : ByteArray := prog_3_method_4_code
def yX1_isOn : MethodName := ⟨RX1, "isOn", "(II)Z"⟩
abbrev cX1_symbolOf : ByteArray := prog_3_method_5_code
def yX1_symbolOf : MethodName := ⟨RX1, "symbolOf", "(II)I"⟩
abbrev cX1_bitOf : ByteArray := prog_3_method_6_code
def yX1_bitOf : MethodName := ⟨RX1, "bitOf", "(II)I"⟩
abbrev cX1_goalOf : ByteArray := prog_3_method_7_code
def yX1_goalOf : MethodName := ⟨RX1, "goalOf", "(II)I"⟩
abbrev cX1_originOf : ByteArray := prog_3_method_8_code
def yX1_originOf : MethodName := ⟨RX1, "originOf", "(II)I"⟩
abbrev cX1_packed : ByteArray := prog_3_method_9_code
def yX1_packed : MethodName := ⟨RX1, "packed", "(III)J"⟩
abbrev cX1_ones : ByteArray := prog_3_method_10_code
def yX1_ones : MethodName := ⟨RX1, "ones", "(III)I"⟩
def RX2 : String := "BitLevels$Player"
def TX2 : u_T := fun k => match k with
  | 0 => ("BitLevels$Player", "text", "LBitLevels$Text;", true)
  | 1 => ("BitLevels$Player", "outcome", "LBitLevels$Row;", true)
  | 2 => ("BitLevels$Player", "next", "I", false)
  | 3 => ("BitLevels$Player", "kind", "I", false)
  | 4 => ("BitLevels$Player", "first", "I", false)
  | 5 => ("BitLevels$Player", "second", "I", false)
  | 6 => ("BitLevels$Player", "symbolsFrom", "I", false)
  | 7 => ("BitLevels$Player", "position", "I", false)
  | 8 => ("BitLevels$Player", "reason", "I", false)
  | _ => ("BitLevels$Player", "cause", "I", false)
def tyX2 : Nat → FieldType := fun k => match k with
  | 0 => .object "BitLevels$Text"
  | 1 => .object "BitLevels$Row"
  | 2 => .int
  | 3 => .int
  | 4 => .int
  | 5 => .int
  | 6 => .int
  | 7 => .int
  | 8 => .int
  | _ => .int
abbrev wsX20 : List Cond := u_ws RX2 TX2 10
theorem nmX2 : ∀ a, a < 10 → ∀ b, b < 10 → a ≠ b → (TX2 a).2.1 ≠ (TX2 b).2.1 := by decide +kernel
theorem tyX2_ok : ∀ k, k < 10 → parseFieldDescriptor (TX2 k).2.2.1 = some (tyX2 k) := by decide +kernel
abbrev cX2_init : ByteArray := prog_4_method_1_code
def yX2_init : MethodName := ⟨RX2, "<init>", "(LBitLevels$Text;)V"⟩
abbrev cX2_outcome : ByteArray := prog_4_method_2_code
def yX2_outcome : MethodName := ⟨RX2, "outcome", "()LBitLevels$Row;"⟩
abbrev cX2_position : ByteArray := prog_4_method_3_code
def yX2_position : MethodName := ⟨RX2, "position", "()I"⟩
abbrev cX2_reason : ByteArray := prog_4_method_4_code
def yX2_reason : MethodName := ⟨RX2, "reason", "()I"⟩
abbrev cX2_cause : ByteArray := prog_4_method_5_code
def yX2_cause : MethodName := ⟨RX2, "cause", "()I"⟩
abbrev cX2_playAll : ByteArray := prog_4_method_6_code
def yX2_playAll : MethodName := ⟨RX2, "playAll", "(LBitLevels$Row;)V"⟩
abbrev cX2_playEdit : ByteArray := prog_4_method_7_code
def yX2_playEdit : MethodName := ⟨RX2, "playEdit", "()V"⟩
abbrev cX2_readEdit : ByteArray := prog_4_method_8_code
def yX2_readEdit : MethodName := ⟨RX2, "readEdit", "()Z"⟩
abbrev cX2_readSign : ByteArray := prog_4_method_9_code
def yX2_readSign : MethodName := ⟨RX2, "readSign", "(C)Z"⟩
abbrev cX2_readNumber : ByteArray := prog_4_method_10_code
def yX2_readNumber : MethodName := ⟨RX2, "readNumber", "()I"⟩
abbrev cX2_readSymbols : ByteArray := prog_4_method_11_code
def yX2_readSymbols : MethodName := ⟨RX2, "readSymbols", "()I"⟩
abbrev cX2_reasonAgainst : ByteArray := prog_4_method_12_code
def yX2_reasonAgainst : MethodName := ⟨RX2, "reasonAgainst", "()I"⟩
abbrev cX2_hasPlaces : ByteArray := prog_4_method_13_code
def yX2_hasPlaces : MethodName := ⟨RX2, "hasPlaces", "()Z"⟩
abbrev cX2_perform : ByteArray := prog_4_method_14_code
def yX2_perform : MethodName := ⟨RX2, "perform", "()V"⟩
abbrev cX2_putSymbolsIn : ByteArray := prog_4_method_15_code
def yX2_putSymbolsIn : MethodName := ⟨RX2, "putSymbolsIn", "()V"⟩
abbrev cX2_takeSpanOut : ByteArray := prog_4_method_16_code
def yX2_takeSpanOut : MethodName := ⟨RX2, "takeSpanOut", "()V"⟩
def RX3 : String := "BitLevels$Row"
def TX3 : u_T := fun k => match k with
  | 0 => ("BitLevels$Row", "symbols", "[I", true)
  | _ => ("BitLevels$Row", "size", "I", false)
def tyX3 : Nat → FieldType := fun k => match k with
  | 0 => .array .int
  | _ => .int
abbrev wsX30 : List Cond := u_ws RX3 TX3 2
theorem nmX3 : ∀ a, a < 2 → ∀ b, b < 2 → a ≠ b → (TX3 a).2.1 ≠ (TX3 b).2.1 := by decide +kernel
theorem tyX3_ok : ∀ k, k < 2 → parseFieldDescriptor (TX3 k).2.2.1 = some (tyX3 k) := by decide +kernel
abbrev cX3_init : ByteArray := prog_5_method_1_code
def yX3_init : MethodName := ⟨RX3, "<init>", "()V"⟩
abbrev cX3_size : ByteArray := prog_5_method_2_code
def yX3_size : MethodName := ⟨RX3, "size", "()I"⟩
abbrev cX3_hasPlace : ByteArray := prog_5_method_3_code
def yX3_hasPlace : MethodName := ⟨RX3, "hasPlace", "(I)Z"⟩
abbrev cX3_hasSpan : ByteArray := prog_5_method_4_code
def yX3_hasSpan : MethodName := ⟨RX3, "hasSpan", "(II)Z"⟩
abbrev cX3_at : ByteArray := prog_5_method_5_code
def yX3_at : MethodName := ⟨RX3, "at", "(I)I"⟩
abbrev cX3_insert : ByteArray := prog_5_method_6_code
def yX3_insert : MethodName := ⟨RX3, "insert", "(II)V"⟩
abbrev cX3_remove : ByteArray := prog_5_method_7_code
def yX3_remove : MethodName := ⟨RX3, "remove", "(I)V"⟩
abbrev cX3_replace : ByteArray := prog_5_method_8_code
def yX3_replace : MethodName := ⟨RX3, "replace", "(II)V"⟩
abbrev cX3_exchange : ByteArray := prog_5_method_9_code
def yX3_exchange : MethodName := ⟨RX3, "exchange", "(II)V"⟩
abbrev cX3_reverse : ByteArray := prog_5_method_10_code
def yX3_reverse : MethodName := ⟨RX3, "reverse", "(II)I"⟩
abbrev cX3_layOut : ByteArray := prog_5_method_11_code
def yX3_layOut : MethodName := ⟨RX3, "layOut", "(IILBitLevels$Tally;)I"⟩
abbrev cX3_sum : ByteArray := prog_5_method_12_code
def yX3_sum : MethodName := ⟨RX3, "sum", "(II)I"⟩
abbrev cX3_wrongPairs : ByteArray := prog_5_method_13_code
def yX3_wrongPairs : MethodName := ⟨RX3, "wrongPairs", "(II)I"⟩
abbrev cX3_ones : ByteArray := prog_5_method_14_code
def yX3_ones : MethodName := ⟨RX3, "ones", "()I"⟩
abbrev cX3_copyFrom : ByteArray := prog_5_method_15_code
def yX3_copyFrom : MethodName := ⟨RX3, "copyFrom", "(LBitLevels$Row;)V"⟩
def RX4 : String := "BitLevels$Tally"
def TX4 : u_T := fun k => match k with
  | _ => ("BitLevels$Tally", "times", "[I", true)
def tyX4 : Nat → FieldType := fun k => match k with
  | _ => .array .int
abbrev wsX40 : List Cond := u_ws RX4 TX4 1
theorem nmX4 : ∀ a, a < 1 → ∀ b, b < 1 → a ≠ b → (TX4 a).2.1 ≠ (TX4 b).2.1 := by decide +kernel
theorem tyX4_ok : ∀ k, k < 1 → parseFieldDescriptor (TX4 k).2.2.1 = some (tyX4 k) := by decide +kernel
abbrev cX4_init : ByteArray := prog_6_method_1_code
def yX4_init : MethodName := ⟨RX4, "<init>", "()V"⟩
abbrev cX4_fill : ByteArray := prog_6_method_2_code
def yX4_fill : MethodName := ⟨RX4, "fill", "(LBitLevels$Row;II)V"⟩
abbrev cX4_times : ByteArray := prog_6_method_3_code
def yX4_times : MethodName := ⟨RX4, "times", "(I)I"⟩
abbrev cX4_timesBelow : ByteArray := prog_6_method_4_code
def yX4_timesBelow : MethodName := ⟨RX4, "timesBelow", "(I)I"⟩
abbrev cX4_unlike : ByteArray := prog_6_method_5_code
def yX4_unlike : MethodName := ⟨RX4, "unlike", "()I"⟩
abbrev cX4_leastFrom : ByteArray := prog_6_method_6_code
def yX4_leastFrom : MethodName := ⟨RX4, "leastFrom", "(I)I"⟩
abbrev cX4_symbolAtSorted : ByteArray := prog_6_method_7_code
def yX4_symbolAtSorted : MethodName := ⟨RX4, "symbolAtSorted", "(I)I"⟩
abbrev cX4_mostFrequent : ByteArray := prog_6_method_8_code
def yX4_mostFrequent : MethodName := ⟨RX4, "mostFrequent", "()I"⟩
abbrev cX4_isLike : ByteArray := prog_6_method_9_code
def yX4_isLike : MethodName := ⟨RX4, "isLike", "(LBitLevels$Tally;)Z"⟩
abbrev cX4_keepCommon : ByteArray := prog_6_method_10_code
def yX4_keepCommon : MethodName := ⟨RX4, "keepCommon", "(LBitLevels$Tally;)V"⟩
def RX5 : String := "BitLevels$Text"
def TX5 : u_T := fun k => match k with
  | 0 => ("BitLevels$Text", "characters", "[C", true)
  | _ => ("BitLevels$Text", "length", "I", false)
def tyX5 : Nat → FieldType := fun k => match k with
  | 0 => .array .char
  | _ => .int
abbrev wsX50 : List Cond := u_ws RX5 TX5 2
theorem nmX5 : ∀ a, a < 2 → ∀ b, b < 2 → a ≠ b → (TX5 a).2.1 ≠ (TX5 b).2.1 := by decide +kernel
theorem tyX5_ok : ∀ k, k < 2 → parseFieldDescriptor (TX5 k).2.2.1 = some (tyX5 k) := by decide +kernel
abbrev cX5_init : ByteArray := prog_7_method_1_code
def yX5_init : MethodName := ⟨RX5, "<init>", "()V"⟩
abbrev cX5_length : ByteArray := prog_7_method_2_code
def yX5_length : MethodName := ⟨RX5, "length", "()I"⟩
abbrev cX5_at : ByteArray := prog_7_method_3_code
def yX5_at : MethodName := ⟨RX5, "at", "(I)I"⟩
abbrev cX5_digitAt : ByteArray := prog_7_method_4_code
def yX5_digitAt : MethodName := ⟨RX5, "digitAt", "(I)I"⟩
abbrev cX5_symbolValueAt : ByteArray := prog_7_method_5_code
def yX5_symbolValueAt : MethodName := ⟨RX5, "symbolValueAt", "(I)I"⟩
abbrev cX5_digitOf : ByteArray := prog_7_method_6_code
def yX5_digitOf : MethodName := ⟨RX5, "digitOf", "(I)I"⟩
abbrev cX5_append : ByteArray := prog_7_method_7_code
def yX5_append : MethodName := ⟨RX5, "append", "(C)V"⟩
abbrev cX5_empty : ByteArray := prog_7_method_8_code
def yX5_empty : MethodName := ⟨RX5, "empty", "()V"⟩
def RX6 : String := "BitLevels"
def TX6 : u_T := fun k => match k with
  | 0 => ("BitLevels", "row", "LBitLevels$Row;", true)
  | 1 => ("BitLevels", "history", "LBitLevels$History;", true)
  | 2 => ("BitLevels", "levels", "LBitLevels$Levels;", true)
  | 3 => ("BitLevels", "tally", "LBitLevels$Tally;", true)
  | 4 => ("BitLevels", "otherTally", "LBitLevels$Tally;", true)
  | 5 => ("BitLevels", "text", "LBitLevels$Text;", true)
  | _ => ("BitLevels", "player", "LBitLevels$Player;", true)
def tyX6 : Nat → FieldType := fun k => match k with
  | 0 => .object "BitLevels$Row"
  | 1 => .object "BitLevels$History"
  | 2 => .object "BitLevels$Levels"
  | 3 => .object "BitLevels$Tally"
  | 4 => .object "BitLevels$Tally"
  | 5 => .object "BitLevels$Text"
  | _ => .object "BitLevels$Player"
abbrev wsX60 : List Cond := u_ws RX6 TX6 7
theorem nmX6 : ∀ a, a < 7 → ∀ b, b < 7 → a ≠ b → (TX6 a).2.1 ≠ (TX6 b).2.1 := by decide +kernel
theorem tyX6_ok : ∀ k, k < 7 → parseFieldDescriptor (TX6 k).2.2.1 = some (tyX6 k) := by decide +kernel
abbrev cX6_init : ByteArray := prog_1_method_1_code
def yX6_init : MethodName := ⟨RX6, "<init>", "()V"⟩
abbrev cX6_put : ByteArray := prog_1_method_2_code
def yX6_put : MethodName := ⟨RX6, "put", "(II)I"⟩
abbrev cX6_take : ByteArray := prog_1_method_3_code
def yX6_take : MethodName := ⟨RX6, "take", "(I)I"⟩
abbrev cX6_change : ByteArray := prog_1_method_4_code
def yX6_change : MethodName := ⟨RX6, "change", "(II)I"⟩
abbrev cX6_swap : ByteArray := prog_1_method_5_code
def yX6_swap : MethodName := ⟨RX6, "swap", "(II)I"⟩
abbrev cX6_turn : ByteArray := prog_1_method_6_code
def yX6_turn : MethodName := ⟨RX6, "turn", "(II)I"⟩
abbrev cX6_sort : ByteArray := prog_1_method_7_code
def yX6_sort : MethodName := ⟨RX6, "sort", "(II)I"⟩
abbrev cX6_levelOf : ByteArray := prog_1_method_8_code
def yX6_levelOf : MethodName := ⟨RX6, "levelOf", "(III)I"⟩
abbrev cX6_blockOf : ByteArray := prog_1_method_9_code
def yX6_blockOf : MethodName := ⟨RX6, "blockOf", "(III)I"⟩
abbrev cX6_bits : ByteArray := prog_1_method_10_code
def yX6_bits : MethodName := ⟨RX6, "bits", "(I)J"⟩
abbrev cX6_symbolAt : ByteArray := prog_1_method_11_code
def yX6_symbolAt : MethodName := ⟨RX6, "symbolAt", "(I)I"⟩
abbrev cX6_rank : ByteArray := prog_1_method_12_code
def yX6_rank : MethodName := ⟨RX6, "rank", "(II)I"⟩
abbrev cX6_select : ByteArray := prog_1_method_13_code
def yX6_select : MethodName := ⟨RX6, "select", "(II)I"⟩
abbrev cX6_smallest : ByteArray := prog_1_method_14_code
def yX6_smallest : MethodName := ⟨RX6, "smallest", "(III)I"⟩
abbrev cX6_below : ByteArray := prog_1_method_15_code
def yX6_below : MethodName := ⟨RX6, "below", "(III)I"⟩
abbrev cX6_notBelow : ByteArray := prog_1_method_16_code
def yX6_notBelow : MethodName := ⟨RX6, "notBelow", "(III)I"⟩
abbrev cX6_spanOf : ByteArray := prog_1_method_17_code
def yX6_spanOf : MethodName := ⟨RX6, "spanOf", "(III)I"⟩
abbrev cX6_product : ByteArray := prog_1_method_18_code
def yX6_product : MethodName := ⟨RX6, "product", "(II)J"⟩
abbrev cX6_common : ByteArray := prog_1_method_19_code
def yX6_common : MethodName := ⟨RX6, "common", "(IIIII)I"⟩
abbrev cX6_heaviest : ByteArray := prog_1_method_20_code
def yX6_heaviest : MethodName := ⟨RX6, "heaviest", "(II)I"⟩
abbrev cX6_count : ByteArray := prog_1_method_21_code
def yX6_count : MethodName := ⟨RX6, "count", "(I)I"⟩
abbrev cX6_undo : ByteArray := prog_1_method_22_code
def yX6_undo : MethodName := ⟨RX6, "undo", "()I"⟩
abbrev cX6_type : ByteArray := prog_1_method_23_code
def yX6_type : MethodName := ⟨RX6, "type", "(I)I"⟩
abbrev cX6_clearText : ByteArray := prog_1_method_24_code
def yX6_clearText : MethodName := ⟨RX6, "clearText", "()I"⟩
abbrev cX6_fault : ByteArray := prog_1_method_25_code
def yX6_fault : MethodName := ⟨RX6, "fault", "(I)I"⟩
abbrev cX6_play : ByteArray := prog_1_method_26_code
def yX6_play : MethodName := ⟨RX6, "play", "()I"⟩
abbrev cX6_isAtMost : ByteArray := prog_1_method_27_code
def yX6_isAtMost : MethodName := ⟨RX6, "isAtMost", "(II)Z"⟩
abbrev cX6_isSymbol : ByteArray := prog_1_method_28_code
def yX6_isSymbol : MethodName := ⟨RX6, "isSymbol", "(I)Z"⟩
abbrev cX6_hasBits : ByteArray := prog_1_method_29_code
def yX6_hasBits : MethodName := ⟨RX6, "hasBits", "(I)Z"⟩
abbrev cX6_foundOr : ByteArray := prog_1_method_30_code
def yX6_foundOr : MethodName := ⟨RX6, "foundOr", "(I)I"⟩
abbrev cX6_blocks : ByteArray := prog_1_method_31_code
def yX6_blocks : MethodName := ⟨RX6, "blocks", "()I"⟩
def RX7 : String := "BitLevelsModel"
def TX7 : u_T := fun k => match k with
  | 0 => ("BitLevelsModel", "s", "[I", true)
  | 1 => ("BitLevelsModel", "was", "[I", true)
  | 2 => ("BitLevelsModel", "begun", "[I", true)
  | 3 => ("BitLevelsModel", "aside", "[I", true)
  | 4 => ("BitLevelsModel", "states", "I", false)
  | 5 => ("BitLevelsModel", "text", "[C", true)
  | 6 => ("BitLevelsModel", "typed", "I", false)
  | 7 => ("BitLevelsModel", "at", "I", false)
  | 8 => ("BitLevelsModel", "reason", "I", false)
  | 9 => ("BitLevelsModel", "cause", "I", false)
  | 10 => ("BitLevelsModel", "number", "I", false)
  | 11 => ("BitLevelsModel", "from", "[I", true)
  | 12 => ("BitLevelsModel", "to", "[I", true)
  | 13 => ("BitLevelsModel", "often", "[I", true)
  | _ => ("BitLevelsModel", "often2", "[I", true)
def tyX7 : Nat → FieldType := fun k => match k with
  | 0 => .array .int
  | 1 => .array .int
  | 2 => .array .int
  | 3 => .array .int
  | 4 => .int
  | 5 => .array .char
  | 6 => .int
  | 7 => .int
  | 8 => .int
  | 9 => .int
  | 10 => .int
  | 11 => .array .int
  | 12 => .array .int
  | 13 => .array .int
  | _ => .array .int
abbrev wsX70 : List Cond := u_ws RX7 TX7 15
theorem nmX7 : ∀ a, a < 15 → ∀ b, b < 15 → a ≠ b → (TX7 a).2.1 ≠ (TX7 b).2.1 := by decide +kernel
theorem tyX7_ok : ∀ k, k < 15 → parseFieldDescriptor (TX7 k).2.2.1 = some (tyX7 k) := by decide +kernel
abbrev cX7_init : ByteArray := prog_9_method_1_code
def yX7_init : MethodName := ⟨RX7, "<init>", "()V"⟩
abbrev cX7_in : ByteArray := prog_9_method_2_code
def yX7_in : MethodName := ⟨RX7, "in", "(III)Z"⟩
abbrev cX7_isPlace : ByteArray := prog_9_method_3_code
def yX7_isPlace : MethodName := ⟨RX7, "isPlace", "(I)Z"⟩
abbrev cX7_isSpan : ByteArray := prog_9_method_4_code
def yX7_isSpan : MethodName := ⟨RX7, "isSpan", "(II)Z"⟩
abbrev cX7_keeps : ByteArray := prog_9_method_5_code
def yX7_keeps : MethodName := ⟨RX7, "keeps", "()V"⟩
abbrev cX7_acted : ByteArray := prog_9_method_6_code
def yX7_acted : MethodName := ⟨RX7, "acted", "(I)I"⟩
abbrev cX7_puts : ByteArray := prog_9_method_7_code
def yX7_puts : MethodName := ⟨RX7, "puts", "(II)I"⟩
abbrev cX7_put : ByteArray := prog_9_method_8_code
def yX7_put : MethodName := ⟨RX7, "put", "(II)I"⟩
abbrev cX7_takes : ByteArray := prog_9_method_9_code
def yX7_takes : MethodName := ⟨RX7, "takes", "(I)I"⟩
abbrev cX7_take : ByteArray := prog_9_method_10_code
def yX7_take : MethodName := ⟨RX7, "take", "(I)I"⟩
abbrev cX7_change : ByteArray := prog_9_method_11_code
def yX7_change : MethodName := ⟨RX7, "change", "(II)I"⟩
abbrev cX7_swaps : ByteArray := prog_9_method_12_code
def yX7_swaps : MethodName := ⟨RX7, "swaps", "(II)I"⟩
abbrev cX7_swap : ByteArray := prog_9_method_13_code
def yX7_swap : MethodName := ⟨RX7, "swap", "(II)I"⟩
abbrev cX7_turns : ByteArray := prog_9_method_14_code
def yX7_turns : MethodName := ⟨RX7, "turns", "(II)I"⟩
abbrev cX7_turn : ByteArray := prog_9_method_15_code
def yX7_turn : MethodName := ⟨RX7, "turn", "(II)I"⟩
abbrev cX7_counts : ByteArray := prog_9_method_16_code
def yX7_counts : MethodName := ⟨RX7, "counts", "(II)V"⟩
abbrev cX7_sort : ByteArray := prog_9_method_17_code
def yX7_sort : MethodName := ⟨RX7, "sort", "(II)I"⟩
abbrev cX7_bit : ByteArray := prog_9_method_18_code
def yX7_bit : MethodName := ⟨RX7, "bit", "(II)I"⟩
abbrev cX7_lays : ByteArray := prog_9_method_19_code
def yX7_lays : MethodName := ⟨RX7, "lays", "()V"⟩
abbrev cX7_levelOf : ByteArray := prog_9_method_20_code
def yX7_levelOf : MethodName := ⟨RX7, "levelOf", "(III)I"⟩
abbrev cX7_blocks : ByteArray := prog_9_method_21_code
def yX7_blocks : MethodName := ⟨RX7, "blocks", "()I"⟩
abbrev cX7_blockOf : ByteArray := prog_9_method_22_code
def yX7_blockOf : MethodName := ⟨RX7, "blockOf", "(III)I"⟩
abbrev cX7_bits : ByteArray := prog_9_method_23_code
def yX7_bits : MethodName := ⟨RX7, "bits", "(I)J"⟩
abbrev cX7_symbolAt : ByteArray := prog_9_method_24_code
def yX7_symbolAt : MethodName := ⟨RX7, "symbolAt", "(I)I"⟩
abbrev cX7_rank : ByteArray := prog_9_method_25_code
def yX7_rank : MethodName := ⟨RX7, "rank", "(II)I"⟩
abbrev cX7_select : ByteArray := prog_9_method_26_code
def yX7_select : MethodName := ⟨RX7, "select", "(II)I"⟩
abbrev cX7_smallest : ByteArray := prog_9_method_27_code
def yX7_smallest : MethodName := ⟨RX7, "smallest", "(III)I"⟩
abbrev cX7_below : ByteArray := prog_9_method_28_code
def yX7_below : MethodName := ⟨RX7, "below", "(III)I"⟩
abbrev cX7_notBelow : ByteArray := prog_9_method_29_code
def yX7_notBelow : MethodName := ⟨RX7, "notBelow", "(III)I"⟩
abbrev cX7_unlike : ByteArray := prog_9_method_30_code
def yX7_unlike : MethodName := ⟨RX7, "unlike", "()I"⟩
abbrev cX7_mostFrequent : ByteArray := prog_9_method_31_code
def yX7_mostFrequent : MethodName := ⟨RX7, "mostFrequent", "()I"⟩
abbrev cX7_sum : ByteArray := prog_9_method_32_code
def yX7_sum : MethodName := ⟨RX7, "sum", "(II)I"⟩
abbrev cX7_wrong : ByteArray := prog_9_method_33_code
def yX7_wrong : MethodName := ⟨RX7, "wrong", "(II)I"⟩
abbrev cX7_spanOf : ByteArray := prog_9_method_34_code
def yX7_spanOf : MethodName := ⟨RX7, "spanOf", "(III)I"⟩
abbrev cX7_product : ByteArray := prog_9_method_35_code
def yX7_product : MethodName := ⟨RX7, "product", "(II)J"⟩
abbrev cX7_common : ByteArray := prog_9_method_36_code
def yX7_common : MethodName := ⟨RX7, "common", "(IIIII)I"⟩
abbrev cX7_heaviest : ByteArray := prog_9_method_37_code
def yX7_heaviest : MethodName := ⟨RX7, "heaviest", "(II)I"⟩
abbrev cX7_ones : ByteArray := prog_9_method_38_code
def yX7_ones : MethodName := ⟨RX7, "ones", "()I"⟩
abbrev cX7_count : ByteArray := prog_9_method_39_code
def yX7_count : MethodName := ⟨RX7, "count", "(I)I"⟩
abbrev cX7_undo : ByteArray := prog_9_method_40_code
def yX7_undo : MethodName := ⟨RX7, "undo", "()I"⟩
abbrev cX7_type : ByteArray := prog_9_method_41_code
def yX7_type : MethodName := ⟨RX7, "type", "(I)I"⟩
abbrev cX7_clearText : ByteArray := prog_9_method_42_code
def yX7_clearText : MethodName := ⟨RX7, "clearText", "()I"⟩
abbrev cX7_sign : ByteArray := prog_9_method_43_code
def yX7_sign : MethodName := ⟨RX7, "sign", "()I"⟩
abbrev cX7_reads : ByteArray := prog_9_method_44_code
def yX7_reads : MethodName := ⟨RX7, "reads", "(C)Z"⟩
abbrev cX7_readsNumber : ByteArray := prog_9_method_45_code
def yX7_readsNumber : MethodName := ⟨RX7, "readsNumber", "()Z"⟩
abbrev cX7_symbol : ByteArray := prog_9_method_46_code
def yX7_symbol : MethodName := ⟨RX7, "symbol", "()I"⟩
abbrev cX7_readsSymbols : ByteArray := prog_9_method_47_code
def yX7_readsSymbols : MethodName := ⟨RX7, "readsSymbols", "()Z"⟩
abbrev cX7_putsAll : ByteArray := prog_9_method_48_code
def yX7_putsAll : MethodName := ⟨RX7, "putsAll", "(III)I"⟩
abbrev cX7_takesAll : ByteArray := prog_9_method_49_code
def yX7_takesAll : MethodName := ⟨RX7, "takesAll", "(II)I"⟩
abbrev cX7_doesNext : ByteArray := prog_9_method_50_code
def yX7_doesNext : MethodName := ⟨RX7, "doesNext", "()I"⟩
abbrev cX7_faulty : ByteArray := prog_9_method_51_code
def yX7_faulty : MethodName := ⟨RX7, "faulty", "()I"⟩
abbrev cX7_fault : ByteArray := prog_9_method_52_code
def yX7_fault : MethodName := ⟨RX7, "fault", "(I)I"⟩
abbrev cX7_play : ByteArray := prog_9_method_53_code
def yX7_play : MethodName := ⟨RX7, "play", "()I"⟩
def RJ6 : String := "java/lang/Integer"
def TJ6 : u_T := fun k => match k with
  | _ => ("", "", "", false)
def tyJ6 : Nat → FieldType := fun k => match k with
  | _ => .int
abbrev wsJ60 : List Cond := u_ws RJ6 TJ6 0
theorem nmJ6 : ∀ a, a < 0 → ∀ b, b < 0 → a ≠ b → (TJ6 a).2.1 ≠ (TJ6 b).2.1 := by decide +kernel
theorem tyJ6_ok : ∀ k, k < 0 → parseFieldDescriptor (TJ6 k).2.2.1 = some (tyJ6 k) := by decide +kernel
abbrev cJ6_bitCount_0f7a4 : ByteArray := prog_10_method_49_code
def yJ6_bitCount_0f7a4 : MethodName := ⟨RJ6, "bitCount", "(I)I"⟩
def RJ13 : String := "java/lang/Long"
def TJ13 : u_T := fun k => match k with
  | _ => ("", "", "", false)
def tyJ13 : Nat → FieldType := fun k => match k with
  | _ => .int
abbrev wsJ130 : List Cond := u_ws RJ13 TJ13 0
theorem nmJ13 : ∀ a, a < 0 → ∀ b, b < 0 → a ≠ b → (TJ13 a).2.1 ≠ (TJ13 b).2.1 := by decide +kernel
theorem tyJ13_ok : ∀ k, k < 0 → parseFieldDescriptor (TJ13 k).2.2.1 = some (tyJ13 k) := by decide +kernel
abbrev cJ13_bitCount_95d88 : ByteArray := prog_11_method_50_code
def yJ13_bitCount_95d88 : MethodName := ⟨RJ13, "bitCount", "(J)I"⟩
def RJ9 : String := "java/lang/Math"
def TJ9 : u_T := fun k => match k with
  | _ => ("", "", "", false)
def tyJ9 : Nat → FieldType := fun k => match k with
  | _ => .int
abbrev wsJ90 : List Cond := u_ws RJ9 TJ9 0
theorem nmJ9 : ∀ a, a < 0 → ∀ b, b < 0 → a ≠ b → (TJ9 a).2.1 ≠ (TJ9 b).2.1 := by decide +kernel
theorem tyJ9_ok : ∀ k, k < 0 → parseFieldDescriptor (TJ9 k).2.2.1 = some (tyJ9 k) := by decide +kernel
abbrev cJ9_max_7cf53 : ByteArray := prog_12_method_65_code
def yJ9_max_7cf53 : MethodName := ⟨RJ9, "max", "(II)I"⟩
abbrev cJ9_min_7cf53 : ByteArray := prog_12_method_69_code
def yJ9_min_7cf53 : MethodName := ⟨RJ9, "min", "(II)I"⟩
def RL : String := "BitLevelsLaw"
abbrev cL_law : ByteArray := code
def yL_law : MethodName := ⟨RL, "law", "([I)Z"⟩
abbrev vwCl : List vw_C := [(RX0, TX0, 2), (RX1, TX1, 4), (RX2, TX2, 10), (RX3, TX3, 2), (RX4, TX4, 1), (RX5, TX5, 2), (RX6, TX6, 7), (RX7, TX7, 15)]
end
section
def gw : List Cond := lw_tbl.filter goodWord
theorem gw_of {w : Cond} (h : w ∈ tables_1) (hg : goodWord w = true) : w ∈ gw := List.mem_filter.mpr ⟨List.mem_append_right _ h, hg⟩
theorem gw_sel {w : Cond} (h : w ∈ k2_sels lw_privs) (hg : goodWord w = true) : w ∈ gw := List.mem_filter.mpr ⟨List.mem_append_left _ h, hg⟩
theorem t_1 {w : Cond} (h : w ∈ tables_1_1) : w ∈ tables_1 := List.mem_append_left _ h
theorem t_2 {w : Cond} (h : w ∈ tables_1_2) : w ∈ tables_1 := List.mem_append_right _ (List.mem_append_left _ h)
theorem t_3 {w : Cond} (h : w ∈ tables_1_3) : w ∈ tables_1 := List.mem_append_right _ (List.mem_append_right _ (List.mem_append_left _ h))
theorem t_4 {w : Cond} (h : w ∈ tables_1_4) : w ∈ tables_1 := List.mem_append_right _ (List.mem_append_right _ (List.mem_append_right _ h))
theorem gw_in (w : Cond) (h : w ∈ gw) : w ∈ lw_tbl := (List.mem_filter.mp h).1
theorem gw_good {ws : List Cond} (h : ∀ w ∈ ws, w ∈ gw) : GoodIn gw ws := fun w hw => ⟨h w hw, good_of_word (List.mem_filter.mp (h w hw)).2⟩
theorem gw_code {c0 : Cond} (h : c0 ∈ gw) : GoodIn gw (c0 :: gw) := gw_good (fun w hw => (List.mem_cons.mp hw).elim (fun e => e ▸ h) id)
theorem gw_V {own C : String} {idx : Nat} {y : MethodName} {ws : List Cond} (h1 : Cond.methodLink own idx y ∈ gw) (h2 : Cond.instanceMethod y ∈ gw) (h3 : Cond.selects C y y ∈ gw) (h4 : Cond.initialized C ∈ gw) (h5 : ∀ w ∈ ws, w ∈ gw) : GoodIn gw (wsV own idx C y ws) := gw_good (fun w hw => by
  unfold wsV at hw
  rcases List.mem_append.mp hw with h | h
  · simp only [List.mem_cons, List.not_mem_nil, or_false] at h
    rcases h with rfl | rfl | rfl | rfl
    · exact h1
    · exact h2
    · exact h3
    · exact h4
  · exact h5 w h)
theorem gw_S {own : String} {idx : Nat} {y : MethodName} {ws : List Cond} (h1 : Cond.methodLink own idx y ∈ gw) (h2 : Cond.static y ∈ gw) (h4 : Cond.initialized y.cls ∈ gw) (h5 : ∀ w ∈ ws, w ∈ gw) : GoodIn gw (va_wsS own idx y ws) := gw_good (fun w hw => by
  unfold va_wsS at hw
  rcases List.mem_append.mp hw with h | h
  · simp only [List.mem_cons, List.not_mem_nil, or_false] at h
    rcases h with rfl | rfl | rfl
    · exact h1
    · exact h2
    · exact h4
  · exact h5 w h)
theorem gw_c {c0 : Cond} (h : c0 ∈ gw) : ∀ w ∈ (c0 :: gw), w ∈ gw := fun w hw => (List.mem_cons.mp hw).elim (fun e => e ▸ h) id
theorem wIN_L : Cond.initialized RL ∈ gw := gw_of (t_1 (List.mem_of_getElem? (i := 0) rfl)) rfl
theorem wIN_X6 : Cond.initialized RX6 ∈ gw := gw_of (t_1 (List.mem_of_getElem? (i := 1) rfl)) rfl
theorem wIN_X3 : Cond.initialized RX3 ∈ gw := gw_of (t_1 (List.mem_of_getElem? (i := 2) rfl)) rfl
theorem wIN_X0 : Cond.initialized RX0 ∈ gw := gw_of (t_1 (List.mem_of_getElem? (i := 3) rfl)) rfl
theorem wIN_X1 : Cond.initialized RX1 ∈ gw := gw_of (t_1 (List.mem_of_getElem? (i := 4) rfl)) rfl
theorem wIN_X4 : Cond.initialized RX4 ∈ gw := gw_of (t_1 (List.mem_of_getElem? (i := 5) rfl)) rfl
theorem wIN_X5 : Cond.initialized RX5 ∈ gw := gw_of (t_1 (List.mem_of_getElem? (i := 6) rfl)) rfl
theorem wIN_X2 : Cond.initialized RX2 ∈ gw := gw_of (t_1 (List.mem_of_getElem? (i := 7) rfl)) rfl
theorem wIN_X7 : Cond.initialized RX7 ∈ gw := gw_of (t_1 (List.mem_of_getElem? (i := 8) rfl)) rfl
theorem wIN_J9 : Cond.initialized RJ9 ∈ gw := gw_of (t_1 (List.mem_of_getElem? (i := 9) rfl)) rfl
theorem wIN_J13 : Cond.initialized RJ13 ∈ gw := gw_of (t_1 (List.mem_of_getElem? (i := 10) rfl)) rfl
theorem wIN_J6 : Cond.initialized RJ6 ∈ gw := gw_of (t_1 (List.mem_of_getElem? (i := 11) rfl)) rfl
theorem wCL_L_7 : Cond.classLink RL 7 RX6 ∈ gw := gw_of (t_1 (List.mem_of_getElem? (i := 12) rfl)) rfl
theorem wIS_X6 : Cond.instantiable RX6 7 ∈ gw := gw_of (t_1 (List.mem_of_getElem? (i := 13) rfl)) rfl
theorem wML_L_9 : Cond.methodLink RL 9 yX6_init ∈ gw := gw_of (t_1 (List.mem_of_getElem? (i := 14) rfl)) rfl
theorem wIM_X6_init : Cond.instanceMethod yX6_init ∈ gw := gw_of (t_1 (List.mem_of_getElem? (i := 15) rfl)) rfl
theorem wCD_X6_init : Cond.code yX6_init cX6_init 1 none ∈ gw := gw_of (t_1 (List.mem_of_getElem? (i := 16) rfl)) rfl
theorem wML_X6_1 : Cond.methodLink RX6 1 objectInit ∈ gw := gw_of (t_1 (List.mem_of_getElem? (i := 17) rfl)) rfl
theorem wIM_O : Cond.instanceMethod objectInit ∈ gw := gw_of (t_1 (List.mem_of_getElem? (i := 18) rfl)) rfl
theorem wCD_O : Cond.code objectInit object_method_1_code 1 none ∈ gw := gw_of (t_1 (List.mem_of_getElem? (i := 19) rfl)) rfl
theorem wCL_X6_7 : Cond.classLink RX6 7 RX3 ∈ gw := gw_of (t_1 (List.mem_of_getElem? (i := 20) rfl)) rfl
theorem wIS_X3 : Cond.instantiable RX3 2 ∈ gw := gw_of (t_1 (List.mem_of_getElem? (i := 21) rfl)) rfl
theorem wML_X6_9 : Cond.methodLink RX6 9 yX3_init ∈ gw := gw_of (t_1 (List.mem_of_getElem? (i := 22) rfl)) rfl
theorem wIM_X3_init : Cond.instanceMethod yX3_init ∈ gw := gw_of (t_1 (List.mem_of_getElem? (i := 23) rfl)) rfl
theorem wCD_X3_init : Cond.code yX3_init cX3_init 1 none ∈ gw := gw_of (t_1 (List.mem_of_getElem? (i := 24) rfl)) rfl
theorem wML_X3_3 : Cond.methodLink RX3 3 objectInit ∈ gw := gw_of (t_1 (List.mem_of_getElem? (i := 25) rfl)) rfl
theorem wFL_X3_9 : Cond.fieldLink RX3 9 RX3 "symbols" "[I" ∈ gw := gw_of (t_1 (List.mem_of_getElem? (i := 26) rfl)) rfl
theorem wFL_X3_15 : Cond.fieldLink RX3 15 RX3 "size" "I" ∈ gw := gw_of (t_1 (List.mem_of_getElem? (i := 27) rfl)) rfl
theorem wLY_X3_symbols : Cond.laysFinal RX3 RX3 "symbols" "[I" ∈ gw := gw_of (t_1 (List.mem_of_getElem? (i := 28) rfl)) rfl
theorem wLY_X3_size : Cond.lays RX3 RX3 "size" "I" ∈ gw := gw_of (t_1 (List.mem_of_getElem? (i := 30) rfl)) rfl
theorem wAC_int : Cond.arrayClass FieldType.int ∈ gw := gw_of (t_1 (List.mem_of_getElem? (i := 33) rfl)) rfl
theorem wCL_X6_16 : Cond.classLink RX6 16 RX0 ∈ gw := gw_of (t_1 (List.mem_of_getElem? (i := 34) rfl)) rfl
theorem wIS_X0 : Cond.instantiable RX0 2 ∈ gw := gw_of (t_1 (List.mem_of_getElem? (i := 35) rfl)) rfl
theorem wML_X6_18 : Cond.methodLink RX6 18 yX0_init ∈ gw := gw_of (t_1 (List.mem_of_getElem? (i := 36) rfl)) rfl
theorem wIM_X0_init : Cond.instanceMethod yX0_init ∈ gw := gw_of (t_1 (List.mem_of_getElem? (i := 37) rfl)) rfl
theorem wCD_X0_init : Cond.code yX0_init cX0_init 2 none ∈ gw := gw_of (t_1 (List.mem_of_getElem? (i := 38) rfl)) rfl
theorem wML_X0_3 : Cond.methodLink RX0 3 objectInit ∈ gw := gw_of (t_1 (List.mem_of_getElem? (i := 39) rfl)) rfl
theorem wCL_X0_9 : Cond.classLink RX0 9 RX3 ∈ gw := gw_of (t_1 (List.mem_of_getElem? (i := 40) rfl)) rfl
theorem wML_X0_17 : Cond.methodLink RX0 17 yX3_init ∈ gw := gw_of (t_1 (List.mem_of_getElem? (i := 42) rfl)) rfl
theorem wFL_X0_11 : Cond.fieldLink RX0 11 RX0 "states" "[LBitLevels$Row;" ∈ gw := gw_of (t_1 (List.mem_of_getElem? (i := 43) rfl)) rfl
theorem wFL_X0_18 : Cond.fieldLink RX0 18 RX0 "size" "I" ∈ gw := gw_of (t_1 (List.mem_of_getElem? (i := 44) rfl)) rfl
theorem wLY_X0_states : Cond.laysFinal RX0 RX0 "states" "[LBitLevels$Row;" ∈ gw := gw_of (t_1 (List.mem_of_getElem? (i := 45) rfl)) rfl
theorem wLY_X0_size : Cond.lays RX0 RX0 "size" "I" ∈ gw := gw_of (t_1 (List.mem_of_getElem? (i := 47) rfl)) rfl
theorem wCL_X6_23 : Cond.classLink RX6 23 RX1 ∈ gw := gw_of (t_1 (List.mem_of_getElem? (i := 50) rfl)) rfl
theorem wIS_X1 : Cond.instantiable RX1 4 ∈ gw := gw_of (t_1 (List.mem_of_getElem? (i := 51) rfl)) rfl
theorem wML_X6_25 : Cond.methodLink RX6 25 yX1_init ∈ gw := gw_of (t_1 (List.mem_of_getElem? (i := 52) rfl)) rfl
theorem wIM_X1_init : Cond.instanceMethod yX1_init ∈ gw := gw_of (t_1 (List.mem_of_getElem? (i := 53) rfl)) rfl
theorem wCD_X1_init : Cond.code yX1_init cX1_init 1 none ∈ gw := gw_of (t_1 (List.mem_of_getElem? (i := 54) rfl)) rfl
theorem wML_X1_3 : Cond.methodLink RX1 3 objectInit ∈ gw := gw_of (t_1 (List.mem_of_getElem? (i := 55) rfl)) rfl
theorem wCL_X1_9 : Cond.classLink RX1 9 "[[I" ∈ gw := gw_of (t_1 (List.mem_of_getElem? (i := 56) rfl)) rfl
theorem wFL_X1_11 : Cond.fieldLink RX1 11 RX1 "symbols" "[[I" ∈ gw := gw_of (t_1 (List.mem_of_getElem? (i := 58) rfl)) rfl
theorem wFL_X1_16 : Cond.fieldLink RX1 16 RX1 "origins" "[[I" ∈ gw := gw_of (t_1 (List.mem_of_getElem? (i := 59) rfl)) rfl
theorem wFL_X1_19 : Cond.fieldLink RX1 19 RX1 "goals" "[[I" ∈ gw := gw_of (t_1 (List.mem_of_getElem? (i := 60) rfl)) rfl
theorem wFL_X1_22 : Cond.fieldLink RX1 22 RX1 "size" "I" ∈ gw := gw_of (t_1 (List.mem_of_getElem? (i := 61) rfl)) rfl
theorem wLY_X1_symbols : Cond.laysFinal RX1 RX1 "symbols" "[[I" ∈ gw := gw_of (t_1 (List.mem_of_getElem? (i := 62) rfl)) rfl
theorem wLY_X1_origins : Cond.laysFinal RX1 RX1 "origins" "[[I" ∈ gw := gw_of (t_1 (List.mem_of_getElem? (i := 64) rfl)) rfl
theorem wLY_X1_goals : Cond.laysFinal RX1 RX1 "goals" "[[I" ∈ gw := gw_of (t_1 (List.mem_of_getElem? (i := 66) rfl)) rfl
theorem wLY_X1_size : Cond.lays RX1 RX1 "size" "I" ∈ gw := gw_of (t_1 (List.mem_of_getElem? (i := 68) rfl)) rfl
theorem wCL_X6_30 : Cond.classLink RX6 30 RX4 ∈ gw := gw_of (t_1 (List.mem_of_getElem? (i := 71) rfl)) rfl
theorem wIS_X4 : Cond.instantiable RX4 1 ∈ gw := gw_of (t_1 (List.mem_of_getElem? (i := 72) rfl)) rfl
theorem wML_X6_32 : Cond.methodLink RX6 32 yX4_init ∈ gw := gw_of (t_1 (List.mem_of_getElem? (i := 73) rfl)) rfl
theorem wIM_X4_init : Cond.instanceMethod yX4_init ∈ gw := gw_of (t_1 (List.mem_of_getElem? (i := 74) rfl)) rfl
theorem wCD_X4_init : Cond.code yX4_init cX4_init 1 none ∈ gw := gw_of (t_1 (List.mem_of_getElem? (i := 75) rfl)) rfl
theorem wML_X4_3 : Cond.methodLink RX4 3 objectInit ∈ gw := gw_of (t_1 (List.mem_of_getElem? (i := 76) rfl)) rfl
theorem wFL_X4_9 : Cond.fieldLink RX4 9 RX4 "times" "[I" ∈ gw := gw_of (t_1 (List.mem_of_getElem? (i := 77) rfl)) rfl
theorem wLY_X4_times : Cond.laysFinal RX4 RX4 "times" "[I" ∈ gw := gw_of (t_1 (List.mem_of_getElem? (i := 78) rfl)) rfl
theorem wCL_X6_40 : Cond.classLink RX6 40 RX5 ∈ gw := gw_of (t_1 (List.mem_of_getElem? (i := 81) rfl)) rfl
theorem wIS_X5 : Cond.instantiable RX5 2 ∈ gw := gw_of (t_1 (List.mem_of_getElem? (i := 82) rfl)) rfl
theorem wML_X6_42 : Cond.methodLink RX6 42 yX5_init ∈ gw := gw_of (t_1 (List.mem_of_getElem? (i := 83) rfl)) rfl
theorem wIM_X5_init : Cond.instanceMethod yX5_init ∈ gw := gw_of (t_1 (List.mem_of_getElem? (i := 84) rfl)) rfl
theorem wCD_X5_init : Cond.code yX5_init cX5_init 1 none ∈ gw := gw_of (t_1 (List.mem_of_getElem? (i := 85) rfl)) rfl
theorem wML_X5_3 : Cond.methodLink RX5 3 objectInit ∈ gw := gw_of (t_1 (List.mem_of_getElem? (i := 86) rfl)) rfl
theorem wFL_X5_9 : Cond.fieldLink RX5 9 RX5 "characters" "[C" ∈ gw := gw_of (t_1 (List.mem_of_getElem? (i := 87) rfl)) rfl
theorem wFL_X5_15 : Cond.fieldLink RX5 15 RX5 "length" "I" ∈ gw := gw_of (t_1 (List.mem_of_getElem? (i := 88) rfl)) rfl
theorem wLY_X5_characters : Cond.laysFinal RX5 RX5 "characters" "[C" ∈ gw := gw_of (t_1 (List.mem_of_getElem? (i := 89) rfl)) rfl
theorem wLY_X5_length : Cond.lays RX5 RX5 "length" "I" ∈ gw := gw_of (t_1 (List.mem_of_getElem? (i := 91) rfl)) rfl
theorem wAC_char : Cond.arrayClass FieldType.char ∈ gw := gw_of (t_1 (List.mem_of_getElem? (i := 94) rfl)) rfl
theorem wCL_X6_47 : Cond.classLink RX6 47 RX2 ∈ gw := gw_of (t_1 (List.mem_of_getElem? (i := 95) rfl)) rfl
theorem wIS_X2 : Cond.instantiable RX2 10 ∈ gw := gw_of (t_1 (List.mem_of_getElem? (i := 96) rfl)) rfl
theorem wML_X6_49 : Cond.methodLink RX6 49 yX2_init ∈ gw := gw_of (t_1 (List.mem_of_getElem? (i := 97) rfl)) rfl
theorem wIM_X2_init : Cond.instanceMethod yX2_init ∈ gw := gw_of (t_1 (List.mem_of_getElem? (i := 98) rfl)) rfl
theorem wCD_X2_init : Cond.code yX2_init cX2_init 2 none ∈ gw := gw_of (t_1 (List.mem_of_getElem? (i := 99) rfl)) rfl
theorem wML_X2_3 : Cond.methodLink RX2 3 objectInit ∈ gw := gw_of (t_1 (List.mem_of_getElem? (i := 100) rfl)) rfl
theorem wCL_X2_15 : Cond.classLink RX2 15 RX3 ∈ gw := gw_of (t_1 (List.mem_of_getElem? (i := 101) rfl)) rfl
theorem wML_X2_17 : Cond.methodLink RX2 17 yX3_init ∈ gw := gw_of (t_1 (List.mem_of_getElem? (i := 102) rfl)) rfl
theorem wFL_X2_9 : Cond.fieldLink RX2 9 RX2 "text" "LBitLevels$Text;" ∈ gw := gw_of (t_1 (List.mem_of_getElem? (i := 103) rfl)) rfl
theorem wFL_X2_18 : Cond.fieldLink RX2 18 RX2 "outcome" "LBitLevels$Row;" ∈ gw := gw_of (t_1 (List.mem_of_getElem? (i := 104) rfl)) rfl
theorem wFL_X2_36 : Cond.fieldLink RX2 36 RX2 "next" "I" ∈ gw := gw_of (t_1 (List.mem_of_getElem? (i := 105) rfl)) rfl
theorem wFL_X2_62 : Cond.fieldLink RX2 62 RX2 "kind" "I" ∈ gw := gw_of (t_1 (List.mem_of_getElem? (i := 106) rfl)) rfl
theorem wFL_X2_68 : Cond.fieldLink RX2 68 RX2 "first" "I" ∈ gw := gw_of (t_1 (List.mem_of_getElem? (i := 107) rfl)) rfl
theorem wFL_X2_78 : Cond.fieldLink RX2 78 RX2 "second" "I" ∈ gw := gw_of (t_1 (List.mem_of_getElem? (i := 108) rfl)) rfl
theorem wFL_X2_84 : Cond.fieldLink RX2 84 RX2 "symbolsFrom" "I" ∈ gw := gw_of (t_1 (List.mem_of_getElem? (i := 109) rfl)) rfl
theorem wFL_X2_22 : Cond.fieldLink RX2 22 RX2 "position" "I" ∈ gw := gw_of (t_1 (List.mem_of_getElem? (i := 110) rfl)) rfl
theorem wFL_X2_26 : Cond.fieldLink RX2 26 RX2 "reason" "I" ∈ gw := gw_of (t_1 (List.mem_of_getElem? (i := 111) rfl)) rfl
theorem wFL_X2_29 : Cond.fieldLink RX2 29 RX2 "cause" "I" ∈ gw := gw_of (t_1 (List.mem_of_getElem? (i := 112) rfl)) rfl
theorem wLY_X2_text : Cond.laysFinal RX2 RX2 "text" "LBitLevels$Text;" ∈ gw := gw_of (t_1 (List.mem_of_getElem? (i := 113) rfl)) rfl
theorem wLY_X2_outcome : Cond.laysFinal RX2 RX2 "outcome" "LBitLevels$Row;" ∈ gw := gw_of (t_1 (List.mem_of_getElem? (i := 115) rfl)) rfl
theorem wLY_X2_next : Cond.lays RX2 RX2 "next" "I" ∈ gw := gw_of (t_1 (List.mem_of_getElem? (i := 117) rfl)) rfl
theorem wLY_X2_kind : Cond.lays RX2 RX2 "kind" "I" ∈ gw := gw_of (t_1 (List.mem_of_getElem? (i := 119) rfl)) rfl
theorem wLY_X2_first : Cond.lays RX2 RX2 "first" "I" ∈ gw := gw_of (t_1 (List.mem_of_getElem? (i := 121) rfl)) rfl
theorem wLY_X2_second : Cond.lays RX2 RX2 "second" "I" ∈ gw := gw_of (t_1 (List.mem_of_getElem? (i := 123) rfl)) rfl
theorem wLY_X2_symbolsFrom : Cond.lays RX2 RX2 "symbolsFrom" "I" ∈ gw := gw_of (t_1 (List.mem_of_getElem? (i := 125) rfl)) rfl
theorem wLY_X2_position : Cond.lays RX2 RX2 "position" "I" ∈ gw := gw_of (t_1 (List.mem_of_getElem? (i := 127) rfl)) rfl
theorem wLY_X2_reason : Cond.lays RX2 RX2 "reason" "I" ∈ gw := gw_of (t_1 (List.mem_of_getElem? (i := 129) rfl)) rfl
theorem wLY_X2_cause : Cond.lays RX2 RX2 "cause" "I" ∈ gw := gw_of (t_1 (List.mem_of_getElem? (i := 131) rfl)) rfl
theorem wFL_X6_10 : Cond.fieldLink RX6 10 RX6 "row" "LBitLevels$Row;" ∈ gw := gw_of (t_1 (List.mem_of_getElem? (i := 134) rfl)) rfl
theorem wFL_X6_19 : Cond.fieldLink RX6 19 RX6 "history" "LBitLevels$History;" ∈ gw := gw_of (t_1 (List.mem_of_getElem? (i := 135) rfl)) rfl
theorem wFL_X6_26 : Cond.fieldLink RX6 26 RX6 "levels" "LBitLevels$Levels;" ∈ gw := gw_of (t_1 (List.mem_of_getElem? (i := 136) rfl)) rfl
theorem wFL_X6_33 : Cond.fieldLink RX6 33 RX6 "tally" "LBitLevels$Tally;" ∈ gw := gw_of (t_1 (List.mem_of_getElem? (i := 137) rfl)) rfl
theorem wFL_X6_37 : Cond.fieldLink RX6 37 RX6 "otherTally" "LBitLevels$Tally;" ∈ gw := gw_of (t_1 (List.mem_of_getElem? (i := 138) rfl)) rfl
theorem wFL_X6_43 : Cond.fieldLink RX6 43 RX6 "text" "LBitLevels$Text;" ∈ gw := gw_of (t_1 (List.mem_of_getElem? (i := 139) rfl)) rfl
theorem wFL_X6_52 : Cond.fieldLink RX6 52 RX6 "player" "LBitLevels$Player;" ∈ gw := gw_of (t_1 (List.mem_of_getElem? (i := 140) rfl)) rfl
theorem wLY_X6_row : Cond.laysFinal RX6 RX6 "row" "LBitLevels$Row;" ∈ gw := gw_of (t_1 (List.mem_of_getElem? (i := 141) rfl)) rfl
theorem wLY_X6_history : Cond.laysFinal RX6 RX6 "history" "LBitLevels$History;" ∈ gw := gw_of (t_1 (List.mem_of_getElem? (i := 143) rfl)) rfl
theorem wLY_X6_levels : Cond.laysFinal RX6 RX6 "levels" "LBitLevels$Levels;" ∈ gw := gw_of (t_1 (List.mem_of_getElem? (i := 145) rfl)) rfl
theorem wLY_X6_tally : Cond.laysFinal RX6 RX6 "tally" "LBitLevels$Tally;" ∈ gw := gw_of (t_1 (List.mem_of_getElem? (i := 147) rfl)) rfl
theorem wLY_X6_otherTally : Cond.laysFinal RX6 RX6 "otherTally" "LBitLevels$Tally;" ∈ gw := gw_of (t_1 (List.mem_of_getElem? (i := 149) rfl)) rfl
theorem wLY_X6_text : Cond.laysFinal RX6 RX6 "text" "LBitLevels$Text;" ∈ gw := gw_of (t_1 (List.mem_of_getElem? (i := 151) rfl)) rfl
theorem wLY_X6_player : Cond.laysFinal RX6 RX6 "player" "LBitLevels$Player;" ∈ gw := gw_of (t_1 (List.mem_of_getElem? (i := 153) rfl)) rfl
theorem wML_L_13 : Cond.methodLink RL 13 yX6_put ∈ gw := gw_of (t_1 (List.mem_of_getElem? (i := 156) rfl)) rfl
theorem wIM_X6_put : Cond.instanceMethod yX6_put ∈ gw := gw_of (t_1 (List.mem_of_getElem? (i := 157) rfl)) rfl
theorem wSE_X6_put : Cond.selects RX6 yX6_put yX6_put ∈ gw := gw_of (t_1 (List.mem_of_getElem? (i := 158) rfl)) rfl
theorem wCD_X6_put : Cond.code yX6_put cX6_put 3 (Option.some FieldType.int) ∈ gw := gw_of (t_1 (List.mem_of_getElem? (i := 159) rfl)) rfl
theorem wML_X6_56 : Cond.methodLink RX6 56 yX3_size ∈ gw := gw_of (t_1 (List.mem_of_getElem? (i := 160) rfl)) rfl
theorem wIM_X3_size : Cond.instanceMethod yX3_size ∈ gw := gw_of (t_1 (List.mem_of_getElem? (i := 161) rfl)) rfl
theorem wSE_X3_size : Cond.selects RX3 yX3_size yX3_size ∈ gw := gw_of (t_1 (List.mem_of_getElem? (i := 162) rfl)) rfl
theorem wCD_X3_size : Cond.code yX3_size cX3_size 1 (Option.some FieldType.int) ∈ gw := gw_of (t_1 (List.mem_of_getElem? (i := 163) rfl)) rfl
theorem wML_X6_60 : Cond.methodLink RX6 60 yX6_isAtMost ∈ gw := gw_of (t_1 (List.mem_of_getElem? (i := 164) rfl)) rfl
theorem wST_X6_isAtMost : Cond.static yX6_isAtMost ∈ gw := gw_of (t_1 (List.mem_of_getElem? (i := 165) rfl)) rfl
theorem wCD_X6_isAtMost : Cond.code yX6_isAtMost cX6_isAtMost 2 (Option.some FieldType.boolean) ∈ gw := gw_of (t_1 (List.mem_of_getElem? (i := 166) rfl)) rfl
theorem wML_X6_64 : Cond.methodLink RX6 64 yX6_isSymbol ∈ gw := gw_of (t_1 (List.mem_of_getElem? (i := 167) rfl)) rfl
theorem wST_X6_isSymbol : Cond.static yX6_isSymbol ∈ gw := gw_of (t_1 (List.mem_of_getElem? (i := 168) rfl)) rfl
theorem wCD_X6_isSymbol : Cond.code yX6_isSymbol cX6_isSymbol 1 (Option.some FieldType.boolean) ∈ gw := gw_of (t_1 (List.mem_of_getElem? (i := 169) rfl)) rfl
theorem wKI_X6_68 : Cond.constant RX6 68 (-1000001) ∈ gw := gw_of (t_1 (List.mem_of_getElem? (i := 170) rfl)) rfl
theorem wKI_X6_69 : Cond.constant RX6 69 (-1000003) ∈ gw := gw_of (t_1 (List.mem_of_getElem? (i := 171) rfl)) rfl
theorem wML_X6_70 : Cond.methodLink RX6 70 yX0_remember ∈ gw := gw_of (t_1 (List.mem_of_getElem? (i := 172) rfl)) rfl
theorem wIM_X0_remember : Cond.instanceMethod yX0_remember ∈ gw := gw_of (t_1 (List.mem_of_getElem? (i := 173) rfl)) rfl
theorem wSE_X0_remember : Cond.selects RX0 yX0_remember yX0_remember ∈ gw := gw_of (t_1 (List.mem_of_getElem? (i := 174) rfl)) rfl
theorem wCD_X0_remember : Cond.code yX0_remember cX0_remember 2 none ∈ gw := gw_of (t_1 (List.mem_of_getElem? (i := 175) rfl)) rfl
theorem wML_X0_22 : Cond.methodLink RX0 22 yX0_dropOldest ∈ gw := gw_of (t_1 (List.mem_of_getElem? (i := 176) rfl)) rfl
theorem wIM_X0_dropOldest : Cond.instanceMethod yX0_dropOldest ∈ gw := gw_of (t_1 (List.mem_of_getElem? (i := 178) rfl)) rfl
theorem wCD_X0_dropOldest : Cond.code yX0_dropOldest cX0_dropOldest 2 none ∈ gw := gw_of (t_1 (List.mem_of_getElem? (i := 179) rfl)) rfl
theorem wML_X0_25 : Cond.methodLink RX0 25 yX3_copyFrom ∈ gw := gw_of (t_1 (List.mem_of_getElem? (i := 180) rfl)) rfl
theorem wIM_X3_copyFrom : Cond.instanceMethod yX3_copyFrom ∈ gw := gw_of (t_1 (List.mem_of_getElem? (i := 181) rfl)) rfl
theorem wSE_X3_copyFrom : Cond.selects RX3 yX3_copyFrom yX3_copyFrom ∈ gw := gw_of (t_1 (List.mem_of_getElem? (i := 182) rfl)) rfl
theorem wCD_X3_copyFrom : Cond.code yX3_copyFrom cX3_copyFrom 3 none ∈ gw := gw_of (t_1 (List.mem_of_getElem? (i := 183) rfl)) rfl
theorem wML_X6_74 : Cond.methodLink RX6 74 yX3_insert ∈ gw := gw_of (t_1 (List.mem_of_getElem? (i := 184) rfl)) rfl
theorem wIM_X3_insert : Cond.instanceMethod yX3_insert ∈ gw := gw_of (t_1 (List.mem_of_getElem? (i := 185) rfl)) rfl
theorem wSE_X3_insert : Cond.selects RX3 yX3_insert yX3_insert ∈ gw := gw_of (t_1 (List.mem_of_getElem? (i := 186) rfl)) rfl
theorem wCD_X3_insert : Cond.code yX3_insert cX3_insert 4 none ∈ gw := gw_of (t_1 (List.mem_of_getElem? (i := 187) rfl)) rfl
theorem wMN_X3_23 : Cond.methodLinkNest RX3 23 yX6_isAtMost "BitLevels" ∈ lw_tbl := List.mem_append_right _ (t_1 (List.mem_of_getElem? (i := 188) rfl))
theorem wML_L_18 : Cond.methodLink RL 18 yX6_take ∈ gw := gw_of (t_1 (List.mem_of_getElem? (i := 189) rfl)) rfl
theorem wIM_X6_take : Cond.instanceMethod yX6_take ∈ gw := gw_of (t_1 (List.mem_of_getElem? (i := 190) rfl)) rfl
theorem wSE_X6_take : Cond.selects RX6 yX6_take yX6_take ∈ gw := gw_of (t_1 (List.mem_of_getElem? (i := 191) rfl)) rfl
theorem wCD_X6_take : Cond.code yX6_take cX6_take 3 (Option.some FieldType.int) ∈ gw := gw_of (t_1 (List.mem_of_getElem? (i := 192) rfl)) rfl
theorem wML_X6_78 : Cond.methodLink RX6 78 yX3_hasPlace ∈ gw := gw_of (t_1 (List.mem_of_getElem? (i := 193) rfl)) rfl
theorem wIM_X3_hasPlace : Cond.instanceMethod yX3_hasPlace ∈ gw := gw_of (t_1 (List.mem_of_getElem? (i := 194) rfl)) rfl
theorem wSE_X3_hasPlace : Cond.selects RX3 yX3_hasPlace yX3_hasPlace ∈ gw := gw_of (t_1 (List.mem_of_getElem? (i := 195) rfl)) rfl
theorem wCD_X3_hasPlace : Cond.code yX3_hasPlace cX3_hasPlace 2 (Option.some FieldType.boolean) ∈ gw := gw_of (t_1 (List.mem_of_getElem? (i := 196) rfl)) rfl
theorem wML_X6_81 : Cond.methodLink RX6 81 yX3_at ∈ gw := gw_of (t_1 (List.mem_of_getElem? (i := 197) rfl)) rfl
theorem wIM_X3_at : Cond.instanceMethod yX3_at ∈ gw := gw_of (t_1 (List.mem_of_getElem? (i := 198) rfl)) rfl
theorem wSE_X3_at : Cond.selects RX3 yX3_at yX3_at ∈ gw := gw_of (t_1 (List.mem_of_getElem? (i := 199) rfl)) rfl
theorem wCD_X3_at : Cond.code yX3_at cX3_at 2 (Option.some FieldType.int) ∈ gw := gw_of (t_1 (List.mem_of_getElem? (i := 200) rfl)) rfl
theorem wML_X3_19 : Cond.methodLink RX3 19 yX3_hasPlace ∈ gw := gw_of (t_1 (List.mem_of_getElem? (i := 201) rfl)) rfl
theorem wML_X6_85 : Cond.methodLink RX6 85 yX3_remove ∈ gw := gw_of (t_1 (List.mem_of_getElem? (i := 202) rfl)) rfl
theorem wIM_X3_remove : Cond.instanceMethod yX3_remove ∈ gw := gw_of (t_1 (List.mem_of_getElem? (i := 203) rfl)) rfl
theorem wSE_X3_remove : Cond.selects RX3 yX3_remove yX3_remove ∈ gw := gw_of (t_1 (List.mem_of_getElem? (i := 204) rfl)) rfl
theorem wCD_X3_remove : Cond.code yX3_remove cX3_remove 3 none ∈ gw := gw_of (t_1 (List.mem_of_getElem? (i := 205) rfl)) rfl
theorem wML_L_23 : Cond.methodLink RL 23 yX6_change ∈ gw := gw_of (t_1 (List.mem_of_getElem? (i := 206) rfl)) rfl
theorem wIM_X6_change : Cond.instanceMethod yX6_change ∈ gw := gw_of (t_1 (List.mem_of_getElem? (i := 207) rfl)) rfl
theorem wSE_X6_change : Cond.selects RX6 yX6_change yX6_change ∈ gw := gw_of (t_1 (List.mem_of_getElem? (i := 208) rfl)) rfl
theorem wCD_X6_change : Cond.code yX6_change cX6_change 4 (Option.some FieldType.int) ∈ gw := gw_of (t_1 (List.mem_of_getElem? (i := 209) rfl)) rfl
theorem wML_X6_89 : Cond.methodLink RX6 89 yX3_replace ∈ gw := gw_of (t_1 (List.mem_of_getElem? (i := 210) rfl)) rfl
theorem wIM_X3_replace : Cond.instanceMethod yX3_replace ∈ gw := gw_of (t_1 (List.mem_of_getElem? (i := 211) rfl)) rfl
theorem wSE_X3_replace : Cond.selects RX3 yX3_replace yX3_replace ∈ gw := gw_of (t_1 (List.mem_of_getElem? (i := 212) rfl)) rfl
theorem wCD_X3_replace : Cond.code yX3_replace cX3_replace 3 none ∈ gw := gw_of (t_1 (List.mem_of_getElem? (i := 213) rfl)) rfl
theorem wML_L_27 : Cond.methodLink RL 27 yX6_swap ∈ gw := gw_of (t_1 (List.mem_of_getElem? (i := 214) rfl)) rfl
theorem wIM_X6_swap : Cond.instanceMethod yX6_swap ∈ gw := gw_of (t_1 (List.mem_of_getElem? (i := 215) rfl)) rfl
theorem wSE_X6_swap : Cond.selects RX6 yX6_swap yX6_swap ∈ gw := gw_of (t_1 (List.mem_of_getElem? (i := 216) rfl)) rfl
theorem wCD_X6_swap : Cond.code yX6_swap cX6_swap 4 (Option.some FieldType.int) ∈ gw := gw_of (t_1 (List.mem_of_getElem? (i := 217) rfl)) rfl
theorem wML_X6_92 : Cond.methodLink RX6 92 yX3_exchange ∈ gw := gw_of (t_1 (List.mem_of_getElem? (i := 218) rfl)) rfl
theorem wIM_X3_exchange : Cond.instanceMethod yX3_exchange ∈ gw := gw_of (t_1 (List.mem_of_getElem? (i := 219) rfl)) rfl
theorem wSE_X3_exchange : Cond.selects RX3 yX3_exchange yX3_exchange ∈ gw := gw_of (t_1 (List.mem_of_getElem? (i := 220) rfl)) rfl
theorem wCD_X3_exchange : Cond.code yX3_exchange cX3_exchange 4 none ∈ gw := gw_of (t_1 (List.mem_of_getElem? (i := 221) rfl)) rfl
theorem wML_X3_27 : Cond.methodLink RX3 27 yX3_at ∈ gw := gw_of (t_1 (List.mem_of_getElem? (i := 222) rfl)) rfl
theorem wML_L_31 : Cond.methodLink RL 31 yX6_turn ∈ gw := gw_of (t_1 (List.mem_of_getElem? (i := 223) rfl)) rfl
theorem wIM_X6_turn : Cond.instanceMethod yX6_turn ∈ gw := gw_of (t_1 (List.mem_of_getElem? (i := 224) rfl)) rfl
theorem wSE_X6_turn : Cond.selects RX6 yX6_turn yX6_turn ∈ gw := gw_of (t_1 (List.mem_of_getElem? (i := 225) rfl)) rfl
theorem wCD_X6_turn : Cond.code yX6_turn cX6_turn 3 (Option.some FieldType.int) ∈ gw := gw_of (t_1 (List.mem_of_getElem? (i := 226) rfl)) rfl
theorem wML_X6_95 : Cond.methodLink RX6 95 yX3_hasSpan ∈ gw := gw_of (t_1 (List.mem_of_getElem? (i := 227) rfl)) rfl
theorem wIM_X3_hasSpan : Cond.instanceMethod yX3_hasSpan ∈ gw := gw_of (t_1 (List.mem_of_getElem? (i := 228) rfl)) rfl
theorem wSE_X3_hasSpan : Cond.selects RX3 yX3_hasSpan yX3_hasSpan ∈ gw := gw_of (t_1 (List.mem_of_getElem? (i := 229) rfl)) rfl
theorem wCD_X3_hasSpan : Cond.code yX3_hasSpan cX3_hasSpan 3 (Option.some FieldType.boolean) ∈ gw := gw_of (t_1 (List.mem_of_getElem? (i := 230) rfl)) rfl
theorem wML_X6_98 : Cond.methodLink RX6 98 yX3_reverse ∈ gw := gw_of (t_1 (List.mem_of_getElem? (i := 231) rfl)) rfl
theorem wIM_X3_reverse : Cond.instanceMethod yX3_reverse ∈ gw := gw_of (t_1 (List.mem_of_getElem? (i := 232) rfl)) rfl
theorem wSE_X3_reverse : Cond.selects RX3 yX3_reverse yX3_reverse ∈ gw := gw_of (t_1 (List.mem_of_getElem? (i := 233) rfl)) rfl
theorem wCD_X3_reverse : Cond.code yX3_reverse cX3_reverse 6 (Option.some FieldType.int) ∈ gw := gw_of (t_1 (List.mem_of_getElem? (i := 234) rfl)) rfl
theorem wML_X3_31 : Cond.methodLink RX3 31 yX3_exchange ∈ gw := gw_of (t_1 (List.mem_of_getElem? (i := 235) rfl)) rfl
theorem wML_L_35 : Cond.methodLink RL 35 yX6_sort ∈ gw := gw_of (t_1 (List.mem_of_getElem? (i := 236) rfl)) rfl
theorem wIM_X6_sort : Cond.instanceMethod yX6_sort ∈ gw := gw_of (t_1 (List.mem_of_getElem? (i := 237) rfl)) rfl
theorem wSE_X6_sort : Cond.selects RX6 yX6_sort yX6_sort ∈ gw := gw_of (t_1 (List.mem_of_getElem? (i := 238) rfl)) rfl
theorem wCD_X6_sort : Cond.code yX6_sort cX6_sort 3 (Option.some FieldType.int) ∈ gw := gw_of (t_1 (List.mem_of_getElem? (i := 239) rfl)) rfl
theorem wML_X6_102 : Cond.methodLink RX6 102 yX4_fill ∈ gw := gw_of (t_2 (List.mem_of_getElem? (i := 0) rfl)) rfl
theorem wIM_X4_fill : Cond.instanceMethod yX4_fill ∈ gw := gw_of (t_2 (List.mem_of_getElem? (i := 1) rfl)) rfl
theorem wSE_X4_fill : Cond.selects RX4 yX4_fill yX4_fill ∈ gw := gw_of (t_2 (List.mem_of_getElem? (i := 2) rfl)) rfl
theorem wCD_X4_fill : Cond.code yX4_fill cX4_fill 6 none ∈ gw := gw_of (t_2 (List.mem_of_getElem? (i := 3) rfl)) rfl
theorem wML_X4_15 : Cond.methodLink RX4 15 yX3_at ∈ gw := gw_of (t_2 (List.mem_of_getElem? (i := 4) rfl)) rfl
theorem wMN_X4_21 : Cond.methodLinkNest RX4 21 yX6_isSymbol "BitLevels" ∈ lw_tbl := List.mem_append_right _ (t_2 (List.mem_of_getElem? (i := 5) rfl))
theorem wML_X6_106 : Cond.methodLink RX6 106 yX3_layOut ∈ gw := gw_of (t_2 (List.mem_of_getElem? (i := 6) rfl)) rfl
theorem wIM_X3_layOut : Cond.instanceMethod yX3_layOut ∈ gw := gw_of (t_2 (List.mem_of_getElem? (i := 7) rfl)) rfl
theorem wSE_X3_layOut : Cond.selects RX3 yX3_layOut yX3_layOut ∈ gw := gw_of (t_2 (List.mem_of_getElem? (i := 8) rfl)) rfl
theorem wCD_X3_layOut : Cond.code yX3_layOut cX3_layOut 7 (Option.some FieldType.int) ∈ gw := gw_of (t_2 (List.mem_of_getElem? (i := 9) rfl)) rfl
theorem wML_X3_35 : Cond.methodLink RX3 35 yX4_symbolAtSorted ∈ gw := gw_of (t_2 (List.mem_of_getElem? (i := 10) rfl)) rfl
theorem wIM_X4_symbolAtSorted : Cond.instanceMethod yX4_symbolAtSorted ∈ gw := gw_of (t_2 (List.mem_of_getElem? (i := 11) rfl)) rfl
theorem wSE_X4_symbolAtSorted : Cond.selects RX4 yX4_symbolAtSorted yX4_symbolAtSorted ∈ gw := gw_of (t_2 (List.mem_of_getElem? (i := 12) rfl)) rfl
theorem wCD_X4_symbolAtSorted : Cond.code yX4_symbolAtSorted cX4_symbolAtSorted 4 (Option.some FieldType.int) ∈ gw := gw_of (t_2 (List.mem_of_getElem? (i := 13) rfl)) rfl
theorem wML_X3_40 : Cond.methodLink RX3 40 yX3_replace ∈ gw := gw_of (t_2 (List.mem_of_getElem? (i := 14) rfl)) rfl
theorem wML_L_39 : Cond.methodLink RL 39 yX6_levelOf ∈ gw := gw_of (t_2 (List.mem_of_getElem? (i := 15) rfl)) rfl
theorem wIM_X6_levelOf : Cond.instanceMethod yX6_levelOf ∈ gw := gw_of (t_2 (List.mem_of_getElem? (i := 16) rfl)) rfl
theorem wSE_X6_levelOf : Cond.selects RX6 yX6_levelOf yX6_levelOf ∈ gw := gw_of (t_2 (List.mem_of_getElem? (i := 17) rfl)) rfl
theorem wCD_X6_levelOf : Cond.code yX6_levelOf cX6_levelOf 4 (Option.some FieldType.int) ∈ gw := gw_of (t_2 (List.mem_of_getElem? (i := 18) rfl)) rfl
theorem wKI_X6_110 : Cond.constant RX6 110 (-1000004) ∈ gw := gw_of (t_2 (List.mem_of_getElem? (i := 19) rfl)) rfl
theorem wML_X6_111 : Cond.methodLink RX6 111 yX1_build ∈ gw := gw_of (t_2 (List.mem_of_getElem? (i := 20) rfl)) rfl
theorem wIM_X1_build : Cond.instanceMethod yX1_build ∈ gw := gw_of (t_2 (List.mem_of_getElem? (i := 21) rfl)) rfl
theorem wSE_X1_build : Cond.selects RX1 yX1_build yX1_build ∈ gw := gw_of (t_2 (List.mem_of_getElem? (i := 22) rfl)) rfl
theorem wCD_X1_build : Cond.code yX1_build cX1_build 4 none ∈ gw := gw_of (t_2 (List.mem_of_getElem? (i := 23) rfl)) rfl
theorem wML_X1_26 : Cond.methodLink RX1 26 yX3_size ∈ gw := gw_of (t_2 (List.mem_of_getElem? (i := 24) rfl)) rfl
theorem wML_X1_31 : Cond.methodLink RX1 31 yX3_at ∈ gw := gw_of (t_2 (List.mem_of_getElem? (i := 25) rfl)) rfl
theorem wML_X1_35 : Cond.methodLink RX1 35 yX1_moveBits ∈ gw := gw_of (t_2 (List.mem_of_getElem? (i := 26) rfl)) rfl
theorem wIM_X1_moveBits : Cond.instanceMethod yX1_moveBits ∈ gw := gw_of (t_2 (List.mem_of_getElem? (i := 28) rfl)) rfl
theorem wCD_X1_moveBits : Cond.code yX1_moveBits cX1_moveBits 6 (Option.some FieldType.int) ∈ gw := gw_of (t_2 (List.mem_of_getElem? (i := 29) rfl)) rfl
theorem wML_X1_39 : Cond.methodLink RX1 39 yX1_bitOf ∈ gw := gw_of (t_2 (List.mem_of_getElem? (i := 30) rfl)) rfl
theorem wIM_X1_bitOf : Cond.instanceMethod yX1_bitOf ∈ gw := gw_of (t_2 (List.mem_of_getElem? (i := 31) rfl)) rfl
theorem wSE_X1_bitOf : Cond.selects RX1 yX1_bitOf yX1_bitOf ∈ gw := gw_of (t_2 (List.mem_of_getElem? (i := 32) rfl)) rfl
theorem wCD_X1_bitOf : Cond.code yX1_bitOf cX1_bitOf 3 (Option.some FieldType.int) ∈ gw := gw_of (t_2 (List.mem_of_getElem? (i := 33) rfl)) rfl
theorem wMN_X1_50 : Cond.methodLinkNest RX1 50 yX6_hasBits "BitLevels" ∈ lw_tbl := List.mem_append_right _ (t_2 (List.mem_of_getElem? (i := 34) rfl))
theorem wST_X6_hasBits : Cond.static yX6_hasBits ∈ gw := gw_of (t_2 (List.mem_of_getElem? (i := 35) rfl)) rfl
theorem wCD_X6_hasBits : Cond.code yX6_hasBits cX6_hasBits 1 (Option.some FieldType.boolean) ∈ gw := gw_of (t_2 (List.mem_of_getElem? (i := 36) rfl)) rfl
theorem wML_X1_47 : Cond.methodLink RX1 47 yX1_isOn ∈ gw := gw_of (t_2 (List.mem_of_getElem? (i := 37) rfl)) rfl
theorem wIM_X1_isOn : Cond.instanceMethod yX1_isOn ∈ gw := gw_of (t_2 (List.mem_of_getElem? (i := 39) rfl)) rfl
theorem wCD_X1_isOn : Cond.code yX1_isOn cX1_isOn 3 (Option.some FieldType.boolean) ∈ gw := gw_of (t_2 (List.mem_of_getElem? (i := 40) rfl)) rfl
theorem wMN_X1_43 : Cond.methodLinkNest RX1 43 yX6_isAtMost "BitLevels" ∈ lw_tbl := List.mem_append_right _ (t_2 (List.mem_of_getElem? (i := 41) rfl))
theorem wML_X6_114 : Cond.methodLink RX6 114 yX1_symbolOf ∈ gw := gw_of (t_2 (List.mem_of_getElem? (i := 42) rfl)) rfl
theorem wIM_X1_symbolOf : Cond.instanceMethod yX1_symbolOf ∈ gw := gw_of (t_2 (List.mem_of_getElem? (i := 43) rfl)) rfl
theorem wSE_X1_symbolOf : Cond.selects RX1 yX1_symbolOf yX1_symbolOf ∈ gw := gw_of (t_2 (List.mem_of_getElem? (i := 44) rfl)) rfl
theorem wCD_X1_symbolOf : Cond.code yX1_symbolOf cX1_symbolOf 3 (Option.some FieldType.int) ∈ gw := gw_of (t_2 (List.mem_of_getElem? (i := 45) rfl)) rfl
theorem wML_X6_117 : Cond.methodLink RX6 117 yX1_bitOf ∈ gw := gw_of (t_2 (List.mem_of_getElem? (i := 46) rfl)) rfl
theorem wML_X6_120 : Cond.methodLink RX6 120 yX1_goalOf ∈ gw := gw_of (t_2 (List.mem_of_getElem? (i := 47) rfl)) rfl
theorem wIM_X1_goalOf : Cond.instanceMethod yX1_goalOf ∈ gw := gw_of (t_2 (List.mem_of_getElem? (i := 48) rfl)) rfl
theorem wSE_X1_goalOf : Cond.selects RX1 yX1_goalOf yX1_goalOf ∈ gw := gw_of (t_2 (List.mem_of_getElem? (i := 49) rfl)) rfl
theorem wCD_X1_goalOf : Cond.code yX1_goalOf cX1_goalOf 3 (Option.some FieldType.int) ∈ gw := gw_of (t_2 (List.mem_of_getElem? (i := 50) rfl)) rfl
theorem wML_X6_123 : Cond.methodLink RX6 123 yX1_originOf ∈ gw := gw_of (t_2 (List.mem_of_getElem? (i := 51) rfl)) rfl
theorem wIM_X1_originOf : Cond.instanceMethod yX1_originOf ∈ gw := gw_of (t_2 (List.mem_of_getElem? (i := 52) rfl)) rfl
theorem wSE_X1_originOf : Cond.selects RX1 yX1_originOf yX1_originOf ∈ gw := gw_of (t_2 (List.mem_of_getElem? (i := 53) rfl)) rfl
theorem wCD_X1_originOf : Cond.code yX1_originOf cX1_originOf 3 (Option.some FieldType.int) ∈ gw := gw_of (t_2 (List.mem_of_getElem? (i := 54) rfl)) rfl
theorem wML_L_44 : Cond.methodLink RL 44 yX6_blockOf ∈ gw := gw_of (t_2 (List.mem_of_getElem? (i := 55) rfl)) rfl
theorem wIM_X6_blockOf : Cond.instanceMethod yX6_blockOf ∈ gw := gw_of (t_2 (List.mem_of_getElem? (i := 56) rfl)) rfl
theorem wSE_X6_blockOf : Cond.selects RX6 yX6_blockOf yX6_blockOf ∈ gw := gw_of (t_2 (List.mem_of_getElem? (i := 57) rfl)) rfl
theorem wCD_X6_blockOf : Cond.code yX6_blockOf cX6_blockOf 6 (Option.some FieldType.int) ∈ gw := gw_of (t_2 (List.mem_of_getElem? (i := 58) rfl)) rfl
theorem wML_X6_126 : Cond.methodLink RX6 126 yX6_hasBits ∈ gw := gw_of (t_2 (List.mem_of_getElem? (i := 59) rfl)) rfl
theorem wML_X6_129 : Cond.methodLink RX6 129 yX6_blocks ∈ gw := gw_of (t_2 (List.mem_of_getElem? (i := 60) rfl)) rfl
theorem wIM_X6_blocks : Cond.instanceMethod yX6_blocks ∈ gw := gw_of (t_2 (List.mem_of_getElem? (i := 62) rfl)) rfl
theorem wCD_X6_blocks : Cond.code yX6_blocks cX6_blocks 1 (Option.some FieldType.int) ∈ gw := gw_of (t_2 (List.mem_of_getElem? (i := 63) rfl)) rfl
theorem wML_X6_132 : Cond.methodLink RX6 132 yJ9_min_7cf53 ∈ gw := gw_of (t_2 (List.mem_of_getElem? (i := 64) rfl)) rfl
theorem wST_J9_min_7cf53 : Cond.static yJ9_min_7cf53 ∈ gw := gw_of (t_2 (List.mem_of_getElem? (i := 65) rfl)) rfl
theorem wCD_J9_min_7cf53 : Cond.code yJ9_min_7cf53 cJ9_min_7cf53 2 (Option.some FieldType.int) ∈ gw := gw_of (t_2 (List.mem_of_getElem? (i := 66) rfl)) rfl
theorem wML_X6_137 : Cond.methodLink RX6 137 yX1_packed ∈ gw := gw_of (t_2 (List.mem_of_getElem? (i := 67) rfl)) rfl
theorem wIM_X1_packed : Cond.instanceMethod yX1_packed ∈ gw := gw_of (t_2 (List.mem_of_getElem? (i := 68) rfl)) rfl
theorem wSE_X1_packed : Cond.selects RX1 yX1_packed yX1_packed ∈ gw := gw_of (t_2 (List.mem_of_getElem? (i := 69) rfl)) rfl
theorem wCD_X1_packed : Cond.code yX1_packed cX1_packed 7 (Option.some FieldType.long) ∈ gw := gw_of (t_2 (List.mem_of_getElem? (i := 70) rfl)) rfl
theorem wML_X6_141 : Cond.methodLink RX6 141 yX1_ones ∈ gw := gw_of (t_2 (List.mem_of_getElem? (i := 71) rfl)) rfl
theorem wIM_X1_ones : Cond.instanceMethod yX1_ones ∈ gw := gw_of (t_2 (List.mem_of_getElem? (i := 72) rfl)) rfl
theorem wSE_X1_ones : Cond.selects RX1 yX1_ones yX1_ones ∈ gw := gw_of (t_2 (List.mem_of_getElem? (i := 73) rfl)) rfl
theorem wCD_X1_ones : Cond.code yX1_ones cX1_ones 4 (Option.some FieldType.int) ∈ gw := gw_of (t_2 (List.mem_of_getElem? (i := 74) rfl)) rfl
theorem wML_X1_54 : Cond.methodLink RX1 54 yX1_packed ∈ gw := gw_of (t_2 (List.mem_of_getElem? (i := 75) rfl)) rfl
theorem wML_X1_58 : Cond.methodLink RX1 58 yJ13_bitCount_95d88 ∈ gw := gw_of (t_2 (List.mem_of_getElem? (i := 76) rfl)) rfl
theorem wST_J13_bitCount_95d88 : Cond.static yJ13_bitCount_95d88 ∈ gw := gw_of (t_2 (List.mem_of_getElem? (i := 77) rfl)) rfl
theorem wCD_J13_bitCount_95d88 : Cond.code yJ13_bitCount_95d88 cJ13_bitCount_95d88 2 (Option.some FieldType.int) ∈ gw := gw_of (t_2 (List.mem_of_getElem? (i := 78) rfl)) rfl
theorem wKL_J13_314 : Cond.constantLong RJ13 314 (6148914691236517205) ∈ gw := gw_of (t_2 (List.mem_of_getElem? (i := 79) rfl)) rfl
theorem wKL_J13_316 : Cond.constantLong RJ13 316 (3689348814741910323) ∈ gw := gw_of (t_2 (List.mem_of_getElem? (i := 80) rfl)) rfl
theorem wKL_J13_318 : Cond.constantLong RJ13 318 (1085102592571150095) ∈ gw := gw_of (t_2 (List.mem_of_getElem? (i := 81) rfl)) rfl
theorem wML_L_48 : Cond.methodLink RL 48 yX6_bits ∈ gw := gw_of (t_2 (List.mem_of_getElem? (i := 82) rfl)) rfl
theorem wIM_X6_bits : Cond.instanceMethod yX6_bits ∈ gw := gw_of (t_2 (List.mem_of_getElem? (i := 83) rfl)) rfl
theorem wSE_X6_bits : Cond.selects RX6 yX6_bits yX6_bits ∈ gw := gw_of (t_2 (List.mem_of_getElem? (i := 84) rfl)) rfl
theorem wCD_X6_bits : Cond.code yX6_bits cX6_bits 2 (Option.some FieldType.long) ∈ gw := gw_of (t_2 (List.mem_of_getElem? (i := 85) rfl)) rfl
theorem wKL_X6_145 : Cond.constantLong RX6 145 (-1000001) ∈ gw := gw_of (t_2 (List.mem_of_getElem? (i := 86) rfl)) rfl
theorem wML_L_53 : Cond.methodLink RL 53 yX6_symbolAt ∈ gw := gw_of (t_2 (List.mem_of_getElem? (i := 87) rfl)) rfl
theorem wIM_X6_symbolAt : Cond.instanceMethod yX6_symbolAt ∈ gw := gw_of (t_2 (List.mem_of_getElem? (i := 88) rfl)) rfl
theorem wSE_X6_symbolAt : Cond.selects RX6 yX6_symbolAt yX6_symbolAt ∈ gw := gw_of (t_2 (List.mem_of_getElem? (i := 89) rfl)) rfl
theorem wCD_X6_symbolAt : Cond.code yX6_symbolAt cX6_symbolAt 2 (Option.some FieldType.int) ∈ gw := gw_of (t_2 (List.mem_of_getElem? (i := 90) rfl)) rfl
theorem wML_L_57 : Cond.methodLink RL 57 yX6_rank ∈ gw := gw_of (t_2 (List.mem_of_getElem? (i := 91) rfl)) rfl
theorem wIM_X6_rank : Cond.instanceMethod yX6_rank ∈ gw := gw_of (t_2 (List.mem_of_getElem? (i := 92) rfl)) rfl
theorem wSE_X6_rank : Cond.selects RX6 yX6_rank yX6_rank ∈ gw := gw_of (t_2 (List.mem_of_getElem? (i := 93) rfl)) rfl
theorem wCD_X6_rank : Cond.code yX6_rank cX6_rank 3 (Option.some FieldType.int) ∈ gw := gw_of (t_2 (List.mem_of_getElem? (i := 94) rfl)) rfl
theorem wML_X6_147 : Cond.methodLink RX6 147 yX4_times ∈ gw := gw_of (t_2 (List.mem_of_getElem? (i := 95) rfl)) rfl
theorem wIM_X4_times : Cond.instanceMethod yX4_times ∈ gw := gw_of (t_2 (List.mem_of_getElem? (i := 96) rfl)) rfl
theorem wSE_X4_times : Cond.selects RX4 yX4_times yX4_times ∈ gw := gw_of (t_2 (List.mem_of_getElem? (i := 97) rfl)) rfl
theorem wCD_X4_times : Cond.code yX4_times cX4_times 2 (Option.some FieldType.int) ∈ gw := gw_of (t_2 (List.mem_of_getElem? (i := 98) rfl)) rfl
theorem wML_L_61 : Cond.methodLink RL 61 yX6_select ∈ gw := gw_of (t_2 (List.mem_of_getElem? (i := 99) rfl)) rfl
theorem wIM_X6_select : Cond.instanceMethod yX6_select ∈ gw := gw_of (t_2 (List.mem_of_getElem? (i := 100) rfl)) rfl
theorem wSE_X6_select : Cond.selects RX6 yX6_select yX6_select ∈ gw := gw_of (t_2 (List.mem_of_getElem? (i := 101) rfl)) rfl
theorem wCD_X6_select : Cond.code yX6_select cX6_select 5 (Option.some FieldType.int) ∈ gw := gw_of (t_2 (List.mem_of_getElem? (i := 102) rfl)) rfl
theorem wML_L_65 : Cond.methodLink RL 65 yX6_smallest ∈ gw := gw_of (t_2 (List.mem_of_getElem? (i := 103) rfl)) rfl
theorem wIM_X6_smallest : Cond.instanceMethod yX6_smallest ∈ gw := gw_of (t_2 (List.mem_of_getElem? (i := 104) rfl)) rfl
theorem wSE_X6_smallest : Cond.selects RX6 yX6_smallest yX6_smallest ∈ gw := gw_of (t_2 (List.mem_of_getElem? (i := 105) rfl)) rfl
theorem wCD_X6_smallest : Cond.code yX6_smallest cX6_smallest 4 (Option.some FieldType.int) ∈ gw := gw_of (t_2 (List.mem_of_getElem? (i := 106) rfl)) rfl
theorem wML_X6_150 : Cond.methodLink RX6 150 yX4_symbolAtSorted ∈ gw := gw_of (t_2 (List.mem_of_getElem? (i := 107) rfl)) rfl
theorem wML_X6_153 : Cond.methodLink RX6 153 yX6_foundOr ∈ gw := gw_of (t_2 (List.mem_of_getElem? (i := 108) rfl)) rfl
theorem wST_X6_foundOr : Cond.static yX6_foundOr ∈ gw := gw_of (t_2 (List.mem_of_getElem? (i := 109) rfl)) rfl
theorem wCD_X6_foundOr : Cond.code yX6_foundOr cX6_foundOr 1 (Option.some FieldType.int) ∈ gw := gw_of (t_2 (List.mem_of_getElem? (i := 110) rfl)) rfl
theorem wML_L_69 : Cond.methodLink RL 69 yX6_below ∈ gw := gw_of (t_2 (List.mem_of_getElem? (i := 111) rfl)) rfl
theorem wIM_X6_below : Cond.instanceMethod yX6_below ∈ gw := gw_of (t_2 (List.mem_of_getElem? (i := 112) rfl)) rfl
theorem wSE_X6_below : Cond.selects RX6 yX6_below yX6_below ∈ gw := gw_of (t_2 (List.mem_of_getElem? (i := 113) rfl)) rfl
theorem wCD_X6_below : Cond.code yX6_below cX6_below 4 (Option.some FieldType.int) ∈ gw := gw_of (t_2 (List.mem_of_getElem? (i := 114) rfl)) rfl
theorem wML_X6_156 : Cond.methodLink RX6 156 yX4_timesBelow ∈ gw := gw_of (t_2 (List.mem_of_getElem? (i := 115) rfl)) rfl
theorem wIM_X4_timesBelow : Cond.instanceMethod yX4_timesBelow ∈ gw := gw_of (t_2 (List.mem_of_getElem? (i := 116) rfl)) rfl
theorem wSE_X4_timesBelow : Cond.selects RX4 yX4_timesBelow yX4_timesBelow ∈ gw := gw_of (t_2 (List.mem_of_getElem? (i := 117) rfl)) rfl
theorem wCD_X4_timesBelow : Cond.code yX4_timesBelow cX4_timesBelow 4 (Option.some FieldType.int) ∈ gw := gw_of (t_2 (List.mem_of_getElem? (i := 118) rfl)) rfl
theorem wML_L_73 : Cond.methodLink RL 73 yX6_notBelow ∈ gw := gw_of (t_2 (List.mem_of_getElem? (i := 119) rfl)) rfl
theorem wIM_X6_notBelow : Cond.instanceMethod yX6_notBelow ∈ gw := gw_of (t_2 (List.mem_of_getElem? (i := 120) rfl)) rfl
theorem wSE_X6_notBelow : Cond.selects RX6 yX6_notBelow yX6_notBelow ∈ gw := gw_of (t_2 (List.mem_of_getElem? (i := 121) rfl)) rfl
theorem wCD_X6_notBelow : Cond.code yX6_notBelow cX6_notBelow 4 (Option.some FieldType.int) ∈ gw := gw_of (t_2 (List.mem_of_getElem? (i := 122) rfl)) rfl
theorem wML_X6_159 : Cond.methodLink RX6 159 yX4_leastFrom ∈ gw := gw_of (t_2 (List.mem_of_getElem? (i := 123) rfl)) rfl
theorem wIM_X4_leastFrom : Cond.instanceMethod yX4_leastFrom ∈ gw := gw_of (t_2 (List.mem_of_getElem? (i := 124) rfl)) rfl
theorem wSE_X4_leastFrom : Cond.selects RX4 yX4_leastFrom yX4_leastFrom ∈ gw := gw_of (t_2 (List.mem_of_getElem? (i := 125) rfl)) rfl
theorem wCD_X4_leastFrom : Cond.code yX4_leastFrom cX4_leastFrom 3 (Option.some FieldType.int) ∈ gw := gw_of (t_2 (List.mem_of_getElem? (i := 126) rfl)) rfl
theorem wML_X4_25 : Cond.methodLink RX4 25 yJ9_max_7cf53 ∈ gw := gw_of (t_2 (List.mem_of_getElem? (i := 127) rfl)) rfl
theorem wST_J9_max_7cf53 : Cond.static yJ9_max_7cf53 ∈ gw := gw_of (t_2 (List.mem_of_getElem? (i := 128) rfl)) rfl
theorem wCD_J9_max_7cf53 : Cond.code yJ9_max_7cf53 cJ9_max_7cf53 2 (Option.some FieldType.int) ∈ gw := gw_of (t_2 (List.mem_of_getElem? (i := 129) rfl)) rfl
theorem wML_L_77 : Cond.methodLink RL 77 yX6_spanOf ∈ gw := gw_of (t_2 (List.mem_of_getElem? (i := 130) rfl)) rfl
theorem wIM_X6_spanOf : Cond.instanceMethod yX6_spanOf ∈ gw := gw_of (t_2 (List.mem_of_getElem? (i := 131) rfl)) rfl
theorem wSE_X6_spanOf : Cond.selects RX6 yX6_spanOf yX6_spanOf ∈ gw := gw_of (t_2 (List.mem_of_getElem? (i := 132) rfl)) rfl
theorem wCD_X6_spanOf : Cond.code yX6_spanOf cX6_spanOf 5 (Option.some FieldType.int) ∈ gw := gw_of (t_2 (List.mem_of_getElem? (i := 133) rfl)) rfl
theorem wML_X6_162 : Cond.methodLink RX6 162 yX3_sum ∈ gw := gw_of (t_2 (List.mem_of_getElem? (i := 134) rfl)) rfl
theorem wIM_X3_sum : Cond.instanceMethod yX3_sum ∈ gw := gw_of (t_2 (List.mem_of_getElem? (i := 135) rfl)) rfl
theorem wSE_X3_sum : Cond.selects RX3 yX3_sum yX3_sum ∈ gw := gw_of (t_2 (List.mem_of_getElem? (i := 136) rfl)) rfl
theorem wCD_X3_sum : Cond.code yX3_sum cX3_sum 5 (Option.some FieldType.int) ∈ gw := gw_of (t_2 (List.mem_of_getElem? (i := 137) rfl)) rfl
theorem wML_X6_165 : Cond.methodLink RX6 165 yX3_wrongPairs ∈ gw := gw_of (t_2 (List.mem_of_getElem? (i := 138) rfl)) rfl
theorem wIM_X3_wrongPairs : Cond.instanceMethod yX3_wrongPairs ∈ gw := gw_of (t_2 (List.mem_of_getElem? (i := 139) rfl)) rfl
theorem wSE_X3_wrongPairs : Cond.selects RX3 yX3_wrongPairs yX3_wrongPairs ∈ gw := gw_of (t_2 (List.mem_of_getElem? (i := 140) rfl)) rfl
theorem wCD_X3_wrongPairs : Cond.code yX3_wrongPairs cX3_wrongPairs 6 (Option.some FieldType.int) ∈ gw := gw_of (t_2 (List.mem_of_getElem? (i := 141) rfl)) rfl
theorem wML_X6_168 : Cond.methodLink RX6 168 yX4_unlike ∈ gw := gw_of (t_2 (List.mem_of_getElem? (i := 142) rfl)) rfl
theorem wIM_X4_unlike : Cond.instanceMethod yX4_unlike ∈ gw := gw_of (t_2 (List.mem_of_getElem? (i := 143) rfl)) rfl
theorem wSE_X4_unlike : Cond.selects RX4 yX4_unlike yX4_unlike ∈ gw := gw_of (t_2 (List.mem_of_getElem? (i := 144) rfl)) rfl
theorem wCD_X4_unlike : Cond.code yX4_unlike cX4_unlike 3 (Option.some FieldType.int) ∈ gw := gw_of (t_2 (List.mem_of_getElem? (i := 145) rfl)) rfl
theorem wML_X6_171 : Cond.methodLink RX6 171 yX4_mostFrequent ∈ gw := gw_of (t_2 (List.mem_of_getElem? (i := 146) rfl)) rfl
theorem wIM_X4_mostFrequent : Cond.instanceMethod yX4_mostFrequent ∈ gw := gw_of (t_2 (List.mem_of_getElem? (i := 147) rfl)) rfl
theorem wSE_X4_mostFrequent : Cond.selects RX4 yX4_mostFrequent yX4_mostFrequent ∈ gw := gw_of (t_2 (List.mem_of_getElem? (i := 148) rfl)) rfl
theorem wCD_X4_mostFrequent : Cond.code yX4_mostFrequent cX4_mostFrequent 3 (Option.some FieldType.int) ∈ gw := gw_of (t_2 (List.mem_of_getElem? (i := 149) rfl)) rfl
theorem wML_X4_31 : Cond.methodLink RX4 31 yX4_times ∈ gw := gw_of (t_2 (List.mem_of_getElem? (i := 150) rfl)) rfl
theorem wML_L_81 : Cond.methodLink RL 81 yX6_product ∈ gw := gw_of (t_2 (List.mem_of_getElem? (i := 151) rfl)) rfl
theorem wIM_X6_product : Cond.instanceMethod yX6_product ∈ gw := gw_of (t_2 (List.mem_of_getElem? (i := 152) rfl)) rfl
theorem wSE_X6_product : Cond.selects RX6 yX6_product yX6_product ∈ gw := gw_of (t_2 (List.mem_of_getElem? (i := 153) rfl)) rfl
theorem wCD_X6_product : Cond.code yX6_product cX6_product 7 (Option.some FieldType.long) ∈ gw := gw_of (t_2 (List.mem_of_getElem? (i := 154) rfl)) rfl
theorem wKL_X6_176 : Cond.constantLong RX6 176 (9223372036854775807) ∈ gw := gw_of (t_2 (List.mem_of_getElem? (i := 155) rfl)) rfl
theorem wKL_X6_178 : Cond.constantLong RX6 178 (-1000003) ∈ gw := gw_of (t_2 (List.mem_of_getElem? (i := 156) rfl)) rfl
theorem wML_L_86 : Cond.methodLink RL 86 yX6_common ∈ gw := gw_of (t_2 (List.mem_of_getElem? (i := 157) rfl)) rfl
theorem wIM_X6_common : Cond.instanceMethod yX6_common ∈ gw := gw_of (t_2 (List.mem_of_getElem? (i := 158) rfl)) rfl
theorem wSE_X6_common : Cond.selects RX6 yX6_common yX6_common ∈ gw := gw_of (t_2 (List.mem_of_getElem? (i := 159) rfl)) rfl
theorem wCD_X6_common : Cond.code yX6_common cX6_common 6 (Option.some FieldType.int) ∈ gw := gw_of (t_2 (List.mem_of_getElem? (i := 160) rfl)) rfl
theorem wML_X6_180 : Cond.methodLink RX6 180 yX4_isLike ∈ gw := gw_of (t_2 (List.mem_of_getElem? (i := 161) rfl)) rfl
theorem wIM_X4_isLike : Cond.instanceMethod yX4_isLike ∈ gw := gw_of (t_2 (List.mem_of_getElem? (i := 162) rfl)) rfl
theorem wSE_X4_isLike : Cond.selects RX4 yX4_isLike yX4_isLike ∈ gw := gw_of (t_2 (List.mem_of_getElem? (i := 163) rfl)) rfl
theorem wCD_X4_isLike : Cond.code yX4_isLike cX4_isLike 3 (Option.some FieldType.boolean) ∈ gw := gw_of (t_2 (List.mem_of_getElem? (i := 164) rfl)) rfl
theorem wML_X6_184 : Cond.methodLink RX6 184 yX4_keepCommon ∈ gw := gw_of (t_2 (List.mem_of_getElem? (i := 165) rfl)) rfl
theorem wIM_X4_keepCommon : Cond.instanceMethod yX4_keepCommon ∈ gw := gw_of (t_2 (List.mem_of_getElem? (i := 166) rfl)) rfl
theorem wSE_X4_keepCommon : Cond.selects RX4 yX4_keepCommon yX4_keepCommon ∈ gw := gw_of (t_2 (List.mem_of_getElem? (i := 167) rfl)) rfl
theorem wCD_X4_keepCommon : Cond.code yX4_keepCommon cX4_keepCommon 3 none ∈ gw := gw_of (t_2 (List.mem_of_getElem? (i := 168) rfl)) rfl
theorem wML_X4_33 : Cond.methodLink RX4 33 yJ9_min_7cf53 ∈ gw := gw_of (t_2 (List.mem_of_getElem? (i := 169) rfl)) rfl
theorem wML_L_91 : Cond.methodLink RL 91 yX6_heaviest ∈ gw := gw_of (t_2 (List.mem_of_getElem? (i := 170) rfl)) rfl
theorem wIM_X6_heaviest : Cond.instanceMethod yX6_heaviest ∈ gw := gw_of (t_2 (List.mem_of_getElem? (i := 171) rfl)) rfl
theorem wSE_X6_heaviest : Cond.selects RX6 yX6_heaviest yX6_heaviest ∈ gw := gw_of (t_2 (List.mem_of_getElem? (i := 172) rfl)) rfl
theorem wCD_X6_heaviest : Cond.code yX6_heaviest cX6_heaviest 7 (Option.some FieldType.int) ∈ gw := gw_of (t_2 (List.mem_of_getElem? (i := 173) rfl)) rfl
theorem wML_L_95 : Cond.methodLink RL 95 yX6_count ∈ gw := gw_of (t_2 (List.mem_of_getElem? (i := 174) rfl)) rfl
theorem wIM_X6_count : Cond.instanceMethod yX6_count ∈ gw := gw_of (t_2 (List.mem_of_getElem? (i := 175) rfl)) rfl
theorem wSE_X6_count : Cond.selects RX6 yX6_count yX6_count ∈ gw := gw_of (t_2 (List.mem_of_getElem? (i := 176) rfl)) rfl
theorem wCD_X6_count : Cond.code yX6_count cX6_count 2 (Option.some FieldType.int) ∈ gw := gw_of (t_2 (List.mem_of_getElem? (i := 177) rfl)) rfl
theorem wML_X6_188 : Cond.methodLink RX6 188 yX3_ones ∈ gw := gw_of (t_2 (List.mem_of_getElem? (i := 178) rfl)) rfl
theorem wIM_X3_ones : Cond.instanceMethod yX3_ones ∈ gw := gw_of (t_2 (List.mem_of_getElem? (i := 179) rfl)) rfl
theorem wSE_X3_ones : Cond.selects RX3 yX3_ones yX3_ones ∈ gw := gw_of (t_2 (List.mem_of_getElem? (i := 180) rfl)) rfl
theorem wCD_X3_ones : Cond.code yX3_ones cX3_ones 3 (Option.some FieldType.int) ∈ gw := gw_of (t_2 (List.mem_of_getElem? (i := 181) rfl)) rfl
theorem wML_X3_43 : Cond.methodLink RX3 43 yJ6_bitCount_0f7a4 ∈ gw := gw_of (t_2 (List.mem_of_getElem? (i := 182) rfl)) rfl
theorem wST_J6_bitCount_0f7a4 : Cond.static yJ6_bitCount_0f7a4 ∈ gw := gw_of (t_2 (List.mem_of_getElem? (i := 183) rfl)) rfl
theorem wCD_J6_bitCount_0f7a4 : Cond.code yJ6_bitCount_0f7a4 cJ6_bitCount_0f7a4 1 (Option.some FieldType.int) ∈ gw := gw_of (t_2 (List.mem_of_getElem? (i := 184) rfl)) rfl
theorem wKI_J6_265 : Cond.constant RJ6 265 (1431655765) ∈ gw := gw_of (t_2 (List.mem_of_getElem? (i := 185) rfl)) rfl
theorem wKI_J6_266 : Cond.constant RJ6 266 (858993459) ∈ gw := gw_of (t_2 (List.mem_of_getElem? (i := 186) rfl)) rfl
theorem wKI_J6_267 : Cond.constant RJ6 267 (252645135) ∈ gw := gw_of (t_2 (List.mem_of_getElem? (i := 187) rfl)) rfl
theorem wML_X6_190 : Cond.methodLink RX6 190 yX0_size ∈ gw := gw_of (t_2 (List.mem_of_getElem? (i := 188) rfl)) rfl
theorem wIM_X0_size : Cond.instanceMethod yX0_size ∈ gw := gw_of (t_2 (List.mem_of_getElem? (i := 189) rfl)) rfl
theorem wSE_X0_size : Cond.selects RX0 yX0_size yX0_size ∈ gw := gw_of (t_2 (List.mem_of_getElem? (i := 190) rfl)) rfl
theorem wCD_X0_size : Cond.code yX0_size cX0_size 1 (Option.some FieldType.int) ∈ gw := gw_of (t_2 (List.mem_of_getElem? (i := 191) rfl)) rfl
theorem wML_X6_191 : Cond.methodLink RX6 191 yX5_length ∈ gw := gw_of (t_2 (List.mem_of_getElem? (i := 192) rfl)) rfl
theorem wIM_X5_length : Cond.instanceMethod yX5_length ∈ gw := gw_of (t_2 (List.mem_of_getElem? (i := 193) rfl)) rfl
theorem wSE_X5_length : Cond.selects RX5 yX5_length yX5_length ∈ gw := gw_of (t_2 (List.mem_of_getElem? (i := 194) rfl)) rfl
theorem wCD_X5_length : Cond.code yX5_length cX5_length 1 (Option.some FieldType.int) ∈ gw := gw_of (t_2 (List.mem_of_getElem? (i := 195) rfl)) rfl
theorem wML_L_99 : Cond.methodLink RL 99 yX6_undo ∈ gw := gw_of (t_2 (List.mem_of_getElem? (i := 196) rfl)) rfl
theorem wIM_X6_undo : Cond.instanceMethod yX6_undo ∈ gw := gw_of (t_2 (List.mem_of_getElem? (i := 197) rfl)) rfl
theorem wSE_X6_undo : Cond.selects RX6 yX6_undo yX6_undo ∈ gw := gw_of (t_2 (List.mem_of_getElem? (i := 198) rfl)) rfl
theorem wCD_X6_undo : Cond.code yX6_undo cX6_undo 1 (Option.some FieldType.int) ∈ gw := gw_of (t_2 (List.mem_of_getElem? (i := 199) rfl)) rfl
theorem wKI_X6_194 : Cond.constant RX6 194 (-1000002) ∈ gw := gw_of (t_2 (List.mem_of_getElem? (i := 200) rfl)) rfl
theorem wML_X6_195 : Cond.methodLink RX6 195 yX0_restore ∈ gw := gw_of (t_2 (List.mem_of_getElem? (i := 201) rfl)) rfl
theorem wIM_X0_restore : Cond.instanceMethod yX0_restore ∈ gw := gw_of (t_2 (List.mem_of_getElem? (i := 202) rfl)) rfl
theorem wSE_X0_restore : Cond.selects RX0 yX0_restore yX0_restore ∈ gw := gw_of (t_2 (List.mem_of_getElem? (i := 203) rfl)) rfl
theorem wCD_X0_restore : Cond.code yX0_restore cX0_restore 2 none ∈ gw := gw_of (t_2 (List.mem_of_getElem? (i := 204) rfl)) rfl
theorem wML_L_104 : Cond.methodLink RL 104 yX6_type ∈ gw := gw_of (t_2 (List.mem_of_getElem? (i := 205) rfl)) rfl
theorem wIM_X6_type : Cond.instanceMethod yX6_type ∈ gw := gw_of (t_2 (List.mem_of_getElem? (i := 206) rfl)) rfl
theorem wSE_X6_type : Cond.selects RX6 yX6_type yX6_type ∈ gw := gw_of (t_2 (List.mem_of_getElem? (i := 207) rfl)) rfl
theorem wCD_X6_type : Cond.code yX6_type cX6_type 2 (Option.some FieldType.int) ∈ gw := gw_of (t_2 (List.mem_of_getElem? (i := 208) rfl)) rfl
theorem wML_X6_198 : Cond.methodLink RX6 198 yX5_append ∈ gw := gw_of (t_2 (List.mem_of_getElem? (i := 209) rfl)) rfl
theorem wIM_X5_append : Cond.instanceMethod yX5_append ∈ gw := gw_of (t_2 (List.mem_of_getElem? (i := 210) rfl)) rfl
theorem wSE_X5_append : Cond.selects RX5 yX5_append yX5_append ∈ gw := gw_of (t_2 (List.mem_of_getElem? (i := 211) rfl)) rfl
theorem wCD_X5_append : Cond.code yX5_append cX5_append 2 none ∈ gw := gw_of (t_2 (List.mem_of_getElem? (i := 212) rfl)) rfl
theorem wML_L_108 : Cond.methodLink RL 108 yX6_clearText ∈ gw := gw_of (t_2 (List.mem_of_getElem? (i := 213) rfl)) rfl
theorem wIM_X6_clearText : Cond.instanceMethod yX6_clearText ∈ gw := gw_of (t_2 (List.mem_of_getElem? (i := 214) rfl)) rfl
theorem wSE_X6_clearText : Cond.selects RX6 yX6_clearText yX6_clearText ∈ gw := gw_of (t_2 (List.mem_of_getElem? (i := 215) rfl)) rfl
theorem wCD_X6_clearText : Cond.code yX6_clearText cX6_clearText 2 (Option.some FieldType.int) ∈ gw := gw_of (t_2 (List.mem_of_getElem? (i := 216) rfl)) rfl
theorem wML_X6_202 : Cond.methodLink RX6 202 yX5_empty ∈ gw := gw_of (t_2 (List.mem_of_getElem? (i := 217) rfl)) rfl
theorem wIM_X5_empty : Cond.instanceMethod yX5_empty ∈ gw := gw_of (t_2 (List.mem_of_getElem? (i := 218) rfl)) rfl
theorem wSE_X5_empty : Cond.selects RX5 yX5_empty yX5_empty ∈ gw := gw_of (t_2 (List.mem_of_getElem? (i := 219) rfl)) rfl
theorem wCD_X5_empty : Cond.code yX5_empty cX5_empty 1 none ∈ gw := gw_of (t_2 (List.mem_of_getElem? (i := 220) rfl)) rfl
theorem wML_L_112 : Cond.methodLink RL 112 yX6_fault ∈ gw := gw_of (t_2 (List.mem_of_getElem? (i := 221) rfl)) rfl
theorem wIM_X6_fault : Cond.instanceMethod yX6_fault ∈ gw := gw_of (t_2 (List.mem_of_getElem? (i := 222) rfl)) rfl
theorem wSE_X6_fault : Cond.selects RX6 yX6_fault yX6_fault ∈ gw := gw_of (t_2 (List.mem_of_getElem? (i := 223) rfl)) rfl
theorem wCD_X6_fault : Cond.code yX6_fault cX6_fault 2 (Option.some FieldType.int) ∈ gw := gw_of (t_2 (List.mem_of_getElem? (i := 224) rfl)) rfl
theorem wML_X6_205 : Cond.methodLink RX6 205 yX2_playAll ∈ gw := gw_of (t_2 (List.mem_of_getElem? (i := 225) rfl)) rfl
theorem wIM_X2_playAll : Cond.instanceMethod yX2_playAll ∈ gw := gw_of (t_2 (List.mem_of_getElem? (i := 226) rfl)) rfl
theorem wSE_X2_playAll : Cond.selects RX2 yX2_playAll yX2_playAll ∈ gw := gw_of (t_2 (List.mem_of_getElem? (i := 227) rfl)) rfl
theorem wCD_X2_playAll : Cond.code yX2_playAll cX2_playAll 3 none ∈ gw := gw_of (t_2 (List.mem_of_getElem? (i := 228) rfl)) rfl
theorem wML_X2_32 : Cond.methodLink RX2 32 yX3_copyFrom ∈ gw := gw_of (t_2 (List.mem_of_getElem? (i := 229) rfl)) rfl
theorem wML_X2_39 : Cond.methodLink RX2 39 yX5_length ∈ gw := gw_of (t_2 (List.mem_of_getElem? (i := 230) rfl)) rfl
theorem wML_X2_45 : Cond.methodLink RX2 45 yX2_playEdit ∈ gw := gw_of (t_2 (List.mem_of_getElem? (i := 231) rfl)) rfl
theorem wIM_X2_playEdit : Cond.instanceMethod yX2_playEdit ∈ gw := gw_of (t_2 (List.mem_of_getElem? (i := 233) rfl)) rfl
theorem wCD_X2_playEdit : Cond.code yX2_playEdit cX2_playEdit 1 none ∈ gw := gw_of (t_2 (List.mem_of_getElem? (i := 234) rfl)) rfl
theorem wML_X2_48 : Cond.methodLink RX2 48 yX2_readEdit ∈ gw := gw_of (t_2 (List.mem_of_getElem? (i := 235) rfl)) rfl
theorem wIM_X2_readEdit : Cond.instanceMethod yX2_readEdit ∈ gw := gw_of (t_2 (List.mem_of_getElem? (i := 237) rfl)) rfl
theorem wCD_X2_readEdit : Cond.code yX2_readEdit cX2_readEdit 1 (Option.some FieldType.boolean) ∈ gw := gw_of (t_2 (List.mem_of_getElem? (i := 238) rfl)) rfl
theorem wML_X2_58 : Cond.methodLink RX2 58 yX5_at ∈ gw := gw_of (t_2 (List.mem_of_getElem? (i := 239) rfl)) rfl
theorem wIM_X5_at : Cond.instanceMethod yX5_at ∈ gw := gw_of (t_3 (List.mem_of_getElem? (i := 0) rfl)) rfl
theorem wSE_X5_at : Cond.selects RX5 yX5_at yX5_at ∈ gw := gw_of (t_3 (List.mem_of_getElem? (i := 1) rfl)) rfl
theorem wCD_X5_at : Cond.code yX5_at cX5_at 2 (Option.some FieldType.int) ∈ gw := gw_of (t_3 (List.mem_of_getElem? (i := 2) rfl)) rfl
theorem wML_X2_65 : Cond.methodLink RX2 65 yX2_readNumber ∈ gw := gw_of (t_3 (List.mem_of_getElem? (i := 3) rfl)) rfl
theorem wIM_X2_readNumber : Cond.instanceMethod yX2_readNumber ∈ gw := gw_of (t_3 (List.mem_of_getElem? (i := 5) rfl)) rfl
theorem wCD_X2_readNumber : Cond.code yX2_readNumber cX2_readNumber 3 (Option.some FieldType.int) ∈ gw := gw_of (t_3 (List.mem_of_getElem? (i := 6) rfl)) rfl
theorem wML_X2_81 : Cond.methodLink RX2 81 yX5_digitAt ∈ gw := gw_of (t_3 (List.mem_of_getElem? (i := 7) rfl)) rfl
theorem wIM_X5_digitAt : Cond.instanceMethod yX5_digitAt ∈ gw := gw_of (t_3 (List.mem_of_getElem? (i := 8) rfl)) rfl
theorem wSE_X5_digitAt : Cond.selects RX5 yX5_digitAt yX5_digitAt ∈ gw := gw_of (t_3 (List.mem_of_getElem? (i := 9) rfl)) rfl
theorem wCD_X5_digitAt : Cond.code yX5_digitAt cX5_digitAt 2 (Option.some FieldType.int) ∈ gw := gw_of (t_3 (List.mem_of_getElem? (i := 10) rfl)) rfl
theorem wML_X5_19 : Cond.methodLink RX5 19 yX5_at ∈ gw := gw_of (t_3 (List.mem_of_getElem? (i := 11) rfl)) rfl
theorem wML_X5_23 : Cond.methodLink RX5 23 yX5_digitOf ∈ gw := gw_of (t_3 (List.mem_of_getElem? (i := 12) rfl)) rfl
theorem wST_X5_digitOf : Cond.static yX5_digitOf ∈ gw := gw_of (t_3 (List.mem_of_getElem? (i := 13) rfl)) rfl
theorem wCD_X5_digitOf : Cond.code yX5_digitOf cX5_digitOf 1 (Option.some FieldType.int) ∈ gw := gw_of (t_3 (List.mem_of_getElem? (i := 14) rfl)) rfl
theorem wML_X2_71 : Cond.methodLink RX2 71 yX2_readSign ∈ gw := gw_of (t_3 (List.mem_of_getElem? (i := 15) rfl)) rfl
theorem wIM_X2_readSign : Cond.instanceMethod yX2_readSign ∈ gw := gw_of (t_3 (List.mem_of_getElem? (i := 17) rfl)) rfl
theorem wCD_X2_readSign : Cond.code yX2_readSign cX2_readSign 2 (Option.some FieldType.boolean) ∈ gw := gw_of (t_3 (List.mem_of_getElem? (i := 18) rfl)) rfl
theorem wML_X2_75 : Cond.methodLink RX2 75 yX2_readSymbols ∈ gw := gw_of (t_3 (List.mem_of_getElem? (i := 19) rfl)) rfl
theorem wIM_X2_readSymbols : Cond.instanceMethod yX2_readSymbols ∈ gw := gw_of (t_3 (List.mem_of_getElem? (i := 21) rfl)) rfl
theorem wCD_X2_readSymbols : Cond.code yX2_readSymbols cX2_readSymbols 2 (Option.some FieldType.int) ∈ gw := gw_of (t_3 (List.mem_of_getElem? (i := 22) rfl)) rfl
theorem wML_X2_87 : Cond.methodLink RX2 87 yX5_symbolValueAt ∈ gw := gw_of (t_3 (List.mem_of_getElem? (i := 23) rfl)) rfl
theorem wIM_X5_symbolValueAt : Cond.instanceMethod yX5_symbolValueAt ∈ gw := gw_of (t_3 (List.mem_of_getElem? (i := 24) rfl)) rfl
theorem wSE_X5_symbolValueAt : Cond.selects RX5 yX5_symbolValueAt yX5_symbolValueAt ∈ gw := gw_of (t_3 (List.mem_of_getElem? (i := 25) rfl)) rfl
theorem wCD_X5_symbolValueAt : Cond.code yX5_symbolValueAt cX5_symbolValueAt 3 (Option.some FieldType.int) ∈ gw := gw_of (t_3 (List.mem_of_getElem? (i := 26) rfl)) rfl
theorem wML_X2_52 : Cond.methodLink RX2 52 yX2_reasonAgainst ∈ gw := gw_of (t_3 (List.mem_of_getElem? (i := 27) rfl)) rfl
theorem wIM_X2_reasonAgainst : Cond.instanceMethod yX2_reasonAgainst ∈ gw := gw_of (t_3 (List.mem_of_getElem? (i := 29) rfl)) rfl
theorem wCD_X2_reasonAgainst : Cond.code yX2_reasonAgainst cX2_reasonAgainst 1 (Option.some FieldType.int) ∈ gw := gw_of (t_3 (List.mem_of_getElem? (i := 30) rfl)) rfl
theorem wML_X2_90 : Cond.methodLink RX2 90 yX2_hasPlaces ∈ gw := gw_of (t_3 (List.mem_of_getElem? (i := 31) rfl)) rfl
theorem wIM_X2_hasPlaces : Cond.instanceMethod yX2_hasPlaces ∈ gw := gw_of (t_3 (List.mem_of_getElem? (i := 33) rfl)) rfl
theorem wCD_X2_hasPlaces : Cond.code yX2_hasPlaces cX2_hasPlaces 1 (Option.some FieldType.boolean) ∈ gw := gw_of (t_3 (List.mem_of_getElem? (i := 34) rfl)) rfl
theorem wML_X2_93 : Cond.methodLink RX2 93 yX3_size ∈ gw := gw_of (t_3 (List.mem_of_getElem? (i := 35) rfl)) rfl
theorem wMN_X2_96 : Cond.methodLinkNest RX2 96 yX6_isAtMost "BitLevels" ∈ lw_tbl := List.mem_append_right _ (t_3 (List.mem_of_getElem? (i := 36) rfl))
theorem wML_X2_100 : Cond.methodLink RX2 100 yX3_hasSpan ∈ gw := gw_of (t_3 (List.mem_of_getElem? (i := 37) rfl)) rfl
theorem wML_X2_103 : Cond.methodLink RX2 103 yX3_hasPlace ∈ gw := gw_of (t_3 (List.mem_of_getElem? (i := 38) rfl)) rfl
theorem wML_X2_55 : Cond.methodLink RX2 55 yX2_perform ∈ gw := gw_of (t_3 (List.mem_of_getElem? (i := 39) rfl)) rfl
theorem wIM_X2_perform : Cond.instanceMethod yX2_perform ∈ gw := gw_of (t_3 (List.mem_of_getElem? (i := 41) rfl)) rfl
theorem wCD_X2_perform : Cond.code yX2_perform cX2_perform 1 none ∈ gw := gw_of (t_3 (List.mem_of_getElem? (i := 42) rfl)) rfl
theorem wML_X2_107 : Cond.methodLink RX2 107 yX2_putSymbolsIn ∈ gw := gw_of (t_3 (List.mem_of_getElem? (i := 43) rfl)) rfl
theorem wIM_X2_putSymbolsIn : Cond.instanceMethod yX2_putSymbolsIn ∈ gw := gw_of (t_3 (List.mem_of_getElem? (i := 45) rfl)) rfl
theorem wCD_X2_putSymbolsIn : Cond.code yX2_putSymbolsIn cX2_putSymbolsIn 2 none ∈ gw := gw_of (t_3 (List.mem_of_getElem? (i := 46) rfl)) rfl
theorem wML_X2_121 : Cond.methodLink RX2 121 yX3_insert ∈ gw := gw_of (t_3 (List.mem_of_getElem? (i := 47) rfl)) rfl
theorem wML_X2_110 : Cond.methodLink RX2 110 yX2_takeSpanOut ∈ gw := gw_of (t_3 (List.mem_of_getElem? (i := 48) rfl)) rfl
theorem wIM_X2_takeSpanOut : Cond.instanceMethod yX2_takeSpanOut ∈ gw := gw_of (t_3 (List.mem_of_getElem? (i := 50) rfl)) rfl
theorem wCD_X2_takeSpanOut : Cond.code yX2_takeSpanOut cX2_takeSpanOut 2 none ∈ gw := gw_of (t_3 (List.mem_of_getElem? (i := 51) rfl)) rfl
theorem wML_X2_124 : Cond.methodLink RX2 124 yX3_remove ∈ gw := gw_of (t_3 (List.mem_of_getElem? (i := 52) rfl)) rfl
theorem wML_X2_113 : Cond.methodLink RX2 113 yX3_exchange ∈ gw := gw_of (t_3 (List.mem_of_getElem? (i := 53) rfl)) rfl
theorem wML_X2_117 : Cond.methodLink RX2 117 yX3_reverse ∈ gw := gw_of (t_3 (List.mem_of_getElem? (i := 54) rfl)) rfl
theorem wML_X6_208 : Cond.methodLink RX6 208 yX2_reason ∈ gw := gw_of (t_3 (List.mem_of_getElem? (i := 55) rfl)) rfl
theorem wIM_X2_reason : Cond.instanceMethod yX2_reason ∈ gw := gw_of (t_3 (List.mem_of_getElem? (i := 56) rfl)) rfl
theorem wSE_X2_reason : Cond.selects RX2 yX2_reason yX2_reason ∈ gw := gw_of (t_3 (List.mem_of_getElem? (i := 57) rfl)) rfl
theorem wCD_X2_reason : Cond.code yX2_reason cX2_reason 1 (Option.some FieldType.int) ∈ gw := gw_of (t_3 (List.mem_of_getElem? (i := 58) rfl)) rfl
theorem wML_X6_211 : Cond.methodLink RX6 211 yX2_position ∈ gw := gw_of (t_3 (List.mem_of_getElem? (i := 59) rfl)) rfl
theorem wIM_X2_position : Cond.instanceMethod yX2_position ∈ gw := gw_of (t_3 (List.mem_of_getElem? (i := 60) rfl)) rfl
theorem wSE_X2_position : Cond.selects RX2 yX2_position yX2_position ∈ gw := gw_of (t_3 (List.mem_of_getElem? (i := 61) rfl)) rfl
theorem wCD_X2_position : Cond.code yX2_position cX2_position 1 (Option.some FieldType.int) ∈ gw := gw_of (t_3 (List.mem_of_getElem? (i := 62) rfl)) rfl
theorem wML_X6_214 : Cond.methodLink RX6 214 yX2_cause ∈ gw := gw_of (t_3 (List.mem_of_getElem? (i := 63) rfl)) rfl
theorem wIM_X2_cause : Cond.instanceMethod yX2_cause ∈ gw := gw_of (t_3 (List.mem_of_getElem? (i := 64) rfl)) rfl
theorem wSE_X2_cause : Cond.selects RX2 yX2_cause yX2_cause ∈ gw := gw_of (t_3 (List.mem_of_getElem? (i := 65) rfl)) rfl
theorem wCD_X2_cause : Cond.code yX2_cause cX2_cause 1 (Option.some FieldType.int) ∈ gw := gw_of (t_3 (List.mem_of_getElem? (i := 66) rfl)) rfl
theorem wML_L_116 : Cond.methodLink RL 116 yX6_play ∈ gw := gw_of (t_3 (List.mem_of_getElem? (i := 67) rfl)) rfl
theorem wIM_X6_play : Cond.instanceMethod yX6_play ∈ gw := gw_of (t_3 (List.mem_of_getElem? (i := 68) rfl)) rfl
theorem wSE_X6_play : Cond.selects RX6 yX6_play yX6_play ∈ gw := gw_of (t_3 (List.mem_of_getElem? (i := 69) rfl)) rfl
theorem wCD_X6_play : Cond.code yX6_play cX6_play 1 (Option.some FieldType.int) ∈ gw := gw_of (t_3 (List.mem_of_getElem? (i := 70) rfl)) rfl
theorem wML_X6_217 : Cond.methodLink RX6 217 yX2_outcome ∈ gw := gw_of (t_3 (List.mem_of_getElem? (i := 71) rfl)) rfl
theorem wIM_X2_outcome : Cond.instanceMethod yX2_outcome ∈ gw := gw_of (t_3 (List.mem_of_getElem? (i := 72) rfl)) rfl
theorem wSE_X2_outcome : Cond.selects RX2 yX2_outcome yX2_outcome ∈ gw := gw_of (t_3 (List.mem_of_getElem? (i := 73) rfl)) rfl
theorem wCD_X2_outcome : Cond.code yX2_outcome cX2_outcome 1 (Option.some (FieldType.object "BitLevels$Row")) ∈ gw := gw_of (t_3 (List.mem_of_getElem? (i := 74) rfl)) rfl
theorem wML_X6_221 : Cond.methodLink RX6 221 yX3_copyFrom ∈ gw := gw_of (t_3 (List.mem_of_getElem? (i := 75) rfl)) rfl
theorem wCL_L_10 : Cond.classLink RL 10 RX7 ∈ gw := gw_of (t_3 (List.mem_of_getElem? (i := 76) rfl)) rfl
theorem wIS_X7 : Cond.instantiable RX7 15 ∈ gw := gw_of (t_3 (List.mem_of_getElem? (i := 77) rfl)) rfl
theorem wML_L_12 : Cond.methodLink RL 12 yX7_init ∈ gw := gw_of (t_3 (List.mem_of_getElem? (i := 78) rfl)) rfl
theorem wIM_X7_init : Cond.instanceMethod yX7_init ∈ gw := gw_of (t_3 (List.mem_of_getElem? (i := 79) rfl)) rfl
theorem wCD_X7_init : Cond.code yX7_init cX7_init 1 none ∈ gw := gw_of (t_3 (List.mem_of_getElem? (i := 80) rfl)) rfl
theorem wML_X7_1 : Cond.methodLink RX7 1 objectInit ∈ gw := gw_of (t_3 (List.mem_of_getElem? (i := 81) rfl)) rfl
theorem wFL_X7_7 : Cond.fieldLink RX7 7 RX7 "s" "[I" ∈ gw := gw_of (t_3 (List.mem_of_getElem? (i := 82) rfl)) rfl
theorem wFL_X7_13 : Cond.fieldLink RX7 13 RX7 "was" "[I" ∈ gw := gw_of (t_3 (List.mem_of_getElem? (i := 83) rfl)) rfl
theorem wFL_X7_16 : Cond.fieldLink RX7 16 RX7 "begun" "[I" ∈ gw := gw_of (t_3 (List.mem_of_getElem? (i := 84) rfl)) rfl
theorem wFL_X7_19 : Cond.fieldLink RX7 19 RX7 "aside" "[I" ∈ gw := gw_of (t_3 (List.mem_of_getElem? (i := 85) rfl)) rfl
theorem wFL_X7_43 : Cond.fieldLink RX7 43 RX7 "states" "I" ∈ gw := gw_of (t_3 (List.mem_of_getElem? (i := 86) rfl)) rfl
theorem wFL_X7_22 : Cond.fieldLink RX7 22 RX7 "text" "[C" ∈ gw := gw_of (t_3 (List.mem_of_getElem? (i := 87) rfl)) rfl
theorem wFL_X7_114 : Cond.fieldLink RX7 114 RX7 "typed" "I" ∈ gw := gw_of (t_3 (List.mem_of_getElem? (i := 88) rfl)) rfl
theorem wFL_X7_118 : Cond.fieldLink RX7 118 RX7 "at" "I" ∈ gw := gw_of (t_3 (List.mem_of_getElem? (i := 89) rfl)) rfl
theorem wFL_X7_154 : Cond.fieldLink RX7 154 RX7 "reason" "I" ∈ gw := gw_of (t_3 (List.mem_of_getElem? (i := 90) rfl)) rfl
theorem wFL_X7_134 : Cond.fieldLink RX7 134 RX7 "cause" "I" ∈ gw := gw_of (t_3 (List.mem_of_getElem? (i := 91) rfl)) rfl
theorem wFL_X7_124 : Cond.fieldLink RX7 124 RX7 "number" "I" ∈ gw := gw_of (t_3 (List.mem_of_getElem? (i := 92) rfl)) rfl
theorem wFL_X7_26 : Cond.fieldLink RX7 26 RX7 "from" "[I" ∈ gw := gw_of (t_3 (List.mem_of_getElem? (i := 93) rfl)) rfl
theorem wFL_X7_29 : Cond.fieldLink RX7 29 RX7 "to" "[I" ∈ gw := gw_of (t_3 (List.mem_of_getElem? (i := 94) rfl)) rfl
theorem wFL_X7_32 : Cond.fieldLink RX7 32 RX7 "often" "[I" ∈ gw := gw_of (t_3 (List.mem_of_getElem? (i := 95) rfl)) rfl
theorem wFL_X7_35 : Cond.fieldLink RX7 35 RX7 "often2" "[I" ∈ gw := gw_of (t_3 (List.mem_of_getElem? (i := 96) rfl)) rfl
theorem wLY_X7_s : Cond.laysFinal RX7 RX7 "s" "[I" ∈ gw := gw_of (t_3 (List.mem_of_getElem? (i := 97) rfl)) rfl
theorem wLY_X7_was : Cond.laysFinal RX7 RX7 "was" "[I" ∈ gw := gw_of (t_3 (List.mem_of_getElem? (i := 99) rfl)) rfl
theorem wLY_X7_begun : Cond.laysFinal RX7 RX7 "begun" "[I" ∈ gw := gw_of (t_3 (List.mem_of_getElem? (i := 101) rfl)) rfl
theorem wLY_X7_aside : Cond.laysFinal RX7 RX7 "aside" "[I" ∈ gw := gw_of (t_3 (List.mem_of_getElem? (i := 103) rfl)) rfl
theorem wLY_X7_states : Cond.lays RX7 RX7 "states" "I" ∈ gw := gw_of (t_3 (List.mem_of_getElem? (i := 105) rfl)) rfl
theorem wLY_X7_text : Cond.laysFinal RX7 RX7 "text" "[C" ∈ gw := gw_of (t_3 (List.mem_of_getElem? (i := 107) rfl)) rfl
theorem wLY_X7_typed : Cond.lays RX7 RX7 "typed" "I" ∈ gw := gw_of (t_3 (List.mem_of_getElem? (i := 109) rfl)) rfl
theorem wLY_X7_at : Cond.lays RX7 RX7 "at" "I" ∈ gw := gw_of (t_3 (List.mem_of_getElem? (i := 111) rfl)) rfl
theorem wLY_X7_reason : Cond.lays RX7 RX7 "reason" "I" ∈ gw := gw_of (t_3 (List.mem_of_getElem? (i := 113) rfl)) rfl
theorem wLY_X7_cause : Cond.lays RX7 RX7 "cause" "I" ∈ gw := gw_of (t_3 (List.mem_of_getElem? (i := 115) rfl)) rfl
theorem wLY_X7_number : Cond.lays RX7 RX7 "number" "I" ∈ gw := gw_of (t_3 (List.mem_of_getElem? (i := 117) rfl)) rfl
theorem wLY_X7_from : Cond.laysFinal RX7 RX7 "from" "[I" ∈ gw := gw_of (t_3 (List.mem_of_getElem? (i := 119) rfl)) rfl
theorem wLY_X7_to : Cond.laysFinal RX7 RX7 "to" "[I" ∈ gw := gw_of (t_3 (List.mem_of_getElem? (i := 121) rfl)) rfl
theorem wLY_X7_often : Cond.laysFinal RX7 RX7 "often" "[I" ∈ gw := gw_of (t_3 (List.mem_of_getElem? (i := 123) rfl)) rfl
theorem wLY_X7_often2 : Cond.laysFinal RX7 RX7 "often2" "[I" ∈ gw := gw_of (t_3 (List.mem_of_getElem? (i := 125) rfl)) rfl
theorem wML_L_17 : Cond.methodLink RL 17 yX7_put ∈ gw := gw_of (t_3 (List.mem_of_getElem? (i := 128) rfl)) rfl
theorem wIM_X7_put : Cond.instanceMethod yX7_put ∈ gw := gw_of (t_3 (List.mem_of_getElem? (i := 129) rfl)) rfl
theorem wSE_X7_put : Cond.selects RX7 yX7_put yX7_put ∈ gw := gw_of (t_3 (List.mem_of_getElem? (i := 130) rfl)) rfl
theorem wCD_X7_put : Cond.code yX7_put cX7_put 3 (Option.some FieldType.int) ∈ gw := gw_of (t_3 (List.mem_of_getElem? (i := 131) rfl)) rfl
theorem wML_X7_48 : Cond.methodLink RX7 48 yX7_keeps ∈ gw := gw_of (t_3 (List.mem_of_getElem? (i := 132) rfl)) rfl
theorem wIM_X7_keeps : Cond.instanceMethod yX7_keeps ∈ gw := gw_of (t_3 (List.mem_of_getElem? (i := 134) rfl)) rfl
theorem wCD_X7_keeps : Cond.code yX7_keeps cX7_keeps 2 none ∈ gw := gw_of (t_3 (List.mem_of_getElem? (i := 135) rfl)) rfl
theorem wML_X7_51 : Cond.methodLink RX7 51 yX7_puts ∈ gw := gw_of (t_3 (List.mem_of_getElem? (i := 136) rfl)) rfl
theorem wIM_X7_puts : Cond.instanceMethod yX7_puts ∈ gw := gw_of (t_3 (List.mem_of_getElem? (i := 138) rfl)) rfl
theorem wCD_X7_puts : Cond.code yX7_puts cX7_puts 4 (Option.some FieldType.int) ∈ gw := gw_of (t_3 (List.mem_of_getElem? (i := 139) rfl)) rfl
theorem wML_X7_38 : Cond.methodLink RX7 38 yX7_in ∈ gw := gw_of (t_3 (List.mem_of_getElem? (i := 140) rfl)) rfl
theorem wST_X7_in : Cond.static yX7_in ∈ gw := gw_of (t_3 (List.mem_of_getElem? (i := 141) rfl)) rfl
theorem wCD_X7_in : Cond.code yX7_in cX7_in 3 (Option.some FieldType.boolean) ∈ gw := gw_of (t_3 (List.mem_of_getElem? (i := 142) rfl)) rfl
theorem wKI_X7_42 : Cond.constant RX7 42 (-1000001) ∈ gw := gw_of (t_3 (List.mem_of_getElem? (i := 143) rfl)) rfl
theorem wKI_X7_47 : Cond.constant RX7 47 (-1000003) ∈ gw := gw_of (t_3 (List.mem_of_getElem? (i := 144) rfl)) rfl
theorem wML_X7_55 : Cond.methodLink RX7 55 yX7_acted ∈ gw := gw_of (t_3 (List.mem_of_getElem? (i := 145) rfl)) rfl
theorem wIM_X7_acted : Cond.instanceMethod yX7_acted ∈ gw := gw_of (t_3 (List.mem_of_getElem? (i := 147) rfl)) rfl
theorem wCD_X7_acted : Cond.code yX7_acted cX7_acted 3 (Option.some FieldType.int) ∈ gw := gw_of (t_3 (List.mem_of_getElem? (i := 148) rfl)) rfl
theorem wML_L_22 : Cond.methodLink RL 22 yX7_take ∈ gw := gw_of (t_3 (List.mem_of_getElem? (i := 149) rfl)) rfl
theorem wIM_X7_take : Cond.instanceMethod yX7_take ∈ gw := gw_of (t_3 (List.mem_of_getElem? (i := 150) rfl)) rfl
theorem wSE_X7_take : Cond.selects RX7 yX7_take yX7_take ∈ gw := gw_of (t_3 (List.mem_of_getElem? (i := 151) rfl)) rfl
theorem wCD_X7_take : Cond.code yX7_take cX7_take 2 (Option.some FieldType.int) ∈ gw := gw_of (t_3 (List.mem_of_getElem? (i := 152) rfl)) rfl
theorem wML_X7_63 : Cond.methodLink RX7 63 yX7_takes ∈ gw := gw_of (t_3 (List.mem_of_getElem? (i := 153) rfl)) rfl
theorem wIM_X7_takes : Cond.instanceMethod yX7_takes ∈ gw := gw_of (t_3 (List.mem_of_getElem? (i := 155) rfl)) rfl
theorem wCD_X7_takes : Cond.code yX7_takes cX7_takes 4 (Option.some FieldType.int) ∈ gw := gw_of (t_3 (List.mem_of_getElem? (i := 156) rfl)) rfl
theorem wML_X7_59 : Cond.methodLink RX7 59 yX7_isPlace ∈ gw := gw_of (t_3 (List.mem_of_getElem? (i := 157) rfl)) rfl
theorem wIM_X7_isPlace : Cond.instanceMethod yX7_isPlace ∈ gw := gw_of (t_3 (List.mem_of_getElem? (i := 159) rfl)) rfl
theorem wCD_X7_isPlace : Cond.code yX7_isPlace cX7_isPlace 2 (Option.some FieldType.boolean) ∈ gw := gw_of (t_3 (List.mem_of_getElem? (i := 160) rfl)) rfl
theorem wML_L_26 : Cond.methodLink RL 26 yX7_change ∈ gw := gw_of (t_3 (List.mem_of_getElem? (i := 161) rfl)) rfl
theorem wIM_X7_change : Cond.instanceMethod yX7_change ∈ gw := gw_of (t_3 (List.mem_of_getElem? (i := 162) rfl)) rfl
theorem wSE_X7_change : Cond.selects RX7 yX7_change yX7_change ∈ gw := gw_of (t_3 (List.mem_of_getElem? (i := 163) rfl)) rfl
theorem wCD_X7_change : Cond.code yX7_change cX7_change 4 (Option.some FieldType.int) ∈ gw := gw_of (t_3 (List.mem_of_getElem? (i := 164) rfl)) rfl
theorem wML_L_30 : Cond.methodLink RL 30 yX7_swap ∈ gw := gw_of (t_3 (List.mem_of_getElem? (i := 165) rfl)) rfl
theorem wIM_X7_swap : Cond.instanceMethod yX7_swap ∈ gw := gw_of (t_3 (List.mem_of_getElem? (i := 166) rfl)) rfl
theorem wSE_X7_swap : Cond.selects RX7 yX7_swap yX7_swap ∈ gw := gw_of (t_3 (List.mem_of_getElem? (i := 167) rfl)) rfl
theorem wCD_X7_swap : Cond.code yX7_swap cX7_swap 3 (Option.some FieldType.int) ∈ gw := gw_of (t_3 (List.mem_of_getElem? (i := 168) rfl)) rfl
theorem wML_X7_66 : Cond.methodLink RX7 66 yX7_swaps ∈ gw := gw_of (t_3 (List.mem_of_getElem? (i := 169) rfl)) rfl
theorem wIM_X7_swaps : Cond.instanceMethod yX7_swaps ∈ gw := gw_of (t_3 (List.mem_of_getElem? (i := 171) rfl)) rfl
theorem wCD_X7_swaps : Cond.code yX7_swaps cX7_swaps 4 (Option.some FieldType.int) ∈ gw := gw_of (t_3 (List.mem_of_getElem? (i := 172) rfl)) rfl
theorem wML_L_34 : Cond.methodLink RL 34 yX7_turn ∈ gw := gw_of (t_3 (List.mem_of_getElem? (i := 173) rfl)) rfl
theorem wIM_X7_turn : Cond.instanceMethod yX7_turn ∈ gw := gw_of (t_3 (List.mem_of_getElem? (i := 174) rfl)) rfl
theorem wSE_X7_turn : Cond.selects RX7 yX7_turn yX7_turn ∈ gw := gw_of (t_3 (List.mem_of_getElem? (i := 175) rfl)) rfl
theorem wCD_X7_turn : Cond.code yX7_turn cX7_turn 3 (Option.some FieldType.int) ∈ gw := gw_of (t_3 (List.mem_of_getElem? (i := 176) rfl)) rfl
theorem wML_X7_73 : Cond.methodLink RX7 73 yX7_turns ∈ gw := gw_of (t_3 (List.mem_of_getElem? (i := 177) rfl)) rfl
theorem wIM_X7_turns : Cond.instanceMethod yX7_turns ∈ gw := gw_of (t_3 (List.mem_of_getElem? (i := 179) rfl)) rfl
theorem wCD_X7_turns : Cond.code yX7_turns cX7_turns 5 (Option.some FieldType.int) ∈ gw := gw_of (t_3 (List.mem_of_getElem? (i := 180) rfl)) rfl
theorem wML_X7_69 : Cond.methodLink RX7 69 yX7_isSpan ∈ gw := gw_of (t_3 (List.mem_of_getElem? (i := 181) rfl)) rfl
theorem wIM_X7_isSpan : Cond.instanceMethod yX7_isSpan ∈ gw := gw_of (t_3 (List.mem_of_getElem? (i := 183) rfl)) rfl
theorem wCD_X7_isSpan : Cond.code yX7_isSpan cX7_isSpan 3 (Option.some FieldType.boolean) ∈ gw := gw_of (t_3 (List.mem_of_getElem? (i := 184) rfl)) rfl
theorem wML_L_38 : Cond.methodLink RL 38 yX7_sort ∈ gw := gw_of (t_3 (List.mem_of_getElem? (i := 185) rfl)) rfl
theorem wIM_X7_sort : Cond.instanceMethod yX7_sort ∈ gw := gw_of (t_3 (List.mem_of_getElem? (i := 186) rfl)) rfl
theorem wSE_X7_sort : Cond.selects RX7 yX7_sort yX7_sort ∈ gw := gw_of (t_3 (List.mem_of_getElem? (i := 187) rfl)) rfl
theorem wCD_X7_sort : Cond.code yX7_sort cX7_sort 7 (Option.some FieldType.int) ∈ gw := gw_of (t_3 (List.mem_of_getElem? (i := 188) rfl)) rfl
theorem wML_X7_76 : Cond.methodLink RX7 76 yX7_counts ∈ gw := gw_of (t_3 (List.mem_of_getElem? (i := 189) rfl)) rfl
theorem wIM_X7_counts : Cond.instanceMethod yX7_counts ∈ gw := gw_of (t_3 (List.mem_of_getElem? (i := 191) rfl)) rfl
theorem wCD_X7_counts : Cond.code yX7_counts cX7_counts 4 none ∈ gw := gw_of (t_3 (List.mem_of_getElem? (i := 192) rfl)) rfl
theorem wML_L_43 : Cond.methodLink RL 43 yX7_levelOf ∈ gw := gw_of (t_3 (List.mem_of_getElem? (i := 193) rfl)) rfl
theorem wIM_X7_levelOf : Cond.instanceMethod yX7_levelOf ∈ gw := gw_of (t_3 (List.mem_of_getElem? (i := 194) rfl)) rfl
theorem wSE_X7_levelOf : Cond.selects RX7 yX7_levelOf yX7_levelOf ∈ gw := gw_of (t_3 (List.mem_of_getElem? (i := 195) rfl)) rfl
theorem wCD_X7_levelOf : Cond.code yX7_levelOf cX7_levelOf 5 (Option.some FieldType.int) ∈ gw := gw_of (t_3 (List.mem_of_getElem? (i := 196) rfl)) rfl
theorem wKI_X7_83 : Cond.constant RX7 83 (-1000004) ∈ gw := gw_of (t_3 (List.mem_of_getElem? (i := 197) rfl)) rfl
theorem wML_X7_84 : Cond.methodLink RX7 84 yX7_lays ∈ gw := gw_of (t_3 (List.mem_of_getElem? (i := 198) rfl)) rfl
theorem wIM_X7_lays : Cond.instanceMethod yX7_lays ∈ gw := gw_of (t_3 (List.mem_of_getElem? (i := 200) rfl)) rfl
theorem wCD_X7_lays : Cond.code yX7_lays cX7_lays 5 none ∈ gw := gw_of (t_3 (List.mem_of_getElem? (i := 201) rfl)) rfl
theorem wML_X7_80 : Cond.methodLink RX7 80 yX7_bit ∈ gw := gw_of (t_3 (List.mem_of_getElem? (i := 202) rfl)) rfl
theorem wIM_X7_bit : Cond.instanceMethod yX7_bit ∈ gw := gw_of (t_3 (List.mem_of_getElem? (i := 204) rfl)) rfl
theorem wCD_X7_bit : Cond.code yX7_bit cX7_bit 3 (Option.some FieldType.int) ∈ gw := gw_of (t_3 (List.mem_of_getElem? (i := 205) rfl)) rfl
theorem wML_L_47 : Cond.methodLink RL 47 yX7_blockOf ∈ gw := gw_of (t_3 (List.mem_of_getElem? (i := 206) rfl)) rfl
theorem wIM_X7_blockOf : Cond.instanceMethod yX7_blockOf ∈ gw := gw_of (t_3 (List.mem_of_getElem? (i := 207) rfl)) rfl
theorem wSE_X7_blockOf : Cond.selects RX7 yX7_blockOf yX7_blockOf ∈ gw := gw_of (t_3 (List.mem_of_getElem? (i := 208) rfl)) rfl
theorem wCD_X7_blockOf : Cond.code yX7_blockOf cX7_blockOf 9 (Option.some FieldType.int) ∈ gw := gw_of (t_3 (List.mem_of_getElem? (i := 209) rfl)) rfl
theorem wML_X7_87 : Cond.methodLink RX7 87 yX7_blocks ∈ gw := gw_of (t_3 (List.mem_of_getElem? (i := 210) rfl)) rfl
theorem wIM_X7_blocks : Cond.instanceMethod yX7_blocks ∈ gw := gw_of (t_3 (List.mem_of_getElem? (i := 212) rfl)) rfl
theorem wCD_X7_blocks : Cond.code yX7_blocks cX7_blocks 1 (Option.some FieldType.int) ∈ gw := gw_of (t_3 (List.mem_of_getElem? (i := 213) rfl)) rfl
theorem wML_L_52 : Cond.methodLink RL 52 yX7_bits ∈ gw := gw_of (t_3 (List.mem_of_getElem? (i := 214) rfl)) rfl
theorem wIM_X7_bits : Cond.instanceMethod yX7_bits ∈ gw := gw_of (t_3 (List.mem_of_getElem? (i := 215) rfl)) rfl
theorem wSE_X7_bits : Cond.selects RX7 yX7_bits yX7_bits ∈ gw := gw_of (t_3 (List.mem_of_getElem? (i := 216) rfl)) rfl
theorem wCD_X7_bits : Cond.code yX7_bits cX7_bits 5 (Option.some FieldType.long) ∈ gw := gw_of (t_3 (List.mem_of_getElem? (i := 217) rfl)) rfl
theorem wKL_X7_91 : Cond.constantLong RX7 91 (-1000001) ∈ gw := gw_of (t_3 (List.mem_of_getElem? (i := 218) rfl)) rfl
theorem wKL_X7_93 : Cond.constantLong RX7 93 (2) ∈ gw := gw_of (t_3 (List.mem_of_getElem? (i := 219) rfl)) rfl
theorem wML_L_56 : Cond.methodLink RL 56 yX7_symbolAt ∈ gw := gw_of (t_3 (List.mem_of_getElem? (i := 220) rfl)) rfl
theorem wIM_X7_symbolAt : Cond.instanceMethod yX7_symbolAt ∈ gw := gw_of (t_3 (List.mem_of_getElem? (i := 221) rfl)) rfl
theorem wSE_X7_symbolAt : Cond.selects RX7 yX7_symbolAt yX7_symbolAt ∈ gw := gw_of (t_3 (List.mem_of_getElem? (i := 222) rfl)) rfl
theorem wCD_X7_symbolAt : Cond.code yX7_symbolAt cX7_symbolAt 2 (Option.some FieldType.int) ∈ gw := gw_of (t_3 (List.mem_of_getElem? (i := 223) rfl)) rfl
theorem wML_L_60 : Cond.methodLink RL 60 yX7_rank ∈ gw := gw_of (t_3 (List.mem_of_getElem? (i := 224) rfl)) rfl
theorem wIM_X7_rank : Cond.instanceMethod yX7_rank ∈ gw := gw_of (t_3 (List.mem_of_getElem? (i := 225) rfl)) rfl
theorem wSE_X7_rank : Cond.selects RX7 yX7_rank yX7_rank ∈ gw := gw_of (t_3 (List.mem_of_getElem? (i := 226) rfl)) rfl
theorem wCD_X7_rank : Cond.code yX7_rank cX7_rank 3 (Option.some FieldType.int) ∈ gw := gw_of (t_3 (List.mem_of_getElem? (i := 227) rfl)) rfl
theorem wML_L_64 : Cond.methodLink RL 64 yX7_select ∈ gw := gw_of (t_3 (List.mem_of_getElem? (i := 228) rfl)) rfl
theorem wIM_X7_select : Cond.instanceMethod yX7_select ∈ gw := gw_of (t_3 (List.mem_of_getElem? (i := 229) rfl)) rfl
theorem wSE_X7_select : Cond.selects RX7 yX7_select yX7_select ∈ gw := gw_of (t_3 (List.mem_of_getElem? (i := 230) rfl)) rfl
theorem wCD_X7_select : Cond.code yX7_select cX7_select 6 (Option.some FieldType.int) ∈ gw := gw_of (t_3 (List.mem_of_getElem? (i := 231) rfl)) rfl
theorem wML_L_68 : Cond.methodLink RL 68 yX7_smallest ∈ gw := gw_of (t_3 (List.mem_of_getElem? (i := 232) rfl)) rfl
theorem wIM_X7_smallest : Cond.instanceMethod yX7_smallest ∈ gw := gw_of (t_3 (List.mem_of_getElem? (i := 233) rfl)) rfl
theorem wSE_X7_smallest : Cond.selects RX7 yX7_smallest yX7_smallest ∈ gw := gw_of (t_3 (List.mem_of_getElem? (i := 234) rfl)) rfl
theorem wCD_X7_smallest : Cond.code yX7_smallest cX7_smallest 6 (Option.some FieldType.int) ∈ gw := gw_of (t_3 (List.mem_of_getElem? (i := 235) rfl)) rfl
theorem wML_L_72 : Cond.methodLink RL 72 yX7_below ∈ gw := gw_of (t_3 (List.mem_of_getElem? (i := 236) rfl)) rfl
theorem wIM_X7_below : Cond.instanceMethod yX7_below ∈ gw := gw_of (t_3 (List.mem_of_getElem? (i := 237) rfl)) rfl
theorem wSE_X7_below : Cond.selects RX7 yX7_below yX7_below ∈ gw := gw_of (t_3 (List.mem_of_getElem? (i := 238) rfl)) rfl
theorem wCD_X7_below : Cond.code yX7_below cX7_below 6 (Option.some FieldType.int) ∈ gw := gw_of (t_3 (List.mem_of_getElem? (i := 239) rfl)) rfl
theorem wML_L_76 : Cond.methodLink RL 76 yX7_notBelow ∈ gw := gw_of (t_4 (List.mem_of_getElem? (i := 0) rfl)) rfl
theorem wIM_X7_notBelow : Cond.instanceMethod yX7_notBelow ∈ gw := gw_of (t_4 (List.mem_of_getElem? (i := 1) rfl)) rfl
theorem wSE_X7_notBelow : Cond.selects RX7 yX7_notBelow yX7_notBelow ∈ gw := gw_of (t_4 (List.mem_of_getElem? (i := 2) rfl)) rfl
theorem wCD_X7_notBelow : Cond.code yX7_notBelow cX7_notBelow 7 (Option.some FieldType.int) ∈ gw := gw_of (t_4 (List.mem_of_getElem? (i := 3) rfl)) rfl
theorem wML_L_80 : Cond.methodLink RL 80 yX7_spanOf ∈ gw := gw_of (t_4 (List.mem_of_getElem? (i := 4) rfl)) rfl
theorem wIM_X7_spanOf : Cond.instanceMethod yX7_spanOf ∈ gw := gw_of (t_4 (List.mem_of_getElem? (i := 5) rfl)) rfl
theorem wSE_X7_spanOf : Cond.selects RX7 yX7_spanOf yX7_spanOf ∈ gw := gw_of (t_4 (List.mem_of_getElem? (i := 6) rfl)) rfl
theorem wCD_X7_spanOf : Cond.code yX7_spanOf cX7_spanOf 4 (Option.some FieldType.int) ∈ gw := gw_of (t_4 (List.mem_of_getElem? (i := 7) rfl)) rfl
theorem wML_X7_95 : Cond.methodLink RX7 95 yX7_unlike ∈ gw := gw_of (t_4 (List.mem_of_getElem? (i := 8) rfl)) rfl
theorem wIM_X7_unlike : Cond.instanceMethod yX7_unlike ∈ gw := gw_of (t_4 (List.mem_of_getElem? (i := 10) rfl)) rfl
theorem wCD_X7_unlike : Cond.code yX7_unlike cX7_unlike 3 (Option.some FieldType.int) ∈ gw := gw_of (t_4 (List.mem_of_getElem? (i := 11) rfl)) rfl
theorem wML_X7_98 : Cond.methodLink RX7 98 yX7_mostFrequent ∈ gw := gw_of (t_4 (List.mem_of_getElem? (i := 12) rfl)) rfl
theorem wIM_X7_mostFrequent : Cond.instanceMethod yX7_mostFrequent ∈ gw := gw_of (t_4 (List.mem_of_getElem? (i := 14) rfl)) rfl
theorem wCD_X7_mostFrequent : Cond.code yX7_mostFrequent cX7_mostFrequent 3 (Option.some FieldType.int) ∈ gw := gw_of (t_4 (List.mem_of_getElem? (i := 15) rfl)) rfl
theorem wML_X7_101 : Cond.methodLink RX7 101 yX7_sum ∈ gw := gw_of (t_4 (List.mem_of_getElem? (i := 16) rfl)) rfl
theorem wIM_X7_sum : Cond.instanceMethod yX7_sum ∈ gw := gw_of (t_4 (List.mem_of_getElem? (i := 18) rfl)) rfl
theorem wCD_X7_sum : Cond.code yX7_sum cX7_sum 5 (Option.some FieldType.int) ∈ gw := gw_of (t_4 (List.mem_of_getElem? (i := 19) rfl)) rfl
theorem wML_X7_104 : Cond.methodLink RX7 104 yX7_wrong ∈ gw := gw_of (t_4 (List.mem_of_getElem? (i := 20) rfl)) rfl
theorem wIM_X7_wrong : Cond.instanceMethod yX7_wrong ∈ gw := gw_of (t_4 (List.mem_of_getElem? (i := 22) rfl)) rfl
theorem wCD_X7_wrong : Cond.code yX7_wrong cX7_wrong 6 (Option.some FieldType.int) ∈ gw := gw_of (t_4 (List.mem_of_getElem? (i := 23) rfl)) rfl
theorem wML_L_85 : Cond.methodLink RL 85 yX7_product ∈ gw := gw_of (t_4 (List.mem_of_getElem? (i := 24) rfl)) rfl
theorem wIM_X7_product : Cond.instanceMethod yX7_product ∈ gw := gw_of (t_4 (List.mem_of_getElem? (i := 25) rfl)) rfl
theorem wSE_X7_product : Cond.selects RX7 yX7_product yX7_product ∈ gw := gw_of (t_4 (List.mem_of_getElem? (i := 26) rfl)) rfl
theorem wCD_X7_product : Cond.code yX7_product cX7_product 7 (Option.some FieldType.long) ∈ gw := gw_of (t_4 (List.mem_of_getElem? (i := 27) rfl)) rfl
theorem wKL_X7_107 : Cond.constantLong RX7 107 (9223372036854775807) ∈ gw := gw_of (t_4 (List.mem_of_getElem? (i := 28) rfl)) rfl
theorem wKL_X7_109 : Cond.constantLong RX7 109 (-1000003) ∈ gw := gw_of (t_4 (List.mem_of_getElem? (i := 29) rfl)) rfl
theorem wML_L_90 : Cond.methodLink RL 90 yX7_common ∈ gw := gw_of (t_4 (List.mem_of_getElem? (i := 30) rfl)) rfl
theorem wIM_X7_common : Cond.instanceMethod yX7_common ∈ gw := gw_of (t_4 (List.mem_of_getElem? (i := 31) rfl)) rfl
theorem wSE_X7_common : Cond.selects RX7 yX7_common yX7_common ∈ gw := gw_of (t_4 (List.mem_of_getElem? (i := 32) rfl)) rfl
theorem wCD_X7_common : Cond.code yX7_common cX7_common 12 (Option.some FieldType.int) ∈ gw := gw_of (t_4 (List.mem_of_getElem? (i := 33) rfl)) rfl
theorem wML_L_94 : Cond.methodLink RL 94 yX7_heaviest ∈ gw := gw_of (t_4 (List.mem_of_getElem? (i := 34) rfl)) rfl
theorem wIM_X7_heaviest : Cond.instanceMethod yX7_heaviest ∈ gw := gw_of (t_4 (List.mem_of_getElem? (i := 35) rfl)) rfl
theorem wSE_X7_heaviest : Cond.selects RX7 yX7_heaviest yX7_heaviest ∈ gw := gw_of (t_4 (List.mem_of_getElem? (i := 36) rfl)) rfl
theorem wCD_X7_heaviest : Cond.code yX7_heaviest cX7_heaviest 7 (Option.some FieldType.int) ∈ gw := gw_of (t_4 (List.mem_of_getElem? (i := 37) rfl)) rfl
theorem wML_L_98 : Cond.methodLink RL 98 yX7_count ∈ gw := gw_of (t_4 (List.mem_of_getElem? (i := 38) rfl)) rfl
theorem wIM_X7_count : Cond.instanceMethod yX7_count ∈ gw := gw_of (t_4 (List.mem_of_getElem? (i := 39) rfl)) rfl
theorem wSE_X7_count : Cond.selects RX7 yX7_count yX7_count ∈ gw := gw_of (t_4 (List.mem_of_getElem? (i := 40) rfl)) rfl
theorem wCD_X7_count : Cond.code yX7_count cX7_count 2 (Option.some FieldType.int) ∈ gw := gw_of (t_4 (List.mem_of_getElem? (i := 41) rfl)) rfl
theorem wML_X7_111 : Cond.methodLink RX7 111 yX7_ones ∈ gw := gw_of (t_4 (List.mem_of_getElem? (i := 42) rfl)) rfl
theorem wIM_X7_ones : Cond.instanceMethod yX7_ones ∈ gw := gw_of (t_4 (List.mem_of_getElem? (i := 44) rfl)) rfl
theorem wCD_X7_ones : Cond.code yX7_ones cX7_ones 4 (Option.some FieldType.int) ∈ gw := gw_of (t_4 (List.mem_of_getElem? (i := 45) rfl)) rfl
theorem wML_L_103 : Cond.methodLink RL 103 yX7_undo ∈ gw := gw_of (t_4 (List.mem_of_getElem? (i := 46) rfl)) rfl
theorem wIM_X7_undo : Cond.instanceMethod yX7_undo ∈ gw := gw_of (t_4 (List.mem_of_getElem? (i := 47) rfl)) rfl
theorem wSE_X7_undo : Cond.selects RX7 yX7_undo yX7_undo ∈ gw := gw_of (t_4 (List.mem_of_getElem? (i := 48) rfl)) rfl
theorem wCD_X7_undo : Cond.code yX7_undo cX7_undo 2 (Option.some FieldType.int) ∈ gw := gw_of (t_4 (List.mem_of_getElem? (i := 49) rfl)) rfl
theorem wKI_X7_117 : Cond.constant RX7 117 (-1000002) ∈ gw := gw_of (t_4 (List.mem_of_getElem? (i := 50) rfl)) rfl
theorem wML_L_107 : Cond.methodLink RL 107 yX7_type ∈ gw := gw_of (t_4 (List.mem_of_getElem? (i := 51) rfl)) rfl
theorem wIM_X7_type : Cond.instanceMethod yX7_type ∈ gw := gw_of (t_4 (List.mem_of_getElem? (i := 52) rfl)) rfl
theorem wSE_X7_type : Cond.selects RX7 yX7_type yX7_type ∈ gw := gw_of (t_4 (List.mem_of_getElem? (i := 53) rfl)) rfl
theorem wCD_X7_type : Cond.code yX7_type cX7_type 2 (Option.some FieldType.int) ∈ gw := gw_of (t_4 (List.mem_of_getElem? (i := 54) rfl)) rfl
theorem wML_L_111 : Cond.methodLink RL 111 yX7_clearText ∈ gw := gw_of (t_4 (List.mem_of_getElem? (i := 55) rfl)) rfl
theorem wIM_X7_clearText : Cond.instanceMethod yX7_clearText ∈ gw := gw_of (t_4 (List.mem_of_getElem? (i := 56) rfl)) rfl
theorem wSE_X7_clearText : Cond.selects RX7 yX7_clearText yX7_clearText ∈ gw := gw_of (t_4 (List.mem_of_getElem? (i := 57) rfl)) rfl
theorem wCD_X7_clearText : Cond.code yX7_clearText cX7_clearText 2 (Option.some FieldType.int) ∈ gw := gw_of (t_4 (List.mem_of_getElem? (i := 58) rfl)) rfl
theorem wML_L_115 : Cond.methodLink RL 115 yX7_fault ∈ gw := gw_of (t_4 (List.mem_of_getElem? (i := 59) rfl)) rfl
theorem wIM_X7_fault : Cond.instanceMethod yX7_fault ∈ gw := gw_of (t_4 (List.mem_of_getElem? (i := 60) rfl)) rfl
theorem wSE_X7_fault : Cond.selects RX7 yX7_fault yX7_fault ∈ gw := gw_of (t_4 (List.mem_of_getElem? (i := 61) rfl)) rfl
theorem wCD_X7_fault : Cond.code yX7_fault cX7_fault 3 (Option.some FieldType.int) ∈ gw := gw_of (t_4 (List.mem_of_getElem? (i := 62) rfl)) rfl
theorem wML_X7_157 : Cond.methodLink RX7 157 yX7_faulty ∈ gw := gw_of (t_4 (List.mem_of_getElem? (i := 63) rfl)) rfl
theorem wIM_X7_faulty : Cond.instanceMethod yX7_faulty ∈ gw := gw_of (t_4 (List.mem_of_getElem? (i := 65) rfl)) rfl
theorem wCD_X7_faulty : Cond.code yX7_faulty cX7_faulty 3 (Option.some FieldType.int) ∈ gw := gw_of (t_4 (List.mem_of_getElem? (i := 66) rfl)) rfl
theorem wML_X7_151 : Cond.methodLink RX7 151 yX7_doesNext ∈ gw := gw_of (t_4 (List.mem_of_getElem? (i := 67) rfl)) rfl
theorem wIM_X7_doesNext : Cond.instanceMethod yX7_doesNext ∈ gw := gw_of (t_4 (List.mem_of_getElem? (i := 69) rfl)) rfl
theorem wCD_X7_doesNext : Cond.code yX7_doesNext cX7_doesNext 7 (Option.some FieldType.int) ∈ gw := gw_of (t_4 (List.mem_of_getElem? (i := 70) rfl)) rfl
theorem wML_X7_121 : Cond.methodLink RX7 121 yX7_sign ∈ gw := gw_of (t_4 (List.mem_of_getElem? (i := 71) rfl)) rfl
theorem wIM_X7_sign : Cond.instanceMethod yX7_sign ∈ gw := gw_of (t_4 (List.mem_of_getElem? (i := 73) rfl)) rfl
theorem wCD_X7_sign : Cond.code yX7_sign cX7_sign 1 (Option.some FieldType.int) ∈ gw := gw_of (t_4 (List.mem_of_getElem? (i := 74) rfl)) rfl
theorem wML_X7_137 : Cond.methodLink RX7 137 yX7_readsNumber ∈ gw := gw_of (t_4 (List.mem_of_getElem? (i := 75) rfl)) rfl
theorem wIM_X7_readsNumber : Cond.instanceMethod yX7_readsNumber ∈ gw := gw_of (t_4 (List.mem_of_getElem? (i := 77) rfl)) rfl
theorem wCD_X7_readsNumber : Cond.code yX7_readsNumber cX7_readsNumber 2 (Option.some FieldType.boolean) ∈ gw := gw_of (t_4 (List.mem_of_getElem? (i := 78) rfl)) rfl
theorem wML_X7_130 : Cond.methodLink RX7 130 yX7_reads ∈ gw := gw_of (t_4 (List.mem_of_getElem? (i := 79) rfl)) rfl
theorem wIM_X7_reads : Cond.instanceMethod yX7_reads ∈ gw := gw_of (t_4 (List.mem_of_getElem? (i := 81) rfl)) rfl
theorem wCD_X7_reads : Cond.code yX7_reads cX7_reads 3 (Option.some FieldType.boolean) ∈ gw := gw_of (t_4 (List.mem_of_getElem? (i := 82) rfl)) rfl
theorem wML_X7_141 : Cond.methodLink RX7 141 yX7_readsSymbols ∈ gw := gw_of (t_4 (List.mem_of_getElem? (i := 83) rfl)) rfl
theorem wIM_X7_readsSymbols : Cond.instanceMethod yX7_readsSymbols ∈ gw := gw_of (t_4 (List.mem_of_getElem? (i := 85) rfl)) rfl
theorem wCD_X7_readsSymbols : Cond.code yX7_readsSymbols cX7_readsSymbols 2 (Option.some FieldType.boolean) ∈ gw := gw_of (t_4 (List.mem_of_getElem? (i := 86) rfl)) rfl
theorem wML_X7_127 : Cond.methodLink RX7 127 yX7_symbol ∈ gw := gw_of (t_4 (List.mem_of_getElem? (i := 87) rfl)) rfl
theorem wIM_X7_symbol : Cond.instanceMethod yX7_symbol ∈ gw := gw_of (t_4 (List.mem_of_getElem? (i := 89) rfl)) rfl
theorem wCD_X7_symbol : Cond.code yX7_symbol cX7_symbol 2 (Option.some FieldType.int) ∈ gw := gw_of (t_4 (List.mem_of_getElem? (i := 90) rfl)) rfl
theorem wML_X7_144 : Cond.methodLink RX7 144 yX7_putsAll ∈ gw := gw_of (t_4 (List.mem_of_getElem? (i := 91) rfl)) rfl
theorem wIM_X7_putsAll : Cond.instanceMethod yX7_putsAll ∈ gw := gw_of (t_4 (List.mem_of_getElem? (i := 93) rfl)) rfl
theorem wCD_X7_putsAll : Cond.code yX7_putsAll cX7_putsAll 6 (Option.some FieldType.int) ∈ gw := gw_of (t_4 (List.mem_of_getElem? (i := 94) rfl)) rfl
theorem wML_X7_148 : Cond.methodLink RX7 148 yX7_takesAll ∈ gw := gw_of (t_4 (List.mem_of_getElem? (i := 95) rfl)) rfl
theorem wIM_X7_takesAll : Cond.instanceMethod yX7_takesAll ∈ gw := gw_of (t_4 (List.mem_of_getElem? (i := 97) rfl)) rfl
theorem wCD_X7_takesAll : Cond.code yX7_takesAll cX7_takesAll 4 (Option.some FieldType.int) ∈ gw := gw_of (t_4 (List.mem_of_getElem? (i := 98) rfl)) rfl
theorem wML_L_119 : Cond.methodLink RL 119 yX7_play ∈ gw := gw_of (t_4 (List.mem_of_getElem? (i := 99) rfl)) rfl
theorem wIM_X7_play : Cond.instanceMethod yX7_play ∈ gw := gw_of (t_4 (List.mem_of_getElem? (i := 100) rfl)) rfl
theorem wSE_X7_play : Cond.selects RX7 yX7_play yX7_play ∈ gw := gw_of (t_4 (List.mem_of_getElem? (i := 101) rfl)) rfl
theorem wCD_X7_play : Cond.code yX7_play cX7_play 1 (Option.some FieldType.int) ∈ gw := gw_of (t_4 (List.mem_of_getElem? (i := 102) rfl)) rfl
theorem wSE_X0_dropOldest : Cond.selects RX0 yX0_dropOldest yX0_dropOldest ∈ gw := gw_sel (List.mem_of_getElem? (i := 0) rfl) rfl
theorem wSE_X1_moveBits : Cond.selects RX1 yX1_moveBits yX1_moveBits ∈ gw := gw_sel (List.mem_of_getElem? (i := 1) rfl) rfl
theorem wSE_X1_isOn : Cond.selects RX1 yX1_isOn yX1_isOn ∈ gw := gw_sel (List.mem_of_getElem? (i := 2) rfl) rfl
theorem wSE_X6_blocks : Cond.selects RX6 yX6_blocks yX6_blocks ∈ gw := gw_sel (List.mem_of_getElem? (i := 3) rfl) rfl
theorem wSE_X2_playEdit : Cond.selects RX2 yX2_playEdit yX2_playEdit ∈ gw := gw_sel (List.mem_of_getElem? (i := 4) rfl) rfl
theorem wSE_X2_readEdit : Cond.selects RX2 yX2_readEdit yX2_readEdit ∈ gw := gw_sel (List.mem_of_getElem? (i := 5) rfl) rfl
theorem wSE_X2_readNumber : Cond.selects RX2 yX2_readNumber yX2_readNumber ∈ gw := gw_sel (List.mem_of_getElem? (i := 6) rfl) rfl
theorem wSE_X2_readSign : Cond.selects RX2 yX2_readSign yX2_readSign ∈ gw := gw_sel (List.mem_of_getElem? (i := 7) rfl) rfl
theorem wSE_X2_readSymbols : Cond.selects RX2 yX2_readSymbols yX2_readSymbols ∈ gw := gw_sel (List.mem_of_getElem? (i := 8) rfl) rfl
theorem wSE_X2_reasonAgainst : Cond.selects RX2 yX2_reasonAgainst yX2_reasonAgainst ∈ gw := gw_sel (List.mem_of_getElem? (i := 9) rfl) rfl
theorem wSE_X2_hasPlaces : Cond.selects RX2 yX2_hasPlaces yX2_hasPlaces ∈ gw := gw_sel (List.mem_of_getElem? (i := 10) rfl) rfl
theorem wSE_X2_perform : Cond.selects RX2 yX2_perform yX2_perform ∈ gw := gw_sel (List.mem_of_getElem? (i := 11) rfl) rfl
theorem wSE_X2_putSymbolsIn : Cond.selects RX2 yX2_putSymbolsIn yX2_putSymbolsIn ∈ gw := gw_sel (List.mem_of_getElem? (i := 12) rfl) rfl
theorem wSE_X2_takeSpanOut : Cond.selects RX2 yX2_takeSpanOut yX2_takeSpanOut ∈ gw := gw_sel (List.mem_of_getElem? (i := 13) rfl) rfl
theorem wSE_X7_keeps : Cond.selects RX7 yX7_keeps yX7_keeps ∈ gw := gw_sel (List.mem_of_getElem? (i := 14) rfl) rfl
theorem wSE_X7_puts : Cond.selects RX7 yX7_puts yX7_puts ∈ gw := gw_sel (List.mem_of_getElem? (i := 15) rfl) rfl
theorem wSE_X7_acted : Cond.selects RX7 yX7_acted yX7_acted ∈ gw := gw_sel (List.mem_of_getElem? (i := 16) rfl) rfl
theorem wSE_X7_takes : Cond.selects RX7 yX7_takes yX7_takes ∈ gw := gw_sel (List.mem_of_getElem? (i := 17) rfl) rfl
theorem wSE_X7_isPlace : Cond.selects RX7 yX7_isPlace yX7_isPlace ∈ gw := gw_sel (List.mem_of_getElem? (i := 18) rfl) rfl
theorem wSE_X7_swaps : Cond.selects RX7 yX7_swaps yX7_swaps ∈ gw := gw_sel (List.mem_of_getElem? (i := 19) rfl) rfl
theorem wSE_X7_turns : Cond.selects RX7 yX7_turns yX7_turns ∈ gw := gw_sel (List.mem_of_getElem? (i := 20) rfl) rfl
theorem wSE_X7_isSpan : Cond.selects RX7 yX7_isSpan yX7_isSpan ∈ gw := gw_sel (List.mem_of_getElem? (i := 21) rfl) rfl
theorem wSE_X7_counts : Cond.selects RX7 yX7_counts yX7_counts ∈ gw := gw_sel (List.mem_of_getElem? (i := 22) rfl) rfl
theorem wSE_X7_lays : Cond.selects RX7 yX7_lays yX7_lays ∈ gw := gw_sel (List.mem_of_getElem? (i := 23) rfl) rfl
theorem wSE_X7_bit : Cond.selects RX7 yX7_bit yX7_bit ∈ gw := gw_sel (List.mem_of_getElem? (i := 24) rfl) rfl
theorem wSE_X7_blocks : Cond.selects RX7 yX7_blocks yX7_blocks ∈ gw := gw_sel (List.mem_of_getElem? (i := 25) rfl) rfl
theorem wSE_X7_unlike : Cond.selects RX7 yX7_unlike yX7_unlike ∈ gw := gw_sel (List.mem_of_getElem? (i := 26) rfl) rfl
theorem wSE_X7_mostFrequent : Cond.selects RX7 yX7_mostFrequent yX7_mostFrequent ∈ gw := gw_sel (List.mem_of_getElem? (i := 27) rfl) rfl
theorem wSE_X7_sum : Cond.selects RX7 yX7_sum yX7_sum ∈ gw := gw_sel (List.mem_of_getElem? (i := 28) rfl) rfl
theorem wSE_X7_wrong : Cond.selects RX7 yX7_wrong yX7_wrong ∈ gw := gw_sel (List.mem_of_getElem? (i := 29) rfl) rfl
theorem wSE_X7_ones : Cond.selects RX7 yX7_ones yX7_ones ∈ gw := gw_sel (List.mem_of_getElem? (i := 30) rfl) rfl
theorem wSE_X7_faulty : Cond.selects RX7 yX7_faulty yX7_faulty ∈ gw := gw_sel (List.mem_of_getElem? (i := 31) rfl) rfl
theorem wSE_X7_doesNext : Cond.selects RX7 yX7_doesNext yX7_doesNext ∈ gw := gw_sel (List.mem_of_getElem? (i := 32) rfl) rfl
theorem wSE_X7_sign : Cond.selects RX7 yX7_sign yX7_sign ∈ gw := gw_sel (List.mem_of_getElem? (i := 33) rfl) rfl
theorem wSE_X7_readsNumber : Cond.selects RX7 yX7_readsNumber yX7_readsNumber ∈ gw := gw_sel (List.mem_of_getElem? (i := 34) rfl) rfl
theorem wSE_X7_reads : Cond.selects RX7 yX7_reads yX7_reads ∈ gw := gw_sel (List.mem_of_getElem? (i := 35) rfl) rfl
theorem wSE_X7_readsSymbols : Cond.selects RX7 yX7_readsSymbols yX7_readsSymbols ∈ gw := gw_sel (List.mem_of_getElem? (i := 36) rfl) rfl
theorem wSE_X7_symbol : Cond.selects RX7 yX7_symbol yX7_symbol ∈ gw := gw_sel (List.mem_of_getElem? (i := 37) rfl) rfl
theorem wSE_X7_putsAll : Cond.selects RX7 yX7_putsAll yX7_putsAll ∈ gw := gw_sel (List.mem_of_getElem? (i := 38) rfl) rfl
theorem wSE_X7_takesAll : Cond.selects RX7 yX7_takesAll yX7_takesAll ∈ gw := gw_sel (List.mem_of_getElem? (i := 39) rfl) rfl
theorem inX0 : ∀ w ∈ u_ws RX0 TX0 2, w ∈ gw := by
  intro w hw
  obtain ⟨k, hk, rfl⟩ := List.mem_map.mp hw
  have hk := List.mem_range.mp hk
  match k, hk with
  | 0, _ => exact wLY_X0_states
  | 1, _ => exact wLY_X0_size
theorem inX1 : ∀ w ∈ u_ws RX1 TX1 4, w ∈ gw := by
  intro w hw
  obtain ⟨k, hk, rfl⟩ := List.mem_map.mp hw
  have hk := List.mem_range.mp hk
  match k, hk with
  | 0, _ => exact wLY_X1_symbols
  | 1, _ => exact wLY_X1_origins
  | 2, _ => exact wLY_X1_goals
  | 3, _ => exact wLY_X1_size
theorem inX2 : ∀ w ∈ u_ws RX2 TX2 10, w ∈ gw := by
  intro w hw
  obtain ⟨k, hk, rfl⟩ := List.mem_map.mp hw
  have hk := List.mem_range.mp hk
  match k, hk with
  | 0, _ => exact wLY_X2_text
  | 1, _ => exact wLY_X2_outcome
  | 2, _ => exact wLY_X2_next
  | 3, _ => exact wLY_X2_kind
  | 4, _ => exact wLY_X2_first
  | 5, _ => exact wLY_X2_second
  | 6, _ => exact wLY_X2_symbolsFrom
  | 7, _ => exact wLY_X2_position
  | 8, _ => exact wLY_X2_reason
  | 9, _ => exact wLY_X2_cause
theorem inX3 : ∀ w ∈ u_ws RX3 TX3 2, w ∈ gw := by
  intro w hw
  obtain ⟨k, hk, rfl⟩ := List.mem_map.mp hw
  have hk := List.mem_range.mp hk
  match k, hk with
  | 0, _ => exact wLY_X3_symbols
  | 1, _ => exact wLY_X3_size
theorem inX4 : ∀ w ∈ u_ws RX4 TX4 1, w ∈ gw := by
  intro w hw
  obtain ⟨k, hk, rfl⟩ := List.mem_map.mp hw
  have hk := List.mem_range.mp hk
  match k, hk with
  | 0, _ => exact wLY_X4_times
theorem inX5 : ∀ w ∈ u_ws RX5 TX5 2, w ∈ gw := by
  intro w hw
  obtain ⟨k, hk, rfl⟩ := List.mem_map.mp hw
  have hk := List.mem_range.mp hk
  match k, hk with
  | 0, _ => exact wLY_X5_characters
  | 1, _ => exact wLY_X5_length
theorem inX6 : ∀ w ∈ u_ws RX6 TX6 7, w ∈ gw := by
  intro w hw
  obtain ⟨k, hk, rfl⟩ := List.mem_map.mp hw
  have hk := List.mem_range.mp hk
  match k, hk with
  | 0, _ => exact wLY_X6_row
  | 1, _ => exact wLY_X6_history
  | 2, _ => exact wLY_X6_levels
  | 3, _ => exact wLY_X6_tally
  | 4, _ => exact wLY_X6_otherTally
  | 5, _ => exact wLY_X6_text
  | 6, _ => exact wLY_X6_player
theorem inX7 : ∀ w ∈ u_ws RX7 TX7 15, w ∈ gw := by
  intro w hw
  obtain ⟨k, hk, rfl⟩ := List.mem_map.mp hw
  have hk := List.mem_range.mp hk
  match k, hk with
  | 0, _ => exact wLY_X7_s
  | 1, _ => exact wLY_X7_was
  | 2, _ => exact wLY_X7_begun
  | 3, _ => exact wLY_X7_aside
  | 4, _ => exact wLY_X7_states
  | 5, _ => exact wLY_X7_text
  | 6, _ => exact wLY_X7_typed
  | 7, _ => exact wLY_X7_at
  | 8, _ => exact wLY_X7_reason
  | 9, _ => exact wLY_X7_cause
  | 10, _ => exact wLY_X7_number
  | 11, _ => exact wLY_X7_from
  | 12, _ => exact wLY_X7_to
  | 13, _ => exact wLY_X7_often
  | 14, _ => exact wLY_X7_often2
end
section
abbrev Mm : Type := Nat → Nat → Int32
def up (M : Mm) (k i : Nat) (x : Int32) : Mm := fun k' => if k' = k then upd (M k) i x else M k'
def Ok {α : Type} (o : Option α) (P : α → Prop) : Prop := match o with
  | some a => P a
  | none => False
theorem Ok.of {α : Type} {o : Option α} {a : α} {P : α → Prop} (h : o = some a) (hp : P a) : Ok o P := by subst h; exact hp
theorem Ok.ex {α : Type} {o : Option α} {P : α → Prop} (h : Ok o P) : ∃ a, o = some a ∧ P a := by
  cases o with
  | none => exact h.elim
  | some a => exact ⟨a, rfl, h⟩
theorem Ok.pos {α : Type} {c : Prop} [Decidable c] {a b : Option α} {P : α → Prop} (h : Ok (if c then a else b) P) (hc : c) : Ok a P := by rw [if_pos hc] at h; exact h
theorem Ok.neg {α : Type} {c : Prop} [Decidable c] {a b : Option α} {P : α → Prop} (h : Ok (if c then a else b) P) (hc : ¬ c) : Ok b P := by rw [if_neg hc] at h; exact h
theorem Ok.test {α : Type} {c : Prop} [Decidable c] {a : Option α} {P : α → Prop} (h : Ok (if c then a else none) P) : c ∧ Ok a P := by
  by_cases hc : c
  · exact ⟨hc, h.pos hc⟩
  · exact (h.neg hc).elim
theorem Ok.bind {α β : Type} {o : Option α} {f : α → Option β} {P : β → Prop} (h : Ok (o.bind f) P) : Ok o (fun a => Ok (f a) P) := by
  cases o with
  | none => exact h.elim
  | some a => exact h
theorem Ok.mono {α : Type} {o : Option α} {P Q : α → Prop} (h : Ok o P) (k : ∀ a, P a → Q a) : Ok o Q := by
  cases o with
  | none => exact h.elim
  | some a => exact k a h
def lpf {σ ρ : Type} (body : σ → Option (σ ⊕ ρ)) : Nat → σ → Option ρ
  | 0, _ => none
  | n + 1, s => (body s).bind (Sum.elim (lpf body n) some)
theorem Ok.loop {σ ρ : Type} {body : σ → Option (σ ⊕ ρ)} {P : ρ → Prop} {n : Nat} {s : σ} (h : Ok (lpf body n s) P) (Head : σ → Prop) (step : ∀ s, Ok (body s) (Sum.elim Head P) → Head s) : Head s := by
  induction n generalizing s with
  | zero => exact h.elim
  | succ n ih =>
    refine step s ?_
    have h2 := Ok.bind (show Ok ((body s).bind (Sum.elim (lpf body n) some)) P from h)
    refine h2.mono ?_
    intro a ha
    cases a with
    | inl s' => exact ih ha
    | inr r => exact ha
def inb (i : Int32) (n : Nat) : Bool := !(decide (i < 0) || decide (n ≤ i.toNatClampNeg))
theorem inb_in {i : Int32} {n : Nat} (h : inb i n = true) : vp_in i n := by
  unfold vp_in
  unfold inb at h
  simp only [Bool.not_eq_true', Bool.or_eq_false_iff, decide_eq_false_iff_not] at h
  intro q
  rcases q with q | q
  · exact h.1 q
  · exact h.2 q
theorem inb_lt {i : Int32} {n : Nat} (h : inb i n = true) : i.toNatClampNeg < n := by
  have := inb_in h
  exact Nat.not_le.mp fun q => this (Or.inr q)
/-- the cells of both systems: q their addresses, M their numbers, cy the classes of int[], char[], Row[], int[][] -/
def wd (cy : Nat → ClassId) (q : Nat → Nat) (M : Mm) : va_W := [
  (q 0, .inr (6, [.ref (q 1), .ref (q 13), .ref (q 15), .ref (q 33), .ref (q 35), .ref (q 37), .ref (q 39)])),
  (q 1, .inr (3, [.ref (q 2), .int (M 1 1)])),
  (q 2, .inl (cy 0, 60, .inl (M 2))),
  (q 3, .inr (3, [.ref (q 4), .int (M 3 1)])),
  (q 4, .inl (cy 0, 60, .inl (M 4))),
  (q 5, .inr (3, [.ref (q 6), .int (M 5 1)])),
  (q 6, .inl (cy 0, 60, .inl (M 6))),
  (q 7, .inr (3, [.ref (q 8), .int (M 7 1)])),
  (q 8, .inl (cy 0, 60, .inl (M 8))),
  (q 9, .inr (3, [.ref (q 10), .int (M 9 1)])),
  (q 10, .inl (cy 0, 60, .inl (M 10))),
  (q 11, .inr (3, [.ref (q 12), .int (M 11 1)])),
  (q 12, .inl (cy 0, 60, .inl (M 12))),
  (q 13, .inr (0, [.ref (q 14), .int (M 13 1)])),
  (q 14, .inl (cy 2, 4, .inr (.inr (.inr (.inr (fun i => if i < 4 then some (q (3 + 2 * i)) else none)))))),
  (q 15, .inr (1, [.ref (q 16), .ref (q 17), .ref (q 18), .int (M 15 3)])),
  (q 16, .inl (cy 3, 5, .inr (.inr (.inr (.inr (fun i => if i < 5 then some (q (19 + i)) else none)))))),
  (q 17, .inl (cy 3, 5, .inr (.inr (.inr (.inr (fun i => if i < 5 then some (q (24 + i)) else none)))))),
  (q 18, .inl (cy 3, 4, .inr (.inr (.inr (.inr (fun i => if i < 4 then some (q (29 + i)) else none)))))),
  (q 19, .inl (cy 0, 60, .inl (M 19))),
  (q 20, .inl (cy 0, 60, .inl (M 20))),
  (q 21, .inl (cy 0, 60, .inl (M 21))),
  (q 22, .inl (cy 0, 60, .inl (M 22))),
  (q 23, .inl (cy 0, 60, .inl (M 23))),
  (q 24, .inl (cy 0, 60, .inl (M 24))),
  (q 25, .inl (cy 0, 60, .inl (M 25))),
  (q 26, .inl (cy 0, 60, .inl (M 26))),
  (q 27, .inl (cy 0, 60, .inl (M 27))),
  (q 28, .inl (cy 0, 60, .inl (M 28))),
  (q 29, .inl (cy 0, 60, .inl (M 29))),
  (q 30, .inl (cy 0, 60, .inl (M 30))),
  (q 31, .inl (cy 0, 60, .inl (M 31))),
  (q 32, .inl (cy 0, 60, .inl (M 32))),
  (q 33, .inr (4, [.ref (q 34)])),
  (q 34, .inl (cy 0, 16, .inl (M 34))),
  (q 35, .inr (4, [.ref (q 36)])),
  (q 36, .inl (cy 0, 16, .inl (M 36))),
  (q 37, .inr (5, [.ref (q 38), .int (M 37 1)])),
  (q 38, .inl (cy 1, 60, .inl (M 38))),
  (q 39, .inr (2, [.ref (q 37), .ref (q 11), .int (M 39 2), .int (M 39 3), .int (M 39 4), .int (M 39 5), .int (M 39 6), .int (M 39 7), .int (M 39 8), .int (M 39 9)])),
  (q 40, .inr (7, [.ref (q 41), .ref (q 42), .ref (q 43), .ref (q 44), .int (M 40 4), .ref (q 45), .int (M 40 6), .int (M 40 7), .int (M 40 8), .int (M 40 9), .int (M 40 10), .ref (q 46), .ref (q 47), .ref (q 48), .ref (q 49)])),
  (q 41, .inl (cy 0, 61, .inl (M 41))),
  (q 42, .inl (cy 0, 244, .inl (M 42))),
  (q 43, .inl (cy 0, 61, .inl (M 43))),
  (q 44, .inl (cy 0, 61, .inl (M 44))),
  (q 45, .inl (cy 1, 60, .inl (M 45))),
  (q 46, .inl (cy 0, 300, .inl (M 46))),
  (q 47, .inl (cy 0, 300, .inl (M 47))),
  (q 48, .inl (cy 0, 16, .inl (M 48))),
  (q 49, .inl (cy 0, 16, .inl (M 49)))]
def tysW (cy : Nat → ClassId) : List (ClassId × FieldType) := [(cy 0, .int), (cy 1, .char), (cy 2, .object "BitLevels$Row"), (cy 3, .array .int)]
theorem wd_fst (cy : Nat → ClassId) (q : Nat → Nat) (M : Mm) : (wd cy q M).map Prod.fst = (List.range 50).map q := rfl
theorem wd_at {cy : Nat → ClassId} {q : Nat → Nat} {M : Mm} {i : Nat} {x : Nat × va_E} (h : (wd cy q M)[i]? = some x) : i < 50 ∧ x.1 = q i := by
  have h1 : ((wd cy q M).map Prod.fst)[i]? = some x.1 := by rw [List.getElem?_map, h]; rfl
  rw [wd_fst, List.getElem?_map] at h1
  by_cases hi : i < 50
  · rw [List.getElem?_range hi] at h1
    exact ⟨hi, (Option.some.inj h1).symm⟩
  · rw [List.getElem?_eq_none (by rw [List.length_range]; omega)] at h1
    cases h1
theorem wd_ex (cy : Nat → ClassId) (q : Nat → Nat) (M : Mm) {k : Nat} (hk : k < 50) : ∃ x, (wd cy q M)[k]? = some x ∧ x.1 = q k := by
  have hl : k < (wd cy q M).length := hk
  refine ⟨(wd cy q M)[k], List.getElem?_eq_getElem hl, (wd_at (List.getElem?_eq_getElem hl)).2⟩
def qInj (q : Nat → Nat) : Prop := ∀ i j, i < 50 → j < 50 → q i = q j → i = j
theorem wd_D {A : Nat → Prop} {cy : Nat → ClassId} {q : Nat → Nat} {M : Mm} (hA : ∀ k, k < 50 → A (q k)) (hq : qInj q) : va_D A (wd cy q M) := by
  refine ⟨fun i j x y hi hj hxy => ?_, fun k x hk => ?_⟩
  · obtain ⟨a1, a2⟩ := wd_at hi
    obtain ⟨b1, b2⟩ := wd_at hj
    exact hq i j a1 b1 (by rw [← a2, ← b2]; exact hxy)
  · obtain ⟨a1, a2⟩ := wd_at hk
    rw [a2]
    exact hA k a1
def Aq (q : Nat → Nat) (sz : Nat) : Nat → Prop := fun a => (∃ k, k < 50 ∧ a = q k) ∨ sz ≤ a
def Nw (U : State) : Prop := va_Nw (.methodLinkNest RX3 23 yX6_isAtMost "BitLevels") U ∧ va_Nw (.methodLinkNest RX4 21 yX6_isSymbol "BitLevels") U ∧ va_Nw (.methodLinkNest RX1 50 yX6_hasBits "BitLevels") U ∧ va_Nw (.methodLinkNest RX1 43 yX6_isAtMost "BitLevels") U ∧ va_Nw (.methodLinkNest RX2 96 yX6_isAtMost "BitLevels") U
theorem Nw.warm {s U : State} (hW : s.WarmedH U.vm) (h : Nw s) : Nw U := ⟨va_Nw.warmM hW h.1, va_Nw.warmM hW h.2.1, va_Nw.warmM hW h.2.2.1, va_Nw.warmM hW h.2.2.2.1, va_Nw.warmM hW h.2.2.2.2⟩
theorem Nw.same {u U : State} (e : u.vm = U.vm) (h : Nw u) : Nw U := ⟨va_Nw.same rfl e h.1, va_Nw.same rfl e h.2.1, va_Nw.same rfl e h.2.2.1, va_Nw.same rfl e h.2.2.2.1, va_Nw.same rfl e h.2.2.2.2⟩
def KW (D : va_G) (cy : Nat → ClassId) (U : State) : Prop := va_K D vwCl (tysW cy) U ∧ Nw U
def Fx (p : Program) (s : State) (m : MethodId) (args : Array Value) (c : Code) (cc : ByteArray) (nL : Nat) (own : String) (Ts : List Cond) (D : va_G) (cy : Nat → ClassId) (q : Nat → Nat) (A : Nat → Prop) (H0 : Heap) : Prop :=
  CallFix p m c cc nL s args Ts own ∧ KW D cy s ∧ (∀ x : Nat, H0.size ≤ x → A x) ∧ (∀ k, k < 50 → A (q k)) ∧ qInj q
def V (p : Program) (l : Launch) (e : Env) (R : Room) (s : State) (m : MethodId) (args : Array Value) (below : List Frame) (meth : Method) (c : Code) (Q : State → Prop) (D : va_G) (cy : Nat → ClassId) (q : Nat → Nat) (A : Nat → Prop) (H0 : Heap) (nL cl sl : Nat) (M : Mm) (pc : Nat) (L : List (Nat × Value)) (st : List Value) : Prop :=
  ∀ (H : Heap) (locs : List Loc) (ls : Array Slot), va_P D vwCl (wd cy q M) H → va_S A H0 H locs → lv_has ls nL L → W p l e R s m args below meth c H locs cl sl Q (F0 m pc ls st)
def FrI (D : va_G) (cy : Nat → ClassId) (q : Nat → Nat) (A : Nat → Prop) (rv : Int32) (M' : Mm) : Array Value → State → Outcome → State → Prop := va_Qi (fun (r2 : Int32) (_ : Unit) => r2 = rv) (fun _ t => va_P D vwCl (wd cy q M') t.heap) A
def FrL (D : va_G) (cy : Nat → ClassId) (q : Nat → Nat) (A : Nat → Prop) (rv : Int64) (M' : Mm) : Array Value → State → Outcome → State → Prop := va_Ql (fun (r2 : Int64) (_ : Unit) => r2 = rv) (fun _ t => va_P D vwCl (wd cy q M') t.heap) A
def FrV (D : va_G) (cy : Nat → ClassId) (q : Nat → Nat) (A : Nat → Prop) (M' : Mm) : Array Value → State → Outcome → State → Prop := va_Qv (fun (_ : Unit) => True) (fun _ t => va_P D vwCl (wd cy q M') t.heap) A
def FrR (D : va_G) (cy : Nat → ClassId) (q : Nat → Nat) (A : Nat → Prop) (k : Nat) (M' : Mm) : Array Value → State → Outcome → State → Prop := va_Qr (fun (_ : Unit) => True) (fun _ a t => a = q k ∧ va_P D vwCl (wd cy q M') t.heap) A
def Pre (D : va_G) (cy : Nat → ClassId) (q : Nat → Nat) (M : Mm) (sz : Nat) : State → Prop := fun U => U.heap.size = sz ∧ va_P D vwCl (wd cy q M) U.heap ∧ KW D cy U ∧ qInj q
def KI (l : Launch) (y : MethodName) (ws : List Cond) (rm : Room) (D : va_G) (cy : Nat → ClassId) (q : Nat → Nat) (av : List Value) (M : Mm) (rv : Int32) (M' : Mm) : Prop := ∀ sz : Nat, Met l y ws rm (va_Pc av (Pre D cy q M sz)) (FrI D cy q (Aq q sz) rv M') 0 0 (Aq q sz)
def KL (l : Launch) (y : MethodName) (ws : List Cond) (rm : Room) (D : va_G) (cy : Nat → ClassId) (q : Nat → Nat) (av : List Value) (M : Mm) (rv : Int64) (M' : Mm) : Prop := ∀ sz : Nat, Met l y ws rm (va_Pc av (Pre D cy q M sz)) (FrL D cy q (Aq q sz) rv M') 0 0 (Aq q sz)
def KV (l : Launch) (y : MethodName) (ws : List Cond) (rm : Room) (D : va_G) (cy : Nat → ClassId) (q : Nat → Nat) (av : List Value) (M : Mm) (M' : Mm) : Prop := ∀ sz : Nat, Met l y ws rm (va_Pc av (Pre D cy q M sz)) (FrV D cy q (Aq q sz) M') 0 0 (Aq q sz)
def KR (l : Launch) (y : MethodName) (ws : List Cond) (rm : Room) (D : va_G) (cy : Nat → ClassId) (q : Nat → Nat) (av : List Value) (M : Mm) (k : Nat) (M' : Mm) : Prop := ∀ sz : Nat, Met l y ws rm (va_Pc av (Pre D cy q M sz)) (FrR D cy q (Aq q sz) k M') 0 0 (Aq q sz)
section VR
variable {p : Program} {l : Launch} {e : Env} {R : Room} {s : State} {m : MethodId} {args : Array Value} {below : List Frame} {meth : Method} {c : Code} {Q : State → Prop} {D : va_G} {cy : Nat → ClassId} {q : Nat → Nat} {A : Nat → Prop} {H0 : Heap} {nL cl sl : Nat} {M M' : Mm} {pc : Nat} {L L' : List (Nat × Value)} {st : List Value} {cc : ByteArray} {own : String} {Ts : List Cond} {α : Type} {P : α → Prop}
theorem V_sub (ks : List Nat) (hl : lv_pick L ks = L') (k : V p l e R s m args below meth c Q D cy q A H0 nL cl sl M pc L' st) : V p l e R s m args below meth c Q D cy q A H0 nL cl sl M pc L st := fun H locs ls hP hS h => k H locs ls hP hS (lv_sub h ks hl)
theorem V_iconst (X : Fx p s m args c cc nL own Ts D cy q A H0) {n : Int} {v : Int32} (d : decode cc pc = .ok (.iconst n, 1)) (hv : Int32.ofInt n = v) (k : V p l e R s m args below meth c Q D cy q A H0 nL cl sl M (pc + 1) L (.int v :: st)) : V p l e R s m args below meth c Q D cy q A H0 nL cl sl M pc L st := fun H locs ls hP hS hl => lv_iconst X.1.1 X.1.2.1 d hv (k H locs ls hP hS hl)
theorem V_bipush (X : Fx p s m args c cc nL own Ts D cy q A H0) {n : Int} {v : Int32} (d : decode cc pc = .ok (.bipush n, 2)) (hv : (Int8.ofInt n).toInt32 = v) (k : V p l e R s m args below meth c Q D cy q A H0 nL cl sl M (pc + 2) L (.int v :: st)) : V p l e R s m args below meth c Q D cy q A H0 nL cl sl M pc L st := fun H locs ls hP hS hl => lv_bipush X.1.1 X.1.2.1 d hv (k H locs ls hP hS hl)
theorem V_sipush (X : Fx p s m args c cc nL own Ts D cy q A H0) {n : Int} {v : Int32} (d : decode cc pc = .ok (.sipush n, 3)) (hv : (Int16.ofInt n).toInt32 = v) (k : V p l e R s m args below meth c Q D cy q A H0 nL cl sl M (pc + 3) L (.int v :: st)) : V p l e R s m args below meth c Q D cy q A H0 nL cl sl M pc L st := fun H locs ls hP hS hl => lv_sipush X.1.1 X.1.2.1 d hv (k H locs ls hP hS hl)
theorem V_lconst (X : Fx p s m args c cc nL own Ts D cy q A H0) {n : Fin 2} {v : Int64} (d : decode cc pc = .ok (.lconst n, 1)) (hv : Int64.ofNat n = v) (k : V p l e R s m args below meth c Q D cy q A H0 nL cl sl M (pc + 1) L (.long v :: st)) : V p l e R s m args below meth c Q D cy q A H0 nL cl sl M pc L st := fun H locs ls hP hS hl => lv_lconst X.1.1 X.1.2.1 d hv (k H locs ls hP hS hl)
theorem V_ldc (X : Fx p s m args c cc nL own Ts D cy q A H0) {idx : Nat} {v : Int32} (hw : Cond.constant own idx v ∈ Ts) (d : decode cc pc = .ok (.ldc idx, 2)) (k : V p l e R s m args below meth c Q D cy q A H0 nL cl sl M (pc + 2) L (.int v :: st)) : V p l e R s m args below meth c Q D cy q A H0 nL cl sl M pc L st := fun H locs ls hP hS hl => lv_ldc X.1.1 X.1.2.1 X.1.2.2.2.1 (X.1.2.2.2.2 _ hw) d (k H locs ls hP hS hl)
theorem V_ldcw (X : Fx p s m args c cc nL own Ts D cy q A H0) {idx : Nat} {v : Int32} (hw : Cond.constant own idx v ∈ Ts) (d : decode cc pc = .ok (.ldc_w idx, 3)) (k : V p l e R s m args below meth c Q D cy q A H0 nL cl sl M (pc + 3) L (.int v :: st)) : V p l e R s m args below meth c Q D cy q A H0 nL cl sl M pc L st := fun H locs ls hP hS hl => lv_ldcw X.1.1 X.1.2.1 X.1.2.2.2.1 (X.1.2.2.2.2 _ hw) d (k H locs ls hP hS hl)
theorem V_ldc2 (X : Fx p s m args c cc nL own Ts D cy q A H0) {idx : Nat} {v : Int64} (hw : Cond.constantLong own idx v ∈ Ts) (d : decode cc pc = .ok (.ldc2_w idx, 3)) (k : V p l e R s m args below meth c Q D cy q A H0 nL cl sl M (pc + 3) L (.long v :: st)) : V p l e R s m args below meth c Q D cy q A H0 nL cl sl M pc L st := fun H locs ls hP hS hl => lv_ldc2 X.1.1 X.1.2.1 X.1.2.2.2.1 (X.1.2.2.2.2 _ hw) d (k H locs ls hP hS hl)
theorem V_iload_n (X : Fx p s m args c cc nL own Ts D cy q A H0) {k : Fin 4} {i : Nat} {x : Int32} (d : decode cc pc = .ok (.iload_n k, 1)) (j : Nat) (hi : (k : Nat) = i) (hL : L[j]? = some (i, .int x)) (kk : V p l e R s m args below meth c Q D cy q A H0 nL cl sl M (pc + 1) L (.int x :: st)) : V p l e R s m args below meth c Q D cy q A H0 nL cl sl M pc L st := fun H locs ls hP hS hl => lv_iload_n X.1.1 X.1.2.1 d hi (lv_at hl j hL) (kk H locs ls hP hS hl)
theorem V_iload (X : Fx p s m args c cc nL own Ts D cy q A H0) {i : Nat} {x : Int32} (d : decode cc pc = .ok (.iload i, 2)) (j : Nat) (hL : L[j]? = some (i, .int x)) (kk : V p l e R s m args below meth c Q D cy q A H0 nL cl sl M (pc + 2) L (.int x :: st)) : V p l e R s m args below meth c Q D cy q A H0 nL cl sl M pc L st := fun H locs ls hP hS hl => lv_iload X.1.1 X.1.2.1 d (lv_at hl j hL) (kk H locs ls hP hS hl)
theorem V_lload_n (X : Fx p s m args c cc nL own Ts D cy q A H0) {k : Fin 4} {i : Nat} {x : Int64} (d : decode cc pc = .ok (.lload_n k, 1)) (j : Nat) (hi : (k : Nat) = i) (hL : L[j]? = some (i, .long x)) (kk : V p l e R s m args below meth c Q D cy q A H0 nL cl sl M (pc + 1) L (.long x :: st)) : V p l e R s m args below meth c Q D cy q A H0 nL cl sl M pc L st := fun H locs ls hP hS hl => lv_lload_n X.1.1 X.1.2.1 d hi (lv_at hl j hL) (kk H locs ls hP hS hl)
theorem V_lload (X : Fx p s m args c cc nL own Ts D cy q A H0) {i : Nat} {x : Int64} (d : decode cc pc = .ok (.lload i, 2)) (j : Nat) (hL : L[j]? = some (i, .long x)) (kk : V p l e R s m args below meth c Q D cy q A H0 nL cl sl M (pc + 2) L (.long x :: st)) : V p l e R s m args below meth c Q D cy q A H0 nL cl sl M pc L st := fun H locs ls hP hS hl => lv_lload X.1.1 X.1.2.1 d (lv_at hl j hL) (kk H locs ls hP hS hl)
theorem V_aload_n (X : Fx p s m args c cc nL own Ts D cy q A H0) {k : Fin 4} {i : Nat} {x : Nat} (d : decode cc pc = .ok (.aload_n k, 1)) (j : Nat) (hi : (k : Nat) = i) (hL : L[j]? = some (i, .ref x)) (kk : V p l e R s m args below meth c Q D cy q A H0 nL cl sl M (pc + 1) L (.ref x :: st)) : V p l e R s m args below meth c Q D cy q A H0 nL cl sl M pc L st := fun H locs ls hP hS hl => lv_aload_n X.1.1 X.1.2.1 d hi (lv_at hl j hL) (kk H locs ls hP hS hl)
theorem V_aload (X : Fx p s m args c cc nL own Ts D cy q A H0) {i : Nat} {x : Nat} (d : decode cc pc = .ok (.aload i, 2)) (j : Nat) (hL : L[j]? = some (i, .ref x)) (kk : V p l e R s m args below meth c Q D cy q A H0 nL cl sl M (pc + 2) L (.ref x :: st)) : V p l e R s m args below meth c Q D cy q A H0 nL cl sl M pc L st := fun H locs ls hP hS hl => lv_aload X.1.1 X.1.2.1 d (lv_at hl j hL) (kk H locs ls hP hS hl)
theorem V_istore_n (X : Fx p s m args c cc nL own Ts D cy q A H0) {k : Fin 4} {i : Nat} {x : Int32} (d : decode cc pc = .ok (.istore_n k, 1)) (hi : (k : Nat) = i) (hn : i < nL) (hl9 : (i, Value.int x) :: L.filter (fun q => !(q.1 == i) && !(q.1 + 1 == i && q.2.category == 2)) = L') (kk : V p l e R s m args below meth c Q D cy q A H0 nL cl sl M (pc + 1) L' st) : V p l e R s m args below meth c Q D cy q A H0 nL cl sl M pc L (.int x :: st) := fun H locs ls hP hS hl => lv_istore_n X.1.1 X.1.2.1 d hi hl hn hl9 (fun ls1 h1 => kk H locs ls1 hP hS h1)
theorem V_istore (X : Fx p s m args c cc nL own Ts D cy q A H0) {i : Nat} {x : Int32} (d : decode cc pc = .ok (.istore i, 2)) (hn : i < nL) (hl9 : (i, Value.int x) :: L.filter (fun q => !(q.1 == i) && !(q.1 + 1 == i && q.2.category == 2)) = L') (kk : V p l e R s m args below meth c Q D cy q A H0 nL cl sl M (pc + 2) L' st) : V p l e R s m args below meth c Q D cy q A H0 nL cl sl M pc L (.int x :: st) := fun H locs ls hP hS hl => lv_istore X.1.1 X.1.2.1 d hl hn hl9 (fun ls1 h1 => kk H locs ls1 hP hS h1)
theorem V_lstore_n (X : Fx p s m args c cc nL own Ts D cy q A H0) {k : Fin 4} {i : Nat} {x : Int64} (d : decode cc pc = .ok (.lstore_n k, 1)) (hi : (k : Nat) = i) (hn : i + 1 < nL) (hl9 : (i, Value.long x) :: L.filter (fun q => !(q.1 == i) && (!(q.1 == i + 1) && !(q.1 + 1 == i && q.2.category == 2))) = L') (kk : V p l e R s m args below meth c Q D cy q A H0 nL cl sl M (pc + 1) L' st) : V p l e R s m args below meth c Q D cy q A H0 nL cl sl M pc L (.long x :: st) := fun H locs ls hP hS hl => lv_lstore_n X.1.1 X.1.2.1 d hi hl hn hl9 (fun ls1 h1 => kk H locs ls1 hP hS h1)
theorem V_lstore (X : Fx p s m args c cc nL own Ts D cy q A H0) {i : Nat} {x : Int64} (d : decode cc pc = .ok (.lstore i, 2)) (hn : i + 1 < nL) (hl9 : (i, Value.long x) :: L.filter (fun q => !(q.1 == i) && (!(q.1 == i + 1) && !(q.1 + 1 == i && q.2.category == 2))) = L') (kk : V p l e R s m args below meth c Q D cy q A H0 nL cl sl M (pc + 2) L' st) : V p l e R s m args below meth c Q D cy q A H0 nL cl sl M pc L (.long x :: st) := fun H locs ls hP hS hl => lv_lstore X.1.1 X.1.2.1 d hl hn hl9 (fun ls1 h1 => kk H locs ls1 hP hS h1)
theorem V_iinc (X : Fx p s m args c cc nL own Ts D cy q A H0) {i j : Nat} {n : Int} {x v : Int32} (d : decode cc pc = .ok (.iinc i n, 3)) (hk : L[j]? = some (i, .int x)) (hv : x + Int32.ofInt n = v) (hn : i < nL) (hl9 : (i, Value.int v) :: L.filter (fun q => !(q.1 == i) && !(q.1 + 1 == i && q.2.category == 2)) = L') (kk : V p l e R s m args below meth c Q D cy q A H0 nL cl sl M (pc + 3) L' st) : V p l e R s m args below meth c Q D cy q A H0 nL cl sl M pc L st := fun H locs ls hP hS hl => lv_iinc X.1.1 X.1.2.1 d hl hk hv hn hl9 (fun ls1 h1 => kk H locs ls1 hP hS h1)
theorem V_iadd (X : Fx p s m args c cc nL own Ts D cy q A H0) {x y : Int32} (d : decode cc pc = .ok (.iadd, 1)) (k : V p l e R s m args below meth c Q D cy q A H0 nL cl sl M (pc + 1) L (.int (x + y) :: st)) : V p l e R s m args below meth c Q D cy q A H0 nL cl sl M pc L (.int y :: .int x :: st) := fun H locs ls hP hS hl => lv_iadd X.1.1 X.1.2.1 d (k H locs ls hP hS hl)
theorem V_isub (X : Fx p s m args c cc nL own Ts D cy q A H0) {x y : Int32} (d : decode cc pc = .ok (.isub, 1)) (k : V p l e R s m args below meth c Q D cy q A H0 nL cl sl M (pc + 1) L (.int (x - y) :: st)) : V p l e R s m args below meth c Q D cy q A H0 nL cl sl M pc L (.int y :: .int x :: st) := fun H locs ls hP hS hl => lv_isub X.1.1 X.1.2.1 d (k H locs ls hP hS hl)
theorem V_imul (X : Fx p s m args c cc nL own Ts D cy q A H0) {x y : Int32} (d : decode cc pc = .ok (.imul, 1)) (k : V p l e R s m args below meth c Q D cy q A H0 nL cl sl M (pc + 1) L (.int (x * y) :: st)) : V p l e R s m args below meth c Q D cy q A H0 nL cl sl M pc L (.int y :: .int x :: st) := fun H locs ls hP hS hl => lv_imul X.1.1 X.1.2.1 d (k H locs ls hP hS hl)
theorem V_iand (X : Fx p s m args c cc nL own Ts D cy q A H0) {x y : Int32} (d : decode cc pc = .ok (.iand, 1)) (k : V p l e R s m args below meth c Q D cy q A H0 nL cl sl M (pc + 1) L (.int (x &&& y) :: st)) : V p l e R s m args below meth c Q D cy q A H0 nL cl sl M pc L (.int y :: .int x :: st) := fun H locs ls hP hS hl => lv_iand X.1.1 X.1.2.1 d (k H locs ls hP hS hl)
theorem V_ior (X : Fx p s m args c cc nL own Ts D cy q A H0) {x y : Int32} (d : decode cc pc = .ok (.ior, 1)) (k : V p l e R s m args below meth c Q D cy q A H0 nL cl sl M (pc + 1) L (.int (x ||| y) :: st)) : V p l e R s m args below meth c Q D cy q A H0 nL cl sl M pc L (.int y :: .int x :: st) := fun H locs ls hP hS hl => lv_ior X.1.1 X.1.2.1 d (k H locs ls hP hS hl)
theorem V_ishl (X : Fx p s m args c cc nL own Ts D cy q A H0) {x y : Int32} (d : decode cc pc = .ok (.ishl, 1)) (k : V p l e R s m args below meth c Q D cy q A H0 nL cl sl M (pc + 1) L (.int (x <<< (y &&& 31)) :: st)) : V p l e R s m args below meth c Q D cy q A H0 nL cl sl M pc L (.int y :: .int x :: st) := fun H locs ls hP hS hl => lv_ishl X.1.1 X.1.2.1 d (k H locs ls hP hS hl)
theorem V_ishr (X : Fx p s m args c cc nL own Ts D cy q A H0) {x y : Int32} (d : decode cc pc = .ok (.ishr, 1)) (k : V p l e R s m args below meth c Q D cy q A H0 nL cl sl M (pc + 1) L (.int (x >>> (y &&& 31)) :: st)) : V p l e R s m args below meth c Q D cy q A H0 nL cl sl M pc L (.int y :: .int x :: st) := fun H locs ls hP hS hl => lv_ishr X.1.1 X.1.2.1 d (k H locs ls hP hS hl)
theorem V_idiv (X : Fx p s m args c cc nL own Ts D cy q A H0) {x y : Int32} (d : decode cc pc = .ok (.idiv, 1)) (hne : ¬ y = 0) (k : V p l e R s m args below meth c Q D cy q A H0 nL cl sl M (pc + 1) L (.int (x / y) :: st)) : V p l e R s m args below meth c Q D cy q A H0 nL cl sl M pc L (.int y :: .int x :: st) := fun H locs ls hP hS hl => lv_idiv X.1.1 X.1.2.1 d hne (k H locs ls hP hS hl)
theorem V_irem (X : Fx p s m args c cc nL own Ts D cy q A H0) {x y : Int32} (d : decode cc pc = .ok (.irem, 1)) (hne : ¬ y = 0) (k : V p l e R s m args below meth c Q D cy q A H0 nL cl sl M (pc + 1) L (.int (x - x / y * y) :: st)) : V p l e R s m args below meth c Q D cy q A H0 nL cl sl M pc L (.int y :: .int x :: st) := fun H locs ls hP hS hl => lv_irem X.1.1 X.1.2.1 d hne (k H locs ls hP hS hl)
theorem V_ladd (X : Fx p s m args c cc nL own Ts D cy q A H0) {x y : Int64} (d : decode cc pc = .ok (.ladd, 1)) (k : V p l e R s m args below meth c Q D cy q A H0 nL cl sl M (pc + 1) L (.long (x + y) :: st)) : V p l e R s m args below meth c Q D cy q A H0 nL cl sl M pc L (.long y :: .long x :: st) := fun H locs ls hP hS hl => lv_ladd X.1.1 X.1.2.1 d (k H locs ls hP hS hl)
theorem V_lsub (X : Fx p s m args c cc nL own Ts D cy q A H0) {x y : Int64} (d : decode cc pc = .ok (.lsub, 1)) (k : V p l e R s m args below meth c Q D cy q A H0 nL cl sl M (pc + 1) L (.long (x - y) :: st)) : V p l e R s m args below meth c Q D cy q A H0 nL cl sl M pc L (.long y :: .long x :: st) := fun H locs ls hP hS hl => lv_lsub X.1.1 X.1.2.1 d (k H locs ls hP hS hl)
theorem V_lmul (X : Fx p s m args c cc nL own Ts D cy q A H0) {x y : Int64} (d : decode cc pc = .ok (.lmul, 1)) (k : V p l e R s m args below meth c Q D cy q A H0 nL cl sl M (pc + 1) L (.long (x * y) :: st)) : V p l e R s m args below meth c Q D cy q A H0 nL cl sl M pc L (.long y :: .long x :: st) := fun H locs ls hP hS hl => lv_lmul X.1.1 X.1.2.1 d (k H locs ls hP hS hl)
theorem V_land (X : Fx p s m args c cc nL own Ts D cy q A H0) {x y : Int64} (d : decode cc pc = .ok (.land, 1)) (k : V p l e R s m args below meth c Q D cy q A H0 nL cl sl M (pc + 1) L (.long (x &&& y) :: st)) : V p l e R s m args below meth c Q D cy q A H0 nL cl sl M pc L (.long y :: .long x :: st) := fun H locs ls hP hS hl => lv_land X.1.1 X.1.2.1 d (k H locs ls hP hS hl)
theorem V_lor (X : Fx p s m args c cc nL own Ts D cy q A H0) {x y : Int64} (d : decode cc pc = .ok (.lor, 1)) (k : V p l e R s m args below meth c Q D cy q A H0 nL cl sl M (pc + 1) L (.long (x ||| y) :: st)) : V p l e R s m args below meth c Q D cy q A H0 nL cl sl M pc L (.long y :: .long x :: st) := fun H locs ls hP hS hl => lv_lor X.1.1 X.1.2.1 d (k H locs ls hP hS hl)
theorem V_ldiv (X : Fx p s m args c cc nL own Ts D cy q A H0) {x y : Int64} (d : decode cc pc = .ok (.ldiv, 1)) (hne : ¬ y = 0) (k : V p l e R s m args below meth c Q D cy q A H0 nL cl sl M (pc + 1) L (.long (x / y) :: st)) : V p l e R s m args below meth c Q D cy q A H0 nL cl sl M pc L (.long y :: .long x :: st) := fun H locs ls hP hS hl => lv_ldiv X.1.1 X.1.2.1 d hne (k H locs ls hP hS hl)
theorem V_lshl (X : Fx p s m args c cc nL own Ts D cy q A H0) {x : Int64} {y : Int32} (d : decode cc pc = .ok (.lshl, 1)) (k : V p l e R s m args below meth c Q D cy q A H0 nL cl sl M (pc + 1) L (.long (x <<< (y.toInt64 &&& 63)) :: st)) : V p l e R s m args below meth c Q D cy q A H0 nL cl sl M pc L (.int y :: .long x :: st) := fun H locs ls hP hS hl => lv_lshl X.1.1 X.1.2.1 d rfl (k H locs ls hP hS hl)
theorem V_iushr (X : Fx p s m args c cc nL own Ts D cy q A H0) {x y : Int32} (d : decode cc pc = .ok (.iushr, 1)) (k : V p l e R s m args below meth c Q D cy q A H0 nL cl sl M (pc + 1) L (.int (x.toUInt32 >>> (y.toUInt32 &&& Int32.toUInt32 31)).toInt32 :: st)) : V p l e R s m args below meth c Q D cy q A H0 nL cl sl M pc L (.int y :: .int x :: st) := fun H locs ls hP hS hl => lv_iushr X.1.1 X.1.2.1 d rfl (k H locs ls hP hS hl)
theorem V_lushr (X : Fx p s m args c cc nL own Ts D cy q A H0) {x : Int64} {y : Int32} (d : decode cc pc = .ok (.lushr, 1)) (k : V p l e R s m args below meth c Q D cy q A H0 nL cl sl M (pc + 1) L (.long (x.toUInt64 >>> (y.toInt64.toUInt64 &&& Int64.toUInt64 63)).toInt64 :: st)) : V p l e R s m args below meth c Q D cy q A H0 nL cl sl M pc L (.int y :: .long x :: st) := fun H locs ls hP hS hl => lv_lushr X.1.1 X.1.2.1 d rfl (k H locs ls hP hS hl)
theorem V_i2l (X : Fx p s m args c cc nL own Ts D cy q A H0) {x : Int32} (d : decode cc pc = .ok (.i2l, 1)) (k : V p l e R s m args below meth c Q D cy q A H0 nL cl sl M (pc + 1) L (.long x.toInt64 :: st)) : V p l e R s m args below meth c Q D cy q A H0 nL cl sl M pc L (.int x :: st) := fun H locs ls hP hS hl => lv_i2l X.1.1 X.1.2.1 d rfl (k H locs ls hP hS hl)
theorem V_l2i (X : Fx p s m args c cc nL own Ts D cy q A H0) {x : Int64} (d : decode cc pc = .ok (.l2i, 1)) (k : V p l e R s m args below meth c Q D cy q A H0 nL cl sl M (pc + 1) L (.int x.toInt32 :: st)) : V p l e R s m args below meth c Q D cy q A H0 nL cl sl M pc L (.long x :: st) := fun H locs ls hP hS hl => lv_l2i X.1.1 X.1.2.1 d rfl (k H locs ls hP hS hl)
theorem V_i2c (X : Fx p s m args c cc nL own Ts D cy q A H0) {x : Int32} (d : decode cc pc = .ok (.i2c, 1)) (k : V p l e R s m args below meth c Q D cy q A H0 nL cl sl M (pc + 1) L (.int (x.toUInt32 % 65536).toInt32 :: st)) : V p l e R s m args below meth c Q D cy q A H0 nL cl sl M pc L (.int x :: st) := fun H locs ls hP hS hl => lv_i2c X.1.1 X.1.2.1 d rfl (k H locs ls hP hS hl)
theorem V_lcmp (X : Fx p s m args c cc nL own Ts D cy q A H0) {x y : Int64} (d : decode cc pc = .ok (.lcmp, 1)) (k : V p l e R s m args below meth c Q D cy q A H0 nL cl sl M (pc + 1) L (.int (lg_cmp x y) :: st)) : V p l e R s m args below meth c Q D cy q A H0 nL cl sl M pc L (.long y :: .long x :: st) := fun H locs ls hP hS hl => W.lcmp X.1.1 X.1.2.1 d (k H locs ls hP hS hl)
theorem V_dup (X : Fx p s m args c cc nL own Ts D cy q A H0) {va : Value} (d : decode cc pc = .ok (.dup, 1)) (hc : va.category = 1) (k : V p l e R s m args below meth c Q D cy q A H0 nL cl sl M (pc + 1) L (va :: va :: st)) : V p l e R s m args below meth c Q D cy q A H0 nL cl sl M pc L (va :: st) := fun H locs ls hP hS hl => lv_dup X.1.1 X.1.2.1 d hc (k H locs ls hP hS hl)
theorem V_pop (X : Fx p s m args c cc nL own Ts D cy q A H0) {va : Value} (d : decode cc pc = .ok (.pop, 1)) (hc : va.category = 1) (k : V p l e R s m args below meth c Q D cy q A H0 nL cl sl M (pc + 1) L st) : V p l e R s m args below meth c Q D cy q A H0 nL cl sl M pc L (va :: st) := fun H locs ls hP hS hl => lv_pop X.1.1 X.1.2.1 d hc (k H locs ls hP hS hl)
theorem V_dup2 (X : Fx p s m args c cc nL own Ts D cy q A H0) {va vb : Value} (d : decode cc pc = .ok (.dup2, 1)) (hc : va.category = 1) (hd : vb.category = 1) (k : V p l e R s m args below meth c Q D cy q A H0 nL cl sl M (pc + 1) L (va :: vb :: va :: vb :: st)) : V p l e R s m args below meth c Q D cy q A H0 nL cl sl M pc L (va :: vb :: st) := fun H locs ls hP hS hl => lv_dup2_11 X.1.1 X.1.2.1 d hc hd (k H locs ls hP hS hl)
theorem V_goto (X : Fx p s m args c cc nL own Ts D cy q A H0) {off : Int} (tgt : Nat) (d : decode cc pc = .ok (.goto off, 3)) (ht : (pc : Int) + off = (tgt : Int)) (k : V p l e R s m args below meth c Q D cy q A H0 nL cl sl M tgt L st) : V p l e R s m args below meth c Q D cy q A H0 nL cl sl M pc L st := fun H locs ls hP hS hl => lv_goto X.1.1 X.1.2.1 d ht (k H locs ls hP hS hl)
-- BRANCHES
theorem B_icmp_eq (X : Fx p s m args c cc nL own Ts D cy q A H0) {x y : Int32} {off : Int} [hd : Decidable (x = y)] {a b : Option α} (tgt : Nat) (d : decode cc pc = .ok (.if_icmp .eq off, 3)) (ht : (pc : Int) + off = (tgt : Int)) (h : Ok (if x = y then a else b) P) (kt : Ok a P → V p l e R s m args below meth c Q D cy q A H0 nL cl sl M tgt L st) (kf : Ok b P → V p l e R s m args below meth c Q D cy q A H0 nL cl sl M (pc + 3) L st) : V p l e R s m args below meth c Q D cy q A H0 nL cl sl M pc L (.int y :: .int x :: st) := fun H locs ls hP hS hl => lv_icmp_eq X.1.1 X.1.2.1 d ht (fun hc => kt (h.pos hc) H locs ls hP hS hl) (fun hc => kf (h.neg hc) H locs ls hP hS hl)
theorem B_if_eq (X : Fx p s m args c cc nL own Ts D cy q A H0) {x : Int32} {off : Int} [hd : Decidable (x = 0)] {a b : Option α} (tgt : Nat) (d : decode cc pc = .ok (.ifCond .eq off, 3)) (ht : (pc : Int) + off = (tgt : Int)) (h : Ok (if x = 0 then a else b) P) (kt : Ok a P → V p l e R s m args below meth c Q D cy q A H0 nL cl sl M tgt L st) (kf : Ok b P → V p l e R s m args below meth c Q D cy q A H0 nL cl sl M (pc + 3) L st) : V p l e R s m args below meth c Q D cy q A H0 nL cl sl M pc L (.int x :: st) := fun H locs ls hP hS hl => lv_if_eq X.1.1 X.1.2.1 d ht (fun hc => kt (h.pos hc) H locs ls hP hS hl) (fun hc => kf (h.neg hc) H locs ls hP hS hl)
theorem B_icmp_ne (X : Fx p s m args c cc nL own Ts D cy q A H0) {x y : Int32} {off : Int} [hd : Decidable (x = y)] {a b : Option α} (tgt : Nat) (d : decode cc pc = .ok (.if_icmp .ne off, 3)) (ht : (pc : Int) + off = (tgt : Int)) (h : Ok (if x = y then a else b) P) (kt : Ok b P → V p l e R s m args below meth c Q D cy q A H0 nL cl sl M tgt L st) (kf : Ok a P → V p l e R s m args below meth c Q D cy q A H0 nL cl sl M (pc + 3) L st) : V p l e R s m args below meth c Q D cy q A H0 nL cl sl M pc L (.int y :: .int x :: st) := fun H locs ls hP hS hl => lv_icmp_ne X.1.1 X.1.2.1 d ht (fun hc => kt (h.neg hc) H locs ls hP hS hl) (fun hc => kf (h.pos hc) H locs ls hP hS hl)
theorem B_if_ne (X : Fx p s m args c cc nL own Ts D cy q A H0) {x : Int32} {off : Int} [hd : Decidable (x = 0)] {a b : Option α} (tgt : Nat) (d : decode cc pc = .ok (.ifCond .ne off, 3)) (ht : (pc : Int) + off = (tgt : Int)) (h : Ok (if x = 0 then a else b) P) (kt : Ok b P → V p l e R s m args below meth c Q D cy q A H0 nL cl sl M tgt L st) (kf : Ok a P → V p l e R s m args below meth c Q D cy q A H0 nL cl sl M (pc + 3) L st) : V p l e R s m args below meth c Q D cy q A H0 nL cl sl M pc L (.int x :: st) := fun H locs ls hP hS hl => lv_if_ne X.1.1 X.1.2.1 d ht (fun hc => kt (h.neg hc) H locs ls hP hS hl) (fun hc => kf (h.pos hc) H locs ls hP hS hl)
theorem B_icmp_lt (X : Fx p s m args c cc nL own Ts D cy q A H0) {x y : Int32} {off : Int} [hd : Decidable (x < y)] {a b : Option α} (tgt : Nat) (d : decode cc pc = .ok (.if_icmp .lt off, 3)) (ht : (pc : Int) + off = (tgt : Int)) (h : Ok (if x < y then a else b) P) (kt : Ok a P → V p l e R s m args below meth c Q D cy q A H0 nL cl sl M tgt L st) (kf : Ok b P → V p l e R s m args below meth c Q D cy q A H0 nL cl sl M (pc + 3) L st) : V p l e R s m args below meth c Q D cy q A H0 nL cl sl M pc L (.int y :: .int x :: st) := fun H locs ls hP hS hl => lv_icmp_lt X.1.1 X.1.2.1 d ht (fun hc => kt (h.pos hc) H locs ls hP hS hl) (fun hc => kf (h.neg hc) H locs ls hP hS hl)
theorem B_if_lt (X : Fx p s m args c cc nL own Ts D cy q A H0) {x : Int32} {off : Int} [hd : Decidable (x < 0)] {a b : Option α} (tgt : Nat) (d : decode cc pc = .ok (.ifCond .lt off, 3)) (ht : (pc : Int) + off = (tgt : Int)) (h : Ok (if x < 0 then a else b) P) (kt : Ok a P → V p l e R s m args below meth c Q D cy q A H0 nL cl sl M tgt L st) (kf : Ok b P → V p l e R s m args below meth c Q D cy q A H0 nL cl sl M (pc + 3) L st) : V p l e R s m args below meth c Q D cy q A H0 nL cl sl M pc L (.int x :: st) := fun H locs ls hP hS hl => lv_if_lt X.1.1 X.1.2.1 d ht (fun hc => kt (h.pos hc) H locs ls hP hS hl) (fun hc => kf (h.neg hc) H locs ls hP hS hl)
theorem B_icmp_ge (X : Fx p s m args c cc nL own Ts D cy q A H0) {x y : Int32} {off : Int} [hd : Decidable (y ≤ x)] {a b : Option α} (tgt : Nat) (d : decode cc pc = .ok (.if_icmp .ge off, 3)) (ht : (pc : Int) + off = (tgt : Int)) (h : Ok (if y ≤ x then a else b) P) (kt : Ok a P → V p l e R s m args below meth c Q D cy q A H0 nL cl sl M tgt L st) (kf : Ok b P → V p l e R s m args below meth c Q D cy q A H0 nL cl sl M (pc + 3) L st) : V p l e R s m args below meth c Q D cy q A H0 nL cl sl M pc L (.int y :: .int x :: st) := fun H locs ls hP hS hl => lv_icmp_ge X.1.1 X.1.2.1 d ht (fun hc => kt (h.pos hc) H locs ls hP hS hl) (fun hc => kf (h.neg hc) H locs ls hP hS hl)
theorem B_if_ge (X : Fx p s m args c cc nL own Ts D cy q A H0) {x : Int32} {off : Int} [hd : Decidable (0 ≤ x)] {a b : Option α} (tgt : Nat) (d : decode cc pc = .ok (.ifCond .ge off, 3)) (ht : (pc : Int) + off = (tgt : Int)) (h : Ok (if 0 ≤ x then a else b) P) (kt : Ok a P → V p l e R s m args below meth c Q D cy q A H0 nL cl sl M tgt L st) (kf : Ok b P → V p l e R s m args below meth c Q D cy q A H0 nL cl sl M (pc + 3) L st) : V p l e R s m args below meth c Q D cy q A H0 nL cl sl M pc L (.int x :: st) := fun H locs ls hP hS hl => lv_if_ge X.1.1 X.1.2.1 d ht (fun hc => kt (h.pos hc) H locs ls hP hS hl) (fun hc => kf (h.neg hc) H locs ls hP hS hl)
theorem B_icmp_gt (X : Fx p s m args c cc nL own Ts D cy q A H0) {x y : Int32} {off : Int} [hd : Decidable (y < x)] {a b : Option α} (tgt : Nat) (d : decode cc pc = .ok (.if_icmp .gt off, 3)) (ht : (pc : Int) + off = (tgt : Int)) (h : Ok (if y < x then a else b) P) (kt : Ok a P → V p l e R s m args below meth c Q D cy q A H0 nL cl sl M tgt L st) (kf : Ok b P → V p l e R s m args below meth c Q D cy q A H0 nL cl sl M (pc + 3) L st) : V p l e R s m args below meth c Q D cy q A H0 nL cl sl M pc L (.int y :: .int x :: st) := fun H locs ls hP hS hl => lv_icmp_gt X.1.1 X.1.2.1 d ht (fun hc => kt (h.pos hc) H locs ls hP hS hl) (fun hc => kf (h.neg hc) H locs ls hP hS hl)
theorem B_if_gt (X : Fx p s m args c cc nL own Ts D cy q A H0) {x : Int32} {off : Int} [hd : Decidable (0 < x)] {a b : Option α} (tgt : Nat) (d : decode cc pc = .ok (.ifCond .gt off, 3)) (ht : (pc : Int) + off = (tgt : Int)) (h : Ok (if 0 < x then a else b) P) (kt : Ok a P → V p l e R s m args below meth c Q D cy q A H0 nL cl sl M tgt L st) (kf : Ok b P → V p l e R s m args below meth c Q D cy q A H0 nL cl sl M (pc + 3) L st) : V p l e R s m args below meth c Q D cy q A H0 nL cl sl M pc L (.int x :: st) := fun H locs ls hP hS hl => lv_if_gt X.1.1 X.1.2.1 d ht (fun hc => kt (h.pos hc) H locs ls hP hS hl) (fun hc => kf (h.neg hc) H locs ls hP hS hl)
theorem B_icmp_le (X : Fx p s m args c cc nL own Ts D cy q A H0) {x y : Int32} {off : Int} [hd : Decidable (x ≤ y)] {a b : Option α} (tgt : Nat) (d : decode cc pc = .ok (.if_icmp .le off, 3)) (ht : (pc : Int) + off = (tgt : Int)) (h : Ok (if x ≤ y then a else b) P) (kt : Ok a P → V p l e R s m args below meth c Q D cy q A H0 nL cl sl M tgt L st) (kf : Ok b P → V p l e R s m args below meth c Q D cy q A H0 nL cl sl M (pc + 3) L st) : V p l e R s m args below meth c Q D cy q A H0 nL cl sl M pc L (.int y :: .int x :: st) := fun H locs ls hP hS hl => lv_icmp_le X.1.1 X.1.2.1 d ht (fun hc => kt (h.pos hc) H locs ls hP hS hl) (fun hc => kf (h.neg hc) H locs ls hP hS hl)
theorem B_if_le (X : Fx p s m args c cc nL own Ts D cy q A H0) {x : Int32} {off : Int} [hd : Decidable (x ≤ 0)] {a b : Option α} (tgt : Nat) (d : decode cc pc = .ok (.ifCond .le off, 3)) (ht : (pc : Int) + off = (tgt : Int)) (h : Ok (if x ≤ 0 then a else b) P) (kt : Ok a P → V p l e R s m args below meth c Q D cy q A H0 nL cl sl M tgt L st) (kf : Ok b P → V p l e R s m args below meth c Q D cy q A H0 nL cl sl M (pc + 3) L st) : V p l e R s m args below meth c Q D cy q A H0 nL cl sl M pc L (.int x :: st) := fun H locs ls hP hS hl => lv_if_le X.1.1 X.1.2.1 d ht (fun hc => kt (h.pos hc) H locs ls hP hS hl) (fun hc => kf (h.neg hc) H locs ls hP hS hl)
theorem V_tabIn (X : Fx p s m args c cc nL own Ts D cy q A H0) {dflt lo hi : Int} {offs : Array Int} {len : Nat} {x : Int32} {off : Int} (tgt : Nat) (d : decode cc pc = .ok (.tableswitch dflt lo hi offs, len)) (h1 : ¬ x.toInt < lo) (h2 : ¬ hi < x.toInt) (ho : offs[(x.toInt - lo).toNat]? = some off) (ht : (pc : Int) + off = (tgt : Int)) (k : V p l e R s m args below meth c Q D cy q A H0 nL cl sl M tgt L st) : V p l e R s m args below meth c Q D cy q A H0 nL cl sl M pc L (.int x :: st) := fun H locs ls hP hS hl => lv_tableIn X.1.1 X.1.2.1 d h1 h2 ho ht (k H locs ls hP hS hl)
theorem V_tabOut (X : Fx p s m args c cc nL own Ts D cy q A H0) {dflt lo hi : Int} {offs : Array Int} {len : Nat} {x : Int32} (tgt : Nat) (d : decode cc pc = .ok (.tableswitch dflt lo hi offs, len)) (h : x.toInt < lo ∨ hi < x.toInt) (ht : (pc : Int) + dflt = (tgt : Int)) (k : V p l e R s m args below meth c Q D cy q A H0 nL cl sl M tgt L st) : V p l e R s m args below meth c Q D cy q A H0 nL cl sl M pc L (.int x :: st) := fun H locs ls hP hS hl => lv_tableOut X.1.1 X.1.2.1 d h ht (k H locs ls hP hS hl)
theorem V_lookup (X : Fx p s m args c cc nL own Ts D cy q A H0) {dflt : Int} {ps : Array (Int × Int)} {len : Nat} {x : Int32} {off : Int} (tgt : Nat) (d : decode cc pc = .ok (.lookupswitch dflt ps, len)) (hp : (ps.toList.zip (ps.toList.drop 1)).all (fun (a, next) => a.1 < next.1) = true) (ho : Op.lookupswitch.offset ps.toList dflt x.toInt = off) (ht : (pc : Int) + off = (tgt : Int)) (k : V p l e R s m args below meth c Q D cy q A H0 nL cl sl M tgt L st) : V p l e R s m args below meth c Q D cy q A H0 nL cl sl M pc L (.int x :: st) := fun H locs ls hP hS hl => lv_lookup X.1.1 X.1.2.1 d hp ho ht (k H locs ls hP hS hl)
theorem V_get (X : Fx p s m args c cc nL own Ts D cy q A H0) {ci k0 j N : Nat} {T : u_T} {C : String} {idx a : Nat} {fs : List Value} {v : Value} (he : (wd cy q M)[k0]? = some (a, .inr (ci, fs))) (hc : vwCl[ci]? = some (C, T, N)) (hin : ∀ w ∈ u_ws C T N, w ∈ Ts) (hj : j < N) (hlk : Cond.fieldLink own idx (T j).1 (T j).2.1 (T j).2.2.1 ∈ Ts) (hv : fs[j]? = some v) (d : decode cc pc = .ok (.getfield idx, 3)) (kk : V p l e R s m args below meth c Q D cy q A H0 nL cl sl M (pc + 3) L (v :: st)) : V p l e R s m args below meth c Q D cy q A H0 nL cl sl M pc L (.ref a :: st) :=
  fun H locs ls hP hS hl => va_get X.1.1 X.1.2.1 X.1.2.2.2.2 hin X.1.2.2.2.1 X.2.1.1 hP k0 he hc j hj (X.1.2.2.2.2 _ hlk) (fun _ h9 => h9) hv d (kk H locs ls hP hS hl)
theorem V_put (X : Fx p s m args c cc nL own Ts D cy q A H0) {ci k0 j N : Nat} {T : u_T} {C : String} {idx a : Nat} {fs : List Value} {x : Int32} (he : (wd cy q M)[k0]? = some (a, .inr (ci, fs))) (hc : vwCl[ci]? = some (C, T, N)) (hin : ∀ w ∈ u_ws C T N, w ∈ Ts) (ty0 : Nat → FieldType) (hty : ∀ k, k < N → parseFieldDescriptor (T k).2.2.1 = some (ty0 k)) (hnm : ∀ a, a < N → ∀ b, b < N → a ≠ b → (T a).2.1 ≠ (T b).2.1) (hj : j < N) (hlk : Cond.fieldLink own idx (T j).1 (T j).2.1 (T j).2.2.1 ∈ Ts) (hfin : (T j).2.2.2 = false) (hd : parseFieldDescriptor (T j).2.2.1 = some .int) (hl0 : j < fs.length) (hset : (wd cy q M).set k0 (a, .inr (ci, fs.set j (.int x))) = wd cy q M') (d : decode cc pc = .ok (.putfield idx, 3)) (kk : V p l e R s m args below meth c Q D cy q A H0 nL cl sl M' (pc + 3) L st) : V p l e R s m args below meth c Q D cy q A H0 nL cl sl M pc L (.int x :: .ref a :: st) :=
  fun H locs ls hP hS hl => va_put X.1.1 X.1.2.1 X.1.2.2.2.2 hin ty0 hty hnm X.1.2.2.2.1 X.2.1.1 hP (wd_D X.2.2.2.1 X.2.2.2.2) hS k0 he hc j hj (X.1.2.2.2.2 _ hlk) (fun _ h9 => h9) hfin hd rfl rfl hl0 d (fun H1 locs1 h1 _ h3 => kk H1 locs1 ls (by rw [hset] at h1; exact h1) h3 hl)
theorem V_iald (X : Fx p s m args c cc nL own Ts D cy q A H0) {k0 n a : Nat} {f : Nat → Int32} {i : Int32} {o : Option α} (he : (wd cy q M)[k0]? = some (a, .inl (cy 0, n, .inl f))) (h : Ok (if inb i n = true then o else none) P) (d : decode cc pc = .ok (.iaload, 1)) (kk : inb i n = true → Ok o P → V p l e R s m args below meth c Q D cy q A H0 nL cl sl M (pc + 1) L (.int (f i.toNatClampNeg) :: st)) : V p l e R s m args below meth c Q D cy q A H0 nL cl sl M pc L (.int i :: .ref a :: st) :=
  fun H locs ls hP hS hl => va_iald X.1.1 X.1.2.1 X.2.1.1 hP k0 0 he rfl (inb_in h.test.1) d (kk h.test.1 h.test.2 H locs ls hP hS hl)
theorem V_cald (X : Fx p s m args c cc nL own Ts D cy q A H0) {k0 n a : Nat} {f : Nat → Int32} {i : Int32} {o : Option α} (he : (wd cy q M)[k0]? = some (a, .inl (cy 1, n, .inl f))) (h : Ok (if inb i n = true then o else none) P) (d : decode cc pc = .ok (.caload, 1)) (kk : inb i n = true → Ok o P → V p l e R s m args below meth c Q D cy q A H0 nL cl sl M (pc + 1) L (.int (f i.toNatClampNeg) :: st)) : V p l e R s m args below meth c Q D cy q A H0 nL cl sl M pc L (.int i :: .ref a :: st) :=
  fun H locs ls hP hS hl => va_cald X.1.1 X.1.2.1 X.2.1.1 hP k0 1 he rfl (inb_in h.test.1) d (kk h.test.1 h.test.2 H locs ls hP hS hl)
theorem V_iast (X : Fx p s m args c cc nL own Ts D cy q A H0) {k0 n a : Nat} {f : Nat → Int32} {i x : Int32} {o : Option α} (he : (wd cy q M)[k0]? = some (a, .inl (cy 0, n, .inl f))) (hset : (wd cy q M).set k0 (a, .inl (cy 0, n, .inl (upd f i.toNatClampNeg x))) = wd cy q M') (h : Ok (if inb i n = true then o else none) P) (d : decode cc pc = .ok (.iastore, 1)) (kk : inb i n = true → Ok o P → V p l e R s m args below meth c Q D cy q A H0 nL cl sl M' (pc + 1) L st) : V p l e R s m args below meth c Q D cy q A H0 nL cl sl M pc L (.int x :: .int i :: .ref a :: st) :=
  fun H locs ls hP hS hl => va_iast X.1.1 X.1.2.1 X.2.1.1 hP (wd_D X.2.2.2.1 X.2.2.2.2) hS k0 0 he rfl (inb_in h.test.1) d (fun H1 locs1 h1 _ h3 => kk h.test.1 h.test.2 H1 locs1 ls (by rw [hset] at h1; exact h1) h3 hl)
theorem V_cast (X : Fx p s m args c cc nL own Ts D cy q A H0) {k0 n a : Nat} {f : Nat → Int32} {i x : Int32} {o : Option α} (he : (wd cy q M)[k0]? = some (a, .inl (cy 1, n, .inl f))) (hset : (wd cy q M).set k0 (a, .inl (cy 1, n, .inl (upd f i.toNatClampNeg (vp_nar .char x)))) = wd cy q M') (h : Ok (if inb i n = true then o else none) P) (d : decode cc pc = .ok (.castore, 1)) (kk : inb i n = true → Ok o P → V p l e R s m args below meth c Q D cy q A H0 nL cl sl M' (pc + 1) L st) : V p l e R s m args below meth c Q D cy q A H0 nL cl sl M pc L (.int x :: .int i :: .ref a :: st) :=
  fun H locs ls hP hS hl => va_cast X.1.1 X.1.2.1 X.2.1.1 hP (wd_D X.2.2.2.1 X.2.2.2.2) hS k0 1 he rfl (inb_in h.test.1) d (fun H1 locs1 h1 _ h3 => kk h.test.1 h.test.2 H1 locs1 ls (by rw [hset] at h1; exact h1) h3 hl)
theorem V_aald (X : Fx p s m args c cc nL own Ts D cy q A H0) {k0 t0 n a g : Nat} {ty : FieldType} {cA : ClassId} {f : Nat → Option Nat} {i : Int32} {o : Option α} (he : (wd cy q M)[k0]? = some (a, .inl (cA, n, .inr (.inr (.inr (.inr f)))))) (ht : (tysW cy)[t0]? = some (cA, ty)) (hty : ty.isReference = true) (h : Ok (if inb i n = true then o else none) P) (hf : inb i n = true → f i.toNatClampNeg = some g) (d : decode cc pc = .ok (.aaload, 1)) (kk : inb i n = true → Ok o P → V p l e R s m args below meth c Q D cy q A H0 nL cl sl M (pc + 1) L (.ref g :: st)) : V p l e R s m args below meth c Q D cy q A H0 nL cl sl M pc L (.int i :: .ref a :: st) := by
  intro H locs ls hP hS hl
  have h1 := h.test
  have hin := inb_in h1.1
  have hlt : i.toNatClampNeg < n := inb_lt h1.1
  refine W.aald (v := va_rf (f i.toNatClampNeg)) (ty := ty) X.1.1 X.1.2.1 (hP k0 _ he) ((X.2.1.1.2 t0 _ ht).1 n (fun j => va_rf (f j))) hty (fun q => by cases q) (by show ¬ (i < 0 ∨ (arrV _ _ _).slots.size ≤ _); rw [arrV_size]; exact hin) (by show (arrV _ _ _).slots[_]? = _; rw [arrV_read _ _ hlt]) rfl rfl d ?_
  rw [hf h1.1]
  exact kk h1.1 h1.2 H locs ls hP hS hl
theorem R_i (X : Fx p s m args c cc nL own Ts D cy q A s.heap) {v rv : Int32} (hr : meth.sig.returnType = some .int) (hlk : meth.locks = false) (e1 : v = rv) (e2 : M = M') (d : decode cc pc = .ok (.ireturn, 1)) : V p l e R s m args below meth c (MQ below (FrI D cy q A rv M') args s 0 0 A) D cy q A s.heap nL 0 0 M pc L [.int v] := fun H locs ls hP hS hl => W.iret X.1.1 X.1.2.1 hr (fun t ht _ => ⟨⟨v, (), rfl, e1, by show va_P D vwCl (wd cy q M') t.heap; rw [ht, ← e2]; exact hP⟩, hS.F ht⟩) hS.2.2 d
theorem R_z (X : Fx p s m args c cc nL own Ts D cy q A s.heap) {v rv : Int32} (hr : meth.sig.returnType = some .boolean) (hlk : meth.locks = false) (hb : narrow .boolean (.int v) = .int v) (e1 : v = rv) (e2 : M = M') (d : decode cc pc = .ok (.ireturn, 1)) : V p l e R s m args below meth c (MQ below (FrI D cy q A rv M') args s 0 0 A) D cy q A s.heap nL 0 0 M pc L [.int v] := fun H locs ls hP hS hl => W.zret X.1.1 X.1.2.1 hr hb (fun t ht _ => ⟨⟨v, (), rfl, e1, by show va_P D vwCl (wd cy q M') t.heap; rw [ht, ← e2]; exact hP⟩, hS.F ht⟩) hS.2.2 d
theorem R_l (X : Fx p s m args c cc nL own Ts D cy q A s.heap) {v rv : Int64} (hr : meth.sig.returnType = some .long) (hlk : meth.locks = false) (e1 : v = rv) (e2 : M = M') (d : decode cc pc = .ok (.lreturn, 1)) : V p l e R s m args below meth c (MQ below (FrL D cy q A rv M') args s 0 0 A) D cy q A s.heap nL 0 0 M pc L [.long v] := fun H locs ls hP hS hl => W.lret X.1.1 X.1.2.1 hr (fun t ht _ => ⟨⟨v, (), rfl, e1, by show va_P D vwCl (wd cy q M') t.heap; rw [ht, ← e2]; exact hP⟩, hS.F ht⟩) hS.2.2 d
theorem R_v (X : Fx p s m args c cc nL own Ts D cy q A s.heap) (hr : meth.sig.returnType = none) (hlk : meth.locks = false) (e2 : M = M') (d : decode cc pc = .ok (.return_, 1)) : V p l e R s m args below meth c (MQ below (FrV D cy q A M') args s 0 0 A) D cy q A s.heap nL 0 0 M pc L [] := fun H locs ls hP hS hl => W.vret X.1.1 X.1.2.1 hr (fun t ht _ => ⟨⟨(), rfl, trivial, by show va_P D vwCl (wd cy q M') t.heap; rw [ht, ← e2]; exact hP⟩, hS.F ht⟩) hS.2.2 d
theorem R_r (X : Fx p s m args c cc nL own Ts D cy q A s.heap) {k : Nat} {rt : String} (hr : meth.sig.returnType = some (.object rt)) (hlk : meth.locks = false) (e2 : M = M') (d : decode cc pc = .ok (.areturn, 1)) : V p l e R s m args below meth c (MQ below (FrR D cy q A k M') args s 0 0 A) D cy q A s.heap nL 0 0 M pc L [.ref (q k)] := fun H locs ls hP hS hl => W.aret X.1.1 X.1.2.1 hr (Or.inl ⟨rt, rfl⟩) (Or.inr ⟨q k, rfl⟩) (fun t ht _ => ⟨⟨(), q k, rfl, trivial, rfl, by show va_P D vwCl (wd cy q M') t.heap; rw [ht, ← e2]; exact hP⟩, hS.F ht⟩) hS.2.2 d
theorem Pre_blind {av : List Value} {sz : Nat} : FrameBlind (va_Pc av (Pre D cy q M sz)) := fun a U g mk h => ⟨h.1, h.2.1, h.2.2.1, ⟨va_K.moved (u := U) (U := U.calling g mk a) (Vm.Alike.refl U.vm) h.2.2.2.1.1, Nw.same (u := U) (U := U.calling g mk a) rfl h.2.2.2.1.2⟩, h.2.2.2.2⟩
theorem Pre_at (X : Fx p s m args c cc nL own Ts D cy q A H0) {av : List Value} {H : Heap} (hP : va_P D vwCl (wd cy q M) H) : ∀ U : State, U.heap = H → s.WarmedH U.vm → va_Pc av (Pre D cy q M H.size) av.toArray U := fun U hU hW => ⟨rfl, by rw [hU], by rw [hU]; exact hP, ⟨va_K.moved hW.alike X.2.1.1, Nw.warm hW X.2.1.2⟩, X.2.2.2.2⟩
theorem Aq_in (X : Fx p s m args c cc nL own Ts D cy q A H0) {H : Heap} {locs : List Loc} (hS : va_S A H0 H locs) : ∀ x : Nat, Aq q H.size x → A x := by
  intro x h
  rcases h with ⟨k, hk, rfl⟩ | h
  · exact X.2.2.2.1 k hk
  · exact X.2.2.1 x (Nat.le_trans hS.1 h)
theorem C_Vi (X : Fx p s m args c cc nL own Ts D cy q A H0) {y : MethodName} {bytes : ByteArray} {maxL n idx : Nat} {ws : List Cond} {rm : Room} {As : List Value} {sk : List Value} {rt : FieldType} {rv : Int32} {C : String} {T : u_T} {N ci k0 a : Nat} {fs : List Value} (he : (wd cy q M)[k0]? = some (a, .inr (ci, fs))) (hc : vwCl[ci]? = some (C, T, N)) (cw : CallW R s args own C idx y bytes maxL (some rt) ws rm 0 0 n) (hn : As.length = n) (hsk : sk = As.reverse ++ .ref a :: st) (hcat : (st.map fun v => v.category).sum ≤ 8) (hf : cl + 0 ≤ R.cells ∧ sl + 0 ≤ R.slots) (hM : KI l y ws rm D cy q (.ref a :: As) M rv M') (d : decode cc pc = .ok (.invokevirtual idx, 3)) (kk : V p l e R s m args below meth c Q D cy q A H0 nL cl sl M' (pc + 3) L (.int rv :: st)) : V p l e R s m args below meth c Q D cy q A H0 nL cl sl M pc L sk :=
  fun H locs ls hP hS hl => va_calli (va_runV X.1 (hM H.size) cw ⟨Pre_blind, va_recv X.2.1.1 hP hc he, Pre_at X hP⟩ rfl hn hl.1 hsk (lv_room hcat) d hf) hS (fun x _ h => Aq_in X hS x h) (Aq_in X hS) (fun r u t H1 locs1 ht hvm hp hB hz hk hS1 => by cases hp; exact kk H1 locs1 ls (by rw [← ht]; exact hB) hS1 hl)
theorem C_Si (X : Fx p s m args c cc nL own Ts D cy q A H0) {y : MethodName} {bytes : ByteArray} {maxL n idx : Nat} {ws : List Cond} {rm : Room} {As : List Value} {sk : List Value} {rt : FieldType} {rv : Int32} (cw : CallB R s args own idx y bytes maxL (some rt) ws rm 0 0 n ∧ (Cond.static y).before args s = true) (hn : As.length = n) (hsk : sk = As.reverse ++ st) (hcat : (st.map fun v => v.category).sum ≤ 8) (hf : cl + 0 ≤ R.cells ∧ sl + 0 ≤ R.slots) (hM : KI l y ws rm D cy q As M rv M') (d : decode cc pc = .ok (.invokestatic idx, 3)) (kk : V p l e R s m args below meth c Q D cy q A H0 nL cl sl M' (pc + 3) L (.int rv :: st)) : V p l e R s m args below meth c Q D cy q A H0 nL cl sl M pc L sk :=
  fun H locs ls hP hS hl => va_calli (va_runS X.1 (hM H.size) cw ⟨Pre_blind, Pre_at X hP⟩ rfl hn hl.1 hsk (lv_room hcat) d hf) hS (fun x _ h => Aq_in X hS x h) (Aq_in X hS) (fun r u t H1 locs1 ht hvm hp hB hz hk hS1 => by cases hp; exact kk H1 locs1 ls (by rw [← ht]; exact hB) hS1 hl)
theorem C_Ni (X : Fx p s m args c cc nL own Ts D cy q A H0) {y : MethodName} {bytes : ByteArray} {maxL n idx : Nat} {ws : List Cond} {rm : Room} {As : List Value} {sk : List Value} {rt : FieldType} {host : String} {rv : Int32} (cw : va_CN R s args own idx y host bytes maxL (some rt) ws rm 0 0 n ∧ (Cond.static y).before args s = true ∧ True) (hn : As.length = n) (hsk : sk = As.reverse ++ st) (hcat : (st.map fun v => v.category).sum ≤ 8) (hf : cl + 0 ≤ R.cells ∧ sl + 0 ≤ R.slots) (hM : KI l y ws rm D cy q As M rv M') (d : decode cc pc = .ok (.invokestatic idx, 3)) (kk : V p l e R s m args below meth c Q D cy q A H0 nL cl sl M' (pc + 3) L (.int rv :: st)) : V p l e R s m args below meth c Q D cy q A H0 nL cl sl M pc L sk :=
  fun H locs ls hP hS hl => va_calli (va_runSN X.1 (hM H.size) cw ⟨Pre_blind, Pre_at X hP⟩ rfl hn hl.1 hsk (lv_room hcat) d hf) hS (fun x _ h => Aq_in X hS x h) (Aq_in X hS) (fun r u t H1 locs1 ht hvm hp hB hz hk hS1 => by cases hp; exact kk H1 locs1 ls (by rw [← ht]; exact hB) hS1 hl)
theorem C_Vl (X : Fx p s m args c cc nL own Ts D cy q A H0) {y : MethodName} {bytes : ByteArray} {maxL n idx : Nat} {ws : List Cond} {rm : Room} {As : List Value} {sk : List Value} {rv : Int64} {C : String} {T : u_T} {N ci k0 a : Nat} {fs : List Value} (he : (wd cy q M)[k0]? = some (a, .inr (ci, fs))) (hc : vwCl[ci]? = some (C, T, N)) (cw : CallW R s args own C idx y bytes maxL (some .long) ws rm 0 0 n) (hn : As.length = n) (hsk : sk = As.reverse ++ .ref a :: st) (hcat : (st.map fun v => v.category).sum ≤ 8) (hf : cl + 0 ≤ R.cells ∧ sl + 0 ≤ R.slots) (hM : KL l y ws rm D cy q (.ref a :: As) M rv M') (d : decode cc pc = .ok (.invokevirtual idx, 3)) (kk : V p l e R s m args below meth c Q D cy q A H0 nL cl sl M' (pc + 3) L (.long rv :: st)) : V p l e R s m args below meth c Q D cy q A H0 nL cl sl M pc L sk :=
  fun H locs ls hP hS hl => va_calll (va_runV X.1 (hM H.size) cw ⟨Pre_blind, va_recv X.2.1.1 hP hc he, Pre_at X hP⟩ rfl hn hl.1 hsk (lv_room hcat) d hf) hS (fun x _ h => Aq_in X hS x h) (Aq_in X hS) (fun r u t H1 locs1 ht hvm hp hB hz hk hS1 => by cases hp; exact kk H1 locs1 ls (by rw [← ht]; exact hB) hS1 hl)
theorem C_Sl (X : Fx p s m args c cc nL own Ts D cy q A H0) {y : MethodName} {bytes : ByteArray} {maxL n idx : Nat} {ws : List Cond} {rm : Room} {As : List Value} {sk : List Value} {rv : Int64} (cw : CallB R s args own idx y bytes maxL (some .long) ws rm 0 0 n ∧ (Cond.static y).before args s = true) (hn : As.length = n) (hsk : sk = As.reverse ++ st) (hcat : (st.map fun v => v.category).sum ≤ 8) (hf : cl + 0 ≤ R.cells ∧ sl + 0 ≤ R.slots) (hM : KL l y ws rm D cy q As M rv M') (d : decode cc pc = .ok (.invokestatic idx, 3)) (kk : V p l e R s m args below meth c Q D cy q A H0 nL cl sl M' (pc + 3) L (.long rv :: st)) : V p l e R s m args below meth c Q D cy q A H0 nL cl sl M pc L sk :=
  fun H locs ls hP hS hl => va_calll (va_runS X.1 (hM H.size) cw ⟨Pre_blind, Pre_at X hP⟩ rfl hn hl.1 hsk (lv_room hcat) d hf) hS (fun x _ h => Aq_in X hS x h) (Aq_in X hS) (fun r u t H1 locs1 ht hvm hp hB hz hk hS1 => by cases hp; exact kk H1 locs1 ls (by rw [← ht]; exact hB) hS1 hl)
theorem C_Vv (X : Fx p s m args c cc nL own Ts D cy q A H0) {y : MethodName} {bytes : ByteArray} {maxL n idx : Nat} {ws : List Cond} {rm : Room} {As : List Value} {sk : List Value}  {C : String} {T : u_T} {N ci k0 a : Nat} {fs : List Value} (he : (wd cy q M)[k0]? = some (a, .inr (ci, fs))) (hc : vwCl[ci]? = some (C, T, N)) (cw : CallW R s args own C idx y bytes maxL none ws rm 0 0 n) (hn : As.length = n) (hsk : sk = As.reverse ++ .ref a :: st) (hcat : (st.map fun v => v.category).sum ≤ 8) (hf : cl + 0 ≤ R.cells ∧ sl + 0 ≤ R.slots) (hM : KV l y ws rm D cy q (.ref a :: As) M M') (d : decode cc pc = .ok (.invokevirtual idx, 3)) (kk : V p l e R s m args below meth c Q D cy q A H0 nL cl sl M' (pc + 3) L (st)) : V p l e R s m args below meth c Q D cy q A H0 nL cl sl M pc L sk :=
  fun H locs ls hP hS hl => va_callv (va_runV X.1 (hM H.size) cw ⟨Pre_blind, va_recv X.2.1.1 hP hc he, Pre_at X hP⟩ rfl hn hl.1 hsk (lv_room hcat) d hf) hS (fun x _ h => Aq_in X hS x h) (Aq_in X hS) (fun u t H1 locs1 ht hvm hp hB hz hk hS1 => kk H1 locs1 ls (by rw [← ht]; exact hB) hS1 hl)
theorem C_Sv (X : Fx p s m args c cc nL own Ts D cy q A H0) {y : MethodName} {bytes : ByteArray} {maxL n idx : Nat} {ws : List Cond} {rm : Room} {As : List Value} {sk : List Value}  (cw : CallB R s args own idx y bytes maxL none ws rm 0 0 n ∧ (Cond.static y).before args s = true) (hn : As.length = n) (hsk : sk = As.reverse ++ st) (hcat : (st.map fun v => v.category).sum ≤ 8) (hf : cl + 0 ≤ R.cells ∧ sl + 0 ≤ R.slots) (hM : KV l y ws rm D cy q As M M') (d : decode cc pc = .ok (.invokestatic idx, 3)) (kk : V p l e R s m args below meth c Q D cy q A H0 nL cl sl M' (pc + 3) L (st)) : V p l e R s m args below meth c Q D cy q A H0 nL cl sl M pc L sk :=
  fun H locs ls hP hS hl => va_callv (va_runS X.1 (hM H.size) cw ⟨Pre_blind, Pre_at X hP⟩ rfl hn hl.1 hsk (lv_room hcat) d hf) hS (fun x _ h => Aq_in X hS x h) (Aq_in X hS) (fun u t H1 locs1 ht hvm hp hB hz hk hS1 => kk H1 locs1 ls (by rw [← ht]; exact hB) hS1 hl)
theorem C_Vr (X : Fx p s m args c cc nL own Ts D cy q A H0) {y : MethodName} {bytes : ByteArray} {maxL n idx : Nat} {ws : List Cond} {rm : Room} {As : List Value} {sk : List Value} {rt : FieldType} {k : Nat} {C : String} {T : u_T} {N ci k0 a : Nat} {fs : List Value} (he : (wd cy q M)[k0]? = some (a, .inr (ci, fs))) (hc : vwCl[ci]? = some (C, T, N)) (cw : CallW R s args own C idx y bytes maxL (some rt) ws rm 0 0 n) (hn : As.length = n) (hsk : sk = As.reverse ++ .ref a :: st) (hcat : (st.map fun v => v.category).sum ≤ 8) (hf : cl + 0 ≤ R.cells ∧ sl + 0 ≤ R.slots) (hM : KR l y ws rm D cy q (.ref a :: As) M k M') (d : decode cc pc = .ok (.invokevirtual idx, 3)) (kk : V p l e R s m args below meth c Q D cy q A H0 nL cl sl M' (pc + 3) L (.ref (q k) :: st)) : V p l e R s m args below meth c Q D cy q A H0 nL cl sl M pc L sk :=
  fun H locs ls hP hS hl => va_callr (va_runV X.1 (hM H.size) cw ⟨Pre_blind, va_recv X.2.1.1 hP hc he, Pre_at X hP⟩ rfl hn hl.1 hsk (lv_room hcat) d hf) hS (fun x _ h => Aq_in X hS x h) (Aq_in X hS) (fun u ra t H1 locs1 ht hvm hp hB hz hk hS1 => by obtain ⟨rfl, hB⟩ := hB; exact kk H1 locs1 ls (by rw [← ht]; exact hB) hS1 hl)
theorem C_min (X : Fx p s m args c cc nL own Ts D cy q A H0) {idx : Nat} {x y : Int32} (hlk : Cond.methodLink own idx Lib.Math.min.name ∈ Ts) (hst : Cond.static Lib.Math.min.name ∈ Ts) (hini : Cond.initialized "java/lang/Math" ∈ Ts) (hcode : Cond.code Lib.Math.min.name Lib.Math.min.code 2 (some .int) ∈ Ts) (hfr : 1 ≤ R.frames) (hlo : (st.map fun v => v.category).sum + 13 ≤ R.locals) (hf : cl ≤ R.cells ∧ sl ≤ R.slots) (d : decode cc pc = .ok (.invokestatic idx, 3)) (kk : V p l e R s m args below meth c Q D cy q A H0 nL cl sl M (pc + 3) L (.int (if y < x then y else x) :: st)) : V p l e R s m args below meth c Q D cy q A H0 nL cl sl M pc L (.int y :: .int x :: st) :=
  fun H locs ls hP hS hl => va_mmin X.1.1 X.1.2.1 (X.1.2.2.1.trans hl.1.symm) X.1.2.2.2.1 (X.1.2.2.2.2 _ hlk) (X.1.2.2.2.2 _ hst) (X.1.2.2.2.2 _ hini) (X.1.2.2.2.2 _ hcode) hfr hlo hf.1 hf.2 d (kk H locs ls hP hS hl)
theorem C_max (X : Fx p s m args c cc nL own Ts D cy q A H0) {idx : Nat} {x y : Int32} (hlk : Cond.methodLink own idx Lib.Math.max.name ∈ Ts) (hst : Cond.static Lib.Math.max.name ∈ Ts) (hini : Cond.initialized "java/lang/Math" ∈ Ts) (hcode : Cond.code Lib.Math.max.name Lib.Math.max.code 2 (some .int) ∈ Ts) (hfr : 1 ≤ R.frames) (hlo : (st.map fun v => v.category).sum + 13 ≤ R.locals) (hf : cl ≤ R.cells ∧ sl ≤ R.slots) (d : decode cc pc = .ok (.invokestatic idx, 3)) (kk : V p l e R s m args below meth c Q D cy q A H0 nL cl sl M (pc + 3) L (.int (if x < y then y else x) :: st)) : V p l e R s m args below meth c Q D cy q A H0 nL cl sl M pc L (.int y :: .int x :: st) :=
  fun H locs ls hP hS hl => va_mmax X.1.1 X.1.2.1 (X.1.2.2.1.trans hl.1.symm) X.1.2.2.2.1 (X.1.2.2.2.2 _ hlk) (X.1.2.2.2.2 _ hst) (X.1.2.2.2.2 _ hini) (X.1.2.2.2.2 _ hcode) hfr hlo hf.1 hf.2 d (kk H locs ls hP hS hl)
end VR
theorem KI.mk {l : Launch} {y : MethodName} {ws ws' : List Cond} {rm : Room} {D : va_G} {cy : Nat → ClassId} {q : Nat → Nat} {av : List Value} {M : Mm} {rv : Int32} {M' : Mm} {cc : ByteArray} {maxL : Nat} {ret : Option FieldType} {L0 : List (Nat × Value)} (hy : plainName y.cls = true) (hw : ws = Cond.code y cc maxL ret :: ws') (hml : (lg_sl av).length ≤ maxL) (hL : lv_args 0 av = L0) (hrc : rm.cells = 0) (hrs : rm.slots = 0)
    (body : ∀ (p : Program) (e : Env) (s : State) (m : MethodId) (below : List Frame) (meth : Method) (c : Code), Fx p s m av.toArray c cc maxL y.cls ws D cy q (Aq q s.heap.size) s.heap → meth.sig.returnType = ret → meth.locks = false → V p l e rm s m av.toArray below meth c (MQ below (FrI D cy q (Aq q s.heap.size) rv M') av.toArray s 0 0 (Aq q s.heap.size)) D cy q (Aq q s.heap.size) s.heap maxL 0 0 M 0 L0 []) : KI l y ws rm D cy q av M rv M' := by
  intro sz
  refine Met.ofW (cc := cc) (maxL := maxL) (ret := ret) hy hw ?_
  intro p e s m args below meth c s₁ B hml0 hv
  obtain ⟨rfl, hsz, hP, hK, hq⟩ := hv
  have hts := atoms_spec (ws := ws) B.pre
  subst hsz
  rw [lg_entry_eq]
  exact body p e s m below meth c ⟨⟨B.exec, B.bytes, hml0, findClass_of_methodNamed B.named, hts⟩, hK, fun x hx => Or.inr hx, fun k hk => Or.inl ⟨k, hk, rfl⟩, hq⟩ B.returns B.notSynchronized s.heap [] _ hP va_S.rf (by rw [← hL]; exact lv_entry av hml)
theorem KL.mk {l : Launch} {y : MethodName} {ws ws' : List Cond} {rm : Room} {D : va_G} {cy : Nat → ClassId} {q : Nat → Nat} {av : List Value} {M : Mm} {rv : Int64} {M' : Mm} {cc : ByteArray} {maxL : Nat} {ret : Option FieldType} {L0 : List (Nat × Value)} (hy : plainName y.cls = true) (hw : ws = Cond.code y cc maxL ret :: ws') (hml : (lg_sl av).length ≤ maxL) (hL : lv_args 0 av = L0) (hrc : rm.cells = 0) (hrs : rm.slots = 0)
    (body : ∀ (p : Program) (e : Env) (s : State) (m : MethodId) (below : List Frame) (meth : Method) (c : Code), Fx p s m av.toArray c cc maxL y.cls ws D cy q (Aq q s.heap.size) s.heap → meth.sig.returnType = ret → meth.locks = false → V p l e rm s m av.toArray below meth c (MQ below (FrL D cy q (Aq q s.heap.size) rv M') av.toArray s 0 0 (Aq q s.heap.size)) D cy q (Aq q s.heap.size) s.heap maxL 0 0 M 0 L0 []) : KL l y ws rm D cy q av M rv M' := by
  intro sz
  refine Met.ofW (cc := cc) (maxL := maxL) (ret := ret) hy hw ?_
  intro p e s m args below meth c s₁ B hml0 hv
  obtain ⟨rfl, hsz, hP, hK, hq⟩ := hv
  have hts := atoms_spec (ws := ws) B.pre
  subst hsz
  rw [lg_entry_eq]
  exact body p e s m below meth c ⟨⟨B.exec, B.bytes, hml0, findClass_of_methodNamed B.named, hts⟩, hK, fun x hx => Or.inr hx, fun k hk => Or.inl ⟨k, hk, rfl⟩, hq⟩ B.returns B.notSynchronized s.heap [] _ hP va_S.rf (by rw [← hL]; exact lv_entry av hml)
theorem KV.mk {l : Launch} {y : MethodName} {ws ws' : List Cond} {rm : Room} {D : va_G} {cy : Nat → ClassId} {q : Nat → Nat} {av : List Value} {M : Mm}  {M' : Mm} {cc : ByteArray} {maxL : Nat} {ret : Option FieldType} {L0 : List (Nat × Value)} (hy : plainName y.cls = true) (hw : ws = Cond.code y cc maxL ret :: ws') (hml : (lg_sl av).length ≤ maxL) (hL : lv_args 0 av = L0) (hrc : rm.cells = 0) (hrs : rm.slots = 0)
    (body : ∀ (p : Program) (e : Env) (s : State) (m : MethodId) (below : List Frame) (meth : Method) (c : Code), Fx p s m av.toArray c cc maxL y.cls ws D cy q (Aq q s.heap.size) s.heap → meth.sig.returnType = ret → meth.locks = false → V p l e rm s m av.toArray below meth c (MQ below (FrV D cy q (Aq q s.heap.size)  M') av.toArray s 0 0 (Aq q s.heap.size)) D cy q (Aq q s.heap.size) s.heap maxL 0 0 M 0 L0 []) : KV l y ws rm D cy q av M  M' := by
  intro sz
  refine Met.ofW (cc := cc) (maxL := maxL) (ret := ret) hy hw ?_
  intro p e s m args below meth c s₁ B hml0 hv
  obtain ⟨rfl, hsz, hP, hK, hq⟩ := hv
  have hts := atoms_spec (ws := ws) B.pre
  subst hsz
  rw [lg_entry_eq]
  exact body p e s m below meth c ⟨⟨B.exec, B.bytes, hml0, findClass_of_methodNamed B.named, hts⟩, hK, fun x hx => Or.inr hx, fun k hk => Or.inl ⟨k, hk, rfl⟩, hq⟩ B.returns B.notSynchronized s.heap [] _ hP va_S.rf (by rw [← hL]; exact lv_entry av hml)
theorem KR.mk {l : Launch} {y : MethodName} {ws ws' : List Cond} {rm : Room} {D : va_G} {cy : Nat → ClassId} {q : Nat → Nat} {av : List Value} {M : Mm} {rv : Nat} {M' : Mm} {cc : ByteArray} {maxL : Nat} {ret : Option FieldType} {L0 : List (Nat × Value)} (hy : plainName y.cls = true) (hw : ws = Cond.code y cc maxL ret :: ws') (hml : (lg_sl av).length ≤ maxL) (hL : lv_args 0 av = L0) (hrc : rm.cells = 0) (hrs : rm.slots = 0)
    (body : ∀ (p : Program) (e : Env) (s : State) (m : MethodId) (below : List Frame) (meth : Method) (c : Code), Fx p s m av.toArray c cc maxL y.cls ws D cy q (Aq q s.heap.size) s.heap → meth.sig.returnType = ret → meth.locks = false → V p l e rm s m av.toArray below meth c (MQ below (FrR D cy q (Aq q s.heap.size) rv M') av.toArray s 0 0 (Aq q s.heap.size)) D cy q (Aq q s.heap.size) s.heap maxL 0 0 M 0 L0 []) : KR l y ws rm D cy q av M rv M' := by
  intro sz
  refine Met.ofW (cc := cc) (maxL := maxL) (ret := ret) hy hw ?_
  intro p e s m args below meth c s₁ B hml0 hv
  obtain ⟨rfl, hsz, hP, hK, hq⟩ := hv
  have hts := atoms_spec (ws := ws) B.pre
  subst hsz
  rw [lg_entry_eq]
  exact body p e s m below meth c ⟨⟨B.exec, B.bytes, hml0, findClass_of_methodNamed B.named, hts⟩, hK, fun x hx => Or.inr hx, fun k hk => Or.inl ⟨k, hk, rfl⟩, hq⟩ B.returns B.notSynchronized s.heap [] _ hP va_S.rf (by rw [← hL]; exact lv_entry av hml)
end
section
def isRow (k : Nat) : Prop := k = 1 ∨ k = 3 ∨ k = 5 ∨ k = 7 ∨ k = 9 ∨ k = 11
def isTly (k : Nat) : Prop := k = 33 ∨ k = 35
def isA60 (k : Nat) : Prop := k = 2 ∨ k = 4 ∨ k = 6 ∨ k = 8 ∨ k = 10 ∨ k = 12 ∨ k = 19 ∨ k = 20 ∨ k = 21 ∨ k = 22 ∨ k = 23 ∨ k = 24 ∨ k = 25 ∨ k = 26 ∨ k = 27 ∨ k = 28 ∨ k = 29 ∨ k = 30 ∨ k = 31 ∨ k = 32
def isA16 (k : Nat) : Prop := k = 34 ∨ k = 36
theorem wd_row {cy : Nat → ClassId} {q : Nat → Nat} {M : Mm} {k : Nat} (h : isRow k) : (wd cy q M)[k]? = some (q k, .inr (3, [.ref (q (k + 1)), .int (M k 1)])) := by
  rcases h with rfl | rfl | rfl | rfl | rfl | rfl <;> rfl
theorem wd_row_set {cy : Nat → ClassId} {q : Nat → Nat} {M : Mm} {k : Nat} {x : Int32} (h : isRow k) : (wd cy q M).set k (q k, .inr (3, [.ref (q (k + 1)), .int x])) = wd cy q (up M k 1 x) := by
  rcases h with rfl | rfl | rfl | rfl | rfl | rfl <;> rfl
theorem wd_tly {cy : Nat → ClassId} {q : Nat → Nat} {M : Mm} {k : Nat} (h : isTly k) : (wd cy q M)[k]? = some (q k, .inr (4, [.ref (q (k + 1))])) := by
  rcases h with rfl | rfl <;> rfl
theorem wd_a60 {cy : Nat → ClassId} {q : Nat → Nat} {M : Mm} {k : Nat} (h : isA60 k) : (wd cy q M)[k]? = some (q k, .inl (cy 0, 60, .inl (M k))) := by
  rcases h with rfl | rfl | rfl | rfl | rfl | rfl | rfl | rfl | rfl | rfl | rfl | rfl | rfl | rfl | rfl | rfl | rfl | rfl | rfl | rfl <;> rfl
theorem wd_a60_set {cy : Nat → ClassId} {q : Nat → Nat} {M : Mm} {k i : Nat} {x : Int32} (h : isA60 k) : (wd cy q M).set k (q k, .inl (cy 0, 60, .inl (upd (M k) i x))) = wd cy q (up M k i x) := by
  rcases h with rfl | rfl | rfl | rfl | rfl | rfl | rfl | rfl | rfl | rfl | rfl | rfl | rfl | rfl | rfl | rfl | rfl | rfl | rfl | rfl <;> rfl
theorem wd_a16 {cy : Nat → ClassId} {q : Nat → Nat} {M : Mm} {k : Nat} (h : isA16 k) : (wd cy q M)[k]? = some (q k, .inl (cy 0, 16, .inl (M k))) := by
  rcases h with rfl | rfl <;> rfl
theorem wd_a16_set {cy : Nat → ClassId} {q : Nat → Nat} {M : Mm} {k i : Nat} {x : Int32} (h : isA16 k) : (wd cy q M).set k (q k, .inl (cy 0, 16, .inl (upd (M k) i x))) = wd cy q (up M k i x) := by
  rcases h with rfl | rfl <;> rfl
theorem isRow_a {k : Nat} (h : isRow k) : isA60 (k + 1) := by
  unfold isRow at h
  unfold isA60
  omega
theorem isTly_a {k : Nat} (h : isTly k) : isA16 (k + 1) := by
  unfold isTly at h
  unfold isA16
  omega
theorem isRow_h {i : Int32} (h : inb i 4 = true) : isRow (3 + 2 * i.toNatClampNeg) := by
  have := inb_lt h
  unfold isRow
  omega
theorem isA60_19 {i : Int32} (h : inb i 5 = true) : isA60 (19 + i.toNatClampNeg) := by
  have := inb_lt h
  unfold isA60
  omega
theorem isA60_24 {i : Int32} (h : inb i 5 = true) : isA60 (24 + i.toNatClampNeg) := by
  have := inb_lt h
  unfold isA60
  omega
theorem isA60_29 {i : Int32} (h : inb i 4 = true) : isA60 (29 + i.toNatClampNeg) := by
  have := inb_lt h
  unfold isA60
  omega
theorem wd_c41 {cy : Nat → ClassId} {q : Nat → Nat} {M : Mm} : (wd cy q M)[41]? = some (q 41, .inl (cy 0, 61, .inl (M 41))) := rfl
theorem wd_c41_set {cy : Nat → ClassId} {q : Nat → Nat} {M : Mm} {i : Nat} {x : Int32} : (wd cy q M).set 41 (q 41, .inl (cy 0, 61, .inl (upd (M 41) i x))) = wd cy q (up M 41 i x) := rfl
theorem wd_c42 {cy : Nat → ClassId} {q : Nat → Nat} {M : Mm} : (wd cy q M)[42]? = some (q 42, .inl (cy 0, 244, .inl (M 42))) := rfl
theorem wd_c42_set {cy : Nat → ClassId} {q : Nat → Nat} {M : Mm} {i : Nat} {x : Int32} : (wd cy q M).set 42 (q 42, .inl (cy 0, 244, .inl (upd (M 42) i x))) = wd cy q (up M 42 i x) := rfl
theorem wd_c43 {cy : Nat → ClassId} {q : Nat → Nat} {M : Mm} : (wd cy q M)[43]? = some (q 43, .inl (cy 0, 61, .inl (M 43))) := rfl
theorem wd_c43_set {cy : Nat → ClassId} {q : Nat → Nat} {M : Mm} {i : Nat} {x : Int32} : (wd cy q M).set 43 (q 43, .inl (cy 0, 61, .inl (upd (M 43) i x))) = wd cy q (up M 43 i x) := rfl
theorem wd_c44 {cy : Nat → ClassId} {q : Nat → Nat} {M : Mm} : (wd cy q M)[44]? = some (q 44, .inl (cy 0, 61, .inl (M 44))) := rfl
theorem wd_c44_set {cy : Nat → ClassId} {q : Nat → Nat} {M : Mm} {i : Nat} {x : Int32} : (wd cy q M).set 44 (q 44, .inl (cy 0, 61, .inl (upd (M 44) i x))) = wd cy q (up M 44 i x) := rfl
theorem wd_c45 {cy : Nat → ClassId} {q : Nat → Nat} {M : Mm} : (wd cy q M)[45]? = some (q 45, .inl (cy 1, 60, .inl (M 45))) := rfl
theorem wd_c45_set {cy : Nat → ClassId} {q : Nat → Nat} {M : Mm} {i : Nat} {x : Int32} : (wd cy q M).set 45 (q 45, .inl (cy 1, 60, .inl (upd (M 45) i x))) = wd cy q (up M 45 i x) := rfl
theorem wd_c46 {cy : Nat → ClassId} {q : Nat → Nat} {M : Mm} : (wd cy q M)[46]? = some (q 46, .inl (cy 0, 300, .inl (M 46))) := rfl
theorem wd_c46_set {cy : Nat → ClassId} {q : Nat → Nat} {M : Mm} {i : Nat} {x : Int32} : (wd cy q M).set 46 (q 46, .inl (cy 0, 300, .inl (upd (M 46) i x))) = wd cy q (up M 46 i x) := rfl
theorem wd_c47 {cy : Nat → ClassId} {q : Nat → Nat} {M : Mm} : (wd cy q M)[47]? = some (q 47, .inl (cy 0, 300, .inl (M 47))) := rfl
theorem wd_c47_set {cy : Nat → ClassId} {q : Nat → Nat} {M : Mm} {i : Nat} {x : Int32} : (wd cy q M).set 47 (q 47, .inl (cy 0, 300, .inl (upd (M 47) i x))) = wd cy q (up M 47 i x) := rfl
theorem wd_c48 {cy : Nat → ClassId} {q : Nat → Nat} {M : Mm} : (wd cy q M)[48]? = some (q 48, .inl (cy 0, 16, .inl (M 48))) := rfl
theorem wd_c48_set {cy : Nat → ClassId} {q : Nat → Nat} {M : Mm} {i : Nat} {x : Int32} : (wd cy q M).set 48 (q 48, .inl (cy 0, 16, .inl (upd (M 48) i x))) = wd cy q (up M 48 i x) := rfl
theorem wd_c49 {cy : Nat → ClassId} {q : Nat → Nat} {M : Mm} : (wd cy q M)[49]? = some (q 49, .inl (cy 0, 16, .inl (M 49))) := rfl
theorem wd_c49_set {cy : Nat → ClassId} {q : Nat → Nat} {M : Mm} {i : Nat} {x : Int32} : (wd cy q M).set 49 (q 49, .inl (cy 0, 16, .inl (upd (M 49) i x))) = wd cy q (up M 49 i x) := rfl
theorem wd_c38 {cy : Nat → ClassId} {q : Nat → Nat} {M : Mm} : (wd cy q M)[38]? = some (q 38, .inl (cy 1, 60, .inl (M 38))) := rfl
theorem wd_c38_set {cy : Nat → ClassId} {q : Nat → Nat} {M : Mm} {i : Nat} {x : Int32} : (wd cy q M).set 38 (q 38, .inl (cy 1, 60, .inl (upd (M 38) i x))) = wd cy q (up M 38 i x) := rfl
section VR
variable {p : Program} {l : Launch} {e : Env} {R : Room} {s : State} {m : MethodId} {args : Array Value} {below : List Frame} {meth : Method} {c : Code} {Q : State → Prop} {D : va_G} {cy : Nat → ClassId} {q : Nat → Nat} {A : Nat → Prop} {H0 : Heap} {nL cl sl : Nat} {M M' : Mm} {pc : Nat} {L L' : List (Nat × Value)} {st : List Value} {cc : ByteArray} {own : String} {Ts : List Cond} {α : Type} {P : α → Prop}
theorem G_0_0 (X : Fx p s m args c cc nL own Ts D cy q A H0) {idx : Nat} (hin : ∀ w ∈ u_ws RX0 TX0 2, w ∈ Ts) (hlk : Cond.fieldLink own idx (TX0 0).1 (TX0 0).2.1 (TX0 0).2.2.1 ∈ Ts) (d : decode cc pc = .ok (.getfield idx, 3)) (kk : V p l e R s m args below meth c Q D cy q A H0 nL cl sl M (pc + 3) L (.ref (q 14) :: st)) : V p l e R s m args below meth c Q D cy q A H0 nL cl sl M pc L (.ref (q 13) :: st) := V_get (k0 := 13) (ci := 0) (j := 0) X rfl rfl hin (by decide) hlk rfl d kk
theorem G_0_1 (X : Fx p s m args c cc nL own Ts D cy q A H0) {idx : Nat} (hin : ∀ w ∈ u_ws RX0 TX0 2, w ∈ Ts) (hlk : Cond.fieldLink own idx (TX0 1).1 (TX0 1).2.1 (TX0 1).2.2.1 ∈ Ts) (d : decode cc pc = .ok (.getfield idx, 3)) (kk : V p l e R s m args below meth c Q D cy q A H0 nL cl sl M (pc + 3) L (.int (M 13 1) :: st)) : V p l e R s m args below meth c Q D cy q A H0 nL cl sl M pc L (.ref (q 13) :: st) := V_get (k0 := 13) (ci := 0) (j := 1) X rfl rfl hin (by decide) hlk rfl d kk
theorem P_0_1 (X : Fx p s m args c cc nL own Ts D cy q A H0) {idx : Nat} {x : Int32} (hin : ∀ w ∈ u_ws RX0 TX0 2, w ∈ Ts) (hlk : Cond.fieldLink own idx (TX0 1).1 (TX0 1).2.1 (TX0 1).2.2.1 ∈ Ts) (d : decode cc pc = .ok (.putfield idx, 3)) (kk : V p l e R s m args below meth c Q D cy q A H0 nL cl sl (up M 13 1 x) (pc + 3) L st) : V p l e R s m args below meth c Q D cy q A H0 nL cl sl M pc L (.int x :: .ref (q 13) :: st) := V_put (k0 := 13) (ci := 0) (j := 1) (M' := up M 13 1 x) X rfl rfl hin tyX0 tyX0_ok nmX0 (by decide) hlk rfl (by decide +kernel) (Nat.le_of_ble_eq_true rfl) rfl d kk
theorem G_1_0 (X : Fx p s m args c cc nL own Ts D cy q A H0) {idx : Nat} (hin : ∀ w ∈ u_ws RX1 TX1 4, w ∈ Ts) (hlk : Cond.fieldLink own idx (TX1 0).1 (TX1 0).2.1 (TX1 0).2.2.1 ∈ Ts) (d : decode cc pc = .ok (.getfield idx, 3)) (kk : V p l e R s m args below meth c Q D cy q A H0 nL cl sl M (pc + 3) L (.ref (q 16) :: st)) : V p l e R s m args below meth c Q D cy q A H0 nL cl sl M pc L (.ref (q 15) :: st) := V_get (k0 := 15) (ci := 1) (j := 0) X rfl rfl hin (by decide) hlk rfl d kk
theorem G_1_1 (X : Fx p s m args c cc nL own Ts D cy q A H0) {idx : Nat} (hin : ∀ w ∈ u_ws RX1 TX1 4, w ∈ Ts) (hlk : Cond.fieldLink own idx (TX1 1).1 (TX1 1).2.1 (TX1 1).2.2.1 ∈ Ts) (d : decode cc pc = .ok (.getfield idx, 3)) (kk : V p l e R s m args below meth c Q D cy q A H0 nL cl sl M (pc + 3) L (.ref (q 17) :: st)) : V p l e R s m args below meth c Q D cy q A H0 nL cl sl M pc L (.ref (q 15) :: st) := V_get (k0 := 15) (ci := 1) (j := 1) X rfl rfl hin (by decide) hlk rfl d kk
theorem G_1_2 (X : Fx p s m args c cc nL own Ts D cy q A H0) {idx : Nat} (hin : ∀ w ∈ u_ws RX1 TX1 4, w ∈ Ts) (hlk : Cond.fieldLink own idx (TX1 2).1 (TX1 2).2.1 (TX1 2).2.2.1 ∈ Ts) (d : decode cc pc = .ok (.getfield idx, 3)) (kk : V p l e R s m args below meth c Q D cy q A H0 nL cl sl M (pc + 3) L (.ref (q 18) :: st)) : V p l e R s m args below meth c Q D cy q A H0 nL cl sl M pc L (.ref (q 15) :: st) := V_get (k0 := 15) (ci := 1) (j := 2) X rfl rfl hin (by decide) hlk rfl d kk
theorem G_1_3 (X : Fx p s m args c cc nL own Ts D cy q A H0) {idx : Nat} (hin : ∀ w ∈ u_ws RX1 TX1 4, w ∈ Ts) (hlk : Cond.fieldLink own idx (TX1 3).1 (TX1 3).2.1 (TX1 3).2.2.1 ∈ Ts) (d : decode cc pc = .ok (.getfield idx, 3)) (kk : V p l e R s m args below meth c Q D cy q A H0 nL cl sl M (pc + 3) L (.int (M 15 3) :: st)) : V p l e R s m args below meth c Q D cy q A H0 nL cl sl M pc L (.ref (q 15) :: st) := V_get (k0 := 15) (ci := 1) (j := 3) X rfl rfl hin (by decide) hlk rfl d kk
theorem P_1_3 (X : Fx p s m args c cc nL own Ts D cy q A H0) {idx : Nat} {x : Int32} (hin : ∀ w ∈ u_ws RX1 TX1 4, w ∈ Ts) (hlk : Cond.fieldLink own idx (TX1 3).1 (TX1 3).2.1 (TX1 3).2.2.1 ∈ Ts) (d : decode cc pc = .ok (.putfield idx, 3)) (kk : V p l e R s m args below meth c Q D cy q A H0 nL cl sl (up M 15 3 x) (pc + 3) L st) : V p l e R s m args below meth c Q D cy q A H0 nL cl sl M pc L (.int x :: .ref (q 15) :: st) := V_put (k0 := 15) (ci := 1) (j := 3) (M' := up M 15 3 x) X rfl rfl hin tyX1 tyX1_ok nmX1 (by decide) hlk rfl (by decide +kernel) (Nat.le_of_ble_eq_true rfl) rfl d kk
theorem G_2_0 (X : Fx p s m args c cc nL own Ts D cy q A H0) {idx : Nat} (hin : ∀ w ∈ u_ws RX2 TX2 10, w ∈ Ts) (hlk : Cond.fieldLink own idx (TX2 0).1 (TX2 0).2.1 (TX2 0).2.2.1 ∈ Ts) (d : decode cc pc = .ok (.getfield idx, 3)) (kk : V p l e R s m args below meth c Q D cy q A H0 nL cl sl M (pc + 3) L (.ref (q 37) :: st)) : V p l e R s m args below meth c Q D cy q A H0 nL cl sl M pc L (.ref (q 39) :: st) := V_get (k0 := 39) (ci := 2) (j := 0) X rfl rfl hin (by decide) hlk rfl d kk
theorem G_2_1 (X : Fx p s m args c cc nL own Ts D cy q A H0) {idx : Nat} (hin : ∀ w ∈ u_ws RX2 TX2 10, w ∈ Ts) (hlk : Cond.fieldLink own idx (TX2 1).1 (TX2 1).2.1 (TX2 1).2.2.1 ∈ Ts) (d : decode cc pc = .ok (.getfield idx, 3)) (kk : V p l e R s m args below meth c Q D cy q A H0 nL cl sl M (pc + 3) L (.ref (q 11) :: st)) : V p l e R s m args below meth c Q D cy q A H0 nL cl sl M pc L (.ref (q 39) :: st) := V_get (k0 := 39) (ci := 2) (j := 1) X rfl rfl hin (by decide) hlk rfl d kk
theorem G_2_2 (X : Fx p s m args c cc nL own Ts D cy q A H0) {idx : Nat} (hin : ∀ w ∈ u_ws RX2 TX2 10, w ∈ Ts) (hlk : Cond.fieldLink own idx (TX2 2).1 (TX2 2).2.1 (TX2 2).2.2.1 ∈ Ts) (d : decode cc pc = .ok (.getfield idx, 3)) (kk : V p l e R s m args below meth c Q D cy q A H0 nL cl sl M (pc + 3) L (.int (M 39 2) :: st)) : V p l e R s m args below meth c Q D cy q A H0 nL cl sl M pc L (.ref (q 39) :: st) := V_get (k0 := 39) (ci := 2) (j := 2) X rfl rfl hin (by decide) hlk rfl d kk
theorem P_2_2 (X : Fx p s m args c cc nL own Ts D cy q A H0) {idx : Nat} {x : Int32} (hin : ∀ w ∈ u_ws RX2 TX2 10, w ∈ Ts) (hlk : Cond.fieldLink own idx (TX2 2).1 (TX2 2).2.1 (TX2 2).2.2.1 ∈ Ts) (d : decode cc pc = .ok (.putfield idx, 3)) (kk : V p l e R s m args below meth c Q D cy q A H0 nL cl sl (up M 39 2 x) (pc + 3) L st) : V p l e R s m args below meth c Q D cy q A H0 nL cl sl M pc L (.int x :: .ref (q 39) :: st) := V_put (k0 := 39) (ci := 2) (j := 2) (M' := up M 39 2 x) X rfl rfl hin tyX2 tyX2_ok nmX2 (by decide) hlk rfl (by decide +kernel) (Nat.le_of_ble_eq_true rfl) rfl d kk
theorem G_2_3 (X : Fx p s m args c cc nL own Ts D cy q A H0) {idx : Nat} (hin : ∀ w ∈ u_ws RX2 TX2 10, w ∈ Ts) (hlk : Cond.fieldLink own idx (TX2 3).1 (TX2 3).2.1 (TX2 3).2.2.1 ∈ Ts) (d : decode cc pc = .ok (.getfield idx, 3)) (kk : V p l e R s m args below meth c Q D cy q A H0 nL cl sl M (pc + 3) L (.int (M 39 3) :: st)) : V p l e R s m args below meth c Q D cy q A H0 nL cl sl M pc L (.ref (q 39) :: st) := V_get (k0 := 39) (ci := 2) (j := 3) X rfl rfl hin (by decide) hlk rfl d kk
theorem P_2_3 (X : Fx p s m args c cc nL own Ts D cy q A H0) {idx : Nat} {x : Int32} (hin : ∀ w ∈ u_ws RX2 TX2 10, w ∈ Ts) (hlk : Cond.fieldLink own idx (TX2 3).1 (TX2 3).2.1 (TX2 3).2.2.1 ∈ Ts) (d : decode cc pc = .ok (.putfield idx, 3)) (kk : V p l e R s m args below meth c Q D cy q A H0 nL cl sl (up M 39 3 x) (pc + 3) L st) : V p l e R s m args below meth c Q D cy q A H0 nL cl sl M pc L (.int x :: .ref (q 39) :: st) := V_put (k0 := 39) (ci := 2) (j := 3) (M' := up M 39 3 x) X rfl rfl hin tyX2 tyX2_ok nmX2 (by decide) hlk rfl (by decide +kernel) (Nat.le_of_ble_eq_true rfl) rfl d kk
theorem G_2_4 (X : Fx p s m args c cc nL own Ts D cy q A H0) {idx : Nat} (hin : ∀ w ∈ u_ws RX2 TX2 10, w ∈ Ts) (hlk : Cond.fieldLink own idx (TX2 4).1 (TX2 4).2.1 (TX2 4).2.2.1 ∈ Ts) (d : decode cc pc = .ok (.getfield idx, 3)) (kk : V p l e R s m args below meth c Q D cy q A H0 nL cl sl M (pc + 3) L (.int (M 39 4) :: st)) : V p l e R s m args below meth c Q D cy q A H0 nL cl sl M pc L (.ref (q 39) :: st) := V_get (k0 := 39) (ci := 2) (j := 4) X rfl rfl hin (by decide) hlk rfl d kk
theorem P_2_4 (X : Fx p s m args c cc nL own Ts D cy q A H0) {idx : Nat} {x : Int32} (hin : ∀ w ∈ u_ws RX2 TX2 10, w ∈ Ts) (hlk : Cond.fieldLink own idx (TX2 4).1 (TX2 4).2.1 (TX2 4).2.2.1 ∈ Ts) (d : decode cc pc = .ok (.putfield idx, 3)) (kk : V p l e R s m args below meth c Q D cy q A H0 nL cl sl (up M 39 4 x) (pc + 3) L st) : V p l e R s m args below meth c Q D cy q A H0 nL cl sl M pc L (.int x :: .ref (q 39) :: st) := V_put (k0 := 39) (ci := 2) (j := 4) (M' := up M 39 4 x) X rfl rfl hin tyX2 tyX2_ok nmX2 (by decide) hlk rfl (by decide +kernel) (Nat.le_of_ble_eq_true rfl) rfl d kk
theorem G_2_5 (X : Fx p s m args c cc nL own Ts D cy q A H0) {idx : Nat} (hin : ∀ w ∈ u_ws RX2 TX2 10, w ∈ Ts) (hlk : Cond.fieldLink own idx (TX2 5).1 (TX2 5).2.1 (TX2 5).2.2.1 ∈ Ts) (d : decode cc pc = .ok (.getfield idx, 3)) (kk : V p l e R s m args below meth c Q D cy q A H0 nL cl sl M (pc + 3) L (.int (M 39 5) :: st)) : V p l e R s m args below meth c Q D cy q A H0 nL cl sl M pc L (.ref (q 39) :: st) := V_get (k0 := 39) (ci := 2) (j := 5) X rfl rfl hin (by decide) hlk rfl d kk
theorem P_2_5 (X : Fx p s m args c cc nL own Ts D cy q A H0) {idx : Nat} {x : Int32} (hin : ∀ w ∈ u_ws RX2 TX2 10, w ∈ Ts) (hlk : Cond.fieldLink own idx (TX2 5).1 (TX2 5).2.1 (TX2 5).2.2.1 ∈ Ts) (d : decode cc pc = .ok (.putfield idx, 3)) (kk : V p l e R s m args below meth c Q D cy q A H0 nL cl sl (up M 39 5 x) (pc + 3) L st) : V p l e R s m args below meth c Q D cy q A H0 nL cl sl M pc L (.int x :: .ref (q 39) :: st) := V_put (k0 := 39) (ci := 2) (j := 5) (M' := up M 39 5 x) X rfl rfl hin tyX2 tyX2_ok nmX2 (by decide) hlk rfl (by decide +kernel) (Nat.le_of_ble_eq_true rfl) rfl d kk
theorem G_2_6 (X : Fx p s m args c cc nL own Ts D cy q A H0) {idx : Nat} (hin : ∀ w ∈ u_ws RX2 TX2 10, w ∈ Ts) (hlk : Cond.fieldLink own idx (TX2 6).1 (TX2 6).2.1 (TX2 6).2.2.1 ∈ Ts) (d : decode cc pc = .ok (.getfield idx, 3)) (kk : V p l e R s m args below meth c Q D cy q A H0 nL cl sl M (pc + 3) L (.int (M 39 6) :: st)) : V p l e R s m args below meth c Q D cy q A H0 nL cl sl M pc L (.ref (q 39) :: st) := V_get (k0 := 39) (ci := 2) (j := 6) X rfl rfl hin (by decide) hlk rfl d kk
theorem P_2_6 (X : Fx p s m args c cc nL own Ts D cy q A H0) {idx : Nat} {x : Int32} (hin : ∀ w ∈ u_ws RX2 TX2 10, w ∈ Ts) (hlk : Cond.fieldLink own idx (TX2 6).1 (TX2 6).2.1 (TX2 6).2.2.1 ∈ Ts) (d : decode cc pc = .ok (.putfield idx, 3)) (kk : V p l e R s m args below meth c Q D cy q A H0 nL cl sl (up M 39 6 x) (pc + 3) L st) : V p l e R s m args below meth c Q D cy q A H0 nL cl sl M pc L (.int x :: .ref (q 39) :: st) := V_put (k0 := 39) (ci := 2) (j := 6) (M' := up M 39 6 x) X rfl rfl hin tyX2 tyX2_ok nmX2 (by decide) hlk rfl (by decide +kernel) (Nat.le_of_ble_eq_true rfl) rfl d kk
theorem G_2_7 (X : Fx p s m args c cc nL own Ts D cy q A H0) {idx : Nat} (hin : ∀ w ∈ u_ws RX2 TX2 10, w ∈ Ts) (hlk : Cond.fieldLink own idx (TX2 7).1 (TX2 7).2.1 (TX2 7).2.2.1 ∈ Ts) (d : decode cc pc = .ok (.getfield idx, 3)) (kk : V p l e R s m args below meth c Q D cy q A H0 nL cl sl M (pc + 3) L (.int (M 39 7) :: st)) : V p l e R s m args below meth c Q D cy q A H0 nL cl sl M pc L (.ref (q 39) :: st) := V_get (k0 := 39) (ci := 2) (j := 7) X rfl rfl hin (by decide) hlk rfl d kk
theorem P_2_7 (X : Fx p s m args c cc nL own Ts D cy q A H0) {idx : Nat} {x : Int32} (hin : ∀ w ∈ u_ws RX2 TX2 10, w ∈ Ts) (hlk : Cond.fieldLink own idx (TX2 7).1 (TX2 7).2.1 (TX2 7).2.2.1 ∈ Ts) (d : decode cc pc = .ok (.putfield idx, 3)) (kk : V p l e R s m args below meth c Q D cy q A H0 nL cl sl (up M 39 7 x) (pc + 3) L st) : V p l e R s m args below meth c Q D cy q A H0 nL cl sl M pc L (.int x :: .ref (q 39) :: st) := V_put (k0 := 39) (ci := 2) (j := 7) (M' := up M 39 7 x) X rfl rfl hin tyX2 tyX2_ok nmX2 (by decide) hlk rfl (by decide +kernel) (Nat.le_of_ble_eq_true rfl) rfl d kk
theorem G_2_8 (X : Fx p s m args c cc nL own Ts D cy q A H0) {idx : Nat} (hin : ∀ w ∈ u_ws RX2 TX2 10, w ∈ Ts) (hlk : Cond.fieldLink own idx (TX2 8).1 (TX2 8).2.1 (TX2 8).2.2.1 ∈ Ts) (d : decode cc pc = .ok (.getfield idx, 3)) (kk : V p l e R s m args below meth c Q D cy q A H0 nL cl sl M (pc + 3) L (.int (M 39 8) :: st)) : V p l e R s m args below meth c Q D cy q A H0 nL cl sl M pc L (.ref (q 39) :: st) := V_get (k0 := 39) (ci := 2) (j := 8) X rfl rfl hin (by decide) hlk rfl d kk
theorem P_2_8 (X : Fx p s m args c cc nL own Ts D cy q A H0) {idx : Nat} {x : Int32} (hin : ∀ w ∈ u_ws RX2 TX2 10, w ∈ Ts) (hlk : Cond.fieldLink own idx (TX2 8).1 (TX2 8).2.1 (TX2 8).2.2.1 ∈ Ts) (d : decode cc pc = .ok (.putfield idx, 3)) (kk : V p l e R s m args below meth c Q D cy q A H0 nL cl sl (up M 39 8 x) (pc + 3) L st) : V p l e R s m args below meth c Q D cy q A H0 nL cl sl M pc L (.int x :: .ref (q 39) :: st) := V_put (k0 := 39) (ci := 2) (j := 8) (M' := up M 39 8 x) X rfl rfl hin tyX2 tyX2_ok nmX2 (by decide) hlk rfl (by decide +kernel) (Nat.le_of_ble_eq_true rfl) rfl d kk
theorem G_2_9 (X : Fx p s m args c cc nL own Ts D cy q A H0) {idx : Nat} (hin : ∀ w ∈ u_ws RX2 TX2 10, w ∈ Ts) (hlk : Cond.fieldLink own idx (TX2 9).1 (TX2 9).2.1 (TX2 9).2.2.1 ∈ Ts) (d : decode cc pc = .ok (.getfield idx, 3)) (kk : V p l e R s m args below meth c Q D cy q A H0 nL cl sl M (pc + 3) L (.int (M 39 9) :: st)) : V p l e R s m args below meth c Q D cy q A H0 nL cl sl M pc L (.ref (q 39) :: st) := V_get (k0 := 39) (ci := 2) (j := 9) X rfl rfl hin (by decide) hlk rfl d kk
theorem P_2_9 (X : Fx p s m args c cc nL own Ts D cy q A H0) {idx : Nat} {x : Int32} (hin : ∀ w ∈ u_ws RX2 TX2 10, w ∈ Ts) (hlk : Cond.fieldLink own idx (TX2 9).1 (TX2 9).2.1 (TX2 9).2.2.1 ∈ Ts) (d : decode cc pc = .ok (.putfield idx, 3)) (kk : V p l e R s m args below meth c Q D cy q A H0 nL cl sl (up M 39 9 x) (pc + 3) L st) : V p l e R s m args below meth c Q D cy q A H0 nL cl sl M pc L (.int x :: .ref (q 39) :: st) := V_put (k0 := 39) (ci := 2) (j := 9) (M' := up M 39 9 x) X rfl rfl hin tyX2 tyX2_ok nmX2 (by decide) hlk rfl (by decide +kernel) (Nat.le_of_ble_eq_true rfl) rfl d kk
theorem G_5_0 (X : Fx p s m args c cc nL own Ts D cy q A H0) {idx : Nat} (hin : ∀ w ∈ u_ws RX5 TX5 2, w ∈ Ts) (hlk : Cond.fieldLink own idx (TX5 0).1 (TX5 0).2.1 (TX5 0).2.2.1 ∈ Ts) (d : decode cc pc = .ok (.getfield idx, 3)) (kk : V p l e R s m args below meth c Q D cy q A H0 nL cl sl M (pc + 3) L (.ref (q 38) :: st)) : V p l e R s m args below meth c Q D cy q A H0 nL cl sl M pc L (.ref (q 37) :: st) := V_get (k0 := 37) (ci := 5) (j := 0) X rfl rfl hin (by decide) hlk rfl d kk
theorem G_5_1 (X : Fx p s m args c cc nL own Ts D cy q A H0) {idx : Nat} (hin : ∀ w ∈ u_ws RX5 TX5 2, w ∈ Ts) (hlk : Cond.fieldLink own idx (TX5 1).1 (TX5 1).2.1 (TX5 1).2.2.1 ∈ Ts) (d : decode cc pc = .ok (.getfield idx, 3)) (kk : V p l e R s m args below meth c Q D cy q A H0 nL cl sl M (pc + 3) L (.int (M 37 1) :: st)) : V p l e R s m args below meth c Q D cy q A H0 nL cl sl M pc L (.ref (q 37) :: st) := V_get (k0 := 37) (ci := 5) (j := 1) X rfl rfl hin (by decide) hlk rfl d kk
theorem P_5_1 (X : Fx p s m args c cc nL own Ts D cy q A H0) {idx : Nat} {x : Int32} (hin : ∀ w ∈ u_ws RX5 TX5 2, w ∈ Ts) (hlk : Cond.fieldLink own idx (TX5 1).1 (TX5 1).2.1 (TX5 1).2.2.1 ∈ Ts) (d : decode cc pc = .ok (.putfield idx, 3)) (kk : V p l e R s m args below meth c Q D cy q A H0 nL cl sl (up M 37 1 x) (pc + 3) L st) : V p l e R s m args below meth c Q D cy q A H0 nL cl sl M pc L (.int x :: .ref (q 37) :: st) := V_put (k0 := 37) (ci := 5) (j := 1) (M' := up M 37 1 x) X rfl rfl hin tyX5 tyX5_ok nmX5 (by decide) hlk rfl (by decide +kernel) (Nat.le_of_ble_eq_true rfl) rfl d kk
theorem G_6_0 (X : Fx p s m args c cc nL own Ts D cy q A H0) {idx : Nat} (hin : ∀ w ∈ u_ws RX6 TX6 7, w ∈ Ts) (hlk : Cond.fieldLink own idx (TX6 0).1 (TX6 0).2.1 (TX6 0).2.2.1 ∈ Ts) (d : decode cc pc = .ok (.getfield idx, 3)) (kk : V p l e R s m args below meth c Q D cy q A H0 nL cl sl M (pc + 3) L (.ref (q 1) :: st)) : V p l e R s m args below meth c Q D cy q A H0 nL cl sl M pc L (.ref (q 0) :: st) := V_get (k0 := 0) (ci := 6) (j := 0) X rfl rfl hin (by decide) hlk rfl d kk
theorem G_6_1 (X : Fx p s m args c cc nL own Ts D cy q A H0) {idx : Nat} (hin : ∀ w ∈ u_ws RX6 TX6 7, w ∈ Ts) (hlk : Cond.fieldLink own idx (TX6 1).1 (TX6 1).2.1 (TX6 1).2.2.1 ∈ Ts) (d : decode cc pc = .ok (.getfield idx, 3)) (kk : V p l e R s m args below meth c Q D cy q A H0 nL cl sl M (pc + 3) L (.ref (q 13) :: st)) : V p l e R s m args below meth c Q D cy q A H0 nL cl sl M pc L (.ref (q 0) :: st) := V_get (k0 := 0) (ci := 6) (j := 1) X rfl rfl hin (by decide) hlk rfl d kk
theorem G_6_2 (X : Fx p s m args c cc nL own Ts D cy q A H0) {idx : Nat} (hin : ∀ w ∈ u_ws RX6 TX6 7, w ∈ Ts) (hlk : Cond.fieldLink own idx (TX6 2).1 (TX6 2).2.1 (TX6 2).2.2.1 ∈ Ts) (d : decode cc pc = .ok (.getfield idx, 3)) (kk : V p l e R s m args below meth c Q D cy q A H0 nL cl sl M (pc + 3) L (.ref (q 15) :: st)) : V p l e R s m args below meth c Q D cy q A H0 nL cl sl M pc L (.ref (q 0) :: st) := V_get (k0 := 0) (ci := 6) (j := 2) X rfl rfl hin (by decide) hlk rfl d kk
theorem G_6_3 (X : Fx p s m args c cc nL own Ts D cy q A H0) {idx : Nat} (hin : ∀ w ∈ u_ws RX6 TX6 7, w ∈ Ts) (hlk : Cond.fieldLink own idx (TX6 3).1 (TX6 3).2.1 (TX6 3).2.2.1 ∈ Ts) (d : decode cc pc = .ok (.getfield idx, 3)) (kk : V p l e R s m args below meth c Q D cy q A H0 nL cl sl M (pc + 3) L (.ref (q 33) :: st)) : V p l e R s m args below meth c Q D cy q A H0 nL cl sl M pc L (.ref (q 0) :: st) := V_get (k0 := 0) (ci := 6) (j := 3) X rfl rfl hin (by decide) hlk rfl d kk
theorem G_6_4 (X : Fx p s m args c cc nL own Ts D cy q A H0) {idx : Nat} (hin : ∀ w ∈ u_ws RX6 TX6 7, w ∈ Ts) (hlk : Cond.fieldLink own idx (TX6 4).1 (TX6 4).2.1 (TX6 4).2.2.1 ∈ Ts) (d : decode cc pc = .ok (.getfield idx, 3)) (kk : V p l e R s m args below meth c Q D cy q A H0 nL cl sl M (pc + 3) L (.ref (q 35) :: st)) : V p l e R s m args below meth c Q D cy q A H0 nL cl sl M pc L (.ref (q 0) :: st) := V_get (k0 := 0) (ci := 6) (j := 4) X rfl rfl hin (by decide) hlk rfl d kk
theorem G_6_5 (X : Fx p s m args c cc nL own Ts D cy q A H0) {idx : Nat} (hin : ∀ w ∈ u_ws RX6 TX6 7, w ∈ Ts) (hlk : Cond.fieldLink own idx (TX6 5).1 (TX6 5).2.1 (TX6 5).2.2.1 ∈ Ts) (d : decode cc pc = .ok (.getfield idx, 3)) (kk : V p l e R s m args below meth c Q D cy q A H0 nL cl sl M (pc + 3) L (.ref (q 37) :: st)) : V p l e R s m args below meth c Q D cy q A H0 nL cl sl M pc L (.ref (q 0) :: st) := V_get (k0 := 0) (ci := 6) (j := 5) X rfl rfl hin (by decide) hlk rfl d kk
theorem G_6_6 (X : Fx p s m args c cc nL own Ts D cy q A H0) {idx : Nat} (hin : ∀ w ∈ u_ws RX6 TX6 7, w ∈ Ts) (hlk : Cond.fieldLink own idx (TX6 6).1 (TX6 6).2.1 (TX6 6).2.2.1 ∈ Ts) (d : decode cc pc = .ok (.getfield idx, 3)) (kk : V p l e R s m args below meth c Q D cy q A H0 nL cl sl M (pc + 3) L (.ref (q 39) :: st)) : V p l e R s m args below meth c Q D cy q A H0 nL cl sl M pc L (.ref (q 0) :: st) := V_get (k0 := 0) (ci := 6) (j := 6) X rfl rfl hin (by decide) hlk rfl d kk
theorem G_7_0 (X : Fx p s m args c cc nL own Ts D cy q A H0) {idx : Nat} (hin : ∀ w ∈ u_ws RX7 TX7 15, w ∈ Ts) (hlk : Cond.fieldLink own idx (TX7 0).1 (TX7 0).2.1 (TX7 0).2.2.1 ∈ Ts) (d : decode cc pc = .ok (.getfield idx, 3)) (kk : V p l e R s m args below meth c Q D cy q A H0 nL cl sl M (pc + 3) L (.ref (q 41) :: st)) : V p l e R s m args below meth c Q D cy q A H0 nL cl sl M pc L (.ref (q 40) :: st) := V_get (k0 := 40) (ci := 7) (j := 0) X rfl rfl hin (by decide) hlk rfl d kk
theorem G_7_1 (X : Fx p s m args c cc nL own Ts D cy q A H0) {idx : Nat} (hin : ∀ w ∈ u_ws RX7 TX7 15, w ∈ Ts) (hlk : Cond.fieldLink own idx (TX7 1).1 (TX7 1).2.1 (TX7 1).2.2.1 ∈ Ts) (d : decode cc pc = .ok (.getfield idx, 3)) (kk : V p l e R s m args below meth c Q D cy q A H0 nL cl sl M (pc + 3) L (.ref (q 42) :: st)) : V p l e R s m args below meth c Q D cy q A H0 nL cl sl M pc L (.ref (q 40) :: st) := V_get (k0 := 40) (ci := 7) (j := 1) X rfl rfl hin (by decide) hlk rfl d kk
theorem G_7_2 (X : Fx p s m args c cc nL own Ts D cy q A H0) {idx : Nat} (hin : ∀ w ∈ u_ws RX7 TX7 15, w ∈ Ts) (hlk : Cond.fieldLink own idx (TX7 2).1 (TX7 2).2.1 (TX7 2).2.2.1 ∈ Ts) (d : decode cc pc = .ok (.getfield idx, 3)) (kk : V p l e R s m args below meth c Q D cy q A H0 nL cl sl M (pc + 3) L (.ref (q 43) :: st)) : V p l e R s m args below meth c Q D cy q A H0 nL cl sl M pc L (.ref (q 40) :: st) := V_get (k0 := 40) (ci := 7) (j := 2) X rfl rfl hin (by decide) hlk rfl d kk
theorem G_7_3 (X : Fx p s m args c cc nL own Ts D cy q A H0) {idx : Nat} (hin : ∀ w ∈ u_ws RX7 TX7 15, w ∈ Ts) (hlk : Cond.fieldLink own idx (TX7 3).1 (TX7 3).2.1 (TX7 3).2.2.1 ∈ Ts) (d : decode cc pc = .ok (.getfield idx, 3)) (kk : V p l e R s m args below meth c Q D cy q A H0 nL cl sl M (pc + 3) L (.ref (q 44) :: st)) : V p l e R s m args below meth c Q D cy q A H0 nL cl sl M pc L (.ref (q 40) :: st) := V_get (k0 := 40) (ci := 7) (j := 3) X rfl rfl hin (by decide) hlk rfl d kk
theorem G_7_4 (X : Fx p s m args c cc nL own Ts D cy q A H0) {idx : Nat} (hin : ∀ w ∈ u_ws RX7 TX7 15, w ∈ Ts) (hlk : Cond.fieldLink own idx (TX7 4).1 (TX7 4).2.1 (TX7 4).2.2.1 ∈ Ts) (d : decode cc pc = .ok (.getfield idx, 3)) (kk : V p l e R s m args below meth c Q D cy q A H0 nL cl sl M (pc + 3) L (.int (M 40 4) :: st)) : V p l e R s m args below meth c Q D cy q A H0 nL cl sl M pc L (.ref (q 40) :: st) := V_get (k0 := 40) (ci := 7) (j := 4) X rfl rfl hin (by decide) hlk rfl d kk
theorem P_7_4 (X : Fx p s m args c cc nL own Ts D cy q A H0) {idx : Nat} {x : Int32} (hin : ∀ w ∈ u_ws RX7 TX7 15, w ∈ Ts) (hlk : Cond.fieldLink own idx (TX7 4).1 (TX7 4).2.1 (TX7 4).2.2.1 ∈ Ts) (d : decode cc pc = .ok (.putfield idx, 3)) (kk : V p l e R s m args below meth c Q D cy q A H0 nL cl sl (up M 40 4 x) (pc + 3) L st) : V p l e R s m args below meth c Q D cy q A H0 nL cl sl M pc L (.int x :: .ref (q 40) :: st) := V_put (k0 := 40) (ci := 7) (j := 4) (M' := up M 40 4 x) X rfl rfl hin tyX7 tyX7_ok nmX7 (by decide) hlk rfl (by decide +kernel) (Nat.le_of_ble_eq_true rfl) rfl d kk
theorem G_7_5 (X : Fx p s m args c cc nL own Ts D cy q A H0) {idx : Nat} (hin : ∀ w ∈ u_ws RX7 TX7 15, w ∈ Ts) (hlk : Cond.fieldLink own idx (TX7 5).1 (TX7 5).2.1 (TX7 5).2.2.1 ∈ Ts) (d : decode cc pc = .ok (.getfield idx, 3)) (kk : V p l e R s m args below meth c Q D cy q A H0 nL cl sl M (pc + 3) L (.ref (q 45) :: st)) : V p l e R s m args below meth c Q D cy q A H0 nL cl sl M pc L (.ref (q 40) :: st) := V_get (k0 := 40) (ci := 7) (j := 5) X rfl rfl hin (by decide) hlk rfl d kk
theorem G_7_6 (X : Fx p s m args c cc nL own Ts D cy q A H0) {idx : Nat} (hin : ∀ w ∈ u_ws RX7 TX7 15, w ∈ Ts) (hlk : Cond.fieldLink own idx (TX7 6).1 (TX7 6).2.1 (TX7 6).2.2.1 ∈ Ts) (d : decode cc pc = .ok (.getfield idx, 3)) (kk : V p l e R s m args below meth c Q D cy q A H0 nL cl sl M (pc + 3) L (.int (M 40 6) :: st)) : V p l e R s m args below meth c Q D cy q A H0 nL cl sl M pc L (.ref (q 40) :: st) := V_get (k0 := 40) (ci := 7) (j := 6) X rfl rfl hin (by decide) hlk rfl d kk
theorem P_7_6 (X : Fx p s m args c cc nL own Ts D cy q A H0) {idx : Nat} {x : Int32} (hin : ∀ w ∈ u_ws RX7 TX7 15, w ∈ Ts) (hlk : Cond.fieldLink own idx (TX7 6).1 (TX7 6).2.1 (TX7 6).2.2.1 ∈ Ts) (d : decode cc pc = .ok (.putfield idx, 3)) (kk : V p l e R s m args below meth c Q D cy q A H0 nL cl sl (up M 40 6 x) (pc + 3) L st) : V p l e R s m args below meth c Q D cy q A H0 nL cl sl M pc L (.int x :: .ref (q 40) :: st) := V_put (k0 := 40) (ci := 7) (j := 6) (M' := up M 40 6 x) X rfl rfl hin tyX7 tyX7_ok nmX7 (by decide) hlk rfl (by decide +kernel) (Nat.le_of_ble_eq_true rfl) rfl d kk
theorem G_7_7 (X : Fx p s m args c cc nL own Ts D cy q A H0) {idx : Nat} (hin : ∀ w ∈ u_ws RX7 TX7 15, w ∈ Ts) (hlk : Cond.fieldLink own idx (TX7 7).1 (TX7 7).2.1 (TX7 7).2.2.1 ∈ Ts) (d : decode cc pc = .ok (.getfield idx, 3)) (kk : V p l e R s m args below meth c Q D cy q A H0 nL cl sl M (pc + 3) L (.int (M 40 7) :: st)) : V p l e R s m args below meth c Q D cy q A H0 nL cl sl M pc L (.ref (q 40) :: st) := V_get (k0 := 40) (ci := 7) (j := 7) X rfl rfl hin (by decide) hlk rfl d kk
theorem P_7_7 (X : Fx p s m args c cc nL own Ts D cy q A H0) {idx : Nat} {x : Int32} (hin : ∀ w ∈ u_ws RX7 TX7 15, w ∈ Ts) (hlk : Cond.fieldLink own idx (TX7 7).1 (TX7 7).2.1 (TX7 7).2.2.1 ∈ Ts) (d : decode cc pc = .ok (.putfield idx, 3)) (kk : V p l e R s m args below meth c Q D cy q A H0 nL cl sl (up M 40 7 x) (pc + 3) L st) : V p l e R s m args below meth c Q D cy q A H0 nL cl sl M pc L (.int x :: .ref (q 40) :: st) := V_put (k0 := 40) (ci := 7) (j := 7) (M' := up M 40 7 x) X rfl rfl hin tyX7 tyX7_ok nmX7 (by decide) hlk rfl (by decide +kernel) (Nat.le_of_ble_eq_true rfl) rfl d kk
theorem G_7_8 (X : Fx p s m args c cc nL own Ts D cy q A H0) {idx : Nat} (hin : ∀ w ∈ u_ws RX7 TX7 15, w ∈ Ts) (hlk : Cond.fieldLink own idx (TX7 8).1 (TX7 8).2.1 (TX7 8).2.2.1 ∈ Ts) (d : decode cc pc = .ok (.getfield idx, 3)) (kk : V p l e R s m args below meth c Q D cy q A H0 nL cl sl M (pc + 3) L (.int (M 40 8) :: st)) : V p l e R s m args below meth c Q D cy q A H0 nL cl sl M pc L (.ref (q 40) :: st) := V_get (k0 := 40) (ci := 7) (j := 8) X rfl rfl hin (by decide) hlk rfl d kk
theorem P_7_8 (X : Fx p s m args c cc nL own Ts D cy q A H0) {idx : Nat} {x : Int32} (hin : ∀ w ∈ u_ws RX7 TX7 15, w ∈ Ts) (hlk : Cond.fieldLink own idx (TX7 8).1 (TX7 8).2.1 (TX7 8).2.2.1 ∈ Ts) (d : decode cc pc = .ok (.putfield idx, 3)) (kk : V p l e R s m args below meth c Q D cy q A H0 nL cl sl (up M 40 8 x) (pc + 3) L st) : V p l e R s m args below meth c Q D cy q A H0 nL cl sl M pc L (.int x :: .ref (q 40) :: st) := V_put (k0 := 40) (ci := 7) (j := 8) (M' := up M 40 8 x) X rfl rfl hin tyX7 tyX7_ok nmX7 (by decide) hlk rfl (by decide +kernel) (Nat.le_of_ble_eq_true rfl) rfl d kk
theorem G_7_9 (X : Fx p s m args c cc nL own Ts D cy q A H0) {idx : Nat} (hin : ∀ w ∈ u_ws RX7 TX7 15, w ∈ Ts) (hlk : Cond.fieldLink own idx (TX7 9).1 (TX7 9).2.1 (TX7 9).2.2.1 ∈ Ts) (d : decode cc pc = .ok (.getfield idx, 3)) (kk : V p l e R s m args below meth c Q D cy q A H0 nL cl sl M (pc + 3) L (.int (M 40 9) :: st)) : V p l e R s m args below meth c Q D cy q A H0 nL cl sl M pc L (.ref (q 40) :: st) := V_get (k0 := 40) (ci := 7) (j := 9) X rfl rfl hin (by decide) hlk rfl d kk
theorem P_7_9 (X : Fx p s m args c cc nL own Ts D cy q A H0) {idx : Nat} {x : Int32} (hin : ∀ w ∈ u_ws RX7 TX7 15, w ∈ Ts) (hlk : Cond.fieldLink own idx (TX7 9).1 (TX7 9).2.1 (TX7 9).2.2.1 ∈ Ts) (d : decode cc pc = .ok (.putfield idx, 3)) (kk : V p l e R s m args below meth c Q D cy q A H0 nL cl sl (up M 40 9 x) (pc + 3) L st) : V p l e R s m args below meth c Q D cy q A H0 nL cl sl M pc L (.int x :: .ref (q 40) :: st) := V_put (k0 := 40) (ci := 7) (j := 9) (M' := up M 40 9 x) X rfl rfl hin tyX7 tyX7_ok nmX7 (by decide) hlk rfl (by decide +kernel) (Nat.le_of_ble_eq_true rfl) rfl d kk
theorem G_7_10 (X : Fx p s m args c cc nL own Ts D cy q A H0) {idx : Nat} (hin : ∀ w ∈ u_ws RX7 TX7 15, w ∈ Ts) (hlk : Cond.fieldLink own idx (TX7 10).1 (TX7 10).2.1 (TX7 10).2.2.1 ∈ Ts) (d : decode cc pc = .ok (.getfield idx, 3)) (kk : V p l e R s m args below meth c Q D cy q A H0 nL cl sl M (pc + 3) L (.int (M 40 10) :: st)) : V p l e R s m args below meth c Q D cy q A H0 nL cl sl M pc L (.ref (q 40) :: st) := V_get (k0 := 40) (ci := 7) (j := 10) X rfl rfl hin (by decide) hlk rfl d kk
theorem P_7_10 (X : Fx p s m args c cc nL own Ts D cy q A H0) {idx : Nat} {x : Int32} (hin : ∀ w ∈ u_ws RX7 TX7 15, w ∈ Ts) (hlk : Cond.fieldLink own idx (TX7 10).1 (TX7 10).2.1 (TX7 10).2.2.1 ∈ Ts) (d : decode cc pc = .ok (.putfield idx, 3)) (kk : V p l e R s m args below meth c Q D cy q A H0 nL cl sl (up M 40 10 x) (pc + 3) L st) : V p l e R s m args below meth c Q D cy q A H0 nL cl sl M pc L (.int x :: .ref (q 40) :: st) := V_put (k0 := 40) (ci := 7) (j := 10) (M' := up M 40 10 x) X rfl rfl hin tyX7 tyX7_ok nmX7 (by decide) hlk rfl (by decide +kernel) (Nat.le_of_ble_eq_true rfl) rfl d kk
theorem G_7_11 (X : Fx p s m args c cc nL own Ts D cy q A H0) {idx : Nat} (hin : ∀ w ∈ u_ws RX7 TX7 15, w ∈ Ts) (hlk : Cond.fieldLink own idx (TX7 11).1 (TX7 11).2.1 (TX7 11).2.2.1 ∈ Ts) (d : decode cc pc = .ok (.getfield idx, 3)) (kk : V p l e R s m args below meth c Q D cy q A H0 nL cl sl M (pc + 3) L (.ref (q 46) :: st)) : V p l e R s m args below meth c Q D cy q A H0 nL cl sl M pc L (.ref (q 40) :: st) := V_get (k0 := 40) (ci := 7) (j := 11) X rfl rfl hin (by decide) hlk rfl d kk
theorem G_7_12 (X : Fx p s m args c cc nL own Ts D cy q A H0) {idx : Nat} (hin : ∀ w ∈ u_ws RX7 TX7 15, w ∈ Ts) (hlk : Cond.fieldLink own idx (TX7 12).1 (TX7 12).2.1 (TX7 12).2.2.1 ∈ Ts) (d : decode cc pc = .ok (.getfield idx, 3)) (kk : V p l e R s m args below meth c Q D cy q A H0 nL cl sl M (pc + 3) L (.ref (q 47) :: st)) : V p l e R s m args below meth c Q D cy q A H0 nL cl sl M pc L (.ref (q 40) :: st) := V_get (k0 := 40) (ci := 7) (j := 12) X rfl rfl hin (by decide) hlk rfl d kk
theorem G_7_13 (X : Fx p s m args c cc nL own Ts D cy q A H0) {idx : Nat} (hin : ∀ w ∈ u_ws RX7 TX7 15, w ∈ Ts) (hlk : Cond.fieldLink own idx (TX7 13).1 (TX7 13).2.1 (TX7 13).2.2.1 ∈ Ts) (d : decode cc pc = .ok (.getfield idx, 3)) (kk : V p l e R s m args below meth c Q D cy q A H0 nL cl sl M (pc + 3) L (.ref (q 48) :: st)) : V p l e R s m args below meth c Q D cy q A H0 nL cl sl M pc L (.ref (q 40) :: st) := V_get (k0 := 40) (ci := 7) (j := 13) X rfl rfl hin (by decide) hlk rfl d kk
theorem G_7_14 (X : Fx p s m args c cc nL own Ts D cy q A H0) {idx : Nat} (hin : ∀ w ∈ u_ws RX7 TX7 15, w ∈ Ts) (hlk : Cond.fieldLink own idx (TX7 14).1 (TX7 14).2.1 (TX7 14).2.2.1 ∈ Ts) (d : decode cc pc = .ok (.getfield idx, 3)) (kk : V p l e R s m args below meth c Q D cy q A H0 nL cl sl M (pc + 3) L (.ref (q 49) :: st)) : V p l e R s m args below meth c Q D cy q A H0 nL cl sl M pc L (.ref (q 40) :: st) := V_get (k0 := 40) (ci := 7) (j := 14) X rfl rfl hin (by decide) hlk rfl d kk
theorem G_3_0 (X : Fx p s m args c cc nL own Ts D cy q A H0) {k : Nat} (hk : isRow k) {idx : Nat} (hin : ∀ w ∈ u_ws RX3 TX3 2, w ∈ Ts) (hlk : Cond.fieldLink own idx (TX3 0).1 (TX3 0).2.1 (TX3 0).2.2.1 ∈ Ts) (d : decode cc pc = .ok (.getfield idx, 3)) (kk : V p l e R s m args below meth c Q D cy q A H0 nL cl sl M (pc + 3) L (.ref (q (k + 1)) :: st)) : V p l e R s m args below meth c Q D cy q A H0 nL cl sl M pc L (.ref (q k) :: st) := V_get (k0 := k) (ci := 3) (j := 0) X (wd_row hk) rfl hin (by decide) hlk rfl d kk
theorem G_3_1 (X : Fx p s m args c cc nL own Ts D cy q A H0) {k : Nat} (hk : isRow k) {idx : Nat} (hin : ∀ w ∈ u_ws RX3 TX3 2, w ∈ Ts) (hlk : Cond.fieldLink own idx (TX3 1).1 (TX3 1).2.1 (TX3 1).2.2.1 ∈ Ts) (d : decode cc pc = .ok (.getfield idx, 3)) (kk : V p l e R s m args below meth c Q D cy q A H0 nL cl sl M (pc + 3) L (.int (M k 1) :: st)) : V p l e R s m args below meth c Q D cy q A H0 nL cl sl M pc L (.ref (q k) :: st) := V_get (k0 := k) (ci := 3) (j := 1) X (wd_row hk) rfl hin (by decide) hlk rfl d kk
theorem P_3_1 (X : Fx p s m args c cc nL own Ts D cy q A H0) {k : Nat} (hk : isRow k) {idx : Nat} {x : Int32} (hin : ∀ w ∈ u_ws RX3 TX3 2, w ∈ Ts) (hlk : Cond.fieldLink own idx (TX3 1).1 (TX3 1).2.1 (TX3 1).2.2.1 ∈ Ts) (d : decode cc pc = .ok (.putfield idx, 3)) (kk : V p l e R s m args below meth c Q D cy q A H0 nL cl sl (up M k 1 x) (pc + 3) L st) : V p l e R s m args below meth c Q D cy q A H0 nL cl sl M pc L (.int x :: .ref (q k) :: st) := V_put (k0 := k) (ci := 3) (j := 1) (M' := up M k 1 x) X (wd_row hk) rfl hin tyX3 tyX3_ok nmX3 (by decide) hlk rfl (by decide +kernel) (Nat.le_of_ble_eq_true rfl) (wd_row_set hk) d kk
theorem G_4_0 (X : Fx p s m args c cc nL own Ts D cy q A H0) {k : Nat} (hk : isTly k) {idx : Nat} (hin : ∀ w ∈ u_ws RX4 TX4 1, w ∈ Ts) (hlk : Cond.fieldLink own idx (TX4 0).1 (TX4 0).2.1 (TX4 0).2.2.1 ∈ Ts) (d : decode cc pc = .ok (.getfield idx, 3)) (kk : V p l e R s m args below meth c Q D cy q A H0 nL cl sl M (pc + 3) L (.ref (q (k + 1)) :: st)) : V p l e R s m args below meth c Q D cy q A H0 nL cl sl M pc L (.ref (q k) :: st) := V_get (k0 := k) (ci := 4) (j := 0) X (wd_tly hk) rfl hin (by decide) hlk rfl d kk
theorem A_a60_ld (X : Fx p s m args c cc nL own Ts D cy q A H0) {k : Nat} (hk : isA60 k) {i : Int32} {o : Option α} (h : Ok (if inb i 60 = true then o else none) P) (d : decode cc pc = .ok (.iaload, 1)) (kk : inb i 60 = true → Ok o P → V p l e R s m args below meth c Q D cy q A H0 nL cl sl M (pc + 1) L (.int (M k i.toNatClampNeg) :: st)) : V p l e R s m args below meth c Q D cy q A H0 nL cl sl M pc L (.int i :: .ref (q k) :: st) := V_iald (k0 := k) X (wd_a60 hk) h d kk
theorem A_a60_st (X : Fx p s m args c cc nL own Ts D cy q A H0) {k : Nat} (hk : isA60 k) {i x : Int32} {o : Option α} (h : Ok (if inb i 60 = true then o else none) P) (d : decode cc pc = .ok (.iastore, 1)) (kk : inb i 60 = true → Ok o P → V p l e R s m args below meth c Q D cy q A H0 nL cl sl (up M k i.toNatClampNeg x) (pc + 1) L st) : V p l e R s m args below meth c Q D cy q A H0 nL cl sl M pc L (.int x :: .int i :: .ref (q k) :: st) := V_iast (k0 := k) (M' := up M k i.toNatClampNeg x) X (wd_a60 hk) (wd_a60_set hk) h d kk
theorem A_a16_ld (X : Fx p s m args c cc nL own Ts D cy q A H0) {k : Nat} (hk : isA16 k) {i : Int32} {o : Option α} (h : Ok (if inb i 16 = true then o else none) P) (d : decode cc pc = .ok (.iaload, 1)) (kk : inb i 16 = true → Ok o P → V p l e R s m args below meth c Q D cy q A H0 nL cl sl M (pc + 1) L (.int (M k i.toNatClampNeg) :: st)) : V p l e R s m args below meth c Q D cy q A H0 nL cl sl M pc L (.int i :: .ref (q k) :: st) := V_iald (k0 := k) X (wd_a16 hk) h d kk
theorem A_a16_st (X : Fx p s m args c cc nL own Ts D cy q A H0) {k : Nat} (hk : isA16 k) {i x : Int32} {o : Option α} (h : Ok (if inb i 16 = true then o else none) P) (d : decode cc pc = .ok (.iastore, 1)) (kk : inb i 16 = true → Ok o P → V p l e R s m args below meth c Q D cy q A H0 nL cl sl (up M k i.toNatClampNeg x) (pc + 1) L st) : V p l e R s m args below meth c Q D cy q A H0 nL cl sl M pc L (.int x :: .int i :: .ref (q k) :: st) := V_iast (k0 := k) (M' := up M k i.toNatClampNeg x) X (wd_a16 hk) (wd_a16_set hk) h d kk
theorem A_c41_ld (X : Fx p s m args c cc nL own Ts D cy q A H0) {i : Int32} {o : Option α} (h : Ok (if inb i 61 = true then o else none) P) (d : decode cc pc = .ok (.iaload, 1)) (kk : inb i 61 = true → Ok o P → V p l e R s m args below meth c Q D cy q A H0 nL cl sl M (pc + 1) L (.int (M 41 i.toNatClampNeg) :: st)) : V p l e R s m args below meth c Q D cy q A H0 nL cl sl M pc L (.int i :: .ref (q 41) :: st) := V_iald (k0 := 41) X wd_c41 h d kk
theorem A_c41_st (X : Fx p s m args c cc nL own Ts D cy q A H0) {i x : Int32} {o : Option α} (h : Ok (if inb i 61 = true then o else none) P) (d : decode cc pc = .ok (.iastore, 1)) (kk : inb i 61 = true → Ok o P → V p l e R s m args below meth c Q D cy q A H0 nL cl sl (up M 41 i.toNatClampNeg x) (pc + 1) L st) : V p l e R s m args below meth c Q D cy q A H0 nL cl sl M pc L (.int x :: .int i :: .ref (q 41) :: st) := V_iast (k0 := 41) (M' := up M 41 i.toNatClampNeg x) X wd_c41 wd_c41_set h d kk
theorem A_c42_ld (X : Fx p s m args c cc nL own Ts D cy q A H0) {i : Int32} {o : Option α} (h : Ok (if inb i 244 = true then o else none) P) (d : decode cc pc = .ok (.iaload, 1)) (kk : inb i 244 = true → Ok o P → V p l e R s m args below meth c Q D cy q A H0 nL cl sl M (pc + 1) L (.int (M 42 i.toNatClampNeg) :: st)) : V p l e R s m args below meth c Q D cy q A H0 nL cl sl M pc L (.int i :: .ref (q 42) :: st) := V_iald (k0 := 42) X wd_c42 h d kk
theorem A_c42_st (X : Fx p s m args c cc nL own Ts D cy q A H0) {i x : Int32} {o : Option α} (h : Ok (if inb i 244 = true then o else none) P) (d : decode cc pc = .ok (.iastore, 1)) (kk : inb i 244 = true → Ok o P → V p l e R s m args below meth c Q D cy q A H0 nL cl sl (up M 42 i.toNatClampNeg x) (pc + 1) L st) : V p l e R s m args below meth c Q D cy q A H0 nL cl sl M pc L (.int x :: .int i :: .ref (q 42) :: st) := V_iast (k0 := 42) (M' := up M 42 i.toNatClampNeg x) X wd_c42 wd_c42_set h d kk
theorem A_c43_ld (X : Fx p s m args c cc nL own Ts D cy q A H0) {i : Int32} {o : Option α} (h : Ok (if inb i 61 = true then o else none) P) (d : decode cc pc = .ok (.iaload, 1)) (kk : inb i 61 = true → Ok o P → V p l e R s m args below meth c Q D cy q A H0 nL cl sl M (pc + 1) L (.int (M 43 i.toNatClampNeg) :: st)) : V p l e R s m args below meth c Q D cy q A H0 nL cl sl M pc L (.int i :: .ref (q 43) :: st) := V_iald (k0 := 43) X wd_c43 h d kk
theorem A_c43_st (X : Fx p s m args c cc nL own Ts D cy q A H0) {i x : Int32} {o : Option α} (h : Ok (if inb i 61 = true then o else none) P) (d : decode cc pc = .ok (.iastore, 1)) (kk : inb i 61 = true → Ok o P → V p l e R s m args below meth c Q D cy q A H0 nL cl sl (up M 43 i.toNatClampNeg x) (pc + 1) L st) : V p l e R s m args below meth c Q D cy q A H0 nL cl sl M pc L (.int x :: .int i :: .ref (q 43) :: st) := V_iast (k0 := 43) (M' := up M 43 i.toNatClampNeg x) X wd_c43 wd_c43_set h d kk
theorem A_c44_ld (X : Fx p s m args c cc nL own Ts D cy q A H0) {i : Int32} {o : Option α} (h : Ok (if inb i 61 = true then o else none) P) (d : decode cc pc = .ok (.iaload, 1)) (kk : inb i 61 = true → Ok o P → V p l e R s m args below meth c Q D cy q A H0 nL cl sl M (pc + 1) L (.int (M 44 i.toNatClampNeg) :: st)) : V p l e R s m args below meth c Q D cy q A H0 nL cl sl M pc L (.int i :: .ref (q 44) :: st) := V_iald (k0 := 44) X wd_c44 h d kk
theorem A_c44_st (X : Fx p s m args c cc nL own Ts D cy q A H0) {i x : Int32} {o : Option α} (h : Ok (if inb i 61 = true then o else none) P) (d : decode cc pc = .ok (.iastore, 1)) (kk : inb i 61 = true → Ok o P → V p l e R s m args below meth c Q D cy q A H0 nL cl sl (up M 44 i.toNatClampNeg x) (pc + 1) L st) : V p l e R s m args below meth c Q D cy q A H0 nL cl sl M pc L (.int x :: .int i :: .ref (q 44) :: st) := V_iast (k0 := 44) (M' := up M 44 i.toNatClampNeg x) X wd_c44 wd_c44_set h d kk
theorem A_c45_ld (X : Fx p s m args c cc nL own Ts D cy q A H0) {i : Int32} {o : Option α} (h : Ok (if inb i 60 = true then o else none) P) (d : decode cc pc = .ok (.caload, 1)) (kk : inb i 60 = true → Ok o P → V p l e R s m args below meth c Q D cy q A H0 nL cl sl M (pc + 1) L (.int (M 45 i.toNatClampNeg) :: st)) : V p l e R s m args below meth c Q D cy q A H0 nL cl sl M pc L (.int i :: .ref (q 45) :: st) := V_cald (k0 := 45) X wd_c45 h d kk
theorem A_c45_st (X : Fx p s m args c cc nL own Ts D cy q A H0) {i x : Int32} {o : Option α} (h : Ok (if inb i 60 = true then o else none) P) (d : decode cc pc = .ok (.castore, 1)) (kk : inb i 60 = true → Ok o P → V p l e R s m args below meth c Q D cy q A H0 nL cl sl (up M 45 i.toNatClampNeg (vp_nar .char x)) (pc + 1) L st) : V p l e R s m args below meth c Q D cy q A H0 nL cl sl M pc L (.int x :: .int i :: .ref (q 45) :: st) := V_cast (k0 := 45) (M' := up M 45 i.toNatClampNeg (vp_nar .char x)) X wd_c45 wd_c45_set h d kk
theorem A_c46_ld (X : Fx p s m args c cc nL own Ts D cy q A H0) {i : Int32} {o : Option α} (h : Ok (if inb i 300 = true then o else none) P) (d : decode cc pc = .ok (.iaload, 1)) (kk : inb i 300 = true → Ok o P → V p l e R s m args below meth c Q D cy q A H0 nL cl sl M (pc + 1) L (.int (M 46 i.toNatClampNeg) :: st)) : V p l e R s m args below meth c Q D cy q A H0 nL cl sl M pc L (.int i :: .ref (q 46) :: st) := V_iald (k0 := 46) X wd_c46 h d kk
theorem A_c46_st (X : Fx p s m args c cc nL own Ts D cy q A H0) {i x : Int32} {o : Option α} (h : Ok (if inb i 300 = true then o else none) P) (d : decode cc pc = .ok (.iastore, 1)) (kk : inb i 300 = true → Ok o P → V p l e R s m args below meth c Q D cy q A H0 nL cl sl (up M 46 i.toNatClampNeg x) (pc + 1) L st) : V p l e R s m args below meth c Q D cy q A H0 nL cl sl M pc L (.int x :: .int i :: .ref (q 46) :: st) := V_iast (k0 := 46) (M' := up M 46 i.toNatClampNeg x) X wd_c46 wd_c46_set h d kk
theorem A_c47_ld (X : Fx p s m args c cc nL own Ts D cy q A H0) {i : Int32} {o : Option α} (h : Ok (if inb i 300 = true then o else none) P) (d : decode cc pc = .ok (.iaload, 1)) (kk : inb i 300 = true → Ok o P → V p l e R s m args below meth c Q D cy q A H0 nL cl sl M (pc + 1) L (.int (M 47 i.toNatClampNeg) :: st)) : V p l e R s m args below meth c Q D cy q A H0 nL cl sl M pc L (.int i :: .ref (q 47) :: st) := V_iald (k0 := 47) X wd_c47 h d kk
theorem A_c47_st (X : Fx p s m args c cc nL own Ts D cy q A H0) {i x : Int32} {o : Option α} (h : Ok (if inb i 300 = true then o else none) P) (d : decode cc pc = .ok (.iastore, 1)) (kk : inb i 300 = true → Ok o P → V p l e R s m args below meth c Q D cy q A H0 nL cl sl (up M 47 i.toNatClampNeg x) (pc + 1) L st) : V p l e R s m args below meth c Q D cy q A H0 nL cl sl M pc L (.int x :: .int i :: .ref (q 47) :: st) := V_iast (k0 := 47) (M' := up M 47 i.toNatClampNeg x) X wd_c47 wd_c47_set h d kk
theorem A_c48_ld (X : Fx p s m args c cc nL own Ts D cy q A H0) {i : Int32} {o : Option α} (h : Ok (if inb i 16 = true then o else none) P) (d : decode cc pc = .ok (.iaload, 1)) (kk : inb i 16 = true → Ok o P → V p l e R s m args below meth c Q D cy q A H0 nL cl sl M (pc + 1) L (.int (M 48 i.toNatClampNeg) :: st)) : V p l e R s m args below meth c Q D cy q A H0 nL cl sl M pc L (.int i :: .ref (q 48) :: st) := V_iald (k0 := 48) X wd_c48 h d kk
theorem A_c48_st (X : Fx p s m args c cc nL own Ts D cy q A H0) {i x : Int32} {o : Option α} (h : Ok (if inb i 16 = true then o else none) P) (d : decode cc pc = .ok (.iastore, 1)) (kk : inb i 16 = true → Ok o P → V p l e R s m args below meth c Q D cy q A H0 nL cl sl (up M 48 i.toNatClampNeg x) (pc + 1) L st) : V p l e R s m args below meth c Q D cy q A H0 nL cl sl M pc L (.int x :: .int i :: .ref (q 48) :: st) := V_iast (k0 := 48) (M' := up M 48 i.toNatClampNeg x) X wd_c48 wd_c48_set h d kk
theorem A_c49_ld (X : Fx p s m args c cc nL own Ts D cy q A H0) {i : Int32} {o : Option α} (h : Ok (if inb i 16 = true then o else none) P) (d : decode cc pc = .ok (.iaload, 1)) (kk : inb i 16 = true → Ok o P → V p l e R s m args below meth c Q D cy q A H0 nL cl sl M (pc + 1) L (.int (M 49 i.toNatClampNeg) :: st)) : V p l e R s m args below meth c Q D cy q A H0 nL cl sl M pc L (.int i :: .ref (q 49) :: st) := V_iald (k0 := 49) X wd_c49 h d kk
theorem A_c49_st (X : Fx p s m args c cc nL own Ts D cy q A H0) {i x : Int32} {o : Option α} (h : Ok (if inb i 16 = true then o else none) P) (d : decode cc pc = .ok (.iastore, 1)) (kk : inb i 16 = true → Ok o P → V p l e R s m args below meth c Q D cy q A H0 nL cl sl (up M 49 i.toNatClampNeg x) (pc + 1) L st) : V p l e R s m args below meth c Q D cy q A H0 nL cl sl M pc L (.int x :: .int i :: .ref (q 49) :: st) := V_iast (k0 := 49) (M' := up M 49 i.toNatClampNeg x) X wd_c49 wd_c49_set h d kk
theorem A_c38_ld (X : Fx p s m args c cc nL own Ts D cy q A H0) {i : Int32} {o : Option α} (h : Ok (if inb i 60 = true then o else none) P) (d : decode cc pc = .ok (.caload, 1)) (kk : inb i 60 = true → Ok o P → V p l e R s m args below meth c Q D cy q A H0 nL cl sl M (pc + 1) L (.int (M 38 i.toNatClampNeg) :: st)) : V p l e R s m args below meth c Q D cy q A H0 nL cl sl M pc L (.int i :: .ref (q 38) :: st) := V_cald (k0 := 38) X wd_c38 h d kk
theorem A_c38_st (X : Fx p s m args c cc nL own Ts D cy q A H0) {i x : Int32} {o : Option α} (h : Ok (if inb i 60 = true then o else none) P) (d : decode cc pc = .ok (.castore, 1)) (kk : inb i 60 = true → Ok o P → V p l e R s m args below meth c Q D cy q A H0 nL cl sl (up M 38 i.toNatClampNeg (vp_nar .char x)) (pc + 1) L st) : V p l e R s m args below meth c Q D cy q A H0 nL cl sl M pc L (.int x :: .int i :: .ref (q 38) :: st) := V_cast (k0 := 38) (M' := up M 38 i.toNatClampNeg (vp_nar .char x)) X wd_c38 wd_c38_set h d kk
theorem A_r14_ld (X : Fx p s m args c cc nL own Ts D cy q A H0) {i : Int32} {o : Option α} (h : Ok (if inb i 4 = true then o else none) P) (d : decode cc pc = .ok (.aaload, 1)) (kk : inb i 4 = true → Ok o P → V p l e R s m args below meth c Q D cy q A H0 nL cl sl M (pc + 1) L (.ref (q (3 + 2 * i.toNatClampNeg)) :: st)) : V p l e R s m args below meth c Q D cy q A H0 nL cl sl M pc L (.int i :: .ref (q 14) :: st) := V_aald (k0 := 14) (t0 := 2) X rfl rfl rfl h (fun hb => if_pos (inb_lt hb)) d kk
theorem A_r16_ld (X : Fx p s m args c cc nL own Ts D cy q A H0) {i : Int32} {o : Option α} (h : Ok (if inb i 5 = true then o else none) P) (d : decode cc pc = .ok (.aaload, 1)) (kk : inb i 5 = true → Ok o P → V p l e R s m args below meth c Q D cy q A H0 nL cl sl M (pc + 1) L (.ref (q (19 + i.toNatClampNeg)) :: st)) : V p l e R s m args below meth c Q D cy q A H0 nL cl sl M pc L (.int i :: .ref (q 16) :: st) := V_aald (k0 := 16) (t0 := 3) X rfl rfl rfl h (fun hb => if_pos (inb_lt hb)) d kk
theorem A_r17_ld (X : Fx p s m args c cc nL own Ts D cy q A H0) {i : Int32} {o : Option α} (h : Ok (if inb i 5 = true then o else none) P) (d : decode cc pc = .ok (.aaload, 1)) (kk : inb i 5 = true → Ok o P → V p l e R s m args below meth c Q D cy q A H0 nL cl sl M (pc + 1) L (.ref (q (24 + i.toNatClampNeg)) :: st)) : V p l e R s m args below meth c Q D cy q A H0 nL cl sl M pc L (.int i :: .ref (q 17) :: st) := V_aald (k0 := 17) (t0 := 3) X rfl rfl rfl h (fun hb => if_pos (inb_lt hb)) d kk
theorem A_r18_ld (X : Fx p s m args c cc nL own Ts D cy q A H0) {i : Int32} {o : Option α} (h : Ok (if inb i 4 = true then o else none) P) (d : decode cc pc = .ok (.aaload, 1)) (kk : inb i 4 = true → Ok o P → V p l e R s m args below meth c Q D cy q A H0 nL cl sl M (pc + 1) L (.ref (q (29 + i.toNatClampNeg)) :: st)) : V p l e R s m args below meth c Q D cy q A H0 nL cl sl M pc L (.int i :: .ref (q 18) :: st) := V_aald (k0 := 18) (t0 := 3) X rfl rfl rfl h (fun hb => if_pos (inb_lt hb)) d kk
end VR
end
section
theorem dX0_init_0 : decode cX0_init 0 = .ok (.aload_n 0, 1) := by decide +kernel
theorem dX0_init_1 : decode cX0_init 1 = .ok (.invokespecial 3, 3) := by decide +kernel
theorem dX0_init_4 : decode cX0_init 4 = .ok (.aload_n 0, 1) := by decide +kernel
theorem dX0_init_5 : decode cX0_init 5 = .ok (.iconst 4, 1) := by decide +kernel
theorem dX0_init_6 : decode cX0_init 6 = .ok (.anewarray 9, 3) := by decide +kernel
theorem dX0_init_9 : decode cX0_init 9 = .ok (.putfield 11, 3) := by decide +kernel
theorem dX0_init_12 : decode cX0_init 12 = .ok (.iconst 0, 1) := by decide +kernel
theorem dX0_init_13 : decode cX0_init 13 = .ok (.istore_n 1, 1) := by decide +kernel
theorem dX0_init_14 : decode cX0_init 14 = .ok (.iload_n 1, 1) := by decide +kernel
theorem dX0_init_15 : decode cX0_init 15 = .ok (.iconst 4, 1) := by decide +kernel
theorem dX0_init_16 : decode cX0_init 16 = .ok (.if_icmp .ge 22, 3) := by decide +kernel
theorem dX0_init_19 : decode cX0_init 19 = .ok (.aload_n 0, 1) := by decide +kernel
theorem dX0_init_20 : decode cX0_init 20 = .ok (.getfield 11, 3) := by decide +kernel
theorem dX0_init_23 : decode cX0_init 23 = .ok (.iload_n 1, 1) := by decide +kernel
theorem dX0_init_24 : decode cX0_init 24 = .ok (.new 9, 3) := by decide +kernel
theorem dX0_init_27 : decode cX0_init 27 = .ok (.dup, 1) := by decide +kernel
theorem dX0_init_28 : decode cX0_init 28 = .ok (.invokespecial 17, 3) := by decide +kernel
theorem dX0_init_31 : decode cX0_init 31 = .ok (.aastore, 1) := by decide +kernel
theorem dX0_init_32 : decode cX0_init 32 = .ok (.iinc 1 1, 3) := by decide +kernel
theorem dX0_init_35 : decode cX0_init 35 = .ok (.goto (-21), 3) := by decide +kernel
theorem dX0_init_38 : decode cX0_init 38 = .ok (.aload_n 0, 1) := by decide +kernel
theorem dX0_init_39 : decode cX0_init 39 = .ok (.iconst 0, 1) := by decide +kernel
theorem dX0_init_40 : decode cX0_init 40 = .ok (.putfield 18, 3) := by decide +kernel
theorem dX0_init_43 : decode cX0_init 43 = .ok (.return_, 1) := by decide +kernel
theorem dX0_size_0 : decode cX0_size 0 = .ok (.aload_n 0, 1) := by decide +kernel
theorem dX0_size_1 : decode cX0_size 1 = .ok (.getfield 18, 3) := by decide +kernel
theorem dX0_size_4 : decode cX0_size 4 = .ok (.ireturn, 1) := by decide +kernel
theorem dX0_remember_0 : decode cX0_remember 0 = .ok (.aload_n 0, 1) := by decide +kernel
theorem dX0_remember_1 : decode cX0_remember 1 = .ok (.getfield 18, 3) := by decide +kernel
theorem dX0_remember_4 : decode cX0_remember 4 = .ok (.iconst 4, 1) := by decide +kernel
theorem dX0_remember_5 : decode cX0_remember 5 = .ok (.if_icmp .lt 7, 3) := by decide +kernel
theorem dX0_remember_8 : decode cX0_remember 8 = .ok (.aload_n 0, 1) := by decide +kernel
theorem dX0_remember_9 : decode cX0_remember 9 = .ok (.invokevirtual 22, 3) := by decide +kernel
theorem dX0_remember_12 : decode cX0_remember 12 = .ok (.aload_n 0, 1) := by decide +kernel
theorem dX0_remember_13 : decode cX0_remember 13 = .ok (.getfield 11, 3) := by decide +kernel
theorem dX0_remember_16 : decode cX0_remember 16 = .ok (.aload_n 0, 1) := by decide +kernel
theorem dX0_remember_17 : decode cX0_remember 17 = .ok (.getfield 18, 3) := by decide +kernel
theorem dX0_remember_20 : decode cX0_remember 20 = .ok (.aaload, 1) := by decide +kernel
theorem dX0_remember_21 : decode cX0_remember 21 = .ok (.aload_n 1, 1) := by decide +kernel
theorem dX0_remember_22 : decode cX0_remember 22 = .ok (.invokevirtual 25, 3) := by decide +kernel
theorem dX0_remember_25 : decode cX0_remember 25 = .ok (.aload_n 0, 1) := by decide +kernel
theorem dX0_remember_26 : decode cX0_remember 26 = .ok (.dup, 1) := by decide +kernel
theorem dX0_remember_27 : decode cX0_remember 27 = .ok (.getfield 18, 3) := by decide +kernel
theorem dX0_remember_30 : decode cX0_remember 30 = .ok (.iconst 1, 1) := by decide +kernel
theorem dX0_remember_31 : decode cX0_remember 31 = .ok (.iadd, 1) := by decide +kernel
theorem dX0_remember_32 : decode cX0_remember 32 = .ok (.putfield 18, 3) := by decide +kernel
theorem dX0_remember_35 : decode cX0_remember 35 = .ok (.return_, 1) := by decide +kernel
theorem dX0_dropOldest_0 : decode cX0_dropOldest 0 = .ok (.iconst 1, 1) := by decide +kernel
theorem dX0_dropOldest_1 : decode cX0_dropOldest 1 = .ok (.istore_n 1, 1) := by decide +kernel
theorem dX0_dropOldest_2 : decode cX0_dropOldest 2 = .ok (.iload_n 1, 1) := by decide +kernel
theorem dX0_dropOldest_3 : decode cX0_dropOldest 3 = .ok (.iconst 4, 1) := by decide +kernel
theorem dX0_dropOldest_4 : decode cX0_dropOldest 4 = .ok (.if_icmp .ge 26, 3) := by decide +kernel
theorem dX0_dropOldest_7 : decode cX0_dropOldest 7 = .ok (.aload_n 0, 1) := by decide +kernel
theorem dX0_dropOldest_8 : decode cX0_dropOldest 8 = .ok (.getfield 11, 3) := by decide +kernel
theorem dX0_dropOldest_11 : decode cX0_dropOldest 11 = .ok (.iload_n 1, 1) := by decide +kernel
theorem dX0_dropOldest_12 : decode cX0_dropOldest 12 = .ok (.iconst 1, 1) := by decide +kernel
theorem dX0_dropOldest_13 : decode cX0_dropOldest 13 = .ok (.isub, 1) := by decide +kernel
theorem dX0_dropOldest_14 : decode cX0_dropOldest 14 = .ok (.aaload, 1) := by decide +kernel
theorem dX0_dropOldest_15 : decode cX0_dropOldest 15 = .ok (.aload_n 0, 1) := by decide +kernel
theorem dX0_dropOldest_16 : decode cX0_dropOldest 16 = .ok (.getfield 11, 3) := by decide +kernel
theorem dX0_dropOldest_19 : decode cX0_dropOldest 19 = .ok (.iload_n 1, 1) := by decide +kernel
theorem dX0_dropOldest_20 : decode cX0_dropOldest 20 = .ok (.aaload, 1) := by decide +kernel
theorem dX0_dropOldest_21 : decode cX0_dropOldest 21 = .ok (.invokevirtual 25, 3) := by decide +kernel
theorem dX0_dropOldest_24 : decode cX0_dropOldest 24 = .ok (.iinc 1 1, 3) := by decide +kernel
theorem dX0_dropOldest_27 : decode cX0_dropOldest 27 = .ok (.goto (-25), 3) := by decide +kernel
theorem dX0_dropOldest_30 : decode cX0_dropOldest 30 = .ok (.aload_n 0, 1) := by decide +kernel
theorem dX0_dropOldest_31 : decode cX0_dropOldest 31 = .ok (.iconst 3, 1) := by decide +kernel
theorem dX0_dropOldest_32 : decode cX0_dropOldest 32 = .ok (.putfield 18, 3) := by decide +kernel
theorem dX0_dropOldest_35 : decode cX0_dropOldest 35 = .ok (.return_, 1) := by decide +kernel
theorem dX0_restore_0 : decode cX0_restore 0 = .ok (.aload_n 0, 1) := by decide +kernel
theorem dX0_restore_1 : decode cX0_restore 1 = .ok (.getfield 18, 3) := by decide +kernel
theorem dX0_restore_4 : decode cX0_restore 4 = .ok (.ifCond .le 26, 3) := by decide +kernel
theorem dX0_restore_7 : decode cX0_restore 7 = .ok (.aload_n 0, 1) := by decide +kernel
theorem dX0_restore_8 : decode cX0_restore 8 = .ok (.dup, 1) := by decide +kernel
theorem dX0_restore_9 : decode cX0_restore 9 = .ok (.getfield 18, 3) := by decide +kernel
theorem dX0_restore_12 : decode cX0_restore 12 = .ok (.iconst 1, 1) := by decide +kernel
theorem dX0_restore_13 : decode cX0_restore 13 = .ok (.isub, 1) := by decide +kernel
theorem dX0_restore_14 : decode cX0_restore 14 = .ok (.putfield 18, 3) := by decide +kernel
theorem dX0_restore_17 : decode cX0_restore 17 = .ok (.aload_n 1, 1) := by decide +kernel
theorem dX0_restore_18 : decode cX0_restore 18 = .ok (.aload_n 0, 1) := by decide +kernel
theorem dX0_restore_19 : decode cX0_restore 19 = .ok (.getfield 11, 3) := by decide +kernel
theorem dX0_restore_22 : decode cX0_restore 22 = .ok (.aload_n 0, 1) := by decide +kernel
theorem dX0_restore_23 : decode cX0_restore 23 = .ok (.getfield 18, 3) := by decide +kernel
theorem dX0_restore_26 : decode cX0_restore 26 = .ok (.aaload, 1) := by decide +kernel
theorem dX0_restore_27 : decode cX0_restore 27 = .ok (.invokevirtual 25, 3) := by decide +kernel
theorem dX0_restore_30 : decode cX0_restore 30 = .ok (.return_, 1) := by decide +kernel
end
