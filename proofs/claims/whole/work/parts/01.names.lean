-- ===== PART A: goes FIRST, ahead of the names: the tables' words, and 'selects' of the private methods out of them =====
/-- a private method of a class that the tables say can be made, by its rows of tables_1 -/
def lw_okq (q : MethodName × Nat) : Prop := (q.1.cls ≠ "java/lang/invoke/MethodHandle" ∧ q.1.cls ≠ "java/lang/invoke/VarHandle") ∧ Cond.instantiable q.1.cls q.2 ∈ tables_1 ∧ Cond.privateMethod q.1 ∈ tables_1 ∧ Cond.instanceMethod q.1 ∈ tables_1
theorem lw_p0 : lw_okq (⟨"SpikeTown$Reader", "reads", "(I)Z"⟩, 7) := ⟨⟨by decide +kernel, by decide +kernel⟩, List.mem_of_getElem? (i := 37) (by decide +kernel), List.mem_of_getElem? (i := 214) (by decide +kernel), List.mem_of_getElem? (i := 215) (by decide +kernel)⟩
theorem lw_p1 : lw_okq (⟨"SpikeTown$Reader", "readsStart", "(I)Z"⟩, 7) := ⟨⟨by decide +kernel, by decide +kernel⟩, List.mem_of_getElem? (i := 37) (by decide +kernel), List.mem_of_getElem? (i := 218) (by decide +kernel), List.mem_of_getElem? (i := 219) (by decide +kernel)⟩
theorem lw_p2 : lw_okq (⟨"SpikeTown$Reader", "readsPart", "(I)Z"⟩, 7) := ⟨⟨by decide +kernel, by decide +kernel⟩, List.mem_of_getElem? (i := 37) (by decide +kernel), List.mem_of_getElem? (i := 222) (by decide +kernel), List.mem_of_getElem? (i := 223) (by decide +kernel)⟩
theorem lw_p3 : lw_okq (⟨"SpikeTown$Spikes", "slipsFrom", "(II)I"⟩, 2) := ⟨⟨by decide +kernel, by decide +kernel⟩, List.mem_of_getElem? (i := 43) (by decide +kernel), List.mem_of_getElem? (i := 230) (by decide +kernel), List.mem_of_getElem? (i := 231) (by decide +kernel)⟩
theorem lw_p4 : lw_okq (⟨"SpikeTown$Reader", "readsSpike", "(I)Z"⟩, 7) := ⟨⟨by decide +kernel, by decide +kernel⟩, List.mem_of_getElem? (i := 37) (by decide +kernel), List.mem_of_getElem? (i := 234) (by decide +kernel), List.mem_of_getElem? (i := 235) (by decide +kernel)⟩
theorem lw_p5 : lw_okq (⟨"SpikeTown$Reader", "readsSlip", "(I)Z"⟩, 7) := ⟨⟨by decide +kernel, by decide +kernel⟩, List.mem_of_getElem? (i := 37) (by decide +kernel), List.mem_of_getElem? (i := 241) (by decide +kernel), List.mem_of_getElem? (i := 242) (by decide +kernel)⟩
theorem lw_p6 : lw_okq (⟨"SpikeTown$Reader", "readsKind", "(I)Z"⟩, 7) := ⟨⟨by decide +kernel, by decide +kernel⟩, List.mem_of_getElem? (i := 37) (by decide +kernel), List.mem_of_getElem? (i := 266) (by decide +kernel), List.mem_of_getElem? (i := 267) (by decide +kernel)⟩
theorem lw_p7 : lw_okq (⟨"SpikeTown$Reader", "readsGround", "(I)Z"⟩, 7) := ⟨⟨by decide +kernel, by decide +kernel⟩, List.mem_of_getElem? (i := 37) (by decide +kernel), List.mem_of_getElem? (i := 270) (by decide +kernel), List.mem_of_getElem? (i := 271) (by decide +kernel)⟩
theorem lw_p8 : lw_okq (⟨"SpikeTown$Reader", "groundTold", "(I)I"⟩, 7) := ⟨⟨by decide +kernel, by decide +kernel⟩, List.mem_of_getElem? (i := 37) (by decide +kernel), List.mem_of_getElem? (i := 274) (by decide +kernel), List.mem_of_getElem? (i := 275) (by decide +kernel)⟩
theorem lw_p9 : lw_okq (⟨"SpikeTown", "hangsOf", "(I)I"⟩, 9) := ⟨⟨by decide +kernel, by decide +kernel⟩, List.mem_of_getElem? (i := 13) (by decide +kernel), List.mem_of_getElem? (i := 359) (by decide +kernel), List.mem_of_getElem? (i := 360) (by decide +kernel)⟩
theorem lw_p10 : lw_okq (⟨"SpikeTown", "act", "(JI)I"⟩, 9) := ⟨⟨by decide +kernel, by decide +kernel⟩, List.mem_of_getElem? (i := 13) (by decide +kernel), List.mem_of_getElem? (i := 400) (by decide +kernel), List.mem_of_getElem? (i := 401) (by decide +kernel)⟩
theorem lw_p11 : lw_okq (⟨"SpikeTown$Acts", "removeFirst", "()V"⟩, 2) := ⟨⟨by decide +kernel, by decide +kernel⟩, List.mem_of_getElem? (i := 107) (by decide +kernel), List.mem_of_getElem? (i := 409) (by decide +kernel), List.mem_of_getElem? (i := 410) (by decide +kernel)⟩
theorem lw_p12 : lw_okq (⟨"SpikeTown$Spikes", "loseLowest", "(I)V"⟩, 2) := ⟨⟨by decide +kernel, by decide +kernel⟩, List.mem_of_getElem? (i := 43) (by decide +kernel), List.mem_of_getElem? (i := 447) (by decide +kernel), List.mem_of_getElem? (i := 448) (by decide +kernel)⟩
theorem lw_p13 : lw_okq (⟨"SpikeTown", "fewestToTurn", "(IIZ)I"⟩, 9) := ⟨⟨by decide +kernel, by decide +kernel⟩, List.mem_of_getElem? (i := 13) (by decide +kernel), List.mem_of_getElem? (i := 483) (by decide +kernel), List.mem_of_getElem? (i := 484) (by decide +kernel)⟩
theorem lw_p14 : lw_okq (⟨"SpikeTown", "tryDoing", "(III)Z"⟩, 9) := ⟨⟨by decide +kernel, by decide +kernel⟩, List.mem_of_getElem? (i := 13) (by decide +kernel), List.mem_of_getElem? (i := 499) (by decide +kernel), List.mem_of_getElem? (i := 500) (by decide +kernel)⟩
theorem lw_p15 : lw_okq (⟨"SpikeTown", "gainInAllOrders", "(II)I"⟩, 9) := ⟨⟨by decide +kernel, by decide +kernel⟩, List.mem_of_getElem? (i := 13) (by decide +kernel), List.mem_of_getElem? (i := 516) (by decide +kernel), List.mem_of_getElem? (i := 517) (by decide +kernel)⟩
def lw_privs_1 : List (MethodName × Nat) := [(⟨"SpikeTown$Reader", "reads", "(I)Z"⟩, 7), (⟨"SpikeTown$Reader", "readsStart", "(I)Z"⟩, 7), (⟨"SpikeTown$Reader", "readsPart", "(I)Z"⟩, 7), (⟨"SpikeTown$Spikes", "slipsFrom", "(II)I"⟩, 2), (⟨"SpikeTown$Reader", "readsSpike", "(I)Z"⟩, 7), (⟨"SpikeTown$Reader", "readsSlip", "(I)Z"⟩, 7), (⟨"SpikeTown$Reader", "readsKind", "(I)Z"⟩, 7), (⟨"SpikeTown$Reader", "readsGround", "(I)Z"⟩, 7), (⟨"SpikeTown$Reader", "groundTold", "(I)I"⟩, 7), (⟨"SpikeTown", "hangsOf", "(I)I"⟩, 9), (⟨"SpikeTown", "act", "(JI)I"⟩, 9), (⟨"SpikeTown$Acts", "removeFirst", "()V"⟩, 2), (⟨"SpikeTown$Spikes", "loseLowest", "(I)V"⟩, 2), (⟨"SpikeTown", "fewestToTurn", "(IIZ)I"⟩, 9), (⟨"SpikeTown", "tryDoing", "(III)Z"⟩, 9), (⟨"SpikeTown", "gainInAllOrders", "(II)I"⟩, 9)]
theorem lw_r1 : ∀ q ∈ lw_privs_1, lw_okq q := List.forall_mem_cons.mpr ⟨lw_p0, List.forall_mem_cons.mpr ⟨lw_p1, List.forall_mem_cons.mpr ⟨lw_p2, List.forall_mem_cons.mpr ⟨lw_p3, List.forall_mem_cons.mpr ⟨lw_p4, List.forall_mem_cons.mpr ⟨lw_p5, List.forall_mem_cons.mpr ⟨lw_p6, List.forall_mem_cons.mpr ⟨lw_p7, List.forall_mem_cons.mpr ⟨lw_p8, List.forall_mem_cons.mpr ⟨lw_p9, List.forall_mem_cons.mpr ⟨lw_p10, List.forall_mem_cons.mpr ⟨lw_p11, List.forall_mem_cons.mpr ⟨lw_p12, List.forall_mem_cons.mpr ⟨lw_p13, List.forall_mem_cons.mpr ⟨lw_p14, List.forall_mem_cons.mpr ⟨lw_p15, fun _ h => absurd h List.not_mem_nil⟩⟩⟩⟩⟩⟩⟩⟩⟩⟩⟩⟩⟩⟩⟩⟩
theorem lw_p16 : lw_okq (⟨"SpikeTown", "isBest", "(IIII)Z"⟩, 9) := ⟨⟨by decide +kernel, by decide +kernel⟩, List.mem_of_getElem? (i := 13) (by decide +kernel), List.mem_of_getElem? (i := 553) (by decide +kernel), List.mem_of_getElem? (i := 554) (by decide +kernel)⟩
theorem lw_p17 : lw_okq (⟨"SpikeTown", "worth", "(IIII)I"⟩, 9) := ⟨⟨by decide +kernel, by decide +kernel⟩, List.mem_of_getElem? (i := 13) (by decide +kernel), List.mem_of_getElem? (i := 557) (by decide +kernel), List.mem_of_getElem? (i := 558) (by decide +kernel)⟩
theorem lw_p18 : lw_okq (⟨"SpikeTown", "leftByFire", "(I)I"⟩, 9) := ⟨⟨by decide +kernel, by decide +kernel⟩, List.mem_of_getElem? (i := 13) (by decide +kernel), List.mem_of_getElem? (i := 571) (by decide +kernel), List.mem_of_getElem? (i := 572) (by decide +kernel)⟩
theorem lw_p19 : lw_okq (⟨"SpikeTown", "passYear", "(I)V"⟩, 9) := ⟨⟨by decide +kernel, by decide +kernel⟩, List.mem_of_getElem? (i := 13) (by decide +kernel), List.mem_of_getElem? (i := 590) (by decide +kernel), List.mem_of_getElem? (i := 591) (by decide +kernel)⟩
theorem lw_p20 : lw_okq (⟨"SpikeTownModel", "readTown", "()I"⟩, 28) := ⟨⟨by decide +kernel, by decide +kernel⟩, List.mem_of_getElem? (i := 618) (by decide +kernel), List.mem_of_getElem? (i := 728) (by decide +kernel), List.mem_of_getElem? (i := 729) (by decide +kernel)⟩
theorem lw_p21 : lw_okq (⟨"SpikeTownModel", "readPart", "()Z"⟩, 28) := ⟨⟨by decide +kernel, by decide +kernel⟩, List.mem_of_getElem? (i := 618) (by decide +kernel), List.mem_of_getElem? (i := 732) (by decide +kernel), List.mem_of_getElem? (i := 733) (by decide +kernel)⟩
theorem lw_p22 : lw_okq (⟨"SpikeTownModel", "readSlip", "()Z"⟩, 28) := ⟨⟨by decide +kernel, by decide +kernel⟩, List.mem_of_getElem? (i := 618) (by decide +kernel), List.mem_of_getElem? (i := 739) (by decide +kernel), List.mem_of_getElem? (i := 740) (by decide +kernel)⟩
theorem lw_p23 : lw_okq (⟨"SpikeTownModel", "next", "()I"⟩, 28) := ⟨⟨by decide +kernel, by decide +kernel⟩, List.mem_of_getElem? (i := 618) (by decide +kernel), List.mem_of_getElem? (i := 743) (by decide +kernel), List.mem_of_getElem? (i := 744) (by decide +kernel)⟩
theorem lw_p24 : lw_okq (⟨"SpikeTownModel", "readThing", "()Z"⟩, 28) := ⟨⟨by decide +kernel, by decide +kernel⟩, List.mem_of_getElem? (i := 618) (by decide +kernel), List.mem_of_getElem? (i := 758) (by decide +kernel), List.mem_of_getElem? (i := 759) (by decide +kernel)⟩
theorem lw_p25 : lw_okq (⟨"SpikeTownModel", "soBy", "(I)I"⟩, 28) := ⟨⟨by decide +kernel, by decide +kernel⟩, List.mem_of_getElem? (i := 618) (by decide +kernel), List.mem_of_getElem? (i := 780) (by decide +kernel), List.mem_of_getElem? (i := 781) (by decide +kernel)⟩
theorem lw_p26 : lw_okq (⟨"SpikeTownModel", "isSo", "(III)Z"⟩, 28) := ⟨⟨by decide +kernel, by decide +kernel⟩, List.mem_of_getElem? (i := 618) (by decide +kernel), List.mem_of_getElem? (i := 784) (by decide +kernel), List.mem_of_getElem? (i := 785) (by decide +kernel)⟩
theorem lw_p27 : lw_okq (⟨"SpikeTownModel", "holds", "(IIII)Z"⟩, 28) := ⟨⟨by decide +kernel, by decide +kernel⟩, List.mem_of_getElem? (i := 618) (by decide +kernel), List.mem_of_getElem? (i := 788) (by decide +kernel), List.mem_of_getElem? (i := 789) (by decide +kernel)⟩
theorem lw_p28 : lw_okq (⟨"SpikeTownModel", "hangs", "(I)I"⟩, 28) := ⟨⟨by decide +kernel, by decide +kernel⟩, List.mem_of_getElem? (i := 618) (by decide +kernel), List.mem_of_getElem? (i := 796) (by decide +kernel), List.mem_of_getElem? (i := 797) (by decide +kernel)⟩
theorem lw_p29 : lw_okq (⟨"SpikeTownModel", "noThing", "(I)Z"⟩, 28) := ⟨⟨by decide +kernel, by decide +kernel⟩, List.mem_of_getElem? (i := 618) (by decide +kernel), List.mem_of_getElem? (i := 814) (by decide +kernel), List.mem_of_getElem? (i := 815) (by decide +kernel)⟩
theorem lw_p30 : lw_okq (⟨"SpikeTownModel", "note", "()V"⟩, 28) := ⟨⟨by decide +kernel, by decide +kernel⟩, List.mem_of_getElem? (i := 618) (by decide +kernel), List.mem_of_getElem? (i := 822) (by decide +kernel), List.mem_of_getElem? (i := 823) (by decide +kernel)⟩
theorem lw_p31 : lw_okq (⟨"SpikeTownModel", "begin", "()V"⟩, 28) := ⟨⟨by decide +kernel, by decide +kernel⟩, List.mem_of_getElem? (i := 618) (by decide +kernel), List.mem_of_getElem? (i := 870) (by decide +kernel), List.mem_of_getElem? (i := 871) (by decide +kernel)⟩
def lw_privs_2 : List (MethodName × Nat) := [(⟨"SpikeTown", "isBest", "(IIII)Z"⟩, 9), (⟨"SpikeTown", "worth", "(IIII)I"⟩, 9), (⟨"SpikeTown", "leftByFire", "(I)I"⟩, 9), (⟨"SpikeTown", "passYear", "(I)V"⟩, 9), (⟨"SpikeTownModel", "readTown", "()I"⟩, 28), (⟨"SpikeTownModel", "readPart", "()Z"⟩, 28), (⟨"SpikeTownModel", "readSlip", "()Z"⟩, 28), (⟨"SpikeTownModel", "next", "()I"⟩, 28), (⟨"SpikeTownModel", "readThing", "()Z"⟩, 28), (⟨"SpikeTownModel", "soBy", "(I)I"⟩, 28), (⟨"SpikeTownModel", "isSo", "(III)Z"⟩, 28), (⟨"SpikeTownModel", "holds", "(IIII)Z"⟩, 28), (⟨"SpikeTownModel", "hangs", "(I)I"⟩, 28), (⟨"SpikeTownModel", "noThing", "(I)Z"⟩, 28), (⟨"SpikeTownModel", "note", "()V"⟩, 28), (⟨"SpikeTownModel", "begin", "()V"⟩, 28)]
theorem lw_r2 : ∀ q ∈ lw_privs_2, lw_okq q := List.forall_mem_cons.mpr ⟨lw_p16, List.forall_mem_cons.mpr ⟨lw_p17, List.forall_mem_cons.mpr ⟨lw_p18, List.forall_mem_cons.mpr ⟨lw_p19, List.forall_mem_cons.mpr ⟨lw_p20, List.forall_mem_cons.mpr ⟨lw_p21, List.forall_mem_cons.mpr ⟨lw_p22, List.forall_mem_cons.mpr ⟨lw_p23, List.forall_mem_cons.mpr ⟨lw_p24, List.forall_mem_cons.mpr ⟨lw_p25, List.forall_mem_cons.mpr ⟨lw_p26, List.forall_mem_cons.mpr ⟨lw_p27, List.forall_mem_cons.mpr ⟨lw_p28, List.forall_mem_cons.mpr ⟨lw_p29, List.forall_mem_cons.mpr ⟨lw_p30, List.forall_mem_cons.mpr ⟨lw_p31, fun _ h => absurd h List.not_mem_nil⟩⟩⟩⟩⟩⟩⟩⟩⟩⟩⟩⟩⟩⟩⟩⟩
theorem lw_p32 : lw_okq (⟨"SpikeTownModel", "soThen", "()I"⟩, 28) := ⟨⟨by decide +kernel, by decide +kernel⟩, List.mem_of_getElem? (i := 618) (by decide +kernel), List.mem_of_getElem? (i := 874) (by decide +kernel), List.mem_of_getElem? (i := 875) (by decide +kernel)⟩
theorem lw_p33 : lw_okq (⟨"SpikeTownModel", "fewest", "(IIZ)I"⟩, 28) := ⟨⟨by decide +kernel, by decide +kernel⟩, List.mem_of_getElem? (i := 618) (by decide +kernel), List.mem_of_getElem? (i := 886) (by decide +kernel), List.mem_of_getElem? (i := 887) (by decide +kernel)⟩
theorem lw_p34 : lw_okq (⟨"SpikeTownModel", "does", "(I)Z"⟩, 28) := ⟨⟨by decide +kernel, by decide +kernel⟩, List.mem_of_getElem? (i := 618) (by decide +kernel), List.mem_of_getElem? (i := 903) (by decide +kernel), List.mem_of_getElem? (i := 904) (by decide +kernel)⟩
theorem lw_p35 : lw_okq (⟨"SpikeTownModel", "doesTo", "(II)Z"⟩, 28) := ⟨⟨by decide +kernel, by decide +kernel⟩, List.mem_of_getElem? (i := 618) (by decide +kernel), List.mem_of_getElem? (i := 907) (by decide +kernel), List.mem_of_getElem? (i := 908) (by decide +kernel)⟩
theorem lw_p36 : lw_okq (⟨"SpikeTownModel", "takesTop", "(I)Z"⟩, 28) := ⟨⟨by decide +kernel, by decide +kernel⟩, List.mem_of_getElem? (i := 618) (by decide +kernel), List.mem_of_getElem? (i := 911) (by decide +kernel), List.mem_of_getElem? (i := 912) (by decide +kernel)⟩
theorem lw_p37 : lw_okq (⟨"SpikeTownModel", "turns", "(III)Z"⟩, 28) := ⟨⟨by decide +kernel, by decide +kernel⟩, List.mem_of_getElem? (i := 618) (by decide +kernel), List.mem_of_getElem? (i := 915) (by decide +kernel), List.mem_of_getElem? (i := 916) (by decide +kernel)⟩
def lw_privs_3 : List (MethodName × Nat) := [(⟨"SpikeTownModel", "soThen", "()I"⟩, 28), (⟨"SpikeTownModel", "fewest", "(IIZ)I"⟩, 28), (⟨"SpikeTownModel", "does", "(I)Z"⟩, 28), (⟨"SpikeTownModel", "doesTo", "(II)Z"⟩, 28), (⟨"SpikeTownModel", "takesTop", "(I)Z"⟩, 28), (⟨"SpikeTownModel", "turns", "(III)Z"⟩, 28)]
theorem lw_r3 : ∀ q ∈ lw_privs_3, lw_okq q := List.forall_mem_cons.mpr ⟨lw_p32, List.forall_mem_cons.mpr ⟨lw_p33, List.forall_mem_cons.mpr ⟨lw_p34, List.forall_mem_cons.mpr ⟨lw_p35, List.forall_mem_cons.mpr ⟨lw_p36, List.forall_mem_cons.mpr ⟨lw_p37, fun _ h => absurd h List.not_mem_nil⟩⟩⟩⟩⟩⟩
def lw_privs : List (MethodName × Nat) := lw_privs_1 ++ (lw_privs_2 ++ (lw_privs_3))
def lw_tbl : List Cond := k2_sels lw_privs ++ tables_1
theorem lw_privs_ok : ∀ q ∈ lw_privs, lw_okq q := by
  show ∀ q ∈ lw_privs_1 ++ (lw_privs_2 ++ (lw_privs_3)), lw_okq q
  exact List.forall_mem_append.mpr ⟨lw_r1, List.forall_mem_append.mpr ⟨lw_r2, lw_r3⟩⟩

-- names, fields (begun from the printed NAMES text)
def RX0 : String := "SpikeTown$Acts"
def TX0 : u_T := fun k => match k with
  | 0 => ("SpikeTown$Acts", "before", "[J", true)
  | _ => ("SpikeTown$Acts", "count", "I", false)
def tyX0 : Nat → FieldType := fun k => match k with
  | 0 => .array .long
  | _ => .int
theorem nmX0 : ∀ a, a < 2 → ∀ b, b < 2 → a ≠ b → (TX0 a).2.1 ≠ (TX0 b).2.1 := by decide +kernel
theorem tyX0_ok : ∀ k, k < 2 → parseFieldDescriptor (TX0 k).2.2.1 = some (tyX0 k) := by decide +kernel
abbrev cX0_init : ByteArray := prog_2_method_1_code
def yX0_init : MethodName := ⟨RX0, "<init>", "()V"⟩
abbrev cX0_append : ByteArray := prog_2_method_2_code
def yX0_append : MethodName := ⟨RX0, "append", "(J)V"⟩
abbrev cX0_removeFirst : ByteArray := prog_2_method_3_code
def yX0_removeFirst : MethodName := ⟨RX0, "removeFirst", "()V"⟩
abbrev cX0_removeLast : ByteArray := prog_2_method_4_code
def yX0_removeLast : MethodName := ⟨RX0, "removeLast", "()J"⟩
abbrev cX0_forgetAll : ByteArray := prog_2_method_5_code
def yX0_forgetAll : MethodName := ⟨RX0, "forgetAll", "()V"⟩
def RX1 : String := "SpikeTown$Oaths"
def TX1 : u_T := fun k => match k with
  | 0 => ("SpikeTown$Oaths", "sworn", "[I", true)
  | 1 => ("SpikeTown$Oaths", "answers", "[I", true)
  | _ => ("SpikeTown$Oaths", "count", "I", false)
def tyX1 : Nat → FieldType := fun k => match k with
  | 0 => .array .int
  | 1 => .array .int
  | _ => .int
theorem nmX1 : ∀ a, a < 3 → ∀ b, b < 3 → a ≠ b → (TX1 a).2.1 ≠ (TX1 b).2.1 := by decide +kernel
theorem tyX1_ok : ∀ k, k < 3 → parseFieldDescriptor (TX1 k).2.2.1 = some (tyX1 k) := by decide +kernel
abbrev cX1_init : ByteArray := prog_3_method_1_code
def yX1_init : MethodName := ⟨RX1, "<init>", "()V"⟩
abbrev cX1_append : ByteArray := prog_3_method_2_code
def yX1_append : MethodName := ⟨RX1, "append", "(II)I"⟩
abbrev cX1_clear : ByteArray := prog_3_method_3_code
def yX1_clear : MethodName := ⟨RX1, "clear", "()I"⟩
abbrev cX1_allKeptBy : ByteArray := prog_3_method_4_code
def yX1_allKeptBy : MethodName := ⟨RX1, "allKeptBy", "(LSpikeTown$Things;I)Z"⟩
def RX2 : String := "SpikeTown$Reader"
def TX2 : u_T := fun k => match k with
  | 0 => ("SpikeTown$Reader", "spikes", "LSpikeTown$Spikes;", true)
  | 1 => ("SpikeTown$Reader", "things", "LSpikeTown$Things;", true)
  | 2 => ("SpikeTown$Reader", "awaited", "I", false)
  | 3 => ("SpikeTown$Reader", "toldSpike", "I", false)
  | 4 => ("SpikeTown$Reader", "toldKind", "I", false)
  | 5 => ("SpikeTown$Reader", "groundA", "I", false)
  | _ => ("SpikeTown$Reader", "groundB", "I", false)
def tyX2 : Nat → FieldType := fun k => match k with
  | 0 => .object "SpikeTown$Spikes"
  | 1 => .object "SpikeTown$Things"
  | 2 => .int
  | 3 => .int
  | 4 => .int
  | 5 => .int
  | _ => .int
theorem nmX2 : ∀ a, a < 7 → ∀ b, b < 7 → a ≠ b → (TX2 a).2.1 ≠ (TX2 b).2.1 := by decide +kernel
theorem tyX2_ok : ∀ k, k < 7 → parseFieldDescriptor (TX2 k).2.2.1 = some (tyX2 k) := by decide +kernel
abbrev cX2_init : ByteArray := prog_4_method_1_code
def yX2_init : MethodName := ⟨RX2, "<init>", "()V"⟩
abbrev cX2_faultOf : ByteArray := prog_4_method_2_code
def yX2_faultOf : MethodName := ⟨RX2, "faultOf", "(LSpikeTown$Text;)I"⟩
abbrev cX2_reads : ByteArray := prog_4_method_3_code
def yX2_reads : MethodName := ⟨RX2, "reads", "(I)Z"⟩
abbrev cX2_readsStart : ByteArray := prog_4_method_4_code
def yX2_readsStart : MethodName := ⟨RX2, "readsStart", "(I)Z"⟩
abbrev cX2_readsPart : ByteArray := prog_4_method_5_code
def yX2_readsPart : MethodName := ⟨RX2, "readsPart", "(I)Z"⟩
abbrev cX2_readsSpike : ByteArray := prog_4_method_6_code
def yX2_readsSpike : MethodName := ⟨RX2, "readsSpike", "(I)Z"⟩
abbrev cX2_readsSlip : ByteArray := prog_4_method_7_code
def yX2_readsSlip : MethodName := ⟨RX2, "readsSlip", "(I)Z"⟩
abbrev cX2_readsKind : ByteArray := prog_4_method_8_code
def yX2_readsKind : MethodName := ⟨RX2, "readsKind", "(I)Z"⟩
abbrev cX2_readsGround : ByteArray := prog_4_method_9_code
def yX2_readsGround : MethodName := ⟨RX2, "readsGround", "(I)Z"⟩
abbrev cX2_groundTold : ByteArray := prog_4_method_10_code
def yX2_groundTold : MethodName := ⟨RX2, "groundTold", "(I)I"⟩
def RX3 : String := "SpikeTown$Slots"
def TX3 : u_T := fun k => match k with
  | 0 => ("SpikeTown$Slots", "kept", "[J", true)
  | _ => ("SpikeTown$Slots", "full", "[Z", true)
def tyX3 : Nat → FieldType := fun k => match k with
  | 0 => .array .long
  | _ => .array .boolean
theorem nmX3 : ∀ a, a < 2 → ∀ b, b < 2 → a ≠ b → (TX3 a).2.1 ≠ (TX3 b).2.1 := by decide +kernel
theorem tyX3_ok : ∀ k, k < 2 → parseFieldDescriptor (TX3 k).2.2.1 = some (tyX3 k) := by decide +kernel
abbrev cX3_init : ByteArray := prog_5_method_1_code
def yX3_init : MethodName := ⟨RX3, "<init>", "()V"⟩
abbrev cX3_store : ByteArray := prog_5_method_2_code
def yX3_store : MethodName := ⟨RX3, "store", "(IJ)V"⟩
abbrev cX3_isFull : ByteArray := prog_5_method_3_code
def yX3_isFull : MethodName := ⟨RX3, "isFull", "(I)Z"⟩
abbrev cX3_stored : ByteArray := prog_5_method_4_code
def yX3_stored : MethodName := ⟨RX3, "stored", "(I)J"⟩
abbrev cX3_forgetAll : ByteArray := prog_5_method_5_code
def yX3_forgetAll : MethodName := ⟨RX3, "forgetAll", "()V"⟩
def RX4 : String := "SpikeTown$Spikes"
def TX4 : u_T := fun k => match k with
  | 0 => ("SpikeTown$Spikes", "spots", "[I", true)
  | _ => ("SpikeTown$Spikes", "night", "I", false)
def tyX4 : Nat → FieldType := fun k => match k with
  | 0 => .array .int
  | _ => .int
theorem nmX4 : ∀ a, a < 2 → ∀ b, b < 2 → a ≠ b → (TX4 a).2.1 ≠ (TX4 b).2.1 := by decide +kernel
theorem tyX4_ok : ∀ k, k < 2 → parseFieldDescriptor (TX4 k).2.2.1 = some (tyX4 k) := by decide +kernel
abbrev cX4_init : ByteArray := prog_6_method_1_code
def yX4_init : MethodName := ⟨RX4, "<init>", "()V"⟩
abbrev cX4_allInHand : ByteArray := prog_6_method_2_code
def yX4_allInHand : MethodName := ⟨RX4, "allInHand", "()V"⟩
abbrev cX4_copyFrom : ByteArray := prog_6_method_3_code
def yX4_copyFrom : MethodName := ⟨RX4, "copyFrom", "(LSpikeTown$Spikes;)V"⟩
abbrev cX4_packed : ByteArray := prog_6_method_4_code
def yX4_packed : MethodName := ⟨RX4, "packed", "()J"⟩
abbrev cX4_unpack : ByteArray := prog_6_method_5_code
def yX4_unpack : MethodName := ⟨RX4, "unpack", "(J)V"⟩
abbrev cX4_onSpikes : ByteArray := prog_6_method_6_code
def yX4_onSpikes : MethodName := ⟨RX4, "onSpikes", "()I"⟩
abbrev cX4_inHand : ByteArray := prog_6_method_7_code
def yX4_inHand : MethodName := ⟨RX4, "inHand", "()I"⟩
abbrev cX4_gone : ByteArray := prog_6_method_8_code
def yX4_gone : MethodName := ⟨RX4, "gone", "()I"⟩
abbrev cX4_slipsOn : ByteArray := prog_6_method_9_code
def yX4_slipsOn : MethodName := ⟨RX4, "slipsOn", "(I)I"⟩
abbrev cX4_slipsFrom : ByteArray := prog_6_method_10_code
def yX4_slipsFrom : MethodName := ⟨RX4, "slipsFrom", "(II)I"⟩
abbrev cX4_countOn : ByteArray := prog_6_method_11_code
def yX4_countOn : MethodName := ⟨RX4, "countOn", "(I)I"⟩
abbrev cX4_isInHand : ByteArray := prog_6_method_12_code
def yX4_isInHand : MethodName := ⟨RX4, "isInHand", "(I)Z"⟩
abbrev cX4_spikeOf : ByteArray := prog_6_method_13_code
def yX4_spikeOf : MethodName := ⟨RX4, "spikeOf", "(I)I"⟩
abbrev cX4_heightOf : ByteArray := prog_6_method_14_code
def yX4_heightOf : MethodName := ⟨RX4, "heightOf", "(I)I"⟩
abbrev cX4_stateOf : ByteArray := prog_6_method_15_code
def yX4_stateOf : MethodName := ⟨RX4, "stateOf", "(I)I"⟩
abbrev cX4_topOf : ByteArray := prog_6_method_16_code
def yX4_topOf : MethodName := ⟨RX4, "topOf", "(I)I"⟩
abbrev cX4_slipAt : ByteArray := prog_6_method_17_code
def yX4_slipAt : MethodName := ⟨RX4, "slipAt", "(II)I"⟩
abbrev cX4_putOn : ByteArray := prog_6_method_18_code
def yX4_putOn : MethodName := ⟨RX4, "putOn", "(II)I"⟩
abbrev cX4_takeTop : ByteArray := prog_6_method_19_code
def yX4_takeTop : MethodName := ⟨RX4, "takeTop", "(I)I"⟩
abbrev cX4_tearUp : ByteArray := prog_6_method_20_code
def yX4_tearUp : MethodName := ⟨RX4, "tearUp", "(I)I"⟩
abbrev cX4_forgeAnew : ByteArray := prog_6_method_21_code
def yX4_forgeAnew : MethodName := ⟨RX4, "forgeAnew", "(I)I"⟩
abbrev cX4_letMiceIn : ByteArray := prog_6_method_22_code
def yX4_letMiceIn : MethodName := ⟨RX4, "letMiceIn", "()I"⟩
abbrev cX4_loseLowest : ByteArray := prog_6_method_23_code
def yX4_loseLowest : MethodName := ⟨RX4, "loseLowest", "(I)V"⟩
abbrev cX4_turnOver : ByteArray := prog_6_method_24_code
def yX4_turnOver : MethodName := ⟨RX4, "turnOver", "(I)I"⟩
def RX5 : String := "SpikeTown$Text"
def TX5 : u_T := fun k => match k with
  | 0 => ("SpikeTown$Text", "letters", "[I", true)
  | _ => ("SpikeTown$Text", "count", "I", false)
def tyX5 : Nat → FieldType := fun k => match k with
  | 0 => .array .int
  | _ => .int
theorem nmX5 : ∀ a, a < 2 → ∀ b, b < 2 → a ≠ b → (TX5 a).2.1 ≠ (TX5 b).2.1 := by decide +kernel
theorem tyX5_ok : ∀ k, k < 2 → parseFieldDescriptor (TX5 k).2.2.1 = some (tyX5 k) := by decide +kernel
abbrev cX5_init : ByteArray := prog_7_method_1_code
def yX5_init : MethodName := ⟨RX5, "<init>", "()V"⟩
abbrev cX5_append : ByteArray := prog_7_method_2_code
def yX5_append : MethodName := ⟨RX5, "append", "(I)I"⟩
abbrev cX5_clear : ByteArray := prog_7_method_3_code
def yX5_clear : MethodName := ⟨RX5, "clear", "()I"⟩
abbrev cX5_letterAt : ByteArray := prog_7_method_4_code
def yX5_letterAt : MethodName := ⟨RX5, "letterAt", "(I)I"⟩
def RX6 : String := "SpikeTown$Things"
def TX6 : u_T := fun k => match k with
  | 0 => ("SpikeTown$Things", "kinds", "[I", true)
  | 1 => ("SpikeTown$Things", "grounds", "[I", true)
  | _ => ("SpikeTown$Things", "count", "I", false)
def tyX6 : Nat → FieldType := fun k => match k with
  | 0 => .array .int
  | 1 => .array .int
  | _ => .int
theorem nmX6 : ∀ a, a < 3 → ∀ b, b < 3 → a ≠ b → (TX6 a).2.1 ≠ (TX6 b).2.1 := by decide +kernel
theorem tyX6_ok : ∀ k, k < 3 → parseFieldDescriptor (TX6 k).2.2.1 = some (tyX6 k) := by decide +kernel
abbrev cX6_init : ByteArray := prog_8_method_1_code
def yX6_init : MethodName := ⟨RX6, "<init>", "()V"⟩
abbrev cX6_clear : ByteArray := prog_8_method_2_code
def yX6_clear : MethodName := ⟨RX6, "clear", "()V"⟩
abbrev cX6_copyFrom : ByteArray := prog_8_method_3_code
def yX6_copyFrom : MethodName := ⟨RX6, "copyFrom", "(LSpikeTown$Things;)V"⟩
abbrev cX6_append : ByteArray := prog_8_method_4_code
def yX6_append : MethodName := ⟨RX6, "append", "(IIII)V"⟩
abbrev cX6_has : ByteArray := prog_8_method_5_code
def yX6_has : MethodName := ⟨RX6, "has", "(I)Z"⟩
abbrev cX6_kindOf : ByteArray := prog_8_method_6_code
def yX6_kindOf : MethodName := ⟨RX6, "kindOf", "(I)I"⟩
abbrev cX6_groundOf : ByteArray := prog_8_method_7_code
def yX6_groundOf : MethodName := ⟨RX6, "groundOf", "(II)I"⟩
abbrev cX6_isSo : ByteArray := prog_8_method_8_code
def yX6_isSo : MethodName := ⟨RX6, "isSo", "(II)Z"⟩
abbrev cX6_soBy : ByteArray := prog_8_method_9_code
def yX6_soBy : MethodName := ⟨RX6, "soBy", "(I)I"⟩
abbrev cX6_isSoByGrounds : ByteArray := prog_8_method_10_code
def yX6_isSoByGrounds : MethodName := ⟨RX6, "isSoByGrounds", "(IZZZ)Z"⟩
def RX7 : String := "SpikeTown"
def TX7 : u_T := fun k => match k with
  | 0 => ("SpikeTown", "text", "LSpikeTown$Text;", true)
  | 1 => ("SpikeTown", "reader", "LSpikeTown$Reader;", true)
  | 2 => ("SpikeTown", "spikes", "LSpikeTown$Spikes;", true)
  | 3 => ("SpikeTown", "trial", "LSpikeTown$Spikes;", true)
  | 4 => ("SpikeTown", "things", "LSpikeTown$Things;", true)
  | 5 => ("SpikeTown", "acts", "LSpikeTown$Acts;", true)
  | 6 => ("SpikeTown", "oaths", "LSpikeTown$Oaths;", true)
  | 7 => ("SpikeTown", "slots", "LSpikeTown$Slots;", true)
  | _ => ("SpikeTown", "theSeed", "J", false)
def tyX7 : Nat → FieldType := fun k => match k with
  | 0 => .object "SpikeTown$Text"
  | 1 => .object "SpikeTown$Reader"
  | 2 => .object "SpikeTown$Spikes"
  | 3 => .object "SpikeTown$Spikes"
  | 4 => .object "SpikeTown$Things"
  | 5 => .object "SpikeTown$Acts"
  | 6 => .object "SpikeTown$Oaths"
  | 7 => .object "SpikeTown$Slots"
  | _ => .long
theorem nmX7 : ∀ a, a < 9 → ∀ b, b < 9 → a ≠ b → (TX7 a).2.1 ≠ (TX7 b).2.1 := by decide +kernel
theorem tyX7_ok : ∀ k, k < 9 → parseFieldDescriptor (TX7 k).2.2.1 = some (tyX7 k) := by decide +kernel
abbrev cX7_init : ByteArray := prog_1_method_1_code
def yX7_init : MethodName := ⟨RX7, "<init>", "()V"⟩
abbrev cX7_write : ByteArray := prog_1_method_2_code
def yX7_write : MethodName := ⟨RX7, "write", "(I)I"⟩
abbrev cX7_wipe : ByteArray := prog_1_method_3_code
def yX7_wipe : MethodName := ⟨RX7, "wipe", "()I"⟩
abbrev cX7_fault : ByteArray := prog_1_method_4_code
def yX7_fault : MethodName := ⟨RX7, "fault", "()I"⟩
abbrev cX7_town : ByteArray := prog_1_method_5_code
def yX7_town : MethodName := ⟨RX7, "town", "()I"⟩
abbrev cX7_about : ByteArray := prog_1_method_6_code
def yX7_about : MethodName := ⟨RX7, "about", "(I)I"⟩
abbrev cX7_slip : ByteArray := prog_1_method_7_code
def yX7_slip : MethodName := ⟨RX7, "slip", "(II)I"⟩
abbrev cX7_spike : ByteArray := prog_1_method_8_code
def yX7_spike : MethodName := ⟨RX7, "spike", "(II)I"⟩
abbrev cX7_thing : ByteArray := prog_1_method_9_code
def yX7_thing : MethodName := ⟨RX7, "thing", "(II)I"⟩
abbrev cX7_put : ByteArray := prog_1_method_10_code
def yX7_put : MethodName := ⟨RX7, "put", "(II)I"⟩
abbrev cX7_take : ByteArray := prog_1_method_11_code
def yX7_take : MethodName := ⟨RX7, "take", "(I)I"⟩
abbrev cX7_tear : ByteArray := prog_1_method_12_code
def yX7_tear : MethodName := ⟨RX7, "tear", "(I)I"⟩
abbrev cX7_forge : ByteArray := prog_1_method_13_code
def yX7_forge : MethodName := ⟨RX7, "forge", "(I)I"⟩
abbrev cX7_night : ByteArray := prog_1_method_14_code
def yX7_night : MethodName := ⟨RX7, "night", "()I"⟩
abbrev cX7_audit : ByteArray := prog_1_method_15_code
def yX7_audit : MethodName := ⟨RX7, "audit", "(I)I"⟩
abbrev cX7_undo : ByteArray := prog_1_method_16_code
def yX7_undo : MethodName := ⟨RX7, "undo", "()I"⟩
abbrev cX7_later : ByteArray := prog_1_method_17_code
def yX7_later : MethodName := ⟨RX7, "later", "(I)I"⟩
abbrev cX7_lasts : ByteArray := prog_1_method_18_code
def yX7_lasts : MethodName := ⟨RX7, "lasts", "(I)I"⟩
abbrev cX7_wants : ByteArray := prog_1_method_19_code
def yX7_wants : MethodName := ⟨RX7, "wants", "(I)I"⟩
abbrev cX7_breaks : ByteArray := prog_1_method_20_code
def yX7_breaks : MethodName := ⟨RX7, "breaks", "(I)I"⟩
abbrev cX7_judge : ByteArray := prog_1_method_21_code
def yX7_judge : MethodName := ⟨RX7, "judge", "(IJ)I"⟩
abbrev cX7_share : ByteArray := prog_1_method_22_code
def yX7_share : MethodName := ⟨RX7, "share", "(IZ)I"⟩
abbrev cX7_swear : ByteArray := prog_1_method_23_code
def yX7_swear : MethodName := ⟨RX7, "swear", "(II)I"⟩
abbrev cX7_unswear : ByteArray := prog_1_method_24_code
def yX7_unswear : MethodName := ⟨RX7, "unswear", "()I"⟩
abbrev cX7_may : ByteArray := prog_1_method_25_code
def yX7_may : MethodName := ⟨RX7, "may", "(I)I"⟩
abbrev cX7_rests : ByteArray := prog_1_method_26_code
def yX7_rests : MethodName := ⟨RX7, "rests", "(III)I"⟩
abbrev cX7_fires : ByteArray := prog_1_method_27_code
def yX7_fires : MethodName := ⟨RX7, "fires", "(IIZ)I"⟩
abbrev cX7_seed : ByteArray := prog_1_method_28_code
def yX7_seed : MethodName := ⟨RX7, "seed", "(J)J"⟩
abbrev cX7_years : ByteArray := prog_1_method_29_code
def yX7_years : MethodName := ⟨RX7, "years", "(I)I"⟩
abbrev cX7_keep : ByteArray := prog_1_method_30_code
def yX7_keep : MethodName := ⟨RX7, "keep", "(I)I"⟩
abbrev cX7_again : ByteArray := prog_1_method_31_code
def yX7_again : MethodName := ⟨RX7, "again", "(I)I"⟩
abbrev cX7_isSlip : ByteArray := prog_1_method_32_code
def yX7_isSlip : MethodName := ⟨RX7, "isSlip", "(I)Z"⟩
abbrev cX7_isSpike : ByteArray := prog_1_method_33_code
def yX7_isSpike : MethodName := ⟨RX7, "isSpike", "(I)Z"⟩
abbrev cX7_isSlot : ByteArray := prog_1_method_34_code
def yX7_isSlot : MethodName := ⟨RX7, "isSlot", "(I)Z"⟩
abbrev cX7_isRefusal : ByteArray := prog_1_method_35_code
def yX7_isRefusal : MethodName := ⟨RX7, "isRefusal", "(I)Z"⟩
abbrev cX7_act : ByteArray := prog_1_method_36_code
def yX7_act : MethodName := ⟨RX7, "act", "(JI)I"⟩
abbrev cX7_hangsOf : ByteArray := prog_1_method_37_code
def yX7_hangsOf : MethodName := ⟨RX7, "hangsOf", "(I)I"⟩
abbrev cX7_fewestToTurn : ByteArray := prog_1_method_38_code
def yX7_fewestToTurn : MethodName := ⟨RX7, "fewestToTurn", "(IIZ)I"⟩
abbrev cX7_withoutLastDoings : ByteArray := prog_1_method_39_code
def yX7_withoutLastDoings : MethodName := ⟨RX7, "withoutLastDoings", "(JI)J"⟩
abbrev cX7_tryDoing : ByteArray := prog_1_method_40_code
def yX7_tryDoing : MethodName := ⟨RX7, "tryDoing", "(III)Z"⟩
abbrev cX7_gainInAllOrders : ByteArray := prog_1_method_41_code
def yX7_gainInAllOrders : MethodName := ⟨RX7, "gainInAllOrders", "(II)I"⟩
abbrev cX7_factorial : ByteArray := prog_1_method_42_code
def yX7_factorial : MethodName := ⟨RX7, "factorial", "(I)I"⟩
abbrev cX7_fraction : ByteArray := prog_1_method_43_code
def yX7_fraction : MethodName := ⟨RX7, "fraction", "(IIZ)I"⟩
abbrev cX7_commonDivisor : ByteArray := prog_1_method_44_code
def yX7_commonDivisor : MethodName := ⟨RX7, "commonDivisor", "(II)I"⟩
abbrev cX7_isBest : ByteArray := prog_1_method_45_code
def yX7_isBest : MethodName := ⟨RX7, "isBest", "(IIII)Z"⟩
abbrev cX7_worth : ByteArray := prog_1_method_46_code
def yX7_worth : MethodName := ⟨RX7, "worth", "(IIII)I"⟩
abbrev cX7_slipChosen : ByteArray := prog_1_method_47_code
def yX7_slipChosen : MethodName := ⟨RX7, "slipChosen", "(II)I"⟩
abbrev cX7_weightOfFire : ByteArray := prog_1_method_48_code
def yX7_weightOfFire : MethodName := ⟨RX7, "weightOfFire", "(II)I"⟩
abbrev cX7_leftByFire : ByteArray := prog_1_method_49_code
def yX7_leftByFire : MethodName := ⟨RX7, "leftByFire", "(I)I"⟩
abbrev cX7_passYear : ByteArray := prog_1_method_50_code
def yX7_passYear : MethodName := ⟨RX7, "passYear", "(I)V"⟩
def RX8 : String := "SpikeTownModel"
def TX8 : u_T := fun k => match k with
  | 0 => ("SpikeTownModel", "thrown", "I", false)
  | 1 => ("SpikeTownModel", "text", "[I", true)
  | 2 => ("SpikeTownModel", "textSize", "I", false)
  | 3 => ("SpikeTownModel", "place", "I", false)
  | 4 => ("SpikeTownModel", "things", "I", false)
  | 5 => ("SpikeTownModel", "kind", "[I", true)
  | 6 => ("SpikeTownModel", "ground", "[I", true)
  | 7 => ("SpikeTownModel", "readSlips", "I", false)
  | 8 => ("SpikeTownModel", "readOn", "[I", true)
  | 9 => ("SpikeTownModel", "readPage", "[I", true)
  | 10 => ("SpikeTownModel", "readThings", "I", false)
  | 11 => ("SpikeTownModel", "readKind", "[I", true)
  | 12 => ("SpikeTownModel", "readGround", "[I", true)
  | 13 => ("SpikeTownModel", "page", "[I", true)
  | 14 => ("SpikeTownModel", "trial", "[I", true)
  | 15 => ("SpikeTownModel", "book", "[I", true)
  | 16 => ("SpikeTownModel", "acts", "I", false)
  | 17 => ("SpikeTownModel", "kept", "[I", true)
  | 18 => ("SpikeTownModel", "isKept", "[Z", true)
  | 19 => ("SpikeTownModel", "sworn", "I", false)
  | 20 => ("SpikeTownModel", "swornThing", "[I", true)
  | 21 => ("SpikeTownModel", "swornSo", "[I", true)
  | 22 => ("SpikeTownModel", "seed", "J", false)
  | 23 => ("SpikeTownModel", "mayMany", "I", false)
  | 24 => ("SpikeTownModel", "mayFirst", "I", false)
  | 25 => ("SpikeTownModel", "restMany", "I", false)
  | 26 => ("SpikeTownModel", "restFirst", "I", false)
  | _ => ("SpikeTownModel", "gains", "[I", true)
def tyX8 : Nat → FieldType := fun k => match k with
  | 0 => .int
  | 1 => .array .int
  | 2 => .int
  | 3 => .int
  | 4 => .int
  | 5 => .array .int
  | 6 => .array .int
  | 7 => .int
  | 8 => .array .int
  | 9 => .array .int
  | 10 => .int
  | 11 => .array .int
  | 12 => .array .int
  | 13 => .array .int
  | 14 => .array .int
  | 15 => .array .int
  | 16 => .int
  | 17 => .array .int
  | 18 => .array .boolean
  | 19 => .int
  | 20 => .array .int
  | 21 => .array .int
  | 22 => .long
  | 23 => .int
  | 24 => .int
  | 25 => .int
  | 26 => .int
  | _ => .array .int
theorem nmX8 : ∀ a, a < 28 → ∀ b, b < 28 → a ≠ b → (TX8 a).2.1 ≠ (TX8 b).2.1 := by decide +kernel
theorem tyX8_ok : ∀ k, k < 28 → parseFieldDescriptor (TX8 k).2.2.1 = some (tyX8 k) := by decide +kernel
abbrev cX8_init : ByteArray := prog_10_method_1_code
def yX8_init : MethodName := ⟨RX8, "<init>", "()V"⟩
abbrev cX8_in : ByteArray := prog_10_method_3_code
def yX8_in : MethodName := ⟨RX8, "in", "(JJJ)Z"⟩
abbrev cX8_has : ByteArray := prog_10_method_4_code
def yX8_has : MethodName := ⟨RX8, "has", "(II)Z"⟩
abbrev cX8_many : ByteArray := prog_10_method_5_code
def yX8_many : MethodName := ⟨RX8, "many", "(I)I"⟩
abbrev cX8_power : ByteArray := prog_10_method_6_code
def yX8_power : MethodName := ⟨RX8, "power", "(II)I"⟩
abbrev cX8_noSlip : ByteArray := prog_10_method_7_code
def yX8_noSlip : MethodName := ⟨RX8, "noSlip", "(I)Z"⟩
abbrev cX8_noSpike : ByteArray := prog_10_method_8_code
def yX8_noSpike : MethodName := ⟨RX8, "noSpike", "(I)Z"⟩
abbrev cX8_noThing : ByteArray := prog_10_method_9_code
def yX8_noThing : MethodName := ⟨RX8, "noThing", "(I)Z"⟩
abbrev cX8_layHand : ByteArray := prog_10_method_10_code
def yX8_layHand : MethodName := ⟨RX8, "layHand", "([I)V"⟩
abbrev cX8_write : ByteArray := prog_10_method_11_code
def yX8_write : MethodName := ⟨RX8, "write", "(I)I"⟩
abbrev cX8_wipe : ByteArray := prog_10_method_12_code
def yX8_wipe : MethodName := ⟨RX8, "wipe", "()I"⟩
abbrev cX8_next : ByteArray := prog_10_method_13_code
def yX8_next : MethodName := ⟨RX8, "next", "()I"⟩
abbrev cX8_readSlip : ByteArray := prog_10_method_14_code
def yX8_readSlip : MethodName := ⟨RX8, "readSlip", "()Z"⟩
abbrev cX8_readThing : ByteArray := prog_10_method_15_code
def yX8_readThing : MethodName := ⟨RX8, "readThing", "()Z"⟩
abbrev cX8_readPart : ByteArray := prog_10_method_16_code
def yX8_readPart : MethodName := ⟨RX8, "readPart", "()Z"⟩
abbrev cX8_readTown : ByteArray := prog_10_method_17_code
def yX8_readTown : MethodName := ⟨RX8, "readTown", "()I"⟩
abbrev cX8_fault : ByteArray := prog_10_method_18_code
def yX8_fault : MethodName := ⟨RX8, "fault", "()I"⟩
abbrev cX8_town : ByteArray := prog_10_method_19_code
def yX8_town : MethodName := ⟨RX8, "town", "()I"⟩
abbrev cX8_slipsAt : ByteArray := prog_10_method_20_code
def yX8_slipsAt : MethodName := ⟨RX8, "slipsAt", "([II)I"⟩
abbrev cX8_onSpikes : ByteArray := prog_10_method_21_code
def yX8_onSpikes : MethodName := ⟨RX8, "onSpikes", "([I)I"⟩
abbrev cX8_holds : ByteArray := prog_10_method_22_code
def yX8_holds : MethodName := ⟨RX8, "holds", "(IIII)Z"⟩
abbrev cX8_isSo : ByteArray := prog_10_method_23_code
def yX8_isSo : MethodName := ⟨RX8, "isSo", "(III)Z"⟩
abbrev cX8_soBy : ByteArray := prog_10_method_24_code
def yX8_soBy : MethodName := ⟨RX8, "soBy", "(I)I"⟩
abbrev cX8_highOn : ByteArray := prog_10_method_25_code
def yX8_highOn : MethodName := ⟨RX8, "highOn", "([II)I"⟩
abbrev cX8_slipOn : ByteArray := prog_10_method_26_code
def yX8_slipOn : MethodName := ⟨RX8, "slipOn", "([III)I"⟩
abbrev cX8_hangs : ByteArray := prog_10_method_27_code
def yX8_hangs : MethodName := ⟨RX8, "hangs", "(I)I"⟩
abbrev cX8_about : ByteArray := prog_10_method_28_code
def yX8_about : MethodName := ⟨RX8, "about", "(I)I"⟩
abbrev cX8_slip : ByteArray := prog_10_method_29_code
def yX8_slip : MethodName := ⟨RX8, "slip", "(II)I"⟩
abbrev cX8_spike : ByteArray := prog_10_method_30_code
def yX8_spike : MethodName := ⟨RX8, "spike", "(II)I"⟩
abbrev cX8_thing : ByteArray := prog_10_method_31_code
def yX8_thing : MethodName := ⟨RX8, "thing", "(II)I"⟩
abbrev cX8_note : ByteArray := prog_10_method_32_code
def yX8_note : MethodName := ⟨RX8, "note", "()V"⟩
abbrev cX8_goPut : ByteArray := prog_10_method_33_code
def yX8_goPut : MethodName := ⟨RX8, "goPut", "([III)V"⟩
abbrev cX8_goAway : ByteArray := prog_10_method_34_code
def yX8_goAway : MethodName := ⟨RX8, "goAway", "([III)V"⟩
abbrev cX8_put : ByteArray := prog_10_method_35_code
def yX8_put : MethodName := ⟨RX8, "put", "(II)I"⟩
abbrev cX8_topOf : ByteArray := prog_10_method_36_code
def yX8_topOf : MethodName := ⟨RX8, "topOf", "([II)I"⟩
abbrev cX8_take : ByteArray := prog_10_method_37_code
def yX8_take : MethodName := ⟨RX8, "take", "(I)I"⟩
abbrev cX8_tear : ByteArray := prog_10_method_38_code
def yX8_tear : MethodName := ⟨RX8, "tear", "(I)I"⟩
abbrev cX8_forge : ByteArray := prog_10_method_39_code
def yX8_forge : MethodName := ⟨RX8, "forge", "(I)I"⟩
abbrev cX8_goNight : ByteArray := prog_10_method_40_code
def yX8_goNight : MethodName := ⟨RX8, "goNight", "([I)I"⟩
abbrev cX8_night : ByteArray := prog_10_method_41_code
def yX8_night : MethodName := ⟨RX8, "night", "()I"⟩
abbrev cX8_goAudit : ByteArray := prog_10_method_42_code
def yX8_goAudit : MethodName := ⟨RX8, "goAudit", "([II)V"⟩
abbrev cX8_audit : ByteArray := prog_10_method_43_code
def yX8_audit : MethodName := ⟨RX8, "audit", "(I)I"⟩
abbrev cX8_undo : ByteArray := prog_10_method_44_code
def yX8_undo : MethodName := ⟨RX8, "undo", "()I"⟩
abbrev cX8_begin : ByteArray := prog_10_method_45_code
def yX8_begin : MethodName := ⟨RX8, "begin", "()V"⟩
abbrev cX8_soThen : ByteArray := prog_10_method_46_code
def yX8_soThen : MethodName := ⟨RX8, "soThen", "()I"⟩
abbrev cX8_later : ByteArray := prog_10_method_47_code
def yX8_later : MethodName := ⟨RX8, "later", "(I)I"⟩
abbrev cX8_lasts : ByteArray := prog_10_method_48_code
def yX8_lasts : MethodName := ⟨RX8, "lasts", "(I)I"⟩
abbrev cX8_fewest : ByteArray := prog_10_method_49_code
def yX8_fewest : MethodName := ⟨RX8, "fewest", "(IIZ)I"⟩
abbrev cX8_wants : ByteArray := prog_10_method_50_code
def yX8_wants : MethodName := ⟨RX8, "wants", "(I)I"⟩
abbrev cX8_breaks : ByteArray := prog_10_method_51_code
def yX8_breaks : MethodName := ⟨RX8, "breaks", "(I)I"⟩
abbrev cX8_longPower : ByteArray := prog_10_method_52_code
def yX8_longPower : MethodName := ⟨RX8, "longPower", "(JI)J"⟩
abbrev cX8_turns : ByteArray := prog_10_method_53_code
def yX8_turns : MethodName := ⟨RX8, "turns", "(III)Z"⟩
abbrev cX8_takesTop : ByteArray := prog_10_method_54_code
def yX8_takesTop : MethodName := ⟨RX8, "takesTop", "(I)Z"⟩
abbrev cX8_doesTo : ByteArray := prog_10_method_55_code
def yX8_doesTo : MethodName := ⟨RX8, "doesTo", "(II)Z"⟩
abbrev cX8_does : ByteArray := prog_10_method_56_code
def yX8_does : MethodName := ⟨RX8, "does", "(I)Z"⟩
abbrev cX8_judge : ByteArray := prog_10_method_57_code
def yX8_judge : MethodName := ⟨RX8, "judge", "(IJ)I"⟩
abbrev cX8_ways : ByteArray := prog_10_method_58_code
def yX8_ways : MethodName := ⟨RX8, "ways", "(I)I"⟩
abbrev cX8_divisor : ByteArray := prog_10_method_59_code
def yX8_divisor : MethodName := ⟨RX8, "divisor", "(II)I"⟩
abbrev cX8_fraction : ByteArray := prog_10_method_60_code
def yX8_fraction : MethodName := ⟨RX8, "fraction", "(IIZ)I"⟩
abbrev cX8_share : ByteArray := prog_10_method_61_code
def yX8_share : MethodName := ⟨RX8, "share", "(IZ)I"⟩
abbrev cX8_swear : ByteArray := prog_10_method_62_code
def yX8_swear : MethodName := ⟨RX8, "swear", "(II)I"⟩
abbrev cX8_unswear : ByteArray := prog_10_method_63_code
def yX8_unswear : MethodName := ⟨RX8, "unswear", "()I"⟩
abbrev cX8_may : ByteArray := prog_10_method_64_code
def yX8_may : MethodName := ⟨RX8, "may", "(I)I"⟩
abbrev cX8_takenBy : ByteArray := prog_10_method_65_code
def yX8_takenBy : MethodName := ⟨RX8, "takenBy", "(II)I"⟩
abbrev cX8_rests : ByteArray := prog_10_method_66_code
def yX8_rests : MethodName := ⟨RX8, "rests", "(III)I"⟩
abbrev cX8_fires : ByteArray := prog_10_method_67_code
def yX8_fires : MethodName := ⟨RX8, "fires", "(IIZ)I"⟩
abbrev cX8_seed : ByteArray := prog_10_method_68_code
def yX8_seed : MethodName := ⟨RX8, "seed", "(J)J"⟩
abbrev cX8_years : ByteArray := prog_10_method_69_code
def yX8_years : MethodName := ⟨RX8, "years", "(I)I"⟩
abbrev cX8_keep : ByteArray := prog_10_method_70_code
def yX8_keep : MethodName := ⟨RX8, "keep", "(I)I"⟩
abbrev cX8_again : ByteArray := prog_10_method_71_code
def yX8_again : MethodName := ⟨RX8, "again", "(I)I"⟩
def RJ6 : String := "java/lang/Integer"
def TJ6 : u_T := fun k => match k with
  | _ => ("", "", "", false)
def tyJ6 : Nat → FieldType := fun k => match k with
  | _ => .int
theorem nmJ6 : ∀ a, a < 0 → ∀ b, b < 0 → a ≠ b → (TJ6 a).2.1 ≠ (TJ6 b).2.1 := by decide +kernel
theorem tyJ6_ok : ∀ k, k < 0 → parseFieldDescriptor (TJ6 k).2.2.1 = some (tyJ6 k) := by decide +kernel
abbrev cJ6_bitCount_0f7a4 : ByteArray := prog_11_method_49_code
def yJ6_bitCount_0f7a4 : MethodName := ⟨RJ6, "bitCount", "(I)I"⟩
def RJ9 : String := "java/lang/Math"
def TJ9 : u_T := fun k => match k with
  | _ => ("", "", "", false)
def tyJ9 : Nat → FieldType := fun k => match k with
  | _ => .int
theorem nmJ9 : ∀ a, a < 0 → ∀ b, b < 0 → a ≠ b → (TJ9 a).2.1 ≠ (TJ9 b).2.1 := by decide +kernel
theorem tyJ9_ok : ∀ k, k < 0 → parseFieldDescriptor (TJ9 k).2.2.1 = some (tyJ9 k) := by decide +kernel
abbrev cJ9_abs_0f7a4 : ByteArray := prog_12_method_59_code
def yJ9_abs_0f7a4 : MethodName := ⟨RJ9, "abs", "(I)I"⟩
def RL : String := "SpikeTownLaw"
abbrev cL_law : ByteArray := code
def yL_law : MethodName := ⟨RL, "law", "([I)Z"⟩
