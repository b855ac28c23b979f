section
-- ===== PART A: goes FIRST, ahead of the names: the tables' words, and 'selects' of the private methods out of them =====
/-- a private method of a class that the tables say can be made, by its rows of tables_1 -/
def lw_okq (q : MethodName × Nat) : Prop := (q.1.cls ≠ "java/lang/invoke/MethodHandle" ∧ q.1.cls ≠ "java/lang/invoke/VarHandle") ∧ Cond.instantiable q.1.cls q.2 ∈ tables_1 ∧ Cond.privateMethod q.1 ∈ tables_1 ∧ Cond.instanceMethod q.1 ∈ tables_1
theorem lw_p0 : lw_okq (⟨"java/lang/Throwable", "fillInStackTrace", "(I)Ljava/lang/Throwable;"⟩, 6) := ⟨⟨by decide +kernel, by decide +kernel⟩, List.mem_of_getElem? (i := 137) (by decide +kernel), List.mem_of_getElem? (i := 135) (by decide +kernel), List.mem_of_getElem? (i := 136) (by decide +kernel)⟩
theorem lw_p1 : lw_okq (⟨"ProofLeaves$Sha256", "spreadBlock", "(I)V"⟩, 4) := ⟨⟨by decide +kernel, by decide +kernel⟩, List.mem_of_getElem? (i := 23) (by decide +kernel), List.mem_of_getElem? (i := 221) (by decide +kernel), List.mem_of_getElem? (i := 222) (by decide +kernel)⟩
theorem lw_p2 : lw_okq (⟨"ProofLeaves$Sha256", "stirState", "()V"⟩, 4) := ⟨⟨by decide +kernel, by decide +kernel⟩, List.mem_of_getElem? (i := 23) (by decide +kernel), List.mem_of_getElem? (i := 228) (by decide +kernel), List.mem_of_getElem? (i := 229) (by decide +kernel)⟩
theorem lw_p3 : lw_okq (⟨"ProofLeaves", "treeInto", "(I[I)V"⟩, 14) := ⟨⟨by decide +kernel, by decide +kernel⟩, List.mem_of_getElem? (i := 15) (by decide +kernel), List.mem_of_getElem? (i := 242) (by decide +kernel), List.mem_of_getElem? (i := 243) (by decide +kernel)⟩
theorem lw_p4 : lw_okq (⟨"ProofLeaves", "layLeaves", "(I)V"⟩, 14) := ⟨⟨by decide +kernel, by decide +kernel⟩, List.mem_of_getElem? (i := 15) (by decide +kernel), List.mem_of_getElem? (i := 246) (by decide +kernel), List.mem_of_getElem? (i := 247) (by decide +kernel)⟩
theorem lw_p5 : lw_okq (⟨"ProofLeaves", "foldLevel", "(I)V"⟩, 14) := ⟨⟨by decide +kernel, by decide +kernel⟩, List.mem_of_getElem? (i := 15) (by decide +kernel), List.mem_of_getElem? (i := 254) (by decide +kernel), List.mem_of_getElem? (i := 255) (by decide +kernel)⟩
theorem lw_p6 : lw_okq (⟨"ProofLeaves", "nodeInto", "([I[I[I)V"⟩, 14) := ⟨⟨by decide +kernel, by decide +kernel⟩, List.mem_of_getElem? (i := 15) (by decide +kernel), List.mem_of_getElem? (i := 258) (by decide +kernel), List.mem_of_getElem? (i := 259) (by decide +kernel)⟩
theorem lw_p7 : lw_okq (⟨"ProofLeaves", "requireDay", "(I)V"⟩, 14) := ⟨⟨by decide +kernel, by decide +kernel⟩, List.mem_of_getElem? (i := 15) (by decide +kernel), List.mem_of_getElem? (i := 270) (by decide +kernel), List.mem_of_getElem? (i := 271) (by decide +kernel)⟩
theorem lw_p8 : lw_okq (⟨"ProofLeaves", "requireLeaf", "(I)V"⟩, 14) := ⟨⟨by decide +kernel, by decide +kernel⟩, List.mem_of_getElem? (i := 15) (by decide +kernel), List.mem_of_getElem? (i := 301) (by decide +kernel), List.mem_of_getElem? (i := 302) (by decide +kernel)⟩
theorem lw_p9 : lw_okq (⟨"ProofLeaves", "makePath", "(II)V"⟩, 14) := ⟨⟨by decide +kernel, by decide +kernel⟩, List.mem_of_getElem? (i := 15) (by decide +kernel), List.mem_of_getElem? (i := 337) (by decide +kernel), List.mem_of_getElem? (i := 338) (by decide +kernel)⟩
theorem lw_p10 : lw_okq (⟨"ProofLeaves", "requirePathDigest", "(I)V"⟩, 14) := ⟨⟨by decide +kernel, by decide +kernel⟩, List.mem_of_getElem? (i := 15) (by decide +kernel), List.mem_of_getElem? (i := 354) (by decide +kernel), List.mem_of_getElem? (i := 355) (by decide +kernel)⟩
theorem lw_p11 : lw_okq (⟨"ProofLeaves", "climb", "([III)V"⟩, 14) := ⟨⟨by decide +kernel, by decide +kernel⟩, List.mem_of_getElem? (i := 15) (by decide +kernel), List.mem_of_getElem? (i := 382) (by decide +kernel), List.mem_of_getElem? (i := 383) (by decide +kernel)⟩
theorem lw_p12 : lw_okq (⟨"ProofLeaves", "stillMakesRoot", "(I)Z"⟩, 14) := ⟨⟨by decide +kernel, by decide +kernel⟩, List.mem_of_getElem? (i := 15) (by decide +kernel), List.mem_of_getElem? (i := 397) (by decide +kernel), List.mem_of_getElem? (i := 398) (by decide +kernel)⟩
theorem lw_p13 : lw_okq (⟨"ProofLeaves", "nearestWithdrawn", "(II)I"⟩, 14) := ⟨⟨by decide +kernel, by decide +kernel⟩, List.mem_of_getElem? (i := 15) (by decide +kernel), List.mem_of_getElem? (i := 418) (by decide +kernel), List.mem_of_getElem? (i := 419) (by decide +kernel)⟩
theorem lw_p14 : lw_okq (⟨"ProofLeaves", "liesOn", "(III)Z"⟩, 14) := ⟨⟨by decide +kernel, by decide +kernel⟩, List.mem_of_getElem? (i := 15) (by decide +kernel), List.mem_of_getElem? (i := 422) (by decide +kernel), List.mem_of_getElem? (i := 423) (by decide +kernel)⟩
theorem lw_p15 : lw_okq (⟨"ProofLeaves", "keyedInto", "(J[I[I)V"⟩, 14) := ⟨⟨by decide +kernel, by decide +kernel⟩, List.mem_of_getElem? (i := 15) (by decide +kernel), List.mem_of_getElem? (i := 433) (by decide +kernel), List.mem_of_getElem? (i := 434) (by decide +kernel)⟩
def lw_privs_1 : List (MethodName × Nat) := [(⟨"java/lang/Throwable", "fillInStackTrace", "(I)Ljava/lang/Throwable;"⟩, 6), (⟨"ProofLeaves$Sha256", "spreadBlock", "(I)V"⟩, 4), (⟨"ProofLeaves$Sha256", "stirState", "()V"⟩, 4), (⟨"ProofLeaves", "treeInto", "(I[I)V"⟩, 14), (⟨"ProofLeaves", "layLeaves", "(I)V"⟩, 14), (⟨"ProofLeaves", "foldLevel", "(I)V"⟩, 14), (⟨"ProofLeaves", "nodeInto", "([I[I[I)V"⟩, 14), (⟨"ProofLeaves", "requireDay", "(I)V"⟩, 14), (⟨"ProofLeaves", "requireLeaf", "(I)V"⟩, 14), (⟨"ProofLeaves", "makePath", "(II)V"⟩, 14), (⟨"ProofLeaves", "requirePathDigest", "(I)V"⟩, 14), (⟨"ProofLeaves", "climb", "([III)V"⟩, 14), (⟨"ProofLeaves", "stillMakesRoot", "(I)Z"⟩, 14), (⟨"ProofLeaves", "nearestWithdrawn", "(II)I"⟩, 14), (⟨"ProofLeaves", "liesOn", "(III)Z"⟩, 14), (⟨"ProofLeaves", "keyedInto", "(J[I[I)V"⟩, 14)]
theorem lw_r1 : ∀ q ∈ lw_privs_1, lw_okq q := List.forall_mem_cons.mpr ⟨lw_p0, List.forall_mem_cons.mpr ⟨lw_p1, List.forall_mem_cons.mpr ⟨lw_p2, List.forall_mem_cons.mpr ⟨lw_p3, List.forall_mem_cons.mpr ⟨lw_p4, List.forall_mem_cons.mpr ⟨lw_p5, List.forall_mem_cons.mpr ⟨lw_p6, List.forall_mem_cons.mpr ⟨lw_p7, List.forall_mem_cons.mpr ⟨lw_p8, List.forall_mem_cons.mpr ⟨lw_p9, List.forall_mem_cons.mpr ⟨lw_p10, List.forall_mem_cons.mpr ⟨lw_p11, List.forall_mem_cons.mpr ⟨lw_p12, List.forall_mem_cons.mpr ⟨lw_p13, List.forall_mem_cons.mpr ⟨lw_p14, List.forall_mem_cons.mpr ⟨lw_p15, fun _ h => absurd h List.not_mem_nil⟩⟩⟩⟩⟩⟩⟩⟩⟩⟩⟩⟩⟩⟩⟩⟩
theorem lw_p16 : lw_okq (⟨"ProofLeavesModel", "goes", "(ZZZ)Z"⟩, 25) := ⟨⟨by decide +kernel, by decide +kernel⟩, List.mem_of_getElem? (i := 445) (by decide +kernel), List.mem_of_getElem? (i := 602) (by decide +kernel), List.mem_of_getElem? (i := 603) (by decide +kernel)⟩
theorem lw_p17 : lw_okq (⟨"ProofLeavesModel", "begin", "()V"⟩, 25) := ⟨⟨by decide +kernel, by decide +kernel⟩, List.mem_of_getElem? (i := 445) (by decide +kernel), List.mem_of_getElem? (i := 610) (by decide +kernel), List.mem_of_getElem? (i := 611) (by decide +kernel)⟩
theorem lw_p18 : lw_okq (⟨"ProofLeavesModel", "add", "(I)V"⟩, 25) := ⟨⟨by decide +kernel, by decide +kernel⟩, List.mem_of_getElem? (i := 445) (by decide +kernel), List.mem_of_getElem? (i := 614) (by decide +kernel), List.mem_of_getElem? (i := 615) (by decide +kernel)⟩
theorem lw_p19 : lw_okq (⟨"ProofLeavesModel", "digest0", "()V"⟩, 25) := ⟨⟨by decide +kernel, by decide +kernel⟩, List.mem_of_getElem? (i := 445) (by decide +kernel), List.mem_of_getElem? (i := 618) (by decide +kernel), List.mem_of_getElem? (i := 619) (by decide +kernel)⟩
theorem lw_p20 : lw_okq (⟨"ProofLeavesModel", "addLong", "(J)V"⟩, 25) := ⟨⟨by decide +kernel, by decide +kernel⟩, List.mem_of_getElem? (i := 445) (by decide +kernel), List.mem_of_getElem? (i := 631) (by decide +kernel), List.mem_of_getElem? (i := 632) (by decide +kernel)⟩
theorem lw_p21 : lw_okq (⟨"ProofLeavesModel", "block", "(I)V"⟩, 25) := ⟨⟨by decide +kernel, by decide +kernel⟩, List.mem_of_getElem? (i := 445) (by decide +kernel), List.mem_of_getElem? (i := 635) (by decide +kernel), List.mem_of_getElem? (i := 636) (by decide +kernel)⟩
theorem lw_p22 : lw_okq (⟨"ProofLeavesModel", "tree", "(II)V"⟩, 25) := ⟨⟨by decide +kernel, by decide +kernel⟩, List.mem_of_getElem? (i := 445) (by decide +kernel), List.mem_of_getElem? (i := 646) (by decide +kernel), List.mem_of_getElem? (i := 647) (by decide +kernel)⟩
theorem lw_p23 : lw_okq (⟨"ProofLeavesModel", "join", "()V"⟩, 25) := ⟨⟨by decide +kernel, by decide +kernel⟩, List.mem_of_getElem? (i := 445) (by decide +kernel), List.mem_of_getElem? (i := 650) (by decide +kernel), List.mem_of_getElem? (i := 651) (by decide +kernel)⟩
theorem lw_p24 : lw_okq (⟨"ProofLeavesModel", "node", "([II[II)V"⟩, 25) := ⟨⟨by decide +kernel, by decide +kernel⟩, List.mem_of_getElem? (i := 445) (by decide +kernel), List.mem_of_getElem? (i := 654) (by decide +kernel), List.mem_of_getElem? (i := 655) (by decide +kernel)⟩
theorem lw_p25 : lw_okq (⟨"ProofLeavesModel", "addRow", "([II)V"⟩, 25) := ⟨⟨by decide +kernel, by decide +kernel⟩, List.mem_of_getElem? (i := 445) (by decide +kernel), List.mem_of_getElem? (i := 658) (by decide +kernel), List.mem_of_getElem? (i := 659) (by decide +kernel)⟩
theorem lw_p26 : lw_okq (⟨"ProofLeavesModel", "isDay", "(I)Z"⟩, 25) := ⟨⟨by decide +kernel, by decide +kernel⟩, List.mem_of_getElem? (i := 445) (by decide +kernel), List.mem_of_getElem? (i := 666) (by decide +kernel), List.mem_of_getElem? (i := 667) (by decide +kernel)⟩
theorem lw_p27 : lw_okq (⟨"ProofLeavesModel", "isLeaf", "(I)Z"⟩, 25) := ⟨⟨by decide +kernel, by decide +kernel⟩, List.mem_of_getElem? (i := 445) (by decide +kernel), List.mem_of_getElem? (i := 677) (by decide +kernel), List.mem_of_getElem? (i := 678) (by decide +kernel)⟩
theorem lw_p28 : lw_okq (⟨"ProofLeavesModel", "goTo", "(II)V"⟩, 25) := ⟨⟨by decide +kernel, by decide +kernel⟩, List.mem_of_getElem? (i := 445) (by decide +kernel), List.mem_of_getElem? (i := 689) (by decide +kernel), List.mem_of_getElem? (i := 690) (by decide +kernel)⟩
theorem lw_p29 : lw_okq (⟨"ProofLeavesModel", "isOut", "([II)Z"⟩, 25) := ⟨⟨by decide +kernel, by decide +kernel⟩, List.mem_of_getElem? (i := 445) (by decide +kernel), List.mem_of_getElem? (i := 705) (by decide +kernel), List.mem_of_getElem? (i := 706) (by decide +kernel)⟩
theorem lw_p30 : lw_okq (⟨"ProofLeavesModel", "order", "(II)I"⟩, 25) := ⟨⟨by decide +kernel, by decide +kernel⟩, List.mem_of_getElem? (i := 445) (by decide +kernel), List.mem_of_getElem? (i := 721) (by decide +kernel), List.mem_of_getElem? (i := 722) (by decide +kernel)⟩
def lw_privs_2 : List (MethodName × Nat) := [(⟨"ProofLeavesModel", "goes", "(ZZZ)Z"⟩, 25), (⟨"ProofLeavesModel", "begin", "()V"⟩, 25), (⟨"ProofLeavesModel", "add", "(I)V"⟩, 25), (⟨"ProofLeavesModel", "digest0", "()V"⟩, 25), (⟨"ProofLeavesModel", "addLong", "(J)V"⟩, 25), (⟨"ProofLeavesModel", "block", "(I)V"⟩, 25), (⟨"ProofLeavesModel", "tree", "(II)V"⟩, 25), (⟨"ProofLeavesModel", "join", "()V"⟩, 25), (⟨"ProofLeavesModel", "node", "([II[II)V"⟩, 25), (⟨"ProofLeavesModel", "addRow", "([II)V"⟩, 25), (⟨"ProofLeavesModel", "isDay", "(I)Z"⟩, 25), (⟨"ProofLeavesModel", "isLeaf", "(I)Z"⟩, 25), (⟨"ProofLeavesModel", "goTo", "(II)V"⟩, 25), (⟨"ProofLeavesModel", "isOut", "([II)Z"⟩, 25), (⟨"ProofLeavesModel", "order", "(II)I"⟩, 25)]
theorem lw_r2 : ∀ q ∈ lw_privs_2, lw_okq q := List.forall_mem_cons.mpr ⟨lw_p16, List.forall_mem_cons.mpr ⟨lw_p17, List.forall_mem_cons.mpr ⟨lw_p18, List.forall_mem_cons.mpr ⟨lw_p19, List.forall_mem_cons.mpr ⟨lw_p20, List.forall_mem_cons.mpr ⟨lw_p21, List.forall_mem_cons.mpr ⟨lw_p22, List.forall_mem_cons.mpr ⟨lw_p23, List.forall_mem_cons.mpr ⟨lw_p24, List.forall_mem_cons.mpr ⟨lw_p25, List.forall_mem_cons.mpr ⟨lw_p26, List.forall_mem_cons.mpr ⟨lw_p27, List.forall_mem_cons.mpr ⟨lw_p28, List.forall_mem_cons.mpr ⟨lw_p29, List.forall_mem_cons.mpr ⟨lw_p30, fun _ h => absurd h List.not_mem_nil⟩⟩⟩⟩⟩⟩⟩⟩⟩⟩⟩⟩⟩⟩⟩
def lw_privs : List (MethodName × Nat) := lw_privs_1 ++ (lw_privs_2)
def lw_tbl : List Cond := k2_sels lw_privs ++ tables_1
theorem lw_privs_ok : ∀ q ∈ lw_privs, lw_okq q := by
  show ∀ q ∈ lw_privs_1 ++ (lw_privs_2), lw_okq q
  exact List.forall_mem_append.mpr ⟨lw_r1, lw_r2⟩
end
section
def RX0 : String := "ProofLeaves$Sha256"
def RX1 : String := "ProofLeaves"
def RX2 : String := "ProofLeavesModel"
def RL : String := "ProofLeavesLaw"
def RJ6 : String := "java/lang/Integer"
def RJ9 : String := "java/lang/Math"
def yX1_init : MethodName := ⟨RX1, "<init>", "()V"⟩
abbrev cX1_init : ByteArray := prog_1_method_1_code
def yX0_init : MethodName := ⟨RX0, "<init>", "()V"⟩
abbrev cX0_init : ByteArray := prog_2_method_1_code
def yL_feed : MethodName := ⟨RL, "feed", "(LProofLeaves;JI[J)I"⟩
abbrev cL_feed : ByteArray := method_3_code
def yX1_feed : MethodName := ⟨RX1, "feed", "(JI)I"⟩
abbrev cX1_feed : ByteArray := prog_1_method_2_code
def yL_leaf : MethodName := ⟨RL, "leaf", "(LProofLeaves;[J)I"⟩
abbrev cL_leaf : ByteArray := method_4_code
def yX1_leaf : MethodName := ⟨RX1, "leaf", "()I"⟩
abbrev cX1_leaf : ByteArray := prog_1_method_3_code
def yX0_begin : MethodName := ⟨RX0, "begin", "()V"⟩
abbrev cX0_begin : ByteArray := prog_2_method_2_code
def yX0_take : MethodName := ⟨RX0, "take", "(I)V"⟩
abbrev cX0_take : ByteArray := prog_2_method_3_code
def yX0_takeFirst : MethodName := ⟨RX0, "takeFirst", "([II)V"⟩
abbrev cX0_takeFirst : ByteArray := prog_2_method_4_code
def yX0_finishInto : MethodName := ⟨RX0, "finishInto", "([I)V"⟩
abbrev cX0_finishInto : ByteArray := prog_2_method_6_code
def yJ9_floorMod : MethodName := ⟨RJ9, "floorMod", "(II)I"⟩
abbrev cJ9_floorMod : ByteArray := prog_10_method_50_code
def yX0_takeLong : MethodName := ⟨RX0, "takeLong", "(J)V"⟩
abbrev cX0_takeLong : ByteArray := prog_2_method_5_code
def yX0_spreadBlock : MethodName := ⟨RX0, "spreadBlock", "(I)V"⟩
abbrev cX0_spreadBlock : ByteArray := prog_2_method_7_code
def yJ6_rotateRight : MethodName := ⟨RJ6, "rotateRight", "(II)I"⟩
abbrev cJ6_rotateRight : ByteArray := prog_9_method_51_code
def yX0_stirState : MethodName := ⟨RX0, "stirState", "()V"⟩
abbrev cX0_stirState : ByteArray := prog_2_method_8_code
def yL_close : MethodName := ⟨RL, "close", "(LProofLeaves;[J)I"⟩
abbrev cL_close : ByteArray := method_5_code
def yX1_close : MethodName := ⟨RX1, "close", "()I"⟩
abbrev cX1_close : ByteArray := prog_1_method_4_code
def yX1_treeInto : MethodName := ⟨RX1, "treeInto", "(I[I)V"⟩
abbrev cX1_treeInto : ByteArray := prog_1_method_22_code
def yX1_layLeaves : MethodName := ⟨RX1, "layLeaves", "(I)V"⟩
abbrev cX1_layLeaves : ByteArray := prog_1_method_27_code
def yX1_copyDigest : MethodName := ⟨RX1, "copyDigest", "([I[I)V"⟩
abbrev cX1_copyDigest : ByteArray := prog_1_method_36_code
def yX1_foldLevel : MethodName := ⟨RX1, "foldLevel", "(I)V"⟩
abbrev cX1_foldLevel : ByteArray := prog_1_method_28_code
def yX1_nodeInto : MethodName := ⟨RX1, "nodeInto", "([I[I[I)V"⟩
abbrev cX1_nodeInto : ByteArray := prog_1_method_31_code
def yL_root : MethodName := ⟨RL, "root", "(LProofLeaves;II[J)I"⟩
abbrev cL_root : ByteArray := method_6_code
def yX1_root : MethodName := ⟨RX1, "root", "(II)I"⟩
abbrev cX1_root : ByteArray := prog_1_method_5_code
def yX1_requireDay : MethodName := ⟨RX1, "requireDay", "(I)V"⟩
abbrev cX1_requireDay : ByteArray := prog_1_method_18_code
def yX1_requireByte : MethodName := ⟨RX1, "requireByte", "(I)V"⟩
abbrev cX1_requireByte : ByteArray := prog_1_method_20_code
def yL_digest : MethodName := ⟨RL, "digest", "(LProofLeaves;II[J)I"⟩
abbrev cL_digest : ByteArray := method_7_code
def yX1_digest : MethodName := ⟨RX1, "digest", "(II)I"⟩
abbrev cX1_digest : ByteArray := prog_1_method_6_code
def yX1_requireLeaf : MethodName := ⟨RX1, "requireLeaf", "(I)V"⟩
abbrev cX1_requireLeaf : ByteArray := prog_1_method_17_code
def yL_count : MethodName := ⟨RL, "count", "(LProofLeaves;I[J)I"⟩
abbrev cL_count : ByteArray := method_8_code
def yX1_count : MethodName := ⟨RX1, "count", "(I)I"⟩
abbrev cX1_count : ByteArray := prog_1_method_7_code
def yL_prove : MethodName := ⟨RL, "prove", "(LProofLeaves;II[J)I"⟩
abbrev cL_prove : ByteArray := method_9_code
def yX1_prove : MethodName := ⟨RX1, "prove", "(II)I"⟩
abbrev cX1_prove : ByteArray := prog_1_method_8_code
def yX1_makePath : MethodName := ⟨RX1, "makePath", "(II)V"⟩
abbrev cX1_makePath : ByteArray := prog_1_method_23_code
def yX1_hasPartner : MethodName := ⟨RX1, "hasPartner", "(II)Z"⟩
abbrev cX1_hasPartner : ByteArray := prog_1_method_30_code
def yX1_partnerOf : MethodName := ⟨RX1, "partnerOf", "(I)I"⟩
abbrev cX1_partnerOf : ByteArray := prog_1_method_29_code
def yL_proof : MethodName := ⟨RL, "proof", "(LProofLeaves;II[J)I"⟩
abbrev cL_proof : ByteArray := method_10_code
def yX1_proof : MethodName := ⟨RX1, "proof", "(II)I"⟩
abbrev cX1_proof : ByteArray := prog_1_method_9_code
def yX1_requirePathDigest : MethodName := ⟨RX1, "requirePathDigest", "(I)V"⟩
abbrev cX1_requirePathDigest : ByteArray := prog_1_method_19_code
def yL_bend : MethodName := ⟨RL, "bend", "(LProofLeaves;III)I"⟩
abbrev cL_bend : ByteArray := method_11_code
def yX1_bend : MethodName := ⟨RX1, "bend", "(III)V"⟩
abbrev cX1_bend : ByteArray := prog_1_method_10_code
def yX1_requireMask : MethodName := ⟨RX1, "requireMask", "(I)V"⟩
abbrev cX1_requireMask : ByteArray := prog_1_method_21_code
def yL_check : MethodName := ⟨RL, "check", "(LProofLeaves;IIII[J)I"⟩
abbrev cL_check : ByteArray := method_12_code
def yX1_check : MethodName := ⟨RX1, "check", "(IIII)I"⟩
abbrev cX1_check : ByteArray := prog_1_method_11_code
def yX1_dueLength : MethodName := ⟨RX1, "dueLength", "(II)I"⟩
abbrev cX1_dueLength : ByteArray := prog_1_method_24_code
def yX1_climb : MethodName := ⟨RX1, "climb", "([III)V"⟩
abbrev cX1_climb : ByteArray := prog_1_method_25_code
def yX1_compareDigests : MethodName := ⟨RX1, "compareDigests", "([I[I)I"⟩
abbrev cX1_compareDigests : ByteArray := prog_1_method_35_code
def yL_grew : MethodName := ⟨RL, "grew", "(LProofLeaves;II[J)I"⟩
abbrev cL_grew : ByteArray := method_13_code
def yX1_grew : MethodName := ⟨RX1, "grew", "(II)Z"⟩
abbrev cX1_grew : ByteArray := prog_1_method_12_code
def yX1_stillMakesRoot : MethodName := ⟨RX1, "stillMakesRoot", "(I)Z"⟩
abbrev cX1_stillMakesRoot : ByteArray := prog_1_method_26_code
def yL_withdraw : MethodName := ⟨RL, "withdraw", "(LProofLeaves;I[J)I"⟩
abbrev cL_withdraw : ByteArray := method_14_code
def yX1_withdraw : MethodName := ⟨RX1, "withdraw", "(I)I"⟩
abbrev cX1_withdraw : ByteArray := prog_1_method_13_code
def yL_absence : MethodName := ⟨RL, "absence", "(LProofLeaves;II[J)I"⟩
abbrev cL_absence : ByteArray := method_15_code
def yX1_absence : MethodName := ⟨RX1, "absence", "(II)I"⟩
abbrev cX1_absence : ByteArray := prog_1_method_14_code
def yX1_nearestWithdrawn : MethodName := ⟨RX1, "nearestWithdrawn", "(II)I"⟩
abbrev cX1_nearestWithdrawn : ByteArray := prog_1_method_33_code
def yX1_liesOn : MethodName := ⟨RX1, "liesOn", "(III)Z"⟩
abbrev cX1_liesOn : ByteArray := prog_1_method_34_code
def yL_mark : MethodName := ⟨RL, "mark", "(LProofLeaves;IJJI[J)I"⟩
abbrev cL_mark : ByteArray := method_16_code
def yX1_mark : MethodName := ⟨RX1, "mark", "(IJJI)I"⟩
abbrev cX1_mark : ByteArray := prog_1_method_15_code
def yX1_keyedInto : MethodName := ⟨RX1, "keyedInto", "(J[I[I)V"⟩
abbrev cX1_keyedInto : ByteArray := prog_1_method_32_code
def yL_poke : MethodName := ⟨RL, "poke", "(LProofLeaves;III)I"⟩
abbrev cL_poke : ByteArray := method_17_code
def yX1_poke : MethodName := ⟨RX1, "poke", "(III)V"⟩
abbrev cX1_poke : ByteArray := prog_1_method_16_code
def yX2_init : MethodName := ⟨RX2, "<init>", "()V"⟩
abbrev cX2_init : ByteArray := prog_4_method_1_code
def yX2_thrown : MethodName := ⟨RX2, "thrown", "()I"⟩
abbrev cX2_thrown : ByteArray := prog_4_method_2_code
def yX2_feed : MethodName := ⟨RX2, "feed", "(JI)I"⟩
abbrev cX2_feed : ByteArray := prog_4_method_19_code
def yX2_in : MethodName := ⟨RX2, "in", "(III)Z"⟩
abbrev cX2_in : ByteArray := prog_4_method_3_code
def yX2_goes : MethodName := ⟨RX2, "goes", "(ZZZ)Z"⟩
abbrev cX2_goes : ByteArray := prog_4_method_4_code
def yX2_leaf : MethodName := ⟨RX2, "leaf", "()I"⟩
abbrev cX2_leaf : ByteArray := prog_4_method_20_code
def yX2_begin : MethodName := ⟨RX2, "begin", "()V"⟩
abbrev cX2_begin : ByteArray := prog_4_method_9_code
def yX2_add : MethodName := ⟨RX2, "add", "(I)V"⟩
abbrev cX2_add : ByteArray := prog_4_method_10_code
def yX2_digest0 : MethodName := ⟨RX2, "digest0", "()V"⟩
abbrev cX2_digest0 : ByteArray := prog_4_method_14_code
def yX2_addLong : MethodName := ⟨RX2, "addLong", "(J)V"⟩
abbrev cX2_addLong : ByteArray := prog_4_method_12_code
def yX2_block : MethodName := ⟨RX2, "block", "(I)V"⟩
abbrev cX2_block : ByteArray := prog_4_method_13_code
def yX2_right : MethodName := ⟨RX2, "right", "(II)I"⟩
abbrev cX2_right : ByteArray := prog_4_method_8_code
def yX2_close : MethodName := ⟨RX2, "close", "()I"⟩
abbrev cX2_close : ByteArray := prog_4_method_21_code
def yX2_tree : MethodName := ⟨RX2, "tree", "(II)V"⟩
abbrev cX2_tree : ByteArray := prog_4_method_17_code
def yX2_join : MethodName := ⟨RX2, "join", "()V"⟩
abbrev cX2_join : ByteArray := prog_4_method_16_code
def yX2_node : MethodName := ⟨RX2, "node", "([II[II)V"⟩
abbrev cX2_node : ByteArray := prog_4_method_15_code
def yX2_addRow : MethodName := ⟨RX2, "addRow", "([II)V"⟩
abbrev cX2_addRow : ByteArray := prog_4_method_11_code
def yX2_root : MethodName := ⟨RX2, "root", "(II)I"⟩
abbrev cX2_root : ByteArray := prog_4_method_22_code
def yX2_isDay : MethodName := ⟨RX2, "isDay", "(I)Z"⟩
abbrev cX2_isDay : ByteArray := prog_4_method_6_code
def yX2_isByte : MethodName := ⟨RX2, "isByte", "(I)Z"⟩
abbrev cX2_isByte : ByteArray := prog_4_method_7_code
def yX2_digest : MethodName := ⟨RX2, "digest", "(II)I"⟩
abbrev cX2_digest : ByteArray := prog_4_method_23_code
def yX2_isLeaf : MethodName := ⟨RX2, "isLeaf", "(I)Z"⟩
abbrev cX2_isLeaf : ByteArray := prog_4_method_5_code
def yX2_count : MethodName := ⟨RX2, "count", "(I)I"⟩
abbrev cX2_count : ByteArray := prog_4_method_24_code
def yX2_prove : MethodName := ⟨RX2, "prove", "(II)I"⟩
abbrev cX2_prove : ByteArray := prog_4_method_26_code
def yX2_goTo : MethodName := ⟨RX2, "goTo", "(II)V"⟩
abbrev cX2_goTo : ByteArray := prog_4_method_25_code
def yX2_proof : MethodName := ⟨RX2, "proof", "(II)I"⟩
abbrev cX2_proof : ByteArray := prog_4_method_27_code
def yX2_bend : MethodName := ⟨RX2, "bend", "(III)V"⟩
abbrev cX2_bend : ByteArray := prog_4_method_28_code
def yX2_check : MethodName := ⟨RX2, "check", "(IIII)I"⟩
abbrev cX2_check : ByteArray := prog_4_method_29_code
def yX2_isOut : MethodName := ⟨RX2, "isOut", "([II)Z"⟩
abbrev cX2_isOut : ByteArray := prog_4_method_18_code
def yX2_grew : MethodName := ⟨RX2, "grew", "(II)Z"⟩
abbrev cX2_grew : ByteArray := prog_4_method_30_code
def yX2_withdraw : MethodName := ⟨RX2, "withdraw", "(I)I"⟩
abbrev cX2_withdraw : ByteArray := prog_4_method_31_code
def yX2_absence : MethodName := ⟨RX2, "absence", "(II)I"⟩
abbrev cX2_absence : ByteArray := prog_4_method_33_code
def yX2_order : MethodName := ⟨RX2, "order", "(II)I"⟩
abbrev cX2_order : ByteArray := prog_4_method_32_code
def yX2_mark : MethodName := ⟨RX2, "mark", "(IJJI)I"⟩
abbrev cX2_mark : ByteArray := prog_4_method_34_code
def yX2_poke : MethodName := ⟨RX2, "poke", "(III)V"⟩
abbrev cX2_poke : ByteArray := prog_4_method_35_code
def yL_law : MethodName := ⟨RL, "law", "([I)Z"⟩
abbrev cL_law : ByteArray := code
def TX0 : u_T := fun k => match k with
  | 0 => ("ProofLeaves$Sha256", "message", "[I", true)
  | 1 => ("ProofLeaves$Sha256", "length", "I", false)
  | 2 => ("ProofLeaves$Sha256", "words", "[I", true)
  | _ => ("ProofLeaves$Sha256", "state", "[I", true)
def tyX0 : Nat → FieldType := fun k => match k with
  | 0 => .array .int
  | 1 => .int
  | 2 => .array .int
  | _ => .array .int
abbrev wsX00 : List Cond := u_ws RX0 TX0 4
theorem nmX0 : ∀ a, a < 4 → ∀ b, b < 4 → a ≠ b → (TX0 a).2.1 ≠ (TX0 b).2.1 := by decide +kernel
theorem tyX0_ok : ∀ k, k < 4 → parseFieldDescriptor (TX0 k).2.2.1 = some (tyX0 k) := by decide +kernel
def TX1 : u_T := fun k => match k with
  | 0 => ("ProofLeaves", "sha", "LProofLeaves$Sha256;", true)
  | 1 => ("ProofLeaves", "tape", "[I", true)
  | 2 => ("ProofLeaves", "tapeLength", "I", false)
  | 3 => ("ProofLeaves", "leafDigests", "[[I", true)
  | 4 => ("ProofLeaves", "isWithdrawn", "[Z", true)
  | 5 => ("ProofLeaves", "leafCount", "I", false)
  | 6 => ("ProofLeaves", "withdrawnCount", "I", false)
  | 7 => ("ProofLeaves", "dayRoots", "[[I", true)
  | 8 => ("ProofLeaves", "dayCounts", "[I", true)
  | 9 => ("ProofLeaves", "dayCount", "I", false)
  | 10 => ("ProofLeaves", "path", "[[I", true)
  | 11 => ("ProofLeaves", "pathLength", "I", false)
  | 12 => ("ProofLeaves", "level", "[[I", true)
  | _ => ("ProofLeaves", "made", "[I", true)
def tyX1 : Nat → FieldType := fun k => match k with
  | 0 => .object "ProofLeaves$Sha256"
  | 1 => .array .int
  | 2 => .int
  | 3 => .array (.array .int)
  | 4 => .array .boolean
  | 5 => .int
  | 6 => .int
  | 7 => .array (.array .int)
  | 8 => .array .int
  | 9 => .int
  | 10 => .array (.array .int)
  | 11 => .int
  | 12 => .array (.array .int)
  | _ => .array .int
abbrev wsX10 : List Cond := u_ws RX1 TX1 14
theorem nmX1 : ∀ a, a < 14 → ∀ b, b < 14 → a ≠ b → (TX1 a).2.1 ≠ (TX1 b).2.1 := by decide +kernel
theorem tyX1_ok : ∀ k, k < 14 → parseFieldDescriptor (TX1 k).2.2.1 = some (tyX1 k) := by decide +kernel
def TX2 : u_T := fun k => match k with
  | 0 => ("ProofLeavesModel", "thrown", "I", false)
  | 1 => ("ProofLeavesModel", "taped", "I", false)
  | 2 => ("ProofLeavesModel", "tape", "[I", true)
  | 3 => ("ProofLeavesModel", "leaves", "I", false)
  | 4 => ("ProofLeavesModel", "leaf", "[I", true)
  | 5 => ("ProofLeavesModel", "gone", "[Z", true)
  | 6 => ("ProofLeavesModel", "days", "I", false)
  | 7 => ("ProofLeavesModel", "count", "[I", true)
  | 8 => ("ProofLeavesModel", "root", "[I", true)
  | 9 => ("ProofLeavesModel", "proved", "Z", false)
  | 10 => ("ProofLeavesModel", "proofMany", "I", false)
  | 11 => ("ProofLeavesModel", "proof", "[I", true)
  | 12 => ("ProofLeavesModel", "bytes", "I", false)
  | 13 => ("ProofLeavesModel", "message", "[I", true)
  | 14 => ("ProofLeavesModel", "out", "[I", true)
  | 15 => ("ProofLeavesModel", "w", "[I", true)
  | 16 => ("ProofLeavesModel", "h", "[I", true)
  | 17 => ("ProofLeavesModel", "parts", "I", false)
  | 18 => ("ProofLeavesModel", "part", "[I", true)
  | 19 => ("ProofLeavesModel", "size", "[I", true)
  | 20 => ("ProofLeavesModel", "ways", "I", false)
  | 21 => ("ProofLeavesModel", "otherFrom", "[I", true)
  | 22 => ("ProofLeavesModel", "otherMany", "[I", true)
  | 23 => ("ProofLeavesModel", "otherRight", "[Z", true)
  | _ => ("ProofLeavesModel", "k", "[I", true)
def tyX2 : Nat → FieldType := fun k => match k with
  | 0 => .int
  | 1 => .int
  | 2 => .array .int
  | 3 => .int
  | 4 => .array .int
  | 5 => .array .boolean
  | 6 => .int
  | 7 => .array .int
  | 8 => .array .int
  | 9 => .boolean
  | 10 => .int
  | 11 => .array .int
  | 12 => .int
  | 13 => .array .int
  | 14 => .array .int
  | 15 => .array .int
  | 16 => .array .int
  | 17 => .int
  | 18 => .array .int
  | 19 => .array .int
  | 20 => .int
  | 21 => .array .int
  | 22 => .array .int
  | 23 => .array .boolean
  | _ => .array .int
abbrev wsX20 : List Cond := u_ws RX2 TX2 25
theorem nmX2 : ∀ a, a < 25 → ∀ b, b < 25 → a ≠ b → (TX2 a).2.1 ≠ (TX2 b).2.1 := by decide +kernel
theorem tyX2_ok : ∀ k, k < 25 → parseFieldDescriptor (TX2 k).2.2.1 = some (tyX2 k) := by decide +kernel
abbrev vwCl : List vw_C := [(RX1, TX1, 14), (RX0, TX0, 4), (RX2, TX2, 25)]
end
section
/-- the good words of the tables: every method here is called with them -/
def tW : List Cond := lw_tbl.filter goodWord
theorem inW (i : Nat) {w : Cond} (h : tables_1[i]? = some w) (g : goodWord w = true) : w ∈ tW := List.mem_filter.mpr ⟨List.mem_append_right _ (List.mem_of_getElem? h), g⟩
theorem tw_0 : Cond.initialized "ProofLeavesLaw" ∈ tW := inW 0 (by decide +kernel) (by decide +kernel)
theorem tw_1 : Cond.initialized "ProofLeaves" ∈ tW := inW 1 (by decide +kernel) (by decide +kernel)
theorem tw_2 : Cond.initialized "ProofLeaves$Sha256" ∈ tW := inW 2 (by decide +kernel) (by decide +kernel)
theorem tw_3 : Cond.initialized "ProofLeavesModel" ∈ tW := inW 3 (by decide +kernel) (by decide +kernel)
theorem tw_4 : Cond.initialized "java/lang/Throwable" ∈ tW := inW 4 (by decide +kernel) (by decide +kernel)
theorem tw_5 : Cond.initialized "java/lang/Exception" ∈ tW := inW 5 (by decide +kernel) (by decide +kernel)
theorem tw_6 : Cond.initialized "java/lang/RuntimeException" ∈ tW := inW 6 (by decide +kernel) (by decide +kernel)
theorem tw_7 : Cond.initialized "java/lang/IllegalArgumentException" ∈ tW := inW 7 (by decide +kernel) (by decide +kernel)
theorem tw_8 : Cond.initialized "java/lang/UnsupportedOperationException" ∈ tW := inW 8 (by decide +kernel) (by decide +kernel)
theorem tw_9 : Cond.initialized "java/lang/Math" ∈ tW := inW 9 (by decide +kernel) (by decide +kernel)
theorem tw_10 : Cond.initialized "java/lang/System" ∈ tW := inW 10 (by decide +kernel) (by decide +kernel)
theorem tw_11 : Cond.initialized "java/lang/Integer" ∈ tW := inW 11 (by decide +kernel) (by decide +kernel)
theorem tw_12 : Cond.initialized "java/lang/IndexOutOfBoundsException" ∈ tW := inW 12 (by decide +kernel) (by decide +kernel)
theorem tw_13 : Cond.initialized "java/lang/IllegalStateException" ∈ tW := inW 13 (by decide +kernel) (by decide +kernel)
theorem tw_14 : Cond.classLink "ProofLeavesLaw" 8 "ProofLeaves" ∈ tW := inW 14 (by decide +kernel) (by decide +kernel)
theorem tw_15 : Cond.instantiable "ProofLeaves" 14 ∈ tW := inW 15 (by decide +kernel) (by decide +kernel)
theorem tw_16 : Cond.methodLink "ProofLeavesLaw" 70 yX1_init ∈ tW := inW 16 (by decide +kernel) (by decide +kernel)
theorem tw_17 : Cond.instanceMethod yX1_init ∈ tW := inW 17 (by decide +kernel) (by decide +kernel)
theorem tw_18 : Cond.code yX1_init prog_1_method_1_code 1 (Option.none : Option ClassFile.FieldType) ∈ tW := inW 18 (by decide +kernel) (by decide +kernel)
theorem tw_19 : Cond.methodLink "ProofLeaves" 1 ⟨"java/lang/Object", "<init>", "()V"⟩ ∈ tW := inW 19 (by decide +kernel) (by decide +kernel)
theorem tw_20 : Cond.instanceMethod ⟨"java/lang/Object", "<init>", "()V"⟩ ∈ tW := inW 20 (by decide +kernel) (by decide +kernel)
theorem tw_21 : Cond.code ⟨"java/lang/Object", "<init>", "()V"⟩ object_method_1_code 1 (Option.none : Option ClassFile.FieldType) ∈ tW := inW 21 (by decide +kernel) (by decide +kernel)
theorem tw_22 : Cond.classLink "ProofLeaves" 7 "ProofLeaves$Sha256" ∈ tW := inW 22 (by decide +kernel) (by decide +kernel)
theorem tw_23 : Cond.instantiable "ProofLeaves$Sha256" 4 ∈ tW := inW 23 (by decide +kernel) (by decide +kernel)
theorem tw_24 : Cond.methodLink "ProofLeaves" 9 yX0_init ∈ tW := inW 24 (by decide +kernel) (by decide +kernel)
theorem tw_25 : Cond.instanceMethod yX0_init ∈ tW := inW 25 (by decide +kernel) (by decide +kernel)
theorem tw_26 : Cond.code yX0_init prog_2_method_1_code 1 (Option.none : Option ClassFile.FieldType) ∈ tW := inW 26 (by decide +kernel) (by decide +kernel)
theorem tw_27 : Cond.methodLink "ProofLeaves$Sha256" 3 ⟨"java/lang/Object", "<init>", "()V"⟩ ∈ tW := inW 27 (by decide +kernel) (by decide +kernel)
theorem tw_28 : Cond.fieldLink "ProofLeaves$Sha256" 11 "ProofLeaves$Sha256" "message" "[I" ∈ tW := inW 28 (by decide +kernel) (by decide +kernel)
theorem tw_29 : Cond.fieldLink "ProofLeaves$Sha256" 15 "ProofLeaves$Sha256" "length" "I" ∈ tW := inW 29 (by decide +kernel) (by decide +kernel)
theorem tw_30 : Cond.fieldLink "ProofLeaves$Sha256" 19 "ProofLeaves$Sha256" "words" "[I" ∈ tW := inW 30 (by decide +kernel) (by decide +kernel)
theorem tw_31 : Cond.fieldLink "ProofLeaves$Sha256" 22 "ProofLeaves$Sha256" "state" "[I" ∈ tW := inW 31 (by decide +kernel) (by decide +kernel)
theorem tw_41 : Cond.arrayClass .int ∈ tW := inW 41 (by decide +kernel) (by decide +kernel)
theorem tw_42 : Cond.classLink "ProofLeaves" 24 "[[I" ∈ tW := inW 42 (by decide +kernel) (by decide +kernel)
theorem tw_44 : Cond.fieldLink "ProofLeaves" 10 "ProofLeaves" "sha" "LProofLeaves$Sha256;" ∈ tW := inW 44 (by decide +kernel) (by decide +kernel)
theorem tw_45 : Cond.fieldLink "ProofLeaves" 16 "ProofLeaves" "tape" "[I" ∈ tW := inW 45 (by decide +kernel) (by decide +kernel)
theorem tw_46 : Cond.fieldLink "ProofLeaves" 20 "ProofLeaves" "tapeLength" "I" ∈ tW := inW 46 (by decide +kernel) (by decide +kernel)
theorem tw_47 : Cond.fieldLink "ProofLeaves" 26 "ProofLeaves" "leafDigests" "[[I" ∈ tW := inW 47 (by decide +kernel) (by decide +kernel)
theorem tw_48 : Cond.fieldLink "ProofLeaves" 29 "ProofLeaves" "isWithdrawn" "[Z" ∈ tW := inW 48 (by decide +kernel) (by decide +kernel)
theorem tw_49 : Cond.fieldLink "ProofLeaves" 33 "ProofLeaves" "leafCount" "I" ∈ tW := inW 49 (by decide +kernel) (by decide +kernel)
theorem tw_50 : Cond.fieldLink "ProofLeaves" 36 "ProofLeaves" "withdrawnCount" "I" ∈ tW := inW 50 (by decide +kernel) (by decide +kernel)
theorem tw_51 : Cond.fieldLink "ProofLeaves" 39 "ProofLeaves" "dayRoots" "[[I" ∈ tW := inW 51 (by decide +kernel) (by decide +kernel)
theorem tw_52 : Cond.fieldLink "ProofLeaves" 42 "ProofLeaves" "dayCounts" "[I" ∈ tW := inW 52 (by decide +kernel) (by decide +kernel)
theorem tw_53 : Cond.fieldLink "ProofLeaves" 45 "ProofLeaves" "dayCount" "I" ∈ tW := inW 53 (by decide +kernel) (by decide +kernel)
theorem tw_54 : Cond.fieldLink "ProofLeaves" 48 "ProofLeaves" "path" "[[I" ∈ tW := inW 54 (by decide +kernel) (by decide +kernel)
theorem tw_55 : Cond.fieldLink "ProofLeaves" 51 "ProofLeaves" "pathLength" "I" ∈ tW := inW 55 (by decide +kernel) (by decide +kernel)
theorem tw_56 : Cond.fieldLink "ProofLeaves" 54 "ProofLeaves" "level" "[[I" ∈ tW := inW 56 (by decide +kernel) (by decide +kernel)
theorem tw_57 : Cond.fieldLink "ProofLeaves" 57 "ProofLeaves" "made" "[I" ∈ tW := inW 57 (by decide +kernel) (by decide +kernel)
theorem tw_87 : Cond.arrayClass .boolean ∈ tW := inW 87 (by decide +kernel) (by decide +kernel)
theorem tw_88 : Cond.methodLink "ProofLeavesLaw" 76 yL_feed ∈ tW := inW 88 (by decide +kernel) (by decide +kernel)
theorem tw_89 : Cond.static yL_feed ∈ tW := inW 89 (by decide +kernel) (by decide +kernel)
theorem tw_90 : Cond.codeWith yL_feed method_3_code 6 (Option.some .int) [(0, 11, 14, 13), (0, 11, 18, 15)] ∈ tW := inW 90 (by decide +kernel) (by decide +kernel)
theorem tw_91 : Cond.classLink "ProofLeavesLaw" 13 "java/lang/IllegalArgumentException" ∈ tW := inW 91 (by decide +kernel) (by decide +kernel)
theorem tw_92 : Cond.classLink "ProofLeavesLaw" 15 "java/lang/UnsupportedOperationException" ∈ tW := inW 92 (by decide +kernel) (by decide +kernel)
theorem tw_93 : Cond.methodLink "ProofLeavesLaw" 7 yX1_feed ∈ tW := inW 93 (by decide +kernel) (by decide +kernel)
theorem tw_94 : Cond.instanceMethod yX1_feed ∈ tW := inW 94 (by decide +kernel) (by decide +kernel)
theorem tw_95 : Cond.selects "ProofLeaves" yX1_feed yX1_feed ∈ tW := inW 95 (by decide +kernel) (by decide +kernel)
theorem tw_96 : Cond.code yX1_feed prog_1_method_2_code 5 (Option.some .int) ∈ tW := inW 96 (by decide +kernel) (by decide +kernel)
theorem tw_97 : Cond.classLink "ProofLeaves" 60 "java/lang/IllegalArgumentException" ∈ tW := inW 97 (by decide +kernel) (by decide +kernel)
theorem tw_98 : Cond.instantiable "java/lang/IllegalArgumentException" 6 ∈ tW := inW 98 (by decide +kernel) (by decide +kernel)
theorem tw_106 : Cond.selects "java/lang/IllegalArgumentException" ⟨"java/lang/Throwable", "fillInStackTrace", "(I)Ljava/lang/Throwable;"⟩ ⟨"java/lang/Throwable", "fillInStackTrace", "(I)Ljava/lang/Throwable;"⟩ ∈ tW := inW 106 (by decide +kernel) (by decide +kernel)
theorem tw_107 : Cond.selects "java/lang/IllegalArgumentException" ⟨"java/lang/Throwable", "fillInStackTrace", "()Ljava/lang/Throwable;"⟩ ⟨"java/lang/Throwable", "fillInStackTrace", "()Ljava/lang/Throwable;"⟩ ∈ tW := inW 107 (by decide +kernel) (by decide +kernel)
theorem tw_118 : Cond.fieldLink "java/lang/Throwable" 198 "java/lang/Throwable" "backtrace" "Ljava/lang/Object;" ∈ tW := inW 118 (by decide +kernel) (by decide +kernel)
theorem tw_120 : Cond.instanceMethod ⟨"java/lang/Throwable", "<init>", "()V"⟩ ∈ tW := inW 120 (by decide +kernel) (by decide +kernel)
theorem tw_121 : Cond.code ⟨"java/lang/Throwable", "<init>", "()V"⟩ prog_14_method_1_code 1 (Option.none : Option ClassFile.FieldType) ∈ tW := inW 121 (by decide +kernel) (by decide +kernel)
theorem tw_122 : Cond.methodLink "java/lang/Throwable" 1 ⟨"java/lang/Object", "<init>", "()V"⟩ ∈ tW := inW 122 (by decide +kernel) (by decide +kernel)
theorem tw_123 : Cond.fieldLink "java/lang/Throwable" 13 "java/lang/Throwable" "UNASSIGNED_STACK" "[Ljava/lang/StackTraceElement;" ∈ tW := inW 123 (by decide +kernel) (by decide +kernel)
theorem tw_125 : Cond.fieldLink "java/lang/Throwable" 20 "java/lang/Throwable" "SUPPRESSED_SENTINEL" "Ljava/util/List;" ∈ tW := inW 125 (by decide +kernel) (by decide +kernel)
theorem tw_127 : Cond.methodLink "java/lang/Throwable" 27 ⟨"java/lang/Throwable", "fillInStackTrace", "()Ljava/lang/Throwable;"⟩ ∈ tW := inW 127 (by decide +kernel) (by decide +kernel)
theorem tw_128 : Cond.instanceMethod ⟨"java/lang/Throwable", "fillInStackTrace", "()Ljava/lang/Throwable;"⟩ ∈ tW := inW 128 (by decide +kernel) (by decide +kernel)
theorem tw_130 : Cond.selects "java/lang/IllegalStateException" ⟨"java/lang/Throwable", "fillInStackTrace", "()Ljava/lang/Throwable;"⟩ ⟨"java/lang/Throwable", "fillInStackTrace", "()Ljava/lang/Throwable;"⟩ ∈ tW := inW 130 (by decide +kernel) (by decide +kernel)
theorem tw_131 : Cond.selects "java/lang/IndexOutOfBoundsException" ⟨"java/lang/Throwable", "fillInStackTrace", "()Ljava/lang/Throwable;"⟩ ⟨"java/lang/Throwable", "fillInStackTrace", "()Ljava/lang/Throwable;"⟩ ∈ tW := inW 131 (by decide +kernel) (by decide +kernel)
theorem tw_132 : Cond.selects "java/lang/UnsupportedOperationException" ⟨"java/lang/Throwable", "fillInStackTrace", "()Ljava/lang/Throwable;"⟩ ⟨"java/lang/Throwable", "fillInStackTrace", "()Ljava/lang/Throwable;"⟩ ∈ tW := inW 132 (by decide +kernel) (by decide +kernel)
theorem tw_134 : Cond.methodLink "java/lang/Throwable" 202 ⟨"java/lang/Throwable", "fillInStackTrace", "(I)Ljava/lang/Throwable;"⟩ ∈ tW := inW 134 (by decide +kernel) (by decide +kernel)
theorem tw_136 : Cond.instanceMethod ⟨"java/lang/Throwable", "fillInStackTrace", "(I)Ljava/lang/Throwable;"⟩ ∈ tW := inW 136 (by decide +kernel) (by decide +kernel)
theorem tw_137 : Cond.instantiable "java/lang/Throwable" 6 ∈ tW := inW 137 (by decide +kernel) (by decide +kernel)
theorem tw_138 : Cond.native ⟨"java/lang/Throwable", "fillInStackTrace", "(I)Ljava/lang/Throwable;"⟩ ∈ tW := inW 138 (by decide +kernel) (by decide +kernel)
theorem tw_140 : Cond.methodLink "ProofLeaves" 64 ⟨"java/lang/IllegalArgumentException", "<init>", "(Ljava/lang/String;)V"⟩ ∈ tW := inW 140 (by decide +kernel) (by decide +kernel)
theorem tw_141 : Cond.instanceMethod ⟨"java/lang/IllegalArgumentException", "<init>", "(Ljava/lang/String;)V"⟩ ∈ tW := inW 141 (by decide +kernel) (by decide +kernel)
theorem tw_142 : Cond.code ⟨"java/lang/IllegalArgumentException", "<init>", "(Ljava/lang/String;)V"⟩ prog_6_method_2_code 2 (Option.none : Option ClassFile.FieldType) ∈ tW := inW 142 (by decide +kernel) (by decide +kernel)
theorem tw_143 : Cond.methodLink "java/lang/IllegalArgumentException" 7 ⟨"java/lang/RuntimeException", "<init>", "(Ljava/lang/String;)V"⟩ ∈ tW := inW 143 (by decide +kernel) (by decide +kernel)
theorem tw_144 : Cond.instanceMethod ⟨"java/lang/RuntimeException", "<init>", "(Ljava/lang/String;)V"⟩ ∈ tW := inW 144 (by decide +kernel) (by decide +kernel)
theorem tw_145 : Cond.code ⟨"java/lang/RuntimeException", "<init>", "(Ljava/lang/String;)V"⟩ prog_11_method_2_code 2 (Option.none : Option ClassFile.FieldType) ∈ tW := inW 145 (by decide +kernel) (by decide +kernel)
theorem tw_146 : Cond.methodLink "java/lang/RuntimeException" 7 ⟨"java/lang/Exception", "<init>", "(Ljava/lang/String;)V"⟩ ∈ tW := inW 146 (by decide +kernel) (by decide +kernel)
theorem tw_147 : Cond.instanceMethod ⟨"java/lang/Exception", "<init>", "(Ljava/lang/String;)V"⟩ ∈ tW := inW 147 (by decide +kernel) (by decide +kernel)
theorem tw_148 : Cond.code ⟨"java/lang/Exception", "<init>", "(Ljava/lang/String;)V"⟩ prog_5_method_2_code 2 (Option.none : Option ClassFile.FieldType) ∈ tW := inW 148 (by decide +kernel) (by decide +kernel)
theorem tw_149 : Cond.methodLink "java/lang/Exception" 7 ⟨"java/lang/Throwable", "<init>", "(Ljava/lang/String;)V"⟩ ∈ tW := inW 149 (by decide +kernel) (by decide +kernel)
theorem tw_150 : Cond.instanceMethod ⟨"java/lang/Throwable", "<init>", "(Ljava/lang/String;)V"⟩ ∈ tW := inW 150 (by decide +kernel) (by decide +kernel)
theorem tw_151 : Cond.code ⟨"java/lang/Throwable", "<init>", "(Ljava/lang/String;)V"⟩ prog_14_method_2_code 2 (Option.none : Option ClassFile.FieldType) ∈ tW := inW 151 (by decide +kernel) (by decide +kernel)
theorem tw_152 : Cond.fieldLink "java/lang/Throwable" 198 "java/lang/Throwable" "backtrace" "Ljava/lang/Object;" ∈ tW := inW 152 (by decide +kernel) (by decide +kernel)
theorem tw_153 : Cond.fieldLink "java/lang/Throwable" 31 "java/lang/Throwable" "detailMessage" "Ljava/lang/String;" ∈ tW := inW 153 (by decide +kernel) (by decide +kernel)
theorem tw_154 : Cond.fieldLink "java/lang/Throwable" 7 "java/lang/Throwable" "cause" "Ljava/lang/Throwable;" ∈ tW := inW 154 (by decide +kernel) (by decide +kernel)
theorem tw_155 : Cond.fieldLink "java/lang/Throwable" 17 "java/lang/Throwable" "stackTrace" "[Ljava/lang/StackTraceElement;" ∈ tW := inW 155 (by decide +kernel) (by decide +kernel)
theorem tw_156 : Cond.fieldLink "java/lang/Throwable" 24 "java/lang/Throwable" "suppressedExceptions" "Ljava/util/List;" ∈ tW := inW 156 (by decide +kernel) (by decide +kernel)
theorem tw_165 : Cond.arrayClass .byte ∈ tW := inW 165 (by decide +kernel) (by decide +kernel)
theorem tw_166 : Cond.classLink "ProofLeaves" 67 "java/lang/UnsupportedOperationException" ∈ tW := inW 166 (by decide +kernel) (by decide +kernel)
theorem tw_167 : Cond.instantiable "java/lang/UnsupportedOperationException" 6 ∈ tW := inW 167 (by decide +kernel) (by decide +kernel)
theorem tw_169 : Cond.selects "java/lang/UnsupportedOperationException" ⟨"java/lang/Throwable", "fillInStackTrace", "(I)Ljava/lang/Throwable;"⟩ ⟨"java/lang/Throwable", "fillInStackTrace", "(I)Ljava/lang/Throwable;"⟩ ∈ tW := inW 169 (by decide +kernel) (by decide +kernel)
theorem tw_176 : Cond.methodLink "ProofLeaves" 71 ⟨"java/lang/UnsupportedOperationException", "<init>", "(Ljava/lang/String;)V"⟩ ∈ tW := inW 176 (by decide +kernel) (by decide +kernel)
theorem tw_177 : Cond.instanceMethod ⟨"java/lang/UnsupportedOperationException", "<init>", "(Ljava/lang/String;)V"⟩ ∈ tW := inW 177 (by decide +kernel) (by decide +kernel)
theorem tw_178 : Cond.code ⟨"java/lang/UnsupportedOperationException", "<init>", "(Ljava/lang/String;)V"⟩ prog_15_method_2_code 2 (Option.none : Option ClassFile.FieldType) ∈ tW := inW 178 (by decide +kernel) (by decide +kernel)
theorem tw_179 : Cond.methodLink "java/lang/UnsupportedOperationException" 7 ⟨"java/lang/RuntimeException", "<init>", "(Ljava/lang/String;)V"⟩ ∈ tW := inW 179 (by decide +kernel) (by decide +kernel)
theorem tw_182 : Cond.methodLink "ProofLeavesLaw" 85 yL_leaf ∈ tW := inW 182 (by decide +kernel) (by decide +kernel)
theorem tw_183 : Cond.static yL_leaf ∈ tW := inW 183 (by decide +kernel) (by decide +kernel)
theorem tw_184 : Cond.codeWith yL_leaf method_4_code 3 (Option.some .int) [(0, 8, 11, 15)] ∈ tW := inW 184 (by decide +kernel) (by decide +kernel)
theorem tw_185 : Cond.methodLink "ProofLeavesLaw" 17 yX1_leaf ∈ tW := inW 185 (by decide +kernel) (by decide +kernel)
theorem tw_186 : Cond.instanceMethod yX1_leaf ∈ tW := inW 186 (by decide +kernel) (by decide +kernel)
theorem tw_187 : Cond.selects "ProofLeaves" yX1_leaf yX1_leaf ∈ tW := inW 187 (by decide +kernel) (by decide +kernel)
theorem tw_188 : Cond.code yX1_leaf prog_1_method_3_code 1 (Option.some .int) ∈ tW := inW 188 (by decide +kernel) (by decide +kernel)
theorem tw_190 : Cond.methodLink "ProofLeaves" 74 yX0_begin ∈ tW := inW 190 (by decide +kernel) (by decide +kernel)
theorem tw_191 : Cond.instanceMethod yX0_begin ∈ tW := inW 191 (by decide +kernel) (by decide +kernel)
theorem tw_192 : Cond.selects "ProofLeaves$Sha256" yX0_begin yX0_begin ∈ tW := inW 192 (by decide +kernel) (by decide +kernel)
theorem tw_193 : Cond.code yX0_begin prog_2_method_2_code 1 (Option.none : Option ClassFile.FieldType) ∈ tW := inW 193 (by decide +kernel) (by decide +kernel)
theorem tw_194 : Cond.methodLink "ProofLeaves" 77 yX0_take ∈ tW := inW 194 (by decide +kernel) (by decide +kernel)
theorem tw_195 : Cond.instanceMethod yX0_take ∈ tW := inW 195 (by decide +kernel) (by decide +kernel)
theorem tw_196 : Cond.selects "ProofLeaves$Sha256" yX0_take yX0_take ∈ tW := inW 196 (by decide +kernel) (by decide +kernel)
theorem tw_197 : Cond.code yX0_take prog_2_method_3_code 2 (Option.none : Option ClassFile.FieldType) ∈ tW := inW 197 (by decide +kernel) (by decide +kernel)
theorem tw_198 : Cond.methodLink "ProofLeaves" 81 yX0_takeFirst ∈ tW := inW 198 (by decide +kernel) (by decide +kernel)
theorem tw_199 : Cond.instanceMethod yX0_takeFirst ∈ tW := inW 199 (by decide +kernel) (by decide +kernel)
theorem tw_200 : Cond.selects "ProofLeaves$Sha256" yX0_takeFirst yX0_takeFirst ∈ tW := inW 200 (by decide +kernel) (by decide +kernel)
theorem tw_201 : Cond.code yX0_takeFirst prog_2_method_4_code 4 (Option.none : Option ClassFile.FieldType) ∈ tW := inW 201 (by decide +kernel) (by decide +kernel)
theorem tw_202 : Cond.methodLink "ProofLeaves$Sha256" 25 yX0_take ∈ tW := inW 202 (by decide +kernel) (by decide +kernel)
theorem tw_203 : Cond.methodLink "ProofLeaves" 85 yX0_finishInto ∈ tW := inW 203 (by decide +kernel) (by decide +kernel)
theorem tw_204 : Cond.instanceMethod yX0_finishInto ∈ tW := inW 204 (by decide +kernel) (by decide +kernel)
theorem tw_205 : Cond.selects "ProofLeaves$Sha256" yX0_finishInto yX0_finishInto ∈ tW := inW 205 (by decide +kernel) (by decide +kernel)
theorem tw_206 : Cond.code yX0_finishInto prog_2_method_6_code 6 (Option.none : Option ClassFile.FieldType) ∈ tW := inW 206 (by decide +kernel) (by decide +kernel)
theorem tw_207 : Cond.constantLong "ProofLeaves$Sha256" 29 (8) ∈ tW := inW 207 (by decide +kernel) (by decide +kernel)
theorem tw_208 : Cond.methodLink "ProofLeaves$Sha256" 31 yJ9_floorMod ∈ tW := inW 208 (by decide +kernel) (by decide +kernel)
theorem tw_209 : Cond.static yJ9_floorMod ∈ tW := inW 209 (by decide +kernel) (by decide +kernel)
theorem tw_210 : Cond.code yJ9_floorMod prog_10_method_50_code 3 (Option.some .int) ∈ tW := inW 210 (by decide +kernel) (by decide +kernel)
theorem tw_211 : Cond.methodLink "ProofLeaves$Sha256" 37 yX0_takeLong ∈ tW := inW 211 (by decide +kernel) (by decide +kernel)
theorem tw_212 : Cond.instanceMethod yX0_takeLong ∈ tW := inW 212 (by decide +kernel) (by decide +kernel)
theorem tw_213 : Cond.selects "ProofLeaves$Sha256" yX0_takeLong yX0_takeLong ∈ tW := inW 213 (by decide +kernel) (by decide +kernel)
theorem tw_214 : Cond.code yX0_takeLong prog_2_method_5_code 4 (Option.none : Option ClassFile.FieldType) ∈ tW := inW 214 (by decide +kernel) (by decide +kernel)
theorem tw_215 : Cond.fieldLink "ProofLeaves$Sha256" 41 "ProofLeaves$Sha256" "FIRST_STATE" "[I" ∈ tW := inW 215 (by decide +kernel) (by decide +kernel)
theorem tw_217 : Cond.methodLink "ProofLeaves$Sha256" 44 ⟨"java/lang/System", "arraycopy", "(Ljava/lang/Object;ILjava/lang/Object;II)V"⟩ ∈ tW := inW 217 (by decide +kernel) (by decide +kernel)
theorem tw_218 : Cond.static ⟨"java/lang/System", "arraycopy", "(Ljava/lang/Object;ILjava/lang/Object;II)V"⟩ ∈ tW := inW 218 (by decide +kernel) (by decide +kernel)
theorem tw_219 : Cond.native ⟨"java/lang/System", "arraycopy", "(Ljava/lang/Object;ILjava/lang/Object;II)V"⟩ ∈ tW := inW 219 (by decide +kernel) (by decide +kernel)
theorem tw_220 : Cond.methodLink "ProofLeaves$Sha256" 50 yX0_spreadBlock ∈ tW := inW 220 (by decide +kernel) (by decide +kernel)
theorem tw_222 : Cond.instanceMethod yX0_spreadBlock ∈ tW := inW 222 (by decide +kernel) (by decide +kernel)
theorem tw_223 : Cond.code yX0_spreadBlock prog_2_method_7_code 7 (Option.none : Option ClassFile.FieldType) ∈ tW := inW 223 (by decide +kernel) (by decide +kernel)
theorem tw_224 : Cond.methodLink "ProofLeaves$Sha256" 56 yJ6_rotateRight ∈ tW := inW 224 (by decide +kernel) (by decide +kernel)
theorem tw_225 : Cond.static yJ6_rotateRight ∈ tW := inW 225 (by decide +kernel) (by decide +kernel)
theorem tw_226 : Cond.code yJ6_rotateRight prog_9_method_51_code 2 (Option.some .int) ∈ tW := inW 226 (by decide +kernel) (by decide +kernel)
theorem tw_227 : Cond.methodLink "ProofLeaves$Sha256" 53 yX0_stirState ∈ tW := inW 227 (by decide +kernel) (by decide +kernel)
theorem tw_229 : Cond.instanceMethod yX0_stirState ∈ tW := inW 229 (by decide +kernel) (by decide +kernel)
theorem tw_230 : Cond.code yX0_stirState prog_2_method_8_code 15 (Option.none : Option ClassFile.FieldType) ∈ tW := inW 230 (by decide +kernel) (by decide +kernel)
theorem tw_231 : Cond.fieldLink "ProofLeaves$Sha256" 61 "ProofLeaves$Sha256" "ROUND_CONSTANTS" "[I" ∈ tW := inW 231 (by decide +kernel) (by decide +kernel)
theorem tw_233 : Cond.methodLink "ProofLeavesLaw" 89 yL_close ∈ tW := inW 233 (by decide +kernel) (by decide +kernel)
theorem tw_234 : Cond.static yL_close ∈ tW := inW 234 (by decide +kernel) (by decide +kernel)
theorem tw_235 : Cond.codeWith yL_close method_5_code 3 (Option.some .int) [(0, 8, 11, 15)] ∈ tW := inW 235 (by decide +kernel) (by decide +kernel)
theorem tw_236 : Cond.methodLink "ProofLeavesLaw" 21 yX1_close ∈ tW := inW 236 (by decide +kernel) (by decide +kernel)
theorem tw_237 : Cond.instanceMethod yX1_close ∈ tW := inW 237 (by decide +kernel) (by decide +kernel)
theorem tw_238 : Cond.selects "ProofLeaves" yX1_close yX1_close ∈ tW := inW 238 (by decide +kernel) (by decide +kernel)
theorem tw_239 : Cond.code yX1_close prog_1_method_4_code 1 (Option.some .int) ∈ tW := inW 239 (by decide +kernel) (by decide +kernel)
theorem tw_241 : Cond.methodLink "ProofLeaves" 91 yX1_treeInto ∈ tW := inW 241 (by decide +kernel) (by decide +kernel)
theorem tw_243 : Cond.instanceMethod yX1_treeInto ∈ tW := inW 243 (by decide +kernel) (by decide +kernel)
theorem tw_244 : Cond.code yX1_treeInto prog_1_method_22_code 4 (Option.none : Option ClassFile.FieldType) ∈ tW := inW 244 (by decide +kernel) (by decide +kernel)
theorem tw_245 : Cond.methodLink "ProofLeaves" 167 yX1_layLeaves ∈ tW := inW 245 (by decide +kernel) (by decide +kernel)
theorem tw_247 : Cond.instanceMethod yX1_layLeaves ∈ tW := inW 247 (by decide +kernel) (by decide +kernel)
theorem tw_248 : Cond.code yX1_layLeaves prog_1_method_27_code 3 (Option.none : Option ClassFile.FieldType) ∈ tW := inW 248 (by decide +kernel) (by decide +kernel)
theorem tw_249 : Cond.methodLink "ProofLeaves" 173 yX1_copyDigest ∈ tW := inW 249 (by decide +kernel) (by decide +kernel)
theorem tw_250 : Cond.static yX1_copyDigest ∈ tW := inW 250 (by decide +kernel) (by decide +kernel)
theorem tw_251 : Cond.code yX1_copyDigest prog_1_method_36_code 2 (Option.none : Option ClassFile.FieldType) ∈ tW := inW 251 (by decide +kernel) (by decide +kernel)
theorem tw_252 : Cond.methodLink "ProofLeaves" 197 ⟨"java/lang/System", "arraycopy", "(Ljava/lang/Object;ILjava/lang/Object;II)V"⟩ ∈ tW := inW 252 (by decide +kernel) (by decide +kernel)
theorem tw_253 : Cond.methodLink "ProofLeaves" 170 yX1_foldLevel ∈ tW := inW 253 (by decide +kernel) (by decide +kernel)
theorem tw_255 : Cond.instanceMethod yX1_foldLevel ∈ tW := inW 255 (by decide +kernel) (by decide +kernel)
theorem tw_256 : Cond.code yX1_foldLevel prog_1_method_28_code 3 (Option.none : Option ClassFile.FieldType) ∈ tW := inW 256 (by decide +kernel) (by decide +kernel)
theorem tw_257 : Cond.methodLink "ProofLeaves" 185 yX1_nodeInto ∈ tW := inW 257 (by decide +kernel) (by decide +kernel)
theorem tw_259 : Cond.instanceMethod yX1_nodeInto ∈ tW := inW 259 (by decide +kernel) (by decide +kernel)
theorem tw_260 : Cond.code yX1_nodeInto prog_1_method_31_code 4 (Option.none : Option ClassFile.FieldType) ∈ tW := inW 260 (by decide +kernel) (by decide +kernel)
theorem tw_261 : Cond.methodLink "ProofLeavesLaw" 92 yL_root ∈ tW := inW 261 (by decide +kernel) (by decide +kernel)
theorem tw_262 : Cond.static yL_root ∈ tW := inW 262 (by decide +kernel) (by decide +kernel)
theorem tw_263 : Cond.codeWith yL_root method_6_code 5 (Option.some .int) [(0, 10, 13, 28)] ∈ tW := inW 263 (by decide +kernel) (by decide +kernel)
theorem tw_264 : Cond.classLink "ProofLeavesLaw" 28 "java/lang/IndexOutOfBoundsException" ∈ tW := inW 264 (by decide +kernel) (by decide +kernel)
theorem tw_265 : Cond.methodLink "ProofLeavesLaw" 24 yX1_root ∈ tW := inW 265 (by decide +kernel) (by decide +kernel)
theorem tw_266 : Cond.instanceMethod yX1_root ∈ tW := inW 266 (by decide +kernel) (by decide +kernel)
theorem tw_267 : Cond.selects "ProofLeaves" yX1_root yX1_root ∈ tW := inW 267 (by decide +kernel) (by decide +kernel)
theorem tw_268 : Cond.code yX1_root prog_1_method_5_code 3 (Option.some .int) ∈ tW := inW 268 (by decide +kernel) (by decide +kernel)
theorem tw_269 : Cond.methodLink "ProofLeaves" 95 yX1_requireDay ∈ tW := inW 269 (by decide +kernel) (by decide +kernel)
theorem tw_271 : Cond.instanceMethod yX1_requireDay ∈ tW := inW 271 (by decide +kernel) (by decide +kernel)
theorem tw_272 : Cond.code yX1_requireDay prog_1_method_18_code 2 (Option.none : Option ClassFile.FieldType) ∈ tW := inW 272 (by decide +kernel) (by decide +kernel)
theorem tw_273 : Cond.classLink "ProofLeaves" 143 "java/lang/IndexOutOfBoundsException" ∈ tW := inW 273 (by decide +kernel) (by decide +kernel)
theorem tw_274 : Cond.instantiable "java/lang/IndexOutOfBoundsException" 6 ∈ tW := inW 274 (by decide +kernel) (by decide +kernel)
theorem tw_276 : Cond.selects "java/lang/IndexOutOfBoundsException" ⟨"java/lang/Throwable", "fillInStackTrace", "(I)Ljava/lang/Throwable;"⟩ ⟨"java/lang/Throwable", "fillInStackTrace", "(I)Ljava/lang/Throwable;"⟩ ∈ tW := inW 276 (by decide +kernel) (by decide +kernel)
theorem tw_283 : Cond.methodLink "ProofLeaves" 147 ⟨"java/lang/IndexOutOfBoundsException", "<init>", "(Ljava/lang/String;)V"⟩ ∈ tW := inW 283 (by decide +kernel) (by decide +kernel)
theorem tw_284 : Cond.instanceMethod ⟨"java/lang/IndexOutOfBoundsException", "<init>", "(Ljava/lang/String;)V"⟩ ∈ tW := inW 284 (by decide +kernel) (by decide +kernel)
theorem tw_285 : Cond.code ⟨"java/lang/IndexOutOfBoundsException", "<init>", "(Ljava/lang/String;)V"⟩ prog_8_method_2_code 2 (Option.none : Option ClassFile.FieldType) ∈ tW := inW 285 (by decide +kernel) (by decide +kernel)
theorem tw_286 : Cond.methodLink "java/lang/IndexOutOfBoundsException" 7 ⟨"java/lang/RuntimeException", "<init>", "(Ljava/lang/String;)V"⟩ ∈ tW := inW 286 (by decide +kernel) (by decide +kernel)
theorem tw_289 : Cond.methodLink "ProofLeaves" 98 yX1_requireByte ∈ tW := inW 289 (by decide +kernel) (by decide +kernel)
theorem tw_290 : Cond.static yX1_requireByte ∈ tW := inW 290 (by decide +kernel) (by decide +kernel)
theorem tw_291 : Cond.code yX1_requireByte prog_1_method_20_code 1 (Option.none : Option ClassFile.FieldType) ∈ tW := inW 291 (by decide +kernel) (by decide +kernel)
theorem tw_293 : Cond.methodLink "ProofLeavesLaw" 96 yL_digest ∈ tW := inW 293 (by decide +kernel) (by decide +kernel)
theorem tw_294 : Cond.static yL_digest ∈ tW := inW 294 (by decide +kernel) (by decide +kernel)
theorem tw_295 : Cond.codeWith yL_digest method_7_code 5 (Option.some .int) [(0, 10, 13, 28)] ∈ tW := inW 295 (by decide +kernel) (by decide +kernel)
theorem tw_296 : Cond.methodLink "ProofLeavesLaw" 30 yX1_digest ∈ tW := inW 296 (by decide +kernel) (by decide +kernel)
theorem tw_297 : Cond.instanceMethod yX1_digest ∈ tW := inW 297 (by decide +kernel) (by decide +kernel)
theorem tw_298 : Cond.selects "ProofLeaves" yX1_digest yX1_digest ∈ tW := inW 298 (by decide +kernel) (by decide +kernel)
theorem tw_299 : Cond.code yX1_digest prog_1_method_6_code 3 (Option.some .int) ∈ tW := inW 299 (by decide +kernel) (by decide +kernel)
theorem tw_300 : Cond.methodLink "ProofLeaves" 101 yX1_requireLeaf ∈ tW := inW 300 (by decide +kernel) (by decide +kernel)
theorem tw_302 : Cond.instanceMethod yX1_requireLeaf ∈ tW := inW 302 (by decide +kernel) (by decide +kernel)
theorem tw_303 : Cond.code yX1_requireLeaf prog_1_method_17_code 2 (Option.none : Option ClassFile.FieldType) ∈ tW := inW 303 (by decide +kernel) (by decide +kernel)
theorem tw_305 : Cond.methodLink "ProofLeavesLaw" 99 yL_count ∈ tW := inW 305 (by decide +kernel) (by decide +kernel)
theorem tw_306 : Cond.static yL_count ∈ tW := inW 306 (by decide +kernel) (by decide +kernel)
theorem tw_307 : Cond.codeWith yL_count method_8_code 4 (Option.some .int) [(0, 9, 12, 28)] ∈ tW := inW 307 (by decide +kernel) (by decide +kernel)
theorem tw_308 : Cond.methodLink "ProofLeavesLaw" 33 yX1_count ∈ tW := inW 308 (by decide +kernel) (by decide +kernel)
theorem tw_309 : Cond.instanceMethod yX1_count ∈ tW := inW 309 (by decide +kernel) (by decide +kernel)
theorem tw_310 : Cond.selects "ProofLeaves" yX1_count yX1_count ∈ tW := inW 310 (by decide +kernel) (by decide +kernel)
theorem tw_311 : Cond.code yX1_count prog_1_method_7_code 2 (Option.some .int) ∈ tW := inW 311 (by decide +kernel) (by decide +kernel)
theorem tw_312 : Cond.methodLink "ProofLeavesLaw" 103 yL_prove ∈ tW := inW 312 (by decide +kernel) (by decide +kernel)
theorem tw_313 : Cond.static yL_prove ∈ tW := inW 313 (by decide +kernel) (by decide +kernel)
theorem tw_314 : Cond.codeWith yL_prove method_9_code 5 (Option.some .int) [(0, 10, 13, 28), (0, 10, 17, 40)] ∈ tW := inW 314 (by decide +kernel) (by decide +kernel)
theorem tw_315 : Cond.classLink "ProofLeavesLaw" 40 "java/lang/IllegalStateException" ∈ tW := inW 315 (by decide +kernel) (by decide +kernel)
theorem tw_316 : Cond.methodLink "ProofLeavesLaw" 37 yX1_prove ∈ tW := inW 316 (by decide +kernel) (by decide +kernel)
theorem tw_317 : Cond.instanceMethod yX1_prove ∈ tW := inW 317 (by decide +kernel) (by decide +kernel)
theorem tw_318 : Cond.selects "ProofLeaves" yX1_prove yX1_prove ∈ tW := inW 318 (by decide +kernel) (by decide +kernel)
theorem tw_319 : Cond.code yX1_prove prog_1_method_8_code 3 (Option.some .int) ∈ tW := inW 319 (by decide +kernel) (by decide +kernel)
theorem tw_320 : Cond.classLink "ProofLeaves" 104 "java/lang/IllegalStateException" ∈ tW := inW 320 (by decide +kernel) (by decide +kernel)
theorem tw_321 : Cond.instantiable "java/lang/IllegalStateException" 6 ∈ tW := inW 321 (by decide +kernel) (by decide +kernel)
theorem tw_323 : Cond.selects "java/lang/IllegalStateException" ⟨"java/lang/Throwable", "fillInStackTrace", "(I)Ljava/lang/Throwable;"⟩ ⟨"java/lang/Throwable", "fillInStackTrace", "(I)Ljava/lang/Throwable;"⟩ ∈ tW := inW 323 (by decide +kernel) (by decide +kernel)
theorem tw_330 : Cond.methodLink "ProofLeaves" 108 ⟨"java/lang/IllegalStateException", "<init>", "(Ljava/lang/String;)V"⟩ ∈ tW := inW 330 (by decide +kernel) (by decide +kernel)
theorem tw_331 : Cond.instanceMethod ⟨"java/lang/IllegalStateException", "<init>", "(Ljava/lang/String;)V"⟩ ∈ tW := inW 331 (by decide +kernel) (by decide +kernel)
theorem tw_332 : Cond.code ⟨"java/lang/IllegalStateException", "<init>", "(Ljava/lang/String;)V"⟩ prog_7_method_2_code 2 (Option.none : Option ClassFile.FieldType) ∈ tW := inW 332 (by decide +kernel) (by decide +kernel)
theorem tw_333 : Cond.methodLink "java/lang/IllegalStateException" 7 ⟨"java/lang/RuntimeException", "<init>", "(Ljava/lang/String;)V"⟩ ∈ tW := inW 333 (by decide +kernel) (by decide +kernel)
theorem tw_336 : Cond.methodLink "ProofLeaves" 109 yX1_makePath ∈ tW := inW 336 (by decide +kernel) (by decide +kernel)
theorem tw_338 : Cond.instanceMethod yX1_makePath ∈ tW := inW 338 (by decide +kernel) (by decide +kernel)
theorem tw_339 : Cond.code yX1_makePath prog_1_method_23_code 5 (Option.none : Option ClassFile.FieldType) ∈ tW := inW 339 (by decide +kernel) (by decide +kernel)
theorem tw_340 : Cond.methodLink "ProofLeaves" 177 yX1_hasPartner ∈ tW := inW 340 (by decide +kernel) (by decide +kernel)
theorem tw_341 : Cond.static yX1_hasPartner ∈ tW := inW 341 (by decide +kernel) (by decide +kernel)
theorem tw_342 : Cond.code yX1_hasPartner prog_1_method_30_code 2 (Option.some .boolean) ∈ tW := inW 342 (by decide +kernel) (by decide +kernel)
theorem tw_343 : Cond.methodLink "ProofLeaves" 181 yX1_partnerOf ∈ tW := inW 343 (by decide +kernel) (by decide +kernel)
theorem tw_344 : Cond.static yX1_partnerOf ∈ tW := inW 344 (by decide +kernel) (by decide +kernel)
theorem tw_345 : Cond.code yX1_partnerOf prog_1_method_29_code 1 (Option.some .int) ∈ tW := inW 345 (by decide +kernel) (by decide +kernel)
theorem tw_346 : Cond.methodLink "ProofLeavesLaw" 106 yL_proof ∈ tW := inW 346 (by decide +kernel) (by decide +kernel)
theorem tw_347 : Cond.static yL_proof ∈ tW := inW 347 (by decide +kernel) (by decide +kernel)
theorem tw_348 : Cond.codeWith yL_proof method_10_code 5 (Option.some .int) [(0, 10, 13, 28)] ∈ tW := inW 348 (by decide +kernel) (by decide +kernel)
theorem tw_349 : Cond.methodLink "ProofLeavesLaw" 42 yX1_proof ∈ tW := inW 349 (by decide +kernel) (by decide +kernel)
theorem tw_350 : Cond.instanceMethod yX1_proof ∈ tW := inW 350 (by decide +kernel) (by decide +kernel)
theorem tw_351 : Cond.selects "ProofLeaves" yX1_proof yX1_proof ∈ tW := inW 351 (by decide +kernel) (by decide +kernel)
theorem tw_352 : Cond.code yX1_proof prog_1_method_9_code 3 (Option.some .int) ∈ tW := inW 352 (by decide +kernel) (by decide +kernel)
theorem tw_353 : Cond.methodLink "ProofLeaves" 113 yX1_requirePathDigest ∈ tW := inW 353 (by decide +kernel) (by decide +kernel)
theorem tw_355 : Cond.instanceMethod yX1_requirePathDigest ∈ tW := inW 355 (by decide +kernel) (by decide +kernel)
theorem tw_356 : Cond.code yX1_requirePathDigest prog_1_method_19_code 2 (Option.none : Option ClassFile.FieldType) ∈ tW := inW 356 (by decide +kernel) (by decide +kernel)
theorem tw_358 : Cond.methodLink "ProofLeavesLaw" 109 yL_bend ∈ tW := inW 358 (by decide +kernel) (by decide +kernel)
theorem tw_359 : Cond.static yL_bend ∈ tW := inW 359 (by decide +kernel) (by decide +kernel)
theorem tw_360 : Cond.codeWith yL_bend method_11_code 5 (Option.some .int) [(0, 7, 10, 28), (0, 7, 14, 13)] ∈ tW := inW 360 (by decide +kernel) (by decide +kernel)
theorem tw_361 : Cond.methodLink "ProofLeavesLaw" 45 yX1_bend ∈ tW := inW 361 (by decide +kernel) (by decide +kernel)
theorem tw_362 : Cond.instanceMethod yX1_bend ∈ tW := inW 362 (by decide +kernel) (by decide +kernel)
theorem tw_363 : Cond.selects "ProofLeaves" yX1_bend yX1_bend ∈ tW := inW 363 (by decide +kernel) (by decide +kernel)
theorem tw_364 : Cond.code yX1_bend prog_1_method_10_code 4 (Option.none : Option ClassFile.FieldType) ∈ tW := inW 364 (by decide +kernel) (by decide +kernel)
theorem tw_365 : Cond.methodLink "ProofLeaves" 116 yX1_requireMask ∈ tW := inW 365 (by decide +kernel) (by decide +kernel)
theorem tw_366 : Cond.static yX1_requireMask ∈ tW := inW 366 (by decide +kernel) (by decide +kernel)
theorem tw_367 : Cond.code yX1_requireMask prog_1_method_21_code 1 (Option.none : Option ClassFile.FieldType) ∈ tW := inW 367 (by decide +kernel) (by decide +kernel)
theorem tw_369 : Cond.methodLink "ProofLeavesLaw" 113 yL_check ∈ tW := inW 369 (by decide +kernel) (by decide +kernel)
theorem tw_370 : Cond.static yL_check ∈ tW := inW 370 (by decide +kernel) (by decide +kernel)
theorem tw_371 : Cond.codeWith yL_check method_12_code 7 (Option.some .int) [(0, 14, 17, 28), (0, 14, 21, 40), (0, 14, 25, 13)] ∈ tW := inW 371 (by decide +kernel) (by decide +kernel)
theorem tw_372 : Cond.methodLink "ProofLeavesLaw" 49 yX1_check ∈ tW := inW 372 (by decide +kernel) (by decide +kernel)
theorem tw_373 : Cond.instanceMethod yX1_check ∈ tW := inW 373 (by decide +kernel) (by decide +kernel)
theorem tw_374 : Cond.selects "ProofLeaves" yX1_check yX1_check ∈ tW := inW 374 (by decide +kernel) (by decide +kernel)
theorem tw_375 : Cond.code yX1_check prog_1_method_11_code 5 (Option.some .int) ∈ tW := inW 375 (by decide +kernel) (by decide +kernel)
theorem tw_378 : Cond.methodLink "ProofLeaves" 123 yX1_dueLength ∈ tW := inW 378 (by decide +kernel) (by decide +kernel)
theorem tw_379 : Cond.static yX1_dueLength ∈ tW := inW 379 (by decide +kernel) (by decide +kernel)
theorem tw_380 : Cond.code yX1_dueLength prog_1_method_24_code 5 (Option.some .int) ∈ tW := inW 380 (by decide +kernel) (by decide +kernel)
theorem tw_381 : Cond.methodLink "ProofLeaves" 127 yX1_climb ∈ tW := inW 381 (by decide +kernel) (by decide +kernel)
theorem tw_383 : Cond.instanceMethod yX1_climb ∈ tW := inW 383 (by decide +kernel) (by decide +kernel)
theorem tw_384 : Cond.code yX1_climb prog_1_method_25_code 7 (Option.none : Option ClassFile.FieldType) ∈ tW := inW 384 (by decide +kernel) (by decide +kernel)
theorem tw_385 : Cond.methodLink "ProofLeaves" 131 yX1_compareDigests ∈ tW := inW 385 (by decide +kernel) (by decide +kernel)
theorem tw_386 : Cond.static yX1_compareDigests ∈ tW := inW 386 (by decide +kernel) (by decide +kernel)
theorem tw_387 : Cond.code yX1_compareDigests prog_1_method_35_code 3 (Option.some .int) ∈ tW := inW 387 (by decide +kernel) (by decide +kernel)
theorem tw_388 : Cond.methodLink "ProofLeavesLaw" 117 yL_grew ∈ tW := inW 388 (by decide +kernel) (by decide +kernel)
theorem tw_389 : Cond.static yL_grew ∈ tW := inW 389 (by decide +kernel) (by decide +kernel)
theorem tw_390 : Cond.codeWith yL_grew method_13_code 5 (Option.some .int) [(0, 17, 20, 28), (0, 17, 24, 13)] ∈ tW := inW 390 (by decide +kernel) (by decide +kernel)
theorem tw_391 : Cond.methodLink "ProofLeavesLaw" 53 yX1_grew ∈ tW := inW 391 (by decide +kernel) (by decide +kernel)
theorem tw_392 : Cond.instanceMethod yX1_grew ∈ tW := inW 392 (by decide +kernel) (by decide +kernel)
theorem tw_393 : Cond.selects "ProofLeaves" yX1_grew yX1_grew ∈ tW := inW 393 (by decide +kernel) (by decide +kernel)
theorem tw_394 : Cond.code yX1_grew prog_1_method_12_code 3 (Option.some .boolean) ∈ tW := inW 394 (by decide +kernel) (by decide +kernel)
theorem tw_396 : Cond.methodLink "ProofLeaves" 137 yX1_stillMakesRoot ∈ tW := inW 396 (by decide +kernel) (by decide +kernel)
theorem tw_398 : Cond.instanceMethod yX1_stillMakesRoot ∈ tW := inW 398 (by decide +kernel) (by decide +kernel)
theorem tw_399 : Cond.code yX1_stillMakesRoot prog_1_method_26_code 2 (Option.some .boolean) ∈ tW := inW 399 (by decide +kernel) (by decide +kernel)
theorem tw_400 : Cond.methodLink "ProofLeavesLaw" 120 yL_withdraw ∈ tW := inW 400 (by decide +kernel) (by decide +kernel)
theorem tw_401 : Cond.static yL_withdraw ∈ tW := inW 401 (by decide +kernel) (by decide +kernel)
theorem tw_402 : Cond.codeWith yL_withdraw method_14_code 4 (Option.some .int) [(0, 9, 12, 28), (0, 9, 15, 15)] ∈ tW := inW 402 (by decide +kernel) (by decide +kernel)
theorem tw_403 : Cond.methodLink "ProofLeavesLaw" 57 yX1_withdraw ∈ tW := inW 403 (by decide +kernel) (by decide +kernel)
theorem tw_404 : Cond.instanceMethod yX1_withdraw ∈ tW := inW 404 (by decide +kernel) (by decide +kernel)
theorem tw_405 : Cond.selects "ProofLeaves" yX1_withdraw yX1_withdraw ∈ tW := inW 405 (by decide +kernel) (by decide +kernel)
theorem tw_406 : Cond.code yX1_withdraw prog_1_method_13_code 2 (Option.some .int) ∈ tW := inW 406 (by decide +kernel) (by decide +kernel)
theorem tw_408 : Cond.methodLink "ProofLeavesLaw" 123 yL_absence ∈ tW := inW 408 (by decide +kernel) (by decide +kernel)
theorem tw_409 : Cond.static yL_absence ∈ tW := inW 409 (by decide +kernel) (by decide +kernel)
theorem tw_410 : Cond.codeWith yL_absence method_15_code 5 (Option.some .int) [(0, 10, 13, 28), (0, 10, 17, 40)] ∈ tW := inW 410 (by decide +kernel) (by decide +kernel)
theorem tw_411 : Cond.methodLink "ProofLeavesLaw" 60 yX1_absence ∈ tW := inW 411 (by decide +kernel) (by decide +kernel)
theorem tw_412 : Cond.instanceMethod yX1_absence ∈ tW := inW 412 (by decide +kernel) (by decide +kernel)
theorem tw_413 : Cond.selects "ProofLeaves" yX1_absence yX1_absence ∈ tW := inW 413 (by decide +kernel) (by decide +kernel)
theorem tw_414 : Cond.code yX1_absence prog_1_method_14_code 3 (Option.some .int) ∈ tW := inW 414 (by decide +kernel) (by decide +kernel)
theorem tw_417 : Cond.methodLink "ProofLeaves" 150 yX1_nearestWithdrawn ∈ tW := inW 417 (by decide +kernel) (by decide +kernel)
theorem tw_419 : Cond.instanceMethod yX1_nearestWithdrawn ∈ tW := inW 419 (by decide +kernel) (by decide +kernel)
theorem tw_420 : Cond.code yX1_nearestWithdrawn prog_1_method_33_code 5 (Option.some .int) ∈ tW := inW 420 (by decide +kernel) (by decide +kernel)
theorem tw_421 : Cond.methodLink "ProofLeaves" 193 yX1_liesOn ∈ tW := inW 421 (by decide +kernel) (by decide +kernel)
theorem tw_423 : Cond.instanceMethod yX1_liesOn ∈ tW := inW 423 (by decide +kernel) (by decide +kernel)
theorem tw_424 : Cond.code yX1_liesOn prog_1_method_34_code 5 (Option.some .boolean) ∈ tW := inW 424 (by decide +kernel) (by decide +kernel)
theorem tw_425 : Cond.methodLink "ProofLeavesLaw" 126 yL_mark ∈ tW := inW 425 (by decide +kernel) (by decide +kernel)
theorem tw_426 : Cond.static yL_mark ∈ tW := inW 426 (by decide +kernel) (by decide +kernel)
theorem tw_427 : Cond.codeWith yL_mark method_16_code 9 (Option.some .int) [(0, 15, 18, 28)] ∈ tW := inW 427 (by decide +kernel) (by decide +kernel)
theorem tw_428 : Cond.methodLink "ProofLeavesLaw" 63 yX1_mark ∈ tW := inW 428 (by decide +kernel) (by decide +kernel)
theorem tw_429 : Cond.instanceMethod yX1_mark ∈ tW := inW 429 (by decide +kernel) (by decide +kernel)
theorem tw_430 : Cond.selects "ProofLeaves" yX1_mark yX1_mark ∈ tW := inW 430 (by decide +kernel) (by decide +kernel)
theorem tw_431 : Cond.code yX1_mark prog_1_method_15_code 7 (Option.some .int) ∈ tW := inW 431 (by decide +kernel) (by decide +kernel)
theorem tw_432 : Cond.methodLink "ProofLeaves" 153 yX1_keyedInto ∈ tW := inW 432 (by decide +kernel) (by decide +kernel)
theorem tw_434 : Cond.instanceMethod yX1_keyedInto ∈ tW := inW 434 (by decide +kernel) (by decide +kernel)
theorem tw_435 : Cond.code yX1_keyedInto prog_1_method_32_code 5 (Option.none : Option ClassFile.FieldType) ∈ tW := inW 435 (by decide +kernel) (by decide +kernel)
theorem tw_436 : Cond.methodLink "ProofLeaves" 189 yX0_takeLong ∈ tW := inW 436 (by decide +kernel) (by decide +kernel)
theorem tw_437 : Cond.methodLink "ProofLeavesLaw" 130 yL_poke ∈ tW := inW 437 (by decide +kernel) (by decide +kernel)
theorem tw_438 : Cond.static yL_poke ∈ tW := inW 438 (by decide +kernel) (by decide +kernel)
theorem tw_439 : Cond.codeWith yL_poke method_17_code 5 (Option.some .int) [(0, 7, 10, 28), (0, 7, 14, 13)] ∈ tW := inW 439 (by decide +kernel) (by decide +kernel)
theorem tw_440 : Cond.methodLink "ProofLeavesLaw" 67 yX1_poke ∈ tW := inW 440 (by decide +kernel) (by decide +kernel)
theorem tw_441 : Cond.instanceMethod yX1_poke ∈ tW := inW 441 (by decide +kernel) (by decide +kernel)
theorem tw_442 : Cond.selects "ProofLeaves" yX1_poke yX1_poke ∈ tW := inW 442 (by decide +kernel) (by decide +kernel)
theorem tw_443 : Cond.code yX1_poke prog_1_method_16_code 4 (Option.none : Option ClassFile.FieldType) ∈ tW := inW 443 (by decide +kernel) (by decide +kernel)
theorem tw_444 : Cond.classLink "ProofLeavesLaw" 71 "ProofLeavesModel" ∈ tW := inW 444 (by decide +kernel) (by decide +kernel)
theorem tw_445 : Cond.instantiable "ProofLeavesModel" 25 ∈ tW := inW 445 (by decide +kernel) (by decide +kernel)
theorem tw_446 : Cond.methodLink "ProofLeavesLaw" 73 yX2_init ∈ tW := inW 446 (by decide +kernel) (by decide +kernel)
theorem tw_447 : Cond.instanceMethod yX2_init ∈ tW := inW 447 (by decide +kernel) (by decide +kernel)
theorem tw_448 : Cond.code yX2_init prog_4_method_1_code 1 (Option.none : Option ClassFile.FieldType) ∈ tW := inW 448 (by decide +kernel) (by decide +kernel)
theorem tw_449 : Cond.methodLink "ProofLeavesModel" 1 ⟨"java/lang/Object", "<init>", "()V"⟩ ∈ tW := inW 449 (by decide +kernel) (by decide +kernel)
theorem tw_450 : Cond.constant "ProofLeavesModel" 56 (1116352408) ∈ tW := inW 450 (by decide +kernel) (by decide +kernel)
theorem tw_451 : Cond.constant "ProofLeavesModel" 57 (1899447441) ∈ tW := inW 451 (by decide +kernel) (by decide +kernel)
theorem tw_452 : Cond.constant "ProofLeavesModel" 58 (-1245643825) ∈ tW := inW 452 (by decide +kernel) (by decide +kernel)
theorem tw_453 : Cond.constant "ProofLeavesModel" 59 (-373957723) ∈ tW := inW 453 (by decide +kernel) (by decide +kernel)
theorem tw_454 : Cond.constant "ProofLeavesModel" 60 (961987163) ∈ tW := inW 454 (by decide +kernel) (by decide +kernel)
theorem tw_455 : Cond.constant "ProofLeavesModel" 61 (1508970993) ∈ tW := inW 455 (by decide +kernel) (by decide +kernel)
theorem tw_456 : Cond.constant "ProofLeavesModel" 62 (-1841331548) ∈ tW := inW 456 (by decide +kernel) (by decide +kernel)
theorem tw_457 : Cond.constant "ProofLeavesModel" 63 (-1424204075) ∈ tW := inW 457 (by decide +kernel) (by decide +kernel)
theorem tw_458 : Cond.constant "ProofLeavesModel" 64 (-670586216) ∈ tW := inW 458 (by decide +kernel) (by decide +kernel)
theorem tw_459 : Cond.constant "ProofLeavesModel" 65 (310598401) ∈ tW := inW 459 (by decide +kernel) (by decide +kernel)
theorem tw_460 : Cond.constant "ProofLeavesModel" 66 (607225278) ∈ tW := inW 460 (by decide +kernel) (by decide +kernel)
theorem tw_461 : Cond.constant "ProofLeavesModel" 67 (1426881987) ∈ tW := inW 461 (by decide +kernel) (by decide +kernel)
theorem tw_462 : Cond.constant "ProofLeavesModel" 68 (1925078388) ∈ tW := inW 462 (by decide +kernel) (by decide +kernel)
theorem tw_463 : Cond.constant "ProofLeavesModel" 69 (-2132889090) ∈ tW := inW 463 (by decide +kernel) (by decide +kernel)
theorem tw_464 : Cond.constant "ProofLeavesModel" 70 (-1680079193) ∈ tW := inW 464 (by decide +kernel) (by decide +kernel)
theorem tw_465 : Cond.constant "ProofLeavesModel" 71 (-1046744716) ∈ tW := inW 465 (by decide +kernel) (by decide +kernel)
theorem tw_466 : Cond.constant "ProofLeavesModel" 72 (-459576895) ∈ tW := inW 466 (by decide +kernel) (by decide +kernel)
theorem tw_467 : Cond.constant "ProofLeavesModel" 73 (-272742522) ∈ tW := inW 467 (by decide +kernel) (by decide +kernel)
theorem tw_468 : Cond.constant "ProofLeavesModel" 74 (264347078) ∈ tW := inW 468 (by decide +kernel) (by decide +kernel)
theorem tw_469 : Cond.constant "ProofLeavesModel" 75 (604807628) ∈ tW := inW 469 (by decide +kernel) (by decide +kernel)
theorem tw_470 : Cond.constant "ProofLeavesModel" 76 (770255983) ∈ tW := inW 470 (by decide +kernel) (by decide +kernel)
theorem tw_471 : Cond.constant "ProofLeavesModel" 77 (1249150122) ∈ tW := inW 471 (by decide +kernel) (by decide +kernel)
theorem tw_472 : Cond.constant "ProofLeavesModel" 78 (1555081692) ∈ tW := inW 472 (by decide +kernel) (by decide +kernel)
theorem tw_473 : Cond.constant "ProofLeavesModel" 79 (1996064986) ∈ tW := inW 473 (by decide +kernel) (by decide +kernel)
theorem tw_474 : Cond.constant "ProofLeavesModel" 80 (-1740746414) ∈ tW := inW 474 (by decide +kernel) (by decide +kernel)
theorem tw_475 : Cond.constant "ProofLeavesModel" 81 (-1473132947) ∈ tW := inW 475 (by decide +kernel) (by decide +kernel)
theorem tw_476 : Cond.constant "ProofLeavesModel" 82 (-1341970488) ∈ tW := inW 476 (by decide +kernel) (by decide +kernel)
theorem tw_477 : Cond.constant "ProofLeavesModel" 83 (-1084653625) ∈ tW := inW 477 (by decide +kernel) (by decide +kernel)
theorem tw_478 : Cond.constant "ProofLeavesModel" 84 (-958395405) ∈ tW := inW 478 (by decide +kernel) (by decide +kernel)
theorem tw_479 : Cond.constant "ProofLeavesModel" 85 (-710438585) ∈ tW := inW 479 (by decide +kernel) (by decide +kernel)
theorem tw_480 : Cond.constant "ProofLeavesModel" 86 (113926993) ∈ tW := inW 480 (by decide +kernel) (by decide +kernel)
theorem tw_481 : Cond.constant "ProofLeavesModel" 87 (338241895) ∈ tW := inW 481 (by decide +kernel) (by decide +kernel)
theorem tw_482 : Cond.constant "ProofLeavesModel" 88 (666307205) ∈ tW := inW 482 (by decide +kernel) (by decide +kernel)
theorem tw_483 : Cond.constant "ProofLeavesModel" 89 (773529912) ∈ tW := inW 483 (by decide +kernel) (by decide +kernel)
theorem tw_484 : Cond.constant "ProofLeavesModel" 90 (1294757372) ∈ tW := inW 484 (by decide +kernel) (by decide +kernel)
theorem tw_485 : Cond.constant "ProofLeavesModel" 91 (1396182291) ∈ tW := inW 485 (by decide +kernel) (by decide +kernel)
theorem tw_486 : Cond.constant "ProofLeavesModel" 92 (1695183700) ∈ tW := inW 486 (by decide +kernel) (by decide +kernel)
theorem tw_487 : Cond.constant "ProofLeavesModel" 93 (1986661051) ∈ tW := inW 487 (by decide +kernel) (by decide +kernel)
theorem tw_488 : Cond.constant "ProofLeavesModel" 94 (-2117940946) ∈ tW := inW 488 (by decide +kernel) (by decide +kernel)
theorem tw_489 : Cond.constant "ProofLeavesModel" 95 (-1838011259) ∈ tW := inW 489 (by decide +kernel) (by decide +kernel)
theorem tw_490 : Cond.constant "ProofLeavesModel" 96 (-1564481375) ∈ tW := inW 490 (by decide +kernel) (by decide +kernel)
theorem tw_491 : Cond.constant "ProofLeavesModel" 97 (-1474664885) ∈ tW := inW 491 (by decide +kernel) (by decide +kernel)
theorem tw_492 : Cond.constant "ProofLeavesModel" 98 (-1035236496) ∈ tW := inW 492 (by decide +kernel) (by decide +kernel)
theorem tw_493 : Cond.constant "ProofLeavesModel" 99 (-949202525) ∈ tW := inW 493 (by decide +kernel) (by decide +kernel)
theorem tw_494 : Cond.constant "ProofLeavesModel" 100 (-778901479) ∈ tW := inW 494 (by decide +kernel) (by decide +kernel)
theorem tw_495 : Cond.constant "ProofLeavesModel" 101 (-694614492) ∈ tW := inW 495 (by decide +kernel) (by decide +kernel)
theorem tw_496 : Cond.constant "ProofLeavesModel" 102 (-200395387) ∈ tW := inW 496 (by decide +kernel) (by decide +kernel)
theorem tw_497 : Cond.constant "ProofLeavesModel" 103 (275423344) ∈ tW := inW 497 (by decide +kernel) (by decide +kernel)
theorem tw_498 : Cond.constant "ProofLeavesModel" 104 (430227734) ∈ tW := inW 498 (by decide +kernel) (by decide +kernel)
theorem tw_499 : Cond.constant "ProofLeavesModel" 105 (506948616) ∈ tW := inW 499 (by decide +kernel) (by decide +kernel)
theorem tw_500 : Cond.constant "ProofLeavesModel" 106 (659060556) ∈ tW := inW 500 (by decide +kernel) (by decide +kernel)
theorem tw_501 : Cond.constant "ProofLeavesModel" 107 (883997877) ∈ tW := inW 501 (by decide +kernel) (by decide +kernel)
theorem tw_502 : Cond.constant "ProofLeavesModel" 108 (958139571) ∈ tW := inW 502 (by decide +kernel) (by decide +kernel)
theorem tw_503 : Cond.constant "ProofLeavesModel" 109 (1322822218) ∈ tW := inW 503 (by decide +kernel) (by decide +kernel)
theorem tw_504 : Cond.constant "ProofLeavesModel" 110 (1537002063) ∈ tW := inW 504 (by decide +kernel) (by decide +kernel)
theorem tw_505 : Cond.constant "ProofLeavesModel" 111 (1747873779) ∈ tW := inW 505 (by decide +kernel) (by decide +kernel)
theorem tw_506 : Cond.constant "ProofLeavesModel" 112 (1955562222) ∈ tW := inW 506 (by decide +kernel) (by decide +kernel)
theorem tw_507 : Cond.constant "ProofLeavesModel" 113 (2024104815) ∈ tW := inW 507 (by decide +kernel) (by decide +kernel)
theorem tw_508 : Cond.constant "ProofLeavesModel" 114 (-2067236844) ∈ tW := inW 508 (by decide +kernel) (by decide +kernel)
theorem tw_509 : Cond.constant "ProofLeavesModel" 115 (-1933114872) ∈ tW := inW 509 (by decide +kernel) (by decide +kernel)
theorem tw_510 : Cond.constant "ProofLeavesModel" 116 (-1866530822) ∈ tW := inW 510 (by decide +kernel) (by decide +kernel)
theorem tw_511 : Cond.constant "ProofLeavesModel" 117 (-1538233109) ∈ tW := inW 511 (by decide +kernel) (by decide +kernel)
theorem tw_512 : Cond.constant "ProofLeavesModel" 118 (-1090935817) ∈ tW := inW 512 (by decide +kernel) (by decide +kernel)
theorem tw_513 : Cond.constant "ProofLeavesModel" 119 (-965641998) ∈ tW := inW 513 (by decide +kernel) (by decide +kernel)
theorem tw_514 : Cond.fieldLink "ProofLeavesModel" 123 "ProofLeavesModel" "thrown" "I" ∈ tW := inW 514 (by decide +kernel) (by decide +kernel)
theorem tw_515 : Cond.fieldLink "ProofLeavesModel" 185 "ProofLeavesModel" "taped" "I" ∈ tW := inW 515 (by decide +kernel) (by decide +kernel)
theorem tw_516 : Cond.fieldLink "ProofLeavesModel" 7 "ProofLeavesModel" "tape" "[I" ∈ tW := inW 516 (by decide +kernel) (by decide +kernel)
theorem tw_517 : Cond.fieldLink "ProofLeavesModel" 127 "ProofLeavesModel" "leaves" "I" ∈ tW := inW 517 (by decide +kernel) (by decide +kernel)
theorem tw_518 : Cond.fieldLink "ProofLeavesModel" 13 "ProofLeavesModel" "leaf" "[I" ∈ tW := inW 518 (by decide +kernel) (by decide +kernel)
theorem tw_519 : Cond.fieldLink "ProofLeavesModel" 16 "ProofLeavesModel" "gone" "[Z" ∈ tW := inW 519 (by decide +kernel) (by decide +kernel)
theorem tw_520 : Cond.fieldLink "ProofLeavesModel" 134 "ProofLeavesModel" "days" "I" ∈ tW := inW 520 (by decide +kernel) (by decide +kernel)
theorem tw_521 : Cond.fieldLink "ProofLeavesModel" 20 "ProofLeavesModel" "count" "[I" ∈ tW := inW 521 (by decide +kernel) (by decide +kernel)
theorem tw_522 : Cond.fieldLink "ProofLeavesModel" 23 "ProofLeavesModel" "root" "[I" ∈ tW := inW 522 (by decide +kernel) (by decide +kernel)
theorem tw_523 : Cond.fieldLink "ProofLeavesModel" 215 "ProofLeavesModel" "proved" "Z" ∈ tW := inW 523 (by decide +kernel) (by decide +kernel)
theorem tw_524 : Cond.fieldLink "ProofLeavesModel" 212 "ProofLeavesModel" "proofMany" "I" ∈ tW := inW 524 (by decide +kernel) (by decide +kernel)
theorem tw_525 : Cond.fieldLink "ProofLeavesModel" 26 "ProofLeavesModel" "proof" "[I" ∈ tW := inW 525 (by decide +kernel) (by decide +kernel)
theorem tw_526 : Cond.fieldLink "ProofLeavesModel" 137 "ProofLeavesModel" "bytes" "I" ∈ tW := inW 526 (by decide +kernel) (by decide +kernel)
theorem tw_527 : Cond.fieldLink "ProofLeavesModel" 29 "ProofLeavesModel" "message" "[I" ∈ tW := inW 527 (by decide +kernel) (by decide +kernel)
theorem tw_528 : Cond.fieldLink "ProofLeavesModel" 32 "ProofLeavesModel" "out" "[I" ∈ tW := inW 528 (by decide +kernel) (by decide +kernel)
theorem tw_529 : Cond.fieldLink "ProofLeavesModel" 35 "ProofLeavesModel" "w" "[I" ∈ tW := inW 529 (by decide +kernel) (by decide +kernel)
theorem tw_530 : Cond.fieldLink "ProofLeavesModel" 38 "ProofLeavesModel" "h" "[I" ∈ tW := inW 530 (by decide +kernel) (by decide +kernel)
theorem tw_531 : Cond.fieldLink "ProofLeavesModel" 175 "ProofLeavesModel" "parts" "I" ∈ tW := inW 531 (by decide +kernel) (by decide +kernel)
theorem tw_532 : Cond.fieldLink "ProofLeavesModel" 41 "ProofLeavesModel" "part" "[I" ∈ tW := inW 532 (by decide +kernel) (by decide +kernel)
theorem tw_533 : Cond.fieldLink "ProofLeavesModel" 44 "ProofLeavesModel" "size" "[I" ∈ tW := inW 533 (by decide +kernel) (by decide +kernel)
theorem tw_534 : Cond.fieldLink "ProofLeavesModel" 206 "ProofLeavesModel" "ways" "I" ∈ tW := inW 534 (by decide +kernel) (by decide +kernel)
theorem tw_535 : Cond.fieldLink "ProofLeavesModel" 47 "ProofLeavesModel" "otherFrom" "[I" ∈ tW := inW 535 (by decide +kernel) (by decide +kernel)
theorem tw_536 : Cond.fieldLink "ProofLeavesModel" 50 "ProofLeavesModel" "otherMany" "[I" ∈ tW := inW 536 (by decide +kernel) (by decide +kernel)
theorem tw_537 : Cond.fieldLink "ProofLeavesModel" 53 "ProofLeavesModel" "otherRight" "[Z" ∈ tW := inW 537 (by decide +kernel) (by decide +kernel)
theorem tw_538 : Cond.fieldLink "ProofLeavesModel" 120 "ProofLeavesModel" "k" "[I" ∈ tW := inW 538 (by decide +kernel) (by decide +kernel)
theorem tw_590 : Cond.methodLink "ProofLeavesLaw" 82 yX2_thrown ∈ tW := inW 590 (by decide +kernel) (by decide +kernel)
theorem tw_591 : Cond.instanceMethod yX2_thrown ∈ tW := inW 591 (by decide +kernel) (by decide +kernel)
theorem tw_592 : Cond.selects "ProofLeavesModel" yX2_thrown yX2_thrown ∈ tW := inW 592 (by decide +kernel) (by decide +kernel)
theorem tw_593 : Cond.code yX2_thrown prog_4_method_2_code 1 (Option.some .int) ∈ tW := inW 593 (by decide +kernel) (by decide +kernel)
theorem tw_594 : Cond.methodLink "ProofLeavesLaw" 81 yX2_feed ∈ tW := inW 594 (by decide +kernel) (by decide +kernel)
theorem tw_595 : Cond.instanceMethod yX2_feed ∈ tW := inW 595 (by decide +kernel) (by decide +kernel)
theorem tw_596 : Cond.selects "ProofLeavesModel" yX2_feed yX2_feed ∈ tW := inW 596 (by decide +kernel) (by decide +kernel)
theorem tw_597 : Cond.code yX2_feed prog_4_method_19_code 5 (Option.some .int) ∈ tW := inW 597 (by decide +kernel) (by decide +kernel)
theorem tw_598 : Cond.methodLink "ProofLeavesModel" 130 yX2_in ∈ tW := inW 598 (by decide +kernel) (by decide +kernel)
theorem tw_599 : Cond.static yX2_in ∈ tW := inW 599 (by decide +kernel) (by decide +kernel)
theorem tw_600 : Cond.code yX2_in prog_4_method_3_code 3 (Option.some .boolean) ∈ tW := inW 600 (by decide +kernel) (by decide +kernel)
theorem tw_601 : Cond.methodLink "ProofLeavesModel" 188 yX2_goes ∈ tW := inW 601 (by decide +kernel) (by decide +kernel)
theorem tw_603 : Cond.instanceMethod yX2_goes ∈ tW := inW 603 (by decide +kernel) (by decide +kernel)
theorem tw_604 : Cond.code yX2_goes prog_4_method_4_code 4 (Option.some .boolean) ∈ tW := inW 604 (by decide +kernel) (by decide +kernel)
theorem tw_605 : Cond.methodLink "ProofLeavesLaw" 88 yX2_leaf ∈ tW := inW 605 (by decide +kernel) (by decide +kernel)
theorem tw_606 : Cond.instanceMethod yX2_leaf ∈ tW := inW 606 (by decide +kernel) (by decide +kernel)
theorem tw_607 : Cond.selects "ProofLeavesModel" yX2_leaf yX2_leaf ∈ tW := inW 607 (by decide +kernel) (by decide +kernel)
theorem tw_608 : Cond.code yX2_leaf prog_4_method_20_code 2 (Option.some .int) ∈ tW := inW 608 (by decide +kernel) (by decide +kernel)
theorem tw_609 : Cond.methodLink "ProofLeavesModel" 165 yX2_begin ∈ tW := inW 609 (by decide +kernel) (by decide +kernel)
theorem tw_611 : Cond.instanceMethod yX2_begin ∈ tW := inW 611 (by decide +kernel) (by decide +kernel)
theorem tw_612 : Cond.code yX2_begin prog_4_method_9_code 1 (Option.none : Option ClassFile.FieldType) ∈ tW := inW 612 (by decide +kernel) (by decide +kernel)
theorem tw_613 : Cond.methodLink "ProofLeavesModel" 140 yX2_add ∈ tW := inW 613 (by decide +kernel) (by decide +kernel)
theorem tw_615 : Cond.instanceMethod yX2_add ∈ tW := inW 615 (by decide +kernel) (by decide +kernel)
theorem tw_616 : Cond.code yX2_add prog_4_method_10_code 2 (Option.none : Option ClassFile.FieldType) ∈ tW := inW 616 (by decide +kernel) (by decide +kernel)
theorem tw_617 : Cond.methodLink "ProofLeavesModel" 172 yX2_digest0 ∈ tW := inW 617 (by decide +kernel) (by decide +kernel)
theorem tw_619 : Cond.instanceMethod yX2_digest0 ∈ tW := inW 619 (by decide +kernel) (by decide +kernel)
theorem tw_620 : Cond.code yX2_digest0 prog_4_method_14_code 3 (Option.none : Option ClassFile.FieldType) ∈ tW := inW 620 (by decide +kernel) (by decide +kernel)
theorem tw_621 : Cond.constant "ProofLeavesModel" 148 (1779033703) ∈ tW := inW 621 (by decide +kernel) (by decide +kernel)
theorem tw_622 : Cond.constant "ProofLeavesModel" 149 (-1150833019) ∈ tW := inW 622 (by decide +kernel) (by decide +kernel)
theorem tw_623 : Cond.constant "ProofLeavesModel" 150 (1013904242) ∈ tW := inW 623 (by decide +kernel) (by decide +kernel)
theorem tw_624 : Cond.constant "ProofLeavesModel" 151 (-1521486534) ∈ tW := inW 624 (by decide +kernel) (by decide +kernel)
theorem tw_625 : Cond.constant "ProofLeavesModel" 152 (1359893119) ∈ tW := inW 625 (by decide +kernel) (by decide +kernel)
theorem tw_626 : Cond.constant "ProofLeavesModel" 153 (-1694144372) ∈ tW := inW 626 (by decide +kernel) (by decide +kernel)
theorem tw_627 : Cond.constant "ProofLeavesModel" 154 (528734635) ∈ tW := inW 627 (by decide +kernel) (by decide +kernel)
theorem tw_628 : Cond.constant "ProofLeavesModel" 155 (1541459225) ∈ tW := inW 628 (by decide +kernel) (by decide +kernel)
theorem tw_629 : Cond.constantLong "ProofLeavesModel" 156 (8) ∈ tW := inW 629 (by decide +kernel) (by decide +kernel)
theorem tw_630 : Cond.methodLink "ProofLeavesModel" 158 yX2_addLong ∈ tW := inW 630 (by decide +kernel) (by decide +kernel)
theorem tw_632 : Cond.instanceMethod yX2_addLong ∈ tW := inW 632 (by decide +kernel) (by decide +kernel)
theorem tw_633 : Cond.code yX2_addLong prog_4_method_12_code 4 (Option.none : Option ClassFile.FieldType) ∈ tW := inW 633 (by decide +kernel) (by decide +kernel)
theorem tw_634 : Cond.methodLink "ProofLeavesModel" 162 yX2_block ∈ tW := inW 634 (by decide +kernel) (by decide +kernel)
theorem tw_636 : Cond.instanceMethod yX2_block ∈ tW := inW 636 (by decide +kernel) (by decide +kernel)
theorem tw_637 : Cond.code yX2_block prog_4_method_13_code 13 (Option.none : Option ClassFile.FieldType) ∈ tW := inW 637 (by decide +kernel) (by decide +kernel)
theorem tw_638 : Cond.methodLink "ProofLeavesModel" 144 yX2_right ∈ tW := inW 638 (by decide +kernel) (by decide +kernel)
theorem tw_639 : Cond.static yX2_right ∈ tW := inW 639 (by decide +kernel) (by decide +kernel)
theorem tw_640 : Cond.code yX2_right prog_4_method_8_code 2 (Option.some .int) ∈ tW := inW 640 (by decide +kernel) (by decide +kernel)
theorem tw_641 : Cond.methodLink "ProofLeavesLaw" 91 yX2_close ∈ tW := inW 641 (by decide +kernel) (by decide +kernel)
theorem tw_642 : Cond.instanceMethod yX2_close ∈ tW := inW 642 (by decide +kernel) (by decide +kernel)
theorem tw_643 : Cond.selects "ProofLeavesModel" yX2_close yX2_close ∈ tW := inW 643 (by decide +kernel) (by decide +kernel)
theorem tw_644 : Cond.code yX2_close prog_4_method_21_code 2 (Option.some .int) ∈ tW := inW 644 (by decide +kernel) (by decide +kernel)
theorem tw_645 : Cond.methodLink "ProofLeavesModel" 192 yX2_tree ∈ tW := inW 645 (by decide +kernel) (by decide +kernel)
theorem tw_647 : Cond.instanceMethod yX2_tree ∈ tW := inW 647 (by decide +kernel) (by decide +kernel)
theorem tw_648 : Cond.code yX2_tree prog_4_method_17_code 5 (Option.none : Option ClassFile.FieldType) ∈ tW := inW 648 (by decide +kernel) (by decide +kernel)
theorem tw_649 : Cond.methodLink "ProofLeavesModel" 182 yX2_join ∈ tW := inW 649 (by decide +kernel) (by decide +kernel)
theorem tw_651 : Cond.instanceMethod yX2_join ∈ tW := inW 651 (by decide +kernel) (by decide +kernel)
theorem tw_652 : Cond.code yX2_join prog_4_method_16_code 2 (Option.none : Option ClassFile.FieldType) ∈ tW := inW 652 (by decide +kernel) (by decide +kernel)
theorem tw_653 : Cond.methodLink "ProofLeavesModel" 178 yX2_node ∈ tW := inW 653 (by decide +kernel) (by decide +kernel)
theorem tw_655 : Cond.instanceMethod yX2_node ∈ tW := inW 655 (by decide +kernel) (by decide +kernel)
theorem tw_656 : Cond.code yX2_node prog_4_method_15_code 5 (Option.none : Option ClassFile.FieldType) ∈ tW := inW 656 (by decide +kernel) (by decide +kernel)
theorem tw_657 : Cond.methodLink "ProofLeavesModel" 168 yX2_addRow ∈ tW := inW 657 (by decide +kernel) (by decide +kernel)
theorem tw_659 : Cond.instanceMethod yX2_addRow ∈ tW := inW 659 (by decide +kernel) (by decide +kernel)
theorem tw_660 : Cond.code yX2_addRow prog_4_method_11_code 4 (Option.none : Option ClassFile.FieldType) ∈ tW := inW 660 (by decide +kernel) (by decide +kernel)
theorem tw_661 : Cond.methodLink "ProofLeavesLaw" 95 yX2_root ∈ tW := inW 661 (by decide +kernel) (by decide +kernel)
theorem tw_662 : Cond.instanceMethod yX2_root ∈ tW := inW 662 (by decide +kernel) (by decide +kernel)
theorem tw_663 : Cond.selects "ProofLeavesModel" yX2_root yX2_root ∈ tW := inW 663 (by decide +kernel) (by decide +kernel)
theorem tw_664 : Cond.code yX2_root prog_4_method_22_code 3 (Option.some .int) ∈ tW := inW 664 (by decide +kernel) (by decide +kernel)
theorem tw_665 : Cond.methodLink "ProofLeavesModel" 196 yX2_isDay ∈ tW := inW 665 (by decide +kernel) (by decide +kernel)
theorem tw_667 : Cond.instanceMethod yX2_isDay ∈ tW := inW 667 (by decide +kernel) (by decide +kernel)
theorem tw_668 : Cond.code yX2_isDay prog_4_method_6_code 2 (Option.some .boolean) ∈ tW := inW 668 (by decide +kernel) (by decide +kernel)
theorem tw_669 : Cond.methodLink "ProofLeavesModel" 200 yX2_isByte ∈ tW := inW 669 (by decide +kernel) (by decide +kernel)
theorem tw_670 : Cond.static yX2_isByte ∈ tW := inW 670 (by decide +kernel) (by decide +kernel)
theorem tw_671 : Cond.code yX2_isByte prog_4_method_7_code 1 (Option.some .boolean) ∈ tW := inW 671 (by decide +kernel) (by decide +kernel)
theorem tw_672 : Cond.methodLink "ProofLeavesLaw" 98 yX2_digest ∈ tW := inW 672 (by decide +kernel) (by decide +kernel)
theorem tw_673 : Cond.instanceMethod yX2_digest ∈ tW := inW 673 (by decide +kernel) (by decide +kernel)
theorem tw_674 : Cond.selects "ProofLeavesModel" yX2_digest yX2_digest ∈ tW := inW 674 (by decide +kernel) (by decide +kernel)
theorem tw_675 : Cond.code yX2_digest prog_4_method_23_code 3 (Option.some .int) ∈ tW := inW 675 (by decide +kernel) (by decide +kernel)
theorem tw_676 : Cond.methodLink "ProofLeavesModel" 203 yX2_isLeaf ∈ tW := inW 676 (by decide +kernel) (by decide +kernel)
theorem tw_678 : Cond.instanceMethod yX2_isLeaf ∈ tW := inW 678 (by decide +kernel) (by decide +kernel)
theorem tw_679 : Cond.code yX2_isLeaf prog_4_method_5_code 2 (Option.some .boolean) ∈ tW := inW 679 (by decide +kernel) (by decide +kernel)
theorem tw_680 : Cond.methodLink "ProofLeavesLaw" 102 yX2_count ∈ tW := inW 680 (by decide +kernel) (by decide +kernel)
theorem tw_681 : Cond.instanceMethod yX2_count ∈ tW := inW 681 (by decide +kernel) (by decide +kernel)
theorem tw_682 : Cond.selects "ProofLeavesModel" yX2_count yX2_count ∈ tW := inW 682 (by decide +kernel) (by decide +kernel)
theorem tw_683 : Cond.code yX2_count prog_4_method_24_code 2 (Option.some .int) ∈ tW := inW 683 (by decide +kernel) (by decide +kernel)
theorem tw_684 : Cond.methodLink "ProofLeavesLaw" 105 yX2_prove ∈ tW := inW 684 (by decide +kernel) (by decide +kernel)
theorem tw_685 : Cond.instanceMethod yX2_prove ∈ tW := inW 685 (by decide +kernel) (by decide +kernel)
theorem tw_686 : Cond.selects "ProofLeavesModel" yX2_prove yX2_prove ∈ tW := inW 686 (by decide +kernel) (by decide +kernel)
theorem tw_687 : Cond.code yX2_prove prog_4_method_26_code 6 (Option.some .int) ∈ tW := inW 687 (by decide +kernel) (by decide +kernel)
theorem tw_688 : Cond.methodLink "ProofLeavesModel" 209 yX2_goTo ∈ tW := inW 688 (by decide +kernel) (by decide +kernel)
theorem tw_690 : Cond.instanceMethod yX2_goTo ∈ tW := inW 690 (by decide +kernel) (by decide +kernel)
theorem tw_691 : Cond.code yX2_goTo prog_4_method_25_code 7 (Option.none : Option ClassFile.FieldType) ∈ tW := inW 691 (by decide +kernel) (by decide +kernel)
theorem tw_692 : Cond.methodLink "ProofLeavesLaw" 108 yX2_proof ∈ tW := inW 692 (by decide +kernel) (by decide +kernel)
theorem tw_693 : Cond.instanceMethod yX2_proof ∈ tW := inW 693 (by decide +kernel) (by decide +kernel)
theorem tw_694 : Cond.selects "ProofLeavesModel" yX2_proof yX2_proof ∈ tW := inW 694 (by decide +kernel) (by decide +kernel)
theorem tw_695 : Cond.code yX2_proof prog_4_method_27_code 3 (Option.some .int) ∈ tW := inW 695 (by decide +kernel) (by decide +kernel)
theorem tw_696 : Cond.methodLink "ProofLeavesLaw" 112 yX2_bend ∈ tW := inW 696 (by decide +kernel) (by decide +kernel)
theorem tw_697 : Cond.instanceMethod yX2_bend ∈ tW := inW 697 (by decide +kernel) (by decide +kernel)
theorem tw_698 : Cond.selects "ProofLeavesModel" yX2_bend yX2_bend ∈ tW := inW 698 (by decide +kernel) (by decide +kernel)
theorem tw_699 : Cond.code yX2_bend prog_4_method_28_code 4 (Option.none : Option ClassFile.FieldType) ∈ tW := inW 699 (by decide +kernel) (by decide +kernel)
theorem tw_700 : Cond.methodLink "ProofLeavesLaw" 116 yX2_check ∈ tW := inW 700 (by decide +kernel) (by decide +kernel)
theorem tw_701 : Cond.instanceMethod yX2_check ∈ tW := inW 701 (by decide +kernel) (by decide +kernel)
theorem tw_702 : Cond.selects "ProofLeavesModel" yX2_check yX2_check ∈ tW := inW 702 (by decide +kernel) (by decide +kernel)
theorem tw_703 : Cond.code yX2_check prog_4_method_29_code 7 (Option.some .int) ∈ tW := inW 703 (by decide +kernel) (by decide +kernel)
theorem tw_704 : Cond.methodLink "ProofLeavesModel" 219 yX2_isOut ∈ tW := inW 704 (by decide +kernel) (by decide +kernel)
theorem tw_706 : Cond.instanceMethod yX2_isOut ∈ tW := inW 706 (by decide +kernel) (by decide +kernel)
theorem tw_707 : Cond.code yX2_isOut prog_4_method_18_code 4 (Option.some .boolean) ∈ tW := inW 707 (by decide +kernel) (by decide +kernel)
theorem tw_708 : Cond.methodLink "ProofLeavesLaw" 119 yX2_grew ∈ tW := inW 708 (by decide +kernel) (by decide +kernel)
theorem tw_709 : Cond.instanceMethod yX2_grew ∈ tW := inW 709 (by decide +kernel) (by decide +kernel)
theorem tw_710 : Cond.selects "ProofLeavesModel" yX2_grew yX2_grew ∈ tW := inW 710 (by decide +kernel) (by decide +kernel)
theorem tw_711 : Cond.code yX2_grew prog_4_method_30_code 3 (Option.some .boolean) ∈ tW := inW 711 (by decide +kernel) (by decide +kernel)
theorem tw_712 : Cond.methodLink "ProofLeavesLaw" 122 yX2_withdraw ∈ tW := inW 712 (by decide +kernel) (by decide +kernel)
theorem tw_713 : Cond.instanceMethod yX2_withdraw ∈ tW := inW 713 (by decide +kernel) (by decide +kernel)
theorem tw_714 : Cond.selects "ProofLeavesModel" yX2_withdraw yX2_withdraw ∈ tW := inW 714 (by decide +kernel) (by decide +kernel)
theorem tw_715 : Cond.code yX2_withdraw prog_4_method_31_code 5 (Option.some .int) ∈ tW := inW 715 (by decide +kernel) (by decide +kernel)
theorem tw_716 : Cond.methodLink "ProofLeavesLaw" 125 yX2_absence ∈ tW := inW 716 (by decide +kernel) (by decide +kernel)
theorem tw_717 : Cond.instanceMethod yX2_absence ∈ tW := inW 717 (by decide +kernel) (by decide +kernel)
theorem tw_718 : Cond.selects "ProofLeavesModel" yX2_absence yX2_absence ∈ tW := inW 718 (by decide +kernel) (by decide +kernel)
theorem tw_719 : Cond.code yX2_absence prog_4_method_33_code 7 (Option.some .int) ∈ tW := inW 719 (by decide +kernel) (by decide +kernel)
theorem tw_720 : Cond.methodLink "ProofLeavesModel" 223 yX2_order ∈ tW := inW 720 (by decide +kernel) (by decide +kernel)
theorem tw_722 : Cond.instanceMethod yX2_order ∈ tW := inW 722 (by decide +kernel) (by decide +kernel)
theorem tw_723 : Cond.code yX2_order prog_4_method_32_code 5 (Option.some .int) ∈ tW := inW 723 (by decide +kernel) (by decide +kernel)
theorem tw_724 : Cond.methodLink "ProofLeavesLaw" 129 yX2_mark ∈ tW := inW 724 (by decide +kernel) (by decide +kernel)
theorem tw_725 : Cond.instanceMethod yX2_mark ∈ tW := inW 725 (by decide +kernel) (by decide +kernel)
theorem tw_726 : Cond.selects "ProofLeavesModel" yX2_mark yX2_mark ∈ tW := inW 726 (by decide +kernel) (by decide +kernel)
theorem tw_727 : Cond.code yX2_mark prog_4_method_34_code 8 (Option.some .int) ∈ tW := inW 727 (by decide +kernel) (by decide +kernel)
theorem tw_728 : Cond.methodLink "ProofLeavesLaw" 132 yX2_poke ∈ tW := inW 728 (by decide +kernel) (by decide +kernel)
theorem tw_729 : Cond.instanceMethod yX2_poke ∈ tW := inW 729 (by decide +kernel) (by decide +kernel)
theorem tw_730 : Cond.selects "ProofLeavesModel" yX2_poke yX2_poke ∈ tW := inW 730 (by decide +kernel) (by decide +kernel)
theorem tw_731 : Cond.code yX2_poke prog_4_method_35_code 4 (Option.none : Option ClassFile.FieldType) ∈ tW := inW 731 (by decide +kernel) (by decide +kernel)
theorem tw_732 : Cond.constantLong "ProofLeavesLaw" 74 (4294967295) ∈ tW := inW 732 (by decide +kernel) (by decide +kernel)
theorem tw_733 : Cond.arrayClass .long ∈ tW := inW 733 (by decide +kernel) (by decide +kernel)
theorem iPL : ∀ w ∈ wsX10, w ∈ tW := by decide +kernel
theorem iSH : ∀ w ∈ wsX00, w ∈ tW := by decide +kernel
theorem iMD : ∀ w ∈ wsX20, w ∈ tW := by decide +kernel
/-- the words of a call of a method of the claim's own -/
theorem gV {own C : String} {idx n : Nat} {y : MethodName} {c : ByteArray} {r : Option FieldType} (h1 : Cond.methodLink own idx y ∈ tW) (h2 : Cond.instanceMethod y ∈ tW) (h3 : Cond.selects C y y ∈ tW) (h4 : Cond.initialized C ∈ tW) (h5 : Cond.code y c n r ∈ tW) : GoodIn tW (wsV own idx C y (.code y c n r :: tW)) := by
  have g : ∀ w ∈ tW, w ∈ tW ∧ ((w.onTables && w.keeps) = true ∨ ∃ ty, w = .arrayClass ty) := fun w h => ⟨h, good_of_word (List.mem_filter.mp h).2⟩
  intro w hw
  simp only [wsV, List.cons_append, List.nil_append, List.mem_cons] at hw
  rcases hw with rfl | rfl | rfl | rfl | rfl | hw
  · exact g _ h1
  · exact g _ h2
  · exact g _ h3
  · exact g _ h4
  · exact g _ h5
  · exact g _ hw
theorem gS {own : String} {idx n : Nat} {y : MethodName} {c : ByteArray} {r : Option FieldType} (h1 : Cond.methodLink own idx y ∈ tW) (h2 : Cond.static y ∈ tW) (h4 : Cond.initialized y.cls ∈ tW) (h5 : Cond.code y c n r ∈ tW) : GoodIn tW (va_wsS own idx y (.code y c n r :: tW)) := by
  have g : ∀ w ∈ tW, w ∈ tW ∧ ((w.onTables && w.keeps) = true ∨ ∃ ty, w = .arrayClass ty) := fun w h => ⟨h, good_of_word (List.mem_filter.mp h).2⟩
  intro w hw
  simp only [va_wsS, List.cons_append, List.nil_append, List.mem_cons] at hw
  rcases hw with rfl | rfl | rfl | rfl | hw
  · exact g _ h1
  · exact g _ h2
  · exact g _ h4
  · exact g _ h5
  · exact g _ hw
theorem tv_X0_spreadBlock : Cond.selects RX0 yX0_spreadBlock yX0_spreadBlock ∈ tW := List.mem_filter.mpr ⟨List.mem_append_left _ (by decide +kernel), by decide +kernel⟩
theorem tv_X0_stirState : Cond.selects RX0 yX0_stirState yX0_stirState ∈ tW := List.mem_filter.mpr ⟨List.mem_append_left _ (by decide +kernel), by decide +kernel⟩
theorem tv_X1_treeInto : Cond.selects RX1 yX1_treeInto yX1_treeInto ∈ tW := List.mem_filter.mpr ⟨List.mem_append_left _ (by decide +kernel), by decide +kernel⟩
theorem tv_X1_layLeaves : Cond.selects RX1 yX1_layLeaves yX1_layLeaves ∈ tW := List.mem_filter.mpr ⟨List.mem_append_left _ (by decide +kernel), by decide +kernel⟩
theorem tv_X1_foldLevel : Cond.selects RX1 yX1_foldLevel yX1_foldLevel ∈ tW := List.mem_filter.mpr ⟨List.mem_append_left _ (by decide +kernel), by decide +kernel⟩
theorem tv_X1_nodeInto : Cond.selects RX1 yX1_nodeInto yX1_nodeInto ∈ tW := List.mem_filter.mpr ⟨List.mem_append_left _ (by decide +kernel), by decide +kernel⟩
theorem tv_X1_requireDay : Cond.selects RX1 yX1_requireDay yX1_requireDay ∈ tW := List.mem_filter.mpr ⟨List.mem_append_left _ (by decide +kernel), by decide +kernel⟩
theorem tv_X1_requireLeaf : Cond.selects RX1 yX1_requireLeaf yX1_requireLeaf ∈ tW := List.mem_filter.mpr ⟨List.mem_append_left _ (by decide +kernel), by decide +kernel⟩
theorem tv_X1_makePath : Cond.selects RX1 yX1_makePath yX1_makePath ∈ tW := List.mem_filter.mpr ⟨List.mem_append_left _ (by decide +kernel), by decide +kernel⟩
theorem tv_X1_requirePathDigest : Cond.selects RX1 yX1_requirePathDigest yX1_requirePathDigest ∈ tW := List.mem_filter.mpr ⟨List.mem_append_left _ (by decide +kernel), by decide +kernel⟩
theorem tv_X1_climb : Cond.selects RX1 yX1_climb yX1_climb ∈ tW := List.mem_filter.mpr ⟨List.mem_append_left _ (by decide +kernel), by decide +kernel⟩
theorem tv_X1_stillMakesRoot : Cond.selects RX1 yX1_stillMakesRoot yX1_stillMakesRoot ∈ tW := List.mem_filter.mpr ⟨List.mem_append_left _ (by decide +kernel), by decide +kernel⟩
theorem tv_X1_nearestWithdrawn : Cond.selects RX1 yX1_nearestWithdrawn yX1_nearestWithdrawn ∈ tW := List.mem_filter.mpr ⟨List.mem_append_left _ (by decide +kernel), by decide +kernel⟩
theorem tv_X1_liesOn : Cond.selects RX1 yX1_liesOn yX1_liesOn ∈ tW := List.mem_filter.mpr ⟨List.mem_append_left _ (by decide +kernel), by decide +kernel⟩
theorem tv_X1_keyedInto : Cond.selects RX1 yX1_keyedInto yX1_keyedInto ∈ tW := List.mem_filter.mpr ⟨List.mem_append_left _ (by decide +kernel), by decide +kernel⟩
theorem tv_X2_goes : Cond.selects RX2 yX2_goes yX2_goes ∈ tW := List.mem_filter.mpr ⟨List.mem_append_left _ (by decide +kernel), by decide +kernel⟩
theorem tv_X2_begin : Cond.selects RX2 yX2_begin yX2_begin ∈ tW := List.mem_filter.mpr ⟨List.mem_append_left _ (by decide +kernel), by decide +kernel⟩
theorem tv_X2_add : Cond.selects RX2 yX2_add yX2_add ∈ tW := List.mem_filter.mpr ⟨List.mem_append_left _ (by decide +kernel), by decide +kernel⟩
theorem tv_X2_digest0 : Cond.selects RX2 yX2_digest0 yX2_digest0 ∈ tW := List.mem_filter.mpr ⟨List.mem_append_left _ (by decide +kernel), by decide +kernel⟩
theorem tv_X2_addLong : Cond.selects RX2 yX2_addLong yX2_addLong ∈ tW := List.mem_filter.mpr ⟨List.mem_append_left _ (by decide +kernel), by decide +kernel⟩
theorem tv_X2_block : Cond.selects RX2 yX2_block yX2_block ∈ tW := List.mem_filter.mpr ⟨List.mem_append_left _ (by decide +kernel), by decide +kernel⟩
theorem tv_X2_tree : Cond.selects RX2 yX2_tree yX2_tree ∈ tW := List.mem_filter.mpr ⟨List.mem_append_left _ (by decide +kernel), by decide +kernel⟩
theorem tv_X2_join : Cond.selects RX2 yX2_join yX2_join ∈ tW := List.mem_filter.mpr ⟨List.mem_append_left _ (by decide +kernel), by decide +kernel⟩
theorem tv_X2_node : Cond.selects RX2 yX2_node yX2_node ∈ tW := List.mem_filter.mpr ⟨List.mem_append_left _ (by decide +kernel), by decide +kernel⟩
theorem tv_X2_addRow : Cond.selects RX2 yX2_addRow yX2_addRow ∈ tW := List.mem_filter.mpr ⟨List.mem_append_left _ (by decide +kernel), by decide +kernel⟩
theorem tv_X2_isDay : Cond.selects RX2 yX2_isDay yX2_isDay ∈ tW := List.mem_filter.mpr ⟨List.mem_append_left _ (by decide +kernel), by decide +kernel⟩
theorem tv_X2_isLeaf : Cond.selects RX2 yX2_isLeaf yX2_isLeaf ∈ tW := List.mem_filter.mpr ⟨List.mem_append_left _ (by decide +kernel), by decide +kernel⟩
theorem tv_X2_goTo : Cond.selects RX2 yX2_goTo yX2_goTo ∈ tW := List.mem_filter.mpr ⟨List.mem_append_left _ (by decide +kernel), by decide +kernel⟩
theorem tv_X2_isOut : Cond.selects RX2 yX2_isOut yX2_isOut ∈ tW := List.mem_filter.mpr ⟨List.mem_append_left _ (by decide +kernel), by decide +kernel⟩
theorem tv_X2_order : Cond.selects RX2 yX2_order yX2_order ∈ tW := List.mem_filter.mpr ⟨List.mem_append_left _ (by decide +kernel), by decide +kernel⟩
end
section
theorem dX0_init_0 : decode cX0_init 0 = .ok (.aload_n 0, 1) := by decide +kernel
theorem dX0_init_1 : decode cX0_init 1 = .ok (.invokespecial 3, 3) := by decide +kernel
theorem dX0_init_4 : decode cX0_init 4 = .ok (.aload_n 0, 1) := by decide +kernel
theorem dX0_init_5 : decode cX0_init 5 = .ok (.sipush 256, 3) := by decide +kernel
theorem dX0_init_8 : decode cX0_init 8 = .ok (.newarray .int, 2) := by decide +kernel
theorem dX0_init_10 : decode cX0_init 10 = .ok (.putfield 11, 3) := by decide +kernel
theorem dX0_init_13 : decode cX0_init 13 = .ok (.aload_n 0, 1) := by decide +kernel
theorem dX0_init_14 : decode cX0_init 14 = .ok (.iconst 0, 1) := by decide +kernel
theorem dX0_init_15 : decode cX0_init 15 = .ok (.putfield 15, 3) := by decide +kernel
theorem dX0_init_18 : decode cX0_init 18 = .ok (.aload_n 0, 1) := by decide +kernel
theorem dX0_init_19 : decode cX0_init 19 = .ok (.bipush 64, 2) := by decide +kernel
theorem dX0_init_21 : decode cX0_init 21 = .ok (.newarray .int, 2) := by decide +kernel
theorem dX0_init_23 : decode cX0_init 23 = .ok (.putfield 19, 3) := by decide +kernel
theorem dX0_init_26 : decode cX0_init 26 = .ok (.aload_n 0, 1) := by decide +kernel
theorem dX0_init_27 : decode cX0_init 27 = .ok (.bipush 8, 2) := by decide +kernel
theorem dX0_init_29 : decode cX0_init 29 = .ok (.newarray .int, 2) := by decide +kernel
theorem dX0_init_31 : decode cX0_init 31 = .ok (.putfield 22, 3) := by decide +kernel
theorem dX0_init_34 : decode cX0_init 34 = .ok (.return_, 1) := by decide +kernel
theorem dX0_begin_0 : decode cX0_begin 0 = .ok (.aload_n 0, 1) := by decide +kernel
theorem dX0_begin_1 : decode cX0_begin 1 = .ok (.iconst 0, 1) := by decide +kernel
theorem dX0_begin_2 : decode cX0_begin 2 = .ok (.putfield 15, 3) := by decide +kernel
theorem dX0_begin_5 : decode cX0_begin 5 = .ok (.return_, 1) := by decide +kernel
theorem dX0_take_0 : decode cX0_take 0 = .ok (.aload_n 0, 1) := by decide +kernel
theorem dX0_take_1 : decode cX0_take 1 = .ok (.getfield 15, 3) := by decide +kernel
theorem dX0_take_4 : decode cX0_take 4 = .ok (.sipush 256, 3) := by decide +kernel
theorem dX0_take_7 : decode cX0_take 7 = .ok (.if_icmp .ge 23, 3) := by decide +kernel
theorem dX0_take_10 : decode cX0_take 10 = .ok (.aload_n 0, 1) := by decide +kernel
theorem dX0_take_11 : decode cX0_take 11 = .ok (.getfield 11, 3) := by decide +kernel
theorem dX0_take_14 : decode cX0_take 14 = .ok (.aload_n 0, 1) := by decide +kernel
theorem dX0_take_15 : decode cX0_take 15 = .ok (.getfield 15, 3) := by decide +kernel
theorem dX0_take_18 : decode cX0_take 18 = .ok (.iload_n 1, 1) := by decide +kernel
theorem dX0_take_19 : decode cX0_take 19 = .ok (.iastore, 1) := by decide +kernel
theorem dX0_take_20 : decode cX0_take 20 = .ok (.aload_n 0, 1) := by decide +kernel
theorem dX0_take_21 : decode cX0_take 21 = .ok (.dup, 1) := by decide +kernel
theorem dX0_take_22 : decode cX0_take 22 = .ok (.getfield 15, 3) := by decide +kernel
theorem dX0_take_25 : decode cX0_take 25 = .ok (.iconst 1, 1) := by decide +kernel
theorem dX0_take_26 : decode cX0_take 26 = .ok (.iadd, 1) := by decide +kernel
theorem dX0_take_27 : decode cX0_take 27 = .ok (.putfield 15, 3) := by decide +kernel
theorem dX0_take_30 : decode cX0_take 30 = .ok (.return_, 1) := by decide +kernel
theorem dX0_takeFirst_0 : decode cX0_takeFirst 0 = .ok (.iconst 0, 1) := by decide +kernel
theorem dX0_takeFirst_1 : decode cX0_takeFirst 1 = .ok (.istore_n 3, 1) := by decide +kernel
theorem dX0_takeFirst_2 : decode cX0_takeFirst 2 = .ok (.iload_n 3, 1) := by decide +kernel
theorem dX0_takeFirst_3 : decode cX0_takeFirst 3 = .ok (.iload_n 2, 1) := by decide +kernel
theorem dX0_takeFirst_4 : decode cX0_takeFirst 4 = .ok (.if_icmp .ge 16, 3) := by decide +kernel
theorem dX0_takeFirst_7 : decode cX0_takeFirst 7 = .ok (.aload_n 0, 1) := by decide +kernel
theorem dX0_takeFirst_8 : decode cX0_takeFirst 8 = .ok (.aload_n 1, 1) := by decide +kernel
theorem dX0_takeFirst_9 : decode cX0_takeFirst 9 = .ok (.iload_n 3, 1) := by decide +kernel
theorem dX0_takeFirst_10 : decode cX0_takeFirst 10 = .ok (.iaload, 1) := by decide +kernel
theorem dX0_takeFirst_11 : decode cX0_takeFirst 11 = .ok (.invokevirtual 25, 3) := by decide +kernel
theorem dX0_takeFirst_14 : decode cX0_takeFirst 14 = .ok (.iinc 3 1, 3) := by decide +kernel
theorem dX0_takeFirst_17 : decode cX0_takeFirst 17 = .ok (.goto (-15), 3) := by decide +kernel
theorem dX0_takeFirst_20 : decode cX0_takeFirst 20 = .ok (.return_, 1) := by decide +kernel
theorem dX0_finishInto_0 : decode cX0_finishInto 0 = .ok (.ldc2_w 29, 3) := by decide +kernel
theorem dX0_finishInto_3 : decode cX0_finishInto 3 = .ok (.aload_n 0, 1) := by decide +kernel
theorem dX0_finishInto_4 : decode cX0_finishInto 4 = .ok (.getfield 15, 3) := by decide +kernel
theorem dX0_finishInto_7 : decode cX0_finishInto 7 = .ok (.i2l, 1) := by decide +kernel
theorem dX0_finishInto_8 : decode cX0_finishInto 8 = .ok (.lmul, 1) := by decide +kernel
theorem dX0_finishInto_9 : decode cX0_finishInto 9 = .ok (.lstore_n 2, 1) := by decide +kernel
theorem dX0_finishInto_10 : decode cX0_finishInto 10 = .ok (.bipush 55, 2) := by decide +kernel
theorem dX0_finishInto_12 : decode cX0_finishInto 12 = .ok (.aload_n 0, 1) := by decide +kernel
theorem dX0_finishInto_13 : decode cX0_finishInto 13 = .ok (.getfield 15, 3) := by decide +kernel
theorem dX0_finishInto_16 : decode cX0_finishInto 16 = .ok (.isub, 1) := by decide +kernel
theorem dX0_finishInto_17 : decode cX0_finishInto 17 = .ok (.bipush 64, 2) := by decide +kernel
theorem dX0_finishInto_19 : decode cX0_finishInto 19 = .ok (.invokestatic 31, 3) := by decide +kernel
theorem dX0_finishInto_22 : decode cX0_finishInto 22 = .ok (.istore 4, 2) := by decide +kernel
theorem dX0_finishInto_24 : decode cX0_finishInto 24 = .ok (.aload_n 0, 1) := by decide +kernel
theorem dX0_finishInto_25 : decode cX0_finishInto 25 = .ok (.sipush 128, 3) := by decide +kernel
theorem dX0_finishInto_28 : decode cX0_finishInto 28 = .ok (.invokevirtual 25, 3) := by decide +kernel
theorem dX0_finishInto_31 : decode cX0_finishInto 31 = .ok (.iconst 0, 1) := by decide +kernel
theorem dX0_finishInto_32 : decode cX0_finishInto 32 = .ok (.istore 5, 2) := by decide +kernel
theorem dX0_finishInto_34 : decode cX0_finishInto 34 = .ok (.iload 5, 2) := by decide +kernel
theorem dX0_finishInto_36 : decode cX0_finishInto 36 = .ok (.iload 4, 2) := by decide +kernel
theorem dX0_finishInto_38 : decode cX0_finishInto 38 = .ok (.if_icmp .ge 14, 3) := by decide +kernel
theorem dX0_finishInto_41 : decode cX0_finishInto 41 = .ok (.aload_n 0, 1) := by decide +kernel
theorem dX0_finishInto_42 : decode cX0_finishInto 42 = .ok (.iconst 0, 1) := by decide +kernel
theorem dX0_finishInto_43 : decode cX0_finishInto 43 = .ok (.invokevirtual 25, 3) := by decide +kernel
theorem dX0_finishInto_46 : decode cX0_finishInto 46 = .ok (.iinc 5 1, 3) := by decide +kernel
theorem dX0_finishInto_49 : decode cX0_finishInto 49 = .ok (.goto (-15), 3) := by decide +kernel
theorem dX0_finishInto_52 : decode cX0_finishInto 52 = .ok (.aload_n 0, 1) := by decide +kernel
theorem dX0_finishInto_53 : decode cX0_finishInto 53 = .ok (.lload_n 2, 1) := by decide +kernel
theorem dX0_finishInto_54 : decode cX0_finishInto 54 = .ok (.invokevirtual 37, 3) := by decide +kernel
theorem dX0_finishInto_57 : decode cX0_finishInto 57 = .ok (.getstatic 41, 3) := by decide +kernel
theorem dX0_finishInto_60 : decode cX0_finishInto 60 = .ok (.iconst 0, 1) := by decide +kernel
theorem dX0_finishInto_61 : decode cX0_finishInto 61 = .ok (.aload_n 0, 1) := by decide +kernel
theorem dX0_finishInto_62 : decode cX0_finishInto 62 = .ok (.getfield 22, 3) := by decide +kernel
theorem dX0_finishInto_65 : decode cX0_finishInto 65 = .ok (.iconst 0, 1) := by decide +kernel
theorem dX0_finishInto_66 : decode cX0_finishInto 66 = .ok (.bipush 8, 2) := by decide +kernel
theorem dX0_finishInto_68 : decode cX0_finishInto 68 = .ok (.invokestatic 44, 3) := by decide +kernel
theorem dX0_finishInto_71 : decode cX0_finishInto 71 = .ok (.iconst 0, 1) := by decide +kernel
theorem dX0_finishInto_72 : decode cX0_finishInto 72 = .ok (.istore 5, 2) := by decide +kernel
theorem dX0_finishInto_74 : decode cX0_finishInto 74 = .ok (.iload 5, 2) := by decide +kernel
theorem dX0_finishInto_76 : decode cX0_finishInto 76 = .ok (.bipush 64, 2) := by decide +kernel
theorem dX0_finishInto_78 : decode cX0_finishInto 78 = .ok (.iadd, 1) := by decide +kernel
theorem dX0_finishInto_79 : decode cX0_finishInto 79 = .ok (.aload_n 0, 1) := by decide +kernel
theorem dX0_finishInto_80 : decode cX0_finishInto 80 = .ok (.getfield 15, 3) := by decide +kernel
theorem dX0_finishInto_83 : decode cX0_finishInto 83 = .ok (.if_icmp .gt 19, 3) := by decide +kernel
theorem dX0_finishInto_86 : decode cX0_finishInto 86 = .ok (.aload_n 0, 1) := by decide +kernel
theorem dX0_finishInto_87 : decode cX0_finishInto 87 = .ok (.iload 5, 2) := by decide +kernel
theorem dX0_finishInto_89 : decode cX0_finishInto 89 = .ok (.invokevirtual 50, 3) := by decide +kernel
theorem dX0_finishInto_92 : decode cX0_finishInto 92 = .ok (.aload_n 0, 1) := by decide +kernel
theorem dX0_finishInto_93 : decode cX0_finishInto 93 = .ok (.invokevirtual 53, 3) := by decide +kernel
theorem dX0_finishInto_96 : decode cX0_finishInto 96 = .ok (.iinc 5 64, 3) := by decide +kernel
theorem dX0_finishInto_99 : decode cX0_finishInto 99 = .ok (.goto (-25), 3) := by decide +kernel
theorem dX0_finishInto_102 : decode cX0_finishInto 102 = .ok (.iconst 0, 1) := by decide +kernel
theorem dX0_finishInto_103 : decode cX0_finishInto 103 = .ok (.istore 5, 2) := by decide +kernel
theorem dX0_finishInto_105 : decode cX0_finishInto 105 = .ok (.iload 5, 2) := by decide +kernel
theorem dX0_finishInto_107 : decode cX0_finishInto 107 = .ok (.bipush 32, 2) := by decide +kernel
theorem dX0_finishInto_109 : decode cX0_finishInto 109 = .ok (.if_icmp .ge 37, 3) := by decide +kernel
theorem dX0_finishInto_112 : decode cX0_finishInto 112 = .ok (.aload_n 1, 1) := by decide +kernel
theorem dX0_finishInto_113 : decode cX0_finishInto 113 = .ok (.iload 5, 2) := by decide +kernel
theorem dX0_finishInto_115 : decode cX0_finishInto 115 = .ok (.aload_n 0, 1) := by decide +kernel
theorem dX0_finishInto_116 : decode cX0_finishInto 116 = .ok (.getfield 22, 3) := by decide +kernel
theorem dX0_finishInto_119 : decode cX0_finishInto 119 = .ok (.iload 5, 2) := by decide +kernel
theorem dX0_finishInto_121 : decode cX0_finishInto 121 = .ok (.iconst 4, 1) := by decide +kernel
theorem dX0_finishInto_122 : decode cX0_finishInto 122 = .ok (.idiv, 1) := by decide +kernel
theorem dX0_finishInto_123 : decode cX0_finishInto 123 = .ok (.iaload, 1) := by decide +kernel
theorem dX0_finishInto_124 : decode cX0_finishInto 124 = .ok (.bipush 24, 2) := by decide +kernel
theorem dX0_finishInto_126 : decode cX0_finishInto 126 = .ok (.bipush 8, 2) := by decide +kernel
theorem dX0_finishInto_128 : decode cX0_finishInto 128 = .ok (.iload 5, 2) := by decide +kernel
theorem dX0_finishInto_130 : decode cX0_finishInto 130 = .ok (.iconst 4, 1) := by decide +kernel
theorem dX0_finishInto_131 : decode cX0_finishInto 131 = .ok (.irem, 1) := by decide +kernel
theorem dX0_finishInto_132 : decode cX0_finishInto 132 = .ok (.imul, 1) := by decide +kernel
theorem dX0_finishInto_133 : decode cX0_finishInto 133 = .ok (.isub, 1) := by decide +kernel
theorem dX0_finishInto_134 : decode cX0_finishInto 134 = .ok (.iushr, 1) := by decide +kernel
theorem dX0_finishInto_135 : decode cX0_finishInto 135 = .ok (.sipush 255, 3) := by decide +kernel
theorem dX0_finishInto_138 : decode cX0_finishInto 138 = .ok (.iand, 1) := by decide +kernel
theorem dX0_finishInto_139 : decode cX0_finishInto 139 = .ok (.iastore, 1) := by decide +kernel
theorem dX0_finishInto_140 : decode cX0_finishInto 140 = .ok (.iinc 5 1, 3) := by decide +kernel
theorem dX0_finishInto_143 : decode cX0_finishInto 143 = .ok (.goto (-38), 3) := by decide +kernel
theorem dX0_finishInto_146 : decode cX0_finishInto 146 = .ok (.return_, 1) := by decide +kernel
theorem dX0_takeLong_0 : decode cX0_takeLong 0 = .ok (.bipush 56, 2) := by decide +kernel
theorem dX0_takeLong_2 : decode cX0_takeLong 2 = .ok (.istore_n 3, 1) := by decide +kernel
theorem dX0_takeLong_3 : decode cX0_takeLong 3 = .ok (.iload_n 3, 1) := by decide +kernel
theorem dX0_takeLong_4 : decode cX0_takeLong 4 = .ok (.ifCond .lt 21, 3) := by decide +kernel
theorem dX0_takeLong_7 : decode cX0_takeLong 7 = .ok (.aload_n 0, 1) := by decide +kernel
theorem dX0_takeLong_8 : decode cX0_takeLong 8 = .ok (.lload_n 1, 1) := by decide +kernel
theorem dX0_takeLong_9 : decode cX0_takeLong 9 = .ok (.iload_n 3, 1) := by decide +kernel
theorem dX0_takeLong_10 : decode cX0_takeLong 10 = .ok (.lushr, 1) := by decide +kernel
theorem dX0_takeLong_11 : decode cX0_takeLong 11 = .ok (.l2i, 1) := by decide +kernel
theorem dX0_takeLong_12 : decode cX0_takeLong 12 = .ok (.sipush 255, 3) := by decide +kernel
theorem dX0_takeLong_15 : decode cX0_takeLong 15 = .ok (.iand, 1) := by decide +kernel
theorem dX0_takeLong_16 : decode cX0_takeLong 16 = .ok (.invokevirtual 25, 3) := by decide +kernel
theorem dX0_takeLong_19 : decode cX0_takeLong 19 = .ok (.iinc 3 (-8), 3) := by decide +kernel
theorem dX0_takeLong_22 : decode cX0_takeLong 22 = .ok (.goto (-19), 3) := by decide +kernel
theorem dX0_takeLong_25 : decode cX0_takeLong 25 = .ok (.return_, 1) := by decide +kernel
theorem dX0_spreadBlock_0 : decode cX0_spreadBlock 0 = .ok (.iconst 0, 1) := by decide +kernel
theorem dX0_spreadBlock_1 : decode cX0_spreadBlock 1 = .ok (.istore_n 2, 1) := by decide +kernel
theorem dX0_spreadBlock_2 : decode cX0_spreadBlock 2 = .ok (.iload_n 2, 1) := by decide +kernel
theorem dX0_spreadBlock_3 : decode cX0_spreadBlock 3 = .ok (.bipush 16, 2) := by decide +kernel
theorem dX0_spreadBlock_5 : decode cX0_spreadBlock 5 = .ok (.if_icmp .ge 63, 3) := by decide +kernel
theorem dX0_spreadBlock_8 : decode cX0_spreadBlock 8 = .ok (.iload_n 1, 1) := by decide +kernel
theorem dX0_spreadBlock_9 : decode cX0_spreadBlock 9 = .ok (.iconst 4, 1) := by decide +kernel
theorem dX0_spreadBlock_10 : decode cX0_spreadBlock 10 = .ok (.iload_n 2, 1) := by decide +kernel
theorem dX0_spreadBlock_11 : decode cX0_spreadBlock 11 = .ok (.imul, 1) := by decide +kernel
theorem dX0_spreadBlock_12 : decode cX0_spreadBlock 12 = .ok (.iadd, 1) := by decide +kernel
theorem dX0_spreadBlock_13 : decode cX0_spreadBlock 13 = .ok (.istore_n 3, 1) := by decide +kernel
theorem dX0_spreadBlock_14 : decode cX0_spreadBlock 14 = .ok (.aload_n 0, 1) := by decide +kernel
theorem dX0_spreadBlock_15 : decode cX0_spreadBlock 15 = .ok (.getfield 19, 3) := by decide +kernel
theorem dX0_spreadBlock_18 : decode cX0_spreadBlock 18 = .ok (.iload_n 2, 1) := by decide +kernel
theorem dX0_spreadBlock_19 : decode cX0_spreadBlock 19 = .ok (.aload_n 0, 1) := by decide +kernel
theorem dX0_spreadBlock_20 : decode cX0_spreadBlock 20 = .ok (.getfield 11, 3) := by decide +kernel
theorem dX0_spreadBlock_23 : decode cX0_spreadBlock 23 = .ok (.iload_n 3, 1) := by decide +kernel
theorem dX0_spreadBlock_24 : decode cX0_spreadBlock 24 = .ok (.iaload, 1) := by decide +kernel
theorem dX0_spreadBlock_25 : decode cX0_spreadBlock 25 = .ok (.bipush 24, 2) := by decide +kernel
theorem dX0_spreadBlock_27 : decode cX0_spreadBlock 27 = .ok (.ishl, 1) := by decide +kernel
theorem dX0_spreadBlock_28 : decode cX0_spreadBlock 28 = .ok (.aload_n 0, 1) := by decide +kernel
theorem dX0_spreadBlock_29 : decode cX0_spreadBlock 29 = .ok (.getfield 11, 3) := by decide +kernel
theorem dX0_spreadBlock_32 : decode cX0_spreadBlock 32 = .ok (.iload_n 3, 1) := by decide +kernel
theorem dX0_spreadBlock_33 : decode cX0_spreadBlock 33 = .ok (.iconst 1, 1) := by decide +kernel
theorem dX0_spreadBlock_34 : decode cX0_spreadBlock 34 = .ok (.iadd, 1) := by decide +kernel
theorem dX0_spreadBlock_35 : decode cX0_spreadBlock 35 = .ok (.iaload, 1) := by decide +kernel
theorem dX0_spreadBlock_36 : decode cX0_spreadBlock 36 = .ok (.bipush 16, 2) := by decide +kernel
theorem dX0_spreadBlock_38 : decode cX0_spreadBlock 38 = .ok (.ishl, 1) := by decide +kernel
theorem dX0_spreadBlock_39 : decode cX0_spreadBlock 39 = .ok (.ior, 1) := by decide +kernel
theorem dX0_spreadBlock_40 : decode cX0_spreadBlock 40 = .ok (.aload_n 0, 1) := by decide +kernel
theorem dX0_spreadBlock_41 : decode cX0_spreadBlock 41 = .ok (.getfield 11, 3) := by decide +kernel
theorem dX0_spreadBlock_44 : decode cX0_spreadBlock 44 = .ok (.iload_n 3, 1) := by decide +kernel
theorem dX0_spreadBlock_45 : decode cX0_spreadBlock 45 = .ok (.iconst 2, 1) := by decide +kernel
theorem dX0_spreadBlock_46 : decode cX0_spreadBlock 46 = .ok (.iadd, 1) := by decide +kernel
theorem dX0_spreadBlock_47 : decode cX0_spreadBlock 47 = .ok (.iaload, 1) := by decide +kernel
theorem dX0_spreadBlock_48 : decode cX0_spreadBlock 48 = .ok (.bipush 8, 2) := by decide +kernel
theorem dX0_spreadBlock_50 : decode cX0_spreadBlock 50 = .ok (.ishl, 1) := by decide +kernel
theorem dX0_spreadBlock_51 : decode cX0_spreadBlock 51 = .ok (.ior, 1) := by decide +kernel
theorem dX0_spreadBlock_52 : decode cX0_spreadBlock 52 = .ok (.aload_n 0, 1) := by decide +kernel
theorem dX0_spreadBlock_53 : decode cX0_spreadBlock 53 = .ok (.getfield 11, 3) := by decide +kernel
theorem dX0_spreadBlock_56 : decode cX0_spreadBlock 56 = .ok (.iload_n 3, 1) := by decide +kernel
theorem dX0_spreadBlock_57 : decode cX0_spreadBlock 57 = .ok (.iconst 3, 1) := by decide +kernel
theorem dX0_spreadBlock_58 : decode cX0_spreadBlock 58 = .ok (.iadd, 1) := by decide +kernel
theorem dX0_spreadBlock_59 : decode cX0_spreadBlock 59 = .ok (.iaload, 1) := by decide +kernel
theorem dX0_spreadBlock_60 : decode cX0_spreadBlock 60 = .ok (.ior, 1) := by decide +kernel
theorem dX0_spreadBlock_61 : decode cX0_spreadBlock 61 = .ok (.iastore, 1) := by decide +kernel
theorem dX0_spreadBlock_62 : decode cX0_spreadBlock 62 = .ok (.iinc 2 1, 3) := by decide +kernel
theorem dX0_spreadBlock_65 : decode cX0_spreadBlock 65 = .ok (.goto (-63), 3) := by decide +kernel
theorem dX0_spreadBlock_68 : decode cX0_spreadBlock 68 = .ok (.bipush 16, 2) := by decide +kernel
theorem dX0_spreadBlock_70 : decode cX0_spreadBlock 70 = .ok (.istore_n 2, 1) := by decide +kernel
theorem dX0_spreadBlock_71 : decode cX0_spreadBlock 71 = .ok (.iload_n 2, 1) := by decide +kernel
theorem dX0_spreadBlock_72 : decode cX0_spreadBlock 72 = .ok (.bipush 64, 2) := by decide +kernel
theorem dX0_spreadBlock_74 : decode cX0_spreadBlock 74 = .ok (.if_icmp .ge 102, 3) := by decide +kernel
theorem dX0_spreadBlock_77 : decode cX0_spreadBlock 77 = .ok (.aload_n 0, 1) := by decide +kernel
theorem dX0_spreadBlock_78 : decode cX0_spreadBlock 78 = .ok (.getfield 19, 3) := by decide +kernel
theorem dX0_spreadBlock_81 : decode cX0_spreadBlock 81 = .ok (.iload_n 2, 1) := by decide +kernel
theorem dX0_spreadBlock_82 : decode cX0_spreadBlock 82 = .ok (.bipush 15, 2) := by decide +kernel
theorem dX0_spreadBlock_84 : decode cX0_spreadBlock 84 = .ok (.isub, 1) := by decide +kernel
theorem dX0_spreadBlock_85 : decode cX0_spreadBlock 85 = .ok (.iaload, 1) := by decide +kernel
theorem dX0_spreadBlock_86 : decode cX0_spreadBlock 86 = .ok (.istore_n 3, 1) := by decide +kernel
theorem dX0_spreadBlock_87 : decode cX0_spreadBlock 87 = .ok (.aload_n 0, 1) := by decide +kernel
theorem dX0_spreadBlock_88 : decode cX0_spreadBlock 88 = .ok (.getfield 19, 3) := by decide +kernel
theorem dX0_spreadBlock_91 : decode cX0_spreadBlock 91 = .ok (.iload_n 2, 1) := by decide +kernel
theorem dX0_spreadBlock_92 : decode cX0_spreadBlock 92 = .ok (.iconst 2, 1) := by decide +kernel
theorem dX0_spreadBlock_93 : decode cX0_spreadBlock 93 = .ok (.isub, 1) := by decide +kernel
theorem dX0_spreadBlock_94 : decode cX0_spreadBlock 94 = .ok (.iaload, 1) := by decide +kernel
theorem dX0_spreadBlock_95 : decode cX0_spreadBlock 95 = .ok (.istore 4, 2) := by decide +kernel
theorem dX0_spreadBlock_97 : decode cX0_spreadBlock 97 = .ok (.iload_n 3, 1) := by decide +kernel
theorem dX0_spreadBlock_98 : decode cX0_spreadBlock 98 = .ok (.bipush 7, 2) := by decide +kernel
theorem dX0_spreadBlock_100 : decode cX0_spreadBlock 100 = .ok (.invokestatic 56, 3) := by decide +kernel
theorem dX0_spreadBlock_103 : decode cX0_spreadBlock 103 = .ok (.iload_n 3, 1) := by decide +kernel
theorem dX0_spreadBlock_104 : decode cX0_spreadBlock 104 = .ok (.bipush 18, 2) := by decide +kernel
theorem dX0_spreadBlock_106 : decode cX0_spreadBlock 106 = .ok (.invokestatic 56, 3) := by decide +kernel
theorem dX0_spreadBlock_109 : decode cX0_spreadBlock 109 = .ok (.ixor, 1) := by decide +kernel
theorem dX0_spreadBlock_110 : decode cX0_spreadBlock 110 = .ok (.iload_n 3, 1) := by decide +kernel
theorem dX0_spreadBlock_111 : decode cX0_spreadBlock 111 = .ok (.iconst 3, 1) := by decide +kernel
theorem dX0_spreadBlock_112 : decode cX0_spreadBlock 112 = .ok (.iushr, 1) := by decide +kernel
theorem dX0_spreadBlock_113 : decode cX0_spreadBlock 113 = .ok (.ixor, 1) := by decide +kernel
theorem dX0_spreadBlock_114 : decode cX0_spreadBlock 114 = .ok (.istore 5, 2) := by decide +kernel
theorem dX0_spreadBlock_116 : decode cX0_spreadBlock 116 = .ok (.iload 4, 2) := by decide +kernel
theorem dX0_spreadBlock_118 : decode cX0_spreadBlock 118 = .ok (.bipush 17, 2) := by decide +kernel
theorem dX0_spreadBlock_120 : decode cX0_spreadBlock 120 = .ok (.invokestatic 56, 3) := by decide +kernel
theorem dX0_spreadBlock_123 : decode cX0_spreadBlock 123 = .ok (.iload 4, 2) := by decide +kernel
theorem dX0_spreadBlock_125 : decode cX0_spreadBlock 125 = .ok (.bipush 19, 2) := by decide +kernel
theorem dX0_spreadBlock_127 : decode cX0_spreadBlock 127 = .ok (.invokestatic 56, 3) := by decide +kernel
theorem dX0_spreadBlock_130 : decode cX0_spreadBlock 130 = .ok (.ixor, 1) := by decide +kernel
theorem dX0_spreadBlock_131 : decode cX0_spreadBlock 131 = .ok (.iload 4, 2) := by decide +kernel
theorem dX0_spreadBlock_133 : decode cX0_spreadBlock 133 = .ok (.bipush 10, 2) := by decide +kernel
theorem dX0_spreadBlock_135 : decode cX0_spreadBlock 135 = .ok (.iushr, 1) := by decide +kernel
theorem dX0_spreadBlock_136 : decode cX0_spreadBlock 136 = .ok (.ixor, 1) := by decide +kernel
theorem dX0_spreadBlock_137 : decode cX0_spreadBlock 137 = .ok (.istore 6, 2) := by decide +kernel
theorem dX0_spreadBlock_139 : decode cX0_spreadBlock 139 = .ok (.aload_n 0, 1) := by decide +kernel
theorem dX0_spreadBlock_140 : decode cX0_spreadBlock 140 = .ok (.getfield 19, 3) := by decide +kernel
theorem dX0_spreadBlock_143 : decode cX0_spreadBlock 143 = .ok (.iload_n 2, 1) := by decide +kernel
theorem dX0_spreadBlock_144 : decode cX0_spreadBlock 144 = .ok (.iload 6, 2) := by decide +kernel
theorem dX0_spreadBlock_146 : decode cX0_spreadBlock 146 = .ok (.aload_n 0, 1) := by decide +kernel
theorem dX0_spreadBlock_147 : decode cX0_spreadBlock 147 = .ok (.getfield 19, 3) := by decide +kernel
theorem dX0_spreadBlock_150 : decode cX0_spreadBlock 150 = .ok (.iload_n 2, 1) := by decide +kernel
theorem dX0_spreadBlock_151 : decode cX0_spreadBlock 151 = .ok (.bipush 7, 2) := by decide +kernel
theorem dX0_spreadBlock_153 : decode cX0_spreadBlock 153 = .ok (.isub, 1) := by decide +kernel
theorem dX0_spreadBlock_154 : decode cX0_spreadBlock 154 = .ok (.iaload, 1) := by decide +kernel
theorem dX0_spreadBlock_155 : decode cX0_spreadBlock 155 = .ok (.iadd, 1) := by decide +kernel
theorem dX0_spreadBlock_156 : decode cX0_spreadBlock 156 = .ok (.iload 5, 2) := by decide +kernel
theorem dX0_spreadBlock_158 : decode cX0_spreadBlock 158 = .ok (.iadd, 1) := by decide +kernel
theorem dX0_spreadBlock_159 : decode cX0_spreadBlock 159 = .ok (.aload_n 0, 1) := by decide +kernel
theorem dX0_spreadBlock_160 : decode cX0_spreadBlock 160 = .ok (.getfield 19, 3) := by decide +kernel
theorem dX0_spreadBlock_163 : decode cX0_spreadBlock 163 = .ok (.iload_n 2, 1) := by decide +kernel
theorem dX0_spreadBlock_164 : decode cX0_spreadBlock 164 = .ok (.bipush 16, 2) := by decide +kernel
theorem dX0_spreadBlock_166 : decode cX0_spreadBlock 166 = .ok (.isub, 1) := by decide +kernel
theorem dX0_spreadBlock_167 : decode cX0_spreadBlock 167 = .ok (.iaload, 1) := by decide +kernel
theorem dX0_spreadBlock_168 : decode cX0_spreadBlock 168 = .ok (.iadd, 1) := by decide +kernel
theorem dX0_spreadBlock_169 : decode cX0_spreadBlock 169 = .ok (.iastore, 1) := by decide +kernel
theorem dX0_spreadBlock_170 : decode cX0_spreadBlock 170 = .ok (.iinc 2 1, 3) := by decide +kernel
theorem dX0_spreadBlock_173 : decode cX0_spreadBlock 173 = .ok (.goto (-102), 3) := by decide +kernel
theorem dX0_spreadBlock_176 : decode cX0_spreadBlock 176 = .ok (.return_, 1) := by decide +kernel
theorem dX0_stirState_0 : decode cX0_stirState 0 = .ok (.aload_n 0, 1) := by decide +kernel
theorem dX0_stirState_1 : decode cX0_stirState 1 = .ok (.getfield 22, 3) := by decide +kernel
theorem dX0_stirState_4 : decode cX0_stirState 4 = .ok (.iconst 0, 1) := by decide +kernel
theorem dX0_stirState_5 : decode cX0_stirState 5 = .ok (.iaload, 1) := by decide +kernel
theorem dX0_stirState_6 : decode cX0_stirState 6 = .ok (.istore_n 1, 1) := by decide +kernel
theorem dX0_stirState_7 : decode cX0_stirState 7 = .ok (.aload_n 0, 1) := by decide +kernel
theorem dX0_stirState_8 : decode cX0_stirState 8 = .ok (.getfield 22, 3) := by decide +kernel
theorem dX0_stirState_11 : decode cX0_stirState 11 = .ok (.iconst 1, 1) := by decide +kernel
theorem dX0_stirState_12 : decode cX0_stirState 12 = .ok (.iaload, 1) := by decide +kernel
theorem dX0_stirState_13 : decode cX0_stirState 13 = .ok (.istore_n 2, 1) := by decide +kernel
theorem dX0_stirState_14 : decode cX0_stirState 14 = .ok (.aload_n 0, 1) := by decide +kernel
theorem dX0_stirState_15 : decode cX0_stirState 15 = .ok (.getfield 22, 3) := by decide +kernel
theorem dX0_stirState_18 : decode cX0_stirState 18 = .ok (.iconst 2, 1) := by decide +kernel
theorem dX0_stirState_19 : decode cX0_stirState 19 = .ok (.iaload, 1) := by decide +kernel
theorem dX0_stirState_20 : decode cX0_stirState 20 = .ok (.istore_n 3, 1) := by decide +kernel
theorem dX0_stirState_21 : decode cX0_stirState 21 = .ok (.aload_n 0, 1) := by decide +kernel
theorem dX0_stirState_22 : decode cX0_stirState 22 = .ok (.getfield 22, 3) := by decide +kernel
theorem dX0_stirState_25 : decode cX0_stirState 25 = .ok (.iconst 3, 1) := by decide +kernel
theorem dX0_stirState_26 : decode cX0_stirState 26 = .ok (.iaload, 1) := by decide +kernel
theorem dX0_stirState_27 : decode cX0_stirState 27 = .ok (.istore 4, 2) := by decide +kernel
theorem dX0_stirState_29 : decode cX0_stirState 29 = .ok (.aload_n 0, 1) := by decide +kernel
theorem dX0_stirState_30 : decode cX0_stirState 30 = .ok (.getfield 22, 3) := by decide +kernel
theorem dX0_stirState_33 : decode cX0_stirState 33 = .ok (.iconst 4, 1) := by decide +kernel
theorem dX0_stirState_34 : decode cX0_stirState 34 = .ok (.iaload, 1) := by decide +kernel
theorem dX0_stirState_35 : decode cX0_stirState 35 = .ok (.istore 5, 2) := by decide +kernel
theorem dX0_stirState_37 : decode cX0_stirState 37 = .ok (.aload_n 0, 1) := by decide +kernel
theorem dX0_stirState_38 : decode cX0_stirState 38 = .ok (.getfield 22, 3) := by decide +kernel
theorem dX0_stirState_41 : decode cX0_stirState 41 = .ok (.iconst 5, 1) := by decide +kernel
theorem dX0_stirState_42 : decode cX0_stirState 42 = .ok (.iaload, 1) := by decide +kernel
theorem dX0_stirState_43 : decode cX0_stirState 43 = .ok (.istore 6, 2) := by decide +kernel
theorem dX0_stirState_45 : decode cX0_stirState 45 = .ok (.aload_n 0, 1) := by decide +kernel
theorem dX0_stirState_46 : decode cX0_stirState 46 = .ok (.getfield 22, 3) := by decide +kernel
theorem dX0_stirState_49 : decode cX0_stirState 49 = .ok (.bipush 6, 2) := by decide +kernel
theorem dX0_stirState_51 : decode cX0_stirState 51 = .ok (.iaload, 1) := by decide +kernel
theorem dX0_stirState_52 : decode cX0_stirState 52 = .ok (.istore 7, 2) := by decide +kernel
theorem dX0_stirState_54 : decode cX0_stirState 54 = .ok (.aload_n 0, 1) := by decide +kernel
theorem dX0_stirState_55 : decode cX0_stirState 55 = .ok (.getfield 22, 3) := by decide +kernel
theorem dX0_stirState_58 : decode cX0_stirState 58 = .ok (.bipush 7, 2) := by decide +kernel
theorem dX0_stirState_60 : decode cX0_stirState 60 = .ok (.iaload, 1) := by decide +kernel
theorem dX0_stirState_61 : decode cX0_stirState 61 = .ok (.istore 8, 2) := by decide +kernel
theorem dX0_stirState_63 : decode cX0_stirState 63 = .ok (.iconst 0, 1) := by decide +kernel
theorem dX0_stirState_64 : decode cX0_stirState 64 = .ok (.istore 9, 2) := by decide +kernel
theorem dX0_stirState_66 : decode cX0_stirState 66 = .ok (.iload 9, 2) := by decide +kernel
theorem dX0_stirState_68 : decode cX0_stirState 68 = .ok (.bipush 64, 2) := by decide +kernel
theorem dX0_stirState_70 : decode cX0_stirState 70 = .ok (.if_icmp .ge 143, 3) := by decide +kernel
theorem dX0_stirState_73 : decode cX0_stirState 73 = .ok (.iload 5, 2) := by decide +kernel
theorem dX0_stirState_75 : decode cX0_stirState 75 = .ok (.bipush 6, 2) := by decide +kernel
theorem dX0_stirState_77 : decode cX0_stirState 77 = .ok (.invokestatic 56, 3) := by decide +kernel
theorem dX0_stirState_80 : decode cX0_stirState 80 = .ok (.iload 5, 2) := by decide +kernel
theorem dX0_stirState_82 : decode cX0_stirState 82 = .ok (.bipush 11, 2) := by decide +kernel
theorem dX0_stirState_84 : decode cX0_stirState 84 = .ok (.invokestatic 56, 3) := by decide +kernel
theorem dX0_stirState_87 : decode cX0_stirState 87 = .ok (.ixor, 1) := by decide +kernel
theorem dX0_stirState_88 : decode cX0_stirState 88 = .ok (.iload 5, 2) := by decide +kernel
theorem dX0_stirState_90 : decode cX0_stirState 90 = .ok (.bipush 25, 2) := by decide +kernel
theorem dX0_stirState_92 : decode cX0_stirState 92 = .ok (.invokestatic 56, 3) := by decide +kernel
theorem dX0_stirState_95 : decode cX0_stirState 95 = .ok (.ixor, 1) := by decide +kernel
theorem dX0_stirState_96 : decode cX0_stirState 96 = .ok (.istore 10, 2) := by decide +kernel
theorem dX0_stirState_98 : decode cX0_stirState 98 = .ok (.iload 5, 2) := by decide +kernel
theorem dX0_stirState_100 : decode cX0_stirState 100 = .ok (.iload 6, 2) := by decide +kernel
theorem dX0_stirState_102 : decode cX0_stirState 102 = .ok (.iand, 1) := by decide +kernel
theorem dX0_stirState_103 : decode cX0_stirState 103 = .ok (.iload 5, 2) := by decide +kernel
theorem dX0_stirState_105 : decode cX0_stirState 105 = .ok (.iconst (-1), 1) := by decide +kernel
theorem dX0_stirState_106 : decode cX0_stirState 106 = .ok (.ixor, 1) := by decide +kernel
theorem dX0_stirState_107 : decode cX0_stirState 107 = .ok (.iload 7, 2) := by decide +kernel
theorem dX0_stirState_109 : decode cX0_stirState 109 = .ok (.iand, 1) := by decide +kernel
theorem dX0_stirState_110 : decode cX0_stirState 110 = .ok (.ixor, 1) := by decide +kernel
theorem dX0_stirState_111 : decode cX0_stirState 111 = .ok (.istore 11, 2) := by decide +kernel
theorem dX0_stirState_113 : decode cX0_stirState 113 = .ok (.iload 8, 2) := by decide +kernel
theorem dX0_stirState_115 : decode cX0_stirState 115 = .ok (.iload 10, 2) := by decide +kernel
theorem dX0_stirState_117 : decode cX0_stirState 117 = .ok (.iadd, 1) := by decide +kernel
theorem dX0_stirState_118 : decode cX0_stirState 118 = .ok (.iload 11, 2) := by decide +kernel
theorem dX0_stirState_120 : decode cX0_stirState 120 = .ok (.iadd, 1) := by decide +kernel
theorem dX0_stirState_121 : decode cX0_stirState 121 = .ok (.getstatic 61, 3) := by decide +kernel
theorem dX0_stirState_124 : decode cX0_stirState 124 = .ok (.iload 9, 2) := by decide +kernel
theorem dX0_stirState_126 : decode cX0_stirState 126 = .ok (.iaload, 1) := by decide +kernel
theorem dX0_stirState_127 : decode cX0_stirState 127 = .ok (.iadd, 1) := by decide +kernel
theorem dX0_stirState_128 : decode cX0_stirState 128 = .ok (.aload_n 0, 1) := by decide +kernel
theorem dX0_stirState_129 : decode cX0_stirState 129 = .ok (.getfield 19, 3) := by decide +kernel
theorem dX0_stirState_132 : decode cX0_stirState 132 = .ok (.iload 9, 2) := by decide +kernel
theorem dX0_stirState_134 : decode cX0_stirState 134 = .ok (.iaload, 1) := by decide +kernel
theorem dX0_stirState_135 : decode cX0_stirState 135 = .ok (.iadd, 1) := by decide +kernel
theorem dX0_stirState_136 : decode cX0_stirState 136 = .ok (.istore 12, 2) := by decide +kernel
theorem dX0_stirState_138 : decode cX0_stirState 138 = .ok (.iload_n 1, 1) := by decide +kernel
theorem dX0_stirState_139 : decode cX0_stirState 139 = .ok (.iconst 2, 1) := by decide +kernel
theorem dX0_stirState_140 : decode cX0_stirState 140 = .ok (.invokestatic 56, 3) := by decide +kernel
theorem dX0_stirState_143 : decode cX0_stirState 143 = .ok (.iload_n 1, 1) := by decide +kernel
theorem dX0_stirState_144 : decode cX0_stirState 144 = .ok (.bipush 13, 2) := by decide +kernel
theorem dX0_stirState_146 : decode cX0_stirState 146 = .ok (.invokestatic 56, 3) := by decide +kernel
theorem dX0_stirState_149 : decode cX0_stirState 149 = .ok (.ixor, 1) := by decide +kernel
theorem dX0_stirState_150 : decode cX0_stirState 150 = .ok (.iload_n 1, 1) := by decide +kernel
theorem dX0_stirState_151 : decode cX0_stirState 151 = .ok (.bipush 22, 2) := by decide +kernel
theorem dX0_stirState_153 : decode cX0_stirState 153 = .ok (.invokestatic 56, 3) := by decide +kernel
theorem dX0_stirState_156 : decode cX0_stirState 156 = .ok (.ixor, 1) := by decide +kernel
theorem dX0_stirState_157 : decode cX0_stirState 157 = .ok (.istore 13, 2) := by decide +kernel
theorem dX0_stirState_159 : decode cX0_stirState 159 = .ok (.iload_n 1, 1) := by decide +kernel
theorem dX0_stirState_160 : decode cX0_stirState 160 = .ok (.iload_n 2, 1) := by decide +kernel
theorem dX0_stirState_161 : decode cX0_stirState 161 = .ok (.iand, 1) := by decide +kernel
theorem dX0_stirState_162 : decode cX0_stirState 162 = .ok (.iload_n 1, 1) := by decide +kernel
theorem dX0_stirState_163 : decode cX0_stirState 163 = .ok (.iload_n 3, 1) := by decide +kernel
theorem dX0_stirState_164 : decode cX0_stirState 164 = .ok (.iand, 1) := by decide +kernel
theorem dX0_stirState_165 : decode cX0_stirState 165 = .ok (.ixor, 1) := by decide +kernel
theorem dX0_stirState_166 : decode cX0_stirState 166 = .ok (.iload_n 2, 1) := by decide +kernel
theorem dX0_stirState_167 : decode cX0_stirState 167 = .ok (.iload_n 3, 1) := by decide +kernel
theorem dX0_stirState_168 : decode cX0_stirState 168 = .ok (.iand, 1) := by decide +kernel
theorem dX0_stirState_169 : decode cX0_stirState 169 = .ok (.ixor, 1) := by decide +kernel
theorem dX0_stirState_170 : decode cX0_stirState 170 = .ok (.istore 14, 2) := by decide +kernel
theorem dX0_stirState_172 : decode cX0_stirState 172 = .ok (.iload 7, 2) := by decide +kernel
theorem dX0_stirState_174 : decode cX0_stirState 174 = .ok (.istore 8, 2) := by decide +kernel
theorem dX0_stirState_176 : decode cX0_stirState 176 = .ok (.iload 6, 2) := by decide +kernel
theorem dX0_stirState_178 : decode cX0_stirState 178 = .ok (.istore 7, 2) := by decide +kernel
theorem dX0_stirState_180 : decode cX0_stirState 180 = .ok (.iload 5, 2) := by decide +kernel
theorem dX0_stirState_182 : decode cX0_stirState 182 = .ok (.istore 6, 2) := by decide +kernel
theorem dX0_stirState_184 : decode cX0_stirState 184 = .ok (.iload 4, 2) := by decide +kernel
theorem dX0_stirState_186 : decode cX0_stirState 186 = .ok (.iload 12, 2) := by decide +kernel
theorem dX0_stirState_188 : decode cX0_stirState 188 = .ok (.iadd, 1) := by decide +kernel
theorem dX0_stirState_189 : decode cX0_stirState 189 = .ok (.istore 5, 2) := by decide +kernel
theorem dX0_stirState_191 : decode cX0_stirState 191 = .ok (.iload_n 3, 1) := by decide +kernel
theorem dX0_stirState_192 : decode cX0_stirState 192 = .ok (.istore 4, 2) := by decide +kernel
theorem dX0_stirState_194 : decode cX0_stirState 194 = .ok (.iload_n 2, 1) := by decide +kernel
theorem dX0_stirState_195 : decode cX0_stirState 195 = .ok (.istore_n 3, 1) := by decide +kernel
theorem dX0_stirState_196 : decode cX0_stirState 196 = .ok (.iload_n 1, 1) := by decide +kernel
theorem dX0_stirState_197 : decode cX0_stirState 197 = .ok (.istore_n 2, 1) := by decide +kernel
theorem dX0_stirState_198 : decode cX0_stirState 198 = .ok (.iload 12, 2) := by decide +kernel
theorem dX0_stirState_200 : decode cX0_stirState 200 = .ok (.iload 13, 2) := by decide +kernel
theorem dX0_stirState_202 : decode cX0_stirState 202 = .ok (.iadd, 1) := by decide +kernel
theorem dX0_stirState_203 : decode cX0_stirState 203 = .ok (.iload 14, 2) := by decide +kernel
theorem dX0_stirState_205 : decode cX0_stirState 205 = .ok (.iadd, 1) := by decide +kernel
theorem dX0_stirState_206 : decode cX0_stirState 206 = .ok (.istore_n 1, 1) := by decide +kernel
theorem dX0_stirState_207 : decode cX0_stirState 207 = .ok (.iinc 9 1, 3) := by decide +kernel
theorem dX0_stirState_210 : decode cX0_stirState 210 = .ok (.goto (-144), 3) := by decide +kernel
theorem dX0_stirState_213 : decode cX0_stirState 213 = .ok (.aload_n 0, 1) := by decide +kernel
theorem dX0_stirState_214 : decode cX0_stirState 214 = .ok (.getfield 22, 3) := by decide +kernel
theorem dX0_stirState_217 : decode cX0_stirState 217 = .ok (.iconst 0, 1) := by decide +kernel
theorem dX0_stirState_218 : decode cX0_stirState 218 = .ok (.dup2, 1) := by decide +kernel
theorem dX0_stirState_219 : decode cX0_stirState 219 = .ok (.iaload, 1) := by decide +kernel
theorem dX0_stirState_220 : decode cX0_stirState 220 = .ok (.iload_n 1, 1) := by decide +kernel
theorem dX0_stirState_221 : decode cX0_stirState 221 = .ok (.iadd, 1) := by decide +kernel
theorem dX0_stirState_222 : decode cX0_stirState 222 = .ok (.iastore, 1) := by decide +kernel
theorem dX0_stirState_223 : decode cX0_stirState 223 = .ok (.aload_n 0, 1) := by decide +kernel
theorem dX0_stirState_224 : decode cX0_stirState 224 = .ok (.getfield 22, 3) := by decide +kernel
theorem dX0_stirState_227 : decode cX0_stirState 227 = .ok (.iconst 1, 1) := by decide +kernel
theorem dX0_stirState_228 : decode cX0_stirState 228 = .ok (.dup2, 1) := by decide +kernel
theorem dX0_stirState_229 : decode cX0_stirState 229 = .ok (.iaload, 1) := by decide +kernel
theorem dX0_stirState_230 : decode cX0_stirState 230 = .ok (.iload_n 2, 1) := by decide +kernel
theorem dX0_stirState_231 : decode cX0_stirState 231 = .ok (.iadd, 1) := by decide +kernel
theorem dX0_stirState_232 : decode cX0_stirState 232 = .ok (.iastore, 1) := by decide +kernel
theorem dX0_stirState_233 : decode cX0_stirState 233 = .ok (.aload_n 0, 1) := by decide +kernel
theorem dX0_stirState_234 : decode cX0_stirState 234 = .ok (.getfield 22, 3) := by decide +kernel
theorem dX0_stirState_237 : decode cX0_stirState 237 = .ok (.iconst 2, 1) := by decide +kernel
theorem dX0_stirState_238 : decode cX0_stirState 238 = .ok (.dup2, 1) := by decide +kernel
theorem dX0_stirState_239 : decode cX0_stirState 239 = .ok (.iaload, 1) := by decide +kernel
theorem dX0_stirState_240 : decode cX0_stirState 240 = .ok (.iload_n 3, 1) := by decide +kernel
theorem dX0_stirState_241 : decode cX0_stirState 241 = .ok (.iadd, 1) := by decide +kernel
theorem dX0_stirState_242 : decode cX0_stirState 242 = .ok (.iastore, 1) := by decide +kernel
theorem dX0_stirState_243 : decode cX0_stirState 243 = .ok (.aload_n 0, 1) := by decide +kernel
theorem dX0_stirState_244 : decode cX0_stirState 244 = .ok (.getfield 22, 3) := by decide +kernel
theorem dX0_stirState_247 : decode cX0_stirState 247 = .ok (.iconst 3, 1) := by decide +kernel
theorem dX0_stirState_248 : decode cX0_stirState 248 = .ok (.dup2, 1) := by decide +kernel
theorem dX0_stirState_249 : decode cX0_stirState 249 = .ok (.iaload, 1) := by decide +kernel
theorem dX0_stirState_250 : decode cX0_stirState 250 = .ok (.iload 4, 2) := by decide +kernel
theorem dX0_stirState_252 : decode cX0_stirState 252 = .ok (.iadd, 1) := by decide +kernel
theorem dX0_stirState_253 : decode cX0_stirState 253 = .ok (.iastore, 1) := by decide +kernel
theorem dX0_stirState_254 : decode cX0_stirState 254 = .ok (.aload_n 0, 1) := by decide +kernel
theorem dX0_stirState_255 : decode cX0_stirState 255 = .ok (.getfield 22, 3) := by decide +kernel
theorem dX0_stirState_258 : decode cX0_stirState 258 = .ok (.iconst 4, 1) := by decide +kernel
theorem dX0_stirState_259 : decode cX0_stirState 259 = .ok (.dup2, 1) := by decide +kernel
theorem dX0_stirState_260 : decode cX0_stirState 260 = .ok (.iaload, 1) := by decide +kernel
theorem dX0_stirState_261 : decode cX0_stirState 261 = .ok (.iload 5, 2) := by decide +kernel
theorem dX0_stirState_263 : decode cX0_stirState 263 = .ok (.iadd, 1) := by decide +kernel
theorem dX0_stirState_264 : decode cX0_stirState 264 = .ok (.iastore, 1) := by decide +kernel
theorem dX0_stirState_265 : decode cX0_stirState 265 = .ok (.aload_n 0, 1) := by decide +kernel
theorem dX0_stirState_266 : decode cX0_stirState 266 = .ok (.getfield 22, 3) := by decide +kernel
theorem dX0_stirState_269 : decode cX0_stirState 269 = .ok (.iconst 5, 1) := by decide +kernel
theorem dX0_stirState_270 : decode cX0_stirState 270 = .ok (.dup2, 1) := by decide +kernel
theorem dX0_stirState_271 : decode cX0_stirState 271 = .ok (.iaload, 1) := by decide +kernel
theorem dX0_stirState_272 : decode cX0_stirState 272 = .ok (.iload 6, 2) := by decide +kernel
theorem dX0_stirState_274 : decode cX0_stirState 274 = .ok (.iadd, 1) := by decide +kernel
theorem dX0_stirState_275 : decode cX0_stirState 275 = .ok (.iastore, 1) := by decide +kernel
theorem dX0_stirState_276 : decode cX0_stirState 276 = .ok (.aload_n 0, 1) := by decide +kernel
theorem dX0_stirState_277 : decode cX0_stirState 277 = .ok (.getfield 22, 3) := by decide +kernel
theorem dX0_stirState_280 : decode cX0_stirState 280 = .ok (.bipush 6, 2) := by decide +kernel
theorem dX0_stirState_282 : decode cX0_stirState 282 = .ok (.dup2, 1) := by decide +kernel
theorem dX0_stirState_283 : decode cX0_stirState 283 = .ok (.iaload, 1) := by decide +kernel
theorem dX0_stirState_284 : decode cX0_stirState 284 = .ok (.iload 7, 2) := by decide +kernel
theorem dX0_stirState_286 : decode cX0_stirState 286 = .ok (.iadd, 1) := by decide +kernel
theorem dX0_stirState_287 : decode cX0_stirState 287 = .ok (.iastore, 1) := by decide +kernel
theorem dX0_stirState_288 : decode cX0_stirState 288 = .ok (.aload_n 0, 1) := by decide +kernel
theorem dX0_stirState_289 : decode cX0_stirState 289 = .ok (.getfield 22, 3) := by decide +kernel
theorem dX0_stirState_292 : decode cX0_stirState 292 = .ok (.bipush 7, 2) := by decide +kernel
theorem dX0_stirState_294 : decode cX0_stirState 294 = .ok (.dup2, 1) := by decide +kernel
theorem dX0_stirState_295 : decode cX0_stirState 295 = .ok (.iaload, 1) := by decide +kernel
theorem dX0_stirState_296 : decode cX0_stirState 296 = .ok (.iload 8, 2) := by decide +kernel
theorem dX0_stirState_298 : decode cX0_stirState 298 = .ok (.iadd, 1) := by decide +kernel
theorem dX0_stirState_299 : decode cX0_stirState 299 = .ok (.iastore, 1) := by decide +kernel
theorem dX0_stirState_300 : decode cX0_stirState 300 = .ok (.return_, 1) := by decide +kernel
end
section
theorem dJ9_floorMod_0 : decode cJ9_floorMod 0 = .ok (.iload_n 0, 1) := by decide +kernel
theorem dJ9_floorMod_1 : decode cJ9_floorMod 1 = .ok (.iload_n 1, 1) := by decide +kernel
theorem dJ9_floorMod_2 : decode cJ9_floorMod 2 = .ok (.irem, 1) := by decide +kernel
theorem dJ9_floorMod_3 : decode cJ9_floorMod 3 = .ok (.istore_n 2, 1) := by decide +kernel
theorem dJ9_floorMod_4 : decode cJ9_floorMod 4 = .ok (.iload_n 0, 1) := by decide +kernel
theorem dJ9_floorMod_5 : decode cJ9_floorMod 5 = .ok (.iload_n 1, 1) := by decide +kernel
theorem dJ9_floorMod_6 : decode cJ9_floorMod 6 = .ok (.ixor, 1) := by decide +kernel
theorem dJ9_floorMod_7 : decode cJ9_floorMod 7 = .ok (.ifCond .ge 11, 3) := by decide +kernel
theorem dJ9_floorMod_10 : decode cJ9_floorMod 10 = .ok (.iload_n 2, 1) := by decide +kernel
theorem dJ9_floorMod_11 : decode cJ9_floorMod 11 = .ok (.ifCond .eq 7, 3) := by decide +kernel
theorem dJ9_floorMod_14 : decode cJ9_floorMod 14 = .ok (.iload_n 2, 1) := by decide +kernel
theorem dJ9_floorMod_15 : decode cJ9_floorMod 15 = .ok (.iload_n 1, 1) := by decide +kernel
theorem dJ9_floorMod_16 : decode cJ9_floorMod 16 = .ok (.iadd, 1) := by decide +kernel
theorem dJ9_floorMod_17 : decode cJ9_floorMod 17 = .ok (.ireturn, 1) := by decide +kernel
theorem dJ9_floorMod_18 : decode cJ9_floorMod 18 = .ok (.iload_n 2, 1) := by decide +kernel
theorem dJ9_floorMod_19 : decode cJ9_floorMod 19 = .ok (.ireturn, 1) := by decide +kernel
theorem dJ6_rotateRight_0 : decode cJ6_rotateRight 0 = .ok (.iload_n 0, 1) := by decide +kernel
theorem dJ6_rotateRight_1 : decode cJ6_rotateRight 1 = .ok (.iload_n 1, 1) := by decide +kernel
theorem dJ6_rotateRight_2 : decode cJ6_rotateRight 2 = .ok (.iushr, 1) := by decide +kernel
theorem dJ6_rotateRight_3 : decode cJ6_rotateRight 3 = .ok (.iload_n 0, 1) := by decide +kernel
theorem dJ6_rotateRight_4 : decode cJ6_rotateRight 4 = .ok (.iload_n 1, 1) := by decide +kernel
theorem dJ6_rotateRight_5 : decode cJ6_rotateRight 5 = .ok (.ineg, 1) := by decide +kernel
theorem dJ6_rotateRight_6 : decode cJ6_rotateRight 6 = .ok (.ishl, 1) := by decide +kernel
theorem dJ6_rotateRight_7 : decode cJ6_rotateRight 7 = .ok (.ior, 1) := by decide +kernel
theorem dJ6_rotateRight_8 : decode cJ6_rotateRight 8 = .ok (.ireturn, 1) := by decide +kernel
end
section
/-! EXTENSION ROWS: methods that may throw (MetT), throws, catches; int arrays in one pool; rows of rows. -/
section XT0
variable {p : Program} {l : Launch} {e : Env} {R : Room} {s : State} {m : MethodId} {args : Array Value} {below : List Frame} {meth : Method} {c : Code} {H : Heap} {locs : List Loc} {cells slots : Nat} {Q Q' : State → Prop}
theorem xt_mono {g : JFrame} (h : ∀ t, Q t → Q' t) (k : W p l e R s m args below meth c H locs cells slots Q g) : W p l e R s m args below meth c H locs cells slots Q' g := by
  intro T hT X
  obtain ⟨t, a, b⟩ := k T hT X
  exact ⟨t, a, h t b⟩
end XT0
/-- what a method leaves: the tables warmer, nothing moved but the slots L and at most k new cells of n slots -/
def xt_F (s t : State) (L : List Loc) (k n : Nat) : Prop := s.WarmedH t.vm ∧ s.sameButNew ({ t with vm := s.vm } : State) L k n
/-- a method's contract, where it may also throw -/
def MetT (l : Launch) (y : MethodName) (ws : List Cond) (rm : Room) (Pc : Array Value → State → Prop) (Qc : Array Value → State → Outcome → State → Prop) (mc ms : Nat) (free : Addr → Prop) : Prop :=
  MetFree l y (headSpec ws rm) Pc (fun _ _ _ _ _ => True) (fun a st o t => Qc a st o t ∧ ∃ L, xt_F st t L mc ms ∧ ∀ q ∈ L, free q.base)
def MQT (below : List Frame) (Qc : Array Value → State → Outcome → State → Prop) (a : Array Value) (s : State) (mc ms : Nat) (free : Addr → Prop) : State → Prop := fun t =>
  ∃ o, t.status = .running ∧ Ended t below o ∧ Qc a s o t ∧ ∃ L, xt_F s t L mc ms ∧ ∀ q ∈ L, free q.base
theorem MQT.of {below : List Frame} {Qc : Array Value → State → Outcome → State → Prop} {a : Array Value} {s : State} {mc ms : Nat} {free : Addr → Prop} (t : State) (h : MQ below Qc a s mc ms free t) : MQT below Qc a s mc ms free t := by
  obtain ⟨o, h1, h2, h3, L, h4, h5⟩ := h
  exact ⟨o, h1, h2, h3, L, ⟨h4.2.1, h4.2.2⟩, h5⟩
theorem MetT.ofW {l : Launch} {y : MethodName} {ws ws' : List Cond} {rm : Room} {Pc : Array Value → State → Prop} {Qc : Array Value → State → Outcome → State → Prop} {mc ms : Nat} {free : Addr → Prop} {cc : ByteArray} {maxL : Nat} {ret : Option FieldType}
    (hy : plainName y.cls = true) (hw : ws = Cond.code y cc maxL ret :: ws')
    (body : ∀ p e s m args below meth c s₁, BodyLoose p l y (headSpec ws rm) cc maxL ret e s m args below meth c s₁ → c.maxLocals = maxL → Pc args s →
      W p l e (headSpec ws rm).room s m args below meth c s.heap [] 0 0 (MQT below Qc args s mc ms free) (entryFrame m args maxL)) : MetT l y ws rm Pc Qc mc ms free := by
  refine MetFree.of_bodyS (code := cc) (maxLocals := maxL) (ret := ret) hy ?_ ?_
  · intro args s m h hn
    obtain ⟨meth, c, h1, h2, h3, h4, h5, h6, -, -⟩ := Cond.code_spec hn (atoms_spec (ws := ws) h _ (by rw [hw]; exact List.mem_cons_self))
    exact ⟨meth, c, h1, h2, h3, h4, h5, h6⟩
  · intro p e s m args below meth c s₁ B hml hP _
    have hh0 : s₁.heap = s.heap := by rw [B.state]; rfl
    obtain ⟨t, a1, o, b1, b2, b3⟩ := body p e s m args below meth c s₁ B hml hP s₁ hh0 (Stand.of_body B)
    exact ⟨t, o, a1, b1, b2, ⟨b3.1, b3.2⟩⟩
section XT1
variable {p : Program} {l : Launch} {e : Env} {R : Room} {s : State} {m : MethodId} {args : Array Value} {below : List Frame} {meth : Method} {c : Code} {T : State} {locs : List Loc} {cells slots : Nat}
theorem xt_heapTop (U : State) (g : JFrame) : (U.setTop g).heap = U.heap := by
  simp [State.setTop, State.setFrames, State.modifyTopJava]
theorem xt_vmTop (U : State) (g : JFrame) : (U.setTop g).vm = U.vm := by
  simp [State.setTop, State.setFrames, State.modifyTopJava]
/-- a call of such a method, from the invocation on: it comes back, or throws into the caller's frame -/
theorem xt_back {y : MethodName} {ws : List Cond} {rm : Room} {Pc : Array Value → State → Prop} {Qc : Array Value → State → Outcome → State → Prop} {mc ms maxL W0 len : Nat} {free : Addr → Prop} {bytes : ByteArray} {ret : Option FieldType}
    (hM : MetT l y ws rm Pc Qc mc ms free) (hbl : FrameBlind Pc) (hrc : rm.cells = mc) (hrs : rm.slots = ms) (hframes : rm.frames + 1 ≤ R.frames) (hlocals : W0 + (maxL + 11) + rm.locals ≤ R.locals)
    (hws : ∀ w ∈ ws, ∀ (a' : Array Value) (U : State), s.WarmedH U.vm → w.before a' U = true) (hcode : Cond.code y bytes maxL ret ∈ ws) (hini : (Cond.initialized y.cls).before args s = true)
    (X : Stand p l e R s m args below meth c T locs cells slots) {g : JFrame} {ig : Instr} {mk : MethodId} {a : Array Value} (hg : g.method = m) (hsize : g.locals.size = c.maxLocals) (hdg : decode c.code g.pc = .ok (ig, len))
    (hW : 2 * g.monitorRoom + (g.stack.map fun v => v.category).sum ≤ W0) (hn : T.methodNamed? y = some mk) (hcells : cells + mc ≤ R.cells) (hslots : slots + ms ≤ R.slots) (hp : Pc a T) :
    ∃ (o : Outcome) (st₀ t T' : State) (L : List Loc), st₀.heap = T.heap ∧ Stand p l e R s m args below meth c T' (locs ++ L) (cells + mc) (slots + ms) ∧ (∀ q ∈ L, free q.base) ∧ T'.heap = t.heap ∧ T'.vm = t.vm ∧ Qc a st₀ o t ∧
      ((∃ v, o = .returned v ∧ Steps p.tables e below (doInvoke e (T.setTop g) [] mk a).1 (T'.setTop { g with pc := g.pc + len, stack := v.toList ++ g.stack })) ∨
       (∃ x, o = .threw x ∧ Steps p.tables e below (doInvoke e (T.setTop g) [] mk a).1 ((T'.setTop g).pushFrame (.throwing x)))) := by
  have hcd := hws _ hcode a T X.warmed
  have hin : (Cond.initialized y.cls).before a T = true := word_at X.warmed (Or.inl (by first | rfl | simp [Cond.onTables, Cond.keeps, Cond.steady])) hini
  obtain ⟨methY, cY, hmY, hcY, -, hlY, -, -, -, -⟩ := Cond.code_spec hn hcd
  obtain ⟨kY, hkY, -⟩ := className_of_methodNamed hn
  have hinitY : kY.init = .initialized := Cond.initialized_spec (findClass_of_methodNamed hn) hkY hin
  have h : At T g.method c below := by rw [hg]; exact X.here
  have happ : (headSpec ws rm).appliesLoose y e.platform (T.calling g mk a) = true :=
    Spec.appliesLoose_calling (g := g) h hdg hn hkY hinitY
      (X.room_calling (g := g) (R' := rm) hsize hmY hcY hframes (by rw [hlY]; omega) (by rw [hrc]; exact hcells) (by rw [hrs]; exact hslots)) (atoms_intro fun w hw => hws w hw _ _ X.warmed)
  have hfr : (T.setTop g).frames = [Frame.java g] ++ below := by rw [State.frames_setTop' g h.top, X.tail]; rfl
  obtain ⟨o, t, hsteps, -, hend, hq, L, hF, hL⟩ := Steps.callFree hM p X.admits X.cas X.clock (acts := []) hfr happ (hbl _ _ _ _ hp) trivial
  rw [hfr] at hend
  have hend : Ended t (.java g :: below) o := hend
  cases o with
  | returned v =>
    obtain ⟨T', X', -, -, ht⟩ := X.outOf hg hdg hend hF.1 hF.2
    refine ⟨.returned v, T.calling g mk a, t, T', L, rfl, X', hL, ?_, ?_, hq, Or.inl ⟨v, rfl, ?_⟩⟩
    · rw [ht, xt_heapTop]
    · rw [ht, xt_vmTop]
    · rw [← ht]; exact hsteps
  | threw x =>
    obtain ⟨T', X', -, -, ht⟩ := X.outOfThrown hg hend hF.1 hF.2
    refine ⟨.threw x, T.calling g mk a, t, T', L, rfl, X', hL, ?_, ?_, hq, Or.inr ⟨x, rfl, ?_⟩⟩
    · rw [ht, Stand.throwing_heap]
    · rw [ht, Stand.throwing_vm]
    · rw [← ht]; exact hsteps
end XT1
section XT2
variable {p : Program} {l : Launch} {e : Env} {R : Room} {s : State} {m : MethodId} {args : Array Value} {below : List Frame} {meth : Method} {c : Code} {H : Heap} {locs : List Loc} {cells slots : Nat} {Q : State → Prop}
/-- a call that returns or throws -/
def xt_Run (p : Program) (l : Launch) (e : Env) (R : Room) (s : State) (m : MethodId) (args : Array Value) (below : List Frame) (meth : Method) (c : Code) (H : Heap) (locs : List Loc) (cells slots mc ms : Nat) (g : JFrame) (rest : List Value) (Qa : State → Outcome → State → Prop) (free : Addr → Prop) : Prop :=
  ∀ T : State, T.heap = H → Stand p l e R s m args below meth c T locs cells slots → ∃ (o : Outcome) (st₀ t T' : State) (L : List Loc), st₀.heap = H ∧ Stand p l e R s m args below meth c T' (locs ++ L) (cells + mc) (slots + ms) ∧ (∀ q ∈ L, free q.base) ∧ T'.heap = t.heap ∧ T'.vm = t.vm ∧ Qa st₀ o t ∧
    ((∃ v, o = .returned v ∧ Goes p e below T g T' { g with pc := g.pc + 3, stack := v.toList ++ rest }) ∨
     (∃ x, o = .threw x ∧ ∀ target, Steps p.tables e below ((T'.setTop { g with stack := rest }).pushFrame (.throwing x)) target → Steps p.tables e below (T.setTop g) target))
variable {y : MethodName} {bytes cc : ByteArray} {maxL nL mc ms n index : Nat} {ret : Option FieldType} {ws : List Cond} {rm : Room} {Pc : Array Value → State → Prop} {Qc : Array Value → State → Outcome → State → Prop} {free : Addr → Prop} {Ts : List Cond} {own C : String} {b : Addr} {As rest : List Value} {g : JFrame}
theorem xt_runV (S : CallFix p m c cc nL s args Ts own) (hM : MetT l y ws rm Pc Qc mc ms free) (cw : CallW R s args own C index y bytes maxL ret ws rm mc ms n) (hp : PreV s H C b Pc As)
    (hg : g.method = m) (hn : As.length = n) (hsize : g.locals.size = nL) (hstack : g.stack = As.reverse ++ .ref b :: rest) (hW : 2 * g.monitorRoom + (rest.map fun v => v.category).sum ≤ 8) (hdg : decode cc g.pc = .ok (.invokevirtual index, 3)) (hf : cells + mc ≤ R.cells ∧ slots + ms ≤ R.slots) :
    xt_Run p l e R s m args below meth c H locs cells slots mc ms g rest (Qc (Value.ref b :: As).toArray) free := by
  obtain ⟨⟨hrc, hrs, hfr, hlo, hws, hcw, hcode, hini, hy, hlen, hlink⟩, hinst, hsel⟩ := cw
  obtain ⟨hexec, hb, hml, hown, -⟩ := S
  obtain ⟨hbl, ⟨cellB, hcB, hobj, hcls⟩, hPc⟩ := hp
  intro T hT X
  obtain ⟨mk, methM, hnamed, hmethM, hstM, habM⟩ := Cond.instanceMethod_spec hinst
  obtain ⟨methM', cM, hmethM', -, -, -, -, -, -, hsigM⟩ := Cond.code_spec hnamed hcode
  cases hmethM.symm.trans hmethM'
  obtain ⟨c2, r2, m2, q1, q2, q3, q4, kP, hkP, hkPi⟩ := Cond.selects_spec hsel
  cases hcls.symm.trans q1
  cases (State.methodFound?_of_named hnamed hy).symm.trans q2
  cases hnamed.symm.trans q3
  have hselP : selectMethod e.platform s.vm cellB.cls mk = .method mk := by rw [Launch.admits_selectMethod X.admits]; exact q4
  obtain ⟨vm₁, X₁, hstep₁⟩ := X.invokevirtual hexec hown hlink hnamed hmethM hstM hkP hkPi hy (a := b) (cell := cellB) (by rw [hT]; exact hcB)
    (fun z h => by rw [h] at hobj; cases hobj) hselP hmethM habM hkP hkPi (g := g) hg (argsL := As) (rest := rest) (hn.trans (hlen _ hsigM)) hstack (by rw [hb]; exact hdg)
  obtain ⟨o, st₀, t, T', L, h0, X', hL, e1, e2, hq, hs⟩ := xt_back (W0 := 8) (len := 3) (bytes := bytes) (ret := ret) (g := { g with stack := rest }) (ig := .invokevirtual index) (a := (Value.ref b :: As).toArray) hM hbl hrc hrs hfr hlo hws hcw hini X₁ hg (hsize.trans hml.symm) (by rw [hb]; exact hdg) hW (X₁.named hnamed) hf.1 hf.2 (hPc (T.setVm vm₁) hT X₁.warmed)
  refine ⟨o, st₀, t, T', L, h0.trans hT, X', hL, e1, e2, hq, ?_⟩
  rcases hs with ⟨v, hv, hs⟩ | ⟨x, hx, hs⟩
  · exact Or.inl ⟨v, hv, fun target h => hstep₁ _ fun acts => by rw [doInvoke_state]; exact hs.trans h⟩
  · exact Or.inr ⟨x, hx, fun target h => hstep₁ _ fun acts => by rw [doInvoke_state]; exact hs.trans h⟩
theorem xt_runS (S : CallFix p m c cc nL s args Ts own) (hM : MetT l y ws rm Pc Qc mc ms free) (cw : CallB R s args own index y bytes maxL ret ws rm mc ms n ∧ (Cond.static y).before args s = true) (hp : PreS s H Pc As)
    (hg : g.method = m) (hn : As.length = n) (hsize : g.locals.size = nL) (hstack : g.stack = As.reverse ++ rest) (hW : 2 * g.monitorRoom + (rest.map fun v => v.category).sum ≤ 8) (hdg : decode cc g.pc = .ok (.invokestatic index, 3)) (hf : cells + mc ≤ R.cells ∧ slots + ms ≤ R.slots) :
    xt_Run p l e R s m args below meth c H locs cells slots mc ms g rest (Qc As.toArray) free := by
  obtain ⟨⟨hrc, hrs, hfr, hlo, hws, hcw, hcode, hini, hy, hlen, hlink⟩, hstat⟩ := cw
  obtain ⟨hexec, hb, hml, hown, -⟩ := S
  intro T hT X
  obtain ⟨mk, hnamed⟩ := Cond.code_named hcode
  obtain ⟨methM, cM, hmethM, -, -, -, -, -, -, hsigM⟩ := Cond.code_spec hnamed hcode
  have hstatic : methM.isStatic = true := Cond.static_spec hnamed hmethM hstat
  obtain ⟨kP, hkP, -⟩ := className_of_methodNamed hnamed
  have hinitP : kP.init = .initialized := Cond.initialized_spec (findClass_of_methodNamed hnamed) hkP hini
  obtain ⟨vm₁, X₁, hstep₁⟩ := X.invokestatic hexec hown hlink hnamed hmethM hstatic hkP hinitP hy (g := g) hg (argsL := As) (rest := rest) (hn.trans (hlen _ hsigM)) hstack (by rw [hb]; exact hdg)
  obtain ⟨o, st₀, t, T', L, h0, X', hL, e1, e2, hq, hs⟩ := xt_back (W0 := 8) (len := 3) (bytes := bytes) (ret := ret) (g := { g with stack := rest }) (ig := .invokestatic index) (a := As.toArray) hM hp.1 hrc hrs hfr hlo hws hcw hini X₁ hg (hsize.trans hml.symm) (by rw [hb]; exact hdg) hW (X₁.named hnamed) hf.1 hf.2 (hp.2 (T.setVm vm₁) hT X₁.warmed)
  refine ⟨o, st₀, t, T', L, h0.trans hT, X', hL, e1, e2, hq, ?_⟩
  rcases hs with ⟨v, hv, hs⟩ | ⟨x, hx, hs⟩
  · exact Or.inl ⟨v, hv, fun target h => hstep₁ _ fun acts => by rw [doInvoke_state]; exact hs.trans h⟩
  · exact Or.inr ⟨x, hx, fun target h => hstep₁ _ fun acts => by rw [doInvoke_state]; exact hs.trans h⟩
end XT2
end
section
/-! throwing: what a thrown exception is, the shape of a contract that may throw, its rows -/
def xt_Th (nm : String) (x : Nat) (t : State) : Prop := ∃ ce : Cell, t.heap[x]? = some ce ∧ ce.vm = .none ∧ t.vm.findClass nm = some ce.cls
def xt_K (st t : State) : Prop := st.heap.size ≤ t.heap.size ∧ ∀ q : Nat, q < st.heap.size → t.heap[q]? = st.heap[q]?
/-- it returns 'val u' with 'post u st t', or throws an exception of a class that 'thr' names, no old cell changed -/
def xt_Q {S : Type} (val : S → Option Value) (post : S → State → State → Prop) (thr : String → Prop) : Array Value → State → Outcome → State → Prop := fun _ st oc t =>
  (∃ u : S, oc = .returned (val u) ∧ post u st t) ∨ ∃ (nm : String) (x : Nat), oc = .threw x ∧ thr nm ∧ xt_Th nm x t ∧ xt_K st t
theorem xt_kept {s t : State} {k n : Nat} (h : s.sameButNew t [] k n) : s.heap.size ≤ t.heap.size ∧ ∀ q : Nat, q < s.heap.size → t.heap[q]? = s.heap[q]? := by
  obtain ⟨-, h1, -, -, -, h2⟩ := h
  refine ⟨h1, fun q hq => ?_⟩
  obtain ⟨c', e1, e2, e3, e4⟩ := h2 q s.heap[q] (Array.getElem?_eq_getElem hq)
  have es : c'.slots = s.heap[q].slots := Array.ext_getElem? (fun i => e4 i (by simp))
  have ec : c' = s.heap[q] := by
    rw [es] at e2
    exact e2
  rw [e1, ec, Array.getElem?_eq_getElem hq]
section XT3
variable {p : Program} {l : Launch} {e : Env} {R : Room} {s : State} {m : MethodId} {args : Array Value} {below : List Frame} {meth : Method} {c : Code} {H : Heap} {locs : List Loc} {cells slots : Nat} {Q : State → Prop}
variable {pc nL mc ms M N : Nat} {ls : Array Slot} {rest st0 : List Value} {a : Array Value} {free free' : Addr → Prop} {Qc : Array Value → State → Outcome → State → Prop} {cc : ByteArray}
theorem xt_none (h : c.exceptionTable.isEmpty = true) (pc : Nat) : ∀ x ∈ c.exceptionTable.toList, covers x pc = false := by
  intro x hx
  have : c.exceptionTable.toList = [] := by
    rw [Array.isEmpty_iff] at h
    rw [h]
  rw [this] at hx
  cases hx
/-- a guard called at a method's start: it comes back with nothing changed, or its exception goes on to the caller -/
theorem xt_req {S : Type} {val : S → Option Value} {post : S → State → State → Prop} {thr : String → Prop} {φ : S → Prop}
    (hr : xt_Run p l e R s m args below meth c s.heap [] cells slots mc ms (F0 m pc ls st0) rest (xt_Q val post thr a) free) (hfree : ∀ q, free q → s.heap.size ≤ q) (hno : c.exceptionTable.isEmpty = true) (hlocks : meth.locks = false)
    (hpost : ∀ u st t, post u st t → t.heap = st.heap ∧ φ u) (hM : cells + mc ≤ M) (hN : slots + ms ≤ N)
    (hq : ∀ (nm : String) (x : Nat) (t : State), thr nm → xt_Th nm x t → xt_K s t → Qc args s (.threw x) t)
    (kr : ∀ u, φ u → W p l e R s m args below meth c s.heap [] (cells + mc) (slots + ms) (MQT below Qc args s M N free') (F0 m (pc + 3) ls ((val u).toList ++ rest))) :
    W p l e R s m args below meth c s.heap [] cells slots (MQT below Qc args s M N free') (F0 m pc ls st0) := by
  intro T hT X
  obtain ⟨o, st₀, t, T', L, h0, X', hL, e1, e2, hq', hs⟩ := hr T hT X
  have X'' : Stand p l e R s m args below meth c T' [] (cells + mc) (slots + ms) := Stand.forget (locs := []) (extra := L) X' (fun y hy => hfree _ (hL y hy))
  rcases hs with ⟨v, rfl, hg⟩ | ⟨x, rfl, hg⟩
  · rcases hq' with ⟨u, hv, hp⟩ | ⟨nm, x, hx, -⟩
    · cases hv
      obtain ⟨hh, hφ⟩ := hpost u st₀ t hp
      obtain ⟨t2, a1, b1⟩ := kr u hφ T' (by rw [e1, hh, h0]) X''
      exact ⟨t2, hg t2 a1, b1⟩
    · cases hx
  · rcases hq' with ⟨u, hv, -⟩ | ⟨nm, x', hx, h1, h2, h3⟩
    · cases hv
    · cases hx
      obtain ⟨w1, w2, w3, w4, w5⟩ := X''.leaveThrown x (g := F0 m pc ls rest) rfl rfl rfl (xt_none hno _) hlocks
      have hh : (T'.setFrames (.throwing x :: below)).heap = t.heap := e1
      have hv2 : (T'.setFrames (.throwing x :: below)).vm = t.vm := e2
      refine ⟨_, hg _ w1, .threw x, w2, w3, hq nm x _ h1 ?_ ?_, [], ⟨w4, w5.mono hM hN⟩, fun q h => by cases h⟩
      · obtain ⟨ce, c1, c2, c3⟩ := h2
        exact ⟨ce, by rw [hh]; exact c1, c2, by rw [hv2]; exact c3⟩
      · refine ⟨by rw [hh, ← h0]; exact h3.1, fun q hq1 => ?_⟩
        rw [hh, h3.2 q (by rw [h0]; exact hq1), h0]
set_option maxHeartbeats 4000000 in
/-- throw new X("text"), nothing old written so far: the method ends with it -/
theorem xt_throw (hexec : p.tables.exec = Jvm.exec) (hb : c.code = cc) (hml : c.maxLocals = ls.size) (htr : e.platform.stackTraces = false) {own cls tx : String} {names : List String} {ia is ic : Nat}
    (hown : s.vm.findClass own = some m.cls) (hcls : Bundle.fit cls = true) (hnames : ∀ n ∈ names, Bundle.fit n = true) (h : ∀ w ∈ Bundle.ownAtoms own ic cls names, w.before args s = true)
    (hclink : (Cond.classLink own ia cls).before args s = true) (hini : (Cond.initialized cls).before args s = true) (hstr : (Cond.stringRef own is tx).before args s = true) (hno : c.exceptionTable.isEmpty = true) (hlocks : meth.locks = false)
    (hd0 : decode cc pc = .ok (.new ia, 3)) (hd3 : decode cc (pc + 3) = .ok (.dup, 1)) (hd4 : decode cc (pc + 3 + 1) = .ok (.ldc is, 2)) (hd6 : decode cc (pc + 3 + 1 + 2) = .ok (.invokespecial ic, 3)) (hd9 : decode cc (pc + 3 + 1 + 2 + 3) = .ok (.athrow, 1))
    (hRc : cells + 1 ≤ R.cells) (hRs : slots + 6 ≤ R.slots) (hM : cells + 1 ≤ M) (hN : slots + 6 ≤ N) (hRf : names.length + 3 < R.frames) (hRl : (rest.map fun v => v.category).sum + (13 * (names.length + 1) + 43) ≤ R.locals)
    (hq : ∀ (x : Nat) (t : State), xt_Th cls x t → xt_K s t → Qc args s (.threw x) t) :
    W p l e R s m args below meth c s.heap [] cells slots (MQT below Qc args s M N free') (F0 m pc ls rest) := by
  have hins : (Cond.instantiable cls 6).before args s = true := h _ (by simp [Bundle.ownAtoms])
  refine W.newc hexec hb hown hclink hins hini rfl hd0 hRc hRs (fun cC kC f1 f2 f3 f4 => ?_)
  refine lv_dup hexec hb hd3 rfl ?_
  obtain ⟨k, cf, i, q, -, -, -, -, -, hev⟩ := Cond.stringRef_spec (args := args) (first := s) (o := none) (idx := []) hown hstr
  intro T hT X
  have hcell : T.heap[s.heap.size]? = some (freshCell cC kC) := by rw [hT, Array.getElem?_push_size]
  obtain ⟨U, hsteps, hrun, hend, hW, hsame, ce, hce, K⟩ := X.ctorThrowS hexec htr (own := own) (cls := cls) (names := names) (ic := ic) hown hcls hnames h (fun x hx => by cases hx) f1 f2 hcell (Nat.le_refl _) (msg := .ref q) rfl
    (g := F0 m (pc + 3 + 1 + 2) ls (.ref q :: .ref s.heap.size :: .ref s.heap.size :: rest)) rfl hml.symm rfl rfl (rest := rest) rfl (by rw [hb]; exact hd6) (by rw [hb]; exact hd9) (xt_none hno _) hRf
    (by show 2 * 0 + (1 + (rest.map fun v => v.category).sum) + _ ≤ _; omega) hlocks
  have hk : xt_K s U := xt_kept (t := ({ U with vm := s.vm } : State)) hsame
  refine ⟨U, X.ldcString hexec hown hstr hev (g := F0 m (pc + 3 + 1) ls (.ref s.heap.size :: .ref s.heap.size :: rest)) rfl (by rw [hb]; exact hd4) U hsteps, .threw s.heap.size, hrun, hend, hq _ _ ?_ hk, [], ⟨hW, hsame.mono hM hN⟩, fun q h => by cases h⟩
  exact ⟨ce, hce, K.vm, by rw [hW.alike.findClass]; exact K.cls⟩
/-- the exception x is under way in this frame -/
def WT (p : Program) (l : Launch) (e : Env) (R : Room) (s : State) (m : MethodId) (args : Array Value) (below : List Frame) (meth : Method) (c : Code) (H : Heap) (locs : List Loc) (cells slots : Nat) (Q : State → Prop) (g : JFrame) (x : Nat) : Prop :=
  ∀ T : State, T.heap = H → Stand p l e R s m args below meth c T locs cells slots → ∃ t, Steps p.tables e below ((T.setTop g).pushFrame (.throwing x)) t ∧ Q t
/-- a call of a method that may throw, in a method that looks at what it threw -/
theorem xt_call {S : Type} {val : S → Option Value} {post : S → State → State → Prop} {thr : String → Prop}
    (hr : xt_Run p l e R s m args below meth c H locs cells slots mc ms (F0 m pc ls st0) rest (xt_Q val post thr a) free)
    (kr : ∀ (u : S) (st t : State) (H1 : Heap) (L : List Loc), st.heap = H → t.heap = H1 → s.vm.Alike t.vm → post u st t → (∀ q ∈ L, free q.base) → W p l e R s m args below meth c H1 (locs ++ L) (cells + mc) (slots + ms) Q (F0 m (pc + 3) ls ((val u).toList ++ rest)))
    (kt : ∀ (nm : String) (x : Nat) (t : State) (H1 : Heap) (L : List Loc), t.heap = H1 → s.vm.Alike t.vm → thr nm → xt_Th nm x t → H.size ≤ H1.size → (∀ q : Nat, q < H.size → H1[q]? = H[q]?) → (∀ q ∈ L, free q.base) → WT p l e R s m args below meth c H1 (locs ++ L) (cells + mc) (slots + ms) Q (F0 m pc ls rest) x) :
    W p l e R s m args below meth c H locs cells slots Q (F0 m pc ls st0) := by
  intro T hT X
  obtain ⟨o, st₀, t, T', L, h0, X', hL, e1, e2, hq', hs⟩ := hr T hT X
  have hal : s.vm.Alike t.vm := by rw [← e2]; exact X'.warmed.alike
  rcases hs with ⟨v, rfl, hg⟩ | ⟨x, rfl, hg⟩
  · rcases hq' with ⟨u, hv, hp⟩ | ⟨nm, x, hx, -⟩
    · cases hv
      obtain ⟨t2, a1, b1⟩ := kr u st₀ t T'.heap L h0 e1.symm hal hp hL T' rfl X'
      exact ⟨t2, hg t2 a1, b1⟩
    · cases hx
  · rcases hq' with ⟨u, hv, -⟩ | ⟨nm, x', hx, h1, h2, h3⟩
    · cases hv
    · cases hx
      obtain ⟨t2, a1, b1⟩ := kt nm x t T'.heap L e1.symm hal h1 h2 (by rw [e1, ← h0]; exact h3.1) (fun q hq => by rw [e1, h3.2 q (by rw [h0]; exact hq), h0]) hL T' rfl X'
      exact ⟨t2, hg t2 a1, b1⟩
/-- the handler at pc' takes it -/
theorem xt_catch {x pc' : Nat} (hfind : ∀ T : State, T.heap = H → Stand p l e R s m args below meth c T locs cells slots → Finds e ((T.setTop (F0 m pc ls st0)).pushFrame (.throwing x)) (F0 m pc ls st0) x (.found pc'))
    (k : W p l e R s m args below meth c H locs cells slots Q (F0 m pc' ls [.ref x])) : WT p l e R s m args below meth c H locs cells slots Q (F0 m pc ls st0) x := by
  intro T hT X
  obtain ⟨t, a1, b1⟩ := k T hT X
  exact ⟨t, X.catchAt x rfl (hfind T hT X) a1, b1⟩
end XT3
end
section
/-! INT ARRAYS BY NUMBERS: array k (k < n) lies at ad k, has len k places and holds mem k -/
def mp (ad : Nat → Nat) (cI : ClassId) (len : Nat → Nat) (mem : Nat → Nat → Int32) (n : Nat) : va_W := (List.range n).map (fun k => (ad k, .inl (cI, len k, .inl (mem k))))
theorem mp_get {X : va_W} {ad : Nat → Nat} {cI : ClassId} {len : Nat → Nat} {mem : Nat → Nat → Int32} {n k : Nat} (h : k < n) : (X ++ mp ad cI len mem n)[X.length + k]? = some (ad k, .inl (cI, len k, .inl (mem k))) := by
  rw [List.getElem?_append_right (by omega), Nat.add_sub_cancel_left]
  simp [mp, h]
theorem mp_set {X : va_W} {ad : Nat → Nat} {cI : ClassId} {len : Nat → Nat} {mem : Nat → Nat → Int32} {n k : Nat} {v : Nat → Int32} (h : k < n) : (X ++ mp ad cI len mem n).set (X.length + k) (ad k, .inl (cI, len k, .inl v)) = X ++ mp ad cI len (va_up mem k v) n := by
  rw [List.set_append_right _ _ (by omega), Nat.add_sub_cancel_left]
  congr 1
  apply List.ext_getElem?
  intro j
  by_cases hj : j = k
  · subst hj
    rw [List.getElem?_set_self (by simp [mp, h])]
    simp [mp, h, va_up]
  · rw [List.getElem?_set_ne (Ne.symm hj)]
    simp only [mp, List.getElem?_map]
    cases hb : (List.range n)[j]? with
    | none => rfl
    | some b =>
      have hbj : b = j := by
        have := List.getElem?_eq_some_iff.mp hb
        obtain ⟨_, h2⟩ := this
        simpa using h2.symm
      simp [va_up, hbj, hj]
section MPW
variable {p : Program} {l : Launch} {e : Env} {R : Room} {s : State} {m : MethodId} {args : Array Value} {below : List Frame} {meth : Method} {c : Code} {H : Heap} {locs : List Loc} {cells slots : Nat} {Q : State → Prop}
variable {cc : ByteArray} {pc : Nat} {ls : Array Slot} {rest : List Value} {D : va_G} {cl : List vw_C} {A : Nat → Prop} {tys : List (ClassId × FieldType)} {ws X : va_W} {H0 : Heap}
variable {ad : Nat → Nat} {cI : ClassId} {len : Nat → Nat} {mem : Nat → Nat → Int32} {n : Nat}
theorem lv_eqi {x v : Int32} (h : x = v) (k : W p l e R s m args below meth c H locs cells slots Q (F0 m pc ls (.int v :: rest))) : W p l e R s m args below meth c H locs cells slots Q (F0 m pc ls (.int x :: rest)) := h ▸ k
theorem lv_eql {x v : Int64} (h : x = v) (k : W p l e R s m args below meth c H locs cells slots Q (F0 m pc ls (.long v :: rest))) : W p l e R s m args below meth c H locs cells slots Q (F0 m pc ls (.long x :: rest)) := h ▸ k
/-- iaload of array k at j -/
theorem m_ld (hexec : p.tables.exec = Jvm.exec) (hb : c.code = cc) (hK : va_K D cl tys s) (hP : va_P D cl (X ++ mp ad cI len mem n) H) (t0 k j : Nat) (ht : tys[t0]? = some (cI, .int)) (hk : k < n) (hj : j < len k) (hl : len k < 2 ^ 31) (hdg : decode cc pc = .ok (.iaload, 1))
    (kk : W p l e R s m args below meth c H locs cells slots Q (F0 m (pc + 1) ls (.int (mem k j) :: rest))) : W p l e R s m args below meth c H locs cells slots Q (F0 m pc ls (.int (nI j) :: .ref (ad k) :: rest)) := by
  refine va_iald hexec hb hK hP (X.length + k) t0 (mp_get hk) ht (vp_in_nI hj hl) hdg ?_
  rw [nI_clamp (Nat.lt_trans hj hl)]
  exact kk
/-- iastore into array k at j -/
theorem m_st (hexec : p.tables.exec = Jvm.exec) (hb : c.code = cc) (hK : va_K D cl tys s) (hP : va_P D cl (X ++ mp ad cI len mem n) H) (hD : va_D A (X ++ mp ad cI len mem n)) (hS : va_S A H0 H locs) (t0 k j : Nat) (ht : tys[t0]? = some (cI, .int)) (hk : k < n) (hj : j < len k) (hl : len k < 2 ^ 31) {x : Int32} (hdg : decode cc pc = .ok (.iastore, 1))
    (kk : ∀ (H1 : Heap) (locs1 : List Loc), va_P D cl (X ++ mp ad cI len (va_up mem k (upd (mem k) j x)) n) H1 → va_D A (X ++ mp ad cI len (va_up mem k (upd (mem k) j x)) n) → va_S A H0 H1 locs1 → W p l e R s m args below meth c H1 locs1 cells slots Q (F0 m (pc + 1) ls rest)) : W p l e R s m args below meth c H locs cells slots Q (F0 m pc ls (.int x :: .int (nI j) :: .ref (ad k) :: rest)) := by
  refine va_iast hexec hb hK hP hD hS (X.length + k) t0 (mp_get hk) ht (vp_in_nI hj hl) hdg (fun H1 locs1 hP1 hD1 hS1 => ?_)
  rw [nI_clamp (Nat.lt_trans hj hl), mp_set hk] at hP1 hD1
  exact kk H1 locs1 hP1 hD1 hS1
/-- System.arraycopy from array k0 to array k, both from place 0 on, w places -/
theorem m_cpy (hexec : p.tables.exec = Jvm.exec) (hb : c.code = cc) (hml : c.maxLocals = ls.size) {own : String} {index : Nat} (hown : s.vm.findClass own = some m.cls) (hlink : (Cond.methodLink own index arraycopyName).before args s = true) (hnat : (Cond.native arraycopyName).before args s = true) (hstat : (Cond.static arraycopyName).before args s = true) (hini : (Cond.initialized "java/lang/System").before args s = true)
    (hK : va_K D cl tys s) (hP : va_P D cl (X ++ mp ad cI len mem n) H) (hD : va_D A (X ++ mp ad cI len mem n)) (hS : va_S A H0 H locs) (t0 k0 k w : Nat) (ht : tys[t0]? = some (cI, .int)) (hk0 : k0 < n) (hk : k < n) (hw0 : w ≤ len k0) (hw : w ≤ len k) (hw2 : w < 2 ^ 31)
    (hframes : 1 ≤ R.frames) (hlocals : (rest.map fun v => v.category).sum + (nativeFrameWords "java/lang/System" "arraycopy" 5 + 11) ≤ R.locals) (hdg : decode cc pc = .ok (.invokestatic index, 3))
    (kk : ∀ (H1 : Heap) (locs1 : List Loc), va_P D cl (X ++ mp ad cI len (va_up mem k (va_cpy (mem k0) (mem k) 0 0 w)) n) H1 → va_D A (X ++ mp ad cI len (va_up mem k (va_cpy (mem k0) (mem k) 0 0 w)) n) → va_S A H0 H1 locs1 → W p l e R s m args below meth c H1 locs1 cells slots Q (F0 m (pc + 3) ls rest)) : W p l e R s m args below meth c H locs cells slots Q (F0 m pc ls (.int (nI w) :: .int (nI 0) :: .ref (ad k) :: .int (nI 0) :: .ref (ad k0) :: rest)) := by
  have hz : (nI 0).toNatClampNeg = 0 := nI_clamp (by decide)
  have hw1 : (nI w).toNatClampNeg = w := nI_clamp hw2
  refine va_copyi hexec hb hml hown hlink hnat hstat hini hK hP hD hS (X.length + k0) (X.length + k) t0 t0 (mp_get hk0) (mp_get hk) ht ht rfl (nI_pos (by decide)) (nI_pos (by decide)) (nI_pos hw2) (by rw [hz, hw1]; omega) (by rw [hz, hw1]; omega) (fun _ _ => rfl) hframes hlocals hdg (fun H1 locs1 hP1 hD1 hS1 => ?_)
  rw [hz, hw1, mp_set hk] at hP1 hD1
  exact kk H1 locs1 hP1 hD1 hS1
/-- aaload out of a row of rows -/
theorem m_row (hexec : p.tables.exec = Jvm.exec) (hb : c.code = cc) (hK : va_K D cl tys s) (hP : va_P D cl ws H) (q0 t0 j : Nat) {a : Nat} {cG : ClassId} {N y : Nat} {g : Nat → Option Nat} (ha : ws[q0]? = some (a, .inl (cG, N, .inr (.inr (.inr (.inr g)))))) (ht : tys[t0]? = some (cG, .array .int)) (hj : j < N) (hN : N < 2 ^ 31) (hg : g j = some y) (hdg : decode cc pc = .ok (.aaload, 1))
    (kk : W p l e R s m args below meth c H locs cells slots Q (F0 m (pc + 1) ls (.ref y :: rest))) : W p l e R s m args below meth c H locs cells slots Q (F0 m pc ls (.int (nI j) :: .ref a :: rest)) := by
  have hcj : (nI j).toNatClampNeg = j := nI_clamp (Nat.lt_trans hj hN)
  have hin : vp_in (nI j) N := vp_in_nI hj hN
  refine W.aald (v := .ref y) (ty := .array .int) hexec hb (hP q0 _ ha) ((hK.2 t0 _ ht).1 N (fun j => va_rf (g j))) rfl (fun q => by cases q) (by show ¬ (nI j < 0 ∨ (arrV _ _ _).slots.size ≤ _); rw [arrV_size]; exact hin) ?_ rfl rfl hdg kk
  show (arrV _ _ _).slots[_]? = _
  rw [hcj, arrV_read _ _ hj, hg]
  rfl
/-- System.arraycopy out of a static table -/
theorem m_cpyT (hexec : p.tables.exec = Jvm.exec) (hb : c.code = cc) (hml : c.maxLocals = ls.size) {own : String} {index : Nat} (hown : s.vm.findClass own = some m.cls) (hlink : (Cond.methodLink own index arraycopyName).before args s = true) (hnat : (Cond.native arraycopyName).before args s = true) (hstat : (Cond.static arraycopyName).before args s = true) (hini : (Cond.initialized "java/lang/System").before args s = true)
    (hK : va_K D cl tys s) (hP : va_P D cl (X ++ mp ad cI len mem n) H) (hD : va_D A (X ++ mp ad cI len mem n)) (hS : va_S A s.heap H locs) {t N : Nat} {f : Nat → Int32} (hX : va_T .int t N (fun j => .int (f j)) A s s.heap) (t0 k w : Nat) (ht : tys[t0]? = some (cI, .int)) (hk : k < n) (hw0 : w ≤ N) (hw : w ≤ len k) (hw2 : w < 2 ^ 31)
    (hframes : 1 ≤ R.frames) (hlocals : (rest.map fun v => v.category).sum + (nativeFrameWords "java/lang/System" "arraycopy" 5 + 11) ≤ R.locals) (hdg : decode cc pc = .ok (.invokestatic index, 3))
    (kk : ∀ (H1 : Heap) (locs1 : List Loc), va_P D cl (X ++ mp ad cI len (va_up mem k (va_cpy f (mem k) 0 0 w)) n) H1 → va_D A (X ++ mp ad cI len (va_up mem k (va_cpy f (mem k) 0 0 w)) n) → va_S A s.heap H1 locs1 → W p l e R s m args below meth c H1 locs1 cells slots Q (F0 m (pc + 3) ls rest)) : W p l e R s m args below meth c H locs cells slots Q (F0 m pc ls (.int (nI w) :: .int (nI 0) :: .ref (ad k) :: .int (nI 0) :: .ref t :: rest)) := by
  have hz : (nI 0).toNatClampNeg = 0 := nI_clamp (by decide)
  have hw1 : (nI w).toNatClampNeg = w := nI_clamp hw2
  have hi0 : (nI 0).toInt = 0 := nI_toInt (by decide)
  have hiw : (nI w).toInt = (w : Int) := nI_toInt hw2
  intro T hT X0
  obtain ⟨scr, hs1, ⟨hs6, k0, hk0, cm0, hkk0⟩, hs3, hs4, -, hs5, hs7⟩ := hX
  have hc0 : H[t]? = some scr := by rw [hS.2.1 t (Array.getElem?_eq_some_iff.mp hs1).1 hs7]; exact hs1
  have ha1 := mp_get (X := X) (ad := ad) (cI := cI) (len := len) (mem := mem) hk
  have hc1 : H[ad k]? = some (vp_cell cI (len k, .inl (mem k))) := hP _ _ ha1
  obtain ⟨-, k1, hk1, cm1, hkk1⟩ := (hK.2 t0 _ ht).1 (len k) (fun j => .int (mem k j))
  obtain ⟨vm', X', step⟩ := X0.arraycopy hexec hown hlink hnat hstat hini (src := t) (dst := ad k) (cs := scr) (cd := vp_cell cI (len k, .inl (mem k))) (srcPos := nI 0) (destPos := nI 0) (n := nI w) (by rw [hT]; exact hc0) (by rw [hT]; exact hc1)
    hs6 (fun _ h => by cases h) hs3 (fun h => by cases h) hk0 hk1 hkk0 hkk1 (by simp [refKind]) (nI_pos (by decide)) (nI_pos (by decide)) (nI_pos hw2)
    (by rw [hi0, hiw]; omega)
    (by rw [hi0, hiw]; show ¬ _ > ((arrV cI (len k) (fun j => .int (mem k j))).slots.size : Int); rw [arrV_size]; omega)
    (fun vm₁ _ i hi => by
      have e : scr.slots.getD ((nI 0).toNatClampNeg + i) .null = .int (f ((nI 0).toNatClampNeg + i)) := by
        rw [Array.getD_eq_getD_getElem?, hs5 _ (by omega)]
        rfl
      refine ⟨?_, ?_⟩
      · rw [e]
        rfl
      · rw [e]
        exact trivial)
    (g := F0 m pc ls (.int (nI w) :: .int (nI 0) :: .ref (ad k) :: .int (nI 0) :: .ref t :: rest)) rfl (by rw [hml]) (rest := rest) rfl (by rw [hb]; exact hdg) hframes (by show 2 * 0 + _ + _ ≤ _; omega)
  have e1 : copied scr (vp_cell cI (len k, .inl (mem k))) (nI 0) (nI 0) (nI w) = vp_cell cI (len k, .inl (va_cpy f (mem k) (nI 0).toNatClampNeg (nI 0).toNatClampNeg (nI w).toNatClampNeg)) := va_copiedX (fun z => .int z) scr cI f (mem k) hs5 (by omega)
  rw [e1, hz, hw1] at X' step
  have hl : ad k < H.size := (Array.getElem?_eq_some_iff.mp hc1).1
  generalize hV : va_cpy f (mem k) 0 0 w = V at X' step kk
  have hheap : ((T.setVm vm').setCell (ad k) (vp_cell cI (len k, .inl V))).heap = H.setIfInBounds (ad k) (vp_cell cI (len k, .inl V)) := by rw [← hT]; rfl
  have oq : ∀ q : Nat, q ≠ ad k → (H.setIfInBounds (ad k) (vp_cell cI (len k, .inl V)))[q]? = H[q]? := fun q hq => by simp [Array.getElem?_setIfInBounds, Ne.symm hq]
  have hP1 := hP.set (e := .inl (cI, len k, .inl V)) hD ha1 (show (H.setIfInBounds (ad k) (vp_cell cI (len k, .inl V)))[ad k]? = some (vp_cell cI (len k, .inl V)) by simp [Array.getElem?_setIfInBounds, hl]) oq
  have hD1 := hD.set (e := .inl (cI, len k, .inl V)) ha1
  rw [mp_set hk] at hP1 hD1
  obtain ⟨t9, a1, b1⟩ := kk _ _ hP1 hD1 ⟨by simp; exact hS.1, fun q g1 g2 => by
      rw [oq q (fun e => g2 (by rw [e]; exact hD.2 _ _ ha1))]
      exact hS.2.1 q g1 g2, fun q hq => by
      rcases List.mem_append.mp hq with h | h
      · exact hS.2.2 q h
      · obtain ⟨z, -, hz⟩ := List.mem_map.mp h
        rw [← hz]
        exact hD.2 _ _ ha1⟩ _ hheap X'
  exact ⟨t9, step t9 a1, b1⟩
/-- baload out of a boolean array -/
theorem m_zld (hexec : p.tables.exec = Jvm.exec) (hb : c.code = cc) (hK : va_K D cl tys s) (hP : va_P D cl ws H) (q0 t0 j : Nat) {a : Nat} {cZ : ClassId} {N : Nat} {f : Nat → Int32} (ha : ws[q0]? = some (a, .inl (cZ, N, .inl f))) (ht : tys[t0]? = some (cZ, .boolean)) (hj : j < N) (hN : N < 2 ^ 31) (hdg : decode cc pc = .ok (.baload, 1))
    (kk : W p l e R s m args below meth c H locs cells slots Q (F0 m (pc + 1) ls (.int (f j) :: rest))) : W p l e R s m args below meth c H locs cells slots Q (F0 m pc ls (.int (nI j) :: .ref a :: rest)) := by
  refine va_zald hexec hb hK hP q0 t0 ha ht (vp_in_nI hj hN) hdg ?_
  rw [nI_clamp (Nat.lt_trans hj hN)]
  exact kk
end MPW
end
section
/-! CONTRACTS OVER ONE WHOLE WORLD: a method turns the world w0 into w1 (and answers res); E: what the statics hold, which nobody writes -/
abbrev xE : Type := (Nat → Prop) → State → Heap → Prop
def okE (E : xE) : Prop := (∀ (A : Nat → Prop) (u U : State) (H : Heap), u.WarmedH U.vm → E A u H → E A U H) ∧ (∀ (A : Nat → Prop) (U : State) (H H1 : Heap), E A U H → (∀ a : Nat, a < H.size → ¬ A a → H1[a]? = H[a]?) → E A U H1) ∧ (∀ (A B : Nat → Prop) (U : State) (H : Heap), E A U H → (∀ q, B q → A q) → E B U H)
abbrev xPc (E : xE) (D : va_G) (cl : List vw_C) (tys : List (ClassId × FieldType)) (av : List Value) (w0 : va_W) (sz : Nat) : Array Value → State → Prop := va_Pc av (fun U => U.heap.size = sz ∧ va_P D cl w0 U.heap ∧ va_K D cl tys U ∧ va_D (fun _ => True) w0 ∧ E (va_A w0 sz) U U.heap)
abbrev xQv (D : va_G) (cl : List vw_C) (w1 : va_W) (A : Nat → Prop) : Array Value → State → Outcome → State → Prop := va_Qv (fun _ : Unit => True) (fun _ t => va_P D cl w1 t.heap ∧ va_D A w1) A
abbrev xQi (D : va_G) (cl : List vw_C) (w1 : va_W) (res : Int32) (A : Nat → Prop) : Array Value → State → Outcome → State → Prop := va_Qi (fun (r : Int32) (_ : Unit) => r = res) (fun _ t => va_P D cl w1 t.heap ∧ va_D A w1) A
def MV (l : Launch) (E : xE) (y : MethodName) (ws : List Cond) (rm : Room) (D : va_G) (cl : List vw_C) (tys : List (ClassId × FieldType)) (av : List Value) (w0 w1 : va_W) : Prop :=
  ∀ sz : Nat, Met l y ws rm (xPc E D cl tys av w0 sz) (xQv D cl w1 (va_A w0 sz)) 0 0 (va_A w0 sz)
def MI (l : Launch) (E : xE) (y : MethodName) (ws : List Cond) (rm : Room) (D : va_G) (cl : List vw_C) (tys : List (ClassId × FieldType)) (av : List Value) (w0 w1 : va_W) (res : Int32) : Prop :=
  ∀ sz : Nat, Met l y ws rm (xPc E D cl tys av w0 sz) (xQi D cl w1 res (va_A w0 sz)) 0 0 (va_A w0 sz)
theorem MV.ofW {l : Launch} {E : xE} {y : MethodName} {ws ws' : List Cond} {rm : Room} {D : va_G} {cl : List vw_C} {tys : List (ClassId × FieldType)} {av : List Value} {w0 w1 : va_W} {cc : ByteArray} {maxL : Nat}
    (hy : plainName y.cls = true) (hw : ws = Cond.code y cc maxL none :: ws') (hlen : (lg_sl av).length ≤ maxL)
    (body : ∀ (p : Program) (e : Env) (s : State) (m : MethodId) (below : List Frame) (meth : Method) (c : Code) (A : Nat → Prop) (ls : Array Slot), p.tables.exec = Jvm.exec → c.code = cc → meth.sig.returnType = none → (∀ w ∈ ws, w.before av.toArray s = true) → s.vm.findClass y.cls = some m.cls → meth.locks = false → c.maxLocals = maxL → (∀ q : Nat, s.heap.size ≤ q → A q) →
      va_P D cl w0 s.heap → va_K D cl tys s → va_D A w0 → E A s s.heap → lv_has ls maxL (lv_args 0 av) → W p l e rm s m av.toArray below meth c s.heap [] 0 0 (MQ below (xQv D cl w1 A) av.toArray s 0 0 A) (F0 m 0 ls [])) : MV l E y ws rm D cl tys av w0 w1 := by
  intro sz
  refine Met.ofW (cc := cc) (maxL := maxL) (ret := none) hy hw ?_
  intro p e s m args below meth c s₁ B hml hv
  obtain ⟨rfl, hsz, hP, hK, hD0, hE⟩ := hv
  subst hsz
  have hl := lv_entry av (n := maxL) hlen
  rw [lg_entry_eq]
  exact body p e s m below meth c _ _ B.exec B.bytes B.returns (atoms_spec (ws := ws) B.pre) (findClass_of_methodNamed B.named) B.notSynchronized hml (fun q h => Or.inr h) hP hK hD0.self hE hl
theorem MI.ofW {l : Launch} {E : xE} {y : MethodName} {ws ws' : List Cond} {rm : Room} {D : va_G} {cl : List vw_C} {tys : List (ClassId × FieldType)} {av : List Value} {w0 w1 : va_W} {res : Int32} {cc : ByteArray} {maxL : Nat} {ty : FieldType}
    (hy : plainFor y = true) (hw : ws = Cond.code y cc maxL (some ty) :: ws') (hlen : (lg_sl av).length ≤ maxL)
    (body : ∀ (p : Program) (e : Env) (s : State) (m : MethodId) (below : List Frame) (meth : Method) (c : Code) (A : Nat → Prop) (ls : Array Slot), p.tables.exec = Jvm.exec → c.code = cc → meth.sig.returnType = some ty → (∀ w ∈ ws, w.before av.toArray s = true) → s.vm.findClass y.cls = some m.cls → meth.locks = false → c.maxLocals = maxL → (∀ q : Nat, s.heap.size ≤ q → A q) →
      va_P D cl w0 s.heap → va_K D cl tys s → va_D A w0 → E A s s.heap → lv_has ls maxL (lv_args 0 av) → W p l e rm s m av.toArray below meth c s.heap [] 0 0 (MQ below (xQi D cl w1 res A) av.toArray s 0 0 A) (F0 m 0 ls [])) : MI l E y ws rm D cl tys av w0 w1 res := by
  intro sz
  refine va_MetF (cc := cc) (maxL := maxL) (ret := some ty) hy hw ?_
  intro p e s m args below meth c s₁ B hml hv
  obtain ⟨rfl, hsz, hP, hK, hD0, hE⟩ := hv
  subst hsz
  have hl := lv_entry av (n := maxL) hlen
  rw [lg_entry_eq]
  exact body p e s m below meth c _ _ B.exec B.bytes B.returns (atoms_spec (ws := ws) B.pre) (findClass_of_methodNamed B.named) B.notSynchronized hml (fun q h => Or.inr h) hP hK hD0.self hE hl
section MC
variable {p : Program} {l : Launch} {e : Env} {R : Room} {s : State} {m : MethodId} {args : Array Value} {below : List Frame} {meth : Method} {c : Code} {H : Heap} {locs : List Loc} {cells slots : Nat} {Q : State → Prop}
variable {cc bytes : ByteArray} {pc nL maxL n index : Nat} {ls : Array Slot} {rest st0 As : List Value} {D : va_G} {cl : List vw_C} {A : Nat → Prop} {tys : List (ClassId × FieldType)} {w0 w1 : va_W} {E : xE} {Ts ws : List Cond} {own C : String} {y : MethodName} {rm : Room} {ret : Option FieldType} {res : Int32} {b : Nat}
theorem mv_ret (hx : p.tables.exec = Jvm.exec) (hb : c.code = cc) (hr : meth.sig.returnType = none) (hlk : meth.locks = false) (hS : va_S A s.heap H locs) (hP : va_P D cl w1 H) (hD : va_D A w1) (hdg : decode cc pc = .ok (.return_, 1)) :
    W p l e R s m args below meth c H locs cells slots (MQ below (xQv D cl w1 A) args s cells slots A) (F0 m pc ls []) :=
  W.vret hx hb hr (fun t ht _ => ⟨⟨(), rfl, trivial, by rw [ht]; exact hP, hD⟩, hS.F ht⟩) hS.2.2 hdg hlk
theorem mi_ret {ty : FieldType} {v : Int32} (hx : p.tables.exec = Jvm.exec) (hb : c.code = cc) (hr : meth.sig.returnType = some ty) (hn : narrow ty (.int v) = .int v) (hlk : meth.locks = false) (hS : va_S A s.heap H locs) (hP : va_P D cl w1 H) (hD : va_D A w1) (hv : v = res) (hdg : decode cc pc = .ok (.ireturn, 1)) :
    W p l e R s m args below meth c H locs cells slots (MQ below (xQi D cl w1 res A) args s cells slots A) (F0 m pc ls [.int v]) :=
  W.zret hx hb hr hn (fun t ht _ => ⟨⟨v, (), rfl, hv, by rw [ht]; exact hP, hD⟩, hS.F ht⟩) hS.2.2 hdg hlk
theorem mc_free (hD : va_D A w0) (hS : va_S A s.heap H locs) (hA : ∀ q : Nat, s.heap.size ≤ q → A q) : ∀ q, va_A w0 H.size q → A q := by
  intro q h
  rcases h with ⟨k, x, h⟩ | h
  · exact hD.2 k (q, x) h
  · exact hA q (Nat.le_trans hS.1 h)
theorem mc_blind (hE : okE E) {sz : Nat} {av : List Value} : FrameBlind (xPc E D cl tys av w0 sz) := by
  intro a U g mk q
  obtain ⟨q0, q1, qP, qK, qD, qE⟩ := q
  exact ⟨q0, q1, qP, va_K.moved (u := U) (U := U.calling g mk a) (Vm.Alike.refl U.vm) qK, qD, hE.1 _ U (U.calling g mk a) _ (State.WarmedH.refl U) qE⟩
theorem mc_pre (hE : okE E) (hP : va_P D cl w0 H) (hD : va_D A w0) (hK : va_K D cl tys s) (hS : va_S A s.heap H locs) (hA : ∀ q : Nat, s.heap.size ≤ q → A q) (hT : E A s s.heap) (av : List Value) :
    ∀ U : State, U.heap = H → s.WarmedH U.vm → xPc E D cl tys av w0 H.size av.toArray U := by
  intro U hU hW
  refine ⟨rfl, by rw [hU], by rw [hU]; exact hP, va_K.moved hW.alike hK, hD.weaken (fun _ _ _ _ => trivial), ?_⟩
  rw [hU]
  exact hE.1 _ s U _ hW (hE.2.2 _ _ _ _ (hE.2.1 _ _ _ _ hT hS.2.1) (mc_free hD hS hA))
theorem mv_callV (S : CallFix p m c cc nL s args Ts own) (hM : MV l E y ws rm D cl tys (.ref b :: As) w0 w1) (hE : okE E) (cw : CallW R s args own C index y bytes maxL ret ws rm 0 0 n) (hrc : ∃ cellB : Cell, H[b]? = some cellB ∧ cellB.vm.isStatics = false ∧ s.vm.findClass C = some cellB.cls)
    (hP : va_P D cl w0 H) (hD : va_D A w0) (hK : va_K D cl tys s) (hS : va_S A s.heap H locs) (hA : ∀ q : Nat, s.heap.size ≤ q → A q) (hT : E A s s.heap) (hn : As.length = n) (hsz : ls.size = nL) (hst : st0 = As.reverse ++ .ref b :: rest) (hW : (rest.map fun v => v.category).sum ≤ 8) (hdg : decode cc pc = .ok (.invokevirtual index, 3)) (hf : cells ≤ R.cells ∧ slots ≤ R.slots)
    (kk : ∀ (H1 : Heap) (locs1 : List Loc), va_P D cl w1 H1 → va_D A w1 → va_S A s.heap H1 locs1 → W p l e R s m args below meth c H1 locs1 cells slots Q (F0 m (pc + 3) ls rest)) : W p l e R s m args below meth c H locs cells slots Q (F0 m pc ls st0) := by
  have hFc := mc_free (H := H) hD hS hA
  refine va_callv (va_runV (As := As) (rest := rest) S (hM H.size) cw ⟨mc_blind hE, hrc, mc_pre hE hP hD hK hS hA hT _⟩ rfl hn hsz hst (lv_room hW) hdg hf) hS (fun q _ h => hFc q h) hFc (fun u t H1 locs1 ht _ _ hB _ _ hS1 => ?_)
  obtain ⟨hP1, hD1⟩ := hB
  rw [ht] at hP1
  exact kk H1 locs1 hP1 (hD1.weaken (fun k q _ h => hFc q.1 h)) hS1
theorem mi_callV (S : CallFix p m c cc nL s args Ts own) (hM : MI l E y ws rm D cl tys (.ref b :: As) w0 w1 res) (hE : okE E) (cw : CallW R s args own C index y bytes maxL ret ws rm 0 0 n) (hrc : ∃ cellB : Cell, H[b]? = some cellB ∧ cellB.vm.isStatics = false ∧ s.vm.findClass C = some cellB.cls)
    (hP : va_P D cl w0 H) (hD : va_D A w0) (hK : va_K D cl tys s) (hS : va_S A s.heap H locs) (hA : ∀ q : Nat, s.heap.size ≤ q → A q) (hT : E A s s.heap) (hn : As.length = n) (hsz : ls.size = nL) (hst : st0 = As.reverse ++ .ref b :: rest) (hW : (rest.map fun v => v.category).sum ≤ 8) (hdg : decode cc pc = .ok (.invokevirtual index, 3)) (hf : cells ≤ R.cells ∧ slots ≤ R.slots)
    (kk : ∀ (H1 : Heap) (locs1 : List Loc), va_P D cl w1 H1 → va_D A w1 → va_S A s.heap H1 locs1 → W p l e R s m args below meth c H1 locs1 cells slots Q (F0 m (pc + 3) ls (.int res :: rest))) : W p l e R s m args below meth c H locs cells slots Q (F0 m pc ls st0) := by
  have hFc := mc_free (H := H) hD hS hA
  refine va_calli (va_runV (As := As) (rest := rest) S (hM H.size) cw ⟨mc_blind hE, hrc, mc_pre hE hP hD hK hS hA hT _⟩ rfl hn hsz hst (lv_room hW) hdg hf) hS (fun q _ h => hFc q h) hFc (fun r u t H1 locs1 ht _ hr hB _ _ hS1 => ?_)
  obtain ⟨hP1, hD1⟩ := hB
  rw [ht] at hP1
  subst hr
  exact kk H1 locs1 hP1 (hD1.weaken (fun k q _ h => hFc q.1 h)) hS1
theorem mv_callS (S : CallFix p m c cc nL s args Ts own) (hM : MV l E y ws rm D cl tys As w0 w1) (hE : okE E) (cw : CallB R s args own index y bytes maxL ret ws rm 0 0 n ∧ (Cond.static y).before args s = true)
    (hP : va_P D cl w0 H) (hD : va_D A w0) (hK : va_K D cl tys s) (hS : va_S A s.heap H locs) (hA : ∀ q : Nat, s.heap.size ≤ q → A q) (hT : E A s s.heap) (hn : As.length = n) (hsz : ls.size = nL) (hst : st0 = As.reverse ++ rest) (hW : (rest.map fun v => v.category).sum ≤ 8) (hdg : decode cc pc = .ok (.invokestatic index, 3)) (hf : cells ≤ R.cells ∧ slots ≤ R.slots)
    (kk : ∀ (H1 : Heap) (locs1 : List Loc), va_P D cl w1 H1 → va_D A w1 → va_S A s.heap H1 locs1 → W p l e R s m args below meth c H1 locs1 cells slots Q (F0 m (pc + 3) ls rest)) : W p l e R s m args below meth c H locs cells slots Q (F0 m pc ls st0) := by
  have hFc := mc_free (H := H) hD hS hA
  refine va_callv (va_runS (As := As) (rest := rest) S (hM H.size) cw ⟨mc_blind hE, mc_pre hE hP hD hK hS hA hT _⟩ rfl hn hsz hst (lv_room hW) hdg hf) hS (fun q _ h => hFc q h) hFc (fun u t H1 locs1 ht _ _ hB _ _ hS1 => ?_)
  obtain ⟨hP1, hD1⟩ := hB
  rw [ht] at hP1
  exact kk H1 locs1 hP1 (hD1.weaken (fun k q _ h => hFc q.1 h)) hS1
theorem mi_callS (S : CallFix p m c cc nL s args Ts own) (hM : MI l E y ws rm D cl tys As w0 w1 res) (hE : okE E) (cw : CallB R s args own index y bytes maxL ret ws rm 0 0 n ∧ (Cond.static y).before args s = true)
    (hP : va_P D cl w0 H) (hD : va_D A w0) (hK : va_K D cl tys s) (hS : va_S A s.heap H locs) (hA : ∀ q : Nat, s.heap.size ≤ q → A q) (hT : E A s s.heap) (hn : As.length = n) (hsz : ls.size = nL) (hst : st0 = As.reverse ++ rest) (hW : (rest.map fun v => v.category).sum ≤ 8) (hdg : decode cc pc = .ok (.invokestatic index, 3)) (hf : cells ≤ R.cells ∧ slots ≤ R.slots)
    (kk : ∀ (H1 : Heap) (locs1 : List Loc), va_P D cl w1 H1 → va_D A w1 → va_S A s.heap H1 locs1 → W p l e R s m args below meth c H1 locs1 cells slots Q (F0 m (pc + 3) ls (.int res :: rest))) : W p l e R s m args below meth c H locs cells slots Q (F0 m pc ls st0) := by
  have hFc := mc_free (H := H) hD hS hA
  refine va_calli (va_runS (As := As) (rest := rest) S (hM H.size) cw ⟨mc_blind hE, mc_pre hE hP hD hK hS hA hT _⟩ rfl hn hsz hst (lv_room hW) hdg hf) hS (fun q _ h => hFc q h) hFc (fun r u t H1 locs1 ht _ hr hB _ _ hS1 => ?_)
  obtain ⟨hP1, hD1⟩ := hB
  rw [ht] at hP1
  subst hr
  exact kk H1 locs1 hP1 (hD1.weaken (fun k q _ h => hFc q.1 h)) hS1
end MC
end
section
/-! THE CLASS'S WORLD AND ITS PURE FUNCTIONS -/
def ush (x y : Int32) : Int32 := (x.toUInt32 >>> (y.toUInt32 &&& Int32.toUInt32 31)).toInt32
def lush (x : Int64) (y : Int32) : Int64 := (x.toUInt64 >>> (y.toInt64.toUInt64 &&& Int64.toUInt64 63)).toInt64
def rotr (x d : Int32) : Int32 := ush x d ||| (x <<< ((-d) &&& 31))
/-- a loop: f 0, f 1, .. one behind the other -/
def itr {σ : Type} (f : Nat → σ → σ) : Nat → σ → σ
  | 0, z => z
  | n + 1, z => f n (itr f n z)
theorem itr_inv {σ : Type} {f : Nat → σ → σ} (P : σ → Prop) (h : ∀ i z, P z → P (f i z)) : ∀ n z, P z → P (itr f n z)
  | 0, _, hz => hz
  | n + 1, z, hz => h n _ (itr_inv P h n z hz)
abbrev xMem : Type := Nat → Nat → Int32
/-- the lengths of the class's int arrays by their numbers: 0 tape, 1 dayCounts, 2 made, 3 message, 4 words, 5 state, 6.. rows -/
def lenC : Nat → Nat
  | 0 => 200
  | 1 => 12
  | 2 => 32
  | 3 => 256
  | 4 => 64
  | 5 => 8
  | _ + 6 => 32
theorem lenC_row {k : Nat} (h : 6 ≤ k) : lenC k = 32 := by
  obtain ⟨j, rfl⟩ : ∃ j, k = j + 6 := ⟨k - 6, by omega⟩
  rfl
theorem lenC_lt (k : Nat) : lenC k < 2 ^ 31 := by
  rcases Nat.lt_or_ge k 6 with h | h
  · have : k = 0 ∨ k = 1 ∨ k = 2 ∨ k = 3 ∨ k = 4 ∨ k = 5 := by omega
    rcases this with rfl | rfl | rfl | rfl | rfl | rfl <;> decide
  · rw [lenC_row h]; decide
abbrev wX (o ad : Nat → Nat) (cZ cG : ClassId) (tl lc wc dc pn sl : Int32) (isw : Nat → Int32) : va_W :=
  [(o 0, .inr (0, [.ref (o 1), .ref (ad 0), .int tl, .ref (o 2), .ref (o 6), .int lc, .int wc, .ref (o 3), .ref (ad 1), .int dc, .ref (o 4), .int pn, .ref (o 5), .ref (ad 2)])),
   (o 1, .inr (1, [.ref (ad 3), .int sl, .ref (ad 4), .ref (ad 5)])),
   (o 2, .inl (cG, 24, .inr (.inr (.inr (.inr (fun i => some (ad (6 + i)))))))),
   (o 3, .inl (cG, 12, .inr (.inr (.inr (.inr (fun i => some (ad (30 + i)))))))),
   (o 4, .inl (cG, 5, .inr (.inr (.inr (.inr (fun i => some (ad (42 + i)))))))),
   (o 5, .inl (cG, 24, .inr (.inr (.inr (.inr (fun i => some (ad (47 + i)))))))),
   (o 6, .inl (cZ, 24, .inl isw))]
abbrev wC (o ad : Nat → Nat) (cI cZ cG : ClassId) (tl lc wc dc pn sl : Int32) (isw : Nat → Int32) (mem : xMem) : va_W := wX o ad cZ cG tl lc wc dc pn sl isw ++ mp ad cI lenC mem 71
abbrev tC (cI cZ cG : ClassId) : List (ClassId × FieldType) := [(cI, .int), (cZ, .boolean), (cG, .array .int)]
-- Sha256.take, takeFirst, takeLong: the message's length and the memory
def p_take (x : Int32) (z : Nat × xMem) : Nat × xMem := if z.1 < 256 then (z.1 + 1, va_up z.2 3 (upd (z.2 3) z.1 x)) else z
theorem p_take_le (x : Int32) (z : Nat × xMem) (h : z.1 ≤ 256) : (p_take x z).1 ≤ 256 := by
  unfold p_take
  split
  · show z.1 + 1 ≤ 256
    omega
  · exact h
def p_takeFirst (kk q : Nat) (z : Nat × xMem) : Nat × xMem := itr (fun i z => p_take (z.2 kk i) z) q z
theorem p_takeFirst_le (kk q : Nat) (z : Nat × xMem) (h : z.1 ≤ 256) : (p_takeFirst kk q z).1 ≤ 256 := itr_inv (fun z => z.1 ≤ 256) (fun _ z hz => p_take_le _ z hz) q z h
def p_sh (i : Nat) : Int32 := nI 56 - nI (8 * i)
theorem p_sh_pos : ∀ i, i < 8 → ¬ p_sh i < 0 := by decide +kernel
theorem p_sh_next : ∀ i, i < 8 → p_sh i + Int32.ofInt (-8) = p_sh (i + 1) := by decide +kernel
def p_takeLongN (v : Int64) (q : Nat) (z : Nat × xMem) : Nat × xMem := itr (fun i z => p_take ((lush v (p_sh i)).toInt32 &&& nI 255) z) q z
theorem p_takeLongN_le (v : Int64) (q : Nat) (z : Nat × xMem) (h : z.1 ≤ 256) : (p_takeLongN v q z).1 ≤ 256 := itr_inv (fun z => z.1 ≤ 256) (fun _ z hz => p_take_le _ z hz) q z h
def p_takeLong (v : Int64) (z : Nat × xMem) : Nat × xMem := p_takeLongN v 8 z
-- spreadBlock
def p_w1 (f i : Nat) (mem : xMem) : xMem := va_up mem 4 (upd (mem 4) i ((((mem 3 (f + 4 * i) <<< ((nI 24) &&& 31)) ||| (mem 3 (f + 4 * i + 1) <<< ((nI 16) &&& 31))) ||| (mem 3 (f + 4 * i + 2) <<< ((nI 8) &&& 31))) ||| mem 3 (f + 4 * i + 3)))
def p_w2 (i : Nat) (mem : xMem) : xMem := va_up mem 4 (upd (mem 4) (16 + i) (((((rotr (mem 4 (14 + i)) (nI 17) ^^^ rotr (mem 4 (14 + i)) (nI 19)) ^^^ ush (mem 4 (14 + i)) (nI 10)) + mem 4 (9 + i)) + ((rotr (mem 4 (1 + i)) (nI 7) ^^^ rotr (mem 4 (1 + i)) (nI 18)) ^^^ ush (mem 4 (1 + i)) (nI 3))) + mem 4 i))
def p_spread (f : Nat) (mem : xMem) : xMem := itr p_w2 48 (itr (p_w1 f) 16 mem)
-- stirState
def kcL : List Int32 := [0x428a2f98, 0x71374491, 0xb5c0fbcf, 0xe9b5dba5, 0x3956c25b, 0x59f111f1, 0x923f82a4, 0xab1c5ed5, 0xd807aa98, 0x12835b01, 0x243185be, 0x550c7dc3, 0x72be5d74, 0x80deb1fe, 0x9bdc06a7, 0xc19bf174, 0xe49b69c1, 0xefbe4786, 0x0fc19dc6, 0x240ca1cc, 0x2de92c6f, 0x4a7484aa, 0x5cb0a9dc, 0x76f988da, 0x983e5152, 0xa831c66d, 0xb00327c8, 0xbf597fc7, 0xc6e00bf3, 0xd5a79147, 0x06ca6351, 0x14292967, 0x27b70a85, 0x2e1b2138, 0x4d2c6dfc, 0x53380d13, 0x650a7354, 0x766a0abb, 0x81c2c92e, 0x92722c85, 0xa2bfe8a1, 0xa81a664b, 0xc24b8b70, 0xc76c51a3, 0xd192e819, 0xd6990624, 0xf40e3585, 0x106aa070, 0x19a4c116, 0x1e376c08, 0x2748774c, 0x34b0bcb5, 0x391c0cb3, 0x4ed8aa4a, 0x5b9cca4f, 0x682e6ff3, 0x748f82ee, 0x78a5636f, 0x84c87814, 0x8cc70208, 0x90befffa, 0xa4506ceb, 0xbef9a3f7, 0xc67178f2]
def kc (i : Nat) : Int32 := kcL.getD i 0
def h0L : List Int32 := [0x6a09e667, 0xbb67ae85, 0x3c6ef372, 0xa54ff53a, 0x510e527f, 0x9b05688c, 0x1f83d9ab, 0x5be0cd19]
def h0 (i : Nat) : Int32 := h0L.getD i 0
def p_first (kt wt : Int32) (v : Nat → Int32) : Int32 := (((v 7 + ((rotr (v 4) (nI 6) ^^^ rotr (v 4) (nI 11)) ^^^ rotr (v 4) (nI 25))) + ((v 4 &&& v 5) ^^^ ((v 4 ^^^ (-1)) &&& v 6))) + kt) + wt
def p_rnd (kt wt : Int32) (v : Nat → Int32) : Nat → Int32
  | 0 => (p_first kt wt v + ((rotr (v 0) (nI 2) ^^^ rotr (v 0) (nI 13)) ^^^ rotr (v 0) (nI 22))) + (((v 0 &&& v 1) ^^^ (v 0 &&& v 2)) ^^^ (v 1 &&& v 2))
  | 1 => v 0
  | 2 => v 1
  | 3 => v 2
  | 4 => v 3 + p_first kt wt v
  | 5 => v 4
  | 6 => v 5
  | _ => v 6
def p_rnds (mem : xMem) (n : Nat) : Nat → Int32 := itr (fun t v => p_rnd (kc t) (mem 4 t) v) n (mem 5)
def p_add (j : Nat) (x : Int32) (mem : xMem) : xMem := va_up mem 5 (upd (mem 5) j (mem 5 j + x))
def p_stir (mem : xMem) : xMem := p_add 7 (p_rnds mem 64 7) (p_add 6 (p_rnds mem 64 6) (p_add 5 (p_rnds mem 64 5) (p_add 4 (p_rnds mem 64 4) (p_add 3 (p_rnds mem 64 3) (p_add 2 (p_rnds mem 64 2) (p_add 1 (p_rnds mem 64 1) (p_add 0 (p_rnds mem 64 0) mem)))))))
-- finishInto
def fmd (x y : Int32) : Int32 := if ((x ^^^ y) < 0 ∧ ¬ (x - x / y * y) = 0) then (x - x / y * y) + y else x - x / y * y
def zz (n : Nat) : Nat := (311 - n) % 64
theorem zz_lt (n : Nat) : zz n < 64 := Nat.mod_lt _ (by decide)
theorem zz_eq : ∀ n, n < 257 → fmd (nI 55 - nI n) (nI 64) = nI (zz n) := by decide +kernel
def pfA (z : Nat × xMem) : Nat × xMem := p_take (nI 128) z
def pfB (z : Nat × xMem) : Nat × xMem := itr (fun _ => p_take (nI 0)) (zz z.1) (pfA z)
def pfC (z : Nat × xMem) : Nat × xMem := p_takeLong (lN 8 * (nI z.1).toInt64) (pfB z)
def pfD (z : Nat × xMem) : xMem := va_up (pfC z).2 5 (va_cpy h0 ((pfC z).2 5) 0 0 8)
def pfE (z : Nat × xMem) (b : Nat) : xMem := itr (fun b m => p_stir (p_spread (64 * b) m)) b (pfD z)
def pfF (kk : Nat) (z : Nat × xMem) (i : Nat) : xMem := itr (fun i m => va_up m kk (upd (m kk) i (ush (m 5 (i / 4)) (nI (24 - 8 * (i % 4))) &&& nI 255))) i (pfE z ((pfC z).1 / 64))
def p_finish (kk : Nat) (z : Nat × xMem) : Nat × xMem := ((pfC z).1, pfF kk z 32)
theorem pfA_le (z : Nat × xMem) (h : z.1 ≤ 247) : (pfA z).1 ≤ 256 := p_take_le _ _ (by omega)
theorem pfZ_le (i : Nat) (z : Nat × xMem) (h : z.1 ≤ 247) : (itr (fun _ => p_take (nI 0)) i (pfA z)).1 ≤ 256 := itr_inv (fun z => z.1 ≤ 256) (fun _ z hz => p_take_le _ z hz) i _ (pfA_le z h)
theorem pfB_le (z : Nat × xMem) (h : z.1 ≤ 247) : (pfB z).1 ≤ 256 := by
  unfold pfB
  exact pfZ_le (zz z.1) z h
theorem pfC_le (z : Nat × xMem) (h : z.1 ≤ 247) : (pfC z).1 ≤ 256 := by
  unfold pfC p_takeLong
  exact p_takeLongN_le _ 8 _ (pfB_le z h)
theorem p_take_fst (x : Int32) (z : Nat × xMem) (h : z.1 < 256) : (p_take x z).1 = z.1 + 1 := by
  unfold p_take
  rw [if_pos h]
theorem p_takeFirst_fst (kk : Nat) : ∀ (q : Nat) (z : Nat × xMem), z.1 + q ≤ 256 → (p_takeFirst kk q z).1 = z.1 + q
  | 0, _, _ => rfl
  | q + 1, z, h => by
    have ih := p_takeFirst_fst kk q z (by omega)
    show (p_take _ (p_takeFirst kk q z)).1 = _
    rw [p_take_fst _ _ (by omega), ih]
    omega
theorem p_takeLongN_fst (v : Int64) : ∀ (q : Nat) (z : Nat × xMem), z.1 + q ≤ 256 → (p_takeLongN v q z).1 = z.1 + q
  | 0, _, _ => rfl
  | q + 1, z, h => by
    have ih := p_takeLongN_fst v q z (by omega)
    show (p_take _ (p_takeLongN v q z)).1 = _
    rw [p_take_fst _ _ (by omega), ih]
    omega
end
section
/-! WHAT THE STATICS HOLD: Sha256's two tables, Throwable's two sentinels; the words on the exceptions' texts and classes -/
def xL (C n d : String) (A : Nat → Prop) (U : State) (H : Heap) : Prop := ∃ (c : ClassId) (k : Class) (i : Nat) (f : Field) (a : Nat) (cell : Cell) (v : Value), U.vm.findClass C = some c ∧ U.fieldFound? C n d = some (c, k, i, f) ∧ f.isStatic = true ∧ k.statics = some a ∧ H[a]? = some cell ∧ cell.vm.isStatics = true ∧ cell.cls = c ∧ f.slot < cell.slots.size ∧ k.staticTypes[f.slot]? = some f.type ∧ cell.slots[f.slot]? = some v ∧ v.isRef = true ∧ ¬ A a
theorem xL.moved {C n d : String} {A : Nat → Prop} {u U : State} {H : Heap} (hvm : u.vm.Alike U.vm) (h : xL C n d A u H) : xL C n d A U H := by
  obtain ⟨c, k, i, f, a, cell, v, h1, h2, h3, h4, h5, h6, h7, h8, h9, h10, h11, h12⟩ := h
  obtain ⟨k', hi', he⟩ := State.fieldFound?_setVm hvm h2
  exact ⟨c, k', i, f, a, cell, v, by rw [hvm.findClass]; exact h1, hi', h3, by rw [he]; exact h4, h5, h6, h7, h8, by rw [he]; exact h9, h10, h11, h12⟩
theorem xL.kept {C n d : String} {A : Nat → Prop} {U : State} {H H1 : Heap} (h : xL C n d A U H) (hq : ∀ a : Nat, a < H.size → ¬ A a → H1[a]? = H[a]?) : xL C n d A U H1 := by
  obtain ⟨c, k, i, f, a, cell, v, h1, h2, h3, h4, h5, h6, h7, h8, h9, h10, h11, h12⟩ := h
  exact ⟨c, k, i, f, a, cell, v, h1, h2, h3, h4, by rw [hq a (Array.getElem?_eq_some_iff.mp h5).1 h12]; exact h5, h6, h7, h8, h9, h10, h11, h12⟩
theorem xL.narrow {C n d : String} {A B : Nat → Prop} {U : State} {H : Heap} (h : xL C n d A U H) (hAB : ∀ q, B q → A q) : xL C n d B U H := by
  obtain ⟨c, k, i, f, a, cell, v, h1, h2, h3, h4, h5, h6, h7, h8, h9, h10, h11, h12⟩ := h
  exact ⟨c, k, i, f, a, cell, v, h1, h2, h3, h4, h5, h6, h7, h8, h9, h10, h11, fun z => h12 (hAB a z)⟩
theorem xL.lays {C n d : String} {A : Nat → Prop} {s : State} {args : Array Value} (h : xL C n d A s s.heap) : (Cond.laysStatic C n d).before args s = true := by
  obtain ⟨c, k, i, f, a, cell, v, h1, h2, h3, h4, h5, h6, h7, h8, h9, h10, h11, h12⟩ := h
  simp [Cond.before, Cond.holds, Cond.value, h1, h2, h3, h4, h5, h6, h7, h8, h9]
theorem xL.ref {C n d : String} {A : Nat → Prop} {s : State} {args : Array Value} (h : xL C n d A s s.heap) : (Cond.isRef (.static C n d)).before args s = true := by
  obtain ⟨c, k, i, f, a, cell, v, h1, h2, h3, h4, h5, h6, h7, h8, h9, h10, h11, h12⟩ := h
  have e : (Term.static C n d).eval args s none [] s = some v := by
    simp [Term.eval, State.fieldNamed?, h2, h3, h4, h5, h6, h10]
  cases v <;> simp [Value.isRef] at h11 <;> simp [Cond.before, Cond.holds, Cond.value, e]
theorem xt_str {own tx : String} {k : Nat} {s U : State} (hW : s.WarmedH U.vm) (h : (Cond.stringRef own k tx).before #[] s = true) : (Cond.stringRef own k tx).before #[] U = true := by
  have h1 : (Cond.stringRef own k tx).before #[] (s.setVm U.vm) = true := Cond.stringRef_warmed hW h
  first
    | exact va_tabs rfl (rfl : (s.setVm U.vm).vm = U.vm) h1
    | (simp only [Cond.before, Cond.holds, Cond.value, State.names, State.poolOf?, State.resolvedAt?] at h1 ⊢; exact h1)
theorem xt_dec {x : MethodName} {s U : State} (hW : s.WarmedH U.vm) (h : (Cond.declares x).before #[] s = true) : (Cond.declares x).before #[] U = true :=
  va_tabs rfl (rfl : (s.setVm U.vm).vm = U.vm) (by rw [Cond.declares_setVm hW.alike]; exact h)
theorem xt_aov {ty : FieldType} {s U : State} (hW : s.WarmedH U.vm) (h : (Cond.arrayOver ty).before #[] s = true) : (Cond.arrayOver ty).before #[] U = true := by
  have h1 : (Cond.arrayOver ty).before #[] (s.setVm U.vm) = true := by rw [Cond.arrayOver_setVmC hW.alike]; exact h
  first
    | exact va_tabs rfl (rfl : (s.setVm U.vm).vm = U.vm) h1
    | (simp only [Cond.before, Cond.holds] at h1 ⊢; exact h1)
/-- the words that every throw needs and that aren't among tW -/
def thL : List Cond := [.castable "java/lang/IllegalArgumentException" "java/lang/IllegalArgumentException", .stringRef "ProofLeaves" 62 "n is not 1 .. 8", .castable "java/lang/UnsupportedOperationException" "java/lang/UnsupportedOperationException", .stringRef "ProofLeaves" 69 "the tape would have more than 200 bytes", .stringRef "ProofLeaves" 72 "there are 24 leaves", .stringRef "ProofLeaves" 89 "there are 12 days", .castable "java/lang/IndexOutOfBoundsException" "java/lang/IndexOutOfBoundsException", .stringRef "ProofLeaves" 159 "no such day", .stringRef "ProofLeaves" 163 "no such byte", .stringRef "ProofLeaves" 157 "no such leaf", .castable "java/lang/IllegalStateException" "java/lang/IllegalStateException", .stringRef "ProofLeaves" 106 "the leaf came after the day", .stringRef "ProofLeaves" 161 "no such digest in the proof", .stringRef "ProofLeaves" 165 "the mask is not 1 .. 255", .stringRef "ProofLeaves" 119 "there is no proof", .stringRef "ProofLeaves" 121 "the number told is not 0 .. the count told - 1", .stringRef "ProofLeaves" 135 "the first day is later than the second", .stringRef "ProofLeaves" 141 "the leaf is withdrawn already", .stringRef "ProofLeaves" 145 "no such side", .stringRef "ProofLeaves" 148 "the leaf is withdrawn", .declares ⟨"java/lang/RuntimeException", "<init>", "(Ljava/lang/String;)V"⟩, .declares ⟨"java/lang/Exception", "<init>", "(Ljava/lang/String;)V"⟩, .declares ⟨"java/lang/Throwable", "<init>", "(Ljava/lang/String;)V"⟩, .arrayOver (.array .int)]
theorem thL_warm {s U : State} (hW : s.WarmedH U.vm) : ∀ w ∈ thL, w.before #[] s = true → w.before #[] U = true := by
  intro w hw
  simp only [thL, List.mem_cons, List.not_mem_nil, or_false] at hw
  rcases hw with rfl | rfl | rfl | rfl | rfl | rfl | rfl | rfl | rfl | rfl | rfl | rfl | rfl | rfl | rfl | rfl | rfl | rfl | rfl | rfl | rfl | rfl | rfl | rfl
  · intro h; exact (va_Nw.warmC hW h)
  · intro h; exact xt_str hW h
  · intro h; exact (va_Nw.warmC hW h)
  · intro h; exact xt_str hW h
  · intro h; exact xt_str hW h
  · intro h; exact xt_str hW h
  · intro h; exact (va_Nw.warmC hW h)
  · intro h; exact xt_str hW h
  · intro h; exact xt_str hW h
  · intro h; exact xt_str hW h
  · intro h; exact (va_Nw.warmC hW h)
  · intro h; exact xt_str hW h
  · intro h; exact xt_str hW h
  · intro h; exact xt_str hW h
  · intro h; exact xt_str hW h
  · intro h; exact xt_str hW h
  · intro h; exact xt_str hW h
  · intro h; exact xt_str hW h
  · intro h; exact xt_str hW h
  · intro h; exact xt_str hW h
  · intro h; exact xt_dec hW h
  · intro h; exact xt_dec hW h
  · intro h; exact xt_dec hW h
  · intro h; exact xt_aov hW h
def gE : xE := fun A U H => (∃ t1 t2 : Nat, va_Z RX0 "FIRST_STATE" "[I" (.ref t1) A U H ∧ va_T .int t1 8 (fun j => .int (h0 j)) A U H ∧ va_Z RX0 "ROUND_CONSTANTS" "[I" (.ref t2) A U H ∧ va_T .int t2 64 (fun j => .int (kc j)) A U H) ∧ xL Bundle.tN "UNASSIGNED_STACK" Bundle.steD A U H ∧ xL Bundle.tN "SUPPRESSED_SENTINEL" Bundle.listD A U H ∧ ∀ w ∈ thL, w.before #[] U = true
theorem gE_ok : okE gE := by
  refine ⟨fun A u U H hW h => ?_, fun A U H H1 h hq => ?_, fun A B U H h hq => ?_⟩
  · obtain ⟨⟨t1, t2, a, b, c, d⟩, e, f, g⟩ := h
    exact ⟨⟨t1, t2, a.moved hW.alike, b.moved hW.alike, c.moved hW.alike, d.moved hW.alike⟩, e.moved hW.alike, f.moved hW.alike, fun w hw => thL_warm hW w hw (g w hw)⟩
  · obtain ⟨⟨t1, t2, a, b, c, d⟩, e, f, g⟩ := h
    exact ⟨⟨t1, t2, a.kept hq, b.kept hq, c.kept hq, d.kept hq⟩, e.kept hq, f.kept hq, g⟩
  · obtain ⟨⟨t1, t2, a, b, c, d⟩, e, f, g⟩ := h
    exact ⟨⟨t1, t2, a.narrow hq, b.narrow hq, c.narrow hq, d.narrow hq⟩, e.narrow hq, f.narrow hq, g⟩
end
section
set_option maxHeartbeats 4000000 in
set_option maxRecDepth 100000 in
/-- Integer.rotateRight(x, d) -/
theorem c_rotateRight {l : Launch} {D : va_G} {cI cZ cG : ClassId} (w : va_W) (x d : Int32) : MI l gE yJ6_rotateRight (.code yJ6_rotateRight cJ6_rotateRight 2 (some .int) :: tW) ({ frames := 0, cells := 0, slots := 0, locals := 0 }) D vwCl (tC cI cZ cG) [.int x, .int d] (w) (w) (rotr x d) := by
  refine MI.ofW (by decide +kernel) rfl (Nat.le_of_ble_eq_true rfl) ?_
  intro p e s m below meth c A ls hx hb hr hts hown hlk hml hA hP hK hD hT hl
  have hS : va_S A s.heap s.heap [] := va_S.rf
  have hown : s.vm.findClass RJ6 = some m.cls := hown
  have hW : ∀ w ∈ tW, w.before _ s = true := fun w h => hts w (List.mem_cons_of_mem _ h)
  have hl : lv_has ls 2 [(0, .int x), (1, .int d)] := hl
  refine lv_iload_n hx hb dJ6_rotateRight_0 rfl (lv_at hl 0 rfl) ?_
  refine lv_iload_n hx hb dJ6_rotateRight_1 rfl (lv_at hl 1 rfl) ?_
  refine lv_iushr (v := ush x d) hx hb dJ6_rotateRight_2 rfl ?_
  refine lv_iload_n hx hb dJ6_rotateRight_3 rfl (lv_at hl 0 rfl) ?_
  refine lv_iload_n hx hb dJ6_rotateRight_4 rfl (lv_at hl 1 rfl) ?_
  refine lv_ineg hx hb dJ6_rotateRight_5 ?_
  refine lv_ishl hx hb dJ6_rotateRight_6 ?_
  refine lv_ior hx hb dJ6_rotateRight_7 ?_
  have hP : va_P D vwCl (w) s.heap := by exact hP
  have hD : va_D A (w) := by exact hD
  exact mi_ret hx hb hr rfl hlk hS hP hD (rfl) dJ6_rotateRight_8
set_option maxHeartbeats 4000000 in
set_option maxRecDepth 100000 in
/-- Math.floorMod(x, y) -/
theorem c_floorMod {l : Launch} {D : va_G} {cI cZ cG : ClassId} (w : va_W) (x y : Int32) (hy : ¬ y = 0) : MI l gE yJ9_floorMod (.code yJ9_floorMod cJ9_floorMod 3 (some .int) :: tW) ({ frames := 0, cells := 0, slots := 0, locals := 0 }) D vwCl (tC cI cZ cG) [.int x, .int y] (w) (w) (fmd x y) := by
  refine MI.ofW (by decide +kernel) rfl (Nat.le_of_ble_eq_true rfl) ?_
  intro p e s m below meth c A ls hx hb hr hts hown hlk hml hA hP hK hD hT hl
  have hS : va_S A s.heap s.heap [] := va_S.rf
  have hown : s.vm.findClass RJ9 = some m.cls := hown
  have hW : ∀ w ∈ tW, w.before _ s = true := fun w h => hts w (List.mem_cons_of_mem _ h)
  have hl : lv_has ls 3 [(0, .int x), (1, .int y)] := hl
  refine lv_iload_n hx hb dJ9_floorMod_0 rfl (lv_at hl 0 rfl) ?_
  refine lv_iload_n hx hb dJ9_floorMod_1 rfl (lv_at hl 1 rfl) ?_
  refine lv_irem hx hb dJ9_floorMod_2 (hy) ?_
  refine lv_istore_n (lv' := [(2, .int (x - x / y * y)), (0, .int x), (1, .int y)]) hx hb dJ9_floorMod_3 rfl hl (by decide) rfl (fun ls hl => ?_)
  refine lv_iload_n hx hb dJ9_floorMod_4 rfl (lv_at hl 1 rfl) ?_
  refine lv_iload_n hx hb dJ9_floorMod_5 rfl (lv_at hl 2 rfl) ?_
  refine lv_ixor hx hb dJ9_floorMod_6 ?_
  refine lv_if_ge (tgt := 18) hx hb dJ9_floorMod_7 (by decide) (fun hc => ?_) (fun hc => ?_)
  · refine lv_iload_n hx hb dJ9_floorMod_18 rfl (lv_at hl 0 rfl) ?_
    have hP : va_P D vwCl (w) s.heap := by exact hP
    have hD : va_D A (w) := by exact hD
    exact mi_ret hx hb hr rfl hlk hS hP hD ((if_neg (fun h => Int32.not_lt.mpr hc h.1)).symm) dJ9_floorMod_19
  · refine lv_iload_n hx hb dJ9_floorMod_10 rfl (lv_at hl 0 rfl) ?_
    refine lv_if_eq (tgt := 18) hx hb dJ9_floorMod_11 (by decide) (fun hd => ?_) (fun hd => ?_)
    · refine lv_iload_n hx hb dJ9_floorMod_18 rfl (lv_at hl 0 rfl) ?_
      have hP : va_P D vwCl (w) s.heap := by exact hP
      have hD : va_D A (w) := by exact hD
      exact mi_ret hx hb hr rfl hlk hS hP hD ((if_neg (fun h => h.2 hd)).symm) dJ9_floorMod_19
    · refine lv_iload_n hx hb dJ9_floorMod_14 rfl (lv_at hl 0 rfl) ?_
      refine lv_iload_n hx hb dJ9_floorMod_15 rfl (lv_at hl 2 rfl) ?_
      refine lv_iadd hx hb dJ9_floorMod_16 ?_
      have hP : va_P D vwCl (w) s.heap := by exact hP
      have hD : va_D A (w) := by exact hD
      exact mi_ret hx hb hr rfl hlk hS hP hD ((if_pos ⟨Int32.not_le.mp hc, hd⟩).symm) dJ9_floorMod_17
set_option maxHeartbeats 4000000 in
set_option maxRecDepth 100000 in
/-- begin(): the message is empty -/
theorem c_begin {l : Launch} {D : va_G} {o ad : Nat → Nat} {cI cZ cG : ClassId} {tl lc wc dc pn : Int32} {isw : Nat → Int32} (n : Nat) (mem : Nat → Nat → Int32) : MV l gE yX0_begin (.code yX0_begin cX0_begin 1 none :: tW) ({ frames := 0, cells := 0, slots := 0, locals := 0 }) D vwCl (tC cI cZ cG) [.ref (o 1)] (wC o ad cI cZ cG tl lc wc dc pn (nI n) isw mem) (wC o ad cI cZ cG tl lc wc dc pn (nI 0) isw mem) := by
  refine MV.ofW (by decide +kernel) rfl (Nat.le_of_ble_eq_true rfl) ?_
  intro p e s m below meth c A ls hx hb hr hts hown hlk hml hA hP hK hD hT hl
  have hS : va_S A s.heap s.heap [] := va_S.rf
  have hown : s.vm.findClass RX0 = some m.cls := hown
  have hW : ∀ w ∈ tW, w.before _ s = true := fun w h => hts w (List.mem_cons_of_mem _ h)
  have hl : lv_has ls 1 [(0, .ref (o 1))] := hl
  refine lv_aload_n hx hb dX0_begin_0 rfl (lv_at hl 0 rfl) ?_
  refine lv_iconst (v := nI 0) hx hb dX0_begin_1 (by decide) ?_
  refine va_put (D := D) (ci := 1) (v := .int (nI 0)) (ty := .int) (C := RX0) (T := TX0) (N := 4) hx hb hW iSH tyX0 tyX0_ok nmX0 hown hK hP hD hS 1 rfl rfl 1 (by decide) (hW _ tw_29) (fun _ h9 => h9) rfl (by decide +kernel) rfl rfl (Nat.le_of_ble_eq_true rfl) dX0_begin_2 (fun H locs hP hD hS => ?_)
  have hP : va_P D vwCl (wC o ad cI cZ cG tl lc wc dc pn (nI 0) isw mem) H := hP
  have hD : va_D A (wC o ad cI cZ cG tl lc wc dc pn (nI 0) isw mem) := hD
  have hP : va_P D vwCl (wC o ad cI cZ cG tl lc wc dc pn (nI 0) isw mem) H := by exact hP
  have hD : va_D A (wC o ad cI cZ cG tl lc wc dc pn (nI 0) isw mem) := by exact hD
  exact mv_ret hx hb hr hlk hS hP hD dX0_begin_5
set_option maxHeartbeats 4000000 in
set_option maxRecDepth 100000 in
/-- take(x) -/
theorem c_take {l : Launch} {D : va_G} {o ad : Nat → Nat} {cI cZ cG : ClassId} {tl lc wc dc pn : Int32} {isw : Nat → Int32} (n : Nat) (hn : n ≤ 256) (mem : Nat → Nat → Int32) (x : Int32) : MV l gE yX0_take (.code yX0_take cX0_take 2 none :: tW) ({ frames := 0, cells := 0, slots := 0, locals := 0 }) D vwCl (tC cI cZ cG) [.ref (o 1), .int x] (wC o ad cI cZ cG tl lc wc dc pn (nI n) isw mem) (wC o ad cI cZ cG tl lc wc dc pn (nI (p_take x (n, mem)).1) isw ((p_take x (n, mem)).2)) := by
  refine MV.ofW (by decide +kernel) rfl (Nat.le_of_ble_eq_true rfl) ?_
  intro p e s m below meth c A ls hx hb hr hts hown hlk hml hA hP hK hD hT hl
  have hS : va_S A s.heap s.heap [] := va_S.rf
  have hown : s.vm.findClass RX0 = some m.cls := hown
  have hW : ∀ w ∈ tW, w.before _ s = true := fun w h => hts w (List.mem_cons_of_mem _ h)
  have hl : lv_has ls 2 [(0, .ref (o 1)), (1, .int x)] := hl
  refine lv_aload_n hx hb dX0_take_0 rfl (lv_at hl 0 rfl) ?_
  refine va_get (D := D) (ci := 1) (v := .int (nI n)) (C := RX0) (T := TX0) (N := 4) hx hb hW iSH hown hK hP 1 rfl rfl 1 (by decide) (hW _ tw_29) (fun _ h9 => h9) rfl dX0_take_1 ?_
  refine lv_sipush (v := nI 256) hx hb dX0_take_4 (by decide) ?_
  refine lv_icmp_ge (tgt := 30) hx hb dX0_take_7 (by decide) (fun hc => ?_) (fun hc => ?_)
  · have h1 : ¬ n < 256 := fun h => nI_ge h (by decide) hc
    have e1 : p_take x (n, mem) = (n, mem) := if_neg h1
    have hP : va_P D vwCl (wC o ad cI cZ cG tl lc wc dc pn (nI (p_take x (n, mem)).1) isw ((p_take x (n, mem)).2)) s.heap := by rw [e1]; exact hP
    have hD : va_D A (wC o ad cI cZ cG tl lc wc dc pn (nI (p_take x (n, mem)).1) isw ((p_take x (n, mem)).2)) := by rw [e1]; exact hD
    exact mv_ret hx hb hr hlk hS hP hD dX0_take_30
  · have h1 : n < 256 := Nat.lt_of_not_le (fun h => hc (nI_le h (by omega)))
    have e1 : p_take x (n, mem) = (n + 1, va_up mem 3 (upd (mem 3) n x)) := if_pos h1
    refine lv_aload_n hx hb dX0_take_10 rfl (lv_at hl 0 rfl) ?_
    refine va_get (D := D) (ci := 1) (v := .ref (ad 3)) (C := RX0) (T := TX0) (N := 4) hx hb hW iSH hown hK hP 1 rfl rfl 0 (by decide) (hW _ tw_28) (fun _ h9 => h9) rfl dX0_take_11 ?_
    refine lv_aload_n hx hb dX0_take_14 rfl (lv_at hl 0 rfl) ?_
    refine va_get (D := D) (ci := 1) (v := .int (nI n)) (C := RX0) (T := TX0) (N := 4) hx hb hW iSH hown hK hP 1 rfl rfl 1 (by decide) (hW _ tw_29) (fun _ h9 => h9) rfl dX0_take_15 ?_
    refine lv_iload_n hx hb dX0_take_18 rfl (lv_at hl 1 rfl) ?_
    refine m_st (X := wX o ad cZ cG tl lc wc dc pn (nI n) isw) hx hb hK hP hD hS 0 3 n rfl (by decide) (show n < 256 by omega) (by decide) dX0_take_19 (fun H locs hP hD hS => ?_)
    have hP : va_P D vwCl (wC o ad cI cZ cG tl lc wc dc pn (nI n) isw (va_up mem 3 (upd (mem 3) n x))) H := hP
    have hD : va_D A (wC o ad cI cZ cG tl lc wc dc pn (nI n) isw (va_up mem 3 (upd (mem 3) n x))) := hD
    refine lv_aload_n hx hb dX0_take_20 rfl (lv_at hl 0 rfl) ?_
    refine lv_dup hx hb dX0_take_21 rfl ?_
    refine va_get (D := D) (ci := 1) (v := .int (nI n)) (C := RX0) (T := TX0) (N := 4) hx hb hW iSH hown hK hP 1 rfl rfl 1 (by decide) (hW _ tw_29) (fun _ h9 => h9) rfl dX0_take_22 ?_
    refine lv_iconst (v := nI 1) hx hb dX0_take_25 (by decide) ?_
    refine lv_iadd hx hb dX0_take_26 ?_
    refine lv_eqi (v := nI (n + 1)) (nI_add n 1) ?_
    refine va_put (D := D) (ci := 1) (v := .int (nI (n + 1))) (ty := .int) (C := RX0) (T := TX0) (N := 4) hx hb hW iSH tyX0 tyX0_ok nmX0 hown hK hP hD hS 1 rfl rfl 1 (by decide) (hW _ tw_29) (fun _ h9 => h9) rfl (by decide +kernel) rfl rfl (Nat.le_of_ble_eq_true rfl) dX0_take_27 (fun H locs hP hD hS => ?_)
    have hP : va_P D vwCl (wC o ad cI cZ cG tl lc wc dc pn (nI (n + 1)) isw (va_up mem 3 (upd (mem 3) n x))) H := hP
    have hD : va_D A (wC o ad cI cZ cG tl lc wc dc pn (nI (n + 1)) isw (va_up mem 3 (upd (mem 3) n x))) := hD
    have hP : va_P D vwCl (wC o ad cI cZ cG tl lc wc dc pn (nI (p_take x (n, mem)).1) isw ((p_take x (n, mem)).2)) H := by rw [e1]; exact hP
    have hD : va_D A (wC o ad cI cZ cG tl lc wc dc pn (nI (p_take x (n, mem)).1) isw ((p_take x (n, mem)).2)) := by rw [e1]; exact hD
    exact mv_ret hx hb hr hlk hS hP hD dX0_take_30
set_option maxHeartbeats 4000000 in
set_option maxRecDepth 100000 in
/-- takeFirst(row kk, q) -/
theorem c_takeFirst {l : Launch} {D : va_G} {o ad : Nat → Nat} {cI cZ cG : ClassId} {tl lc wc dc pn : Int32} {isw : Nat → Int32} (n q kk : Nat) (hn : n ≤ 256) (hq : q ≤ lenC kk) (hkk : kk < 71) (mem : Nat → Nat → Int32) : MV l gE yX0_takeFirst (.code yX0_takeFirst cX0_takeFirst 4 none :: tW) ({ frames := 1, cells := 0, slots := 0, locals := 21 }) D vwCl (tC cI cZ cG) [.ref (o 1), .ref (ad kk), .int (nI q)] (wC o ad cI cZ cG tl lc wc dc pn (nI n) isw mem) (wC o ad cI cZ cG tl lc wc dc pn (nI (p_takeFirst kk q (n, mem)).1) isw ((p_takeFirst kk q (n, mem)).2)) := by
  refine MV.ofW (by decide +kernel) rfl (Nat.le_of_ble_eq_true rfl) ?_
  intro p e s m below meth c A ls hx hb hr hts hown hlk hml hA hP hK hD hT hl
  have hS : va_S A s.heap s.heap [] := va_S.rf
  have hown : s.vm.findClass RX0 = some m.cls := hown
  have hW : ∀ w ∈ tW, w.before _ s = true := fun w h => hts w (List.mem_cons_of_mem _ h)
  have hl : lv_has ls 4 [(0, .ref (o 1)), (1, .ref (ad kk)), (2, .int (nI q))] := hl
  have hq2 := lenC_lt kk
  have loop : ∀ (k i : Nat) (H : Heap) (locs : List Loc) (ls : Array Slot), i + k = q → va_P D vwCl (wC o ad cI cZ cG tl lc wc dc pn (nI (p_takeFirst kk i (n, mem)).1) isw ((p_takeFirst kk i (n, mem)).2)) H → va_D A (wC o ad cI cZ cG tl lc wc dc pn (nI (p_takeFirst kk i (n, mem)).1) isw ((p_takeFirst kk i (n, mem)).2)) → va_S A s.heap H locs → lv_has ls 4 [(0, .ref (o 1)), (1, .ref (ad kk)), (2, .int (nI q)), (3, .int (nI i))] → W p l e ({ frames := 1, cells := 0, slots := 0, locals := 21 }) s m ([.ref (o 1), .ref (ad kk), .int (nI q)] : List Value).toArray below meth c H locs 0 0 (MQ below (xQv D vwCl (wC o ad cI cZ cG tl lc wc dc pn (nI (p_takeFirst kk q (n, mem)).1) isw ((p_takeFirst kk q (n, mem)).2)) A) ([.ref (o 1), .ref (ad kk), .int (nI q)] : List Value).toArray s 0 0 A) (F0 m 2 ls []) := by
    intro k
    induction k with
    | zero =>
      intro i H locs ls hk hP hD hS hl
      have hk : i = q := by omega
      rw [hk] at hP hD
      refine lv_iload_n hx hb dX0_takeFirst_2 rfl (lv_at hl 3 rfl) ?_
      refine lv_iload_n hx hb dX0_takeFirst_3 rfl (lv_at hl 2 rfl) ?_
      refine lv_icmp_ge (tgt := 20) hx hb dX0_takeFirst_4 (by decide) (fun hc => ?_) (fun hc => ?_)
      · have hP : va_P D vwCl (wC o ad cI cZ cG tl lc wc dc pn (nI (p_takeFirst kk q (n, mem)).1) isw ((p_takeFirst kk q (n, mem)).2)) H := by exact hP
        have hD : va_D A (wC o ad cI cZ cG tl lc wc dc pn (nI (p_takeFirst kk q (n, mem)).1) isw ((p_takeFirst kk q (n, mem)).2)) := by exact hD
        exact mv_ret hx hb hr hlk hS hP hD dX0_takeFirst_20
      · exact absurd (nI_le (by omega) (by omega)) hc
    | succ k ih =>
      intro i H locs ls hk hP hD hS hl
      refine lv_iload_n hx hb dX0_takeFirst_2 rfl (lv_at hl 3 rfl) ?_
      refine lv_iload_n hx hb dX0_takeFirst_3 rfl (lv_at hl 2 rfl) ?_
      refine lv_icmp_ge (tgt := 20) hx hb dX0_takeFirst_4 (by decide) (fun hc => ?_) (fun hc => ?_)
      · exact absurd hc (nI_ge (by omega) (by omega))
      · refine lv_aload_n hx hb dX0_takeFirst_7 rfl (lv_at hl 0 rfl) ?_
        refine lv_aload_n hx hb dX0_takeFirst_8 rfl (lv_at hl 1 rfl) ?_
        refine lv_iload_n hx hb dX0_takeFirst_9 rfl (lv_at hl 3 rfl) ?_
        refine m_ld (X := wX o ad cZ cG tl lc wc dc pn (nI (p_takeFirst kk i (n, mem)).1) isw) hx hb hK hP 0 kk i rfl hkk (by omega) (lenC_lt kk) dX0_takeFirst_10 ?_
        refine mv_callV (C := RX0) (As := [.int (((p_takeFirst kk i (n, mem)).2) kk i)]) (rest := []) ⟨hx, hb, hml, hown, hW⟩ (c_take ((p_takeFirst kk i (n, mem)).1) (p_takeFirst_le kk i (n, mem) hn) ((p_takeFirst kk i (n, mem)).2) (((p_takeFirst kk i (n, mem)).2) kk i)) gE_ok (cwV 1 hW (gV tw_202 tw_195 tw_196 tw_2 tw_197) rfl rfl rfl (by decide +kernel) ⟨Nat.le_of_ble_eq_true rfl, Nat.le_of_ble_eq_true rfl⟩) (va_recv hK hP (ci := 1) (q0 := 1) rfl rfl) hP hD hK hS hA hT rfl hl.1 rfl (Nat.le_of_ble_eq_true rfl) dX0_takeFirst_11 ⟨Nat.zero_le _, Nat.zero_le _⟩ (fun H locs hP hD hS => ?_)
        have hP : va_P D vwCl (wC o ad cI cZ cG tl lc wc dc pn (nI (p_take (((p_takeFirst kk i (n, mem)).2) kk i) ((p_takeFirst kk i (n, mem)).1, (p_takeFirst kk i (n, mem)).2)).1) isw ((p_take (((p_takeFirst kk i (n, mem)).2) kk i) ((p_takeFirst kk i (n, mem)).1, (p_takeFirst kk i (n, mem)).2)).2)) H := hP
        have hD : va_D A (wC o ad cI cZ cG tl lc wc dc pn (nI (p_take (((p_takeFirst kk i (n, mem)).2) kk i) ((p_takeFirst kk i (n, mem)).1, (p_takeFirst kk i (n, mem)).2)).1) isw ((p_take (((p_takeFirst kk i (n, mem)).2) kk i) ((p_takeFirst kk i (n, mem)).1, (p_takeFirst kk i (n, mem)).2)).2)) := hD
        have hP : va_P D vwCl (wC o ad cI cZ cG tl lc wc dc pn (nI (p_takeFirst kk (i + 1) (n, mem)).1) isw ((p_takeFirst kk (i + 1) (n, mem)).2)) H := hP
        have hD : va_D A (wC o ad cI cZ cG tl lc wc dc pn (nI (p_takeFirst kk (i + 1) (n, mem)).1) isw ((p_takeFirst kk (i + 1) (n, mem)).2)) := hD
        refine lv_iinc (v := nI (i + 1)) (lv' := [(3, .int (nI (i + 1))), (0, .ref (o 1)), (1, .ref (ad kk)), (2, .int (nI q))]) hx hb dX0_takeFirst_14 hl (k := 3) rfl (nI_1 i) (by decide) rfl (fun ls hl => ?_)
        refine lv_goto (tgt := 2) hx hb dX0_takeFirst_17 (by decide) ?_
        exact ih (i + 1) H locs ls (by omega) hP hD hS (lv_sub hl [1, 2, 3, 0] rfl)
  refine lv_iconst (v := nI 0) hx hb dX0_takeFirst_0 (by decide) ?_
  refine lv_istore_n (lv' := [(3, .int (nI 0)), (0, .ref (o 1)), (1, .ref (ad kk)), (2, .int (nI q))]) hx hb dX0_takeFirst_1 rfl hl (by decide) rfl (fun ls hl => ?_)
  exact loop q 0 s.heap [] ls (by omega) hP hD hS (lv_sub hl [1, 2, 3, 0] rfl)
set_option maxHeartbeats 4000000 in
set_option maxRecDepth 100000 in
/-- takeLong(v) -/
theorem c_takeLong {l : Launch} {D : va_G} {o ad : Nat → Nat} {cI cZ cG : ClassId} {tl lc wc dc pn : Int32} {isw : Nat → Int32} (n : Nat) (hn : n ≤ 256) (mem : Nat → Nat → Int32) (v : Int64) : MV l gE yX0_takeLong (.code yX0_takeLong cX0_takeLong 4 none :: tW) ({ frames := 1, cells := 0, slots := 0, locals := 21 }) D vwCl (tC cI cZ cG) [.ref (o 1), .long v] (wC o ad cI cZ cG tl lc wc dc pn (nI n) isw mem) (wC o ad cI cZ cG tl lc wc dc pn (nI (p_takeLong v (n, mem)).1) isw ((p_takeLong v (n, mem)).2)) := by
  refine MV.ofW (by decide +kernel) rfl (Nat.le_of_ble_eq_true rfl) ?_
  intro p e s m below meth c A ls hx hb hr hts hown hlk hml hA hP hK hD hT hl
  have hS : va_S A s.heap s.heap [] := va_S.rf
  have hown : s.vm.findClass RX0 = some m.cls := hown
  have hW : ∀ w ∈ tW, w.before _ s = true := fun w h => hts w (List.mem_cons_of_mem _ h)
  have hl : lv_has ls 4 [(0, .ref (o 1)), (1, .long v)] := hl
  have loop : ∀ (k i : Nat) (H : Heap) (locs : List Loc) (ls : Array Slot), i + k = 8 → va_P D vwCl (wC o ad cI cZ cG tl lc wc dc pn (nI (p_takeLongN v i (n, mem)).1) isw ((p_takeLongN v i (n, mem)).2)) H → va_D A (wC o ad cI cZ cG tl lc wc dc pn (nI (p_takeLongN v i (n, mem)).1) isw ((p_takeLongN v i (n, mem)).2)) → va_S A s.heap H locs → lv_has ls 4 [(0, .ref (o 1)), (1, .long v), (3, .int (p_sh i))] → W p l e ({ frames := 1, cells := 0, slots := 0, locals := 21 }) s m ([.ref (o 1), .long v] : List Value).toArray below meth c H locs 0 0 (MQ below (xQv D vwCl (wC o ad cI cZ cG tl lc wc dc pn (nI (p_takeLong v (n, mem)).1) isw ((p_takeLong v (n, mem)).2)) A) ([.ref (o 1), .long v] : List Value).toArray s 0 0 A) (F0 m 3 ls []) := by
    intro k
    induction k with
    | zero =>
      intro i H locs ls hk hP hD hS hl
      have hk : i = 8 := by omega
      subst hk
      refine lv_iload_n hx hb dX0_takeLong_3 rfl (lv_at hl 2 rfl) ?_
      refine lv_if_lt (tgt := 25) hx hb dX0_takeLong_4 (by decide) (fun hc => ?_) (fun hc => ?_)
      · have hP : va_P D vwCl (wC o ad cI cZ cG tl lc wc dc pn (nI (p_takeLong v (n, mem)).1) isw ((p_takeLong v (n, mem)).2)) H := by exact hP
        have hD : va_D A (wC o ad cI cZ cG tl lc wc dc pn (nI (p_takeLong v (n, mem)).1) isw ((p_takeLong v (n, mem)).2)) := by exact hD
        exact mv_ret hx hb hr hlk hS hP hD dX0_takeLong_25
      · exact absurd (by decide) hc
    | succ k ih =>
      intro i H locs ls hk hP hD hS hl
      refine lv_iload_n hx hb dX0_takeLong_3 rfl (lv_at hl 2 rfl) ?_
      refine lv_if_lt (tgt := 25) hx hb dX0_takeLong_4 (by decide) (fun hc => ?_) (fun hc => ?_)
      · exact absurd hc (p_sh_pos i (by omega))
      · refine lv_aload_n hx hb dX0_takeLong_7 rfl (lv_at hl 0 rfl) ?_
        refine lv_lload_n hx hb dX0_takeLong_8 rfl (lv_at hl 1 rfl) ?_
        refine lv_iload_n hx hb dX0_takeLong_9 rfl (lv_at hl 2 rfl) ?_
        refine lv_lushr (v := lush v (p_sh i)) hx hb dX0_takeLong_10 rfl ?_
        refine lv_l2i (v := (lush v (p_sh i)).toInt32) hx hb dX0_takeLong_11 rfl ?_
        refine lv_sipush (v := nI 255) hx hb dX0_takeLong_12 (by decide) ?_
        refine lv_iand hx hb dX0_takeLong_15 ?_
        refine mv_callV (C := RX0) (As := [.int (((lush v (p_sh i)).toInt32) &&& (nI 255))]) (rest := []) ⟨hx, hb, hml, hown, hW⟩ (c_take ((p_takeLongN v i (n, mem)).1) (p_takeLongN_le v i (n, mem) hn) ((p_takeLongN v i (n, mem)).2) (((lush v (p_sh i)).toInt32) &&& (nI 255))) gE_ok (cwV 1 hW (gV tw_202 tw_195 tw_196 tw_2 tw_197) rfl rfl rfl (by decide +kernel) ⟨Nat.le_of_ble_eq_true rfl, Nat.le_of_ble_eq_true rfl⟩) (va_recv hK hP (ci := 1) (q0 := 1) rfl rfl) hP hD hK hS hA hT rfl hl.1 rfl (Nat.le_of_ble_eq_true rfl) dX0_takeLong_16 ⟨Nat.zero_le _, Nat.zero_le _⟩ (fun H locs hP hD hS => ?_)
        have hP : va_P D vwCl (wC o ad cI cZ cG tl lc wc dc pn (nI (p_take (((lush v (p_sh i)).toInt32) &&& (nI 255)) ((p_takeLongN v i (n, mem)).1, (p_takeLongN v i (n, mem)).2)).1) isw ((p_take (((lush v (p_sh i)).toInt32) &&& (nI 255)) ((p_takeLongN v i (n, mem)).1, (p_takeLongN v i (n, mem)).2)).2)) H := hP
        have hD : va_D A (wC o ad cI cZ cG tl lc wc dc pn (nI (p_take (((lush v (p_sh i)).toInt32) &&& (nI 255)) ((p_takeLongN v i (n, mem)).1, (p_takeLongN v i (n, mem)).2)).1) isw ((p_take (((lush v (p_sh i)).toInt32) &&& (nI 255)) ((p_takeLongN v i (n, mem)).1, (p_takeLongN v i (n, mem)).2)).2)) := hD
        have hP : va_P D vwCl (wC o ad cI cZ cG tl lc wc dc pn (nI (p_takeLongN v (i + 1) (n, mem)).1) isw ((p_takeLongN v (i + 1) (n, mem)).2)) H := hP
        have hD : va_D A (wC o ad cI cZ cG tl lc wc dc pn (nI (p_takeLongN v (i + 1) (n, mem)).1) isw ((p_takeLongN v (i + 1) (n, mem)).2)) := hD
        refine lv_iinc (v := p_sh (i + 1)) (lv' := [(3, .int (p_sh (i + 1))), (0, .ref (o 1)), (1, .long v)]) hx hb dX0_takeLong_19 hl (k := 2) rfl (p_sh_next i (by omega)) (by decide) rfl (fun ls hl => ?_)
        refine lv_goto (tgt := 3) hx hb dX0_takeLong_22 (by decide) ?_
        exact ih (i + 1) H locs ls (by omega) hP hD hS (lv_sub hl [1, 2, 0] rfl)
  refine lv_bipush (v := nI 56) hx hb dX0_takeLong_0 (by decide) ?_
  refine lv_eqi (v := p_sh 0) (by decide) ?_
  refine lv_istore_n (lv' := [(3, .int (p_sh 0)), (0, .ref (o 1)), (1, .long v)]) hx hb dX0_takeLong_2 rfl hl (by decide) rfl (fun ls hl => ?_)
  exact loop 8 0 s.heap [] ls (by omega) hP hD hS (lv_sub hl [1, 2, 0] rfl)
set_option maxHeartbeats 4000000 in
set_option maxRecDepth 100000 in
/-- spreadBlock(f) -/
theorem c_spreadBlock {l : Launch} {D : va_G} {o ad : Nat → Nat} {cI cZ cG : ClassId} {tl lc wc dc pn : Int32} {isw : Nat → Int32} (n f : Nat) (hf : f + 64 ≤ 256) (mem : Nat → Nat → Int32) : MV l gE yX0_spreadBlock (.code yX0_spreadBlock cX0_spreadBlock 7 none :: tW) ({ frames := 1, cells := 0, slots := 0, locals := 24 }) D vwCl (tC cI cZ cG) [.ref (o 1), .int (nI f)] (wC o ad cI cZ cG tl lc wc dc pn (nI n) isw mem) (wC o ad cI cZ cG tl lc wc dc pn (nI n) isw (p_spread f mem)) := by
  refine MV.ofW (by decide +kernel) rfl (Nat.le_of_ble_eq_true rfl) ?_
  intro p e s m below meth c A ls hx hb hr hts hown hlk hml hA hP hK hD hT hl
  have hS : va_S A s.heap s.heap [] := va_S.rf
  have hown : s.vm.findClass RX0 = some m.cls := hown
  have hW : ∀ w ∈ tW, w.before _ s = true := fun w h => hts w (List.mem_cons_of_mem _ h)
  have hl : lv_has ls 7 [(0, .ref (o 1)), (1, .int (nI f))] := hl
  have hn : True := trivial
  have loop2 : ∀ (k i : Nat) (H : Heap) (locs : List Loc) (ls : Array Slot), i + k = 48 → va_P D vwCl (wC o ad cI cZ cG tl lc wc dc pn (nI n) isw (itr p_w2 i (itr (p_w1 f) 16 mem))) H → va_D A (wC o ad cI cZ cG tl lc wc dc pn (nI n) isw (itr p_w2 i (itr (p_w1 f) 16 mem))) → va_S A s.heap H locs → lv_has ls 7 [(0, .ref (o 1)), (1, .int (nI f)), (2, .int (nI (16 + i)))] → W p l e ({ frames := 1, cells := 0, slots := 0, locals := 24 }) s m ([.ref (o 1), .int (nI f)] : List Value).toArray below meth c H locs 0 0 (MQ below (xQv D vwCl (wC o ad cI cZ cG tl lc wc dc pn (nI n) isw (p_spread f mem)) A) ([.ref (o 1), .int (nI f)] : List Value).toArray s 0 0 A) (F0 m 71 ls []) := by
    intro k
    induction k with
    | zero =>
      intro i H locs ls hk hP hD hS hl
      have hk : i = 48 := by omega
      rw [hk] at hP hD
      refine lv_iload_n hx hb dX0_spreadBlock_71 rfl (lv_at hl 2 rfl) ?_
      refine lv_bipush (v := nI 64) hx hb dX0_spreadBlock_72 (by decide) ?_
      refine lv_icmp_ge (tgt := 176) hx hb dX0_spreadBlock_74 (by decide) (fun hc => ?_) (fun hc => ?_)
      · have hP : va_P D vwCl (wC o ad cI cZ cG tl lc wc dc pn (nI n) isw (p_spread f mem)) H := by exact hP
        have hD : va_D A (wC o ad cI cZ cG tl lc wc dc pn (nI n) isw (p_spread f mem)) := by exact hD
        exact mv_ret hx hb hr hlk hS hP hD dX0_spreadBlock_176
      · exact absurd (nI_le (by omega) (by omega)) hc
    | succ k ih =>
      intro i H locs ls hk hP hD hS hl
      refine lv_iload_n hx hb dX0_spreadBlock_71 rfl (lv_at hl 2 rfl) ?_
      refine lv_bipush (v := nI 64) hx hb dX0_spreadBlock_72 (by decide) ?_
      refine lv_icmp_ge (tgt := 176) hx hb dX0_spreadBlock_74 (by decide) (fun hc => ?_) (fun hc => ?_)
      · exact absurd hc (nI_ge (by omega) (by omega))
      · refine lv_aload_n hx hb dX0_spreadBlock_77 rfl (lv_at hl 0 rfl) ?_
        refine va_get (D := D) (ci := 1) (v := .ref (ad 4)) (C := RX0) (T := TX0) (N := 4) hx hb hW iSH hown hK hP 1 rfl rfl 2 (by decide) (hW _ tw_30) (fun _ h9 => h9) rfl dX0_spreadBlock_78 ?_
        refine lv_iload_n hx hb dX0_spreadBlock_81 rfl (lv_at hl 2 rfl) ?_
        refine lv_bipush (v := nI 15) hx hb dX0_spreadBlock_82 (by decide) ?_
        refine lv_isub hx hb dX0_spreadBlock_84 ?_
        refine lv_eqi (v := nI (1 + i)) ((pk_sub (by omega)).trans (congrArg nI (by omega))) ?_
        refine m_ld (X := wX o ad cZ cG tl lc wc dc pn (nI n) isw) hx hb hK hP 0 4 (1 + i) rfl (by decide) (show (1 + i) < 64 by omega) (by decide) dX0_spreadBlock_85 ?_
        refine lv_istore_n (lv' := [(3, .int ((itr p_w2 i (itr (p_w1 f) 16 mem)) 4 (1 + i))), (0, .ref (o 1)), (1, .int (nI f)), (2, .int (nI (16 + i)))]) hx hb dX0_spreadBlock_86 rfl hl (by decide) rfl (fun ls hl => ?_)
        refine lv_aload_n hx hb dX0_spreadBlock_87 rfl (lv_at hl 1 rfl) ?_
        refine va_get (D := D) (ci := 1) (v := .ref (ad 4)) (C := RX0) (T := TX0) (N := 4) hx hb hW iSH hown hK hP 1 rfl rfl 2 (by decide) (hW _ tw_30) (fun _ h9 => h9) rfl dX0_spreadBlock_88 ?_
        refine lv_iload_n hx hb dX0_spreadBlock_91 rfl (lv_at hl 3 rfl) ?_
        refine lv_iconst (v := nI 2) hx hb dX0_spreadBlock_92 (by decide) ?_
        refine lv_isub hx hb dX0_spreadBlock_93 ?_
        refine lv_eqi (v := nI (14 + i)) ((pk_sub (by omega)).trans (congrArg nI (by omega))) ?_
        refine m_ld (X := wX o ad cZ cG tl lc wc dc pn (nI n) isw) hx hb hK hP 0 4 (14 + i) rfl (by decide) (show (14 + i) < 64 by omega) (by decide) dX0_spreadBlock_94 ?_
        refine lv_istore (lv' := [(4, .int ((itr p_w2 i (itr (p_w1 f) 16 mem)) 4 (14 + i))), (3, .int ((itr p_w2 i (itr (p_w1 f) 16 mem)) 4 (1 + i))), (0, .ref (o 1)), (1, .int (nI f)), (2, .int (nI (16 + i)))]) hx hb dX0_spreadBlock_95 hl (by decide) rfl (fun ls hl => ?_)
        refine lv_iload_n hx hb dX0_spreadBlock_97 rfl (lv_at hl 1 rfl) ?_
        refine lv_bipush (v := nI 7) hx hb dX0_spreadBlock_98 (by decide) ?_
        refine mi_callS (As := [.int ((itr p_w2 i (itr (p_w1 f) 16 mem)) 4 (1 + i)), .int (nI 7)]) (rest := []) ⟨hx, hb, hml, hown, hW⟩ (c_rotateRight _ ((itr p_w2 i (itr (p_w1 f) 16 mem)) 4 (1 + i)) (nI 7)) gE_ok (va_cwS 2 hW (gS tw_224 tw_225 tw_11 tw_226) rfl rfl rfl (by decide +kernel) ⟨Nat.le_of_ble_eq_true rfl, Nat.le_of_ble_eq_true rfl⟩) hP hD hK hS hA hT rfl hl.1 rfl (Nat.le_of_ble_eq_true rfl) dX0_spreadBlock_100 ⟨Nat.zero_le _, Nat.zero_le _⟩ (fun H locs hP hD hS => ?_)
        refine lv_iload_n hx hb dX0_spreadBlock_103 rfl (lv_at hl 1 rfl) ?_
        refine lv_bipush (v := nI 18) hx hb dX0_spreadBlock_104 (by decide) ?_
        refine mi_callS (As := [.int ((itr p_w2 i (itr (p_w1 f) 16 mem)) 4 (1 + i)), .int (nI 18)]) (rest := [.int (rotr ((itr p_w2 i (itr (p_w1 f) 16 mem)) 4 (1 + i)) (nI 7))]) ⟨hx, hb, hml, hown, hW⟩ (c_rotateRight _ ((itr p_w2 i (itr (p_w1 f) 16 mem)) 4 (1 + i)) (nI 18)) gE_ok (va_cwS 2 hW (gS tw_224 tw_225 tw_11 tw_226) rfl rfl rfl (by decide +kernel) ⟨Nat.le_of_ble_eq_true rfl, Nat.le_of_ble_eq_true rfl⟩) hP hD hK hS hA hT rfl hl.1 rfl (Nat.le_of_ble_eq_true rfl) dX0_spreadBlock_106 ⟨Nat.zero_le _, Nat.zero_le _⟩ (fun H locs hP hD hS => ?_)
        refine lv_ixor hx hb dX0_spreadBlock_109 ?_
        refine lv_iload_n hx hb dX0_spreadBlock_110 rfl (lv_at hl 1 rfl) ?_
        refine lv_iconst (v := nI 3) hx hb dX0_spreadBlock_111 (by decide) ?_
        refine lv_iushr (v := ush ((itr p_w2 i (itr (p_w1 f) 16 mem)) 4 (1 + i)) (nI 3)) hx hb dX0_spreadBlock_112 rfl ?_
        refine lv_ixor hx hb dX0_spreadBlock_113 ?_
        refine lv_istore (lv' := [(5, .int (((rotr ((itr p_w2 i (itr (p_w1 f) 16 mem)) 4 (1 + i)) (nI 7)) ^^^ (rotr ((itr p_w2 i (itr (p_w1 f) 16 mem)) 4 (1 + i)) (nI 18))) ^^^ (ush ((itr p_w2 i (itr (p_w1 f) 16 mem)) 4 (1 + i)) (nI 3)))), (4, .int ((itr p_w2 i (itr (p_w1 f) 16 mem)) 4 (14 + i))), (3, .int ((itr p_w2 i (itr (p_w1 f) 16 mem)) 4 (1 + i))), (0, .ref (o 1)), (1, .int (nI f)), (2, .int (nI (16 + i)))]) hx hb dX0_spreadBlock_114 hl (by decide) rfl (fun ls hl => ?_)
        refine lv_iload hx hb dX0_spreadBlock_116 (lv_at hl 1 rfl) ?_
        refine lv_bipush (v := nI 17) hx hb dX0_spreadBlock_118 (by decide) ?_
        refine mi_callS (As := [.int ((itr p_w2 i (itr (p_w1 f) 16 mem)) 4 (14 + i)), .int (nI 17)]) (rest := []) ⟨hx, hb, hml, hown, hW⟩ (c_rotateRight _ ((itr p_w2 i (itr (p_w1 f) 16 mem)) 4 (14 + i)) (nI 17)) gE_ok (va_cwS 2 hW (gS tw_224 tw_225 tw_11 tw_226) rfl rfl rfl (by decide +kernel) ⟨Nat.le_of_ble_eq_true rfl, Nat.le_of_ble_eq_true rfl⟩) hP hD hK hS hA hT rfl hl.1 rfl (Nat.le_of_ble_eq_true rfl) dX0_spreadBlock_120 ⟨Nat.zero_le _, Nat.zero_le _⟩ (fun H locs hP hD hS => ?_)
        refine lv_iload hx hb dX0_spreadBlock_123 (lv_at hl 1 rfl) ?_
        refine lv_bipush (v := nI 19) hx hb dX0_spreadBlock_125 (by decide) ?_
        refine mi_callS (As := [.int ((itr p_w2 i (itr (p_w1 f) 16 mem)) 4 (14 + i)), .int (nI 19)]) (rest := [.int (rotr ((itr p_w2 i (itr (p_w1 f) 16 mem)) 4 (14 + i)) (nI 17))]) ⟨hx, hb, hml, hown, hW⟩ (c_rotateRight _ ((itr p_w2 i (itr (p_w1 f) 16 mem)) 4 (14 + i)) (nI 19)) gE_ok (va_cwS 2 hW (gS tw_224 tw_225 tw_11 tw_226) rfl rfl rfl (by decide +kernel) ⟨Nat.le_of_ble_eq_true rfl, Nat.le_of_ble_eq_true rfl⟩) hP hD hK hS hA hT rfl hl.1 rfl (Nat.le_of_ble_eq_true rfl) dX0_spreadBlock_127 ⟨Nat.zero_le _, Nat.zero_le _⟩ (fun H locs hP hD hS => ?_)
        refine lv_ixor hx hb dX0_spreadBlock_130 ?_
        refine lv_iload hx hb dX0_spreadBlock_131 (lv_at hl 1 rfl) ?_
        refine lv_bipush (v := nI 10) hx hb dX0_spreadBlock_133 (by decide) ?_
        refine lv_iushr (v := ush ((itr p_w2 i (itr (p_w1 f) 16 mem)) 4 (14 + i)) (nI 10)) hx hb dX0_spreadBlock_135 rfl ?_
        refine lv_ixor hx hb dX0_spreadBlock_136 ?_
        refine lv_istore (lv' := [(6, .int (((rotr ((itr p_w2 i (itr (p_w1 f) 16 mem)) 4 (14 + i)) (nI 17)) ^^^ (rotr ((itr p_w2 i (itr (p_w1 f) 16 mem)) 4 (14 + i)) (nI 19))) ^^^ (ush ((itr p_w2 i (itr (p_w1 f) 16 mem)) 4 (14 + i)) (nI 10)))), (5, .int (((rotr ((itr p_w2 i (itr (p_w1 f) 16 mem)) 4 (1 + i)) (nI 7)) ^^^ (rotr ((itr p_w2 i (itr (p_w1 f) 16 mem)) 4 (1 + i)) (nI 18))) ^^^ (ush ((itr p_w2 i (itr (p_w1 f) 16 mem)) 4 (1 + i)) (nI 3)))), (4, .int ((itr p_w2 i (itr (p_w1 f) 16 mem)) 4 (14 + i))), (3, .int ((itr p_w2 i (itr (p_w1 f) 16 mem)) 4 (1 + i))), (0, .ref (o 1)), (1, .int (nI f)), (2, .int (nI (16 + i)))]) hx hb dX0_spreadBlock_137 hl (by decide) rfl (fun ls hl => ?_)
        refine lv_aload_n hx hb dX0_spreadBlock_139 rfl (lv_at hl 4 rfl) ?_
        refine va_get (D := D) (ci := 1) (v := .ref (ad 4)) (C := RX0) (T := TX0) (N := 4) hx hb hW iSH hown hK hP 1 rfl rfl 2 (by decide) (hW _ tw_30) (fun _ h9 => h9) rfl dX0_spreadBlock_140 ?_
        refine lv_iload_n hx hb dX0_spreadBlock_143 rfl (lv_at hl 6 rfl) ?_
        refine lv_iload hx hb dX0_spreadBlock_144 (lv_at hl 0 rfl) ?_
        refine lv_aload_n hx hb dX0_spreadBlock_146 rfl (lv_at hl 4 rfl) ?_
        refine va_get (D := D) (ci := 1) (v := .ref (ad 4)) (C := RX0) (T := TX0) (N := 4) hx hb hW iSH hown hK hP 1 rfl rfl 2 (by decide) (hW _ tw_30) (fun _ h9 => h9) rfl dX0_spreadBlock_147 ?_
        refine lv_iload_n hx hb dX0_spreadBlock_150 rfl (lv_at hl 6 rfl) ?_
        refine lv_bipush (v := nI 7) hx hb dX0_spreadBlock_151 (by decide) ?_
        refine lv_isub hx hb dX0_spreadBlock_153 ?_
        refine lv_eqi (v := nI (9 + i)) ((pk_sub (by omega)).trans (congrArg nI (by omega))) ?_
        refine m_ld (X := wX o ad cZ cG tl lc wc dc pn (nI n) isw) hx hb hK hP 0 4 (9 + i) rfl (by decide) (show (9 + i) < 64 by omega) (by decide) dX0_spreadBlock_154 ?_
        refine lv_iadd hx hb dX0_spreadBlock_155 ?_
        refine lv_iload hx hb dX0_spreadBlock_156 (lv_at hl 1 rfl) ?_
        refine lv_iadd hx hb dX0_spreadBlock_158 ?_
        refine lv_aload_n hx hb dX0_spreadBlock_159 rfl (lv_at hl 4 rfl) ?_
        refine va_get (D := D) (ci := 1) (v := .ref (ad 4)) (C := RX0) (T := TX0) (N := 4) hx hb hW iSH hown hK hP 1 rfl rfl 2 (by decide) (hW _ tw_30) (fun _ h9 => h9) rfl dX0_spreadBlock_160 ?_
        refine lv_iload_n hx hb dX0_spreadBlock_163 rfl (lv_at hl 6 rfl) ?_
        refine lv_bipush (v := nI 16) hx hb dX0_spreadBlock_164 (by decide) ?_
        refine lv_isub hx hb dX0_spreadBlock_166 ?_
        refine lv_eqi (v := nI i) ((pk_sub (by omega)).trans (congrArg nI (by omega))) ?_
        refine m_ld (X := wX o ad cZ cG tl lc wc dc pn (nI n) isw) hx hb hK hP 0 4 i rfl (by decide) (show i < 64 by omega) (by decide) dX0_spreadBlock_167 ?_
        refine lv_iadd hx hb dX0_spreadBlock_168 ?_
        refine m_st (X := wX o ad cZ cG tl lc wc dc pn (nI n) isw) hx hb hK hP hD hS 0 4 (16 + i) rfl (by decide) (show (16 + i) < 64 by omega) (by decide) dX0_spreadBlock_169 (fun H locs hP hD hS => ?_)
        have hP : va_P D vwCl (wC o ad cI cZ cG tl lc wc dc pn (nI n) isw (va_up (itr p_w2 i (itr (p_w1 f) 16 mem)) 4 (upd ((itr p_w2 i (itr (p_w1 f) 16 mem)) 4) (16 + i) ((((((rotr ((itr p_w2 i (itr (p_w1 f) 16 mem)) 4 (14 + i)) (nI 17)) ^^^ (rotr ((itr p_w2 i (itr (p_w1 f) 16 mem)) 4 (14 + i)) (nI 19))) ^^^ (ush ((itr p_w2 i (itr (p_w1 f) 16 mem)) 4 (14 + i)) (nI 10))) + ((itr p_w2 i (itr (p_w1 f) 16 mem)) 4 (9 + i))) + (((rotr ((itr p_w2 i (itr (p_w1 f) 16 mem)) 4 (1 + i)) (nI 7)) ^^^ (rotr ((itr p_w2 i (itr (p_w1 f) 16 mem)) 4 (1 + i)) (nI 18))) ^^^ (ush ((itr p_w2 i (itr (p_w1 f) 16 mem)) 4 (1 + i)) (nI 3)))) + ((itr p_w2 i (itr (p_w1 f) 16 mem)) 4 i))))) H := hP
        have hD : va_D A (wC o ad cI cZ cG tl lc wc dc pn (nI n) isw (va_up (itr p_w2 i (itr (p_w1 f) 16 mem)) 4 (upd ((itr p_w2 i (itr (p_w1 f) 16 mem)) 4) (16 + i) ((((((rotr ((itr p_w2 i (itr (p_w1 f) 16 mem)) 4 (14 + i)) (nI 17)) ^^^ (rotr ((itr p_w2 i (itr (p_w1 f) 16 mem)) 4 (14 + i)) (nI 19))) ^^^ (ush ((itr p_w2 i (itr (p_w1 f) 16 mem)) 4 (14 + i)) (nI 10))) + ((itr p_w2 i (itr (p_w1 f) 16 mem)) 4 (9 + i))) + (((rotr ((itr p_w2 i (itr (p_w1 f) 16 mem)) 4 (1 + i)) (nI 7)) ^^^ (rotr ((itr p_w2 i (itr (p_w1 f) 16 mem)) 4 (1 + i)) (nI 18))) ^^^ (ush ((itr p_w2 i (itr (p_w1 f) 16 mem)) 4 (1 + i)) (nI 3)))) + ((itr p_w2 i (itr (p_w1 f) 16 mem)) 4 i))))) := hD
        have hP : va_P D vwCl (wC o ad cI cZ cG tl lc wc dc pn (nI n) isw (itr p_w2 (i + 1) (itr (p_w1 f) 16 mem))) H := hP
        have hD : va_D A (wC o ad cI cZ cG tl lc wc dc pn (nI n) isw (itr p_w2 (i + 1) (itr (p_w1 f) 16 mem))) := hD
        refine lv_iinc (v := nI (16 + (i + 1))) (lv' := [(2, .int (nI (16 + (i + 1)))), (6, .int (((rotr ((itr p_w2 i (itr (p_w1 f) 16 mem)) 4 (14 + i)) (nI 17)) ^^^ (rotr ((itr p_w2 i (itr (p_w1 f) 16 mem)) 4 (14 + i)) (nI 19))) ^^^ (ush ((itr p_w2 i (itr (p_w1 f) 16 mem)) 4 (14 + i)) (nI 10)))), (5, .int (((rotr ((itr p_w2 i (itr (p_w1 f) 16 mem)) 4 (1 + i)) (nI 7)) ^^^ (rotr ((itr p_w2 i (itr (p_w1 f) 16 mem)) 4 (1 + i)) (nI 18))) ^^^ (ush ((itr p_w2 i (itr (p_w1 f) 16 mem)) 4 (1 + i)) (nI 3)))), (4, .int ((itr p_w2 i (itr (p_w1 f) 16 mem)) 4 (14 + i))), (3, .int ((itr p_w2 i (itr (p_w1 f) 16 mem)) 4 (1 + i))), (0, .ref (o 1)), (1, .int (nI f))]) hx hb dX0_spreadBlock_170 hl (k := 6) rfl (nI_1 (16 + i)) (by decide) rfl (fun ls hl => ?_)
        refine lv_goto (tgt := 71) hx hb dX0_spreadBlock_173 (by decide) ?_
        exact ih (i + 1) H locs ls (by omega) hP hD hS (lv_sub hl [5, 6, 0] rfl)
  have loop1 : ∀ (k i : Nat) (H : Heap) (locs : List Loc) (ls : Array Slot), i + k = 16 → va_P D vwCl (wC o ad cI cZ cG tl lc wc dc pn (nI n) isw (itr (p_w1 f) i mem)) H → va_D A (wC o ad cI cZ cG tl lc wc dc pn (nI n) isw (itr (p_w1 f) i mem)) → va_S A s.heap H locs → lv_has ls 7 [(0, .ref (o 1)), (1, .int (nI f)), (2, .int (nI i))] → W p l e ({ frames := 1, cells := 0, slots := 0, locals := 24 }) s m ([.ref (o 1), .int (nI f)] : List Value).toArray below meth c H locs 0 0 (MQ below (xQv D vwCl (wC o ad cI cZ cG tl lc wc dc pn (nI n) isw (p_spread f mem)) A) ([.ref (o 1), .int (nI f)] : List Value).toArray s 0 0 A) (F0 m 2 ls []) := by
    intro k
    induction k with
    | zero =>
      intro i H locs ls hk hP hD hS hl
      have hk : i = 16 := by omega
      rw [hk] at hP hD
      refine lv_iload_n hx hb dX0_spreadBlock_2 rfl (lv_at hl 2 rfl) ?_
      refine lv_bipush (v := nI 16) hx hb dX0_spreadBlock_3 (by decide) ?_
      refine lv_icmp_ge (tgt := 68) hx hb dX0_spreadBlock_5 (by decide) (fun hc => ?_) (fun hc => ?_)
      · refine lv_bipush (v := nI 16) hx hb dX0_spreadBlock_68 (by decide) ?_
        refine lv_istore_n (lv' := [(2, .int (nI 16)), (0, .ref (o 1)), (1, .int (nI f))]) hx hb dX0_spreadBlock_70 rfl hl (by decide) rfl (fun ls hl => ?_)
        exact loop2 48 0 H locs ls (by omega) hP hD hS (lv_sub hl [1, 2, 0] rfl)
      · exact absurd (nI_le (by omega) (by omega)) hc
    | succ k ih =>
      intro i H locs ls hk hP hD hS hl
      refine lv_iload_n hx hb dX0_spreadBlock_2 rfl (lv_at hl 2 rfl) ?_
      refine lv_bipush (v := nI 16) hx hb dX0_spreadBlock_3 (by decide) ?_
      refine lv_icmp_ge (tgt := 68) hx hb dX0_spreadBlock_5 (by decide) (fun hc => ?_) (fun hc => ?_)
      · exact absurd hc (nI_ge (by omega) (by omega))
      · refine lv_iload_n hx hb dX0_spreadBlock_8 rfl (lv_at hl 1 rfl) ?_
        refine lv_iconst (v := nI 4) hx hb dX0_spreadBlock_9 (by decide) ?_
        refine lv_iload_n hx hb dX0_spreadBlock_10 rfl (lv_at hl 2 rfl) ?_
        refine lv_imul hx hb dX0_spreadBlock_11 ?_
        refine lv_eqi (v := nI (4 * i)) (pk_mul 4 i) ?_
        refine lv_iadd hx hb dX0_spreadBlock_12 ?_
        refine lv_eqi (v := nI (f + 4 * i)) (nI_add f (4 * i)) ?_
        refine lv_istore_n (lv' := [(3, .int (nI (f + 4 * i))), (0, .ref (o 1)), (1, .int (nI f)), (2, .int (nI i))]) hx hb dX0_spreadBlock_13 rfl hl (by decide) rfl (fun ls hl => ?_)
        refine lv_aload_n hx hb dX0_spreadBlock_14 rfl (lv_at hl 1 rfl) ?_
        refine va_get (D := D) (ci := 1) (v := .ref (ad 4)) (C := RX0) (T := TX0) (N := 4) hx hb hW iSH hown hK hP 1 rfl rfl 2 (by decide) (hW _ tw_30) (fun _ h9 => h9) rfl dX0_spreadBlock_15 ?_
        refine lv_iload_n hx hb dX0_spreadBlock_18 rfl (lv_at hl 3 rfl) ?_
        refine lv_aload_n hx hb dX0_spreadBlock_19 rfl (lv_at hl 1 rfl) ?_
        refine va_get (D := D) (ci := 1) (v := .ref (ad 3)) (C := RX0) (T := TX0) (N := 4) hx hb hW iSH hown hK hP 1 rfl rfl 0 (by decide) (hW _ tw_28) (fun _ h9 => h9) rfl dX0_spreadBlock_20 ?_
        refine lv_iload_n hx hb dX0_spreadBlock_23 rfl (lv_at hl 0 rfl) ?_
        refine m_ld (X := wX o ad cZ cG tl lc wc dc pn (nI n) isw) hx hb hK hP 0 3 (f + 4 * i) rfl (by decide) (show (f + 4 * i) < 256 by omega) (by decide) dX0_spreadBlock_24 ?_
        refine lv_bipush (v := nI 24) hx hb dX0_spreadBlock_25 (by decide) ?_
        refine lv_ishl hx hb dX0_spreadBlock_27 ?_
        refine lv_aload_n hx hb dX0_spreadBlock_28 rfl (lv_at hl 1 rfl) ?_
        refine va_get (D := D) (ci := 1) (v := .ref (ad 3)) (C := RX0) (T := TX0) (N := 4) hx hb hW iSH hown hK hP 1 rfl rfl 0 (by decide) (hW _ tw_28) (fun _ h9 => h9) rfl dX0_spreadBlock_29 ?_
        refine lv_iload_n hx hb dX0_spreadBlock_32 rfl (lv_at hl 0 rfl) ?_
        refine lv_iconst (v := nI 1) hx hb dX0_spreadBlock_33 (by decide) ?_
        refine lv_iadd hx hb dX0_spreadBlock_34 ?_
        refine lv_eqi (v := nI (f + 4 * i + 1)) (nI_add (f + 4 * i) 1) ?_
        refine m_ld (X := wX o ad cZ cG tl lc wc dc pn (nI n) isw) hx hb hK hP 0 3 (f + 4 * i + 1) rfl (by decide) (show (f + 4 * i + 1) < 256 by omega) (by decide) dX0_spreadBlock_35 ?_
        refine lv_bipush (v := nI 16) hx hb dX0_spreadBlock_36 (by decide) ?_
        refine lv_ishl hx hb dX0_spreadBlock_38 ?_
        refine lv_ior hx hb dX0_spreadBlock_39 ?_
        refine lv_aload_n hx hb dX0_spreadBlock_40 rfl (lv_at hl 1 rfl) ?_
        refine va_get (D := D) (ci := 1) (v := .ref (ad 3)) (C := RX0) (T := TX0) (N := 4) hx hb hW iSH hown hK hP 1 rfl rfl 0 (by decide) (hW _ tw_28) (fun _ h9 => h9) rfl dX0_spreadBlock_41 ?_
        refine lv_iload_n hx hb dX0_spreadBlock_44 rfl (lv_at hl 0 rfl) ?_
        refine lv_iconst (v := nI 2) hx hb dX0_spreadBlock_45 (by decide) ?_
        refine lv_iadd hx hb dX0_spreadBlock_46 ?_
        refine lv_eqi (v := nI (f + 4 * i + 2)) (nI_add (f + 4 * i) 2) ?_
        refine m_ld (X := wX o ad cZ cG tl lc wc dc pn (nI n) isw) hx hb hK hP 0 3 (f + 4 * i + 2) rfl (by decide) (show (f + 4 * i + 2) < 256 by omega) (by decide) dX0_spreadBlock_47 ?_
        refine lv_bipush (v := nI 8) hx hb dX0_spreadBlock_48 (by decide) ?_
        refine lv_ishl hx hb dX0_spreadBlock_50 ?_
        refine lv_ior hx hb dX0_spreadBlock_51 ?_
        refine lv_aload_n hx hb dX0_spreadBlock_52 rfl (lv_at hl 1 rfl) ?_
        refine va_get (D := D) (ci := 1) (v := .ref (ad 3)) (C := RX0) (T := TX0) (N := 4) hx hb hW iSH hown hK hP 1 rfl rfl 0 (by decide) (hW _ tw_28) (fun _ h9 => h9) rfl dX0_spreadBlock_53 ?_
        refine lv_iload_n hx hb dX0_spreadBlock_56 rfl (lv_at hl 0 rfl) ?_
        refine lv_iconst (v := nI 3) hx hb dX0_spreadBlock_57 (by decide) ?_
        refine lv_iadd hx hb dX0_spreadBlock_58 ?_
        refine lv_eqi (v := nI (f + 4 * i + 3)) (nI_add (f + 4 * i) 3) ?_
        refine m_ld (X := wX o ad cZ cG tl lc wc dc pn (nI n) isw) hx hb hK hP 0 3 (f + 4 * i + 3) rfl (by decide) (show (f + 4 * i + 3) < 256 by omega) (by decide) dX0_spreadBlock_59 ?_
        refine lv_ior hx hb dX0_spreadBlock_60 ?_
        refine m_st (X := wX o ad cZ cG tl lc wc dc pn (nI n) isw) hx hb hK hP hD hS 0 4 i rfl (by decide) (show i < 64 by omega) (by decide) dX0_spreadBlock_61 (fun H locs hP hD hS => ?_)
        have hP : va_P D vwCl (wC o ad cI cZ cG tl lc wc dc pn (nI n) isw (va_up (itr (p_w1 f) i mem) 4 (upd ((itr (p_w1 f) i mem) 4) i ((((((itr (p_w1 f) i mem) 3 (f + 4 * i)) <<< ((nI 24) &&& 31)) ||| (((itr (p_w1 f) i mem) 3 (f + 4 * i + 1)) <<< ((nI 16) &&& 31))) ||| (((itr (p_w1 f) i mem) 3 (f + 4 * i + 2)) <<< ((nI 8) &&& 31))) ||| ((itr (p_w1 f) i mem) 3 (f + 4 * i + 3)))))) H := hP
        have hD : va_D A (wC o ad cI cZ cG tl lc wc dc pn (nI n) isw (va_up (itr (p_w1 f) i mem) 4 (upd ((itr (p_w1 f) i mem) 4) i ((((((itr (p_w1 f) i mem) 3 (f + 4 * i)) <<< ((nI 24) &&& 31)) ||| (((itr (p_w1 f) i mem) 3 (f + 4 * i + 1)) <<< ((nI 16) &&& 31))) ||| (((itr (p_w1 f) i mem) 3 (f + 4 * i + 2)) <<< ((nI 8) &&& 31))) ||| ((itr (p_w1 f) i mem) 3 (f + 4 * i + 3)))))) := hD
        have hP : va_P D vwCl (wC o ad cI cZ cG tl lc wc dc pn (nI n) isw (itr (p_w1 f) (i + 1) mem)) H := hP
        have hD : va_D A (wC o ad cI cZ cG tl lc wc dc pn (nI n) isw (itr (p_w1 f) (i + 1) mem)) := hD
        refine lv_iinc (v := nI (i + 1)) (lv' := [(2, .int (nI (i + 1))), (3, .int (nI (f + 4 * i))), (0, .ref (o 1)), (1, .int (nI f))]) hx hb dX0_spreadBlock_62 hl (k := 3) rfl (nI_1 i) (by decide) rfl (fun ls hl => ?_)
        refine lv_goto (tgt := 2) hx hb dX0_spreadBlock_65 (by decide) ?_
        exact ih (i + 1) H locs ls (by omega) hP hD hS (lv_sub hl [2, 3, 0] rfl)
  refine lv_iconst (v := nI 0) hx hb dX0_spreadBlock_0 (by decide) ?_
  refine lv_istore_n (lv' := [(2, .int (nI 0)), (0, .ref (o 1)), (1, .int (nI f))]) hx hb dX0_spreadBlock_1 rfl hl (by decide) rfl (fun ls hl => ?_)
  exact loop1 16 0 s.heap [] ls (by omega) hP hD hS (lv_sub hl [1, 2, 0] rfl)
set_option maxHeartbeats 4000000 in
set_option maxRecDepth 100000 in
/-- stirState() -/
theorem c_stirState {l : Launch} {D : va_G} {o ad : Nat → Nat} {cI cZ cG : ClassId} {tl lc wc dc pn : Int32} {isw : Nat → Int32} (n : Nat) (mem : Nat → Nat → Int32) : MV l gE yX0_stirState (.code yX0_stirState cX0_stirState 15 none :: tW) ({ frames := 1, cells := 0, slots := 0, locals := 24 }) D vwCl (tC cI cZ cG) [.ref (o 1)] (wC o ad cI cZ cG tl lc wc dc pn (nI n) isw mem) (wC o ad cI cZ cG tl lc wc dc pn (nI n) isw (p_stir mem)) := by
  refine MV.ofW (by decide +kernel) rfl (Nat.le_of_ble_eq_true rfl) ?_
  intro p e s m below meth c A ls hx hb hr hts hown hlk hml hA hP hK hD hT hl
  have hS : va_S A s.heap s.heap [] := va_S.rf
  have hown : s.vm.findClass RX0 = some m.cls := hown
  have hW : ∀ w ∈ tW, w.before _ s = true := fun w h => hts w (List.mem_cons_of_mem _ h)
  have hl : lv_has ls 15 [(0, .ref (o 1))] := hl
  obtain ⟨⟨t1, t2, hZ1, hT1, hZ2, hT2⟩, hTx⟩ := id hT
  have loop : ∀ (k i : Nat) (H : Heap) (locs : List Loc) (ls : Array Slot), i + k = 64 → va_P D vwCl (wC o ad cI cZ cG tl lc wc dc pn (nI n) isw mem) H → va_D A (wC o ad cI cZ cG tl lc wc dc pn (nI n) isw mem) → va_S A s.heap H locs → lv_has ls 15 [(0, .ref (o 1)), (1, .int (p_rnds mem i 0)), (2, .int (p_rnds mem i 1)), (3, .int (p_rnds mem i 2)), (4, .int (p_rnds mem i 3)), (5, .int (p_rnds mem i 4)), (6, .int (p_rnds mem i 5)), (7, .int (p_rnds mem i 6)), (8, .int (p_rnds mem i 7)), (9, .int (nI i))] → W p l e ({ frames := 1, cells := 0, slots := 0, locals := 24 }) s m ([.ref (o 1)] : List Value).toArray below meth c H locs 0 0 (MQ below (xQv D vwCl (wC o ad cI cZ cG tl lc wc dc pn (nI n) isw (p_stir mem)) A) ([.ref (o 1)] : List Value).toArray s 0 0 A) (F0 m 66 ls []) := by
    intro k
    induction k with
    | zero =>
      intro i H locs ls hk hP hD hS hl
      have hk : i = 64 := by omega
      rw [hk] at hl
      refine lv_iload hx hb dX0_stirState_66 (lv_at hl 9 rfl) ?_
      refine lv_bipush (v := nI 64) hx hb dX0_stirState_68 (by decide) ?_
      refine lv_icmp_ge (tgt := 213) hx hb dX0_stirState_70 (by decide) (fun hc => ?_) (fun hc => ?_)
      · refine lv_aload_n hx hb dX0_stirState_213 rfl (lv_at hl 0 rfl) ?_
        refine va_get (D := D) (ci := 1) (v := .ref (ad 5)) (C := RX0) (T := TX0) (N := 4) hx hb hW iSH hown hK hP 1 rfl rfl 3 (by decide) (hW _ tw_31) (fun _ h9 => h9) rfl dX0_stirState_214 ?_
        refine lv_iconst (v := nI 0) hx hb dX0_stirState_217 (by decide) ?_
        refine lv_dup2_11 hx hb dX0_stirState_218 rfl rfl ?_
        refine m_ld (X := wX o ad cZ cG tl lc wc dc pn (nI n) isw) hx hb hK hP 0 5 0 rfl (by decide) (show 0 < 8 by omega) (by decide) dX0_stirState_219 ?_
        refine lv_iload_n hx hb dX0_stirState_220 rfl (lv_at hl 1 rfl) ?_
        refine lv_iadd hx hb dX0_stirState_221 ?_
        refine m_st (X := wX o ad cZ cG tl lc wc dc pn (nI n) isw) hx hb hK hP hD hS 0 5 0 rfl (by decide) (show 0 < 8 by omega) (by decide) dX0_stirState_222 (fun H locs hP hD hS => ?_)
        have hP : va_P D vwCl (wC o ad cI cZ cG tl lc wc dc pn (nI n) isw (p_add 0 (p_rnds mem 64 0) (mem))) H := hP
        have hD : va_D A (wC o ad cI cZ cG tl lc wc dc pn (nI n) isw (p_add 0 (p_rnds mem 64 0) (mem))) := hD
        refine lv_aload_n hx hb dX0_stirState_223 rfl (lv_at hl 0 rfl) ?_
        refine va_get (D := D) (ci := 1) (v := .ref (ad 5)) (C := RX0) (T := TX0) (N := 4) hx hb hW iSH hown hK hP 1 rfl rfl 3 (by decide) (hW _ tw_31) (fun _ h9 => h9) rfl dX0_stirState_224 ?_
        refine lv_iconst (v := nI 1) hx hb dX0_stirState_227 (by decide) ?_
        refine lv_dup2_11 hx hb dX0_stirState_228 rfl rfl ?_
        refine m_ld (X := wX o ad cZ cG tl lc wc dc pn (nI n) isw) hx hb hK hP 0 5 1 rfl (by decide) (show 1 < 8 by omega) (by decide) dX0_stirState_229 ?_
        refine lv_iload_n hx hb dX0_stirState_230 rfl (lv_at hl 2 rfl) ?_
        refine lv_iadd hx hb dX0_stirState_231 ?_
        refine m_st (X := wX o ad cZ cG tl lc wc dc pn (nI n) isw) hx hb hK hP hD hS 0 5 1 rfl (by decide) (show 1 < 8 by omega) (by decide) dX0_stirState_232 (fun H locs hP hD hS => ?_)
        have hP : va_P D vwCl (wC o ad cI cZ cG tl lc wc dc pn (nI n) isw (p_add 1 (p_rnds mem 64 1) (p_add 0 (p_rnds mem 64 0) (mem)))) H := hP
        have hD : va_D A (wC o ad cI cZ cG tl lc wc dc pn (nI n) isw (p_add 1 (p_rnds mem 64 1) (p_add 0 (p_rnds mem 64 0) (mem)))) := hD
        refine lv_aload_n hx hb dX0_stirState_233 rfl (lv_at hl 0 rfl) ?_
        refine va_get (D := D) (ci := 1) (v := .ref (ad 5)) (C := RX0) (T := TX0) (N := 4) hx hb hW iSH hown hK hP 1 rfl rfl 3 (by decide) (hW _ tw_31) (fun _ h9 => h9) rfl dX0_stirState_234 ?_
        refine lv_iconst (v := nI 2) hx hb dX0_stirState_237 (by decide) ?_
        refine lv_dup2_11 hx hb dX0_stirState_238 rfl rfl ?_
        refine m_ld (X := wX o ad cZ cG tl lc wc dc pn (nI n) isw) hx hb hK hP 0 5 2 rfl (by decide) (show 2 < 8 by omega) (by decide) dX0_stirState_239 ?_
        refine lv_iload_n hx hb dX0_stirState_240 rfl (lv_at hl 3 rfl) ?_
        refine lv_iadd hx hb dX0_stirState_241 ?_
        refine m_st (X := wX o ad cZ cG tl lc wc dc pn (nI n) isw) hx hb hK hP hD hS 0 5 2 rfl (by decide) (show 2 < 8 by omega) (by decide) dX0_stirState_242 (fun H locs hP hD hS => ?_)
        have hP : va_P D vwCl (wC o ad cI cZ cG tl lc wc dc pn (nI n) isw (p_add 2 (p_rnds mem 64 2) (p_add 1 (p_rnds mem 64 1) (p_add 0 (p_rnds mem 64 0) (mem))))) H := hP
        have hD : va_D A (wC o ad cI cZ cG tl lc wc dc pn (nI n) isw (p_add 2 (p_rnds mem 64 2) (p_add 1 (p_rnds mem 64 1) (p_add 0 (p_rnds mem 64 0) (mem))))) := hD
        refine lv_aload_n hx hb dX0_stirState_243 rfl (lv_at hl 0 rfl) ?_
        refine va_get (D := D) (ci := 1) (v := .ref (ad 5)) (C := RX0) (T := TX0) (N := 4) hx hb hW iSH hown hK hP 1 rfl rfl 3 (by decide) (hW _ tw_31) (fun _ h9 => h9) rfl dX0_stirState_244 ?_
        refine lv_iconst (v := nI 3) hx hb dX0_stirState_247 (by decide) ?_
        refine lv_dup2_11 hx hb dX0_stirState_248 rfl rfl ?_
        refine m_ld (X := wX o ad cZ cG tl lc wc dc pn (nI n) isw) hx hb hK hP 0 5 3 rfl (by decide) (show 3 < 8 by omega) (by decide) dX0_stirState_249 ?_
        refine lv_iload hx hb dX0_stirState_250 (lv_at hl 4 rfl) ?_
        refine lv_iadd hx hb dX0_stirState_252 ?_
        refine m_st (X := wX o ad cZ cG tl lc wc dc pn (nI n) isw) hx hb hK hP hD hS 0 5 3 rfl (by decide) (show 3 < 8 by omega) (by decide) dX0_stirState_253 (fun H locs hP hD hS => ?_)
        have hP : va_P D vwCl (wC o ad cI cZ cG tl lc wc dc pn (nI n) isw (p_add 3 (p_rnds mem 64 3) (p_add 2 (p_rnds mem 64 2) (p_add 1 (p_rnds mem 64 1) (p_add 0 (p_rnds mem 64 0) (mem)))))) H := hP
        have hD : va_D A (wC o ad cI cZ cG tl lc wc dc pn (nI n) isw (p_add 3 (p_rnds mem 64 3) (p_add 2 (p_rnds mem 64 2) (p_add 1 (p_rnds mem 64 1) (p_add 0 (p_rnds mem 64 0) (mem)))))) := hD
        refine lv_aload_n hx hb dX0_stirState_254 rfl (lv_at hl 0 rfl) ?_
        refine va_get (D := D) (ci := 1) (v := .ref (ad 5)) (C := RX0) (T := TX0) (N := 4) hx hb hW iSH hown hK hP 1 rfl rfl 3 (by decide) (hW _ tw_31) (fun _ h9 => h9) rfl dX0_stirState_255 ?_
        refine lv_iconst (v := nI 4) hx hb dX0_stirState_258 (by decide) ?_
        refine lv_dup2_11 hx hb dX0_stirState_259 rfl rfl ?_
        refine m_ld (X := wX o ad cZ cG tl lc wc dc pn (nI n) isw) hx hb hK hP 0 5 4 rfl (by decide) (show 4 < 8 by omega) (by decide) dX0_stirState_260 ?_
        refine lv_iload hx hb dX0_stirState_261 (lv_at hl 5 rfl) ?_
        refine lv_iadd hx hb dX0_stirState_263 ?_
        refine m_st (X := wX o ad cZ cG tl lc wc dc pn (nI n) isw) hx hb hK hP hD hS 0 5 4 rfl (by decide) (show 4 < 8 by omega) (by decide) dX0_stirState_264 (fun H locs hP hD hS => ?_)
        have hP : va_P D vwCl (wC o ad cI cZ cG tl lc wc dc pn (nI n) isw (p_add 4 (p_rnds mem 64 4) (p_add 3 (p_rnds mem 64 3) (p_add 2 (p_rnds mem 64 2) (p_add 1 (p_rnds mem 64 1) (p_add 0 (p_rnds mem 64 0) (mem))))))) H := hP
        have hD : va_D A (wC o ad cI cZ cG tl lc wc dc pn (nI n) isw (p_add 4 (p_rnds mem 64 4) (p_add 3 (p_rnds mem 64 3) (p_add 2 (p_rnds mem 64 2) (p_add 1 (p_rnds mem 64 1) (p_add 0 (p_rnds mem 64 0) (mem))))))) := hD
        refine lv_aload_n hx hb dX0_stirState_265 rfl (lv_at hl 0 rfl) ?_
        refine va_get (D := D) (ci := 1) (v := .ref (ad 5)) (C := RX0) (T := TX0) (N := 4) hx hb hW iSH hown hK hP 1 rfl rfl 3 (by decide) (hW _ tw_31) (fun _ h9 => h9) rfl dX0_stirState_266 ?_
        refine lv_iconst (v := nI 5) hx hb dX0_stirState_269 (by decide) ?_
        refine lv_dup2_11 hx hb dX0_stirState_270 rfl rfl ?_
        refine m_ld (X := wX o ad cZ cG tl lc wc dc pn (nI n) isw) hx hb hK hP 0 5 5 rfl (by decide) (show 5 < 8 by omega) (by decide) dX0_stirState_271 ?_
        refine lv_iload hx hb dX0_stirState_272 (lv_at hl 6 rfl) ?_
        refine lv_iadd hx hb dX0_stirState_274 ?_
        refine m_st (X := wX o ad cZ cG tl lc wc dc pn (nI n) isw) hx hb hK hP hD hS 0 5 5 rfl (by decide) (show 5 < 8 by omega) (by decide) dX0_stirState_275 (fun H locs hP hD hS => ?_)
        have hP : va_P D vwCl (wC o ad cI cZ cG tl lc wc dc pn (nI n) isw (p_add 5 (p_rnds mem 64 5) (p_add 4 (p_rnds mem 64 4) (p_add 3 (p_rnds mem 64 3) (p_add 2 (p_rnds mem 64 2) (p_add 1 (p_rnds mem 64 1) (p_add 0 (p_rnds mem 64 0) (mem)))))))) H := hP
        have hD : va_D A (wC o ad cI cZ cG tl lc wc dc pn (nI n) isw (p_add 5 (p_rnds mem 64 5) (p_add 4 (p_rnds mem 64 4) (p_add 3 (p_rnds mem 64 3) (p_add 2 (p_rnds mem 64 2) (p_add 1 (p_rnds mem 64 1) (p_add 0 (p_rnds mem 64 0) (mem)))))))) := hD
        refine lv_aload_n hx hb dX0_stirState_276 rfl (lv_at hl 0 rfl) ?_
        refine va_get (D := D) (ci := 1) (v := .ref (ad 5)) (C := RX0) (T := TX0) (N := 4) hx hb hW iSH hown hK hP 1 rfl rfl 3 (by decide) (hW _ tw_31) (fun _ h9 => h9) rfl dX0_stirState_277 ?_
        refine lv_bipush (v := nI 6) hx hb dX0_stirState_280 (by decide) ?_
        refine lv_dup2_11 hx hb dX0_stirState_282 rfl rfl ?_
        refine m_ld (X := wX o ad cZ cG tl lc wc dc pn (nI n) isw) hx hb hK hP 0 5 6 rfl (by decide) (show 6 < 8 by omega) (by decide) dX0_stirState_283 ?_
        refine lv_iload hx hb dX0_stirState_284 (lv_at hl 7 rfl) ?_
        refine lv_iadd hx hb dX0_stirState_286 ?_
        refine m_st (X := wX o ad cZ cG tl lc wc dc pn (nI n) isw) hx hb hK hP hD hS 0 5 6 rfl (by decide) (show 6 < 8 by omega) (by decide) dX0_stirState_287 (fun H locs hP hD hS => ?_)
        have hP : va_P D vwCl (wC o ad cI cZ cG tl lc wc dc pn (nI n) isw (p_add 6 (p_rnds mem 64 6) (p_add 5 (p_rnds mem 64 5) (p_add 4 (p_rnds mem 64 4) (p_add 3 (p_rnds mem 64 3) (p_add 2 (p_rnds mem 64 2) (p_add 1 (p_rnds mem 64 1) (p_add 0 (p_rnds mem 64 0) (mem))))))))) H := hP
        have hD : va_D A (wC o ad cI cZ cG tl lc wc dc pn (nI n) isw (p_add 6 (p_rnds mem 64 6) (p_add 5 (p_rnds mem 64 5) (p_add 4 (p_rnds mem 64 4) (p_add 3 (p_rnds mem 64 3) (p_add 2 (p_rnds mem 64 2) (p_add 1 (p_rnds mem 64 1) (p_add 0 (p_rnds mem 64 0) (mem))))))))) := hD
        refine lv_aload_n hx hb dX0_stirState_288 rfl (lv_at hl 0 rfl) ?_
        refine va_get (D := D) (ci := 1) (v := .ref (ad 5)) (C := RX0) (T := TX0) (N := 4) hx hb hW iSH hown hK hP 1 rfl rfl 3 (by decide) (hW _ tw_31) (fun _ h9 => h9) rfl dX0_stirState_289 ?_
        refine lv_bipush (v := nI 7) hx hb dX0_stirState_292 (by decide) ?_
        refine lv_dup2_11 hx hb dX0_stirState_294 rfl rfl ?_
        refine m_ld (X := wX o ad cZ cG tl lc wc dc pn (nI n) isw) hx hb hK hP 0 5 7 rfl (by decide) (show 7 < 8 by omega) (by decide) dX0_stirState_295 ?_
        refine lv_iload hx hb dX0_stirState_296 (lv_at hl 8 rfl) ?_
        refine lv_iadd hx hb dX0_stirState_298 ?_
        refine m_st (X := wX o ad cZ cG tl lc wc dc pn (nI n) isw) hx hb hK hP hD hS 0 5 7 rfl (by decide) (show 7 < 8 by omega) (by decide) dX0_stirState_299 (fun H locs hP hD hS => ?_)
        have hP : va_P D vwCl (wC o ad cI cZ cG tl lc wc dc pn (nI n) isw (p_add 7 (p_rnds mem 64 7) (p_add 6 (p_rnds mem 64 6) (p_add 5 (p_rnds mem 64 5) (p_add 4 (p_rnds mem 64 4) (p_add 3 (p_rnds mem 64 3) (p_add 2 (p_rnds mem 64 2) (p_add 1 (p_rnds mem 64 1) (p_add 0 (p_rnds mem 64 0) (mem)))))))))) H := hP
        have hD : va_D A (wC o ad cI cZ cG tl lc wc dc pn (nI n) isw (p_add 7 (p_rnds mem 64 7) (p_add 6 (p_rnds mem 64 6) (p_add 5 (p_rnds mem 64 5) (p_add 4 (p_rnds mem 64 4) (p_add 3 (p_rnds mem 64 3) (p_add 2 (p_rnds mem 64 2) (p_add 1 (p_rnds mem 64 1) (p_add 0 (p_rnds mem 64 0) (mem)))))))))) := hD
        have hP : va_P D vwCl (wC o ad cI cZ cG tl lc wc dc pn (nI n) isw (p_stir mem)) H := by exact hP
        have hD : va_D A (wC o ad cI cZ cG tl lc wc dc pn (nI n) isw (p_stir mem)) := by exact hD
        exact mv_ret hx hb hr hlk hS hP hD dX0_stirState_300
      · exact absurd (by decide) hc
    | succ k ih =>
      intro i H locs ls hk hP hD hS hl
      refine lv_iload hx hb dX0_stirState_66 (lv_at hl 9 rfl) ?_
      refine lv_bipush (v := nI 64) hx hb dX0_stirState_68 (by decide) ?_
      refine lv_icmp_ge (tgt := 213) hx hb dX0_stirState_70 (by decide) (fun hc => ?_) (fun hc => ?_)
      · exact absurd hc (nI_ge (by omega) (by omega))
      · refine lv_iload hx hb dX0_stirState_73 (lv_at hl 5 rfl) ?_
        refine lv_bipush (v := nI 6) hx hb dX0_stirState_75 (by decide) ?_
        refine mi_callS (As := [.int (p_rnds mem i 4), .int (nI 6)]) (rest := []) ⟨hx, hb, hml, hown, hW⟩ (c_rotateRight _ (p_rnds mem i 4) (nI 6)) gE_ok (va_cwS 2 hW (gS tw_224 tw_225 tw_11 tw_226) rfl rfl rfl (by decide +kernel) ⟨Nat.le_of_ble_eq_true rfl, Nat.le_of_ble_eq_true rfl⟩) hP hD hK hS hA hT rfl hl.1 rfl (Nat.le_of_ble_eq_true rfl) dX0_stirState_77 ⟨Nat.zero_le _, Nat.zero_le _⟩ (fun H locs hP hD hS => ?_)
        refine lv_iload hx hb dX0_stirState_80 (lv_at hl 5 rfl) ?_
        refine lv_bipush (v := nI 11) hx hb dX0_stirState_82 (by decide) ?_
        refine mi_callS (As := [.int (p_rnds mem i 4), .int (nI 11)]) (rest := [.int (rotr (p_rnds mem i 4) (nI 6))]) ⟨hx, hb, hml, hown, hW⟩ (c_rotateRight _ (p_rnds mem i 4) (nI 11)) gE_ok (va_cwS 2 hW (gS tw_224 tw_225 tw_11 tw_226) rfl rfl rfl (by decide +kernel) ⟨Nat.le_of_ble_eq_true rfl, Nat.le_of_ble_eq_true rfl⟩) hP hD hK hS hA hT rfl hl.1 rfl (Nat.le_of_ble_eq_true rfl) dX0_stirState_84 ⟨Nat.zero_le _, Nat.zero_le _⟩ (fun H locs hP hD hS => ?_)
        refine lv_ixor hx hb dX0_stirState_87 ?_
        refine lv_iload hx hb dX0_stirState_88 (lv_at hl 5 rfl) ?_
        refine lv_bipush (v := nI 25) hx hb dX0_stirState_90 (by decide) ?_
        refine mi_callS (As := [.int (p_rnds mem i 4), .int (nI 25)]) (rest := [.int ((rotr (p_rnds mem i 4) (nI 6)) ^^^ (rotr (p_rnds mem i 4) (nI 11)))]) ⟨hx, hb, hml, hown, hW⟩ (c_rotateRight _ (p_rnds mem i 4) (nI 25)) gE_ok (va_cwS 2 hW (gS tw_224 tw_225 tw_11 tw_226) rfl rfl rfl (by decide +kernel) ⟨Nat.le_of_ble_eq_true rfl, Nat.le_of_ble_eq_true rfl⟩) hP hD hK hS hA hT rfl hl.1 rfl (Nat.le_of_ble_eq_true rfl) dX0_stirState_92 ⟨Nat.zero_le _, Nat.zero_le _⟩ (fun H locs hP hD hS => ?_)
        refine lv_ixor hx hb dX0_stirState_95 ?_
        refine lv_istore (lv' := [(10, .int (((rotr (p_rnds mem i 4) (nI 6)) ^^^ (rotr (p_rnds mem i 4) (nI 11))) ^^^ (rotr (p_rnds mem i 4) (nI 25)))), (0, .ref (o 1)), (1, .int (p_rnds mem i 0)), (2, .int (p_rnds mem i 1)), (3, .int (p_rnds mem i 2)), (4, .int (p_rnds mem i 3)), (5, .int (p_rnds mem i 4)), (6, .int (p_rnds mem i 5)), (7, .int (p_rnds mem i 6)), (8, .int (p_rnds mem i 7)), (9, .int (nI i))]) hx hb dX0_stirState_96 hl (by decide) rfl (fun ls hl => ?_)
        refine lv_iload hx hb dX0_stirState_98 (lv_at hl 6 rfl) ?_
        refine lv_iload hx hb dX0_stirState_100 (lv_at hl 7 rfl) ?_
        refine lv_iand hx hb dX0_stirState_102 ?_
        refine lv_iload hx hb dX0_stirState_103 (lv_at hl 6 rfl) ?_
        refine lv_iconst (v := (-1)) hx hb dX0_stirState_105 (by decide) ?_
        refine lv_ixor hx hb dX0_stirState_106 ?_
        refine lv_iload hx hb dX0_stirState_107 (lv_at hl 8 rfl) ?_
        refine lv_iand hx hb dX0_stirState_109 ?_
        refine lv_ixor hx hb dX0_stirState_110 ?_
        refine lv_istore (lv' := [(11, .int (((p_rnds mem i 4) &&& (p_rnds mem i 5)) ^^^ (((p_rnds mem i 4) ^^^ (-1)) &&& (p_rnds mem i 6)))), (10, .int (((rotr (p_rnds mem i 4) (nI 6)) ^^^ (rotr (p_rnds mem i 4) (nI 11))) ^^^ (rotr (p_rnds mem i 4) (nI 25)))), (0, .ref (o 1)), (1, .int (p_rnds mem i 0)), (2, .int (p_rnds mem i 1)), (3, .int (p_rnds mem i 2)), (4, .int (p_rnds mem i 3)), (5, .int (p_rnds mem i 4)), (6, .int (p_rnds mem i 5)), (7, .int (p_rnds mem i 6)), (8, .int (p_rnds mem i 7)), (9, .int (nI i))]) hx hb dX0_stirState_111 hl (by decide) rfl (fun ls hl => ?_)
        refine lv_iload hx hb dX0_stirState_113 (lv_at hl 10 rfl) ?_
        refine lv_iload hx hb dX0_stirState_115 (lv_at hl 1 rfl) ?_
        refine lv_iadd hx hb dX0_stirState_117 ?_
        refine lv_iload hx hb dX0_stirState_118 (lv_at hl 0 rfl) ?_
        refine lv_iadd hx hb dX0_stirState_120 ?_
        refine va_gets hx hb hZ2 hS hown (hW _ tw_231) (fun _ h => h) dX0_stirState_121 ?_
        refine lv_iload hx hb dX0_stirState_124 (lv_at hl 11 rfl) ?_
        refine va_ti hx hb hT2 hS (vp_in_nI (show i < 64 by omega) (by decide)) (v := .int (kc i)) (by rw [nI_clamp (by omega)]) dX0_stirState_126 ?_
        refine lv_iadd hx hb dX0_stirState_127 ?_
        refine lv_aload_n hx hb dX0_stirState_128 rfl (lv_at hl 2 rfl) ?_
        refine va_get (D := D) (ci := 1) (v := .ref (ad 4)) (C := RX0) (T := TX0) (N := 4) hx hb hW iSH hown hK hP 1 rfl rfl 2 (by decide) (hW _ tw_30) (fun _ h9 => h9) rfl dX0_stirState_129 ?_
        refine lv_iload hx hb dX0_stirState_132 (lv_at hl 11 rfl) ?_
        refine m_ld (X := wX o ad cZ cG tl lc wc dc pn (nI n) isw) hx hb hK hP 0 4 i rfl (by decide) (show i < 64 by omega) (by decide) dX0_stirState_134 ?_
        refine lv_iadd hx hb dX0_stirState_135 ?_
        refine lv_istore (lv' := [(12, .int (((((p_rnds mem i 7) + (((rotr (p_rnds mem i 4) (nI 6)) ^^^ (rotr (p_rnds mem i 4) (nI 11))) ^^^ (rotr (p_rnds mem i 4) (nI 25)))) + (((p_rnds mem i 4) &&& (p_rnds mem i 5)) ^^^ (((p_rnds mem i 4) ^^^ (-1)) &&& (p_rnds mem i 6)))) + (kc i)) + (mem 4 i))), (11, .int (((p_rnds mem i 4) &&& (p_rnds mem i 5)) ^^^ (((p_rnds mem i 4) ^^^ (-1)) &&& (p_rnds mem i 6)))), (10, .int (((rotr (p_rnds mem i 4) (nI 6)) ^^^ (rotr (p_rnds mem i 4) (nI 11))) ^^^ (rotr (p_rnds mem i 4) (nI 25)))), (0, .ref (o 1)), (1, .int (p_rnds mem i 0)), (2, .int (p_rnds mem i 1)), (3, .int (p_rnds mem i 2)), (4, .int (p_rnds mem i 3)), (5, .int (p_rnds mem i 4)), (6, .int (p_rnds mem i 5)), (7, .int (p_rnds mem i 6)), (8, .int (p_rnds mem i 7)), (9, .int (nI i))]) hx hb dX0_stirState_136 hl (by decide) rfl (fun ls hl => ?_)
        refine lv_iload_n hx hb dX0_stirState_138 rfl (lv_at hl 4 rfl) ?_
        refine lv_iconst (v := nI 2) hx hb dX0_stirState_139 (by decide) ?_
        refine mi_callS (As := [.int (p_rnds mem i 0), .int (nI 2)]) (rest := []) ⟨hx, hb, hml, hown, hW⟩ (c_rotateRight _ (p_rnds mem i 0) (nI 2)) gE_ok (va_cwS 2 hW (gS tw_224 tw_225 tw_11 tw_226) rfl rfl rfl (by decide +kernel) ⟨Nat.le_of_ble_eq_true rfl, Nat.le_of_ble_eq_true rfl⟩) hP hD hK hS hA hT rfl hl.1 rfl (Nat.le_of_ble_eq_true rfl) dX0_stirState_140 ⟨Nat.zero_le _, Nat.zero_le _⟩ (fun H locs hP hD hS => ?_)
        refine lv_iload_n hx hb dX0_stirState_143 rfl (lv_at hl 4 rfl) ?_
        refine lv_bipush (v := nI 13) hx hb dX0_stirState_144 (by decide) ?_
        refine mi_callS (As := [.int (p_rnds mem i 0), .int (nI 13)]) (rest := [.int (rotr (p_rnds mem i 0) (nI 2))]) ⟨hx, hb, hml, hown, hW⟩ (c_rotateRight _ (p_rnds mem i 0) (nI 13)) gE_ok (va_cwS 2 hW (gS tw_224 tw_225 tw_11 tw_226) rfl rfl rfl (by decide +kernel) ⟨Nat.le_of_ble_eq_true rfl, Nat.le_of_ble_eq_true rfl⟩) hP hD hK hS hA hT rfl hl.1 rfl (Nat.le_of_ble_eq_true rfl) dX0_stirState_146 ⟨Nat.zero_le _, Nat.zero_le _⟩ (fun H locs hP hD hS => ?_)
        refine lv_ixor hx hb dX0_stirState_149 ?_
        refine lv_iload_n hx hb dX0_stirState_150 rfl (lv_at hl 4 rfl) ?_
        refine lv_bipush (v := nI 22) hx hb dX0_stirState_151 (by decide) ?_
        refine mi_callS (As := [.int (p_rnds mem i 0), .int (nI 22)]) (rest := [.int ((rotr (p_rnds mem i 0) (nI 2)) ^^^ (rotr (p_rnds mem i 0) (nI 13)))]) ⟨hx, hb, hml, hown, hW⟩ (c_rotateRight _ (p_rnds mem i 0) (nI 22)) gE_ok (va_cwS 2 hW (gS tw_224 tw_225 tw_11 tw_226) rfl rfl rfl (by decide +kernel) ⟨Nat.le_of_ble_eq_true rfl, Nat.le_of_ble_eq_true rfl⟩) hP hD hK hS hA hT rfl hl.1 rfl (Nat.le_of_ble_eq_true rfl) dX0_stirState_153 ⟨Nat.zero_le _, Nat.zero_le _⟩ (fun H locs hP hD hS => ?_)
        refine lv_ixor hx hb dX0_stirState_156 ?_
        refine lv_istore (lv' := [(13, .int (((rotr (p_rnds mem i 0) (nI 2)) ^^^ (rotr (p_rnds mem i 0) (nI 13))) ^^^ (rotr (p_rnds mem i 0) (nI 22)))), (12, .int (((((p_rnds mem i 7) + (((rotr (p_rnds mem i 4) (nI 6)) ^^^ (rotr (p_rnds mem i 4) (nI 11))) ^^^ (rotr (p_rnds mem i 4) (nI 25)))) + (((p_rnds mem i 4) &&& (p_rnds mem i 5)) ^^^ (((p_rnds mem i 4) ^^^ (-1)) &&& (p_rnds mem i 6)))) + (kc i)) + (mem 4 i))), (11, .int (((p_rnds mem i 4) &&& (p_rnds mem i 5)) ^^^ (((p_rnds mem i 4) ^^^ (-1)) &&& (p_rnds mem i 6)))), (10, .int (((rotr (p_rnds mem i 4) (nI 6)) ^^^ (rotr (p_rnds mem i 4) (nI 11))) ^^^ (rotr (p_rnds mem i 4) (nI 25)))), (0, .ref (o 1)), (1, .int (p_rnds mem i 0)), (2, .int (p_rnds mem i 1)), (3, .int (p_rnds mem i 2)), (4, .int (p_rnds mem i 3)), (5, .int (p_rnds mem i 4)), (6, .int (p_rnds mem i 5)), (7, .int (p_rnds mem i 6)), (8, .int (p_rnds mem i 7)), (9, .int (nI i))]) hx hb dX0_stirState_157 hl (by decide) rfl (fun ls hl => ?_)
        refine lv_iload_n hx hb dX0_stirState_159 rfl (lv_at hl 5 rfl) ?_
        refine lv_iload_n hx hb dX0_stirState_160 rfl (lv_at hl 6 rfl) ?_
        refine lv_iand hx hb dX0_stirState_161 ?_
        refine lv_iload_n hx hb dX0_stirState_162 rfl (lv_at hl 5 rfl) ?_
        refine lv_iload_n hx hb dX0_stirState_163 rfl (lv_at hl 7 rfl) ?_
        refine lv_iand hx hb dX0_stirState_164 ?_
        refine lv_ixor hx hb dX0_stirState_165 ?_
        refine lv_iload_n hx hb dX0_stirState_166 rfl (lv_at hl 6 rfl) ?_
        refine lv_iload_n hx hb dX0_stirState_167 rfl (lv_at hl 7 rfl) ?_
        refine lv_iand hx hb dX0_stirState_168 ?_
        refine lv_ixor hx hb dX0_stirState_169 ?_
        refine lv_istore (lv' := [(14, .int ((((p_rnds mem i 0) &&& (p_rnds mem i 1)) ^^^ ((p_rnds mem i 0) &&& (p_rnds mem i 2))) ^^^ ((p_rnds mem i 1) &&& (p_rnds mem i 2)))), (13, .int (((rotr (p_rnds mem i 0) (nI 2)) ^^^ (rotr (p_rnds mem i 0) (nI 13))) ^^^ (rotr (p_rnds mem i 0) (nI 22)))), (12, .int (((((p_rnds mem i 7) + (((rotr (p_rnds mem i 4) (nI 6)) ^^^ (rotr (p_rnds mem i 4) (nI 11))) ^^^ (rotr (p_rnds mem i 4) (nI 25)))) + (((p_rnds mem i 4) &&& (p_rnds mem i 5)) ^^^ (((p_rnds mem i 4) ^^^ (-1)) &&& (p_rnds mem i 6)))) + (kc i)) + (mem 4 i))), (11, .int (((p_rnds mem i 4) &&& (p_rnds mem i 5)) ^^^ (((p_rnds mem i 4) ^^^ (-1)) &&& (p_rnds mem i 6)))), (10, .int (((rotr (p_rnds mem i 4) (nI 6)) ^^^ (rotr (p_rnds mem i 4) (nI 11))) ^^^ (rotr (p_rnds mem i 4) (nI 25)))), (0, .ref (o 1)), (1, .int (p_rnds mem i 0)), (2, .int (p_rnds mem i 1)), (3, .int (p_rnds mem i 2)), (4, .int (p_rnds mem i 3)), (5, .int (p_rnds mem i 4)), (6, .int (p_rnds mem i 5)), (7, .int (p_rnds mem i 6)), (8, .int (p_rnds mem i 7)), (9, .int (nI i))]) hx hb dX0_stirState_170 hl (by decide) rfl (fun ls hl => ?_)
        refine lv_iload hx hb dX0_stirState_172 (lv_at hl 12 rfl) ?_
        refine lv_istore (lv' := [(8, .int (p_rnds mem i 6)), (14, .int ((((p_rnds mem i 0) &&& (p_rnds mem i 1)) ^^^ ((p_rnds mem i 0) &&& (p_rnds mem i 2))) ^^^ ((p_rnds mem i 1) &&& (p_rnds mem i 2)))), (13, .int (((rotr (p_rnds mem i 0) (nI 2)) ^^^ (rotr (p_rnds mem i 0) (nI 13))) ^^^ (rotr (p_rnds mem i 0) (nI 22)))), (12, .int (((((p_rnds mem i 7) + (((rotr (p_rnds mem i 4) (nI 6)) ^^^ (rotr (p_rnds mem i 4) (nI 11))) ^^^ (rotr (p_rnds mem i 4) (nI 25)))) + (((p_rnds mem i 4) &&& (p_rnds mem i 5)) ^^^ (((p_rnds mem i 4) ^^^ (-1)) &&& (p_rnds mem i 6)))) + (kc i)) + (mem 4 i))), (11, .int (((p_rnds mem i 4) &&& (p_rnds mem i 5)) ^^^ (((p_rnds mem i 4) ^^^ (-1)) &&& (p_rnds mem i 6)))), (10, .int (((rotr (p_rnds mem i 4) (nI 6)) ^^^ (rotr (p_rnds mem i 4) (nI 11))) ^^^ (rotr (p_rnds mem i 4) (nI 25)))), (0, .ref (o 1)), (1, .int (p_rnds mem i 0)), (2, .int (p_rnds mem i 1)), (3, .int (p_rnds mem i 2)), (4, .int (p_rnds mem i 3)), (5, .int (p_rnds mem i 4)), (6, .int (p_rnds mem i 5)), (7, .int (p_rnds mem i 6)), (9, .int (nI i))]) hx hb dX0_stirState_174 hl (by decide) rfl (fun ls hl => ?_)
        refine lv_iload hx hb dX0_stirState_176 (lv_at hl 12 rfl) ?_
        refine lv_istore (lv' := [(7, .int (p_rnds mem i 5)), (8, .int (p_rnds mem i 6)), (14, .int ((((p_rnds mem i 0) &&& (p_rnds mem i 1)) ^^^ ((p_rnds mem i 0) &&& (p_rnds mem i 2))) ^^^ ((p_rnds mem i 1) &&& (p_rnds mem i 2)))), (13, .int (((rotr (p_rnds mem i 0) (nI 2)) ^^^ (rotr (p_rnds mem i 0) (nI 13))) ^^^ (rotr (p_rnds mem i 0) (nI 22)))), (12, .int (((((p_rnds mem i 7) + (((rotr (p_rnds mem i 4) (nI 6)) ^^^ (rotr (p_rnds mem i 4) (nI 11))) ^^^ (rotr (p_rnds mem i 4) (nI 25)))) + (((p_rnds mem i 4) &&& (p_rnds mem i 5)) ^^^ (((p_rnds mem i 4) ^^^ (-1)) &&& (p_rnds mem i 6)))) + (kc i)) + (mem 4 i))), (11, .int (((p_rnds mem i 4) &&& (p_rnds mem i 5)) ^^^ (((p_rnds mem i 4) ^^^ (-1)) &&& (p_rnds mem i 6)))), (10, .int (((rotr (p_rnds mem i 4) (nI 6)) ^^^ (rotr (p_rnds mem i 4) (nI 11))) ^^^ (rotr (p_rnds mem i 4) (nI 25)))), (0, .ref (o 1)), (1, .int (p_rnds mem i 0)), (2, .int (p_rnds mem i 1)), (3, .int (p_rnds mem i 2)), (4, .int (p_rnds mem i 3)), (5, .int (p_rnds mem i 4)), (6, .int (p_rnds mem i 5)), (9, .int (nI i))]) hx hb dX0_stirState_178 hl (by decide) rfl (fun ls hl => ?_)
        refine lv_iload hx hb dX0_stirState_180 (lv_at hl 12 rfl) ?_
        refine lv_istore (lv' := [(6, .int (p_rnds mem i 4)), (7, .int (p_rnds mem i 5)), (8, .int (p_rnds mem i 6)), (14, .int ((((p_rnds mem i 0) &&& (p_rnds mem i 1)) ^^^ ((p_rnds mem i 0) &&& (p_rnds mem i 2))) ^^^ ((p_rnds mem i 1) &&& (p_rnds mem i 2)))), (13, .int (((rotr (p_rnds mem i 0) (nI 2)) ^^^ (rotr (p_rnds mem i 0) (nI 13))) ^^^ (rotr (p_rnds mem i 0) (nI 22)))), (12, .int (((((p_rnds mem i 7) + (((rotr (p_rnds mem i 4) (nI 6)) ^^^ (rotr (p_rnds mem i 4) (nI 11))) ^^^ (rotr (p_rnds mem i 4) (nI 25)))) + (((p_rnds mem i 4) &&& (p_rnds mem i 5)) ^^^ (((p_rnds mem i 4) ^^^ (-1)) &&& (p_rnds mem i 6)))) + (kc i)) + (mem 4 i))), (11, .int (((p_rnds mem i 4) &&& (p_rnds mem i 5)) ^^^ (((p_rnds mem i 4) ^^^ (-1)) &&& (p_rnds mem i 6)))), (10, .int (((rotr (p_rnds mem i 4) (nI 6)) ^^^ (rotr (p_rnds mem i 4) (nI 11))) ^^^ (rotr (p_rnds mem i 4) (nI 25)))), (0, .ref (o 1)), (1, .int (p_rnds mem i 0)), (2, .int (p_rnds mem i 1)), (3, .int (p_rnds mem i 2)), (4, .int (p_rnds mem i 3)), (5, .int (p_rnds mem i 4)), (9, .int (nI i))]) hx hb dX0_stirState_182 hl (by decide) rfl (fun ls hl => ?_)
        refine lv_iload hx hb dX0_stirState_184 (lv_at hl 12 rfl) ?_
        refine lv_iload hx hb dX0_stirState_186 (lv_at hl 5 rfl) ?_
        refine lv_iadd hx hb dX0_stirState_188 ?_
        refine lv_istore (lv' := [(5, .int ((p_rnds mem i 3) + (((((p_rnds mem i 7) + (((rotr (p_rnds mem i 4) (nI 6)) ^^^ (rotr (p_rnds mem i 4) (nI 11))) ^^^ (rotr (p_rnds mem i 4) (nI 25)))) + (((p_rnds mem i 4) &&& (p_rnds mem i 5)) ^^^ (((p_rnds mem i 4) ^^^ (-1)) &&& (p_rnds mem i 6)))) + (kc i)) + (mem 4 i)))), (6, .int (p_rnds mem i 4)), (7, .int (p_rnds mem i 5)), (8, .int (p_rnds mem i 6)), (14, .int ((((p_rnds mem i 0) &&& (p_rnds mem i 1)) ^^^ ((p_rnds mem i 0) &&& (p_rnds mem i 2))) ^^^ ((p_rnds mem i 1) &&& (p_rnds mem i 2)))), (13, .int (((rotr (p_rnds mem i 0) (nI 2)) ^^^ (rotr (p_rnds mem i 0) (nI 13))) ^^^ (rotr (p_rnds mem i 0) (nI 22)))), (12, .int (((((p_rnds mem i 7) + (((rotr (p_rnds mem i 4) (nI 6)) ^^^ (rotr (p_rnds mem i 4) (nI 11))) ^^^ (rotr (p_rnds mem i 4) (nI 25)))) + (((p_rnds mem i 4) &&& (p_rnds mem i 5)) ^^^ (((p_rnds mem i 4) ^^^ (-1)) &&& (p_rnds mem i 6)))) + (kc i)) + (mem 4 i))), (11, .int (((p_rnds mem i 4) &&& (p_rnds mem i 5)) ^^^ (((p_rnds mem i 4) ^^^ (-1)) &&& (p_rnds mem i 6)))), (10, .int (((rotr (p_rnds mem i 4) (nI 6)) ^^^ (rotr (p_rnds mem i 4) (nI 11))) ^^^ (rotr (p_rnds mem i 4) (nI 25)))), (0, .ref (o 1)), (1, .int (p_rnds mem i 0)), (2, .int (p_rnds mem i 1)), (3, .int (p_rnds mem i 2)), (4, .int (p_rnds mem i 3)), (9, .int (nI i))]) hx hb dX0_stirState_189 hl (by decide) rfl (fun ls hl => ?_)
        refine lv_iload_n hx hb dX0_stirState_191 rfl (lv_at hl 12 rfl) ?_
        refine lv_istore (lv' := [(4, .int (p_rnds mem i 2)), (5, .int ((p_rnds mem i 3) + (((((p_rnds mem i 7) + (((rotr (p_rnds mem i 4) (nI 6)) ^^^ (rotr (p_rnds mem i 4) (nI 11))) ^^^ (rotr (p_rnds mem i 4) (nI 25)))) + (((p_rnds mem i 4) &&& (p_rnds mem i 5)) ^^^ (((p_rnds mem i 4) ^^^ (-1)) &&& (p_rnds mem i 6)))) + (kc i)) + (mem 4 i)))), (6, .int (p_rnds mem i 4)), (7, .int (p_rnds mem i 5)), (8, .int (p_rnds mem i 6)), (14, .int ((((p_rnds mem i 0) &&& (p_rnds mem i 1)) ^^^ ((p_rnds mem i 0) &&& (p_rnds mem i 2))) ^^^ ((p_rnds mem i 1) &&& (p_rnds mem i 2)))), (13, .int (((rotr (p_rnds mem i 0) (nI 2)) ^^^ (rotr (p_rnds mem i 0) (nI 13))) ^^^ (rotr (p_rnds mem i 0) (nI 22)))), (12, .int (((((p_rnds mem i 7) + (((rotr (p_rnds mem i 4) (nI 6)) ^^^ (rotr (p_rnds mem i 4) (nI 11))) ^^^ (rotr (p_rnds mem i 4) (nI 25)))) + (((p_rnds mem i 4) &&& (p_rnds mem i 5)) ^^^ (((p_rnds mem i 4) ^^^ (-1)) &&& (p_rnds mem i 6)))) + (kc i)) + (mem 4 i))), (11, .int (((p_rnds mem i 4) &&& (p_rnds mem i 5)) ^^^ (((p_rnds mem i 4) ^^^ (-1)) &&& (p_rnds mem i 6)))), (10, .int (((rotr (p_rnds mem i 4) (nI 6)) ^^^ (rotr (p_rnds mem i 4) (nI 11))) ^^^ (rotr (p_rnds mem i 4) (nI 25)))), (0, .ref (o 1)), (1, .int (p_rnds mem i 0)), (2, .int (p_rnds mem i 1)), (3, .int (p_rnds mem i 2)), (9, .int (nI i))]) hx hb dX0_stirState_192 hl (by decide) rfl (fun ls hl => ?_)
        refine lv_iload_n hx hb dX0_stirState_194 rfl (lv_at hl 12 rfl) ?_
        refine lv_istore_n (lv' := [(3, .int (p_rnds mem i 1)), (4, .int (p_rnds mem i 2)), (5, .int ((p_rnds mem i 3) + (((((p_rnds mem i 7) + (((rotr (p_rnds mem i 4) (nI 6)) ^^^ (rotr (p_rnds mem i 4) (nI 11))) ^^^ (rotr (p_rnds mem i 4) (nI 25)))) + (((p_rnds mem i 4) &&& (p_rnds mem i 5)) ^^^ (((p_rnds mem i 4) ^^^ (-1)) &&& (p_rnds mem i 6)))) + (kc i)) + (mem 4 i)))), (6, .int (p_rnds mem i 4)), (7, .int (p_rnds mem i 5)), (8, .int (p_rnds mem i 6)), (14, .int ((((p_rnds mem i 0) &&& (p_rnds mem i 1)) ^^^ ((p_rnds mem i 0) &&& (p_rnds mem i 2))) ^^^ ((p_rnds mem i 1) &&& (p_rnds mem i 2)))), (13, .int (((rotr (p_rnds mem i 0) (nI 2)) ^^^ (rotr (p_rnds mem i 0) (nI 13))) ^^^ (rotr (p_rnds mem i 0) (nI 22)))), (12, .int (((((p_rnds mem i 7) + (((rotr (p_rnds mem i 4) (nI 6)) ^^^ (rotr (p_rnds mem i 4) (nI 11))) ^^^ (rotr (p_rnds mem i 4) (nI 25)))) + (((p_rnds mem i 4) &&& (p_rnds mem i 5)) ^^^ (((p_rnds mem i 4) ^^^ (-1)) &&& (p_rnds mem i 6)))) + (kc i)) + (mem 4 i))), (11, .int (((p_rnds mem i 4) &&& (p_rnds mem i 5)) ^^^ (((p_rnds mem i 4) ^^^ (-1)) &&& (p_rnds mem i 6)))), (10, .int (((rotr (p_rnds mem i 4) (nI 6)) ^^^ (rotr (p_rnds mem i 4) (nI 11))) ^^^ (rotr (p_rnds mem i 4) (nI 25)))), (0, .ref (o 1)), (1, .int (p_rnds mem i 0)), (2, .int (p_rnds mem i 1)), (9, .int (nI i))]) hx hb dX0_stirState_195 rfl hl (by decide) rfl (fun ls hl => ?_)
        refine lv_iload_n hx hb dX0_stirState_196 rfl (lv_at hl 12 rfl) ?_
        refine lv_istore_n (lv' := [(2, .int (p_rnds mem i 0)), (3, .int (p_rnds mem i 1)), (4, .int (p_rnds mem i 2)), (5, .int ((p_rnds mem i 3) + (((((p_rnds mem i 7) + (((rotr (p_rnds mem i 4) (nI 6)) ^^^ (rotr (p_rnds mem i 4) (nI 11))) ^^^ (rotr (p_rnds mem i 4) (nI 25)))) + (((p_rnds mem i 4) &&& (p_rnds mem i 5)) ^^^ (((p_rnds mem i 4) ^^^ (-1)) &&& (p_rnds mem i 6)))) + (kc i)) + (mem 4 i)))), (6, .int (p_rnds mem i 4)), (7, .int (p_rnds mem i 5)), (8, .int (p_rnds mem i 6)), (14, .int ((((p_rnds mem i 0) &&& (p_rnds mem i 1)) ^^^ ((p_rnds mem i 0) &&& (p_rnds mem i 2))) ^^^ ((p_rnds mem i 1) &&& (p_rnds mem i 2)))), (13, .int (((rotr (p_rnds mem i 0) (nI 2)) ^^^ (rotr (p_rnds mem i 0) (nI 13))) ^^^ (rotr (p_rnds mem i 0) (nI 22)))), (12, .int (((((p_rnds mem i 7) + (((rotr (p_rnds mem i 4) (nI 6)) ^^^ (rotr (p_rnds mem i 4) (nI 11))) ^^^ (rotr (p_rnds mem i 4) (nI 25)))) + (((p_rnds mem i 4) &&& (p_rnds mem i 5)) ^^^ (((p_rnds mem i 4) ^^^ (-1)) &&& (p_rnds mem i 6)))) + (kc i)) + (mem 4 i))), (11, .int (((p_rnds mem i 4) &&& (p_rnds mem i 5)) ^^^ (((p_rnds mem i 4) ^^^ (-1)) &&& (p_rnds mem i 6)))), (10, .int (((rotr (p_rnds mem i 4) (nI 6)) ^^^ (rotr (p_rnds mem i 4) (nI 11))) ^^^ (rotr (p_rnds mem i 4) (nI 25)))), (0, .ref (o 1)), (1, .int (p_rnds mem i 0)), (9, .int (nI i))]) hx hb dX0_stirState_197 rfl hl (by decide) rfl (fun ls hl => ?_)
        refine lv_iload hx hb dX0_stirState_198 (lv_at hl 9 rfl) ?_
        refine lv_iload hx hb dX0_stirState_200 (lv_at hl 8 rfl) ?_
        refine lv_iadd hx hb dX0_stirState_202 ?_
        refine lv_iload hx hb dX0_stirState_203 (lv_at hl 7 rfl) ?_
        refine lv_iadd hx hb dX0_stirState_205 ?_
        refine lv_istore_n (lv' := [(1, .int (((((((p_rnds mem i 7) + (((rotr (p_rnds mem i 4) (nI 6)) ^^^ (rotr (p_rnds mem i 4) (nI 11))) ^^^ (rotr (p_rnds mem i 4) (nI 25)))) + (((p_rnds mem i 4) &&& (p_rnds mem i 5)) ^^^ (((p_rnds mem i 4) ^^^ (-1)) &&& (p_rnds mem i 6)))) + (kc i)) + (mem 4 i)) + (((rotr (p_rnds mem i 0) (nI 2)) ^^^ (rotr (p_rnds mem i 0) (nI 13))) ^^^ (rotr (p_rnds mem i 0) (nI 22)))) + ((((p_rnds mem i 0) &&& (p_rnds mem i 1)) ^^^ ((p_rnds mem i 0) &&& (p_rnds mem i 2))) ^^^ ((p_rnds mem i 1) &&& (p_rnds mem i 2))))), (2, .int (p_rnds mem i 0)), (3, .int (p_rnds mem i 1)), (4, .int (p_rnds mem i 2)), (5, .int ((p_rnds mem i 3) + (((((p_rnds mem i 7) + (((rotr (p_rnds mem i 4) (nI 6)) ^^^ (rotr (p_rnds mem i 4) (nI 11))) ^^^ (rotr (p_rnds mem i 4) (nI 25)))) + (((p_rnds mem i 4) &&& (p_rnds mem i 5)) ^^^ (((p_rnds mem i 4) ^^^ (-1)) &&& (p_rnds mem i 6)))) + (kc i)) + (mem 4 i)))), (6, .int (p_rnds mem i 4)), (7, .int (p_rnds mem i 5)), (8, .int (p_rnds mem i 6)), (14, .int ((((p_rnds mem i 0) &&& (p_rnds mem i 1)) ^^^ ((p_rnds mem i 0) &&& (p_rnds mem i 2))) ^^^ ((p_rnds mem i 1) &&& (p_rnds mem i 2)))), (13, .int (((rotr (p_rnds mem i 0) (nI 2)) ^^^ (rotr (p_rnds mem i 0) (nI 13))) ^^^ (rotr (p_rnds mem i 0) (nI 22)))), (12, .int (((((p_rnds mem i 7) + (((rotr (p_rnds mem i 4) (nI 6)) ^^^ (rotr (p_rnds mem i 4) (nI 11))) ^^^ (rotr (p_rnds mem i 4) (nI 25)))) + (((p_rnds mem i 4) &&& (p_rnds mem i 5)) ^^^ (((p_rnds mem i 4) ^^^ (-1)) &&& (p_rnds mem i 6)))) + (kc i)) + (mem 4 i))), (11, .int (((p_rnds mem i 4) &&& (p_rnds mem i 5)) ^^^ (((p_rnds mem i 4) ^^^ (-1)) &&& (p_rnds mem i 6)))), (10, .int (((rotr (p_rnds mem i 4) (nI 6)) ^^^ (rotr (p_rnds mem i 4) (nI 11))) ^^^ (rotr (p_rnds mem i 4) (nI 25)))), (0, .ref (o 1)), (9, .int (nI i))]) hx hb dX0_stirState_206 rfl hl (by decide) rfl (fun ls hl => ?_)
        refine lv_iinc (v := nI (i + 1)) (lv' := [(9, .int (nI (i + 1))), (1, .int (((((((p_rnds mem i 7) + (((rotr (p_rnds mem i 4) (nI 6)) ^^^ (rotr (p_rnds mem i 4) (nI 11))) ^^^ (rotr (p_rnds mem i 4) (nI 25)))) + (((p_rnds mem i 4) &&& (p_rnds mem i 5)) ^^^ (((p_rnds mem i 4) ^^^ (-1)) &&& (p_rnds mem i 6)))) + (kc i)) + (mem 4 i)) + (((rotr (p_rnds mem i 0) (nI 2)) ^^^ (rotr (p_rnds mem i 0) (nI 13))) ^^^ (rotr (p_rnds mem i 0) (nI 22)))) + ((((p_rnds mem i 0) &&& (p_rnds mem i 1)) ^^^ ((p_rnds mem i 0) &&& (p_rnds mem i 2))) ^^^ ((p_rnds mem i 1) &&& (p_rnds mem i 2))))), (2, .int (p_rnds mem i 0)), (3, .int (p_rnds mem i 1)), (4, .int (p_rnds mem i 2)), (5, .int ((p_rnds mem i 3) + (((((p_rnds mem i 7) + (((rotr (p_rnds mem i 4) (nI 6)) ^^^ (rotr (p_rnds mem i 4) (nI 11))) ^^^ (rotr (p_rnds mem i 4) (nI 25)))) + (((p_rnds mem i 4) &&& (p_rnds mem i 5)) ^^^ (((p_rnds mem i 4) ^^^ (-1)) &&& (p_rnds mem i 6)))) + (kc i)) + (mem 4 i)))), (6, .int (p_rnds mem i 4)), (7, .int (p_rnds mem i 5)), (8, .int (p_rnds mem i 6)), (14, .int ((((p_rnds mem i 0) &&& (p_rnds mem i 1)) ^^^ ((p_rnds mem i 0) &&& (p_rnds mem i 2))) ^^^ ((p_rnds mem i 1) &&& (p_rnds mem i 2)))), (13, .int (((rotr (p_rnds mem i 0) (nI 2)) ^^^ (rotr (p_rnds mem i 0) (nI 13))) ^^^ (rotr (p_rnds mem i 0) (nI 22)))), (12, .int (((((p_rnds mem i 7) + (((rotr (p_rnds mem i 4) (nI 6)) ^^^ (rotr (p_rnds mem i 4) (nI 11))) ^^^ (rotr (p_rnds mem i 4) (nI 25)))) + (((p_rnds mem i 4) &&& (p_rnds mem i 5)) ^^^ (((p_rnds mem i 4) ^^^ (-1)) &&& (p_rnds mem i 6)))) + (kc i)) + (mem 4 i))), (11, .int (((p_rnds mem i 4) &&& (p_rnds mem i 5)) ^^^ (((p_rnds mem i 4) ^^^ (-1)) &&& (p_rnds mem i 6)))), (10, .int (((rotr (p_rnds mem i 4) (nI 6)) ^^^ (rotr (p_rnds mem i 4) (nI 11))) ^^^ (rotr (p_rnds mem i 4) (nI 25)))), (0, .ref (o 1))]) hx hb dX0_stirState_207 hl (k := 14) rfl (nI_1 i) (by decide) rfl (fun ls hl => ?_)
        refine lv_goto (tgt := 66) hx hb dX0_stirState_210 (by decide) ?_
        exact ih (i + 1) H locs ls (by omega) hP hD hS (lv_sub hl [14, 1, 2, 3, 4, 5, 6, 7, 8, 0] rfl)
  refine lv_aload_n hx hb dX0_stirState_0 rfl (lv_at hl 0 rfl) ?_
  refine va_get (D := D) (ci := 1) (v := .ref (ad 5)) (C := RX0) (T := TX0) (N := 4) hx hb hW iSH hown hK hP 1 rfl rfl 3 (by decide) (hW _ tw_31) (fun _ h9 => h9) rfl dX0_stirState_1 ?_
  refine lv_iconst (v := nI 0) hx hb dX0_stirState_4 (by decide) ?_
  refine m_ld (X := wX o ad cZ cG tl lc wc dc pn (nI n) isw) hx hb hK hP 0 5 0 rfl (by decide) (show 0 < 8 by omega) (by decide) dX0_stirState_5 ?_
  refine lv_istore_n (lv' := [(1, .int (mem 5 0)), (0, .ref (o 1))]) hx hb dX0_stirState_6 rfl hl (by decide) rfl (fun ls hl => ?_)
  refine lv_aload_n hx hb dX0_stirState_7 rfl (lv_at hl 1 rfl) ?_
  refine va_get (D := D) (ci := 1) (v := .ref (ad 5)) (C := RX0) (T := TX0) (N := 4) hx hb hW iSH hown hK hP 1 rfl rfl 3 (by decide) (hW _ tw_31) (fun _ h9 => h9) rfl dX0_stirState_8 ?_
  refine lv_iconst (v := nI 1) hx hb dX0_stirState_11 (by decide) ?_
  refine m_ld (X := wX o ad cZ cG tl lc wc dc pn (nI n) isw) hx hb hK hP 0 5 1 rfl (by decide) (show 1 < 8 by omega) (by decide) dX0_stirState_12 ?_
  refine lv_istore_n (lv' := [(2, .int (mem 5 1)), (1, .int (mem 5 0)), (0, .ref (o 1))]) hx hb dX0_stirState_13 rfl hl (by decide) rfl (fun ls hl => ?_)
  refine lv_aload_n hx hb dX0_stirState_14 rfl (lv_at hl 2 rfl) ?_
  refine va_get (D := D) (ci := 1) (v := .ref (ad 5)) (C := RX0) (T := TX0) (N := 4) hx hb hW iSH hown hK hP 1 rfl rfl 3 (by decide) (hW _ tw_31) (fun _ h9 => h9) rfl dX0_stirState_15 ?_
  refine lv_iconst (v := nI 2) hx hb dX0_stirState_18 (by decide) ?_
  refine m_ld (X := wX o ad cZ cG tl lc wc dc pn (nI n) isw) hx hb hK hP 0 5 2 rfl (by decide) (show 2 < 8 by omega) (by decide) dX0_stirState_19 ?_
  refine lv_istore_n (lv' := [(3, .int (mem 5 2)), (2, .int (mem 5 1)), (1, .int (mem 5 0)), (0, .ref (o 1))]) hx hb dX0_stirState_20 rfl hl (by decide) rfl (fun ls hl => ?_)
  refine lv_aload_n hx hb dX0_stirState_21 rfl (lv_at hl 3 rfl) ?_
  refine va_get (D := D) (ci := 1) (v := .ref (ad 5)) (C := RX0) (T := TX0) (N := 4) hx hb hW iSH hown hK hP 1 rfl rfl 3 (by decide) (hW _ tw_31) (fun _ h9 => h9) rfl dX0_stirState_22 ?_
  refine lv_iconst (v := nI 3) hx hb dX0_stirState_25 (by decide) ?_
  refine m_ld (X := wX o ad cZ cG tl lc wc dc pn (nI n) isw) hx hb hK hP 0 5 3 rfl (by decide) (show 3 < 8 by omega) (by decide) dX0_stirState_26 ?_
  refine lv_istore (lv' := [(4, .int (mem 5 3)), (3, .int (mem 5 2)), (2, .int (mem 5 1)), (1, .int (mem 5 0)), (0, .ref (o 1))]) hx hb dX0_stirState_27 hl (by decide) rfl (fun ls hl => ?_)
  refine lv_aload_n hx hb dX0_stirState_29 rfl (lv_at hl 4 rfl) ?_
  refine va_get (D := D) (ci := 1) (v := .ref (ad 5)) (C := RX0) (T := TX0) (N := 4) hx hb hW iSH hown hK hP 1 rfl rfl 3 (by decide) (hW _ tw_31) (fun _ h9 => h9) rfl dX0_stirState_30 ?_
  refine lv_iconst (v := nI 4) hx hb dX0_stirState_33 (by decide) ?_
  refine m_ld (X := wX o ad cZ cG tl lc wc dc pn (nI n) isw) hx hb hK hP 0 5 4 rfl (by decide) (show 4 < 8 by omega) (by decide) dX0_stirState_34 ?_
  refine lv_istore (lv' := [(5, .int (mem 5 4)), (4, .int (mem 5 3)), (3, .int (mem 5 2)), (2, .int (mem 5 1)), (1, .int (mem 5 0)), (0, .ref (o 1))]) hx hb dX0_stirState_35 hl (by decide) rfl (fun ls hl => ?_)
  refine lv_aload_n hx hb dX0_stirState_37 rfl (lv_at hl 5 rfl) ?_
  refine va_get (D := D) (ci := 1) (v := .ref (ad 5)) (C := RX0) (T := TX0) (N := 4) hx hb hW iSH hown hK hP 1 rfl rfl 3 (by decide) (hW _ tw_31) (fun _ h9 => h9) rfl dX0_stirState_38 ?_
  refine lv_iconst (v := nI 5) hx hb dX0_stirState_41 (by decide) ?_
  refine m_ld (X := wX o ad cZ cG tl lc wc dc pn (nI n) isw) hx hb hK hP 0 5 5 rfl (by decide) (show 5 < 8 by omega) (by decide) dX0_stirState_42 ?_
  refine lv_istore (lv' := [(6, .int (mem 5 5)), (5, .int (mem 5 4)), (4, .int (mem 5 3)), (3, .int (mem 5 2)), (2, .int (mem 5 1)), (1, .int (mem 5 0)), (0, .ref (o 1))]) hx hb dX0_stirState_43 hl (by decide) rfl (fun ls hl => ?_)
  refine lv_aload_n hx hb dX0_stirState_45 rfl (lv_at hl 6 rfl) ?_
  refine va_get (D := D) (ci := 1) (v := .ref (ad 5)) (C := RX0) (T := TX0) (N := 4) hx hb hW iSH hown hK hP 1 rfl rfl 3 (by decide) (hW _ tw_31) (fun _ h9 => h9) rfl dX0_stirState_46 ?_
  refine lv_bipush (v := nI 6) hx hb dX0_stirState_49 (by decide) ?_
  refine m_ld (X := wX o ad cZ cG tl lc wc dc pn (nI n) isw) hx hb hK hP 0 5 6 rfl (by decide) (show 6 < 8 by omega) (by decide) dX0_stirState_51 ?_
  refine lv_istore (lv' := [(7, .int (mem 5 6)), (6, .int (mem 5 5)), (5, .int (mem 5 4)), (4, .int (mem 5 3)), (3, .int (mem 5 2)), (2, .int (mem 5 1)), (1, .int (mem 5 0)), (0, .ref (o 1))]) hx hb dX0_stirState_52 hl (by decide) rfl (fun ls hl => ?_)
  refine lv_aload_n hx hb dX0_stirState_54 rfl (lv_at hl 7 rfl) ?_
  refine va_get (D := D) (ci := 1) (v := .ref (ad 5)) (C := RX0) (T := TX0) (N := 4) hx hb hW iSH hown hK hP 1 rfl rfl 3 (by decide) (hW _ tw_31) (fun _ h9 => h9) rfl dX0_stirState_55 ?_
  refine lv_bipush (v := nI 7) hx hb dX0_stirState_58 (by decide) ?_
  refine m_ld (X := wX o ad cZ cG tl lc wc dc pn (nI n) isw) hx hb hK hP 0 5 7 rfl (by decide) (show 7 < 8 by omega) (by decide) dX0_stirState_60 ?_
  refine lv_istore (lv' := [(8, .int (mem 5 7)), (7, .int (mem 5 6)), (6, .int (mem 5 5)), (5, .int (mem 5 4)), (4, .int (mem 5 3)), (3, .int (mem 5 2)), (2, .int (mem 5 1)), (1, .int (mem 5 0)), (0, .ref (o 1))]) hx hb dX0_stirState_61 hl (by decide) rfl (fun ls hl => ?_)
  refine lv_iconst (v := nI 0) hx hb dX0_stirState_63 (by decide) ?_
  refine lv_istore (lv' := [(9, .int (nI 0)), (8, .int (mem 5 7)), (7, .int (mem 5 6)), (6, .int (mem 5 5)), (5, .int (mem 5 4)), (4, .int (mem 5 3)), (3, .int (mem 5 2)), (2, .int (mem 5 1)), (1, .int (mem 5 0)), (0, .ref (o 1))]) hx hb dX0_stirState_64 hl (by decide) rfl (fun ls hl => ?_)
  exact loop 64 0 s.heap [] ls (by omega) hP hD hS (lv_sub hl [9, 8, 7, 6, 5, 4, 3, 2, 1, 0] rfl)
end
section
theorem itr_s {σ : Type} (f : Nat → σ → σ) (n : Nat) (z : σ) : itr f (n + 1) z = f n (itr f n z) := rfl
theorem itr_0 {σ : Type} (f : Nat → σ → σ) (z : σ) : itr f 0 z = z := rfl
theorem p_finish_1 (kk : Nat) (z : Nat × xMem) : (p_finish kk z).1 = (pfC z).1 := by simp only [p_finish]
theorem p_finish_2 (kk : Nat) (z : Nat × xMem) : (p_finish kk z).2 = pfF kk z 32 := by simp only [p_finish]
theorem pfF_s (kk : Nat) (z : Nat × xMem) (i : Nat) : pfF kk z (i + 1) = va_up (pfF kk z i) kk (upd (pfF kk z i kk) i (ush (pfF kk z i 5 (i / 4)) (nI (24 - 8 * (i % 4))) &&& nI 255)) := rfl
theorem pfF_0 (kk : Nat) (z : Nat × xMem) : pfF kk z 0 = pfE z ((pfC z).1 / 64) := rfl
theorem pfE_s (z : Nat × xMem) (b : Nat) : pfE z (b + 1) = p_stir (p_spread (64 * b) (pfE z b)) := rfl
theorem pfE_0 (z : Nat × xMem) : pfE z 0 = pfD z := rfl
theorem pfD_e (z : Nat × xMem) : pfD z = va_up (pfC z).2 5 (va_cpy h0 ((pfC z).2 5) 0 0 8) := rfl
theorem pfC_e (n : Nat) (mem : xMem) : pfC (n, mem) = p_takeLong (lN 8 * (nI n).toInt64) (pfB (n, mem)) := rfl
theorem pfB_e (n : Nat) (mem : xMem) : pfB (n, mem) = itr (fun _ => p_take (nI 0)) (zz n) (pfA (n, mem)) := rfl
theorem pfA_e (z : Nat × xMem) : pfA z = p_take (nI 128) z := rfl
end
section
set_option maxHeartbeats 4000000 in
set_option maxRecDepth 100000 in
/-- finishInto(array kk) -/
theorem c_finishInto {l : Launch} {D : va_G} {o ad : Nat → Nat} {cI cZ cG : ClassId} {tl lc wc dc pn : Int32} {isw : Nat → Int32} (n kk : Nat) (hn : n ≤ 247) (hkk : kk < 71) (hk3 : lenC kk = 32) (mem : Nat → Nat → Int32) : MV l gE yX0_finishInto (.code yX0_finishInto cX0_finishInto 6 none :: tW) ({ frames := 2, cells := 0, slots := 0, locals := 96 }) D vwCl (tC cI cZ cG) [.ref (o 1), .ref (ad kk)] (wC o ad cI cZ cG tl lc wc dc pn (nI n) isw mem) (wC o ad cI cZ cG tl lc wc dc pn (nI (p_finish kk (n, mem)).1) isw ((p_finish kk (n, mem)).2)) := by
  refine MV.ofW (by decide +kernel) rfl (Nat.le_of_ble_eq_true rfl) ?_
  intro p e s m below meth c A ls hx hb hr hts hown hlk hml hA hP hK hD hT hl
  have hS : va_S A s.heap s.heap [] := va_S.rf
  have hown : s.vm.findClass RX0 = some m.cls := hown
  have hW : ∀ w ∈ tW, w.before _ s = true := fun w h => hts w (List.mem_cons_of_mem _ h)
  have hl : lv_has ls 6 [(0, .ref (o 1)), (1, .ref (ad kk))] := hl
  obtain ⟨⟨t1, t2, hZ1, hT1, hZ2, hT2⟩, hTx⟩ := id hT
  have hC := pfC_le (n, mem) (show n ≤ 247 from hn)
  have loop3 : ∀ (k i : Nat) (H : Heap) (locs : List Loc) (ls : Array Slot), i + k = 32 → va_P D vwCl (wC o ad cI cZ cG tl lc wc dc pn (nI (pfC (n, mem)).1) isw (pfF kk (n, mem) i)) H → va_D A (wC o ad cI cZ cG tl lc wc dc pn (nI (pfC (n, mem)).1) isw (pfF kk (n, mem) i)) → va_S A s.heap H locs → lv_has ls 6 [(0, .ref (o 1)), (1, .ref (ad kk)), (5, .int (nI i))] → W p l e ({ frames := 2, cells := 0, slots := 0, locals := 96 }) s m ([.ref (o 1), .ref (ad kk)] : List Value).toArray below meth c H locs 0 0 (MQ below (xQv D vwCl (wC o ad cI cZ cG tl lc wc dc pn (nI (p_finish kk (n, mem)).1) isw ((p_finish kk (n, mem)).2)) A) ([.ref (o 1), .ref (ad kk)] : List Value).toArray s 0 0 A) (F0 m 105 ls []) := by
    intro k
    induction k with
    | zero =>
      intro i H locs ls hk hP hD hS hl
      have hk : i = 32 := by omega
      rw [hk] at hP hD
      refine lv_iload hx hb dX0_finishInto_105 (lv_at hl 2 rfl) ?_
      refine lv_bipush (v := nI 32) hx hb dX0_finishInto_107 (by decide) ?_
      refine lv_icmp_ge (tgt := 146) hx hb dX0_finishInto_109 (by decide) (fun hc => ?_) (fun hc => ?_)
      · have hP : va_P D vwCl (wC o ad cI cZ cG tl lc wc dc pn (nI (p_finish kk (n, mem)).1) isw ((p_finish kk (n, mem)).2)) H := by rw [p_finish_1, p_finish_2]; exact hP
        have hD : va_D A (wC o ad cI cZ cG tl lc wc dc pn (nI (p_finish kk (n, mem)).1) isw ((p_finish kk (n, mem)).2)) := by rw [p_finish_1, p_finish_2]; exact hD
        exact mv_ret hx hb hr hlk hS hP hD dX0_finishInto_146
      · exact absurd (nI_le (by omega) (by omega)) hc
    | succ k ih =>
      intro i H locs ls hk hP hD hS hl
      refine lv_iload hx hb dX0_finishInto_105 (lv_at hl 2 rfl) ?_
      refine lv_bipush (v := nI 32) hx hb dX0_finishInto_107 (by decide) ?_
      refine lv_icmp_ge (tgt := 146) hx hb dX0_finishInto_109 (by decide) (fun hc => ?_) (fun hc => ?_)
      · exact absurd hc (nI_ge (by omega) (by omega))
      · refine lv_aload_n hx hb dX0_finishInto_112 rfl (lv_at hl 1 rfl) ?_
        refine lv_iload hx hb dX0_finishInto_113 (lv_at hl 2 rfl) ?_
        refine lv_aload_n hx hb dX0_finishInto_115 rfl (lv_at hl 0 rfl) ?_
        refine va_get (D := D) (ci := 1) (v := .ref (ad 5)) (C := RX0) (T := TX0) (N := 4) hx hb hW iSH hown hK hP 1 rfl rfl 3 (by decide) (hW _ tw_31) (fun _ h9 => h9) rfl dX0_finishInto_116 ?_
        refine lv_iload hx hb dX0_finishInto_119 (lv_at hl 2 rfl) ?_
        refine lv_iconst (v := nI 4) hx hb dX0_finishInto_121 (by decide) ?_
        refine lv_idiv hx hb dX0_finishInto_122 (by decide) ?_
        refine lv_eqi (v := nI (i / 4)) (pk_div (by omega) (by decide) (by decide)) ?_
        refine m_ld (X := wX o ad cZ cG tl lc wc dc pn (nI (pfC (n, mem)).1) isw) hx hb hK hP 0 5 (i / 4) rfl (by decide) (show i / 4 < 8 by omega) (by decide) dX0_finishInto_123 ?_
        refine lv_bipush (v := nI 24) hx hb dX0_finishInto_124 (by decide) ?_
        refine lv_bipush (v := nI 8) hx hb dX0_finishInto_126 (by decide) ?_
        refine lv_iload hx hb dX0_finishInto_128 (lv_at hl 2 rfl) ?_
        refine lv_iconst (v := nI 4) hx hb dX0_finishInto_130 (by decide) ?_
        refine lv_irem hx hb dX0_finishInto_131 (by decide) ?_
        refine lv_eqi (v := nI (i % 4)) (pk_rem (by omega) (by decide) (by decide)) ?_
        refine lv_imul hx hb dX0_finishInto_132 ?_
        refine lv_eqi (v := nI (8 * (i % 4))) (pk_mul 8 (i % 4)) ?_
        refine lv_isub hx hb dX0_finishInto_133 ?_
        refine lv_eqi (v := nI (24 - 8 * (i % 4))) (pk_sub (by omega)) ?_
        refine lv_iushr (v := ush ((pfF kk (n, mem) i) 5 (i / 4)) (nI (24 - 8 * (i % 4)))) hx hb dX0_finishInto_134 rfl ?_
        refine lv_sipush (v := nI 255) hx hb dX0_finishInto_135 (by decide) ?_
        refine lv_iand hx hb dX0_finishInto_138 ?_
        refine m_st (X := wX o ad cZ cG tl lc wc dc pn (nI (pfC (n, mem)).1) isw) hx hb hK hP hD hS 0 kk i rfl hkk (by omega) (by omega) dX0_finishInto_139 (fun H locs hP hD hS => ?_)
        have hP : va_P D vwCl (wC o ad cI cZ cG tl lc wc dc pn (nI (pfC (n, mem)).1) isw (pfF kk (n, mem) (i + 1))) H := by rw [pfF_s]; exact hP
        have hD : va_D A (wC o ad cI cZ cG tl lc wc dc pn (nI (pfC (n, mem)).1) isw (pfF kk (n, mem) (i + 1))) := by rw [pfF_s]; exact hD
        refine lv_iinc (v := nI (i + 1)) (lv' := [(5, .int (nI (i + 1))), (0, .ref (o 1)), (1, .ref (ad kk))]) hx hb dX0_finishInto_140 hl (k := 2) rfl (nI_1 i) (by decide) rfl (fun ls hl => ?_)
        refine lv_goto (tgt := 105) hx hb dX0_finishInto_143 (by decide) ?_
        exact ih (i + 1) H locs ls (by omega) hP hD hS (lv_sub hl [1, 2, 0] rfl)
  have loop2 : ∀ (k i : Nat) (H : Heap) (locs : List Loc) (ls : Array Slot), i + k = (pfC (n, mem)).1 / 64 → va_P D vwCl (wC o ad cI cZ cG tl lc wc dc pn (nI (pfC (n, mem)).1) isw (pfE (n, mem) i)) H → va_D A (wC o ad cI cZ cG tl lc wc dc pn (nI (pfC (n, mem)).1) isw (pfE (n, mem) i)) → va_S A s.heap H locs → lv_has ls 6 [(0, .ref (o 1)), (1, .ref (ad kk)), (5, .int (nI (64 * i)))] → W p l e ({ frames := 2, cells := 0, slots := 0, locals := 96 }) s m ([.ref (o 1), .ref (ad kk)] : List Value).toArray below meth c H locs 0 0 (MQ below (xQv D vwCl (wC o ad cI cZ cG tl lc wc dc pn (nI (p_finish kk (n, mem)).1) isw ((p_finish kk (n, mem)).2)) A) ([.ref (o 1), .ref (ad kk)] : List Value).toArray s 0 0 A) (F0 m 74 ls []) := by
    intro k
    induction k with
    | zero =>
      intro i H locs ls hk hP hD hS hl
      have hk : i = (pfC (n, mem)).1 / 64 := by omega
      refine lv_iload hx hb dX0_finishInto_74 (lv_at hl 2 rfl) ?_
      refine lv_bipush (v := nI 64) hx hb dX0_finishInto_76 (by decide) ?_
      refine lv_iadd hx hb dX0_finishInto_78 ?_
      refine lv_eqi (v := nI (64 * i + 64)) (nI_add (64 * i) 64) ?_
      refine lv_aload_n hx hb dX0_finishInto_79 rfl (lv_at hl 0 rfl) ?_
      refine va_get (D := D) (ci := 1) (v := .int (nI (pfC (n, mem)).1)) (C := RX0) (T := TX0) (N := 4) hx hb hW iSH hown hK hP 1 rfl rfl 1 (by decide) (hW _ tw_29) (fun _ h9 => h9) rfl dX0_finishInto_80 ?_
      refine lv_icmp_gt (tgt := 102) hx hb dX0_finishInto_83 (by decide) (fun hc => ?_) (fun hc => ?_)
      · rw [hk] at hP hD
        have hP : va_P D vwCl (wC o ad cI cZ cG tl lc wc dc pn (nI (pfC (n, mem)).1) isw (pfF kk (n, mem) 0)) H := by rw [pfF_0]; exact hP
        have hD : va_D A (wC o ad cI cZ cG tl lc wc dc pn (nI (pfC (n, mem)).1) isw (pfF kk (n, mem) 0)) := by rw [pfF_0]; exact hD
        refine lv_iconst (v := nI 0) hx hb dX0_finishInto_102 (by decide) ?_
        refine lv_istore (lv' := [(5, .int (nI 0)), (0, .ref (o 1)), (1, .ref (ad kk))]) hx hb dX0_finishInto_103 hl (by decide) rfl (fun ls hl => ?_)
        exact loop3 32 0 H locs ls (by omega) hP hD hS (lv_sub hl [1, 2, 0] rfl)
      · exact absurd (nI_lt (by omega) (by omega)) hc
    | succ k ih =>
      intro i H locs ls hk hP hD hS hl
      refine lv_iload hx hb dX0_finishInto_74 (lv_at hl 2 rfl) ?_
      refine lv_bipush (v := nI 64) hx hb dX0_finishInto_76 (by decide) ?_
      refine lv_iadd hx hb dX0_finishInto_78 ?_
      refine lv_eqi (v := nI (64 * i + 64)) (nI_add (64 * i) 64) ?_
      refine lv_aload_n hx hb dX0_finishInto_79 rfl (lv_at hl 0 rfl) ?_
      refine va_get (D := D) (ci := 1) (v := .int (nI (pfC (n, mem)).1)) (C := RX0) (T := TX0) (N := 4) hx hb hW iSH hown hK hP 1 rfl rfl 1 (by decide) (hW _ tw_29) (fun _ h9 => h9) rfl dX0_finishInto_80 ?_
      refine lv_icmp_gt (tgt := 102) hx hb dX0_finishInto_83 (by decide) (fun hc => ?_) (fun hc => ?_)
      · exact absurd hc (nI_nlt (by omega) (by omega))
      · refine lv_aload_n hx hb dX0_finishInto_86 rfl (lv_at hl 0 rfl) ?_
        refine lv_iload hx hb dX0_finishInto_87 (lv_at hl 2 rfl) ?_
        refine mv_callV (C := RX0) (As := [.int (nI (64 * i))]) (rest := []) ⟨hx, hb, hml, hown, hW⟩ (c_spreadBlock _ (64 * i) (by omega) (pfE (n, mem) i)) gE_ok (cwV 1 hW (gV tw_220 tw_222 tv_X0_spreadBlock tw_2 tw_223) rfl rfl rfl (by decide +kernel) ⟨Nat.le_of_ble_eq_true rfl, Nat.le_of_ble_eq_true rfl⟩) (va_recv hK hP (ci := 1) (q0 := 1) rfl rfl) hP hD hK hS hA hT rfl hl.1 rfl (Nat.le_of_ble_eq_true rfl) dX0_finishInto_89 ⟨Nat.zero_le _, Nat.zero_le _⟩ (fun H locs hP hD hS => ?_)
        have hP : va_P D vwCl (wC o ad cI cZ cG tl lc wc dc pn (nI (pfC (n, mem)).1) isw (p_spread (64 * i) (pfE (n, mem) i))) H := hP
        have hD : va_D A (wC o ad cI cZ cG tl lc wc dc pn (nI (pfC (n, mem)).1) isw (p_spread (64 * i) (pfE (n, mem) i))) := hD
        refine lv_aload_n hx hb dX0_finishInto_92 rfl (lv_at hl 0 rfl) ?_
        refine mv_callV (C := RX0) (As := []) (rest := []) ⟨hx, hb, hml, hown, hW⟩ (c_stirState _ (p_spread (64 * i) (pfE (n, mem) i))) gE_ok (cwV 0 hW (gV tw_227 tw_229 tv_X0_stirState tw_2 tw_230) rfl rfl rfl (by decide +kernel) ⟨Nat.le_of_ble_eq_true rfl, Nat.le_of_ble_eq_true rfl⟩) (va_recv hK hP (ci := 1) (q0 := 1) rfl rfl) hP hD hK hS hA hT rfl hl.1 rfl (Nat.le_of_ble_eq_true rfl) dX0_finishInto_93 ⟨Nat.zero_le _, Nat.zero_le _⟩ (fun H locs hP hD hS => ?_)
        have hP : va_P D vwCl (wC o ad cI cZ cG tl lc wc dc pn (nI (pfC (n, mem)).1) isw (p_stir (p_spread (64 * i) (pfE (n, mem) i)))) H := hP
        have hD : va_D A (wC o ad cI cZ cG tl lc wc dc pn (nI (pfC (n, mem)).1) isw (p_stir (p_spread (64 * i) (pfE (n, mem) i)))) := hD
        have hP : va_P D vwCl (wC o ad cI cZ cG tl lc wc dc pn (nI (pfC (n, mem)).1) isw (pfE (n, mem) (i + 1))) H := by rw [pfE_s]; exact hP
        have hD : va_D A (wC o ad cI cZ cG tl lc wc dc pn (nI (pfC (n, mem)).1) isw (pfE (n, mem) (i + 1))) := by rw [pfE_s]; exact hD
        refine lv_iinc (v := nI (64 * (i + 1))) (lv' := [(5, .int (nI (64 * (i + 1)))), (0, .ref (o 1)), (1, .ref (ad kk))]) hx hb dX0_finishInto_96 hl (k := 2) rfl ((nI_add (64 * i) 64)) (by decide) rfl (fun ls hl => ?_)
        refine lv_goto (tgt := 74) hx hb dX0_finishInto_99 (by decide) ?_
        exact ih (i + 1) H locs ls (by omega) hP hD hS (lv_sub hl [1, 2, 0] rfl)
  have loop1 : ∀ (k i : Nat) (H : Heap) (locs : List Loc) (ls : Array Slot), i + k = zz n → va_P D vwCl (wC o ad cI cZ cG tl lc wc dc pn (nI (itr (fun _ => p_take (nI 0)) i (pfA (n, mem))).1) isw ((itr (fun _ => p_take (nI 0)) i (pfA (n, mem))).2)) H → va_D A (wC o ad cI cZ cG tl lc wc dc pn (nI (itr (fun _ => p_take (nI 0)) i (pfA (n, mem))).1) isw ((itr (fun _ => p_take (nI 0)) i (pfA (n, mem))).2)) → va_S A s.heap H locs → lv_has ls 6 [(0, .ref (o 1)), (1, .ref (ad kk)), (2, .long (lN 8 * (nI n).toInt64)), (4, .int (nI (zz n))), (5, .int (nI i))] → W p l e ({ frames := 2, cells := 0, slots := 0, locals := 96 }) s m ([.ref (o 1), .ref (ad kk)] : List Value).toArray below meth c H locs 0 0 (MQ below (xQv D vwCl (wC o ad cI cZ cG tl lc wc dc pn (nI (p_finish kk (n, mem)).1) isw ((p_finish kk (n, mem)).2)) A) ([.ref (o 1), .ref (ad kk)] : List Value).toArray s 0 0 A) (F0 m 34 ls []) := by
    intro k
    induction k with
    | zero =>
      intro i H locs ls hk hP hD hS hl
      have hk : i = zz n := by omega
      rw [hk] at hP hD
      have hP : va_P D vwCl (wC o ad cI cZ cG tl lc wc dc pn (nI (pfB (n, mem)).1) isw ((pfB (n, mem)).2)) H := by rw [pfB_e]; exact hP
      have hD : va_D A (wC o ad cI cZ cG tl lc wc dc pn (nI (pfB (n, mem)).1) isw ((pfB (n, mem)).2)) := by rw [pfB_e]; exact hD
      refine lv_iload hx hb dX0_finishInto_34 (lv_at hl 4 rfl) ?_
      refine lv_iload hx hb dX0_finishInto_36 (lv_at hl 3 rfl) ?_
      refine lv_icmp_ge (tgt := 52) hx hb dX0_finishInto_38 (by decide) (fun hc => ?_) (fun hc => ?_)
      · refine lv_aload_n hx hb dX0_finishInto_52 rfl (lv_at hl 0 rfl) ?_
        refine lv_lload_n hx hb dX0_finishInto_53 rfl (lv_at hl 2 rfl) ?_
        refine mv_callV (C := RX0) (As := [.long (lN 8 * (nI n).toInt64)]) (rest := []) ⟨hx, hb, hml, hown, hW⟩ (c_takeLong ((pfB (n, mem)).1) (pfB_le (n, mem) hn) ((pfB (n, mem)).2) (lN 8 * (nI n).toInt64)) gE_ok (cwV 1 hW (gV tw_211 tw_212 tw_213 tw_2 tw_214) rfl rfl rfl (by decide +kernel) ⟨Nat.le_of_ble_eq_true rfl, Nat.le_of_ble_eq_true rfl⟩) (va_recv hK hP (ci := 1) (q0 := 1) rfl rfl) hP hD hK hS hA hT rfl hl.1 rfl (Nat.le_of_ble_eq_true rfl) dX0_finishInto_54 ⟨Nat.zero_le _, Nat.zero_le _⟩ (fun H locs hP hD hS => ?_)
        have hP : va_P D vwCl (wC o ad cI cZ cG tl lc wc dc pn (nI (p_takeLong (lN 8 * (nI n).toInt64) ((pfB (n, mem)).1, (pfB (n, mem)).2)).1) isw ((p_takeLong (lN 8 * (nI n).toInt64) ((pfB (n, mem)).1, (pfB (n, mem)).2)).2)) H := hP
        have hD : va_D A (wC o ad cI cZ cG tl lc wc dc pn (nI (p_takeLong (lN 8 * (nI n).toInt64) ((pfB (n, mem)).1, (pfB (n, mem)).2)).1) isw ((p_takeLong (lN 8 * (nI n).toInt64) ((pfB (n, mem)).1, (pfB (n, mem)).2)).2)) := hD
        have hP : va_P D vwCl (wC o ad cI cZ cG tl lc wc dc pn (nI (pfC (n, mem)).1) isw ((pfC (n, mem)).2)) H := by rw [pfC_e]; exact hP
        have hD : va_D A (wC o ad cI cZ cG tl lc wc dc pn (nI (pfC (n, mem)).1) isw ((pfC (n, mem)).2)) := by rw [pfC_e]; exact hD
        refine va_gets hx hb hZ1 hS hown (hW _ tw_215) (fun _ h => h) dX0_finishInto_57 ?_
        refine lv_iconst (v := nI 0) hx hb dX0_finishInto_60 (by decide) ?_
        refine lv_aload_n hx hb dX0_finishInto_61 rfl (lv_at hl 0 rfl) ?_
        refine va_get (D := D) (ci := 1) (v := .ref (ad 5)) (C := RX0) (T := TX0) (N := 4) hx hb hW iSH hown hK hP 1 rfl rfl 3 (by decide) (hW _ tw_31) (fun _ h9 => h9) rfl dX0_finishInto_62 ?_
        refine lv_iconst (v := nI 0) hx hb dX0_finishInto_65 (by decide) ?_
        refine lv_bipush (v := nI 8) hx hb dX0_finishInto_66 (by decide) ?_
        refine m_cpyT (X := wX o ad cZ cG tl lc wc dc pn (nI (pfC (n, mem)).1) isw) hx hb (hml.trans hl.1.symm) hown (hW _ tw_217) (hW _ tw_219) (hW _ tw_218) (hW _ tw_10) hK hP hD hS hT1 0 5 8 rfl (by decide) (by decide) (by decide) (by decide) (Nat.le_of_ble_eq_true rfl) (Nat.le_of_ble_eq_true rfl) dX0_finishInto_68 (fun H locs hP hD hS => ?_)
        have hP : va_P D vwCl (wC o ad cI cZ cG tl lc wc dc pn (nI (pfC (n, mem)).1) isw (pfD (n, mem))) H := by rw [pfD_e]; exact hP
        have hD : va_D A (wC o ad cI cZ cG tl lc wc dc pn (nI (pfC (n, mem)).1) isw (pfD (n, mem))) := by rw [pfD_e]; exact hD
        have hP : va_P D vwCl (wC o ad cI cZ cG tl lc wc dc pn (nI (pfC (n, mem)).1) isw (pfE (n, mem) 0)) H := by rw [pfE_0]; exact hP
        have hD : va_D A (wC o ad cI cZ cG tl lc wc dc pn (nI (pfC (n, mem)).1) isw (pfE (n, mem) 0)) := by rw [pfE_0]; exact hD
        refine lv_iconst (v := nI 0) hx hb dX0_finishInto_71 (by decide) ?_
        refine lv_istore (lv' := [(5, .int (nI 0)), (0, .ref (o 1)), (1, .ref (ad kk)), (2, .long (lN 8 * (nI n).toInt64)), (4, .int (nI (zz n)))]) hx hb dX0_finishInto_72 hl (by decide) rfl (fun ls hl => ?_)
        exact loop2 ((pfC (n, mem)).1 / 64) 0 H locs ls (by omega) hP hD hS (lv_sub hl [1, 2, 0] rfl)
      · exact absurd (nI_le (by omega) (by have := zz_lt n; omega)) hc
    | succ k ih =>
      intro i H locs ls hk hP hD hS hl
      refine lv_iload hx hb dX0_finishInto_34 (lv_at hl 4 rfl) ?_
      refine lv_iload hx hb dX0_finishInto_36 (lv_at hl 3 rfl) ?_
      refine lv_icmp_ge (tgt := 52) hx hb dX0_finishInto_38 (by decide) (fun hc => ?_) (fun hc => ?_)
      · exact absurd hc (nI_ge (by omega) (by have := zz_lt n; omega))
      · refine lv_aload_n hx hb dX0_finishInto_41 rfl (lv_at hl 0 rfl) ?_
        refine lv_iconst (v := nI 0) hx hb dX0_finishInto_42 (by decide) ?_
        refine mv_callV (C := RX0) (As := [.int (nI 0)]) (rest := []) ⟨hx, hb, hml, hown, hW⟩ (c_take ((itr (fun _ => p_take (nI 0)) i (pfA (n, mem))).1) (pfZ_le i (n, mem) hn) ((itr (fun _ => p_take (nI 0)) i (pfA (n, mem))).2) (nI 0)) gE_ok (cwV 1 hW (gV tw_202 tw_195 tw_196 tw_2 tw_197) rfl rfl rfl (by decide +kernel) ⟨Nat.le_of_ble_eq_true rfl, Nat.le_of_ble_eq_true rfl⟩) (va_recv hK hP (ci := 1) (q0 := 1) rfl rfl) hP hD hK hS hA hT rfl hl.1 rfl (Nat.le_of_ble_eq_true rfl) dX0_finishInto_43 ⟨Nat.zero_le _, Nat.zero_le _⟩ (fun H locs hP hD hS => ?_)
        have hP : va_P D vwCl (wC o ad cI cZ cG tl lc wc dc pn (nI (p_take (nI 0) ((itr (fun _ => p_take (nI 0)) i (pfA (n, mem))).1, (itr (fun _ => p_take (nI 0)) i (pfA (n, mem))).2)).1) isw ((p_take (nI 0) ((itr (fun _ => p_take (nI 0)) i (pfA (n, mem))).1, (itr (fun _ => p_take (nI 0)) i (pfA (n, mem))).2)).2)) H := hP
        have hD : va_D A (wC o ad cI cZ cG tl lc wc dc pn (nI (p_take (nI 0) ((itr (fun _ => p_take (nI 0)) i (pfA (n, mem))).1, (itr (fun _ => p_take (nI 0)) i (pfA (n, mem))).2)).1) isw ((p_take (nI 0) ((itr (fun _ => p_take (nI 0)) i (pfA (n, mem))).1, (itr (fun _ => p_take (nI 0)) i (pfA (n, mem))).2)).2)) := hD
        have hP : va_P D vwCl (wC o ad cI cZ cG tl lc wc dc pn (nI (itr (fun _ => p_take (nI 0)) (i + 1) (pfA (n, mem))).1) isw ((itr (fun _ => p_take (nI 0)) (i + 1) (pfA (n, mem))).2)) H := by rw [itr_s]; exact hP
        have hD : va_D A (wC o ad cI cZ cG tl lc wc dc pn (nI (itr (fun _ => p_take (nI 0)) (i + 1) (pfA (n, mem))).1) isw ((itr (fun _ => p_take (nI 0)) (i + 1) (pfA (n, mem))).2)) := by rw [itr_s]; exact hD
        refine lv_iinc (v := nI (i + 1)) (lv' := [(5, .int (nI (i + 1))), (0, .ref (o 1)), (1, .ref (ad kk)), (2, .long (lN 8 * (nI n).toInt64)), (4, .int (nI (zz n)))]) hx hb dX0_finishInto_46 hl (k := 4) rfl (nI_1 i) (by decide) rfl (fun ls hl => ?_)
        refine lv_goto (tgt := 34) hx hb dX0_finishInto_49 (by decide) ?_
        exact ih (i + 1) H locs ls (by omega) hP hD hS (lv_sub hl [1, 2, 3, 4, 0] rfl)
  refine lv_ldc2 (v := lN 8) hx hb hown (hW _ tw_207) dX0_finishInto_0 ?_
  refine lv_aload_n hx hb dX0_finishInto_3 rfl (lv_at hl 0 rfl) ?_
  refine va_get (D := D) (ci := 1) (v := .int (nI n)) (C := RX0) (T := TX0) (N := 4) hx hb hW iSH hown hK hP 1 rfl rfl 1 (by decide) (hW _ tw_29) (fun _ h9 => h9) rfl dX0_finishInto_4 ?_
  refine lv_i2l (v := (nI n).toInt64) hx hb dX0_finishInto_7 rfl ?_
  refine lv_lmul hx hb dX0_finishInto_8 ?_
  refine lv_lstore_n (lv' := [(2, .long ((lN 8) * ((nI n).toInt64))), (0, .ref (o 1)), (1, .ref (ad kk))]) hx hb dX0_finishInto_9 rfl hl (by decide) rfl (fun ls hl => ?_)
  refine lv_bipush (v := nI 55) hx hb dX0_finishInto_10 (by decide) ?_
  refine lv_aload_n hx hb dX0_finishInto_12 rfl (lv_at hl 1 rfl) ?_
  refine va_get (D := D) (ci := 1) (v := .int (nI n)) (C := RX0) (T := TX0) (N := 4) hx hb hW iSH hown hK hP 1 rfl rfl 1 (by decide) (hW _ tw_29) (fun _ h9 => h9) rfl dX0_finishInto_13 ?_
  refine lv_isub hx hb dX0_finishInto_16 ?_
  refine lv_bipush (v := nI 64) hx hb dX0_finishInto_17 (by decide) ?_
  refine mi_callS (As := [.int ((nI 55) - (nI n)), .int (nI 64)]) (rest := []) ⟨hx, hb, hml, hown, hW⟩ (c_floorMod _ ((nI 55) - (nI n)) (nI 64) (by decide)) gE_ok (va_cwS 2 hW (gS tw_208 tw_209 tw_9 tw_210) rfl rfl rfl (by decide +kernel) ⟨Nat.le_of_ble_eq_true rfl, Nat.le_of_ble_eq_true rfl⟩) hP hD hK hS hA hT rfl hl.1 rfl (Nat.le_of_ble_eq_true rfl) dX0_finishInto_19 ⟨Nat.zero_le _, Nat.zero_le _⟩ (fun H locs hP hD hS => ?_)
  refine lv_eqi (v := nI (zz n)) (zz_eq n (by omega)) ?_
  refine lv_istore (lv' := [(4, .int (nI (zz n))), (2, .long ((lN 8) * ((nI n).toInt64))), (0, .ref (o 1)), (1, .ref (ad kk))]) hx hb dX0_finishInto_22 hl (by decide) rfl (fun ls hl => ?_)
  refine lv_aload_n hx hb dX0_finishInto_24 rfl (lv_at hl 2 rfl) ?_
  refine lv_sipush (v := nI 128) hx hb dX0_finishInto_25 (by decide) ?_
  refine mv_callV (C := RX0) (As := [.int (nI 128)]) (rest := []) ⟨hx, hb, hml, hown, hW⟩ (c_take n (by omega) mem (nI 128)) gE_ok (cwV 1 hW (gV tw_202 tw_195 tw_196 tw_2 tw_197) rfl rfl rfl (by decide +kernel) ⟨Nat.le_of_ble_eq_true rfl, Nat.le_of_ble_eq_true rfl⟩) (va_recv hK hP (ci := 1) (q0 := 1) rfl rfl) hP hD hK hS hA hT rfl hl.1 rfl (Nat.le_of_ble_eq_true rfl) dX0_finishInto_28 ⟨Nat.zero_le _, Nat.zero_le _⟩ (fun H locs hP hD hS => ?_)
  have hP : va_P D vwCl (wC o ad cI cZ cG tl lc wc dc pn (nI (p_take (nI 128) (n, mem)).1) isw ((p_take (nI 128) (n, mem)).2)) H := hP
  have hD : va_D A (wC o ad cI cZ cG tl lc wc dc pn (nI (p_take (nI 128) (n, mem)).1) isw ((p_take (nI 128) (n, mem)).2)) := hD
  have hP : va_P D vwCl (wC o ad cI cZ cG tl lc wc dc pn (nI (pfA (n, mem)).1) isw ((pfA (n, mem)).2)) H := by rw [pfA_e]; exact hP
  have hD : va_D A (wC o ad cI cZ cG tl lc wc dc pn (nI (pfA (n, mem)).1) isw ((pfA (n, mem)).2)) := by rw [pfA_e]; exact hD
  refine lv_iconst (v := nI 0) hx hb dX0_finishInto_31 (by decide) ?_
  refine lv_istore (lv' := [(5, .int (nI 0)), (4, .int (nI (zz n))), (2, .long ((lN 8) * ((nI n).toInt64))), (0, .ref (o 1)), (1, .ref (ad kk))]) hx hb dX0_finishInto_32 hl (by decide) rfl (fun ls hl => ?_)
  have hP : va_P D vwCl (wC o ad cI cZ cG tl lc wc dc pn (nI (itr (fun _ => p_take (nI 0)) 0 (pfA (n, mem))).1) isw ((itr (fun _ => p_take (nI 0)) 0 (pfA (n, mem))).2)) H := by rw [itr_0]; exact hP
  have hD : va_D A (wC o ad cI cZ cG tl lc wc dc pn (nI (itr (fun _ => p_take (nI 0)) 0 (pfA (n, mem))).1) isw ((itr (fun _ => p_take (nI 0)) 0 (pfA (n, mem))).2)) := by rw [itr_0]; exact hD
  exact loop1 (zz n) 0 H locs ls (by omega) hP hD hS (lv_sub hl [3, 4, 2, 1, 0] rfl)
end
section
/-! SHA-256'S STEPS UNDER LOCK: the same functions, which unfolding leaves alone; and their contracts -/
theorem lk_ex {α : Type} (a : α) : ∃ b : α, b = a := ⟨a, rfl⟩
noncomputable def lk {α : Type} (a : α) : α := Classical.choose (lk_ex a)
theorem lk_eq {α : Type} (a : α) : lk a = a := Classical.choose_spec (lk_ex a)
noncomputable def P_take : Int32 → Nat × xMem → Nat × xMem := lk p_take
theorem P_take_e : P_take = p_take := lk_eq _
noncomputable def P_first : Nat → Nat → Nat × xMem → Nat × xMem := lk p_takeFirst
theorem P_first_e : P_first = p_takeFirst := lk_eq _
noncomputable def P_long : Int64 → Nat × xMem → Nat × xMem := lk p_takeLong
theorem P_long_e : P_long = p_takeLong := lk_eq _
noncomputable def P_fin : Nat → Nat × xMem → Nat × xMem := lk p_finish
theorem P_fin_e : P_fin = p_finish := lk_eq _
theorem P_take_fst (x : Int32) (z : Nat × xMem) (h : z.1 < 256) : (P_take x z).1 = z.1 + 1 := by rw [P_take_e]; exact p_take_fst x z h
theorem P_first_fst (kk q : Nat) (z : Nat × xMem) (h : z.1 + q ≤ 256) : (P_first kk q z).1 = z.1 + q := by rw [P_first_e]; exact p_takeFirst_fst kk q z h
theorem P_long_fst (v : Int64) (z : Nat × xMem) (h : z.1 + 8 ≤ 256) : (P_long v z).1 = z.1 + 8 := by
  rw [P_long_e]
  unfold p_takeLong
  exact p_takeLongN_fst v 8 z h
section LCK
variable {l : Launch} {D : va_G} {o ad : Nat → Nat} {cI cZ cG : ClassId} {tl lc wc dc pn : Int32} {isw : Nat → Int32}
theorem C_take (n : Nat) (hn : n ≤ 256) (mem : xMem) (x : Int32) : MV l gE yX0_take (.code yX0_take cX0_take 2 none :: tW) ({ frames := 0, cells := 0, slots := 0, locals := 0 }) D vwCl (tC cI cZ cG) [.ref (o 1), .int x] (wC o ad cI cZ cG tl lc wc dc pn (nI n) isw mem) (wC o ad cI cZ cG tl lc wc dc pn (nI (P_take x (n, mem)).1) isw (P_take x (n, mem)).2) := by
  rw [P_take_e]
  exact c_take n hn mem x
theorem C_takeFirst (n q kk : Nat) (hn : n ≤ 256) (hq : q ≤ lenC kk) (hkk : kk < 71) (mem : xMem) : MV l gE yX0_takeFirst (.code yX0_takeFirst cX0_takeFirst 4 none :: tW) ({ frames := 1, cells := 0, slots := 0, locals := 21 }) D vwCl (tC cI cZ cG) [.ref (o 1), .ref (ad kk), .int (nI q)] (wC o ad cI cZ cG tl lc wc dc pn (nI n) isw mem) (wC o ad cI cZ cG tl lc wc dc pn (nI (P_first kk q (n, mem)).1) isw (P_first kk q (n, mem)).2) := by
  rw [P_first_e]
  exact c_takeFirst n q kk hn hq hkk mem
theorem C_takeLong (n : Nat) (hn : n ≤ 256) (mem : xMem) (v : Int64) : MV l gE yX0_takeLong (.code yX0_takeLong cX0_takeLong 4 none :: tW) ({ frames := 1, cells := 0, slots := 0, locals := 21 }) D vwCl (tC cI cZ cG) [.ref (o 1), .long v] (wC o ad cI cZ cG tl lc wc dc pn (nI n) isw mem) (wC o ad cI cZ cG tl lc wc dc pn (nI (P_long v (n, mem)).1) isw (P_long v (n, mem)).2) := by
  rw [P_long_e]
  exact c_takeLong n hn mem v
theorem C_finishInto (n kk : Nat) (hn : n ≤ 247) (hkk : kk < 71) (hk3 : lenC kk = 32) (mem : xMem) : MV l gE yX0_finishInto (.code yX0_finishInto cX0_finishInto 6 none :: tW) ({ frames := 2, cells := 0, slots := 0, locals := 96 }) D vwCl (tC cI cZ cG) [.ref (o 1), .ref (ad kk)] (wC o ad cI cZ cG tl lc wc dc pn (nI n) isw mem) (wC o ad cI cZ cG tl lc wc dc pn (nI (P_fin kk (n, mem)).1) isw (P_fin kk (n, mem)).2) := by
  rw [P_fin_e]
  exact c_finishInto n kk hn hkk hk3 mem
end LCK
end
section
theorem dX1_init_0 : decode cX1_init 0 = .ok (.aload_n 0, 1) := by decide +kernel
theorem dX1_init_1 : decode cX1_init 1 = .ok (.invokespecial 1, 3) := by decide +kernel
theorem dX1_init_4 : decode cX1_init 4 = .ok (.aload_n 0, 1) := by decide +kernel
theorem dX1_init_5 : decode cX1_init 5 = .ok (.new 7, 3) := by decide +kernel
theorem dX1_init_8 : decode cX1_init 8 = .ok (.dup, 1) := by decide +kernel
theorem dX1_init_9 : decode cX1_init 9 = .ok (.invokespecial 9, 3) := by decide +kernel
theorem dX1_init_12 : decode cX1_init 12 = .ok (.putfield 10, 3) := by decide +kernel
theorem dX1_init_15 : decode cX1_init 15 = .ok (.aload_n 0, 1) := by decide +kernel
theorem dX1_init_16 : decode cX1_init 16 = .ok (.sipush 200, 3) := by decide +kernel
theorem dX1_init_19 : decode cX1_init 19 = .ok (.newarray .int, 2) := by decide +kernel
theorem dX1_init_21 : decode cX1_init 21 = .ok (.putfield 16, 3) := by decide +kernel
theorem dX1_init_24 : decode cX1_init 24 = .ok (.aload_n 0, 1) := by decide +kernel
theorem dX1_init_25 : decode cX1_init 25 = .ok (.iconst 0, 1) := by decide +kernel
theorem dX1_init_26 : decode cX1_init 26 = .ok (.putfield 20, 3) := by decide +kernel
theorem dX1_init_29 : decode cX1_init 29 = .ok (.aload_n 0, 1) := by decide +kernel
theorem dX1_init_30 : decode cX1_init 30 = .ok (.bipush 24, 2) := by decide +kernel
theorem dX1_init_32 : decode cX1_init 32 = .ok (.bipush 32, 2) := by decide +kernel
theorem dX1_init_34 : decode cX1_init 34 = .ok (.multianewarray 24 2, 4) := by decide +kernel
theorem dX1_init_38 : decode cX1_init 38 = .ok (.putfield 26, 3) := by decide +kernel
theorem dX1_init_41 : decode cX1_init 41 = .ok (.aload_n 0, 1) := by decide +kernel
theorem dX1_init_42 : decode cX1_init 42 = .ok (.bipush 24, 2) := by decide +kernel
theorem dX1_init_44 : decode cX1_init 44 = .ok (.newarray .boolean, 2) := by decide +kernel
theorem dX1_init_46 : decode cX1_init 46 = .ok (.putfield 29, 3) := by decide +kernel
theorem dX1_init_49 : decode cX1_init 49 = .ok (.aload_n 0, 1) := by decide +kernel
theorem dX1_init_50 : decode cX1_init 50 = .ok (.iconst 0, 1) := by decide +kernel
theorem dX1_init_51 : decode cX1_init 51 = .ok (.putfield 33, 3) := by decide +kernel
theorem dX1_init_54 : decode cX1_init 54 = .ok (.aload_n 0, 1) := by decide +kernel
theorem dX1_init_55 : decode cX1_init 55 = .ok (.iconst 0, 1) := by decide +kernel
theorem dX1_init_56 : decode cX1_init 56 = .ok (.putfield 36, 3) := by decide +kernel
theorem dX1_init_59 : decode cX1_init 59 = .ok (.aload_n 0, 1) := by decide +kernel
theorem dX1_init_60 : decode cX1_init 60 = .ok (.bipush 12, 2) := by decide +kernel
theorem dX1_init_62 : decode cX1_init 62 = .ok (.bipush 32, 2) := by decide +kernel
theorem dX1_init_64 : decode cX1_init 64 = .ok (.multianewarray 24 2, 4) := by decide +kernel
theorem dX1_init_68 : decode cX1_init 68 = .ok (.putfield 39, 3) := by decide +kernel
theorem dX1_init_71 : decode cX1_init 71 = .ok (.aload_n 0, 1) := by decide +kernel
theorem dX1_init_72 : decode cX1_init 72 = .ok (.bipush 12, 2) := by decide +kernel
theorem dX1_init_74 : decode cX1_init 74 = .ok (.newarray .int, 2) := by decide +kernel
theorem dX1_init_76 : decode cX1_init 76 = .ok (.putfield 42, 3) := by decide +kernel
theorem dX1_init_79 : decode cX1_init 79 = .ok (.aload_n 0, 1) := by decide +kernel
theorem dX1_init_80 : decode cX1_init 80 = .ok (.iconst 0, 1) := by decide +kernel
theorem dX1_init_81 : decode cX1_init 81 = .ok (.putfield 45, 3) := by decide +kernel
theorem dX1_init_84 : decode cX1_init 84 = .ok (.aload_n 0, 1) := by decide +kernel
theorem dX1_init_85 : decode cX1_init 85 = .ok (.iconst 5, 1) := by decide +kernel
theorem dX1_init_86 : decode cX1_init 86 = .ok (.bipush 32, 2) := by decide +kernel
theorem dX1_init_88 : decode cX1_init 88 = .ok (.multianewarray 24 2, 4) := by decide +kernel
theorem dX1_init_92 : decode cX1_init 92 = .ok (.putfield 48, 3) := by decide +kernel
theorem dX1_init_95 : decode cX1_init 95 = .ok (.aload_n 0, 1) := by decide +kernel
theorem dX1_init_96 : decode cX1_init 96 = .ok (.iconst (-1), 1) := by decide +kernel
theorem dX1_init_97 : decode cX1_init 97 = .ok (.putfield 51, 3) := by decide +kernel
theorem dX1_init_100 : decode cX1_init 100 = .ok (.aload_n 0, 1) := by decide +kernel
theorem dX1_init_101 : decode cX1_init 101 = .ok (.bipush 24, 2) := by decide +kernel
theorem dX1_init_103 : decode cX1_init 103 = .ok (.bipush 32, 2) := by decide +kernel
theorem dX1_init_105 : decode cX1_init 105 = .ok (.multianewarray 24 2, 4) := by decide +kernel
theorem dX1_init_109 : decode cX1_init 109 = .ok (.putfield 54, 3) := by decide +kernel
theorem dX1_init_112 : decode cX1_init 112 = .ok (.aload_n 0, 1) := by decide +kernel
theorem dX1_init_113 : decode cX1_init 113 = .ok (.bipush 32, 2) := by decide +kernel
theorem dX1_init_115 : decode cX1_init 115 = .ok (.newarray .int, 2) := by decide +kernel
theorem dX1_init_117 : decode cX1_init 117 = .ok (.putfield 57, 3) := by decide +kernel
theorem dX1_init_120 : decode cX1_init 120 = .ok (.return_, 1) := by decide +kernel
theorem dX1_feed_0 : decode cX1_feed 0 = .ok (.iload_n 3, 1) := by decide +kernel
theorem dX1_feed_1 : decode cX1_feed 1 = .ok (.iconst 1, 1) := by decide +kernel
theorem dX1_feed_2 : decode cX1_feed 2 = .ok (.if_icmp .lt 9, 3) := by decide +kernel
theorem dX1_feed_5 : decode cX1_feed 5 = .ok (.iload_n 3, 1) := by decide +kernel
theorem dX1_feed_6 : decode cX1_feed 6 = .ok (.bipush 8, 2) := by decide +kernel
theorem dX1_feed_8 : decode cX1_feed 8 = .ok (.if_icmp .le 13, 3) := by decide +kernel
theorem dX1_feed_11 : decode cX1_feed 11 = .ok (.new 60, 3) := by decide +kernel
theorem dX1_feed_14 : decode cX1_feed 14 = .ok (.dup, 1) := by decide +kernel
theorem dX1_feed_15 : decode cX1_feed 15 = .ok (.ldc 62, 2) := by decide +kernel
theorem dX1_feed_17 : decode cX1_feed 17 = .ok (.invokespecial 64, 3) := by decide +kernel
theorem dX1_feed_20 : decode cX1_feed 20 = .ok (.athrow, 1) := by decide +kernel
theorem dX1_feed_21 : decode cX1_feed 21 = .ok (.aload_n 0, 1) := by decide +kernel
theorem dX1_feed_22 : decode cX1_feed 22 = .ok (.getfield 20, 3) := by decide +kernel
theorem dX1_feed_25 : decode cX1_feed 25 = .ok (.iload_n 3, 1) := by decide +kernel
theorem dX1_feed_26 : decode cX1_feed 26 = .ok (.iadd, 1) := by decide +kernel
theorem dX1_feed_27 : decode cX1_feed 27 = .ok (.sipush 200, 3) := by decide +kernel
theorem dX1_feed_30 : decode cX1_feed 30 = .ok (.if_icmp .le 13, 3) := by decide +kernel
theorem dX1_feed_33 : decode cX1_feed 33 = .ok (.new 67, 3) := by decide +kernel
theorem dX1_feed_36 : decode cX1_feed 36 = .ok (.dup, 1) := by decide +kernel
theorem dX1_feed_37 : decode cX1_feed 37 = .ok (.ldc 69, 2) := by decide +kernel
theorem dX1_feed_39 : decode cX1_feed 39 = .ok (.invokespecial 71, 3) := by decide +kernel
theorem dX1_feed_42 : decode cX1_feed 42 = .ok (.athrow, 1) := by decide +kernel
theorem dX1_feed_43 : decode cX1_feed 43 = .ok (.iload_n 3, 1) := by decide +kernel
theorem dX1_feed_44 : decode cX1_feed 44 = .ok (.iconst 1, 1) := by decide +kernel
theorem dX1_feed_45 : decode cX1_feed 45 = .ok (.isub, 1) := by decide +kernel
theorem dX1_feed_46 : decode cX1_feed 46 = .ok (.istore 4, 2) := by decide +kernel
theorem dX1_feed_48 : decode cX1_feed 48 = .ok (.iload 4, 2) := by decide +kernel
theorem dX1_feed_50 : decode cX1_feed 50 = .ok (.ifCond .lt 40, 3) := by decide +kernel
theorem dX1_feed_53 : decode cX1_feed 53 = .ok (.aload_n 0, 1) := by decide +kernel
theorem dX1_feed_54 : decode cX1_feed 54 = .ok (.getfield 16, 3) := by decide +kernel
theorem dX1_feed_57 : decode cX1_feed 57 = .ok (.aload_n 0, 1) := by decide +kernel
theorem dX1_feed_58 : decode cX1_feed 58 = .ok (.getfield 20, 3) := by decide +kernel
theorem dX1_feed_61 : decode cX1_feed 61 = .ok (.lload_n 1, 1) := by decide +kernel
theorem dX1_feed_62 : decode cX1_feed 62 = .ok (.bipush 8, 2) := by decide +kernel
theorem dX1_feed_64 : decode cX1_feed 64 = .ok (.iload 4, 2) := by decide +kernel
theorem dX1_feed_66 : decode cX1_feed 66 = .ok (.imul, 1) := by decide +kernel
theorem dX1_feed_67 : decode cX1_feed 67 = .ok (.lushr, 1) := by decide +kernel
theorem dX1_feed_68 : decode cX1_feed 68 = .ok (.l2i, 1) := by decide +kernel
theorem dX1_feed_69 : decode cX1_feed 69 = .ok (.sipush 255, 3) := by decide +kernel
theorem dX1_feed_72 : decode cX1_feed 72 = .ok (.iand, 1) := by decide +kernel
theorem dX1_feed_73 : decode cX1_feed 73 = .ok (.iastore, 1) := by decide +kernel
theorem dX1_feed_74 : decode cX1_feed 74 = .ok (.aload_n 0, 1) := by decide +kernel
theorem dX1_feed_75 : decode cX1_feed 75 = .ok (.dup, 1) := by decide +kernel
theorem dX1_feed_76 : decode cX1_feed 76 = .ok (.getfield 20, 3) := by decide +kernel
theorem dX1_feed_79 : decode cX1_feed 79 = .ok (.iconst 1, 1) := by decide +kernel
theorem dX1_feed_80 : decode cX1_feed 80 = .ok (.iadd, 1) := by decide +kernel
theorem dX1_feed_81 : decode cX1_feed 81 = .ok (.putfield 20, 3) := by decide +kernel
theorem dX1_feed_84 : decode cX1_feed 84 = .ok (.iinc 4 (-1), 3) := by decide +kernel
theorem dX1_feed_87 : decode cX1_feed 87 = .ok (.goto (-39), 3) := by decide +kernel
theorem dX1_feed_90 : decode cX1_feed 90 = .ok (.aload_n 0, 1) := by decide +kernel
theorem dX1_feed_91 : decode cX1_feed 91 = .ok (.getfield 20, 3) := by decide +kernel
theorem dX1_feed_94 : decode cX1_feed 94 = .ok (.ireturn, 1) := by decide +kernel
theorem dX1_leaf_0 : decode cX1_leaf 0 = .ok (.aload_n 0, 1) := by decide +kernel
theorem dX1_leaf_1 : decode cX1_leaf 1 = .ok (.getfield 33, 3) := by decide +kernel
theorem dX1_leaf_4 : decode cX1_leaf 4 = .ok (.bipush 24, 2) := by decide +kernel
theorem dX1_leaf_6 : decode cX1_leaf 6 = .ok (.if_icmp .lt 13, 3) := by decide +kernel
theorem dX1_leaf_9 : decode cX1_leaf 9 = .ok (.new 67, 3) := by decide +kernel
theorem dX1_leaf_12 : decode cX1_leaf 12 = .ok (.dup, 1) := by decide +kernel
theorem dX1_leaf_13 : decode cX1_leaf 13 = .ok (.ldc 72, 2) := by decide +kernel
theorem dX1_leaf_15 : decode cX1_leaf 15 = .ok (.invokespecial 71, 3) := by decide +kernel
theorem dX1_leaf_18 : decode cX1_leaf 18 = .ok (.athrow, 1) := by decide +kernel
theorem dX1_leaf_19 : decode cX1_leaf 19 = .ok (.aload_n 0, 1) := by decide +kernel
theorem dX1_leaf_20 : decode cX1_leaf 20 = .ok (.getfield 10, 3) := by decide +kernel
theorem dX1_leaf_23 : decode cX1_leaf 23 = .ok (.invokevirtual 74, 3) := by decide +kernel
theorem dX1_leaf_26 : decode cX1_leaf 26 = .ok (.aload_n 0, 1) := by decide +kernel
theorem dX1_leaf_27 : decode cX1_leaf 27 = .ok (.getfield 10, 3) := by decide +kernel
theorem dX1_leaf_30 : decode cX1_leaf 30 = .ok (.iconst 0, 1) := by decide +kernel
theorem dX1_leaf_31 : decode cX1_leaf 31 = .ok (.invokevirtual 77, 3) := by decide +kernel
theorem dX1_leaf_34 : decode cX1_leaf 34 = .ok (.aload_n 0, 1) := by decide +kernel
theorem dX1_leaf_35 : decode cX1_leaf 35 = .ok (.getfield 10, 3) := by decide +kernel
theorem dX1_leaf_38 : decode cX1_leaf 38 = .ok (.aload_n 0, 1) := by decide +kernel
theorem dX1_leaf_39 : decode cX1_leaf 39 = .ok (.getfield 16, 3) := by decide +kernel
theorem dX1_leaf_42 : decode cX1_leaf 42 = .ok (.aload_n 0, 1) := by decide +kernel
theorem dX1_leaf_43 : decode cX1_leaf 43 = .ok (.getfield 20, 3) := by decide +kernel
theorem dX1_leaf_46 : decode cX1_leaf 46 = .ok (.invokevirtual 81, 3) := by decide +kernel
theorem dX1_leaf_49 : decode cX1_leaf 49 = .ok (.aload_n 0, 1) := by decide +kernel
theorem dX1_leaf_50 : decode cX1_leaf 50 = .ok (.getfield 10, 3) := by decide +kernel
theorem dX1_leaf_53 : decode cX1_leaf 53 = .ok (.aload_n 0, 1) := by decide +kernel
theorem dX1_leaf_54 : decode cX1_leaf 54 = .ok (.getfield 26, 3) := by decide +kernel
theorem dX1_leaf_57 : decode cX1_leaf 57 = .ok (.aload_n 0, 1) := by decide +kernel
theorem dX1_leaf_58 : decode cX1_leaf 58 = .ok (.getfield 33, 3) := by decide +kernel
theorem dX1_leaf_61 : decode cX1_leaf 61 = .ok (.aaload, 1) := by decide +kernel
theorem dX1_leaf_62 : decode cX1_leaf 62 = .ok (.invokevirtual 85, 3) := by decide +kernel
theorem dX1_leaf_65 : decode cX1_leaf 65 = .ok (.aload_n 0, 1) := by decide +kernel
theorem dX1_leaf_66 : decode cX1_leaf 66 = .ok (.iconst 0, 1) := by decide +kernel
theorem dX1_leaf_67 : decode cX1_leaf 67 = .ok (.putfield 20, 3) := by decide +kernel
theorem dX1_leaf_70 : decode cX1_leaf 70 = .ok (.aload_n 0, 1) := by decide +kernel
theorem dX1_leaf_71 : decode cX1_leaf 71 = .ok (.dup, 1) := by decide +kernel
theorem dX1_leaf_72 : decode cX1_leaf 72 = .ok (.getfield 33, 3) := by decide +kernel
theorem dX1_leaf_75 : decode cX1_leaf 75 = .ok (.iconst 1, 1) := by decide +kernel
theorem dX1_leaf_76 : decode cX1_leaf 76 = .ok (.iadd, 1) := by decide +kernel
theorem dX1_leaf_77 : decode cX1_leaf 77 = .ok (.putfield 33, 3) := by decide +kernel
theorem dX1_leaf_80 : decode cX1_leaf 80 = .ok (.aload_n 0, 1) := by decide +kernel
theorem dX1_leaf_81 : decode cX1_leaf 81 = .ok (.getfield 33, 3) := by decide +kernel
theorem dX1_leaf_84 : decode cX1_leaf 84 = .ok (.iconst 1, 1) := by decide +kernel
theorem dX1_leaf_85 : decode cX1_leaf 85 = .ok (.isub, 1) := by decide +kernel
theorem dX1_leaf_86 : decode cX1_leaf 86 = .ok (.ireturn, 1) := by decide +kernel
theorem dX1_close_0 : decode cX1_close 0 = .ok (.aload_n 0, 1) := by decide +kernel
theorem dX1_close_1 : decode cX1_close 1 = .ok (.getfield 45, 3) := by decide +kernel
theorem dX1_close_4 : decode cX1_close 4 = .ok (.bipush 12, 2) := by decide +kernel
theorem dX1_close_6 : decode cX1_close 6 = .ok (.if_icmp .lt 13, 3) := by decide +kernel
theorem dX1_close_9 : decode cX1_close 9 = .ok (.new 67, 3) := by decide +kernel
theorem dX1_close_12 : decode cX1_close 12 = .ok (.dup, 1) := by decide +kernel
theorem dX1_close_13 : decode cX1_close 13 = .ok (.ldc 89, 2) := by decide +kernel
theorem dX1_close_15 : decode cX1_close 15 = .ok (.invokespecial 71, 3) := by decide +kernel
theorem dX1_close_18 : decode cX1_close 18 = .ok (.athrow, 1) := by decide +kernel
theorem dX1_close_19 : decode cX1_close 19 = .ok (.aload_n 0, 1) := by decide +kernel
theorem dX1_close_20 : decode cX1_close 20 = .ok (.aload_n 0, 1) := by decide +kernel
theorem dX1_close_21 : decode cX1_close 21 = .ok (.getfield 33, 3) := by decide +kernel
theorem dX1_close_24 : decode cX1_close 24 = .ok (.aload_n 0, 1) := by decide +kernel
theorem dX1_close_25 : decode cX1_close 25 = .ok (.getfield 39, 3) := by decide +kernel
theorem dX1_close_28 : decode cX1_close 28 = .ok (.aload_n 0, 1) := by decide +kernel
theorem dX1_close_29 : decode cX1_close 29 = .ok (.getfield 45, 3) := by decide +kernel
theorem dX1_close_32 : decode cX1_close 32 = .ok (.aaload, 1) := by decide +kernel
theorem dX1_close_33 : decode cX1_close 33 = .ok (.invokevirtual 91, 3) := by decide +kernel
theorem dX1_close_36 : decode cX1_close 36 = .ok (.aload_n 0, 1) := by decide +kernel
theorem dX1_close_37 : decode cX1_close 37 = .ok (.getfield 42, 3) := by decide +kernel
theorem dX1_close_40 : decode cX1_close 40 = .ok (.aload_n 0, 1) := by decide +kernel
theorem dX1_close_41 : decode cX1_close 41 = .ok (.getfield 45, 3) := by decide +kernel
theorem dX1_close_44 : decode cX1_close 44 = .ok (.aload_n 0, 1) := by decide +kernel
theorem dX1_close_45 : decode cX1_close 45 = .ok (.getfield 33, 3) := by decide +kernel
theorem dX1_close_48 : decode cX1_close 48 = .ok (.iastore, 1) := by decide +kernel
theorem dX1_close_49 : decode cX1_close 49 = .ok (.aload_n 0, 1) := by decide +kernel
theorem dX1_close_50 : decode cX1_close 50 = .ok (.dup, 1) := by decide +kernel
theorem dX1_close_51 : decode cX1_close 51 = .ok (.getfield 45, 3) := by decide +kernel
theorem dX1_close_54 : decode cX1_close 54 = .ok (.iconst 1, 1) := by decide +kernel
theorem dX1_close_55 : decode cX1_close 55 = .ok (.iadd, 1) := by decide +kernel
theorem dX1_close_56 : decode cX1_close 56 = .ok (.putfield 45, 3) := by decide +kernel
theorem dX1_close_59 : decode cX1_close 59 = .ok (.aload_n 0, 1) := by decide +kernel
theorem dX1_close_60 : decode cX1_close 60 = .ok (.getfield 45, 3) := by decide +kernel
theorem dX1_close_63 : decode cX1_close 63 = .ok (.iconst 1, 1) := by decide +kernel
theorem dX1_close_64 : decode cX1_close 64 = .ok (.isub, 1) := by decide +kernel
theorem dX1_close_65 : decode cX1_close 65 = .ok (.ireturn, 1) := by decide +kernel
theorem dX1_treeInto_0 : decode cX1_treeInto 0 = .ok (.iload_n 1, 1) := by decide +kernel
theorem dX1_treeInto_1 : decode cX1_treeInto 1 = .ok (.iconst 1, 1) := by decide +kernel
theorem dX1_treeInto_2 : decode cX1_treeInto 2 = .ok (.if_icmp .ge 19, 3) := by decide +kernel
theorem dX1_treeInto_5 : decode cX1_treeInto 5 = .ok (.aload_n 0, 1) := by decide +kernel
theorem dX1_treeInto_6 : decode cX1_treeInto 6 = .ok (.getfield 10, 3) := by decide +kernel
theorem dX1_treeInto_9 : decode cX1_treeInto 9 = .ok (.invokevirtual 74, 3) := by decide +kernel
theorem dX1_treeInto_12 : decode cX1_treeInto 12 = .ok (.aload_n 0, 1) := by decide +kernel
theorem dX1_treeInto_13 : decode cX1_treeInto 13 = .ok (.getfield 10, 3) := by decide +kernel
theorem dX1_treeInto_16 : decode cX1_treeInto 16 = .ok (.aload_n 2, 1) := by decide +kernel
theorem dX1_treeInto_17 : decode cX1_treeInto 17 = .ok (.invokevirtual 85, 3) := by decide +kernel
theorem dX1_treeInto_20 : decode cX1_treeInto 20 = .ok (.return_, 1) := by decide +kernel
theorem dX1_treeInto_21 : decode cX1_treeInto 21 = .ok (.aload_n 0, 1) := by decide +kernel
theorem dX1_treeInto_22 : decode cX1_treeInto 22 = .ok (.iload_n 1, 1) := by decide +kernel
theorem dX1_treeInto_23 : decode cX1_treeInto 23 = .ok (.invokevirtual 167, 3) := by decide +kernel
theorem dX1_treeInto_26 : decode cX1_treeInto 26 = .ok (.iload_n 1, 1) := by decide +kernel
theorem dX1_treeInto_27 : decode cX1_treeInto 27 = .ok (.istore_n 3, 1) := by decide +kernel
theorem dX1_treeInto_28 : decode cX1_treeInto 28 = .ok (.iload_n 3, 1) := by decide +kernel
theorem dX1_treeInto_29 : decode cX1_treeInto 29 = .ok (.iconst 1, 1) := by decide +kernel
theorem dX1_treeInto_30 : decode cX1_treeInto 30 = .ok (.if_icmp .le 17, 3) := by decide +kernel
theorem dX1_treeInto_33 : decode cX1_treeInto 33 = .ok (.aload_n 0, 1) := by decide +kernel
theorem dX1_treeInto_34 : decode cX1_treeInto 34 = .ok (.iload_n 3, 1) := by decide +kernel
theorem dX1_treeInto_35 : decode cX1_treeInto 35 = .ok (.invokevirtual 170, 3) := by decide +kernel
theorem dX1_treeInto_38 : decode cX1_treeInto 38 = .ok (.iload_n 3, 1) := by decide +kernel
theorem dX1_treeInto_39 : decode cX1_treeInto 39 = .ok (.iload_n 3, 1) := by decide +kernel
theorem dX1_treeInto_40 : decode cX1_treeInto 40 = .ok (.iconst 2, 1) := by decide +kernel
theorem dX1_treeInto_41 : decode cX1_treeInto 41 = .ok (.idiv, 1) := by decide +kernel
theorem dX1_treeInto_42 : decode cX1_treeInto 42 = .ok (.isub, 1) := by decide +kernel
theorem dX1_treeInto_43 : decode cX1_treeInto 43 = .ok (.istore_n 3, 1) := by decide +kernel
theorem dX1_treeInto_44 : decode cX1_treeInto 44 = .ok (.goto (-16), 3) := by decide +kernel
theorem dX1_treeInto_47 : decode cX1_treeInto 47 = .ok (.aload_n 0, 1) := by decide +kernel
theorem dX1_treeInto_48 : decode cX1_treeInto 48 = .ok (.getfield 54, 3) := by decide +kernel
theorem dX1_treeInto_51 : decode cX1_treeInto 51 = .ok (.iconst 0, 1) := by decide +kernel
theorem dX1_treeInto_52 : decode cX1_treeInto 52 = .ok (.aaload, 1) := by decide +kernel
theorem dX1_treeInto_53 : decode cX1_treeInto 53 = .ok (.aload_n 2, 1) := by decide +kernel
theorem dX1_treeInto_54 : decode cX1_treeInto 54 = .ok (.invokestatic 173, 3) := by decide +kernel
theorem dX1_treeInto_57 : decode cX1_treeInto 57 = .ok (.return_, 1) := by decide +kernel
theorem dX1_layLeaves_0 : decode cX1_layLeaves 0 = .ok (.iconst 0, 1) := by decide +kernel
theorem dX1_layLeaves_1 : decode cX1_layLeaves 1 = .ok (.istore_n 2, 1) := by decide +kernel
theorem dX1_layLeaves_2 : decode cX1_layLeaves 2 = .ok (.iload_n 2, 1) := by decide +kernel
theorem dX1_layLeaves_3 : decode cX1_layLeaves 3 = .ok (.iload_n 1, 1) := by decide +kernel
theorem dX1_layLeaves_4 : decode cX1_layLeaves 4 = .ok (.if_icmp .ge 24, 3) := by decide +kernel
theorem dX1_layLeaves_7 : decode cX1_layLeaves 7 = .ok (.aload_n 0, 1) := by decide +kernel
theorem dX1_layLeaves_8 : decode cX1_layLeaves 8 = .ok (.getfield 26, 3) := by decide +kernel
theorem dX1_layLeaves_11 : decode cX1_layLeaves 11 = .ok (.iload_n 2, 1) := by decide +kernel
theorem dX1_layLeaves_12 : decode cX1_layLeaves 12 = .ok (.aaload, 1) := by decide +kernel
theorem dX1_layLeaves_13 : decode cX1_layLeaves 13 = .ok (.aload_n 0, 1) := by decide +kernel
theorem dX1_layLeaves_14 : decode cX1_layLeaves 14 = .ok (.getfield 54, 3) := by decide +kernel
theorem dX1_layLeaves_17 : decode cX1_layLeaves 17 = .ok (.iload_n 2, 1) := by decide +kernel
theorem dX1_layLeaves_18 : decode cX1_layLeaves 18 = .ok (.aaload, 1) := by decide +kernel
theorem dX1_layLeaves_19 : decode cX1_layLeaves 19 = .ok (.invokestatic 173, 3) := by decide +kernel
theorem dX1_layLeaves_22 : decode cX1_layLeaves 22 = .ok (.iinc 2 1, 3) := by decide +kernel
theorem dX1_layLeaves_25 : decode cX1_layLeaves 25 = .ok (.goto (-23), 3) := by decide +kernel
theorem dX1_layLeaves_28 : decode cX1_layLeaves 28 = .ok (.return_, 1) := by decide +kernel
theorem dX1_copyDigest_0 : decode cX1_copyDigest 0 = .ok (.aload_n 0, 1) := by decide +kernel
theorem dX1_copyDigest_1 : decode cX1_copyDigest 1 = .ok (.iconst 0, 1) := by decide +kernel
theorem dX1_copyDigest_2 : decode cX1_copyDigest 2 = .ok (.aload_n 1, 1) := by decide +kernel
theorem dX1_copyDigest_3 : decode cX1_copyDigest 3 = .ok (.iconst 0, 1) := by decide +kernel
theorem dX1_copyDigest_4 : decode cX1_copyDigest 4 = .ok (.bipush 32, 2) := by decide +kernel
theorem dX1_copyDigest_6 : decode cX1_copyDigest 6 = .ok (.invokestatic 197, 3) := by decide +kernel
theorem dX1_copyDigest_9 : decode cX1_copyDigest 9 = .ok (.return_, 1) := by decide +kernel
theorem dX1_foldLevel_0 : decode cX1_foldLevel 0 = .ok (.iconst 0, 1) := by decide +kernel
theorem dX1_foldLevel_1 : decode cX1_foldLevel 1 = .ok (.istore_n 2, 1) := by decide +kernel
theorem dX1_foldLevel_2 : decode cX1_foldLevel 2 = .ok (.iload_n 2, 1) := by decide +kernel
theorem dX1_foldLevel_3 : decode cX1_foldLevel 3 = .ok (.iconst 1, 1) := by decide +kernel
theorem dX1_foldLevel_4 : decode cX1_foldLevel 4 = .ok (.iadd, 1) := by decide +kernel
theorem dX1_foldLevel_5 : decode cX1_foldLevel 5 = .ok (.iload_n 1, 1) := by decide +kernel
theorem dX1_foldLevel_6 : decode cX1_foldLevel 6 = .ok (.if_icmp .ge 35, 3) := by decide +kernel
theorem dX1_foldLevel_9 : decode cX1_foldLevel 9 = .ok (.aload_n 0, 1) := by decide +kernel
theorem dX1_foldLevel_10 : decode cX1_foldLevel 10 = .ok (.aload_n 0, 1) := by decide +kernel
theorem dX1_foldLevel_11 : decode cX1_foldLevel 11 = .ok (.getfield 54, 3) := by decide +kernel
theorem dX1_foldLevel_14 : decode cX1_foldLevel 14 = .ok (.iload_n 2, 1) := by decide +kernel
theorem dX1_foldLevel_15 : decode cX1_foldLevel 15 = .ok (.aaload, 1) := by decide +kernel
theorem dX1_foldLevel_16 : decode cX1_foldLevel 16 = .ok (.aload_n 0, 1) := by decide +kernel
theorem dX1_foldLevel_17 : decode cX1_foldLevel 17 = .ok (.getfield 54, 3) := by decide +kernel
theorem dX1_foldLevel_20 : decode cX1_foldLevel 20 = .ok (.iload_n 2, 1) := by decide +kernel
theorem dX1_foldLevel_21 : decode cX1_foldLevel 21 = .ok (.iconst 1, 1) := by decide +kernel
theorem dX1_foldLevel_22 : decode cX1_foldLevel 22 = .ok (.iadd, 1) := by decide +kernel
theorem dX1_foldLevel_23 : decode cX1_foldLevel 23 = .ok (.aaload, 1) := by decide +kernel
theorem dX1_foldLevel_24 : decode cX1_foldLevel 24 = .ok (.aload_n 0, 1) := by decide +kernel
theorem dX1_foldLevel_25 : decode cX1_foldLevel 25 = .ok (.getfield 54, 3) := by decide +kernel
theorem dX1_foldLevel_28 : decode cX1_foldLevel 28 = .ok (.iload_n 2, 1) := by decide +kernel
theorem dX1_foldLevel_29 : decode cX1_foldLevel 29 = .ok (.iconst 2, 1) := by decide +kernel
theorem dX1_foldLevel_30 : decode cX1_foldLevel 30 = .ok (.idiv, 1) := by decide +kernel
theorem dX1_foldLevel_31 : decode cX1_foldLevel 31 = .ok (.aaload, 1) := by decide +kernel
theorem dX1_foldLevel_32 : decode cX1_foldLevel 32 = .ok (.invokevirtual 185, 3) := by decide +kernel
theorem dX1_foldLevel_35 : decode cX1_foldLevel 35 = .ok (.iinc 2 2, 3) := by decide +kernel
theorem dX1_foldLevel_38 : decode cX1_foldLevel 38 = .ok (.goto (-36), 3) := by decide +kernel
theorem dX1_foldLevel_41 : decode cX1_foldLevel 41 = .ok (.iload_n 1, 1) := by decide +kernel
theorem dX1_foldLevel_42 : decode cX1_foldLevel 42 = .ok (.iconst 2, 1) := by decide +kernel
theorem dX1_foldLevel_43 : decode cX1_foldLevel 43 = .ok (.irem, 1) := by decide +kernel
theorem dX1_foldLevel_44 : decode cX1_foldLevel 44 = .ok (.iconst 1, 1) := by decide +kernel
theorem dX1_foldLevel_45 : decode cX1_foldLevel 45 = .ok (.if_icmp .ne 22, 3) := by decide +kernel
theorem dX1_foldLevel_48 : decode cX1_foldLevel 48 = .ok (.aload_n 0, 1) := by decide +kernel
theorem dX1_foldLevel_49 : decode cX1_foldLevel 49 = .ok (.getfield 54, 3) := by decide +kernel
theorem dX1_foldLevel_52 : decode cX1_foldLevel 52 = .ok (.iload_n 1, 1) := by decide +kernel
theorem dX1_foldLevel_53 : decode cX1_foldLevel 53 = .ok (.iconst 1, 1) := by decide +kernel
theorem dX1_foldLevel_54 : decode cX1_foldLevel 54 = .ok (.isub, 1) := by decide +kernel
theorem dX1_foldLevel_55 : decode cX1_foldLevel 55 = .ok (.aaload, 1) := by decide +kernel
theorem dX1_foldLevel_56 : decode cX1_foldLevel 56 = .ok (.aload_n 0, 1) := by decide +kernel
theorem dX1_foldLevel_57 : decode cX1_foldLevel 57 = .ok (.getfield 54, 3) := by decide +kernel
theorem dX1_foldLevel_60 : decode cX1_foldLevel 60 = .ok (.iload_n 1, 1) := by decide +kernel
theorem dX1_foldLevel_61 : decode cX1_foldLevel 61 = .ok (.iconst 2, 1) := by decide +kernel
theorem dX1_foldLevel_62 : decode cX1_foldLevel 62 = .ok (.idiv, 1) := by decide +kernel
theorem dX1_foldLevel_63 : decode cX1_foldLevel 63 = .ok (.aaload, 1) := by decide +kernel
theorem dX1_foldLevel_64 : decode cX1_foldLevel 64 = .ok (.invokestatic 173, 3) := by decide +kernel
theorem dX1_foldLevel_67 : decode cX1_foldLevel 67 = .ok (.return_, 1) := by decide +kernel
theorem dX1_nodeInto_0 : decode cX1_nodeInto 0 = .ok (.aload_n 0, 1) := by decide +kernel
theorem dX1_nodeInto_1 : decode cX1_nodeInto 1 = .ok (.getfield 10, 3) := by decide +kernel
theorem dX1_nodeInto_4 : decode cX1_nodeInto 4 = .ok (.invokevirtual 74, 3) := by decide +kernel
theorem dX1_nodeInto_7 : decode cX1_nodeInto 7 = .ok (.aload_n 0, 1) := by decide +kernel
theorem dX1_nodeInto_8 : decode cX1_nodeInto 8 = .ok (.getfield 10, 3) := by decide +kernel
theorem dX1_nodeInto_11 : decode cX1_nodeInto 11 = .ok (.iconst 1, 1) := by decide +kernel
theorem dX1_nodeInto_12 : decode cX1_nodeInto 12 = .ok (.invokevirtual 77, 3) := by decide +kernel
theorem dX1_nodeInto_15 : decode cX1_nodeInto 15 = .ok (.aload_n 0, 1) := by decide +kernel
theorem dX1_nodeInto_16 : decode cX1_nodeInto 16 = .ok (.getfield 10, 3) := by decide +kernel
theorem dX1_nodeInto_19 : decode cX1_nodeInto 19 = .ok (.aload_n 1, 1) := by decide +kernel
theorem dX1_nodeInto_20 : decode cX1_nodeInto 20 = .ok (.bipush 32, 2) := by decide +kernel
theorem dX1_nodeInto_22 : decode cX1_nodeInto 22 = .ok (.invokevirtual 81, 3) := by decide +kernel
theorem dX1_nodeInto_25 : decode cX1_nodeInto 25 = .ok (.aload_n 0, 1) := by decide +kernel
theorem dX1_nodeInto_26 : decode cX1_nodeInto 26 = .ok (.getfield 10, 3) := by decide +kernel
theorem dX1_nodeInto_29 : decode cX1_nodeInto 29 = .ok (.aload_n 2, 1) := by decide +kernel
theorem dX1_nodeInto_30 : decode cX1_nodeInto 30 = .ok (.bipush 32, 2) := by decide +kernel
theorem dX1_nodeInto_32 : decode cX1_nodeInto 32 = .ok (.invokevirtual 81, 3) := by decide +kernel
theorem dX1_nodeInto_35 : decode cX1_nodeInto 35 = .ok (.aload_n 0, 1) := by decide +kernel
theorem dX1_nodeInto_36 : decode cX1_nodeInto 36 = .ok (.getfield 10, 3) := by decide +kernel
theorem dX1_nodeInto_39 : decode cX1_nodeInto 39 = .ok (.aload_n 3, 1) := by decide +kernel
theorem dX1_nodeInto_40 : decode cX1_nodeInto 40 = .ok (.invokevirtual 85, 3) := by decide +kernel
theorem dX1_nodeInto_43 : decode cX1_nodeInto 43 = .ok (.return_, 1) := by decide +kernel
theorem dX1_root_0 : decode cX1_root 0 = .ok (.aload_n 0, 1) := by decide +kernel
theorem dX1_root_1 : decode cX1_root 1 = .ok (.iload_n 1, 1) := by decide +kernel
theorem dX1_root_2 : decode cX1_root 2 = .ok (.invokevirtual 95, 3) := by decide +kernel
theorem dX1_root_5 : decode cX1_root 5 = .ok (.iload_n 2, 1) := by decide +kernel
theorem dX1_root_6 : decode cX1_root 6 = .ok (.invokestatic 98, 3) := by decide +kernel
theorem dX1_root_9 : decode cX1_root 9 = .ok (.aload_n 0, 1) := by decide +kernel
theorem dX1_root_10 : decode cX1_root 10 = .ok (.getfield 39, 3) := by decide +kernel
theorem dX1_root_13 : decode cX1_root 13 = .ok (.iload_n 1, 1) := by decide +kernel
theorem dX1_root_14 : decode cX1_root 14 = .ok (.aaload, 1) := by decide +kernel
theorem dX1_root_15 : decode cX1_root 15 = .ok (.iload_n 2, 1) := by decide +kernel
theorem dX1_root_16 : decode cX1_root 16 = .ok (.iaload, 1) := by decide +kernel
theorem dX1_root_17 : decode cX1_root 17 = .ok (.ireturn, 1) := by decide +kernel
theorem dX1_requireDay_0 : decode cX1_requireDay 0 = .ok (.iload_n 1, 1) := by decide +kernel
theorem dX1_requireDay_1 : decode cX1_requireDay 1 = .ok (.ifCond .lt 11, 3) := by decide +kernel
theorem dX1_requireDay_4 : decode cX1_requireDay 4 = .ok (.iload_n 1, 1) := by decide +kernel
theorem dX1_requireDay_5 : decode cX1_requireDay 5 = .ok (.aload_n 0, 1) := by decide +kernel
theorem dX1_requireDay_6 : decode cX1_requireDay 6 = .ok (.getfield 45, 3) := by decide +kernel
theorem dX1_requireDay_9 : decode cX1_requireDay 9 = .ok (.if_icmp .lt 13, 3) := by decide +kernel
theorem dX1_requireDay_12 : decode cX1_requireDay 12 = .ok (.new 143, 3) := by decide +kernel
theorem dX1_requireDay_15 : decode cX1_requireDay 15 = .ok (.dup, 1) := by decide +kernel
theorem dX1_requireDay_16 : decode cX1_requireDay 16 = .ok (.ldc 159, 2) := by decide +kernel
theorem dX1_requireDay_18 : decode cX1_requireDay 18 = .ok (.invokespecial 147, 3) := by decide +kernel
theorem dX1_requireDay_21 : decode cX1_requireDay 21 = .ok (.athrow, 1) := by decide +kernel
theorem dX1_requireDay_22 : decode cX1_requireDay 22 = .ok (.return_, 1) := by decide +kernel
theorem dX1_requireByte_0 : decode cX1_requireByte 0 = .ok (.iload_n 0, 1) := by decide +kernel
theorem dX1_requireByte_1 : decode cX1_requireByte 1 = .ok (.ifCond .lt 9, 3) := by decide +kernel
theorem dX1_requireByte_4 : decode cX1_requireByte 4 = .ok (.iload_n 0, 1) := by decide +kernel
theorem dX1_requireByte_5 : decode cX1_requireByte 5 = .ok (.bipush 32, 2) := by decide +kernel
theorem dX1_requireByte_7 : decode cX1_requireByte 7 = .ok (.if_icmp .lt 13, 3) := by decide +kernel
theorem dX1_requireByte_10 : decode cX1_requireByte 10 = .ok (.new 143, 3) := by decide +kernel
theorem dX1_requireByte_13 : decode cX1_requireByte 13 = .ok (.dup, 1) := by decide +kernel
theorem dX1_requireByte_14 : decode cX1_requireByte 14 = .ok (.ldc 163, 2) := by decide +kernel
theorem dX1_requireByte_16 : decode cX1_requireByte 16 = .ok (.invokespecial 147, 3) := by decide +kernel
theorem dX1_requireByte_19 : decode cX1_requireByte 19 = .ok (.athrow, 1) := by decide +kernel
theorem dX1_requireByte_20 : decode cX1_requireByte 20 = .ok (.return_, 1) := by decide +kernel
theorem dX1_digest_0 : decode cX1_digest 0 = .ok (.aload_n 0, 1) := by decide +kernel
theorem dX1_digest_1 : decode cX1_digest 1 = .ok (.iload_n 1, 1) := by decide +kernel
theorem dX1_digest_2 : decode cX1_digest 2 = .ok (.invokevirtual 101, 3) := by decide +kernel
theorem dX1_digest_5 : decode cX1_digest 5 = .ok (.iload_n 2, 1) := by decide +kernel
theorem dX1_digest_6 : decode cX1_digest 6 = .ok (.invokestatic 98, 3) := by decide +kernel
theorem dX1_digest_9 : decode cX1_digest 9 = .ok (.aload_n 0, 1) := by decide +kernel
theorem dX1_digest_10 : decode cX1_digest 10 = .ok (.getfield 26, 3) := by decide +kernel
theorem dX1_digest_13 : decode cX1_digest 13 = .ok (.iload_n 1, 1) := by decide +kernel
theorem dX1_digest_14 : decode cX1_digest 14 = .ok (.aaload, 1) := by decide +kernel
theorem dX1_digest_15 : decode cX1_digest 15 = .ok (.iload_n 2, 1) := by decide +kernel
theorem dX1_digest_16 : decode cX1_digest 16 = .ok (.iaload, 1) := by decide +kernel
theorem dX1_digest_17 : decode cX1_digest 17 = .ok (.ireturn, 1) := by decide +kernel
theorem dX1_requireLeaf_0 : decode cX1_requireLeaf 0 = .ok (.iload_n 1, 1) := by decide +kernel
theorem dX1_requireLeaf_1 : decode cX1_requireLeaf 1 = .ok (.ifCond .lt 11, 3) := by decide +kernel
theorem dX1_requireLeaf_4 : decode cX1_requireLeaf 4 = .ok (.iload_n 1, 1) := by decide +kernel
theorem dX1_requireLeaf_5 : decode cX1_requireLeaf 5 = .ok (.aload_n 0, 1) := by decide +kernel
theorem dX1_requireLeaf_6 : decode cX1_requireLeaf 6 = .ok (.getfield 33, 3) := by decide +kernel
theorem dX1_requireLeaf_9 : decode cX1_requireLeaf 9 = .ok (.if_icmp .lt 13, 3) := by decide +kernel
theorem dX1_requireLeaf_12 : decode cX1_requireLeaf 12 = .ok (.new 143, 3) := by decide +kernel
theorem dX1_requireLeaf_15 : decode cX1_requireLeaf 15 = .ok (.dup, 1) := by decide +kernel
theorem dX1_requireLeaf_16 : decode cX1_requireLeaf 16 = .ok (.ldc 157, 2) := by decide +kernel
theorem dX1_requireLeaf_18 : decode cX1_requireLeaf 18 = .ok (.invokespecial 147, 3) := by decide +kernel
theorem dX1_requireLeaf_21 : decode cX1_requireLeaf 21 = .ok (.athrow, 1) := by decide +kernel
theorem dX1_requireLeaf_22 : decode cX1_requireLeaf 22 = .ok (.return_, 1) := by decide +kernel
theorem dX1_count_0 : decode cX1_count 0 = .ok (.aload_n 0, 1) := by decide +kernel
theorem dX1_count_1 : decode cX1_count 1 = .ok (.iload_n 1, 1) := by decide +kernel
theorem dX1_count_2 : decode cX1_count 2 = .ok (.invokevirtual 95, 3) := by decide +kernel
theorem dX1_count_5 : decode cX1_count 5 = .ok (.aload_n 0, 1) := by decide +kernel
theorem dX1_count_6 : decode cX1_count 6 = .ok (.getfield 42, 3) := by decide +kernel
theorem dX1_count_9 : decode cX1_count 9 = .ok (.iload_n 1, 1) := by decide +kernel
theorem dX1_count_10 : decode cX1_count 10 = .ok (.iaload, 1) := by decide +kernel
theorem dX1_count_11 : decode cX1_count 11 = .ok (.ireturn, 1) := by decide +kernel
theorem dX1_prove_0 : decode cX1_prove 0 = .ok (.aload_n 0, 1) := by decide +kernel
theorem dX1_prove_1 : decode cX1_prove 1 = .ok (.iload_n 1, 1) := by decide +kernel
theorem dX1_prove_2 : decode cX1_prove 2 = .ok (.invokevirtual 101, 3) := by decide +kernel
theorem dX1_prove_5 : decode cX1_prove 5 = .ok (.aload_n 0, 1) := by decide +kernel
theorem dX1_prove_6 : decode cX1_prove 6 = .ok (.iload_n 2, 1) := by decide +kernel
theorem dX1_prove_7 : decode cX1_prove 7 = .ok (.invokevirtual 95, 3) := by decide +kernel
theorem dX1_prove_10 : decode cX1_prove 10 = .ok (.iload_n 1, 1) := by decide +kernel
theorem dX1_prove_11 : decode cX1_prove 11 = .ok (.aload_n 0, 1) := by decide +kernel
theorem dX1_prove_12 : decode cX1_prove 12 = .ok (.getfield 42, 3) := by decide +kernel
theorem dX1_prove_15 : decode cX1_prove 15 = .ok (.iload_n 2, 1) := by decide +kernel
theorem dX1_prove_16 : decode cX1_prove 16 = .ok (.iaload, 1) := by decide +kernel
theorem dX1_prove_17 : decode cX1_prove 17 = .ok (.if_icmp .lt 13, 3) := by decide +kernel
theorem dX1_prove_20 : decode cX1_prove 20 = .ok (.new 104, 3) := by decide +kernel
theorem dX1_prove_23 : decode cX1_prove 23 = .ok (.dup, 1) := by decide +kernel
theorem dX1_prove_24 : decode cX1_prove 24 = .ok (.ldc 106, 2) := by decide +kernel
theorem dX1_prove_26 : decode cX1_prove 26 = .ok (.invokespecial 108, 3) := by decide +kernel
theorem dX1_prove_29 : decode cX1_prove 29 = .ok (.athrow, 1) := by decide +kernel
theorem dX1_prove_30 : decode cX1_prove 30 = .ok (.aload_n 0, 1) := by decide +kernel
theorem dX1_prove_31 : decode cX1_prove 31 = .ok (.iload_n 1, 1) := by decide +kernel
theorem dX1_prove_32 : decode cX1_prove 32 = .ok (.aload_n 0, 1) := by decide +kernel
theorem dX1_prove_33 : decode cX1_prove 33 = .ok (.getfield 42, 3) := by decide +kernel
theorem dX1_prove_36 : decode cX1_prove 36 = .ok (.iload_n 2, 1) := by decide +kernel
theorem dX1_prove_37 : decode cX1_prove 37 = .ok (.iaload, 1) := by decide +kernel
theorem dX1_prove_38 : decode cX1_prove 38 = .ok (.invokevirtual 109, 3) := by decide +kernel
theorem dX1_prove_41 : decode cX1_prove 41 = .ok (.aload_n 0, 1) := by decide +kernel
theorem dX1_prove_42 : decode cX1_prove 42 = .ok (.getfield 51, 3) := by decide +kernel
theorem dX1_prove_45 : decode cX1_prove 45 = .ok (.ireturn, 1) := by decide +kernel
theorem dX1_makePath_0 : decode cX1_makePath 0 = .ok (.aload_n 0, 1) := by decide +kernel
theorem dX1_makePath_1 : decode cX1_makePath 1 = .ok (.iload_n 2, 1) := by decide +kernel
theorem dX1_makePath_2 : decode cX1_makePath 2 = .ok (.invokevirtual 167, 3) := by decide +kernel
theorem dX1_makePath_5 : decode cX1_makePath 5 = .ok (.aload_n 0, 1) := by decide +kernel
theorem dX1_makePath_6 : decode cX1_makePath 6 = .ok (.iconst 0, 1) := by decide +kernel
theorem dX1_makePath_7 : decode cX1_makePath 7 = .ok (.putfield 51, 3) := by decide +kernel
theorem dX1_makePath_10 : decode cX1_makePath 10 = .ok (.iload_n 1, 1) := by decide +kernel
theorem dX1_makePath_11 : decode cX1_makePath 11 = .ok (.istore_n 3, 1) := by decide +kernel
theorem dX1_makePath_12 : decode cX1_makePath 12 = .ok (.iload_n 2, 1) := by decide +kernel
theorem dX1_makePath_13 : decode cX1_makePath 13 = .ok (.istore 4, 2) := by decide +kernel
theorem dX1_makePath_15 : decode cX1_makePath 15 = .ok (.iload 4, 2) := by decide +kernel
theorem dX1_makePath_17 : decode cX1_makePath 17 = .ok (.iconst 1, 1) := by decide +kernel
theorem dX1_makePath_18 : decode cX1_makePath 18 = .ok (.if_icmp .le 65, 3) := by decide +kernel
theorem dX1_makePath_21 : decode cX1_makePath 21 = .ok (.iload_n 3, 1) := by decide +kernel
theorem dX1_makePath_22 : decode cX1_makePath 22 = .ok (.iload 4, 2) := by decide +kernel
theorem dX1_makePath_24 : decode cX1_makePath 24 = .ok (.invokestatic 177, 3) := by decide +kernel
theorem dX1_makePath_27 : decode cX1_makePath 27 = .ok (.ifCond .eq 34, 3) := by decide +kernel
theorem dX1_makePath_30 : decode cX1_makePath 30 = .ok (.aload_n 0, 1) := by decide +kernel
theorem dX1_makePath_31 : decode cX1_makePath 31 = .ok (.getfield 54, 3) := by decide +kernel
theorem dX1_makePath_34 : decode cX1_makePath 34 = .ok (.iload_n 3, 1) := by decide +kernel
theorem dX1_makePath_35 : decode cX1_makePath 35 = .ok (.invokestatic 181, 3) := by decide +kernel
theorem dX1_makePath_38 : decode cX1_makePath 38 = .ok (.aaload, 1) := by decide +kernel
theorem dX1_makePath_39 : decode cX1_makePath 39 = .ok (.aload_n 0, 1) := by decide +kernel
theorem dX1_makePath_40 : decode cX1_makePath 40 = .ok (.getfield 48, 3) := by decide +kernel
theorem dX1_makePath_43 : decode cX1_makePath 43 = .ok (.aload_n 0, 1) := by decide +kernel
theorem dX1_makePath_44 : decode cX1_makePath 44 = .ok (.getfield 51, 3) := by decide +kernel
theorem dX1_makePath_47 : decode cX1_makePath 47 = .ok (.aaload, 1) := by decide +kernel
theorem dX1_makePath_48 : decode cX1_makePath 48 = .ok (.invokestatic 173, 3) := by decide +kernel
theorem dX1_makePath_51 : decode cX1_makePath 51 = .ok (.aload_n 0, 1) := by decide +kernel
theorem dX1_makePath_52 : decode cX1_makePath 52 = .ok (.dup, 1) := by decide +kernel
theorem dX1_makePath_53 : decode cX1_makePath 53 = .ok (.getfield 51, 3) := by decide +kernel
theorem dX1_makePath_56 : decode cX1_makePath 56 = .ok (.iconst 1, 1) := by decide +kernel
theorem dX1_makePath_57 : decode cX1_makePath 57 = .ok (.iadd, 1) := by decide +kernel
theorem dX1_makePath_58 : decode cX1_makePath 58 = .ok (.putfield 51, 3) := by decide +kernel
theorem dX1_makePath_61 : decode cX1_makePath 61 = .ok (.aload_n 0, 1) := by decide +kernel
theorem dX1_makePath_62 : decode cX1_makePath 62 = .ok (.iload 4, 2) := by decide +kernel
theorem dX1_makePath_64 : decode cX1_makePath 64 = .ok (.invokevirtual 170, 3) := by decide +kernel
theorem dX1_makePath_67 : decode cX1_makePath 67 = .ok (.iload_n 3, 1) := by decide +kernel
theorem dX1_makePath_68 : decode cX1_makePath 68 = .ok (.iconst 2, 1) := by decide +kernel
theorem dX1_makePath_69 : decode cX1_makePath 69 = .ok (.idiv, 1) := by decide +kernel
theorem dX1_makePath_70 : decode cX1_makePath 70 = .ok (.istore_n 3, 1) := by decide +kernel
theorem dX1_makePath_71 : decode cX1_makePath 71 = .ok (.iload 4, 2) := by decide +kernel
theorem dX1_makePath_73 : decode cX1_makePath 73 = .ok (.iload 4, 2) := by decide +kernel
theorem dX1_makePath_75 : decode cX1_makePath 75 = .ok (.iconst 2, 1) := by decide +kernel
theorem dX1_makePath_76 : decode cX1_makePath 76 = .ok (.idiv, 1) := by decide +kernel
theorem dX1_makePath_77 : decode cX1_makePath 77 = .ok (.isub, 1) := by decide +kernel
theorem dX1_makePath_78 : decode cX1_makePath 78 = .ok (.istore 4, 2) := by decide +kernel
theorem dX1_makePath_80 : decode cX1_makePath 80 = .ok (.goto (-65), 3) := by decide +kernel
theorem dX1_makePath_83 : decode cX1_makePath 83 = .ok (.return_, 1) := by decide +kernel
theorem dX1_hasPartner_0 : decode cX1_hasPartner 0 = .ok (.iload_n 0, 1) := by decide +kernel
theorem dX1_hasPartner_1 : decode cX1_hasPartner 1 = .ok (.invokestatic 181, 3) := by decide +kernel
theorem dX1_hasPartner_4 : decode cX1_hasPartner 4 = .ok (.iload_n 1, 1) := by decide +kernel
theorem dX1_hasPartner_5 : decode cX1_hasPartner 5 = .ok (.if_icmp .ge 7, 3) := by decide +kernel
theorem dX1_hasPartner_8 : decode cX1_hasPartner 8 = .ok (.iconst 1, 1) := by decide +kernel
theorem dX1_hasPartner_9 : decode cX1_hasPartner 9 = .ok (.goto 4, 3) := by decide +kernel
theorem dX1_hasPartner_12 : decode cX1_hasPartner 12 = .ok (.iconst 0, 1) := by decide +kernel
theorem dX1_hasPartner_13 : decode cX1_hasPartner 13 = .ok (.ireturn, 1) := by decide +kernel
theorem dX1_partnerOf_0 : decode cX1_partnerOf 0 = .ok (.iload_n 0, 1) := by decide +kernel
theorem dX1_partnerOf_1 : decode cX1_partnerOf 1 = .ok (.iconst 1, 1) := by decide +kernel
theorem dX1_partnerOf_2 : decode cX1_partnerOf 2 = .ok (.ixor, 1) := by decide +kernel
theorem dX1_partnerOf_3 : decode cX1_partnerOf 3 = .ok (.ireturn, 1) := by decide +kernel
theorem dX1_proof_0 : decode cX1_proof 0 = .ok (.aload_n 0, 1) := by decide +kernel
theorem dX1_proof_1 : decode cX1_proof 1 = .ok (.iload_n 1, 1) := by decide +kernel
theorem dX1_proof_2 : decode cX1_proof 2 = .ok (.invokevirtual 113, 3) := by decide +kernel
theorem dX1_proof_5 : decode cX1_proof 5 = .ok (.iload_n 2, 1) := by decide +kernel
theorem dX1_proof_6 : decode cX1_proof 6 = .ok (.invokestatic 98, 3) := by decide +kernel
theorem dX1_proof_9 : decode cX1_proof 9 = .ok (.aload_n 0, 1) := by decide +kernel
theorem dX1_proof_10 : decode cX1_proof 10 = .ok (.getfield 48, 3) := by decide +kernel
theorem dX1_proof_13 : decode cX1_proof 13 = .ok (.iload_n 1, 1) := by decide +kernel
theorem dX1_proof_14 : decode cX1_proof 14 = .ok (.aaload, 1) := by decide +kernel
theorem dX1_proof_15 : decode cX1_proof 15 = .ok (.iload_n 2, 1) := by decide +kernel
theorem dX1_proof_16 : decode cX1_proof 16 = .ok (.iaload, 1) := by decide +kernel
theorem dX1_proof_17 : decode cX1_proof 17 = .ok (.ireturn, 1) := by decide +kernel
theorem dX1_requirePathDigest_0 : decode cX1_requirePathDigest 0 = .ok (.iload_n 1, 1) := by decide +kernel
theorem dX1_requirePathDigest_1 : decode cX1_requirePathDigest 1 = .ok (.ifCond .lt 11, 3) := by decide +kernel
theorem dX1_requirePathDigest_4 : decode cX1_requirePathDigest 4 = .ok (.iload_n 1, 1) := by decide +kernel
theorem dX1_requirePathDigest_5 : decode cX1_requirePathDigest 5 = .ok (.aload_n 0, 1) := by decide +kernel
theorem dX1_requirePathDigest_6 : decode cX1_requirePathDigest 6 = .ok (.getfield 51, 3) := by decide +kernel
theorem dX1_requirePathDigest_9 : decode cX1_requirePathDigest 9 = .ok (.if_icmp .lt 13, 3) := by decide +kernel
theorem dX1_requirePathDigest_12 : decode cX1_requirePathDigest 12 = .ok (.new 143, 3) := by decide +kernel
theorem dX1_requirePathDigest_15 : decode cX1_requirePathDigest 15 = .ok (.dup, 1) := by decide +kernel
theorem dX1_requirePathDigest_16 : decode cX1_requirePathDigest 16 = .ok (.ldc 161, 2) := by decide +kernel
theorem dX1_requirePathDigest_18 : decode cX1_requirePathDigest 18 = .ok (.invokespecial 147, 3) := by decide +kernel
theorem dX1_requirePathDigest_21 : decode cX1_requirePathDigest 21 = .ok (.athrow, 1) := by decide +kernel
theorem dX1_requirePathDigest_22 : decode cX1_requirePathDigest 22 = .ok (.return_, 1) := by decide +kernel
theorem dX1_bend_0 : decode cX1_bend 0 = .ok (.aload_n 0, 1) := by decide +kernel
theorem dX1_bend_1 : decode cX1_bend 1 = .ok (.iload_n 1, 1) := by decide +kernel
theorem dX1_bend_2 : decode cX1_bend 2 = .ok (.invokevirtual 113, 3) := by decide +kernel
theorem dX1_bend_5 : decode cX1_bend 5 = .ok (.iload_n 2, 1) := by decide +kernel
theorem dX1_bend_6 : decode cX1_bend 6 = .ok (.invokestatic 98, 3) := by decide +kernel
theorem dX1_bend_9 : decode cX1_bend 9 = .ok (.iload_n 3, 1) := by decide +kernel
theorem dX1_bend_10 : decode cX1_bend 10 = .ok (.invokestatic 116, 3) := by decide +kernel
theorem dX1_bend_13 : decode cX1_bend 13 = .ok (.aload_n 0, 1) := by decide +kernel
theorem dX1_bend_14 : decode cX1_bend 14 = .ok (.getfield 48, 3) := by decide +kernel
theorem dX1_bend_17 : decode cX1_bend 17 = .ok (.iload_n 1, 1) := by decide +kernel
theorem dX1_bend_18 : decode cX1_bend 18 = .ok (.aaload, 1) := by decide +kernel
theorem dX1_bend_19 : decode cX1_bend 19 = .ok (.iload_n 2, 1) := by decide +kernel
theorem dX1_bend_20 : decode cX1_bend 20 = .ok (.dup2, 1) := by decide +kernel
theorem dX1_bend_21 : decode cX1_bend 21 = .ok (.iaload, 1) := by decide +kernel
theorem dX1_bend_22 : decode cX1_bend 22 = .ok (.iload_n 3, 1) := by decide +kernel
theorem dX1_bend_23 : decode cX1_bend 23 = .ok (.ixor, 1) := by decide +kernel
theorem dX1_bend_24 : decode cX1_bend 24 = .ok (.iastore, 1) := by decide +kernel
theorem dX1_bend_25 : decode cX1_bend 25 = .ok (.return_, 1) := by decide +kernel
theorem dX1_requireMask_0 : decode cX1_requireMask 0 = .ok (.iload_n 0, 1) := by decide +kernel
theorem dX1_requireMask_1 : decode cX1_requireMask 1 = .ok (.iconst 1, 1) := by decide +kernel
theorem dX1_requireMask_2 : decode cX1_requireMask 2 = .ok (.if_icmp .lt 10, 3) := by decide +kernel
theorem dX1_requireMask_5 : decode cX1_requireMask 5 = .ok (.iload_n 0, 1) := by decide +kernel
theorem dX1_requireMask_6 : decode cX1_requireMask 6 = .ok (.sipush 255, 3) := by decide +kernel
theorem dX1_requireMask_9 : decode cX1_requireMask 9 = .ok (.if_icmp .le 13, 3) := by decide +kernel
theorem dX1_requireMask_12 : decode cX1_requireMask 12 = .ok (.new 60, 3) := by decide +kernel
theorem dX1_requireMask_15 : decode cX1_requireMask 15 = .ok (.dup, 1) := by decide +kernel
theorem dX1_requireMask_16 : decode cX1_requireMask 16 = .ok (.ldc 165, 2) := by decide +kernel
theorem dX1_requireMask_18 : decode cX1_requireMask 18 = .ok (.invokespecial 64, 3) := by decide +kernel
theorem dX1_requireMask_21 : decode cX1_requireMask 21 = .ok (.athrow, 1) := by decide +kernel
theorem dX1_requireMask_22 : decode cX1_requireMask 22 = .ok (.return_, 1) := by decide +kernel
theorem dX1_check_0 : decode cX1_check 0 = .ok (.aload_n 0, 1) := by decide +kernel
theorem dX1_check_1 : decode cX1_check 1 = .ok (.iload_n 1, 1) := by decide +kernel
theorem dX1_check_2 : decode cX1_check 2 = .ok (.invokevirtual 101, 3) := by decide +kernel
theorem dX1_check_5 : decode cX1_check 5 = .ok (.aload_n 0, 1) := by decide +kernel
theorem dX1_check_6 : decode cX1_check 6 = .ok (.iload_n 2, 1) := by decide +kernel
theorem dX1_check_7 : decode cX1_check 7 = .ok (.invokevirtual 95, 3) := by decide +kernel
theorem dX1_check_10 : decode cX1_check 10 = .ok (.aload_n 0, 1) := by decide +kernel
theorem dX1_check_11 : decode cX1_check 11 = .ok (.getfield 51, 3) := by decide +kernel
theorem dX1_check_14 : decode cX1_check 14 = .ok (.iconst (-1), 1) := by decide +kernel
theorem dX1_check_15 : decode cX1_check 15 = .ok (.if_icmp .ne 13, 3) := by decide +kernel
theorem dX1_check_18 : decode cX1_check 18 = .ok (.new 104, 3) := by decide +kernel
theorem dX1_check_21 : decode cX1_check 21 = .ok (.dup, 1) := by decide +kernel
theorem dX1_check_22 : decode cX1_check 22 = .ok (.ldc 119, 2) := by decide +kernel
theorem dX1_check_24 : decode cX1_check 24 = .ok (.invokespecial 108, 3) := by decide +kernel
theorem dX1_check_27 : decode cX1_check 27 = .ok (.athrow, 1) := by decide +kernel
theorem dX1_check_28 : decode cX1_check 28 = .ok (.iload_n 3, 1) := by decide +kernel
theorem dX1_check_29 : decode cX1_check 29 = .ok (.ifCond .lt 9, 3) := by decide +kernel
theorem dX1_check_32 : decode cX1_check 32 = .ok (.iload_n 3, 1) := by decide +kernel
theorem dX1_check_33 : decode cX1_check 33 = .ok (.iload 4, 2) := by decide +kernel
theorem dX1_check_35 : decode cX1_check 35 = .ok (.if_icmp .lt 13, 3) := by decide +kernel
theorem dX1_check_38 : decode cX1_check 38 = .ok (.new 60, 3) := by decide +kernel
theorem dX1_check_41 : decode cX1_check 41 = .ok (.dup, 1) := by decide +kernel
theorem dX1_check_42 : decode cX1_check 42 = .ok (.ldc 121, 2) := by decide +kernel
theorem dX1_check_44 : decode cX1_check 44 = .ok (.invokespecial 64, 3) := by decide +kernel
theorem dX1_check_47 : decode cX1_check 47 = .ok (.athrow, 1) := by decide +kernel
theorem dX1_check_48 : decode cX1_check 48 = .ok (.iload 4, 2) := by decide +kernel
theorem dX1_check_50 : decode cX1_check 50 = .ok (.aload_n 0, 1) := by decide +kernel
theorem dX1_check_51 : decode cX1_check 51 = .ok (.getfield 42, 3) := by decide +kernel
theorem dX1_check_54 : decode cX1_check 54 = .ok (.iload_n 2, 1) := by decide +kernel
theorem dX1_check_55 : decode cX1_check 55 = .ok (.iaload, 1) := by decide +kernel
theorem dX1_check_56 : decode cX1_check 56 = .ok (.if_icmp .eq 5, 3) := by decide +kernel
theorem dX1_check_59 : decode cX1_check 59 = .ok (.iconst 1, 1) := by decide +kernel
theorem dX1_check_60 : decode cX1_check 60 = .ok (.ireturn, 1) := by decide +kernel
theorem dX1_check_61 : decode cX1_check 61 = .ok (.aload_n 0, 1) := by decide +kernel
theorem dX1_check_62 : decode cX1_check 62 = .ok (.getfield 51, 3) := by decide +kernel
theorem dX1_check_65 : decode cX1_check 65 = .ok (.iload_n 3, 1) := by decide +kernel
theorem dX1_check_66 : decode cX1_check 66 = .ok (.iload 4, 2) := by decide +kernel
theorem dX1_check_68 : decode cX1_check 68 = .ok (.invokestatic 123, 3) := by decide +kernel
theorem dX1_check_71 : decode cX1_check 71 = .ok (.if_icmp .eq 5, 3) := by decide +kernel
theorem dX1_check_74 : decode cX1_check 74 = .ok (.iconst 2, 1) := by decide +kernel
theorem dX1_check_75 : decode cX1_check 75 = .ok (.ireturn, 1) := by decide +kernel
theorem dX1_check_76 : decode cX1_check 76 = .ok (.aload_n 0, 1) := by decide +kernel
theorem dX1_check_77 : decode cX1_check 77 = .ok (.aload_n 0, 1) := by decide +kernel
theorem dX1_check_78 : decode cX1_check 78 = .ok (.getfield 26, 3) := by decide +kernel
theorem dX1_check_81 : decode cX1_check 81 = .ok (.iload_n 1, 1) := by decide +kernel
theorem dX1_check_82 : decode cX1_check 82 = .ok (.aaload, 1) := by decide +kernel
theorem dX1_check_83 : decode cX1_check 83 = .ok (.iload_n 3, 1) := by decide +kernel
theorem dX1_check_84 : decode cX1_check 84 = .ok (.iload 4, 2) := by decide +kernel
theorem dX1_check_86 : decode cX1_check 86 = .ok (.invokevirtual 127, 3) := by decide +kernel
theorem dX1_check_89 : decode cX1_check 89 = .ok (.aload_n 0, 1) := by decide +kernel
theorem dX1_check_90 : decode cX1_check 90 = .ok (.getfield 57, 3) := by decide +kernel
theorem dX1_check_93 : decode cX1_check 93 = .ok (.aload_n 0, 1) := by decide +kernel
theorem dX1_check_94 : decode cX1_check 94 = .ok (.getfield 39, 3) := by decide +kernel
theorem dX1_check_97 : decode cX1_check 97 = .ok (.iload_n 2, 1) := by decide +kernel
theorem dX1_check_98 : decode cX1_check 98 = .ok (.aaload, 1) := by decide +kernel
theorem dX1_check_99 : decode cX1_check 99 = .ok (.invokestatic 131, 3) := by decide +kernel
theorem dX1_check_102 : decode cX1_check 102 = .ok (.ifCond .ne 7, 3) := by decide +kernel
theorem dX1_check_105 : decode cX1_check 105 = .ok (.iconst 0, 1) := by decide +kernel
theorem dX1_check_106 : decode cX1_check 106 = .ok (.goto 4, 3) := by decide +kernel
theorem dX1_check_109 : decode cX1_check 109 = .ok (.iconst 3, 1) := by decide +kernel
theorem dX1_check_110 : decode cX1_check 110 = .ok (.ireturn, 1) := by decide +kernel
theorem dX1_dueLength_0 : decode cX1_dueLength 0 = .ok (.iconst 0, 1) := by decide +kernel
theorem dX1_dueLength_1 : decode cX1_dueLength 1 = .ok (.istore_n 2, 1) := by decide +kernel
theorem dX1_dueLength_2 : decode cX1_dueLength 2 = .ok (.iload_n 0, 1) := by decide +kernel
theorem dX1_dueLength_3 : decode cX1_dueLength 3 = .ok (.istore_n 3, 1) := by decide +kernel
theorem dX1_dueLength_4 : decode cX1_dueLength 4 = .ok (.iload_n 1, 1) := by decide +kernel
theorem dX1_dueLength_5 : decode cX1_dueLength 5 = .ok (.istore 4, 2) := by decide +kernel
theorem dX1_dueLength_7 : decode cX1_dueLength 7 = .ok (.iload 4, 2) := by decide +kernel
theorem dX1_dueLength_9 : decode cX1_dueLength 9 = .ok (.iconst 1, 1) := by decide +kernel
theorem dX1_dueLength_10 : decode cX1_dueLength 10 = .ok (.if_icmp .le 31, 3) := by decide +kernel
theorem dX1_dueLength_13 : decode cX1_dueLength 13 = .ok (.iload_n 3, 1) := by decide +kernel
theorem dX1_dueLength_14 : decode cX1_dueLength 14 = .ok (.iload 4, 2) := by decide +kernel
theorem dX1_dueLength_16 : decode cX1_dueLength 16 = .ok (.invokestatic 177, 3) := by decide +kernel
theorem dX1_dueLength_19 : decode cX1_dueLength 19 = .ok (.ifCond .eq 6, 3) := by decide +kernel
theorem dX1_dueLength_22 : decode cX1_dueLength 22 = .ok (.iinc 2 1, 3) := by decide +kernel
theorem dX1_dueLength_25 : decode cX1_dueLength 25 = .ok (.iload_n 3, 1) := by decide +kernel
theorem dX1_dueLength_26 : decode cX1_dueLength 26 = .ok (.iconst 2, 1) := by decide +kernel
theorem dX1_dueLength_27 : decode cX1_dueLength 27 = .ok (.idiv, 1) := by decide +kernel
theorem dX1_dueLength_28 : decode cX1_dueLength 28 = .ok (.istore_n 3, 1) := by decide +kernel
theorem dX1_dueLength_29 : decode cX1_dueLength 29 = .ok (.iload 4, 2) := by decide +kernel
theorem dX1_dueLength_31 : decode cX1_dueLength 31 = .ok (.iload 4, 2) := by decide +kernel
theorem dX1_dueLength_33 : decode cX1_dueLength 33 = .ok (.iconst 2, 1) := by decide +kernel
theorem dX1_dueLength_34 : decode cX1_dueLength 34 = .ok (.idiv, 1) := by decide +kernel
theorem dX1_dueLength_35 : decode cX1_dueLength 35 = .ok (.isub, 1) := by decide +kernel
theorem dX1_dueLength_36 : decode cX1_dueLength 36 = .ok (.istore 4, 2) := by decide +kernel
theorem dX1_dueLength_38 : decode cX1_dueLength 38 = .ok (.goto (-31), 3) := by decide +kernel
theorem dX1_dueLength_41 : decode cX1_dueLength 41 = .ok (.iload_n 2, 1) := by decide +kernel
theorem dX1_dueLength_42 : decode cX1_dueLength 42 = .ok (.ireturn, 1) := by decide +kernel
theorem dX1_climb_0 : decode cX1_climb 0 = .ok (.aload_n 1, 1) := by decide +kernel
theorem dX1_climb_1 : decode cX1_climb 1 = .ok (.aload_n 0, 1) := by decide +kernel
theorem dX1_climb_2 : decode cX1_climb 2 = .ok (.getfield 57, 3) := by decide +kernel
theorem dX1_climb_5 : decode cX1_climb 5 = .ok (.invokestatic 173, 3) := by decide +kernel
theorem dX1_climb_8 : decode cX1_climb 8 = .ok (.iload_n 2, 1) := by decide +kernel
theorem dX1_climb_9 : decode cX1_climb 9 = .ok (.istore 4, 2) := by decide +kernel
theorem dX1_climb_11 : decode cX1_climb 11 = .ok (.iconst 0, 1) := by decide +kernel
theorem dX1_climb_12 : decode cX1_climb 12 = .ok (.istore 5, 2) := by decide +kernel
theorem dX1_climb_14 : decode cX1_climb 14 = .ok (.iload_n 3, 1) := by decide +kernel
theorem dX1_climb_15 : decode cX1_climb 15 = .ok (.istore 6, 2) := by decide +kernel
theorem dX1_climb_17 : decode cX1_climb 17 = .ok (.iload 6, 2) := by decide +kernel
theorem dX1_climb_19 : decode cX1_climb 19 = .ok (.iconst 1, 1) := by decide +kernel
theorem dX1_climb_20 : decode cX1_climb 20 = .ok (.if_icmp .le 85, 3) := by decide +kernel
theorem dX1_climb_23 : decode cX1_climb 23 = .ok (.iload 4, 2) := by decide +kernel
theorem dX1_climb_25 : decode cX1_climb 25 = .ok (.iload 6, 2) := by decide +kernel
theorem dX1_climb_27 : decode cX1_climb 27 = .ok (.invokestatic 177, 3) := by decide +kernel
theorem dX1_climb_30 : decode cX1_climb 30 = .ok (.ifCond .eq 57, 3) := by decide +kernel
theorem dX1_climb_33 : decode cX1_climb 33 = .ok (.iload 4, 2) := by decide +kernel
theorem dX1_climb_35 : decode cX1_climb 35 = .ok (.invokestatic 181, 3) := by decide +kernel
theorem dX1_climb_38 : decode cX1_climb 38 = .ok (.iload 4, 2) := by decide +kernel
theorem dX1_climb_40 : decode cX1_climb 40 = .ok (.if_icmp .le 25, 3) := by decide +kernel
theorem dX1_climb_43 : decode cX1_climb 43 = .ok (.aload_n 0, 1) := by decide +kernel
theorem dX1_climb_44 : decode cX1_climb 44 = .ok (.aload_n 0, 1) := by decide +kernel
theorem dX1_climb_45 : decode cX1_climb 45 = .ok (.getfield 57, 3) := by decide +kernel
theorem dX1_climb_48 : decode cX1_climb 48 = .ok (.aload_n 0, 1) := by decide +kernel
theorem dX1_climb_49 : decode cX1_climb 49 = .ok (.getfield 48, 3) := by decide +kernel
theorem dX1_climb_52 : decode cX1_climb 52 = .ok (.iload 5, 2) := by decide +kernel
theorem dX1_climb_54 : decode cX1_climb 54 = .ok (.aaload, 1) := by decide +kernel
theorem dX1_climb_55 : decode cX1_climb 55 = .ok (.aload_n 0, 1) := by decide +kernel
theorem dX1_climb_56 : decode cX1_climb 56 = .ok (.getfield 57, 3) := by decide +kernel
theorem dX1_climb_59 : decode cX1_climb 59 = .ok (.invokevirtual 185, 3) := by decide +kernel
theorem dX1_climb_62 : decode cX1_climb 62 = .ok (.goto 22, 3) := by decide +kernel
theorem dX1_climb_65 : decode cX1_climb 65 = .ok (.aload_n 0, 1) := by decide +kernel
theorem dX1_climb_66 : decode cX1_climb 66 = .ok (.aload_n 0, 1) := by decide +kernel
theorem dX1_climb_67 : decode cX1_climb 67 = .ok (.getfield 48, 3) := by decide +kernel
theorem dX1_climb_70 : decode cX1_climb 70 = .ok (.iload 5, 2) := by decide +kernel
theorem dX1_climb_72 : decode cX1_climb 72 = .ok (.aaload, 1) := by decide +kernel
theorem dX1_climb_73 : decode cX1_climb 73 = .ok (.aload_n 0, 1) := by decide +kernel
theorem dX1_climb_74 : decode cX1_climb 74 = .ok (.getfield 57, 3) := by decide +kernel
theorem dX1_climb_77 : decode cX1_climb 77 = .ok (.aload_n 0, 1) := by decide +kernel
theorem dX1_climb_78 : decode cX1_climb 78 = .ok (.getfield 57, 3) := by decide +kernel
theorem dX1_climb_81 : decode cX1_climb 81 = .ok (.invokevirtual 185, 3) := by decide +kernel
theorem dX1_climb_84 : decode cX1_climb 84 = .ok (.iinc 5 1, 3) := by decide +kernel
theorem dX1_climb_87 : decode cX1_climb 87 = .ok (.iload 4, 2) := by decide +kernel
theorem dX1_climb_89 : decode cX1_climb 89 = .ok (.iconst 2, 1) := by decide +kernel
theorem dX1_climb_90 : decode cX1_climb 90 = .ok (.idiv, 1) := by decide +kernel
theorem dX1_climb_91 : decode cX1_climb 91 = .ok (.istore 4, 2) := by decide +kernel
theorem dX1_climb_93 : decode cX1_climb 93 = .ok (.iload 6, 2) := by decide +kernel
theorem dX1_climb_95 : decode cX1_climb 95 = .ok (.iload 6, 2) := by decide +kernel
theorem dX1_climb_97 : decode cX1_climb 97 = .ok (.iconst 2, 1) := by decide +kernel
theorem dX1_climb_98 : decode cX1_climb 98 = .ok (.idiv, 1) := by decide +kernel
theorem dX1_climb_99 : decode cX1_climb 99 = .ok (.isub, 1) := by decide +kernel
theorem dX1_climb_100 : decode cX1_climb 100 = .ok (.istore 6, 2) := by decide +kernel
theorem dX1_climb_102 : decode cX1_climb 102 = .ok (.goto (-85), 3) := by decide +kernel
theorem dX1_climb_105 : decode cX1_climb 105 = .ok (.return_, 1) := by decide +kernel
theorem dX1_compareDigests_0 : decode cX1_compareDigests 0 = .ok (.iconst 0, 1) := by decide +kernel
theorem dX1_compareDigests_1 : decode cX1_compareDigests 1 = .ok (.istore_n 2, 1) := by decide +kernel
theorem dX1_compareDigests_2 : decode cX1_compareDigests 2 = .ok (.iload_n 2, 1) := by decide +kernel
theorem dX1_compareDigests_3 : decode cX1_compareDigests 3 = .ok (.bipush 32, 2) := by decide +kernel
theorem dX1_compareDigests_5 : decode cX1_compareDigests 5 = .ok (.if_icmp .ge 33, 3) := by decide +kernel
theorem dX1_compareDigests_8 : decode cX1_compareDigests 8 = .ok (.aload_n 0, 1) := by decide +kernel
theorem dX1_compareDigests_9 : decode cX1_compareDigests 9 = .ok (.iload_n 2, 1) := by decide +kernel
theorem dX1_compareDigests_10 : decode cX1_compareDigests 10 = .ok (.iaload, 1) := by decide +kernel
theorem dX1_compareDigests_11 : decode cX1_compareDigests 11 = .ok (.aload_n 1, 1) := by decide +kernel
theorem dX1_compareDigests_12 : decode cX1_compareDigests 12 = .ok (.iload_n 2, 1) := by decide +kernel
theorem dX1_compareDigests_13 : decode cX1_compareDigests 13 = .ok (.iaload, 1) := by decide +kernel
theorem dX1_compareDigests_14 : decode cX1_compareDigests 14 = .ok (.if_icmp .eq 18, 3) := by decide +kernel
theorem dX1_compareDigests_17 : decode cX1_compareDigests 17 = .ok (.aload_n 0, 1) := by decide +kernel
theorem dX1_compareDigests_18 : decode cX1_compareDigests 18 = .ok (.iload_n 2, 1) := by decide +kernel
theorem dX1_compareDigests_19 : decode cX1_compareDigests 19 = .ok (.iaload, 1) := by decide +kernel
theorem dX1_compareDigests_20 : decode cX1_compareDigests 20 = .ok (.aload_n 1, 1) := by decide +kernel
theorem dX1_compareDigests_21 : decode cX1_compareDigests 21 = .ok (.iload_n 2, 1) := by decide +kernel
theorem dX1_compareDigests_22 : decode cX1_compareDigests 22 = .ok (.iaload, 1) := by decide +kernel
theorem dX1_compareDigests_23 : decode cX1_compareDigests 23 = .ok (.if_icmp .ge 7, 3) := by decide +kernel
theorem dX1_compareDigests_26 : decode cX1_compareDigests 26 = .ok (.iconst (-1), 1) := by decide +kernel
theorem dX1_compareDigests_27 : decode cX1_compareDigests 27 = .ok (.goto 4, 3) := by decide +kernel
theorem dX1_compareDigests_30 : decode cX1_compareDigests 30 = .ok (.iconst 1, 1) := by decide +kernel
theorem dX1_compareDigests_31 : decode cX1_compareDigests 31 = .ok (.ireturn, 1) := by decide +kernel
theorem dX1_compareDigests_32 : decode cX1_compareDigests 32 = .ok (.iinc 2 1, 3) := by decide +kernel
theorem dX1_compareDigests_35 : decode cX1_compareDigests 35 = .ok (.goto (-33), 3) := by decide +kernel
theorem dX1_compareDigests_38 : decode cX1_compareDigests 38 = .ok (.iconst 0, 1) := by decide +kernel
theorem dX1_compareDigests_39 : decode cX1_compareDigests 39 = .ok (.ireturn, 1) := by decide +kernel
theorem dX1_grew_0 : decode cX1_grew 0 = .ok (.aload_n 0, 1) := by decide +kernel
theorem dX1_grew_1 : decode cX1_grew 1 = .ok (.iload_n 1, 1) := by decide +kernel
theorem dX1_grew_2 : decode cX1_grew 2 = .ok (.invokevirtual 95, 3) := by decide +kernel
theorem dX1_grew_5 : decode cX1_grew 5 = .ok (.aload_n 0, 1) := by decide +kernel
theorem dX1_grew_6 : decode cX1_grew 6 = .ok (.iload_n 2, 1) := by decide +kernel
theorem dX1_grew_7 : decode cX1_grew 7 = .ok (.invokevirtual 95, 3) := by decide +kernel
theorem dX1_grew_10 : decode cX1_grew 10 = .ok (.iload_n 1, 1) := by decide +kernel
theorem dX1_grew_11 : decode cX1_grew 11 = .ok (.iload_n 2, 1) := by decide +kernel
theorem dX1_grew_12 : decode cX1_grew 12 = .ok (.if_icmp .le 13, 3) := by decide +kernel
theorem dX1_grew_15 : decode cX1_grew 15 = .ok (.new 60, 3) := by decide +kernel
theorem dX1_grew_18 : decode cX1_grew 18 = .ok (.dup, 1) := by decide +kernel
theorem dX1_grew_19 : decode cX1_grew 19 = .ok (.ldc 135, 2) := by decide +kernel
theorem dX1_grew_21 : decode cX1_grew 21 = .ok (.invokespecial 64, 3) := by decide +kernel
theorem dX1_grew_24 : decode cX1_grew 24 = .ok (.athrow, 1) := by decide +kernel
theorem dX1_grew_25 : decode cX1_grew 25 = .ok (.aload_n 0, 1) := by decide +kernel
theorem dX1_grew_26 : decode cX1_grew 26 = .ok (.iload_n 1, 1) := by decide +kernel
theorem dX1_grew_27 : decode cX1_grew 27 = .ok (.invokevirtual 137, 3) := by decide +kernel
theorem dX1_grew_30 : decode cX1_grew 30 = .ok (.ifCond .eq 15, 3) := by decide +kernel
theorem dX1_grew_33 : decode cX1_grew 33 = .ok (.aload_n 0, 1) := by decide +kernel
theorem dX1_grew_34 : decode cX1_grew 34 = .ok (.iload_n 2, 1) := by decide +kernel
theorem dX1_grew_35 : decode cX1_grew 35 = .ok (.invokevirtual 137, 3) := by decide +kernel
theorem dX1_grew_38 : decode cX1_grew 38 = .ok (.ifCond .eq 7, 3) := by decide +kernel
theorem dX1_grew_41 : decode cX1_grew 41 = .ok (.iconst 1, 1) := by decide +kernel
theorem dX1_grew_42 : decode cX1_grew 42 = .ok (.goto 4, 3) := by decide +kernel
theorem dX1_grew_45 : decode cX1_grew 45 = .ok (.iconst 0, 1) := by decide +kernel
theorem dX1_grew_46 : decode cX1_grew 46 = .ok (.ireturn, 1) := by decide +kernel
theorem dX1_stillMakesRoot_0 : decode cX1_stillMakesRoot 0 = .ok (.aload_n 0, 1) := by decide +kernel
theorem dX1_stillMakesRoot_1 : decode cX1_stillMakesRoot 1 = .ok (.aload_n 0, 1) := by decide +kernel
theorem dX1_stillMakesRoot_2 : decode cX1_stillMakesRoot 2 = .ok (.getfield 42, 3) := by decide +kernel
theorem dX1_stillMakesRoot_5 : decode cX1_stillMakesRoot 5 = .ok (.iload_n 1, 1) := by decide +kernel
theorem dX1_stillMakesRoot_6 : decode cX1_stillMakesRoot 6 = .ok (.iaload, 1) := by decide +kernel
theorem dX1_stillMakesRoot_7 : decode cX1_stillMakesRoot 7 = .ok (.aload_n 0, 1) := by decide +kernel
theorem dX1_stillMakesRoot_8 : decode cX1_stillMakesRoot 8 = .ok (.getfield 57, 3) := by decide +kernel
theorem dX1_stillMakesRoot_11 : decode cX1_stillMakesRoot 11 = .ok (.invokevirtual 91, 3) := by decide +kernel
theorem dX1_stillMakesRoot_14 : decode cX1_stillMakesRoot 14 = .ok (.aload_n 0, 1) := by decide +kernel
theorem dX1_stillMakesRoot_15 : decode cX1_stillMakesRoot 15 = .ok (.getfield 57, 3) := by decide +kernel
theorem dX1_stillMakesRoot_18 : decode cX1_stillMakesRoot 18 = .ok (.aload_n 0, 1) := by decide +kernel
theorem dX1_stillMakesRoot_19 : decode cX1_stillMakesRoot 19 = .ok (.getfield 39, 3) := by decide +kernel
theorem dX1_stillMakesRoot_22 : decode cX1_stillMakesRoot 22 = .ok (.iload_n 1, 1) := by decide +kernel
theorem dX1_stillMakesRoot_23 : decode cX1_stillMakesRoot 23 = .ok (.aaload, 1) := by decide +kernel
theorem dX1_stillMakesRoot_24 : decode cX1_stillMakesRoot 24 = .ok (.invokestatic 131, 3) := by decide +kernel
theorem dX1_stillMakesRoot_27 : decode cX1_stillMakesRoot 27 = .ok (.ifCond .ne 7, 3) := by decide +kernel
theorem dX1_stillMakesRoot_30 : decode cX1_stillMakesRoot 30 = .ok (.iconst 1, 1) := by decide +kernel
theorem dX1_stillMakesRoot_31 : decode cX1_stillMakesRoot 31 = .ok (.goto 4, 3) := by decide +kernel
theorem dX1_stillMakesRoot_34 : decode cX1_stillMakesRoot 34 = .ok (.iconst 0, 1) := by decide +kernel
theorem dX1_stillMakesRoot_35 : decode cX1_stillMakesRoot 35 = .ok (.ireturn, 1) := by decide +kernel
theorem dX1_withdraw_0 : decode cX1_withdraw 0 = .ok (.aload_n 0, 1) := by decide +kernel
theorem dX1_withdraw_1 : decode cX1_withdraw 1 = .ok (.iload_n 1, 1) := by decide +kernel
theorem dX1_withdraw_2 : decode cX1_withdraw 2 = .ok (.invokevirtual 101, 3) := by decide +kernel
theorem dX1_withdraw_5 : decode cX1_withdraw 5 = .ok (.aload_n 0, 1) := by decide +kernel
theorem dX1_withdraw_6 : decode cX1_withdraw 6 = .ok (.getfield 29, 3) := by decide +kernel
theorem dX1_withdraw_9 : decode cX1_withdraw 9 = .ok (.iload_n 1, 1) := by decide +kernel
theorem dX1_withdraw_10 : decode cX1_withdraw 10 = .ok (.baload, 1) := by decide +kernel
theorem dX1_withdraw_11 : decode cX1_withdraw 11 = .ok (.ifCond .eq 13, 3) := by decide +kernel
theorem dX1_withdraw_14 : decode cX1_withdraw 14 = .ok (.new 67, 3) := by decide +kernel
theorem dX1_withdraw_17 : decode cX1_withdraw 17 = .ok (.dup, 1) := by decide +kernel
theorem dX1_withdraw_18 : decode cX1_withdraw 18 = .ok (.ldc 141, 2) := by decide +kernel
theorem dX1_withdraw_20 : decode cX1_withdraw 20 = .ok (.invokespecial 71, 3) := by decide +kernel
theorem dX1_withdraw_23 : decode cX1_withdraw 23 = .ok (.athrow, 1) := by decide +kernel
theorem dX1_withdraw_24 : decode cX1_withdraw 24 = .ok (.aload_n 0, 1) := by decide +kernel
theorem dX1_withdraw_25 : decode cX1_withdraw 25 = .ok (.getfield 29, 3) := by decide +kernel
theorem dX1_withdraw_28 : decode cX1_withdraw 28 = .ok (.iload_n 1, 1) := by decide +kernel
theorem dX1_withdraw_29 : decode cX1_withdraw 29 = .ok (.iconst 1, 1) := by decide +kernel
theorem dX1_withdraw_30 : decode cX1_withdraw 30 = .ok (.bastore, 1) := by decide +kernel
theorem dX1_withdraw_31 : decode cX1_withdraw 31 = .ok (.aload_n 0, 1) := by decide +kernel
theorem dX1_withdraw_32 : decode cX1_withdraw 32 = .ok (.dup, 1) := by decide +kernel
theorem dX1_withdraw_33 : decode cX1_withdraw 33 = .ok (.getfield 36, 3) := by decide +kernel
theorem dX1_withdraw_36 : decode cX1_withdraw 36 = .ok (.iconst 1, 1) := by decide +kernel
theorem dX1_withdraw_37 : decode cX1_withdraw 37 = .ok (.iadd, 1) := by decide +kernel
theorem dX1_withdraw_38 : decode cX1_withdraw 38 = .ok (.putfield 36, 3) := by decide +kernel
theorem dX1_withdraw_41 : decode cX1_withdraw 41 = .ok (.aload_n 0, 1) := by decide +kernel
theorem dX1_withdraw_42 : decode cX1_withdraw 42 = .ok (.getfield 36, 3) := by decide +kernel
theorem dX1_withdraw_45 : decode cX1_withdraw 45 = .ok (.ireturn, 1) := by decide +kernel
theorem dX1_absence_0 : decode cX1_absence 0 = .ok (.aload_n 0, 1) := by decide +kernel
theorem dX1_absence_1 : decode cX1_absence 1 = .ok (.iload_n 1, 1) := by decide +kernel
theorem dX1_absence_2 : decode cX1_absence 2 = .ok (.invokevirtual 101, 3) := by decide +kernel
theorem dX1_absence_5 : decode cX1_absence 5 = .ok (.iload_n 2, 1) := by decide +kernel
theorem dX1_absence_6 : decode cX1_absence 6 = .ok (.ifCond .eq 18, 3) := by decide +kernel
theorem dX1_absence_9 : decode cX1_absence 9 = .ok (.iload_n 2, 1) := by decide +kernel
theorem dX1_absence_10 : decode cX1_absence 10 = .ok (.iconst 1, 1) := by decide +kernel
theorem dX1_absence_11 : decode cX1_absence 11 = .ok (.if_icmp .eq 13, 3) := by decide +kernel
theorem dX1_absence_14 : decode cX1_absence 14 = .ok (.new 143, 3) := by decide +kernel
theorem dX1_absence_17 : decode cX1_absence 17 = .ok (.dup, 1) := by decide +kernel
theorem dX1_absence_18 : decode cX1_absence 18 = .ok (.ldc 145, 2) := by decide +kernel
theorem dX1_absence_20 : decode cX1_absence 20 = .ok (.invokespecial 147, 3) := by decide +kernel
theorem dX1_absence_23 : decode cX1_absence 23 = .ok (.athrow, 1) := by decide +kernel
theorem dX1_absence_24 : decode cX1_absence 24 = .ok (.aload_n 0, 1) := by decide +kernel
theorem dX1_absence_25 : decode cX1_absence 25 = .ok (.getfield 29, 3) := by decide +kernel
theorem dX1_absence_28 : decode cX1_absence 28 = .ok (.iload_n 1, 1) := by decide +kernel
theorem dX1_absence_29 : decode cX1_absence 29 = .ok (.baload, 1) := by decide +kernel
theorem dX1_absence_30 : decode cX1_absence 30 = .ok (.ifCond .eq 13, 3) := by decide +kernel
theorem dX1_absence_33 : decode cX1_absence 33 = .ok (.new 104, 3) := by decide +kernel
theorem dX1_absence_36 : decode cX1_absence 36 = .ok (.dup, 1) := by decide +kernel
theorem dX1_absence_37 : decode cX1_absence 37 = .ok (.ldc 148, 2) := by decide +kernel
theorem dX1_absence_39 : decode cX1_absence 39 = .ok (.invokespecial 108, 3) := by decide +kernel
theorem dX1_absence_42 : decode cX1_absence 42 = .ok (.athrow, 1) := by decide +kernel
theorem dX1_absence_43 : decode cX1_absence 43 = .ok (.aload_n 0, 1) := by decide +kernel
theorem dX1_absence_44 : decode cX1_absence 44 = .ok (.iload_n 1, 1) := by decide +kernel
theorem dX1_absence_45 : decode cX1_absence 45 = .ok (.iload_n 2, 1) := by decide +kernel
theorem dX1_absence_46 : decode cX1_absence 46 = .ok (.invokevirtual 150, 3) := by decide +kernel
theorem dX1_absence_49 : decode cX1_absence 49 = .ok (.ireturn, 1) := by decide +kernel
theorem dX1_nearestWithdrawn_0 : decode cX1_nearestWithdrawn 0 = .ok (.iconst (-1), 1) := by decide +kernel
theorem dX1_nearestWithdrawn_1 : decode cX1_nearestWithdrawn 1 = .ok (.istore_n 3, 1) := by decide +kernel
theorem dX1_nearestWithdrawn_2 : decode cX1_nearestWithdrawn 2 = .ok (.iconst 0, 1) := by decide +kernel
theorem dX1_nearestWithdrawn_3 : decode cX1_nearestWithdrawn 3 = .ok (.istore 4, 2) := by decide +kernel
theorem dX1_nearestWithdrawn_5 : decode cX1_nearestWithdrawn 5 = .ok (.iload 4, 2) := by decide +kernel
theorem dX1_nearestWithdrawn_7 : decode cX1_nearestWithdrawn 7 = .ok (.aload_n 0, 1) := by decide +kernel
theorem dX1_nearestWithdrawn_8 : decode cX1_nearestWithdrawn 8 = .ok (.getfield 33, 3) := by decide +kernel
theorem dX1_nearestWithdrawn_11 : decode cX1_nearestWithdrawn 11 = .ok (.if_icmp .ge 49, 3) := by decide +kernel
theorem dX1_nearestWithdrawn_14 : decode cX1_nearestWithdrawn 14 = .ok (.aload_n 0, 1) := by decide +kernel
theorem dX1_nearestWithdrawn_15 : decode cX1_nearestWithdrawn 15 = .ok (.getfield 29, 3) := by decide +kernel
theorem dX1_nearestWithdrawn_18 : decode cX1_nearestWithdrawn 18 = .ok (.iload 4, 2) := by decide +kernel
theorem dX1_nearestWithdrawn_20 : decode cX1_nearestWithdrawn 20 = .ok (.baload, 1) := by decide +kernel
theorem dX1_nearestWithdrawn_21 : decode cX1_nearestWithdrawn 21 = .ok (.ifCond .eq 33, 3) := by decide +kernel
theorem dX1_nearestWithdrawn_24 : decode cX1_nearestWithdrawn 24 = .ok (.aload_n 0, 1) := by decide +kernel
theorem dX1_nearestWithdrawn_25 : decode cX1_nearestWithdrawn 25 = .ok (.iload_n 2, 1) := by decide +kernel
theorem dX1_nearestWithdrawn_26 : decode cX1_nearestWithdrawn 26 = .ok (.iload 4, 2) := by decide +kernel
theorem dX1_nearestWithdrawn_28 : decode cX1_nearestWithdrawn 28 = .ok (.iload_n 1, 1) := by decide +kernel
theorem dX1_nearestWithdrawn_29 : decode cX1_nearestWithdrawn 29 = .ok (.invokevirtual 193, 3) := by decide +kernel
theorem dX1_nearestWithdrawn_32 : decode cX1_nearestWithdrawn 32 = .ok (.ifCond .eq 22, 3) := by decide +kernel
theorem dX1_nearestWithdrawn_35 : decode cX1_nearestWithdrawn 35 = .ok (.iload_n 3, 1) := by decide +kernel
theorem dX1_nearestWithdrawn_36 : decode cX1_nearestWithdrawn 36 = .ok (.iconst (-1), 1) := by decide +kernel
theorem dX1_nearestWithdrawn_37 : decode cX1_nearestWithdrawn 37 = .ok (.if_icmp .eq 14, 3) := by decide +kernel
theorem dX1_nearestWithdrawn_40 : decode cX1_nearestWithdrawn 40 = .ok (.aload_n 0, 1) := by decide +kernel
theorem dX1_nearestWithdrawn_41 : decode cX1_nearestWithdrawn 41 = .ok (.iload_n 2, 1) := by decide +kernel
theorem dX1_nearestWithdrawn_42 : decode cX1_nearestWithdrawn 42 = .ok (.iload_n 3, 1) := by decide +kernel
theorem dX1_nearestWithdrawn_43 : decode cX1_nearestWithdrawn 43 = .ok (.iload 4, 2) := by decide +kernel
theorem dX1_nearestWithdrawn_45 : decode cX1_nearestWithdrawn 45 = .ok (.invokevirtual 193, 3) := by decide +kernel
theorem dX1_nearestWithdrawn_48 : decode cX1_nearestWithdrawn 48 = .ok (.ifCond .eq 6, 3) := by decide +kernel
theorem dX1_nearestWithdrawn_51 : decode cX1_nearestWithdrawn 51 = .ok (.iload 4, 2) := by decide +kernel
theorem dX1_nearestWithdrawn_53 : decode cX1_nearestWithdrawn 53 = .ok (.istore_n 3, 1) := by decide +kernel
theorem dX1_nearestWithdrawn_54 : decode cX1_nearestWithdrawn 54 = .ok (.iinc 4 1, 3) := by decide +kernel
theorem dX1_nearestWithdrawn_57 : decode cX1_nearestWithdrawn 57 = .ok (.goto (-52), 3) := by decide +kernel
theorem dX1_nearestWithdrawn_60 : decode cX1_nearestWithdrawn 60 = .ok (.iload_n 3, 1) := by decide +kernel
theorem dX1_nearestWithdrawn_61 : decode cX1_nearestWithdrawn 61 = .ok (.ireturn, 1) := by decide +kernel
theorem dX1_liesOn_0 : decode cX1_liesOn 0 = .ok (.aload_n 0, 1) := by decide +kernel
theorem dX1_liesOn_1 : decode cX1_liesOn 1 = .ok (.getfield 26, 3) := by decide +kernel
theorem dX1_liesOn_4 : decode cX1_liesOn 4 = .ok (.iload_n 2, 1) := by decide +kernel
theorem dX1_liesOn_5 : decode cX1_liesOn 5 = .ok (.aaload, 1) := by decide +kernel
theorem dX1_liesOn_6 : decode cX1_liesOn 6 = .ok (.aload_n 0, 1) := by decide +kernel
theorem dX1_liesOn_7 : decode cX1_liesOn 7 = .ok (.getfield 26, 3) := by decide +kernel
theorem dX1_liesOn_10 : decode cX1_liesOn 10 = .ok (.iload_n 3, 1) := by decide +kernel
theorem dX1_liesOn_11 : decode cX1_liesOn 11 = .ok (.aaload, 1) := by decide +kernel
theorem dX1_liesOn_12 : decode cX1_liesOn 12 = .ok (.invokestatic 131, 3) := by decide +kernel
theorem dX1_liesOn_15 : decode cX1_liesOn 15 = .ok (.istore 4, 2) := by decide +kernel
theorem dX1_liesOn_17 : decode cX1_liesOn 17 = .ok (.iload_n 1, 1) := by decide +kernel
theorem dX1_liesOn_18 : decode cX1_liesOn 18 = .ok (.ifCond .ne 16, 3) := by decide +kernel
theorem dX1_liesOn_21 : decode cX1_liesOn 21 = .ok (.iload 4, 2) := by decide +kernel
theorem dX1_liesOn_23 : decode cX1_liesOn 23 = .ok (.ifCond .ge 7, 3) := by decide +kernel
theorem dX1_liesOn_26 : decode cX1_liesOn 26 = .ok (.iconst 1, 1) := by decide +kernel
theorem dX1_liesOn_27 : decode cX1_liesOn 27 = .ok (.goto 17, 3) := by decide +kernel
theorem dX1_liesOn_30 : decode cX1_liesOn 30 = .ok (.iconst 0, 1) := by decide +kernel
theorem dX1_liesOn_31 : decode cX1_liesOn 31 = .ok (.goto 13, 3) := by decide +kernel
theorem dX1_liesOn_34 : decode cX1_liesOn 34 = .ok (.iload 4, 2) := by decide +kernel
theorem dX1_liesOn_36 : decode cX1_liesOn 36 = .ok (.ifCond .le 7, 3) := by decide +kernel
theorem dX1_liesOn_39 : decode cX1_liesOn 39 = .ok (.iconst 1, 1) := by decide +kernel
theorem dX1_liesOn_40 : decode cX1_liesOn 40 = .ok (.goto 4, 3) := by decide +kernel
theorem dX1_liesOn_43 : decode cX1_liesOn 43 = .ok (.iconst 0, 1) := by decide +kernel
theorem dX1_liesOn_44 : decode cX1_liesOn 44 = .ok (.ireturn, 1) := by decide +kernel
theorem dX1_mark_0 : decode cX1_mark 0 = .ok (.aload_n 0, 1) := by decide +kernel
theorem dX1_mark_1 : decode cX1_mark 1 = .ok (.iload_n 1, 1) := by decide +kernel
theorem dX1_mark_2 : decode cX1_mark 2 = .ok (.invokevirtual 101, 3) := by decide +kernel
theorem dX1_mark_5 : decode cX1_mark 5 = .ok (.iload 6, 2) := by decide +kernel
theorem dX1_mark_7 : decode cX1_mark 7 = .ok (.invokestatic 98, 3) := by decide +kernel
theorem dX1_mark_10 : decode cX1_mark 10 = .ok (.aload_n 0, 1) := by decide +kernel
theorem dX1_mark_11 : decode cX1_mark 11 = .ok (.lload_n 2, 1) := by decide +kernel
theorem dX1_mark_12 : decode cX1_mark 12 = .ok (.aload_n 0, 1) := by decide +kernel
theorem dX1_mark_13 : decode cX1_mark 13 = .ok (.getfield 26, 3) := by decide +kernel
theorem dX1_mark_16 : decode cX1_mark 16 = .ok (.iload_n 1, 1) := by decide +kernel
theorem dX1_mark_17 : decode cX1_mark 17 = .ok (.aaload, 1) := by decide +kernel
theorem dX1_mark_18 : decode cX1_mark 18 = .ok (.aload_n 0, 1) := by decide +kernel
theorem dX1_mark_19 : decode cX1_mark 19 = .ok (.getfield 57, 3) := by decide +kernel
theorem dX1_mark_22 : decode cX1_mark 22 = .ok (.invokevirtual 153, 3) := by decide +kernel
theorem dX1_mark_25 : decode cX1_mark 25 = .ok (.aload_n 0, 1) := by decide +kernel
theorem dX1_mark_26 : decode cX1_mark 26 = .ok (.lload 4, 2) := by decide +kernel
theorem dX1_mark_28 : decode cX1_mark 28 = .ok (.aload_n 0, 1) := by decide +kernel
theorem dX1_mark_29 : decode cX1_mark 29 = .ok (.getfield 57, 3) := by decide +kernel
theorem dX1_mark_32 : decode cX1_mark 32 = .ok (.aload_n 0, 1) := by decide +kernel
theorem dX1_mark_33 : decode cX1_mark 33 = .ok (.getfield 57, 3) := by decide +kernel
theorem dX1_mark_36 : decode cX1_mark 36 = .ok (.invokevirtual 153, 3) := by decide +kernel
theorem dX1_mark_39 : decode cX1_mark 39 = .ok (.aload_n 0, 1) := by decide +kernel
theorem dX1_mark_40 : decode cX1_mark 40 = .ok (.getfield 57, 3) := by decide +kernel
theorem dX1_mark_43 : decode cX1_mark 43 = .ok (.iload 6, 2) := by decide +kernel
theorem dX1_mark_45 : decode cX1_mark 45 = .ok (.iaload, 1) := by decide +kernel
theorem dX1_mark_46 : decode cX1_mark 46 = .ok (.ireturn, 1) := by decide +kernel
theorem dX1_keyedInto_0 : decode cX1_keyedInto 0 = .ok (.aload_n 0, 1) := by decide +kernel
theorem dX1_keyedInto_1 : decode cX1_keyedInto 1 = .ok (.getfield 10, 3) := by decide +kernel
theorem dX1_keyedInto_4 : decode cX1_keyedInto 4 = .ok (.invokevirtual 74, 3) := by decide +kernel
theorem dX1_keyedInto_7 : decode cX1_keyedInto 7 = .ok (.aload_n 0, 1) := by decide +kernel
theorem dX1_keyedInto_8 : decode cX1_keyedInto 8 = .ok (.getfield 10, 3) := by decide +kernel
theorem dX1_keyedInto_11 : decode cX1_keyedInto 11 = .ok (.lload_n 1, 1) := by decide +kernel
theorem dX1_keyedInto_12 : decode cX1_keyedInto 12 = .ok (.invokevirtual 189, 3) := by decide +kernel
theorem dX1_keyedInto_15 : decode cX1_keyedInto 15 = .ok (.aload_n 0, 1) := by decide +kernel
theorem dX1_keyedInto_16 : decode cX1_keyedInto 16 = .ok (.getfield 10, 3) := by decide +kernel
theorem dX1_keyedInto_19 : decode cX1_keyedInto 19 = .ok (.aload_n 3, 1) := by decide +kernel
theorem dX1_keyedInto_20 : decode cX1_keyedInto 20 = .ok (.bipush 32, 2) := by decide +kernel
theorem dX1_keyedInto_22 : decode cX1_keyedInto 22 = .ok (.invokevirtual 81, 3) := by decide +kernel
theorem dX1_keyedInto_25 : decode cX1_keyedInto 25 = .ok (.aload_n 0, 1) := by decide +kernel
theorem dX1_keyedInto_26 : decode cX1_keyedInto 26 = .ok (.getfield 10, 3) := by decide +kernel
theorem dX1_keyedInto_29 : decode cX1_keyedInto 29 = .ok (.aload 4, 2) := by decide +kernel
theorem dX1_keyedInto_31 : decode cX1_keyedInto 31 = .ok (.invokevirtual 85, 3) := by decide +kernel
theorem dX1_keyedInto_34 : decode cX1_keyedInto 34 = .ok (.return_, 1) := by decide +kernel
theorem dX1_poke_0 : decode cX1_poke 0 = .ok (.aload_n 0, 1) := by decide +kernel
theorem dX1_poke_1 : decode cX1_poke 1 = .ok (.iload_n 1, 1) := by decide +kernel
theorem dX1_poke_2 : decode cX1_poke 2 = .ok (.invokevirtual 101, 3) := by decide +kernel
theorem dX1_poke_5 : decode cX1_poke 5 = .ok (.iload_n 2, 1) := by decide +kernel
theorem dX1_poke_6 : decode cX1_poke 6 = .ok (.invokestatic 98, 3) := by decide +kernel
theorem dX1_poke_9 : decode cX1_poke 9 = .ok (.iload_n 3, 1) := by decide +kernel
theorem dX1_poke_10 : decode cX1_poke 10 = .ok (.invokestatic 116, 3) := by decide +kernel
theorem dX1_poke_13 : decode cX1_poke 13 = .ok (.aload_n 0, 1) := by decide +kernel
theorem dX1_poke_14 : decode cX1_poke 14 = .ok (.getfield 26, 3) := by decide +kernel
theorem dX1_poke_17 : decode cX1_poke 17 = .ok (.iload_n 1, 1) := by decide +kernel
theorem dX1_poke_18 : decode cX1_poke 18 = .ok (.aaload, 1) := by decide +kernel
theorem dX1_poke_19 : decode cX1_poke 19 = .ok (.iload_n 2, 1) := by decide +kernel
theorem dX1_poke_20 : decode cX1_poke 20 = .ok (.dup2, 1) := by decide +kernel
theorem dX1_poke_21 : decode cX1_poke 21 = .ok (.iaload, 1) := by decide +kernel
theorem dX1_poke_22 : decode cX1_poke 22 = .ok (.iload_n 3, 1) := by decide +kernel
theorem dX1_poke_23 : decode cX1_poke 23 = .ok (.ixor, 1) := by decide +kernel
theorem dX1_poke_24 : decode cX1_poke 24 = .ok (.iastore, 1) := by decide +kernel
theorem dX1_poke_25 : decode cX1_poke 25 = .ok (.return_, 1) := by decide +kernel
end
section
/-! PURE FUNCTIONS OF THE CLASS'S OWN METHODS: trees, paths, comparing -/
def p_copy (k0 k : Nat) (mem : xMem) : xMem := va_up mem k (va_cpy (mem k0) (mem k) 0 0 32)
def p_cmpA (f g : Nat → Int32) : Nat → Nat → Int32
  | 0, _ => nI 0
  | k + 1, i => if f i = g i then p_cmpA f g k (i + 1) else if f i < g i then (-1) else nI 1
def p_cmp (f g : Nat → Int32) : Int32 := p_cmpA f g 32 0
noncomputable def p_node (a b t : Nat) (mem : xMem) : Nat × xMem := P_fin t (P_first b 32 (P_first a 32 (P_take (nI 1) (0, mem))))
noncomputable def p_keyed (key : Int64) (d t : Nat) (mem : xMem) : Nat × xMem := P_fin t (P_first d 32 (P_long key (0, mem)))
def p_lay (n : Nat) (mem : xMem) : xMem := itr (fun i m => p_copy (6 + i) (47 + i) m) n mem
noncomputable def p_fold (w : Nat) (z : Nat × xMem) : Nat × xMem :=
  if w % 2 = 1 then ((itr (fun j z => p_node (47 + 2 * j) (47 + (2 * j + 1)) (47 + j) z.2) (w / 2) z).1, p_copy (47 + (w - 1)) (47 + w / 2) (itr (fun j z => p_node (47 + 2 * j) (47 + (2 * j + 1)) (47 + j) z.2) (w / 2) z).2) else itr (fun j z => p_node (47 + 2 * j) (47 + (2 * j + 1)) (47 + j) z.2) (w / 2) z
/-- the levels above one of width w -/
noncomputable def p_up : Nat → Nat → Nat × xMem → Nat × xMem
  | 0, _, z => z
  | f + 1, w, z => if w ≤ 1 then z else p_up f (w - w / 2) (p_fold w z)
noncomputable def p_tree (n t : Nat) (z : Nat × xMem) : Nat × xMem :=
  if n < 1 then P_fin t (0, z.2) else ((p_up n n (z.1, p_lay n z.2)).1, p_copy 47 t (p_up n n (z.1, p_lay n z.2)).2)
def p_due : Nat → Nat → Nat → Nat → Nat
  | 0, len, _, _ => len
  | f + 1, len, a, w => if w ≤ 1 then len else p_due f (if a ^^^ 1 < w then len + 1 else len) (a / 2) (w - w / 2)
/-- makePath's loop: the path's length, the message's length, the memory -/
noncomputable def p_pathA : Nat → Nat → Nat → Nat × Nat × xMem → Nat × Nat × xMem
  | 0, _, _, z => z
  | f + 1, a, w, z => if w ≤ 1 then z else p_pathA f (a / 2) (w - w / 2) (if a ^^^ 1 < w then (z.1 + 1, p_fold w (z.2.1, p_copy (47 + (a ^^^ 1)) (42 + z.1) z.2.2)) else (z.1, p_fold w z.2))
noncomputable def p_path (a n : Nat) (z : Nat × xMem) : Nat × Nat × xMem := p_pathA n a n (0, z.1, p_lay n z.2)
noncomputable def p_climbA : Nat → Nat → Nat → Nat → Nat × xMem → Nat × xMem
  | 0, _, _, _, z => z
  | f + 1, a, k, w, z => if w ≤ 1 then z else if a ^^^ 1 < w then p_climbA f (a / 2) (k + 1) (w - w / 2) (if a < a ^^^ 1 then p_node 2 (42 + k) 2 z.2 else p_node (42 + k) 2 2 z.2) else p_climbA f (a / 2) k (w - w / 2) z
noncomputable def p_climb (d a w : Nat) (z : Nat × xMem) : Nat × xMem := p_climbA w a 0 w (z.1, p_copy d 2 z.2)
def p_lies (side : Int32) (x : Int32) : Int32 := if side = 0 then (if x < 0 then nI 1 else nI 0) else if 0 < x then nI 1 else nI 0
def p_has (x v : Int32) : Int32 := if (x ^^^ nI 1) < v then nI 1 else nI 0
def hb1 (x v : Nat) : Int32 := if x ^^^ 1 < v then nI 1 else nI 0
theorem xor1_le (x : Nat) : x ^^^ 1 ≤ x + 1 := by
  have h2 : (x ^^^ 1) / 2 = x / 2 := by
    rw [Nat.xor_div_two]
    simp
  omega
theorem nI_xor1 (x : Nat) : nI x ^^^ nI 1 = nI (x ^^^ 1) := by
  apply Int32.toBitVec_inj.1
  show BitVec.ofNat 32 x ^^^ BitVec.ofNat 32 1 = BitVec.ofNat 32 (x ^^^ 1)
  apply BitVec.eq_of_getLsbD_eq
  intro i hi
  simp [hi]
theorem p_has_eq {x v : Nat} (hx : x < 2 ^ 30) (hv : v < 2 ^ 31) : p_has (nI x) (nI v) = hb1 x v := by
  have h := xor1_le x
  unfold p_has hb1
  rw [nI_xor1]
  by_cases hc : x ^^^ 1 < v
  · rw [if_pos hc, if_pos (nI_lt hc hv)]
  · rw [if_neg hc, if_neg (nI_nlt (by omega) (by omega))]
theorem hb1_0 {x v : Nat} (h : hb1 x v = 0) : ¬ x ^^^ 1 < v := by
  intro hc
  rw [hb1, if_pos hc] at h
  exact absurd h (by decide)
theorem hb1_1 {x v : Nat} (h : ¬ hb1 x v = 0) : x ^^^ 1 < v := by
  rcases Nat.lt_or_ge (x ^^^ 1) v with hc | hc
  · exact hc
  · rw [hb1, if_neg (by omega)] at h
    exact absurd (by decide) h
/-- how often a width is halved until it is 1 -/
def hlv (v : Nat) : Nat := if v ≤ 1 then 0 else if v ≤ 2 then 1 else if v ≤ 4 then 2 else if v ≤ 8 then 3 else if v ≤ 16 then 4 else 5
theorem hlv_step : ∀ v, v < 25 → 2 ≤ v → hlv (v - v / 2) + 1 ≤ hlv v := by decide +kernel
theorem hlv_5 : ∀ v, v < 25 → hlv v ≤ 5 := by decide +kernel
theorem half_lt {x v : Nat} (h : x < v) (h2 : 2 ≤ v) : x / 2 < v - v / 2 := by omega
def nrI : Option Nat → Int32
  | none => (-1)
  | some j => nI j
def p_nearS (sd : Int32) (isw : Nat → Int32) (mem : xMem) (lf i : Nat) (r : Option Nat) : Option Nat :=
  if isw i = 0 then r else if p_lies sd (p_cmp (mem (6 + i)) (mem (6 + lf))) = 0 then r else match r with
    | none => some i
    | some j => if p_lies sd (p_cmp (mem (6 + j)) (mem (6 + i))) = 0 then some j else some i
def p_near (sd : Int32) (isw : Nat → Int32) (mem : xMem) (lf n : Nat) : Option Nat := itr (p_nearS sd isw mem lf) n none
theorem p_near_lt (sd : Int32) (isw : Nat → Int32) (mem : xMem) (lf : Nat) : ∀ n j, p_near sd isw mem lf n = some j → j < n
  | 0, j, h => by cases h
  | n + 1, j, h => by
    have ih := p_near_lt sd isw mem lf n
    have e : p_near sd isw mem lf (n + 1) = p_nearS sd isw mem lf n (p_near sd isw mem lf n) := rfl
    rw [e] at h
    unfold p_nearS at h
    cases hr : p_near sd isw mem lf n with
    | none =>
      rw [hr] at h
      split at h
      · cases h
      · split at h
        · cases h
        · cases h; omega
    | some i =>
      rw [hr] at h
      have hi := ih i hr
      by_cases c1 : isw n = 0
      · rw [if_pos c1] at h; cases h; omega
      · rw [if_neg c1] at h
        by_cases c2 : p_lies sd (p_cmp (mem (6 + n)) (mem (6 + lf))) = 0
        · rw [if_pos c2] at h; cases h; omega
        · rw [if_neg c2] at h
          by_cases c3 : p_lies sd (p_cmp (mem (6 + i)) (mem (6 + n))) = 0
          · have h : (some i : Option Nat) = some j := by rw [← h]; exact (if_pos c3).symm
            cases h; omega
          · have h : (some n : Option Nat) = some j := by rw [← h]; exact (if_neg c3).symm
            cases h; omega
theorem nrI_ne (j : Nat) (h : j < 2 ^ 31) : ¬ nI j = (-1) := by
  intro e
  have := nI_pos h
  rw [e] at this
  exact this (by decide)
noncomputable def p_still (q y : Nat) (z : Nat × xMem) : Int32 := if p_cmp ((p_tree q 2 z).2 2) ((p_tree q 2 z).2 (30 + y)) = 0 then nI 1 else nI 0
theorem p_node_e (a b t : Nat) (mem : xMem) : p_node a b t mem = P_fin t (P_first b 32 (P_first a 32 (P_take (nI 1) (0, mem)))) := rfl
theorem p_keyed_e (key : Int64) (d t : Nat) (mem : xMem) : p_keyed key d t mem = P_fin t (P_first d 32 (P_long key (0, mem))) := rfl
theorem p_lay_s (i : Nat) (mem : xMem) : p_lay (i + 1) mem = p_copy (6 + i) (47 + i) (p_lay i mem) := rfl
end
section
set_option maxHeartbeats 4000000 in
set_option maxRecDepth 100000 in
/-- copyDigest(array k0, array k1) -/
theorem c_copyDigest {l : Launch} {D : va_G} {o ad : Nat → Nat} {cI cZ cG : ClassId} {tl lc wc dc pn : Int32} {isw : Nat → Int32} (k0 k1 : Nat) (h0 : k0 < 71) (h1 : k1 < 71) (l0 : lenC k0 = 32) (l1 : lenC k1 = 32) (sl : Int32) (mem : Nat → Nat → Int32) : MV l gE yX1_copyDigest (.code yX1_copyDigest cX1_copyDigest 2 none :: tW) ({ frames := 1, cells := 0, slots := 0, locals := 64 }) D vwCl (tC cI cZ cG) [.ref (ad k0), .ref (ad k1)] (wC o ad cI cZ cG tl lc wc dc pn sl isw mem) (wC o ad cI cZ cG tl lc wc dc pn sl isw (p_copy k0 k1 mem)) := by
  refine MV.ofW (by decide +kernel) rfl (Nat.le_of_ble_eq_true rfl) ?_
  intro p e s m below meth c A ls hx hb hr hts hown hlk hml hA hP hK hD hT hl
  have hS : va_S A s.heap s.heap [] := va_S.rf
  have hown : s.vm.findClass RX1 = some m.cls := hown
  have hW : ∀ w ∈ tW, w.before _ s = true := fun w h => hts w (List.mem_cons_of_mem _ h)
  have hl : lv_has ls 2 [(0, .ref (ad k0)), (1, .ref (ad k1))] := hl
  refine lv_aload_n hx hb dX1_copyDigest_0 rfl (lv_at hl 0 rfl) ?_
  refine lv_iconst (v := nI 0) hx hb dX1_copyDigest_1 (by decide) ?_
  refine lv_aload_n hx hb dX1_copyDigest_2 rfl (lv_at hl 1 rfl) ?_
  refine lv_iconst (v := nI 0) hx hb dX1_copyDigest_3 (by decide) ?_
  refine lv_bipush (v := nI 32) hx hb dX1_copyDigest_4 (by decide) ?_
  refine m_cpy (X := wX o ad cZ cG tl lc wc dc pn sl isw) hx hb (hml.trans hl.1.symm) hown (hW _ tw_252) (hW _ tw_219) (hW _ tw_218) (hW _ tw_10) hK hP hD hS 0 k0 k1 32 rfl h0 h1 (by omega) (by omega) (by decide) (Nat.le_of_ble_eq_true rfl) (Nat.le_of_ble_eq_true rfl) dX1_copyDigest_6 (fun H locs hP hD hS => ?_)
  have hP : va_P D vwCl (wC o ad cI cZ cG tl lc wc dc pn sl isw (p_copy k0 k1 mem)) H := hP
  have hD : va_D A (wC o ad cI cZ cG tl lc wc dc pn sl isw (p_copy k0 k1 mem)) := hD
  have hP : va_P D vwCl (wC o ad cI cZ cG tl lc wc dc pn sl isw (p_copy k0 k1 mem)) H := by exact hP
  have hD : va_D A (wC o ad cI cZ cG tl lc wc dc pn sl isw (p_copy k0 k1 mem)) := by exact hD
  exact mv_ret hx hb hr hlk hS hP hD dX1_copyDigest_9
set_option maxHeartbeats 4000000 in
set_option maxRecDepth 100000 in
/-- compareDigests(array k0, array k1) -/
theorem c_compareDigests {l : Launch} {D : va_G} {o ad : Nat → Nat} {cI cZ cG : ClassId} {tl lc wc dc pn : Int32} {isw : Nat → Int32} (k0 k1 : Nat) (h0 : k0 < 71) (h1 : k1 < 71) (l0 : lenC k0 = 32) (l1 : lenC k1 = 32) (sl : Int32) (mem : Nat → Nat → Int32) : MI l gE yX1_compareDigests (.code yX1_compareDigests cX1_compareDigests 3 (some .int) :: tW) ({ frames := 0, cells := 0, slots := 0, locals := 0 }) D vwCl (tC cI cZ cG) [.ref (ad k0), .ref (ad k1)] (wC o ad cI cZ cG tl lc wc dc pn sl isw mem) (wC o ad cI cZ cG tl lc wc dc pn sl isw mem) (p_cmp (mem k0) (mem k1)) := by
  refine MI.ofW (by decide +kernel) rfl (Nat.le_of_ble_eq_true rfl) ?_
  intro p e s m below meth c A ls hx hb hr hts hown hlk hml hA hP hK hD hT hl
  have hS : va_S A s.heap s.heap [] := va_S.rf
  have hown : s.vm.findClass RX1 = some m.cls := hown
  have hW : ∀ w ∈ tW, w.before _ s = true := fun w h => hts w (List.mem_cons_of_mem _ h)
  have hl : lv_has ls 3 [(0, .ref (ad k0)), (1, .ref (ad k1))] := hl
  have loop : ∀ (k i : Nat) (H : Heap) (locs : List Loc) (ls : Array Slot), i + k = 32 ∧ p_cmpA (mem k0) (mem k1) k i = p_cmp (mem k0) (mem k1) → va_P D vwCl (wC o ad cI cZ cG tl lc wc dc pn sl isw mem) H → va_D A (wC o ad cI cZ cG tl lc wc dc pn sl isw mem) → va_S A s.heap H locs → lv_has ls 3 [(0, .ref (ad k0)), (1, .ref (ad k1)), (2, .int (nI i))] → W p l e ({ frames := 0, cells := 0, slots := 0, locals := 0 }) s m ([.ref (ad k0), .ref (ad k1)] : List Value).toArray below meth c H locs 0 0 (MQ below (xQi D vwCl (wC o ad cI cZ cG tl lc wc dc pn sl isw mem) (p_cmp (mem k0) (mem k1)) A) ([.ref (ad k0), .ref (ad k1)] : List Value).toArray s 0 0 A) (F0 m 2 ls []) := by
    intro k
    induction k with
    | zero =>
      intro i H locs ls hk hP hD hS hl
      obtain ⟨hk, hv⟩ := hk
      refine lv_iload_n hx hb dX1_compareDigests_2 rfl (lv_at hl 2 rfl) ?_
      refine lv_bipush (v := nI 32) hx hb dX1_compareDigests_3 (by decide) ?_
      refine lv_icmp_ge (tgt := 38) hx hb dX1_compareDigests_5 (by decide) (fun hc => ?_) (fun hc => ?_)
      · refine lv_iconst (v := nI 0) hx hb dX1_compareDigests_38 (by decide) ?_
        have hP : va_P D vwCl (wC o ad cI cZ cG tl lc wc dc pn sl isw mem) H := by exact hP
        have hD : va_D A (wC o ad cI cZ cG tl lc wc dc pn sl isw mem) := by exact hD
        exact mi_ret hx hb hr rfl hlk hS hP hD (hv) dX1_compareDigests_39
      · exact absurd (nI_le (by omega) (by omega)) hc
    | succ k ih =>
      intro i H locs ls hk hP hD hS hl
      obtain ⟨hk, hv⟩ := hk
      refine lv_iload_n hx hb dX1_compareDigests_2 rfl (lv_at hl 2 rfl) ?_
      refine lv_bipush (v := nI 32) hx hb dX1_compareDigests_3 (by decide) ?_
      refine lv_icmp_ge (tgt := 38) hx hb dX1_compareDigests_5 (by decide) (fun hc => ?_) (fun hc => ?_)
      · exact absurd hc (nI_ge (by omega) (by omega))
      · refine lv_aload_n hx hb dX1_compareDigests_8 rfl (lv_at hl 0 rfl) ?_
        refine lv_iload_n hx hb dX1_compareDigests_9 rfl (lv_at hl 2 rfl) ?_
        refine m_ld (X := wX o ad cZ cG tl lc wc dc pn sl isw) hx hb hK hP 0 k0 i rfl h0 (by omega) (by omega) dX1_compareDigests_10 ?_
        refine lv_aload_n hx hb dX1_compareDigests_11 rfl (lv_at hl 1 rfl) ?_
        refine lv_iload_n hx hb dX1_compareDigests_12 rfl (lv_at hl 2 rfl) ?_
        refine m_ld (X := wX o ad cZ cG tl lc wc dc pn sl isw) hx hb hK hP 0 k1 i rfl h1 (by omega) (by omega) dX1_compareDigests_13 ?_
        refine lv_icmp_eq (tgt := 32) hx hb dX1_compareDigests_14 (by decide) (fun ha => ?_) (fun ha => ?_)
        · refine lv_iinc (v := nI (i + 1)) (lv' := [(2, .int (nI (i + 1))), (0, .ref (ad k0)), (1, .ref (ad k1))]) hx hb dX1_compareDigests_32 hl (k := 2) rfl (nI_1 i) (by decide) rfl (fun ls hl => ?_)
          refine lv_goto (tgt := 2) hx hb dX1_compareDigests_35 (by decide) ?_
          exact ih (i + 1) H locs ls ⟨by omega, by rw [← hv]; exact (if_pos ha).symm⟩ hP hD hS (lv_sub hl [1, 2, 0] rfl)
        · refine lv_aload_n hx hb dX1_compareDigests_17 rfl (lv_at hl 0 rfl) ?_
          refine lv_iload_n hx hb dX1_compareDigests_18 rfl (lv_at hl 2 rfl) ?_
          refine m_ld (X := wX o ad cZ cG tl lc wc dc pn sl isw) hx hb hK hP 0 k0 i rfl h0 (by omega) (by omega) dX1_compareDigests_19 ?_
          refine lv_aload_n hx hb dX1_compareDigests_20 rfl (lv_at hl 1 rfl) ?_
          refine lv_iload_n hx hb dX1_compareDigests_21 rfl (lv_at hl 2 rfl) ?_
          refine m_ld (X := wX o ad cZ cG tl lc wc dc pn sl isw) hx hb hK hP 0 k1 i rfl h1 (by omega) (by omega) dX1_compareDigests_22 ?_
          refine lv_icmp_ge (tgt := 30) hx hb dX1_compareDigests_23 (by decide) (fun hd => ?_) (fun hd => ?_)
          · refine lv_iconst (v := nI 1) hx hb dX1_compareDigests_30 (by decide) ?_
            have hP : va_P D vwCl (wC o ad cI cZ cG tl lc wc dc pn sl isw mem) H := by exact hP
            have hD : va_D A (wC o ad cI cZ cG tl lc wc dc pn sl isw mem) := by exact hD
            exact mi_ret hx hb hr rfl hlk hS hP hD (by rw [← hv]; exact ((if_neg ha).trans (if_neg (fun h => Int32.not_lt.mpr hd h))).symm) dX1_compareDigests_31
          · refine lv_iconst (v := (-1)) hx hb dX1_compareDigests_26 (by decide) ?_
            refine lv_goto (tgt := 31) hx hb dX1_compareDigests_27 (by decide) ?_
            have hP : va_P D vwCl (wC o ad cI cZ cG tl lc wc dc pn sl isw mem) H := by exact hP
            have hD : va_D A (wC o ad cI cZ cG tl lc wc dc pn sl isw mem) := by exact hD
            exact mi_ret hx hb hr rfl hlk hS hP hD (by rw [← hv]; exact ((if_neg ha).trans (if_pos (Int32.not_le.mp hd))).symm) dX1_compareDigests_31
  refine lv_iconst (v := nI 0) hx hb dX1_compareDigests_0 (by decide) ?_
  refine lv_istore_n (lv' := [(2, .int (nI 0)), (0, .ref (ad k0)), (1, .ref (ad k1))]) hx hb dX1_compareDigests_1 rfl hl (by decide) rfl (fun ls hl => ?_)
  exact loop 32 0 s.heap [] ls ⟨by omega, rfl⟩ hP hD hS (lv_sub hl [1, 2, 0] rfl)
set_option maxHeartbeats 4000000 in
set_option maxRecDepth 100000 in
/-- partnerOf(x) -/
theorem c_partnerOf {l : Launch} {D : va_G} {cI cZ cG : ClassId} (w : va_W) (x : Int32) : MI l gE yX1_partnerOf (.code yX1_partnerOf cX1_partnerOf 1 (some .int) :: tW) ({ frames := 0, cells := 0, slots := 0, locals := 0 }) D vwCl (tC cI cZ cG) [.int x] (w) (w) (x ^^^ nI 1) := by
  refine MI.ofW (by decide +kernel) rfl (Nat.le_of_ble_eq_true rfl) ?_
  intro p e s m below meth c A ls hx hb hr hts hown hlk hml hA hP hK hD hT hl
  have hS : va_S A s.heap s.heap [] := va_S.rf
  have hown : s.vm.findClass RX1 = some m.cls := hown
  have hW : ∀ w ∈ tW, w.before _ s = true := fun w h => hts w (List.mem_cons_of_mem _ h)
  have hl : lv_has ls 1 [(0, .int x)] := hl
  refine lv_iload_n hx hb dX1_partnerOf_0 rfl (lv_at hl 0 rfl) ?_
  refine lv_iconst (v := nI 1) hx hb dX1_partnerOf_1 (by decide) ?_
  refine lv_ixor hx hb dX1_partnerOf_2 ?_
  have hP : va_P D vwCl (w) s.heap := by exact hP
  have hD : va_D A (w) := by exact hD
  exact mi_ret hx hb hr rfl hlk hS hP hD (rfl) dX1_partnerOf_3
set_option maxHeartbeats 4000000 in
set_option maxRecDepth 100000 in
/-- hasPartner(x, v) -/
theorem c_hasPartner {l : Launch} {D : va_G} {cI cZ cG : ClassId} (w : va_W) (x v : Int32) : MI l gE yX1_hasPartner (.code yX1_hasPartner cX1_hasPartner 2 (some .boolean) :: tW) ({ frames := 1, cells := 0, slots := 0, locals := 20 }) D vwCl (tC cI cZ cG) [.int x, .int v] (w) (w) (p_has x v) := by
  refine MI.ofW (by decide +kernel) rfl (Nat.le_of_ble_eq_true rfl) ?_
  intro p e s m below meth c A ls hx hb hr hts hown hlk hml hA hP hK hD hT hl
  have hS : va_S A s.heap s.heap [] := va_S.rf
  have hown : s.vm.findClass RX1 = some m.cls := hown
  have hW : ∀ w ∈ tW, w.before _ s = true := fun w h => hts w (List.mem_cons_of_mem _ h)
  have hl : lv_has ls 2 [(0, .int x), (1, .int v)] := hl
  refine lv_iload_n hx hb dX1_hasPartner_0 rfl (lv_at hl 0 rfl) ?_
  refine mi_callS (As := [.int x]) (rest := []) ⟨hx, hb, hml, hown, hW⟩ (c_partnerOf _ x) gE_ok (va_cwS 1 hW (gS tw_343 tw_344 tw_1 tw_345) rfl rfl rfl (by decide +kernel) ⟨Nat.le_of_ble_eq_true rfl, Nat.le_of_ble_eq_true rfl⟩) hP hD hK hS hA hT rfl hl.1 rfl (Nat.le_of_ble_eq_true rfl) dX1_hasPartner_1 ⟨Nat.zero_le _, Nat.zero_le _⟩ (fun H locs hP hD hS => ?_)
  refine lv_iload_n hx hb dX1_hasPartner_4 rfl (lv_at hl 1 rfl) ?_
  refine lv_icmp_ge (tgt := 12) hx hb dX1_hasPartner_5 (by decide) (fun hc => ?_) (fun hc => ?_)
  · refine lv_iconst (v := nI 0) hx hb dX1_hasPartner_12 (by decide) ?_
    have hP : va_P D vwCl (w) H := by exact hP
    have hD : va_D A (w) := by exact hD
    exact mi_ret hx hb hr rfl hlk hS hP hD ((if_neg (fun h => Int32.not_lt.mpr hc h)).symm) dX1_hasPartner_13
  · refine lv_iconst (v := nI 1) hx hb dX1_hasPartner_8 (by decide) ?_
    refine lv_goto (tgt := 13) hx hb dX1_hasPartner_9 (by decide) ?_
    have hP : va_P D vwCl (w) H := by exact hP
    have hD : va_D A (w) := by exact hD
    exact mi_ret hx hb hr rfl hlk hS hP hD ((if_pos (Int32.not_le.mp hc)).symm) dX1_hasPartner_13
set_option maxHeartbeats 4000000 in
set_option maxRecDepth 100000 in
/-- nodeInto(arrays a, b, t) -/
theorem c_nodeInto {l : Launch} {D : va_G} {o ad : Nat → Nat} {cI cZ cG : ClassId} {tl lc wc dc pn : Int32} {isw : Nat → Int32} (a b t : Nat) (h : (a < 71 ∧ lenC a = 32) ∧ (b < 71 ∧ lenC b = 32) ∧ (t < 71 ∧ lenC t = 32)) (n : Nat) (mem : Nat → Nat → Int32) : MV l gE yX1_nodeInto (.code yX1_nodeInto cX1_nodeInto 4 none :: tW) ({ frames := 3, cells := 0, slots := 0, locals := 128 }) D vwCl (tC cI cZ cG) [.ref (o 0), .ref (ad a), .ref (ad b), .ref (ad t)] (wC o ad cI cZ cG tl lc wc dc pn (nI n) isw mem) (wC o ad cI cZ cG tl lc wc dc pn (nI (p_node a b t mem).1) isw ((p_node a b t mem).2)) := by
  refine MV.ofW (by decide +kernel) rfl (Nat.le_of_ble_eq_true rfl) ?_
  intro p e s m below meth c A ls hx hb hr hts hown hlk hml hA hP hK hD hT hl
  have hS : va_S A s.heap s.heap [] := va_S.rf
  have hown : s.vm.findClass RX1 = some m.cls := hown
  have hW : ∀ w ∈ tW, w.before _ s = true := fun w h => hts w (List.mem_cons_of_mem _ h)
  have hl : lv_has ls 4 [(0, .ref (o 0)), (1, .ref (ad a)), (2, .ref (ad b)), (3, .ref (ad t))] := hl
  have e1 : (P_take (nI 1) (0, mem)).1 = 1 := P_take_fst _ _ (show 0 < 256 by decide)
  have e2 : (P_first a 32 (P_take (nI 1) (0, mem))).1 = 33 := by rw [P_first_fst a 32 _ (by omega), e1]
  have e3 : (P_first b 32 (P_first a 32 (P_take (nI 1) (0, mem)))).1 = 65 := by rw [P_first_fst b 32 _ (by omega), e2]
  refine lv_aload_n hx hb dX1_nodeInto_0 rfl (lv_at hl 0 rfl) ?_
  refine va_get (D := D) (ci := 0) (v := .ref (o 1)) (C := RX1) (T := TX1) (N := 14) hx hb hW iPL hown hK hP 0 rfl rfl 0 (by decide) (hW _ tw_44) (fun _ h9 => h9) rfl dX1_nodeInto_1 ?_
  refine mv_callV (C := RX0) (As := []) (rest := []) ⟨hx, hb, hml, hown, hW⟩ (c_begin n mem) gE_ok (cwV 0 hW (gV tw_190 tw_191 tw_192 tw_2 tw_193) rfl rfl rfl (by decide +kernel) ⟨Nat.le_of_ble_eq_true rfl, Nat.le_of_ble_eq_true rfl⟩) (va_recv hK hP (ci := 1) (q0 := 1) rfl rfl) hP hD hK hS hA hT rfl hl.1 rfl (Nat.le_of_ble_eq_true rfl) dX1_nodeInto_4 ⟨Nat.zero_le _, Nat.zero_le _⟩ (fun H locs hP hD hS => ?_)
  have hP : va_P D vwCl (wC o ad cI cZ cG tl lc wc dc pn (nI 0) isw mem) H := hP
  have hD : va_D A (wC o ad cI cZ cG tl lc wc dc pn (nI 0) isw mem) := hD
  refine lv_aload_n hx hb dX1_nodeInto_7 rfl (lv_at hl 0 rfl) ?_
  refine va_get (D := D) (ci := 0) (v := .ref (o 1)) (C := RX1) (T := TX1) (N := 14) hx hb hW iPL hown hK hP 0 rfl rfl 0 (by decide) (hW _ tw_44) (fun _ h9 => h9) rfl dX1_nodeInto_8 ?_
  refine lv_iconst (v := nI 1) hx hb dX1_nodeInto_11 (by decide) ?_
  refine mv_callV (C := RX0) (As := [.int (nI 1)]) (rest := []) ⟨hx, hb, hml, hown, hW⟩ (C_take 0 (by decide) mem (nI 1)) gE_ok (cwV 1 hW (gV tw_194 tw_195 tw_196 tw_2 tw_197) rfl rfl rfl (by decide +kernel) ⟨Nat.le_of_ble_eq_true rfl, Nat.le_of_ble_eq_true rfl⟩) (va_recv hK hP (ci := 1) (q0 := 1) rfl rfl) hP hD hK hS hA hT rfl hl.1 rfl (Nat.le_of_ble_eq_true rfl) dX1_nodeInto_12 ⟨Nat.zero_le _, Nat.zero_le _⟩ (fun H locs hP hD hS => ?_)
  have hP : va_P D vwCl (wC o ad cI cZ cG tl lc wc dc pn (nI (P_take (nI 1) (0, mem)).1) isw ((P_take (nI 1) (0, mem)).2)) H := hP
  have hD : va_D A (wC o ad cI cZ cG tl lc wc dc pn (nI (P_take (nI 1) (0, mem)).1) isw ((P_take (nI 1) (0, mem)).2)) := hD
  refine lv_aload_n hx hb dX1_nodeInto_15 rfl (lv_at hl 0 rfl) ?_
  refine va_get (D := D) (ci := 0) (v := .ref (o 1)) (C := RX1) (T := TX1) (N := 14) hx hb hW iPL hown hK hP 0 rfl rfl 0 (by decide) (hW _ tw_44) (fun _ h9 => h9) rfl dX1_nodeInto_16 ?_
  refine lv_aload_n hx hb dX1_nodeInto_19 rfl (lv_at hl 1 rfl) ?_
  refine lv_bipush (v := nI 32) hx hb dX1_nodeInto_20 (by decide) ?_
  refine mv_callV (C := RX0) (As := [.ref (ad a), .int (nI 32)]) (rest := []) ⟨hx, hb, hml, hown, hW⟩ (C_takeFirst ((P_take (nI 1) (0, mem)).1) 32 a (by rw [e1]; decide) (by have := h.1.2; omega) (h.1.1) ((P_take (nI 1) (0, mem)).2)) gE_ok (cwV 2 hW (gV tw_198 tw_199 tw_200 tw_2 tw_201) rfl rfl rfl (by decide +kernel) ⟨Nat.le_of_ble_eq_true rfl, Nat.le_of_ble_eq_true rfl⟩) (va_recv hK hP (ci := 1) (q0 := 1) rfl rfl) hP hD hK hS hA hT rfl hl.1 rfl (Nat.le_of_ble_eq_true rfl) dX1_nodeInto_22 ⟨Nat.zero_le _, Nat.zero_le _⟩ (fun H locs hP hD hS => ?_)
  have hP : va_P D vwCl (wC o ad cI cZ cG tl lc wc dc pn (nI (P_first a 32 (P_take (nI 1) (0, mem))).1) isw ((P_first a 32 (P_take (nI 1) (0, mem))).2)) H := hP
  have hD : va_D A (wC o ad cI cZ cG tl lc wc dc pn (nI (P_first a 32 (P_take (nI 1) (0, mem))).1) isw ((P_first a 32 (P_take (nI 1) (0, mem))).2)) := hD
  refine lv_aload_n hx hb dX1_nodeInto_25 rfl (lv_at hl 0 rfl) ?_
  refine va_get (D := D) (ci := 0) (v := .ref (o 1)) (C := RX1) (T := TX1) (N := 14) hx hb hW iPL hown hK hP 0 rfl rfl 0 (by decide) (hW _ tw_44) (fun _ h9 => h9) rfl dX1_nodeInto_26 ?_
  refine lv_aload_n hx hb dX1_nodeInto_29 rfl (lv_at hl 2 rfl) ?_
  refine lv_bipush (v := nI 32) hx hb dX1_nodeInto_30 (by decide) ?_
  refine mv_callV (C := RX0) (As := [.ref (ad b), .int (nI 32)]) (rest := []) ⟨hx, hb, hml, hown, hW⟩ (C_takeFirst ((P_first a 32 (P_take (nI 1) (0, mem))).1) 32 b (by rw [e2]; decide) (by have := h.2.1.2; omega) (h.2.1.1) ((P_first a 32 (P_take (nI 1) (0, mem))).2)) gE_ok (cwV 2 hW (gV tw_198 tw_199 tw_200 tw_2 tw_201) rfl rfl rfl (by decide +kernel) ⟨Nat.le_of_ble_eq_true rfl, Nat.le_of_ble_eq_true rfl⟩) (va_recv hK hP (ci := 1) (q0 := 1) rfl rfl) hP hD hK hS hA hT rfl hl.1 rfl (Nat.le_of_ble_eq_true rfl) dX1_nodeInto_32 ⟨Nat.zero_le _, Nat.zero_le _⟩ (fun H locs hP hD hS => ?_)
  have hP : va_P D vwCl (wC o ad cI cZ cG tl lc wc dc pn (nI (P_first b 32 (P_first a 32 (P_take (nI 1) (0, mem)))).1) isw ((P_first b 32 (P_first a 32 (P_take (nI 1) (0, mem)))).2)) H := hP
  have hD : va_D A (wC o ad cI cZ cG tl lc wc dc pn (nI (P_first b 32 (P_first a 32 (P_take (nI 1) (0, mem)))).1) isw ((P_first b 32 (P_first a 32 (P_take (nI 1) (0, mem)))).2)) := hD
  refine lv_aload_n hx hb dX1_nodeInto_35 rfl (lv_at hl 0 rfl) ?_
  refine va_get (D := D) (ci := 0) (v := .ref (o 1)) (C := RX1) (T := TX1) (N := 14) hx hb hW iPL hown hK hP 0 rfl rfl 0 (by decide) (hW _ tw_44) (fun _ h9 => h9) rfl dX1_nodeInto_36 ?_
  refine lv_aload_n hx hb dX1_nodeInto_39 rfl (lv_at hl 3 rfl) ?_
  refine mv_callV (C := RX0) (As := [.ref (ad t)]) (rest := []) ⟨hx, hb, hml, hown, hW⟩ (C_finishInto ((P_first b 32 (P_first a 32 (P_take (nI 1) (0, mem)))).1) t (by rw [e3]; decide) (h.2.2.1) (h.2.2.2) ((P_first b 32 (P_first a 32 (P_take (nI 1) (0, mem)))).2)) gE_ok (cwV 1 hW (gV tw_203 tw_204 tw_205 tw_2 tw_206) rfl rfl rfl (by decide +kernel) ⟨Nat.le_of_ble_eq_true rfl, Nat.le_of_ble_eq_true rfl⟩) (va_recv hK hP (ci := 1) (q0 := 1) rfl rfl) hP hD hK hS hA hT rfl hl.1 rfl (Nat.le_of_ble_eq_true rfl) dX1_nodeInto_40 ⟨Nat.zero_le _, Nat.zero_le _⟩ (fun H locs hP hD hS => ?_)
  have hP : va_P D vwCl (wC o ad cI cZ cG tl lc wc dc pn (nI (P_fin t (P_first b 32 (P_first a 32 (P_take (nI 1) (0, mem))))).1) isw ((P_fin t (P_first b 32 (P_first a 32 (P_take (nI 1) (0, mem))))).2)) H := hP
  have hD : va_D A (wC o ad cI cZ cG tl lc wc dc pn (nI (P_fin t (P_first b 32 (P_first a 32 (P_take (nI 1) (0, mem))))).1) isw ((P_fin t (P_first b 32 (P_first a 32 (P_take (nI 1) (0, mem))))).2)) := hD
  have hP : va_P D vwCl (wC o ad cI cZ cG tl lc wc dc pn (nI (p_node a b t mem).1) isw ((p_node a b t mem).2)) H := by rw [p_node_e]; exact hP
  have hD : va_D A (wC o ad cI cZ cG tl lc wc dc pn (nI (p_node a b t mem).1) isw ((p_node a b t mem).2)) := by rw [p_node_e]; exact hD
  exact mv_ret hx hb hr hlk hS hP hD dX1_nodeInto_43
set_option maxHeartbeats 4000000 in
set_option maxRecDepth 100000 in
/-- keyedInto(key, arrays d, t) -/
theorem c_keyedInto {l : Launch} {D : va_G} {o ad : Nat → Nat} {cI cZ cG : ClassId} {tl lc wc dc pn : Int32} {isw : Nat → Int32} (d t : Nat) (h : (d < 71 ∧ lenC d = 32) ∧ (t < 71 ∧ lenC t = 32)) (n : Nat) (mem : Nat → Nat → Int32) (key : Int64) : MV l gE yX1_keyedInto (.code yX1_keyedInto cX1_keyedInto 5 none :: tW) ({ frames := 3, cells := 0, slots := 0, locals := 128 }) D vwCl (tC cI cZ cG) [.ref (o 0), .long key, .ref (ad d), .ref (ad t)] (wC o ad cI cZ cG tl lc wc dc pn (nI n) isw mem) (wC o ad cI cZ cG tl lc wc dc pn (nI (p_keyed key d t mem).1) isw ((p_keyed key d t mem).2)) := by
  refine MV.ofW (by decide +kernel) rfl (Nat.le_of_ble_eq_true rfl) ?_
  intro p e s m below meth c A ls hx hb hr hts hown hlk hml hA hP hK hD hT hl
  have hS : va_S A s.heap s.heap [] := va_S.rf
  have hown : s.vm.findClass RX1 = some m.cls := hown
  have hW : ∀ w ∈ tW, w.before _ s = true := fun w h => hts w (List.mem_cons_of_mem _ h)
  have hl : lv_has ls 5 [(0, .ref (o 0)), (1, .long key), (3, .ref (ad d)), (4, .ref (ad t))] := hl
  have e1 : (P_long key (0, mem)).1 = 8 := P_long_fst _ _ (show 0 + 8 ≤ 256 by decide)
  have e3 : (P_first d 32 (P_long key (0, mem))).1 = 40 := by rw [P_first_fst d 32 _ (by omega), e1]
  refine lv_aload_n hx hb dX1_keyedInto_0 rfl (lv_at hl 0 rfl) ?_
  refine va_get (D := D) (ci := 0) (v := .ref (o 1)) (C := RX1) (T := TX1) (N := 14) hx hb hW iPL hown hK hP 0 rfl rfl 0 (by decide) (hW _ tw_44) (fun _ h9 => h9) rfl dX1_keyedInto_1 ?_
  refine mv_callV (C := RX0) (As := []) (rest := []) ⟨hx, hb, hml, hown, hW⟩ (c_begin n mem) gE_ok (cwV 0 hW (gV tw_190 tw_191 tw_192 tw_2 tw_193) rfl rfl rfl (by decide +kernel) ⟨Nat.le_of_ble_eq_true rfl, Nat.le_of_ble_eq_true rfl⟩) (va_recv hK hP (ci := 1) (q0 := 1) rfl rfl) hP hD hK hS hA hT rfl hl.1 rfl (Nat.le_of_ble_eq_true rfl) dX1_keyedInto_4 ⟨Nat.zero_le _, Nat.zero_le _⟩ (fun H locs hP hD hS => ?_)
  have hP : va_P D vwCl (wC o ad cI cZ cG tl lc wc dc pn (nI 0) isw mem) H := hP
  have hD : va_D A (wC o ad cI cZ cG tl lc wc dc pn (nI 0) isw mem) := hD
  refine lv_aload_n hx hb dX1_keyedInto_7 rfl (lv_at hl 0 rfl) ?_
  refine va_get (D := D) (ci := 0) (v := .ref (o 1)) (C := RX1) (T := TX1) (N := 14) hx hb hW iPL hown hK hP 0 rfl rfl 0 (by decide) (hW _ tw_44) (fun _ h9 => h9) rfl dX1_keyedInto_8 ?_
  refine lv_lload_n hx hb dX1_keyedInto_11 rfl (lv_at hl 1 rfl) ?_
  refine mv_callV (C := RX0) (As := [.long key]) (rest := []) ⟨hx, hb, hml, hown, hW⟩ (C_takeLong 0 (by decide) mem key) gE_ok (cwV 1 hW (gV tw_436 tw_212 tw_213 tw_2 tw_214) rfl rfl rfl (by decide +kernel) ⟨Nat.le_of_ble_eq_true rfl, Nat.le_of_ble_eq_true rfl⟩) (va_recv hK hP (ci := 1) (q0 := 1) rfl rfl) hP hD hK hS hA hT rfl hl.1 rfl (Nat.le_of_ble_eq_true rfl) dX1_keyedInto_12 ⟨Nat.zero_le _, Nat.zero_le _⟩ (fun H locs hP hD hS => ?_)
  have hP : va_P D vwCl (wC o ad cI cZ cG tl lc wc dc pn (nI (P_long key (0, mem)).1) isw ((P_long key (0, mem)).2)) H := hP
  have hD : va_D A (wC o ad cI cZ cG tl lc wc dc pn (nI (P_long key (0, mem)).1) isw ((P_long key (0, mem)).2)) := hD
  refine lv_aload_n hx hb dX1_keyedInto_15 rfl (lv_at hl 0 rfl) ?_
  refine va_get (D := D) (ci := 0) (v := .ref (o 1)) (C := RX1) (T := TX1) (N := 14) hx hb hW iPL hown hK hP 0 rfl rfl 0 (by decide) (hW _ tw_44) (fun _ h9 => h9) rfl dX1_keyedInto_16 ?_
  refine lv_aload_n hx hb dX1_keyedInto_19 rfl (lv_at hl 2 rfl) ?_
  refine lv_bipush (v := nI 32) hx hb dX1_keyedInto_20 (by decide) ?_
  refine mv_callV (C := RX0) (As := [.ref (ad d), .int (nI 32)]) (rest := []) ⟨hx, hb, hml, hown, hW⟩ (C_takeFirst ((P_long key (0, mem)).1) 32 d (by rw [e1]; decide) (by have := h.1.2; omega) (h.1.1) ((P_long key (0, mem)).2)) gE_ok (cwV 2 hW (gV tw_198 tw_199 tw_200 tw_2 tw_201) rfl rfl rfl (by decide +kernel) ⟨Nat.le_of_ble_eq_true rfl, Nat.le_of_ble_eq_true rfl⟩) (va_recv hK hP (ci := 1) (q0 := 1) rfl rfl) hP hD hK hS hA hT rfl hl.1 rfl (Nat.le_of_ble_eq_true rfl) dX1_keyedInto_22 ⟨Nat.zero_le _, Nat.zero_le _⟩ (fun H locs hP hD hS => ?_)
  have hP : va_P D vwCl (wC o ad cI cZ cG tl lc wc dc pn (nI (P_first d 32 (P_long key (0, mem))).1) isw ((P_first d 32 (P_long key (0, mem))).2)) H := hP
  have hD : va_D A (wC o ad cI cZ cG tl lc wc dc pn (nI (P_first d 32 (P_long key (0, mem))).1) isw ((P_first d 32 (P_long key (0, mem))).2)) := hD
  refine lv_aload_n hx hb dX1_keyedInto_25 rfl (lv_at hl 0 rfl) ?_
  refine va_get (D := D) (ci := 0) (v := .ref (o 1)) (C := RX1) (T := TX1) (N := 14) hx hb hW iPL hown hK hP 0 rfl rfl 0 (by decide) (hW _ tw_44) (fun _ h9 => h9) rfl dX1_keyedInto_26 ?_
  refine lv_aload hx hb dX1_keyedInto_29 (lv_at hl 3 rfl) ?_
  refine mv_callV (C := RX0) (As := [.ref (ad t)]) (rest := []) ⟨hx, hb, hml, hown, hW⟩ (C_finishInto ((P_first d 32 (P_long key (0, mem))).1) t (by rw [e3]; decide) (h.2.1) (h.2.2) ((P_first d 32 (P_long key (0, mem))).2)) gE_ok (cwV 1 hW (gV tw_203 tw_204 tw_205 tw_2 tw_206) rfl rfl rfl (by decide +kernel) ⟨Nat.le_of_ble_eq_true rfl, Nat.le_of_ble_eq_true rfl⟩) (va_recv hK hP (ci := 1) (q0 := 1) rfl rfl) hP hD hK hS hA hT rfl hl.1 rfl (Nat.le_of_ble_eq_true rfl) dX1_keyedInto_31 ⟨Nat.zero_le _, Nat.zero_le _⟩ (fun H locs hP hD hS => ?_)
  have hP : va_P D vwCl (wC o ad cI cZ cG tl lc wc dc pn (nI (P_fin t (P_first d 32 (P_long key (0, mem)))).1) isw ((P_fin t (P_first d 32 (P_long key (0, mem)))).2)) H := hP
  have hD : va_D A (wC o ad cI cZ cG tl lc wc dc pn (nI (P_fin t (P_first d 32 (P_long key (0, mem)))).1) isw ((P_fin t (P_first d 32 (P_long key (0, mem)))).2)) := hD
  have hP : va_P D vwCl (wC o ad cI cZ cG tl lc wc dc pn (nI (p_keyed key d t mem).1) isw ((p_keyed key d t mem).2)) H := by rw [p_keyed_e]; exact hP
  have hD : va_D A (wC o ad cI cZ cG tl lc wc dc pn (nI (p_keyed key d t mem).1) isw ((p_keyed key d t mem).2)) := by rw [p_keyed_e]; exact hD
  exact mv_ret hx hb hr hlk hS hP hD dX1_keyedInto_34
set_option maxHeartbeats 4000000 in
set_option maxRecDepth 100000 in
/-- layLeaves(q) -/
theorem c_layLeaves {l : Launch} {D : va_G} {o ad : Nat → Nat} {cI cZ cG : ClassId} {tl lc wc dc pn : Int32} {isw : Nat → Int32} (q : Nat) (hq : q ≤ 24) (sl : Int32) (mem : Nat → Nat → Int32) : MV l gE yX1_layLeaves (.code yX1_layLeaves cX1_layLeaves 3 none :: tW) ({ frames := 2, cells := 0, slots := 0, locals := 96 }) D vwCl (tC cI cZ cG) [.ref (o 0), .int (nI q)] (wC o ad cI cZ cG tl lc wc dc pn sl isw mem) (wC o ad cI cZ cG tl lc wc dc pn sl isw (p_lay q mem)) := by
  refine MV.ofW (by decide +kernel) rfl (Nat.le_of_ble_eq_true rfl) ?_
  intro p e s m below meth c A ls hx hb hr hts hown hlk hml hA hP hK hD hT hl
  have hS : va_S A s.heap s.heap [] := va_S.rf
  have hown : s.vm.findClass RX1 = some m.cls := hown
  have hW : ∀ w ∈ tW, w.before _ s = true := fun w h => hts w (List.mem_cons_of_mem _ h)
  have hl : lv_has ls 3 [(0, .ref (o 0)), (1, .int (nI q))] := hl
  have loop : ∀ (k i : Nat) (H : Heap) (locs : List Loc) (ls : Array Slot), i + k = q → va_P D vwCl (wC o ad cI cZ cG tl lc wc dc pn sl isw (p_lay i mem)) H → va_D A (wC o ad cI cZ cG tl lc wc dc pn sl isw (p_lay i mem)) → va_S A s.heap H locs → lv_has ls 3 [(0, .ref (o 0)), (1, .int (nI q)), (2, .int (nI i))] → W p l e ({ frames := 2, cells := 0, slots := 0, locals := 96 }) s m ([.ref (o 0), .int (nI q)] : List Value).toArray below meth c H locs 0 0 (MQ below (xQv D vwCl (wC o ad cI cZ cG tl lc wc dc pn sl isw (p_lay q mem)) A) ([.ref (o 0), .int (nI q)] : List Value).toArray s 0 0 A) (F0 m 2 ls []) := by
    intro k
    induction k with
    | zero =>
      intro i H locs ls hk hP hD hS hl
      have hk : i = q := by omega
      rw [hk] at hP hD
      refine lv_iload_n hx hb dX1_layLeaves_2 rfl (lv_at hl 2 rfl) ?_
      refine lv_iload_n hx hb dX1_layLeaves_3 rfl (lv_at hl 1 rfl) ?_
      refine lv_icmp_ge (tgt := 28) hx hb dX1_layLeaves_4 (by decide) (fun hc => ?_) (fun hc => ?_)
      · have hP : va_P D vwCl (wC o ad cI cZ cG tl lc wc dc pn sl isw (p_lay q mem)) H := by exact hP
        have hD : va_D A (wC o ad cI cZ cG tl lc wc dc pn sl isw (p_lay q mem)) := by exact hD
        exact mv_ret hx hb hr hlk hS hP hD dX1_layLeaves_28
      · exact absurd (nI_le (by omega) (by omega)) hc
    | succ k ih =>
      intro i H locs ls hk hP hD hS hl
      refine lv_iload_n hx hb dX1_layLeaves_2 rfl (lv_at hl 2 rfl) ?_
      refine lv_iload_n hx hb dX1_layLeaves_3 rfl (lv_at hl 1 rfl) ?_
      refine lv_icmp_ge (tgt := 28) hx hb dX1_layLeaves_4 (by decide) (fun hc => ?_) (fun hc => ?_)
      · exact absurd hc (nI_ge (by omega) (by omega))
      · refine lv_aload_n hx hb dX1_layLeaves_7 rfl (lv_at hl 0 rfl) ?_
        refine va_get (D := D) (ci := 0) (v := .ref (o 2)) (C := RX1) (T := TX1) (N := 14) hx hb hW iPL hown hK hP 0 rfl rfl 3 (by decide) (hW _ tw_47) (fun _ h9 => h9) rfl dX1_layLeaves_8 ?_
        refine lv_iload_n hx hb dX1_layLeaves_11 rfl (lv_at hl 2 rfl) ?_
        refine m_row hx hb hK hP 2 2 i rfl rfl (by omega) (by decide) rfl dX1_layLeaves_12 ?_
        refine lv_aload_n hx hb dX1_layLeaves_13 rfl (lv_at hl 0 rfl) ?_
        refine va_get (D := D) (ci := 0) (v := .ref (o 5)) (C := RX1) (T := TX1) (N := 14) hx hb hW iPL hown hK hP 0 rfl rfl 12 (by decide) (hW _ tw_56) (fun _ h9 => h9) rfl dX1_layLeaves_14 ?_
        refine lv_iload_n hx hb dX1_layLeaves_17 rfl (lv_at hl 2 rfl) ?_
        refine m_row hx hb hK hP 5 2 i rfl rfl (by omega) (by decide) rfl dX1_layLeaves_18 ?_
        refine mv_callS (As := [.ref (ad (6 + i)), .ref (ad (47 + i))]) (rest := []) ⟨hx, hb, hml, hown, hW⟩ (c_copyDigest (6 + i) (47 + i) (by omega) (by omega) (lenC_row (by omega)) (lenC_row (by omega)) sl (p_lay i mem)) gE_ok (va_cwS 2 hW (gS tw_249 tw_250 tw_1 tw_251) rfl rfl rfl (by decide +kernel) ⟨Nat.le_of_ble_eq_true rfl, Nat.le_of_ble_eq_true rfl⟩) hP hD hK hS hA hT rfl hl.1 rfl (Nat.le_of_ble_eq_true rfl) dX1_layLeaves_19 ⟨Nat.zero_le _, Nat.zero_le _⟩ (fun H locs hP hD hS => ?_)
        have hP : va_P D vwCl (wC o ad cI cZ cG tl lc wc dc pn sl isw (p_copy (6 + i) (47 + i) (p_lay i mem))) H := hP
        have hD : va_D A (wC o ad cI cZ cG tl lc wc dc pn sl isw (p_copy (6 + i) (47 + i) (p_lay i mem))) := hD
        have hP : va_P D vwCl (wC o ad cI cZ cG tl lc wc dc pn sl isw (p_lay (i + 1) mem)) H := by rw [p_lay_s]; exact hP
        have hD : va_D A (wC o ad cI cZ cG tl lc wc dc pn sl isw (p_lay (i + 1) mem)) := by rw [p_lay_s]; exact hD
        refine lv_iinc (v := nI (i + 1)) (lv' := [(2, .int (nI (i + 1))), (0, .ref (o 0)), (1, .int (nI q))]) hx hb dX1_layLeaves_22 hl (k := 2) rfl (nI_1 i) (by decide) rfl (fun ls hl => ?_)
        refine lv_goto (tgt := 2) hx hb dX1_layLeaves_25 (by decide) ?_
        exact ih (i + 1) H locs ls (by omega) hP hD hS (lv_sub hl [1, 2, 0] rfl)
  refine lv_iconst (v := nI 0) hx hb dX1_layLeaves_0 (by decide) ?_
  refine lv_istore_n (lv' := [(2, .int (nI 0)), (0, .ref (o 0)), (1, .int (nI q))]) hx hb dX1_layLeaves_1 rfl hl (by decide) rfl (fun ls hl => ?_)
  exact loop q 0 s.heap [] ls (by omega) hP hD hS (lv_sub hl [1, 2, 0] rfl)
set_option maxHeartbeats 4000000 in
set_option maxRecDepth 100000 in
/-- foldLevel(q) -/
theorem c_foldLevel {l : Launch} {D : va_G} {o ad : Nat → Nat} {cI cZ cG : ClassId} {tl lc wc dc pn : Int32} {isw : Nat → Int32} (q : Nat) (hq : q ≤ 24) (hq2 : 2 ≤ q) (n : Nat) (mem : Nat → Nat → Int32) : MV l gE yX1_foldLevel (.code yX1_foldLevel cX1_foldLevel 3 none :: tW) ({ frames := 4, cells := 0, slots := 0, locals := 160 }) D vwCl (tC cI cZ cG) [.ref (o 0), .int (nI q)] (wC o ad cI cZ cG tl lc wc dc pn (nI n) isw mem) (wC o ad cI cZ cG tl lc wc dc pn (nI (p_fold q (n, mem)).1) isw ((p_fold q (n, mem)).2)) := by
  refine MV.ofW (by decide +kernel) rfl (Nat.le_of_ble_eq_true rfl) ?_
  intro p e s m below meth c A ls hx hb hr hts hown hlk hml hA hP hK hD hT hl
  have hS : va_S A s.heap s.heap [] := va_S.rf
  have hown : s.vm.findClass RX1 = some m.cls := hown
  have hW : ∀ w ∈ tW, w.before _ s = true := fun w h => hts w (List.mem_cons_of_mem _ h)
  have hl : lv_has ls 3 [(0, .ref (o 0)), (1, .int (nI q))] := hl
  have loop : ∀ (k i : Nat) (H : Heap) (locs : List Loc) (ls : Array Slot), i + k = q / 2 → va_P D vwCl (wC o ad cI cZ cG tl lc wc dc pn (nI (itr (fun j z => p_node (47 + 2 * j) (47 + (2 * j + 1)) (47 + j) z.2) i (n, mem)).1) isw ((itr (fun j z => p_node (47 + 2 * j) (47 + (2 * j + 1)) (47 + j) z.2) i (n, mem)).2)) H → va_D A (wC o ad cI cZ cG tl lc wc dc pn (nI (itr (fun j z => p_node (47 + 2 * j) (47 + (2 * j + 1)) (47 + j) z.2) i (n, mem)).1) isw ((itr (fun j z => p_node (47 + 2 * j) (47 + (2 * j + 1)) (47 + j) z.2) i (n, mem)).2)) → va_S A s.heap H locs → lv_has ls 3 [(0, .ref (o 0)), (1, .int (nI q)), (2, .int (nI (2 * i)))] → W p l e ({ frames := 4, cells := 0, slots := 0, locals := 160 }) s m ([.ref (o 0), .int (nI q)] : List Value).toArray below meth c H locs 0 0 (MQ below (xQv D vwCl (wC o ad cI cZ cG tl lc wc dc pn (nI (p_fold q (n, mem)).1) isw ((p_fold q (n, mem)).2)) A) ([.ref (o 0), .int (nI q)] : List Value).toArray s 0 0 A) (F0 m 2 ls []) := by
    intro k
    induction k with
    | zero =>
      intro i H locs ls hk hP hD hS hl
      have hk : i = q / 2 := by omega
      rw [hk] at hP hD
      refine lv_iload_n hx hb dX1_foldLevel_2 rfl (lv_at hl 2 rfl) ?_
      refine lv_iconst (v := nI 1) hx hb dX1_foldLevel_3 (by decide) ?_
      refine lv_iadd hx hb dX1_foldLevel_4 ?_
      refine lv_eqi (v := nI (2 * i + 1)) (nI_add (2 * i) 1) ?_
      refine lv_iload_n hx hb dX1_foldLevel_5 rfl (lv_at hl 1 rfl) ?_
      refine lv_icmp_ge (tgt := 41) hx hb dX1_foldLevel_6 (by decide) (fun hc => ?_) (fun hc => ?_)
      · refine lv_iload_n hx hb dX1_foldLevel_41 rfl (lv_at hl 1 rfl) ?_
        refine lv_iconst (v := nI 2) hx hb dX1_foldLevel_42 (by decide) ?_
        refine lv_irem hx hb dX1_foldLevel_43 (by decide) ?_
        refine lv_eqi (v := nI (q % 2)) (pk_rem (by omega) (by decide) (by decide)) ?_
        refine lv_iconst (v := nI 1) hx hb dX1_foldLevel_44 (by decide) ?_
        refine lv_icmp_ne (tgt := 67) hx hb dX1_foldLevel_45 (by decide) (fun hd => ?_) (fun hd => ?_)
        · have e1 : p_fold q (n, mem) = itr (fun j z => p_node (47 + 2 * j) (47 + (2 * j + 1)) (47 + j) z.2) (q / 2) (n, mem) := if_neg (fun h => hd (by rw [h]))
          have hP : va_P D vwCl (wC o ad cI cZ cG tl lc wc dc pn (nI (p_fold q (n, mem)).1) isw ((p_fold q (n, mem)).2)) H := by rw [e1]; exact hP
          have hD : va_D A (wC o ad cI cZ cG tl lc wc dc pn (nI (p_fold q (n, mem)).1) isw ((p_fold q (n, mem)).2)) := by rw [e1]; exact hD
          exact mv_ret hx hb hr hlk hS hP hD dX1_foldLevel_67
        · have h1 : q % 2 = 1 := (nI_eq (by omega) (by decide)).mp hd
          have e1 : p_fold q (n, mem) = ((itr (fun j z => p_node (47 + 2 * j) (47 + (2 * j + 1)) (47 + j) z.2) (q / 2) (n, mem)).1, p_copy (47 + (q - 1)) (47 + q / 2) (itr (fun j z => p_node (47 + 2 * j) (47 + (2 * j + 1)) (47 + j) z.2) (q / 2) (n, mem)).2) := if_pos h1
          refine lv_aload_n hx hb dX1_foldLevel_48 rfl (lv_at hl 0 rfl) ?_
          refine va_get (D := D) (ci := 0) (v := .ref (o 5)) (C := RX1) (T := TX1) (N := 14) hx hb hW iPL hown hK hP 0 rfl rfl 12 (by decide) (hW _ tw_56) (fun _ h9 => h9) rfl dX1_foldLevel_49 ?_
          refine lv_iload_n hx hb dX1_foldLevel_52 rfl (lv_at hl 1 rfl) ?_
          refine lv_iconst (v := nI 1) hx hb dX1_foldLevel_53 (by decide) ?_
          refine lv_isub hx hb dX1_foldLevel_54 ?_
          refine lv_eqi (v := nI (q - 1)) (pk_sub (by omega)) ?_
          refine m_row hx hb hK hP 5 2 (q - 1) rfl rfl (by omega) (by decide) rfl dX1_foldLevel_55 ?_
          refine lv_aload_n hx hb dX1_foldLevel_56 rfl (lv_at hl 0 rfl) ?_
          refine va_get (D := D) (ci := 0) (v := .ref (o 5)) (C := RX1) (T := TX1) (N := 14) hx hb hW iPL hown hK hP 0 rfl rfl 12 (by decide) (hW _ tw_56) (fun _ h9 => h9) rfl dX1_foldLevel_57 ?_
          refine lv_iload_n hx hb dX1_foldLevel_60 rfl (lv_at hl 1 rfl) ?_
          refine lv_iconst (v := nI 2) hx hb dX1_foldLevel_61 (by decide) ?_
          refine lv_idiv hx hb dX1_foldLevel_62 (by decide) ?_
          refine lv_eqi (v := nI (q / 2)) (pk_div (by omega) (by decide) (by decide)) ?_
          refine m_row hx hb hK hP 5 2 (q / 2) rfl rfl (by omega) (by decide) rfl dX1_foldLevel_63 ?_
          refine mv_callS (As := [.ref (ad (47 + (q - 1))), .ref (ad (47 + (q / 2)))]) (rest := []) ⟨hx, hb, hml, hown, hW⟩ (c_copyDigest (47 + (q - 1)) (47 + (q / 2)) (by omega) (by omega) (lenC_row (by omega)) (lenC_row (by omega)) (nI (itr (fun j z => p_node (47 + 2 * j) (47 + (2 * j + 1)) (47 + j) z.2) (q / 2) (n, mem)).1) ((itr (fun j z => p_node (47 + 2 * j) (47 + (2 * j + 1)) (47 + j) z.2) (q / 2) (n, mem)).2)) gE_ok (va_cwS 2 hW (gS tw_249 tw_250 tw_1 tw_251) rfl rfl rfl (by decide +kernel) ⟨Nat.le_of_ble_eq_true rfl, Nat.le_of_ble_eq_true rfl⟩) hP hD hK hS hA hT rfl hl.1 rfl (Nat.le_of_ble_eq_true rfl) dX1_foldLevel_64 ⟨Nat.zero_le _, Nat.zero_le _⟩ (fun H locs hP hD hS => ?_)
          have hP : va_P D vwCl (wC o ad cI cZ cG tl lc wc dc pn (nI (itr (fun j z => p_node (47 + 2 * j) (47 + (2 * j + 1)) (47 + j) z.2) (q / 2) (n, mem)).1) isw (p_copy (47 + (q - 1)) (47 + (q / 2)) ((itr (fun j z => p_node (47 + 2 * j) (47 + (2 * j + 1)) (47 + j) z.2) (q / 2) (n, mem)).2))) H := hP
          have hD : va_D A (wC o ad cI cZ cG tl lc wc dc pn (nI (itr (fun j z => p_node (47 + 2 * j) (47 + (2 * j + 1)) (47 + j) z.2) (q / 2) (n, mem)).1) isw (p_copy (47 + (q - 1)) (47 + (q / 2)) ((itr (fun j z => p_node (47 + 2 * j) (47 + (2 * j + 1)) (47 + j) z.2) (q / 2) (n, mem)).2))) := hD
          have hP : va_P D vwCl (wC o ad cI cZ cG tl lc wc dc pn (nI (p_fold q (n, mem)).1) isw ((p_fold q (n, mem)).2)) H := by rw [e1]; exact hP
          have hD : va_D A (wC o ad cI cZ cG tl lc wc dc pn (nI (p_fold q (n, mem)).1) isw ((p_fold q (n, mem)).2)) := by rw [e1]; exact hD
          exact mv_ret hx hb hr hlk hS hP hD dX1_foldLevel_67
      · exact absurd (nI_le (by omega) (by omega)) hc
    | succ k ih =>
      intro i H locs ls hk hP hD hS hl
      refine lv_iload_n hx hb dX1_foldLevel_2 rfl (lv_at hl 2 rfl) ?_
      refine lv_iconst (v := nI 1) hx hb dX1_foldLevel_3 (by decide) ?_
      refine lv_iadd hx hb dX1_foldLevel_4 ?_
      refine lv_eqi (v := nI (2 * i + 1)) (nI_add (2 * i) 1) ?_
      refine lv_iload_n hx hb dX1_foldLevel_5 rfl (lv_at hl 1 rfl) ?_
      refine lv_icmp_ge (tgt := 41) hx hb dX1_foldLevel_6 (by decide) (fun hc => ?_) (fun hc => ?_)
      · exact absurd hc (nI_ge (by omega) (by omega))
      · refine lv_aload_n hx hb dX1_foldLevel_9 rfl (lv_at hl 0 rfl) ?_
        refine lv_aload_n hx hb dX1_foldLevel_10 rfl (lv_at hl 0 rfl) ?_
        refine va_get (D := D) (ci := 0) (v := .ref (o 5)) (C := RX1) (T := TX1) (N := 14) hx hb hW iPL hown hK hP 0 rfl rfl 12 (by decide) (hW _ tw_56) (fun _ h9 => h9) rfl dX1_foldLevel_11 ?_
        refine lv_iload_n hx hb dX1_foldLevel_14 rfl (lv_at hl 2 rfl) ?_
        refine m_row hx hb hK hP 5 2 (2 * i) rfl rfl (by omega) (by decide) rfl dX1_foldLevel_15 ?_
        refine lv_aload_n hx hb dX1_foldLevel_16 rfl (lv_at hl 0 rfl) ?_
        refine va_get (D := D) (ci := 0) (v := .ref (o 5)) (C := RX1) (T := TX1) (N := 14) hx hb hW iPL hown hK hP 0 rfl rfl 12 (by decide) (hW _ tw_56) (fun _ h9 => h9) rfl dX1_foldLevel_17 ?_
        refine lv_iload_n hx hb dX1_foldLevel_20 rfl (lv_at hl 2 rfl) ?_
        refine lv_iconst (v := nI 1) hx hb dX1_foldLevel_21 (by decide) ?_
        refine lv_iadd hx hb dX1_foldLevel_22 ?_
        refine lv_eqi (v := nI (2 * i + 1)) (nI_add (2 * i) 1) ?_
        refine m_row hx hb hK hP 5 2 (2 * i + 1) rfl rfl (by omega) (by decide) rfl dX1_foldLevel_23 ?_
        refine lv_aload_n hx hb dX1_foldLevel_24 rfl (lv_at hl 0 rfl) ?_
        refine va_get (D := D) (ci := 0) (v := .ref (o 5)) (C := RX1) (T := TX1) (N := 14) hx hb hW iPL hown hK hP 0 rfl rfl 12 (by decide) (hW _ tw_56) (fun _ h9 => h9) rfl dX1_foldLevel_25 ?_
        refine lv_iload_n hx hb dX1_foldLevel_28 rfl (lv_at hl 2 rfl) ?_
        refine lv_iconst (v := nI 2) hx hb dX1_foldLevel_29 (by decide) ?_
        refine lv_idiv hx hb dX1_foldLevel_30 (by decide) ?_
        refine lv_eqi (v := nI i) ((pk_div (by omega) (by decide) (by decide)).trans (congrArg nI (by omega))) ?_
        refine m_row hx hb hK hP 5 2 i rfl rfl (by omega) (by decide) rfl dX1_foldLevel_31 ?_
        refine mv_callV (C := RX1) (As := [.ref (ad (47 + (2 * i))), .ref (ad (47 + (2 * i + 1))), .ref (ad (47 + i))]) (rest := []) ⟨hx, hb, hml, hown, hW⟩ (c_nodeInto (47 + (2 * i)) (47 + (2 * i + 1)) (47 + i) (⟨⟨by omega, lenC_row (by omega)⟩, ⟨by omega, lenC_row (by omega)⟩, ⟨by omega, lenC_row (by omega)⟩⟩) ((itr (fun j z => p_node (47 + 2 * j) (47 + (2 * j + 1)) (47 + j) z.2) i (n, mem)).1) ((itr (fun j z => p_node (47 + 2 * j) (47 + (2 * j + 1)) (47 + j) z.2) i (n, mem)).2)) gE_ok (cwV 3 hW (gV tw_257 tw_259 tv_X1_nodeInto tw_1 tw_260) rfl rfl rfl (by decide +kernel) ⟨Nat.le_of_ble_eq_true rfl, Nat.le_of_ble_eq_true rfl⟩) (va_recv hK hP (ci := 0) (q0 := 0) rfl rfl) hP hD hK hS hA hT rfl hl.1 rfl (Nat.le_of_ble_eq_true rfl) dX1_foldLevel_32 ⟨Nat.zero_le _, Nat.zero_le _⟩ (fun H locs hP hD hS => ?_)
        have hP : va_P D vwCl (wC o ad cI cZ cG tl lc wc dc pn (nI (p_node (47 + (2 * i)) (47 + (2 * i + 1)) (47 + i) ((itr (fun j z => p_node (47 + 2 * j) (47 + (2 * j + 1)) (47 + j) z.2) i (n, mem)).2)).1) isw ((p_node (47 + (2 * i)) (47 + (2 * i + 1)) (47 + i) ((itr (fun j z => p_node (47 + 2 * j) (47 + (2 * j + 1)) (47 + j) z.2) i (n, mem)).2)).2)) H := hP
        have hD : va_D A (wC o ad cI cZ cG tl lc wc dc pn (nI (p_node (47 + (2 * i)) (47 + (2 * i + 1)) (47 + i) ((itr (fun j z => p_node (47 + 2 * j) (47 + (2 * j + 1)) (47 + j) z.2) i (n, mem)).2)).1) isw ((p_node (47 + (2 * i)) (47 + (2 * i + 1)) (47 + i) ((itr (fun j z => p_node (47 + 2 * j) (47 + (2 * j + 1)) (47 + j) z.2) i (n, mem)).2)).2)) := hD
        have hP : va_P D vwCl (wC o ad cI cZ cG tl lc wc dc pn (nI (itr (fun j z => p_node (47 + 2 * j) (47 + (2 * j + 1)) (47 + j) z.2) (i + 1) (n, mem)).1) isw ((itr (fun j z => p_node (47 + 2 * j) (47 + (2 * j + 1)) (47 + j) z.2) (i + 1) (n, mem)).2)) H := by rw [itr_s]; exact hP
        have hD : va_D A (wC o ad cI cZ cG tl lc wc dc pn (nI (itr (fun j z => p_node (47 + 2 * j) (47 + (2 * j + 1)) (47 + j) z.2) (i + 1) (n, mem)).1) isw ((itr (fun j z => p_node (47 + 2 * j) (47 + (2 * j + 1)) (47 + j) z.2) (i + 1) (n, mem)).2)) := by rw [itr_s]; exact hD
        refine lv_iinc (v := nI (2 * (i + 1))) (lv' := [(2, .int (nI (2 * (i + 1)))), (0, .ref (o 0)), (1, .int (nI q))]) hx hb dX1_foldLevel_35 hl (k := 2) rfl (nI_add (2 * i) 2) (by decide) rfl (fun ls hl => ?_)
        refine lv_goto (tgt := 2) hx hb dX1_foldLevel_38 (by decide) ?_
        exact ih (i + 1) H locs ls (by omega) hP hD hS (lv_sub hl [1, 2, 0] rfl)
  refine lv_iconst (v := nI 0) hx hb dX1_foldLevel_0 (by decide) ?_
  refine lv_istore_n (lv' := [(2, .int (nI 0)), (0, .ref (o 0)), (1, .int (nI q))]) hx hb dX1_foldLevel_1 rfl hl (by decide) rfl (fun ls hl => ?_)
  exact loop (q / 2) 0 s.heap [] ls (by omega) hP hD hS (lv_sub hl [1, 2, 0] rfl)
end
section
set_option maxHeartbeats 1000000 in
set_option maxRecDepth 100000 in
/-- treeInto(q, array t) -/
theorem c_treeInto {l : Launch} {D : va_G} {o ad : Nat → Nat} {cI cZ cG : ClassId} {tl lc wc dc pn : Int32} {isw : Nat → Int32} (q t : Nat) (hq : q ≤ 24) (ht : t < 71) (l1 : lenC t = 32) (n : Nat) (mem : Nat → Nat → Int32) : MV l gE yX1_treeInto (.code yX1_treeInto cX1_treeInto 4 none :: tW) ({ frames := 5, cells := 0, slots := 0, locals := 192 }) D vwCl (tC cI cZ cG) [.ref (o 0), .int (nI q), .ref (ad t)] (wC o ad cI cZ cG tl lc wc dc pn (nI n) isw mem) (wC o ad cI cZ cG tl lc wc dc pn (nI (p_tree q t (n, mem)).1) isw ((p_tree q t (n, mem)).2)) := by
  refine MV.ofW (by decide +kernel) rfl (Nat.le_of_ble_eq_true rfl) ?_
  intro p e s m below meth c A ls hx hb hr hts hown hlk hml hA hP hK hD hT hl
  have hS : va_S A s.heap s.heap [] := va_S.rf
  have hown : s.vm.findClass RX1 = some m.cls := hown
  have hW : ∀ w ∈ tW, w.before _ s = true := fun w h => hts w (List.mem_cons_of_mem _ h)
  have hl : lv_has ls 4 [(0, .ref (o 0)), (1, .int (nI q)), (2, .ref (ad t))] := hl
  refine lv_iload_n hx hb dX1_treeInto_0 rfl (lv_at hl 1 rfl) ?_
  refine lv_iconst (v := nI 1) hx hb dX1_treeInto_1 (by decide) ?_
  refine lv_icmp_ge (tgt := 21) hx hb dX1_treeInto_2 (by decide) (fun hc => ?_) (fun hc => ?_)
  · have h1 : ¬ q < 1 := fun h => nI_ge h (by decide) hc
    have e1 : p_tree q t (n, mem) = ((p_up q q (n, p_lay q mem)).1, p_copy 47 t (p_up q q (n, p_lay q mem)).2) := if_neg h1
    have loop : ∀ (k i : Nat) (H : Heap) (locs : List Loc) (ls : Array Slot) (a : Nat) (m2 : xMem), 1 ≤ i ∧ i ≤ k ∧ i ≤ 24 ∧ p_up k i (a, m2) = p_up q q (n, p_lay q mem) → va_P D vwCl (wC o ad cI cZ cG tl lc wc dc pn (nI a) isw m2) H → va_D A (wC o ad cI cZ cG tl lc wc dc pn (nI a) isw m2) → va_S A s.heap H locs → lv_has ls 4 [(0, .ref (o 0)), (2, .ref (ad t)), (3, .int (nI i))] → W p l e ({ frames := 5, cells := 0, slots := 0, locals := 192 }) s m ([.ref (o 0), .int (nI q), .ref (ad t)] : List Value).toArray below meth c H locs 0 0 (MQ below (xQv D vwCl (wC o ad cI cZ cG tl lc wc dc pn (nI (p_tree q t (n, mem)).1) isw ((p_tree q t (n, mem)).2)) A) ([.ref (o 0), .int (nI q), .ref (ad t)] : List Value).toArray s 0 0 A) (F0 m 28 ls []) := by
      intro k
      induction k with
      | zero =>
        intro i H locs ls a m2 hk hP hD hS hl
        exact absurd hk.1 (by omega)
      | succ k ih =>
        intro i H locs ls a m2 hk hP hD hS hl
        obtain ⟨g1, g2, g3, g4⟩ := hk
        refine lv_iload_n hx hb dX1_treeInto_28 rfl (lv_at hl 2 rfl) ?_
        refine lv_iconst (v := nI 1) hx hb dX1_treeInto_29 (by decide) ?_
        refine lv_icmp_le (tgt := 47) hx hb dX1_treeInto_30 (by decide) (fun hd => ?_) (fun hd => ?_)
        · have g5 : i ≤ 1 := (nI_leI (by omega) (by decide)).mp hd
          have g6 : (a, m2) = p_up q q (n, p_lay q mem) := by rw [← g4]; exact (if_pos g5).symm
          refine lv_aload_n hx hb dX1_treeInto_47 rfl (lv_at hl 0 rfl) ?_
          refine va_get (D := D) (ci := 0) (v := .ref (o 5)) (C := RX1) (T := TX1) (N := 14) hx hb hW iPL hown hK hP 0 rfl rfl 12 (by decide) (hW _ tw_56) (fun _ h9 => h9) rfl dX1_treeInto_48 ?_
          refine lv_iconst (v := nI 0) hx hb dX1_treeInto_51 (by decide) ?_
          refine m_row hx hb hK hP 5 2 0 rfl rfl (by omega) (by decide) rfl dX1_treeInto_52 ?_
          refine lv_aload_n hx hb dX1_treeInto_53 rfl (lv_at hl 1 rfl) ?_
          refine mv_callS (As := [.ref (ad (47 + 0)), .ref (ad t)]) (rest := []) ⟨hx, hb, hml, hown, hW⟩ (c_copyDigest (47 + 0) t (by decide) (ht) (by decide) (l1) (nI a) m2) gE_ok (va_cwS 2 hW (gS tw_249 tw_250 tw_1 tw_251) rfl rfl rfl (by decide +kernel) ⟨Nat.le_of_ble_eq_true rfl, Nat.le_of_ble_eq_true rfl⟩) hP hD hK hS hA hT rfl hl.1 rfl (Nat.le_of_ble_eq_true rfl) dX1_treeInto_54 ⟨Nat.zero_le _, Nat.zero_le _⟩ (fun H locs hP hD hS => ?_)
          have hP : va_P D vwCl (wC o ad cI cZ cG tl lc wc dc pn (nI a) isw (p_copy (47 + 0) t m2)) H := hP
          have hD : va_D A (wC o ad cI cZ cG tl lc wc dc pn (nI a) isw (p_copy (47 + 0) t m2)) := hD
          have hP : va_P D vwCl (wC o ad cI cZ cG tl lc wc dc pn (nI (p_tree q t (n, mem)).1) isw ((p_tree q t (n, mem)).2)) H := by rw [e1, ← g6]; exact hP
          have hD : va_D A (wC o ad cI cZ cG tl lc wc dc pn (nI (p_tree q t (n, mem)).1) isw ((p_tree q t (n, mem)).2)) := by rw [e1, ← g6]; exact hD
          exact mv_ret hx hb hr hlk hS hP hD dX1_treeInto_57
        · have g5 : 2 ≤ i := by
            rcases Nat.lt_or_ge i 2 with h | h
            · exact absurd (nI_le (by omega) (by decide)) hd
            · exact h
          refine lv_aload_n hx hb dX1_treeInto_33 rfl (lv_at hl 0 rfl) ?_
          refine lv_iload_n hx hb dX1_treeInto_34 rfl (lv_at hl 2 rfl) ?_
          refine mv_callV (C := RX1) (As := [.int (nI i)]) (rest := []) ⟨hx, hb, hml, hown, hW⟩ (c_foldLevel i (by omega) (by omega) a m2) gE_ok (cwV 1 hW (gV tw_253 tw_255 tv_X1_foldLevel tw_1 tw_256) rfl rfl rfl (by decide +kernel) ⟨Nat.le_of_ble_eq_true rfl, Nat.le_of_ble_eq_true rfl⟩) (va_recv hK hP (ci := 0) (q0 := 0) rfl rfl) hP hD hK hS hA hT rfl hl.1 rfl (Nat.le_of_ble_eq_true rfl) dX1_treeInto_35 ⟨Nat.zero_le _, Nat.zero_le _⟩ (fun H locs hP hD hS => ?_)
          have hP : va_P D vwCl (wC o ad cI cZ cG tl lc wc dc pn (nI (p_fold i (a, m2)).1) isw ((p_fold i (a, m2)).2)) H := hP
          have hD : va_D A (wC o ad cI cZ cG tl lc wc dc pn (nI (p_fold i (a, m2)).1) isw ((p_fold i (a, m2)).2)) := hD
          refine lv_iload_n hx hb dX1_treeInto_38 rfl (lv_at hl 2 rfl) ?_
          refine lv_iload_n hx hb dX1_treeInto_39 rfl (lv_at hl 2 rfl) ?_
          refine lv_iconst (v := nI 2) hx hb dX1_treeInto_40 (by decide) ?_
          refine lv_idiv hx hb dX1_treeInto_41 (by decide) ?_
          refine lv_eqi (v := nI (i / 2)) (pk_div (by omega) (by decide) (by decide)) ?_
          refine lv_isub hx hb dX1_treeInto_42 ?_
          refine lv_eqi (v := nI (i - i / 2)) (pk_sub (by omega)) ?_
          refine lv_istore_n (lv' := [(3, .int (nI (i - i / 2))), (0, .ref (o 0)), (2, .ref (ad t))]) hx hb dX1_treeInto_43 rfl hl (by decide) rfl (fun ls hl => ?_)
          refine lv_goto (tgt := 28) hx hb dX1_treeInto_44 (by decide) ?_
          exact ih (i - i / 2) H locs ls _ _ ⟨by omega, by omega, by omega, by rw [← g4]; exact (if_neg (by omega)).symm⟩ hP hD hS (lv_sub hl [1, 2, 0] rfl)
    refine lv_aload_n hx hb dX1_treeInto_21 rfl (lv_at hl 0 rfl) ?_
    refine lv_iload_n hx hb dX1_treeInto_22 rfl (lv_at hl 1 rfl) ?_
    refine mv_callV (C := RX1) (As := [.int (nI q)]) (rest := []) ⟨hx, hb, hml, hown, hW⟩ (c_layLeaves q (by omega) (nI n) mem) gE_ok (cwV 1 hW (gV tw_245 tw_247 tv_X1_layLeaves tw_1 tw_248) rfl rfl rfl (by decide +kernel) ⟨Nat.le_of_ble_eq_true rfl, Nat.le_of_ble_eq_true rfl⟩) (va_recv hK hP (ci := 0) (q0 := 0) rfl rfl) hP hD hK hS hA hT rfl hl.1 rfl (Nat.le_of_ble_eq_true rfl) dX1_treeInto_23 ⟨Nat.zero_le _, Nat.zero_le _⟩ (fun H locs hP hD hS => ?_)
    have hP : va_P D vwCl (wC o ad cI cZ cG tl lc wc dc pn (nI n) isw (p_lay q mem)) H := hP
    have hD : va_D A (wC o ad cI cZ cG tl lc wc dc pn (nI n) isw (p_lay q mem)) := hD
    refine lv_iload_n hx hb dX1_treeInto_26 rfl (lv_at hl 1 rfl) ?_
    refine lv_istore_n (lv' := [(3, .int (nI q)), (0, .ref (o 0)), (1, .int (nI q)), (2, .ref (ad t))]) hx hb dX1_treeInto_27 rfl hl (by decide) rfl (fun ls hl => ?_)
    exact loop q q H locs ls _ _ ⟨by omega, by omega, by omega, rfl⟩ hP hD hS (lv_sub hl [1, 3, 0] rfl)
  · have h1 : q < 1 := by
      rcases Nat.lt_or_ge q 1 with h | h
      · exact h
      · exact absurd (nI_le h (by omega)) hc
    have e1 : p_tree q t (n, mem) = P_fin t (0, mem) := if_pos h1
    refine lv_aload_n hx hb dX1_treeInto_5 rfl (lv_at hl 0 rfl) ?_
    refine va_get (D := D) (ci := 0) (v := .ref (o 1)) (C := RX1) (T := TX1) (N := 14) hx hb hW iPL hown hK hP 0 rfl rfl 0 (by decide) (hW _ tw_44) (fun _ h9 => h9) rfl dX1_treeInto_6 ?_
    refine mv_callV (C := RX0) (As := []) (rest := []) ⟨hx, hb, hml, hown, hW⟩ (c_begin n mem) gE_ok (cwV 0 hW (gV tw_190 tw_191 tw_192 tw_2 tw_193) rfl rfl rfl (by decide +kernel) ⟨Nat.le_of_ble_eq_true rfl, Nat.le_of_ble_eq_true rfl⟩) (va_recv hK hP (ci := 1) (q0 := 1) rfl rfl) hP hD hK hS hA hT rfl hl.1 rfl (Nat.le_of_ble_eq_true rfl) dX1_treeInto_9 ⟨Nat.zero_le _, Nat.zero_le _⟩ (fun H locs hP hD hS => ?_)
    have hP : va_P D vwCl (wC o ad cI cZ cG tl lc wc dc pn (nI 0) isw mem) H := hP
    have hD : va_D A (wC o ad cI cZ cG tl lc wc dc pn (nI 0) isw mem) := hD
    refine lv_aload_n hx hb dX1_treeInto_12 rfl (lv_at hl 0 rfl) ?_
    refine va_get (D := D) (ci := 0) (v := .ref (o 1)) (C := RX1) (T := TX1) (N := 14) hx hb hW iPL hown hK hP 0 rfl rfl 0 (by decide) (hW _ tw_44) (fun _ h9 => h9) rfl dX1_treeInto_13 ?_
    refine lv_aload_n hx hb dX1_treeInto_16 rfl (lv_at hl 2 rfl) ?_
    refine mv_callV (C := RX0) (As := [.ref (ad t)]) (rest := []) ⟨hx, hb, hml, hown, hW⟩ (C_finishInto 0 t (by decide) (ht) (l1) mem) gE_ok (cwV 1 hW (gV tw_203 tw_204 tw_205 tw_2 tw_206) rfl rfl rfl (by decide +kernel) ⟨Nat.le_of_ble_eq_true rfl, Nat.le_of_ble_eq_true rfl⟩) (va_recv hK hP (ci := 1) (q0 := 1) rfl rfl) hP hD hK hS hA hT rfl hl.1 rfl (Nat.le_of_ble_eq_true rfl) dX1_treeInto_17 ⟨Nat.zero_le _, Nat.zero_le _⟩ (fun H locs hP hD hS => ?_)
    have hP : va_P D vwCl (wC o ad cI cZ cG tl lc wc dc pn (nI (P_fin t (0, mem)).1) isw ((P_fin t (0, mem)).2)) H := hP
    have hD : va_D A (wC o ad cI cZ cG tl lc wc dc pn (nI (P_fin t (0, mem)).1) isw ((P_fin t (0, mem)).2)) := hD
    have hP : va_P D vwCl (wC o ad cI cZ cG tl lc wc dc pn (nI (p_tree q t (n, mem)).1) isw ((p_tree q t (n, mem)).2)) H := by rw [e1]; exact hP
    have hD : va_D A (wC o ad cI cZ cG tl lc wc dc pn (nI (p_tree q t (n, mem)).1) isw ((p_tree q t (n, mem)).2)) := by rw [e1]; exact hD
    exact mv_ret hx hb hr hlk hS hP hD dX1_treeInto_20
set_option maxHeartbeats 1000000 in
set_option maxRecDepth 100000 in
/-- dueLength(x0, q) -/
theorem c_dueLength {l : Launch} {D : va_G} {cI cZ cG : ClassId} (w : va_W) (x0 q : Nat) (hx0 : x0 < q) (hq : q ≤ 24) : MI l gE yX1_dueLength (.code yX1_dueLength cX1_dueLength 5 (some .int) :: tW) ({ frames := 2, cells := 0, slots := 0, locals := 48 }) D vwCl (tC cI cZ cG) [.int (nI x0), .int (nI q)] (w) (w) (nI (p_due q 0 x0 q)) := by
  refine MI.ofW (by decide +kernel) rfl (Nat.le_of_ble_eq_true rfl) ?_
  intro p e s m below meth c A ls hx hb hr hts hown hlk hml hA hP hK hD hT hl
  have hS : va_S A s.heap s.heap [] := va_S.rf
  have hown : s.vm.findClass RX1 = some m.cls := hown
  have hW : ∀ w ∈ tW, w.before _ s = true := fun w h => hts w (List.mem_cons_of_mem _ h)
  have hl : lv_has ls 5 [(0, .int (nI x0)), (1, .int (nI q))] := hl
  have loop : ∀ (k i : Nat) (H : Heap) (locs : List Loc) (ls : Array Slot) (c1 x : Nat), 1 ≤ i ∧ i ≤ k ∧ i ≤ 24 ∧ x < i ∧ c1 + hlv i ≤ 5 ∧ nI (p_due k c1 x i) = nI (p_due q 0 x0 q) → va_P D vwCl (w) H → va_D A (w) → va_S A s.heap H locs → lv_has ls 5 [(2, .int (nI c1)), (3, .int (nI x)), (4, .int (nI i))] → W p l e ({ frames := 2, cells := 0, slots := 0, locals := 48 }) s m ([.int (nI x0), .int (nI q)] : List Value).toArray below meth c H locs 0 0 (MQ below (xQi D vwCl (w) (nI (p_due q 0 x0 q)) A) ([.int (nI x0), .int (nI q)] : List Value).toArray s 0 0 A) (F0 m 7 ls []) := by
    intro k
    induction k with
    | zero =>
      intro i H locs ls c1 x hk hP hD hS hl
      exact absurd hk.1 (by omega)
    | succ k ih =>
      intro i H locs ls c1 x hk hP hD hS hl
      obtain ⟨g1, g2, g3, g4, g6, g7⟩ := hk
      refine lv_iload hx hb dX1_dueLength_7 (lv_at hl 2 rfl) ?_
      refine lv_iconst (v := nI 1) hx hb dX1_dueLength_9 (by decide) ?_
      refine lv_icmp_le (tgt := 41) hx hb dX1_dueLength_10 (by decide) (fun hd => ?_) (fun hd => ?_)
      · have g5 : i ≤ 1 := (nI_leI (by omega) (by decide)).mp hd
        refine lv_iload_n hx hb dX1_dueLength_41 rfl (lv_at hl 0 rfl) ?_
        have hP : va_P D vwCl (w) H := by exact hP
        have hD : va_D A (w) := by exact hD
        exact mi_ret hx hb hr rfl hlk hS hP hD (by rw [← g7]; exact congrArg nI (if_pos g5).symm) dX1_dueLength_42
      · have g5 : 2 ≤ i := by
          rcases Nat.lt_or_ge i 2 with h | h
          · exact absurd (nI_le (by omega) (by decide)) hd
          · exact h
        refine lv_iload_n hx hb dX1_dueLength_13 rfl (lv_at hl 1 rfl) ?_
        refine lv_iload hx hb dX1_dueLength_14 (lv_at hl 2 rfl) ?_
        refine mi_callS (As := [.int (nI x), .int (nI i)]) (rest := []) ⟨hx, hb, hml, hown, hW⟩ (c_hasPartner _ (nI x) (nI i)) gE_ok (va_cwS 2 hW (gS tw_340 tw_341 tw_1 tw_342) rfl rfl rfl (by decide +kernel) ⟨Nat.le_of_ble_eq_true rfl, Nat.le_of_ble_eq_true rfl⟩) hP hD hK hS hA hT rfl hl.1 rfl (Nat.le_of_ble_eq_true rfl) dX1_dueLength_16 ⟨Nat.zero_le _, Nat.zero_le _⟩ (fun H locs hP hD hS => ?_)
        refine lv_eqi (v := hb1 x i) (p_has_eq (by omega) (by omega)) ?_
        refine lv_if_eq (tgt := 25) hx hb dX1_dueLength_19 (by decide) (fun hh => ?_) (fun hh => ?_)
        · have g8 := hb1_0 hh
          refine lv_iload_n hx hb dX1_dueLength_25 rfl (lv_at hl 1 rfl) ?_
          refine lv_iconst (v := nI 2) hx hb dX1_dueLength_26 (by decide) ?_
          refine lv_idiv hx hb dX1_dueLength_27 (by decide) ?_
          refine lv_eqi (v := nI (x / 2)) (pk_div (by omega) (by decide) (by decide)) ?_
          refine lv_istore_n (lv' := [(3, .int (nI (x / 2))), (2, .int (nI c1)), (4, .int (nI i))]) hx hb dX1_dueLength_28 rfl hl (by decide) rfl (fun ls hl => ?_)
          refine lv_iload hx hb dX1_dueLength_29 (lv_at hl 2 rfl) ?_
          refine lv_iload hx hb dX1_dueLength_31 (lv_at hl 2 rfl) ?_
          refine lv_iconst (v := nI 2) hx hb dX1_dueLength_33 (by decide) ?_
          refine lv_idiv hx hb dX1_dueLength_34 (by decide) ?_
          refine lv_eqi (v := nI (i / 2)) (pk_div (by omega) (by decide) (by decide)) ?_
          refine lv_isub hx hb dX1_dueLength_35 ?_
          refine lv_eqi (v := nI (i - i / 2)) (pk_sub (by omega)) ?_
          refine lv_istore (lv' := [(4, .int (nI (i - i / 2))), (3, .int (nI (x / 2))), (2, .int (nI c1))]) hx hb dX1_dueLength_36 hl (by decide) rfl (fun ls hl => ?_)
          refine lv_goto (tgt := 7) hx hb dX1_dueLength_38 (by decide) ?_
          exact ih (i - i / 2) H locs ls c1 (x / 2) ⟨by omega, by omega, by omega, half_lt g4 g5, by have := hlv_step i (by omega) g5; omega, by rw [← g7]; exact (congrArg nI ((if_neg (by omega)).trans (by rw [if_neg g8]))).symm⟩ hP hD hS (lv_sub hl [2, 1, 0] rfl)
        · have g8 := hb1_1 hh
          refine lv_iinc (v := nI (c1 + 1)) (lv' := [(2, .int (nI (c1 + 1))), (3, .int (nI x)), (4, .int (nI i))]) hx hb dX1_dueLength_22 hl (k := 0) rfl (nI_1 c1) (by decide) rfl (fun ls hl => ?_)
          refine lv_iload_n hx hb dX1_dueLength_25 rfl (lv_at hl 1 rfl) ?_
          refine lv_iconst (v := nI 2) hx hb dX1_dueLength_26 (by decide) ?_
          refine lv_idiv hx hb dX1_dueLength_27 (by decide) ?_
          refine lv_eqi (v := nI (x / 2)) (pk_div (by omega) (by decide) (by decide)) ?_
          refine lv_istore_n (lv' := [(3, .int (nI (x / 2))), (2, .int (nI (c1 + 1))), (4, .int (nI i))]) hx hb dX1_dueLength_28 rfl hl (by decide) rfl (fun ls hl => ?_)
          refine lv_iload hx hb dX1_dueLength_29 (lv_at hl 2 rfl) ?_
          refine lv_iload hx hb dX1_dueLength_31 (lv_at hl 2 rfl) ?_
          refine lv_iconst (v := nI 2) hx hb dX1_dueLength_33 (by decide) ?_
          refine lv_idiv hx hb dX1_dueLength_34 (by decide) ?_
          refine lv_eqi (v := nI (i / 2)) (pk_div (by omega) (by decide) (by decide)) ?_
          refine lv_isub hx hb dX1_dueLength_35 ?_
          refine lv_eqi (v := nI (i - i / 2)) (pk_sub (by omega)) ?_
          refine lv_istore (lv' := [(4, .int (nI (i - i / 2))), (3, .int (nI (x / 2))), (2, .int (nI (c1 + 1)))]) hx hb dX1_dueLength_36 hl (by decide) rfl (fun ls hl => ?_)
          refine lv_goto (tgt := 7) hx hb dX1_dueLength_38 (by decide) ?_
          exact ih (i - i / 2) H locs ls (c1 + 1) (x / 2) ⟨by omega, by omega, by omega, half_lt g4 g5, by have := hlv_step i (by omega) g5; omega, by rw [← g7]; exact (congrArg nI ((if_neg (by omega)).trans (by rw [if_pos g8]))).symm⟩ hP hD hS (lv_sub hl [2, 1, 0] rfl)
  refine lv_iconst (v := nI 0) hx hb dX1_dueLength_0 (by decide) ?_
  refine lv_istore_n (lv' := [(2, .int (nI 0)), (0, .int (nI x0)), (1, .int (nI q))]) hx hb dX1_dueLength_1 rfl hl (by decide) rfl (fun ls hl => ?_)
  refine lv_iload_n hx hb dX1_dueLength_2 rfl (lv_at hl 1 rfl) ?_
  refine lv_istore_n (lv' := [(3, .int (nI x0)), (2, .int (nI 0)), (0, .int (nI x0)), (1, .int (nI q))]) hx hb dX1_dueLength_3 rfl hl (by decide) rfl (fun ls hl => ?_)
  refine lv_iload_n hx hb dX1_dueLength_4 rfl (lv_at hl 3 rfl) ?_
  refine lv_istore (lv' := [(4, .int (nI q)), (3, .int (nI x0)), (2, .int (nI 0)), (0, .int (nI x0)), (1, .int (nI q))]) hx hb dX1_dueLength_5 hl (by decide) rfl (fun ls hl => ?_)
  exact loop q q s.heap [] ls 0 x0 ⟨by omega, by omega, by omega, by omega, by have := hlv_5 q (by omega); omega, rfl⟩ hP hD hS (lv_sub hl [2, 1, 0] rfl)
set_option maxHeartbeats 1000000 in
set_option maxRecDepth 100000 in
/-- makePath(x0, q) -/
theorem c_makePath {l : Launch} {D : va_G} {o ad : Nat → Nat} {cI cZ cG : ClassId} {tl lc wc dc pn : Int32} {isw : Nat → Int32} (x0 q : Nat) (hx0 : x0 < q) (hq : q ≤ 24) (n : Nat) (mem : Nat → Nat → Int32) : MV l gE yX1_makePath (.code yX1_makePath cX1_makePath 5 none :: tW) ({ frames := 5, cells := 0, slots := 0, locals := 192 }) D vwCl (tC cI cZ cG) [.ref (o 0), .int (nI x0), .int (nI q)] (wC o ad cI cZ cG tl lc wc dc pn (nI n) isw mem) (wC o ad cI cZ cG tl lc wc dc (nI (p_path x0 q (n, mem)).1) (nI (p_path x0 q (n, mem)).2.1) isw (p_path x0 q (n, mem)).2.2) := by
  refine MV.ofW (by decide +kernel) rfl (Nat.le_of_ble_eq_true rfl) ?_
  intro p e s m below meth c A ls hx hb hr hts hown hlk hml hA hP hK hD hT hl
  have hS : va_S A s.heap s.heap [] := va_S.rf
  have hown : s.vm.findClass RX1 = some m.cls := hown
  have hW : ∀ w ∈ tW, w.before _ s = true := fun w h => hts w (List.mem_cons_of_mem _ h)
  have hl : lv_has ls 5 [(0, .ref (o 0)), (1, .int (nI x0)), (2, .int (nI q))] := hl
  have loop : ∀ (k i : Nat) (H : Heap) (locs : List Loc) (ls : Array Slot) (c1 x a : Nat) (m2 : xMem), 1 ≤ i ∧ i ≤ k ∧ i ≤ 24 ∧ x < i ∧ c1 + hlv i ≤ 5 ∧ p_pathA k x i (c1, a, m2) = p_path x0 q (n, mem) → va_P D vwCl (wC o ad cI cZ cG tl lc wc dc (nI c1) (nI a) isw m2) H → va_D A (wC o ad cI cZ cG tl lc wc dc (nI c1) (nI a) isw m2) → va_S A s.heap H locs → lv_has ls 5 [(0, .ref (o 0)), (3, .int (nI x)), (4, .int (nI i))] → W p l e ({ frames := 5, cells := 0, slots := 0, locals := 192 }) s m ([.ref (o 0), .int (nI x0), .int (nI q)] : List Value).toArray below meth c H locs 0 0 (MQ below (xQv D vwCl (wC o ad cI cZ cG tl lc wc dc (nI (p_path x0 q (n, mem)).1) (nI (p_path x0 q (n, mem)).2.1) isw (p_path x0 q (n, mem)).2.2) A) ([.ref (o 0), .int (nI x0), .int (nI q)] : List Value).toArray s 0 0 A) (F0 m 15 ls []) := by
    intro k
    induction k with
    | zero =>
      intro i H locs ls c1 x a m2 hk hP hD hS hl
      exact absurd hk.1 (by omega)
    | succ k ih =>
      intro i H locs ls c1 x a m2 hk hP hD hS hl
      obtain ⟨g1, g2, g3, g4, g6, g7⟩ := hk
      refine lv_iload hx hb dX1_makePath_15 (lv_at hl 2 rfl) ?_
      refine lv_iconst (v := nI 1) hx hb dX1_makePath_17 (by decide) ?_
      refine lv_icmp_le (tgt := 83) hx hb dX1_makePath_18 (by decide) (fun hd => ?_) (fun hd => ?_)
      · have g5 : i ≤ 1 := (nI_leI (by omega) (by decide)).mp hd
        have g8 : (c1, a, m2) = p_path x0 q (n, mem) := by rw [← g7]; exact (if_pos g5).symm
        have hP : va_P D vwCl (wC o ad cI cZ cG tl lc wc dc (nI (p_path x0 q (n, mem)).1) (nI (p_path x0 q (n, mem)).2.1) isw (p_path x0 q (n, mem)).2.2) H := by rw [← g8]; exact hP
        have hD : va_D A (wC o ad cI cZ cG tl lc wc dc (nI (p_path x0 q (n, mem)).1) (nI (p_path x0 q (n, mem)).2.1) isw (p_path x0 q (n, mem)).2.2) := by rw [← g8]; exact hD
        exact mv_ret hx hb hr hlk hS hP hD dX1_makePath_83
      · have g5 : 2 ≤ i := by
          rcases Nat.lt_or_ge i 2 with h | h
          · exact absurd (nI_le (by omega) (by decide)) hd
          · exact h
        have g9 := hlv_step i (by omega) g5
        refine lv_iload_n hx hb dX1_makePath_21 rfl (lv_at hl 1 rfl) ?_
        refine lv_iload hx hb dX1_makePath_22 (lv_at hl 2 rfl) ?_
        refine mi_callS (As := [.int (nI x), .int (nI i)]) (rest := []) ⟨hx, hb, hml, hown, hW⟩ (c_hasPartner _ (nI x) (nI i)) gE_ok (va_cwS 2 hW (gS tw_340 tw_341 tw_1 tw_342) rfl rfl rfl (by decide +kernel) ⟨Nat.le_of_ble_eq_true rfl, Nat.le_of_ble_eq_true rfl⟩) hP hD hK hS hA hT rfl hl.1 rfl (Nat.le_of_ble_eq_true rfl) dX1_makePath_24 ⟨Nat.zero_le _, Nat.zero_le _⟩ (fun H locs hP hD hS => ?_)
        refine lv_eqi (v := hb1 x i) (p_has_eq (by omega) (by omega)) ?_
        refine lv_if_eq (tgt := 61) hx hb dX1_makePath_27 (by decide) (fun hh => ?_) (fun hh => ?_)
        · have g8 := hb1_0 hh
          refine lv_aload_n hx hb dX1_makePath_61 rfl (lv_at hl 0 rfl) ?_
          refine lv_iload hx hb dX1_makePath_62 (lv_at hl 2 rfl) ?_
          refine mv_callV (C := RX1) (As := [.int (nI i)]) (rest := []) ⟨hx, hb, hml, hown, hW⟩ (c_foldLevel i (by omega) (by omega) a m2) gE_ok (cwV 1 hW (gV tw_253 tw_255 tv_X1_foldLevel tw_1 tw_256) rfl rfl rfl (by decide +kernel) ⟨Nat.le_of_ble_eq_true rfl, Nat.le_of_ble_eq_true rfl⟩) (va_recv hK hP (ci := 0) (q0 := 0) rfl rfl) hP hD hK hS hA hT rfl hl.1 rfl (Nat.le_of_ble_eq_true rfl) dX1_makePath_64 ⟨Nat.zero_le _, Nat.zero_le _⟩ (fun H locs hP hD hS => ?_)
          have hP : va_P D vwCl (wC o ad cI cZ cG tl lc wc dc (nI c1) (nI (p_fold i (a, m2)).1) isw ((p_fold i (a, m2)).2)) H := hP
          have hD : va_D A (wC o ad cI cZ cG tl lc wc dc (nI c1) (nI (p_fold i (a, m2)).1) isw ((p_fold i (a, m2)).2)) := hD
          refine lv_iload_n hx hb dX1_makePath_67 rfl (lv_at hl 1 rfl) ?_
          refine lv_iconst (v := nI 2) hx hb dX1_makePath_68 (by decide) ?_
          refine lv_idiv hx hb dX1_makePath_69 (by decide) ?_
          refine lv_eqi (v := nI (x / 2)) (pk_div (by omega) (by decide) (by decide)) ?_
          refine lv_istore_n (lv' := [(3, .int (nI (x / 2))), (0, .ref (o 0)), (4, .int (nI i))]) hx hb dX1_makePath_70 rfl hl (by decide) rfl (fun ls hl => ?_)
          refine lv_iload hx hb dX1_makePath_71 (lv_at hl 2 rfl) ?_
          refine lv_iload hx hb dX1_makePath_73 (lv_at hl 2 rfl) ?_
          refine lv_iconst (v := nI 2) hx hb dX1_makePath_75 (by decide) ?_
          refine lv_idiv hx hb dX1_makePath_76 (by decide) ?_
          refine lv_eqi (v := nI (i / 2)) (pk_div (by omega) (by decide) (by decide)) ?_
          refine lv_isub hx hb dX1_makePath_77 ?_
          refine lv_eqi (v := nI (i - i / 2)) (pk_sub (by omega)) ?_
          refine lv_istore (lv' := [(4, .int (nI (i - i / 2))), (3, .int (nI (x / 2))), (0, .ref (o 0))]) hx hb dX1_makePath_78 hl (by decide) rfl (fun ls hl => ?_)
          refine lv_goto (tgt := 15) hx hb dX1_makePath_80 (by decide) ?_
          exact ih (i - i / 2) H locs ls c1 (x / 2) _ _ ⟨by omega, by omega, by omega, half_lt g4 g5, by omega, by rw [← g7]; exact ((if_neg (by omega)).trans (by rw [if_neg g8])).symm⟩ hP hD hS (lv_sub hl [2, 1, 0] rfl)
        · have g8 := hb1_1 hh
          refine lv_aload_n hx hb dX1_makePath_30 rfl (lv_at hl 0 rfl) ?_
          refine va_get (D := D) (ci := 0) (v := .ref (o 5)) (C := RX1) (T := TX1) (N := 14) hx hb hW iPL hown hK hP 0 rfl rfl 12 (by decide) (hW _ tw_56) (fun _ h9 => h9) rfl dX1_makePath_31 ?_
          refine lv_iload_n hx hb dX1_makePath_34 rfl (lv_at hl 1 rfl) ?_
          refine mi_callS (As := [.int (nI x)]) (rest := [.ref (o 5)]) ⟨hx, hb, hml, hown, hW⟩ (c_partnerOf _ (nI x)) gE_ok (va_cwS 1 hW (gS tw_343 tw_344 tw_1 tw_345) rfl rfl rfl (by decide +kernel) ⟨Nat.le_of_ble_eq_true rfl, Nat.le_of_ble_eq_true rfl⟩) hP hD hK hS hA hT rfl hl.1 rfl (Nat.le_of_ble_eq_true rfl) dX1_makePath_35 ⟨Nat.zero_le _, Nat.zero_le _⟩ (fun H locs hP hD hS => ?_)
          refine lv_eqi (v := nI (x ^^^ 1)) (nI_xor1 x) ?_
          refine m_row hx hb hK hP 5 2 (x ^^^ 1) rfl rfl (by omega) (by decide) rfl dX1_makePath_38 ?_
          refine lv_aload_n hx hb dX1_makePath_39 rfl (lv_at hl 0 rfl) ?_
          refine va_get (D := D) (ci := 0) (v := .ref (o 4)) (C := RX1) (T := TX1) (N := 14) hx hb hW iPL hown hK hP 0 rfl rfl 10 (by decide) (hW _ tw_54) (fun _ h9 => h9) rfl dX1_makePath_40 ?_
          refine lv_aload_n hx hb dX1_makePath_43 rfl (lv_at hl 0 rfl) ?_
          refine va_get (D := D) (ci := 0) (v := .int (nI c1)) (C := RX1) (T := TX1) (N := 14) hx hb hW iPL hown hK hP 0 rfl rfl 11 (by decide) (hW _ tw_55) (fun _ h9 => h9) rfl dX1_makePath_44 ?_
          refine m_row hx hb hK hP 4 2 c1 rfl rfl (by omega) (by decide) rfl dX1_makePath_47 ?_
          refine mv_callS (As := [.ref (ad (47 + (x ^^^ 1))), .ref (ad (42 + c1))]) (rest := []) ⟨hx, hb, hml, hown, hW⟩ (c_copyDigest (47 + (x ^^^ 1)) (42 + c1) (by omega) (by omega) (lenC_row (by omega)) (lenC_row (by omega)) (nI a) m2) gE_ok (va_cwS 2 hW (gS tw_249 tw_250 tw_1 tw_251) rfl rfl rfl (by decide +kernel) ⟨Nat.le_of_ble_eq_true rfl, Nat.le_of_ble_eq_true rfl⟩) hP hD hK hS hA hT rfl hl.1 rfl (Nat.le_of_ble_eq_true rfl) dX1_makePath_48 ⟨Nat.zero_le _, Nat.zero_le _⟩ (fun H locs hP hD hS => ?_)
          have hP : va_P D vwCl (wC o ad cI cZ cG tl lc wc dc (nI c1) (nI a) isw (p_copy (47 + (x ^^^ 1)) (42 + c1) m2)) H := hP
          have hD : va_D A (wC o ad cI cZ cG tl lc wc dc (nI c1) (nI a) isw (p_copy (47 + (x ^^^ 1)) (42 + c1) m2)) := hD
          refine lv_aload_n hx hb dX1_makePath_51 rfl (lv_at hl 0 rfl) ?_
          refine lv_dup hx hb dX1_makePath_52 rfl ?_
          refine va_get (D := D) (ci := 0) (v := .int (nI c1)) (C := RX1) (T := TX1) (N := 14) hx hb hW iPL hown hK hP 0 rfl rfl 11 (by decide) (hW _ tw_55) (fun _ h9 => h9) rfl dX1_makePath_53 ?_
          refine lv_iconst (v := nI 1) hx hb dX1_makePath_56 (by decide) ?_
          refine lv_iadd hx hb dX1_makePath_57 ?_
          refine lv_eqi (v := nI (c1 + 1)) (nI_add c1 1) ?_
          refine va_put (D := D) (ci := 0) (v := .int (nI (c1 + 1))) (ty := .int) (C := RX1) (T := TX1) (N := 14) hx hb hW iPL tyX1 tyX1_ok nmX1 hown hK hP hD hS 0 rfl rfl 11 (by decide) (hW _ tw_55) (fun _ h9 => h9) rfl (by decide +kernel) rfl rfl (Nat.le_of_ble_eq_true rfl) dX1_makePath_58 (fun H locs hP hD hS => ?_)
          have hP : va_P D vwCl (wC o ad cI cZ cG tl lc wc dc (nI (c1 + 1)) (nI a) isw (p_copy (47 + (x ^^^ 1)) (42 + c1) m2)) H := hP
          have hD : va_D A (wC o ad cI cZ cG tl lc wc dc (nI (c1 + 1)) (nI a) isw (p_copy (47 + (x ^^^ 1)) (42 + c1) m2)) := hD
          refine lv_aload_n hx hb dX1_makePath_61 rfl (lv_at hl 0 rfl) ?_
          refine lv_iload hx hb dX1_makePath_62 (lv_at hl 2 rfl) ?_
          refine mv_callV (C := RX1) (As := [.int (nI i)]) (rest := []) ⟨hx, hb, hml, hown, hW⟩ (c_foldLevel i (by omega) (by omega) a (p_copy (47 + (x ^^^ 1)) (42 + c1) m2)) gE_ok (cwV 1 hW (gV tw_253 tw_255 tv_X1_foldLevel tw_1 tw_256) rfl rfl rfl (by decide +kernel) ⟨Nat.le_of_ble_eq_true rfl, Nat.le_of_ble_eq_true rfl⟩) (va_recv hK hP (ci := 0) (q0 := 0) rfl rfl) hP hD hK hS hA hT rfl hl.1 rfl (Nat.le_of_ble_eq_true rfl) dX1_makePath_64 ⟨Nat.zero_le _, Nat.zero_le _⟩ (fun H locs hP hD hS => ?_)
          have hP : va_P D vwCl (wC o ad cI cZ cG tl lc wc dc (nI (c1 + 1)) (nI (p_fold i (a, p_copy (47 + (x ^^^ 1)) (42 + c1) m2)).1) isw ((p_fold i (a, p_copy (47 + (x ^^^ 1)) (42 + c1) m2)).2)) H := hP
          have hD : va_D A (wC o ad cI cZ cG tl lc wc dc (nI (c1 + 1)) (nI (p_fold i (a, p_copy (47 + (x ^^^ 1)) (42 + c1) m2)).1) isw ((p_fold i (a, p_copy (47 + (x ^^^ 1)) (42 + c1) m2)).2)) := hD
          refine lv_iload_n hx hb dX1_makePath_67 rfl (lv_at hl 1 rfl) ?_
          refine lv_iconst (v := nI 2) hx hb dX1_makePath_68 (by decide) ?_
          refine lv_idiv hx hb dX1_makePath_69 (by decide) ?_
          refine lv_eqi (v := nI (x / 2)) (pk_div (by omega) (by decide) (by decide)) ?_
          refine lv_istore_n (lv' := [(3, .int (nI (x / 2))), (0, .ref (o 0)), (4, .int (nI i))]) hx hb dX1_makePath_70 rfl hl (by decide) rfl (fun ls hl => ?_)
          refine lv_iload hx hb dX1_makePath_71 (lv_at hl 2 rfl) ?_
          refine lv_iload hx hb dX1_makePath_73 (lv_at hl 2 rfl) ?_
          refine lv_iconst (v := nI 2) hx hb dX1_makePath_75 (by decide) ?_
          refine lv_idiv hx hb dX1_makePath_76 (by decide) ?_
          refine lv_eqi (v := nI (i / 2)) (pk_div (by omega) (by decide) (by decide)) ?_
          refine lv_isub hx hb dX1_makePath_77 ?_
          refine lv_eqi (v := nI (i - i / 2)) (pk_sub (by omega)) ?_
          refine lv_istore (lv' := [(4, .int (nI (i - i / 2))), (3, .int (nI (x / 2))), (0, .ref (o 0))]) hx hb dX1_makePath_78 hl (by decide) rfl (fun ls hl => ?_)
          refine lv_goto (tgt := 15) hx hb dX1_makePath_80 (by decide) ?_
          exact ih (i - i / 2) H locs ls (c1 + 1) (x / 2) _ _ ⟨by omega, by omega, by omega, half_lt g4 g5, by omega, by rw [← g7]; exact ((if_neg (by omega)).trans (by rw [if_pos g8])).symm⟩ hP hD hS (lv_sub hl [2, 1, 0] rfl)
  refine lv_aload_n hx hb dX1_makePath_0 rfl (lv_at hl 0 rfl) ?_
  refine lv_iload_n hx hb dX1_makePath_1 rfl (lv_at hl 2 rfl) ?_
  refine mv_callV (C := RX1) (As := [.int (nI q)]) (rest := []) ⟨hx, hb, hml, hown, hW⟩ (c_layLeaves q (by omega) (nI n) mem) gE_ok (cwV 1 hW (gV tw_245 tw_247 tv_X1_layLeaves tw_1 tw_248) rfl rfl rfl (by decide +kernel) ⟨Nat.le_of_ble_eq_true rfl, Nat.le_of_ble_eq_true rfl⟩) (va_recv hK hP (ci := 0) (q0 := 0) rfl rfl) hP hD hK hS hA hT rfl hl.1 rfl (Nat.le_of_ble_eq_true rfl) dX1_makePath_2 ⟨Nat.zero_le _, Nat.zero_le _⟩ (fun H locs hP hD hS => ?_)
  have hP : va_P D vwCl (wC o ad cI cZ cG tl lc wc dc pn (nI n) isw (p_lay q mem)) H := hP
  have hD : va_D A (wC o ad cI cZ cG tl lc wc dc pn (nI n) isw (p_lay q mem)) := hD
  refine lv_aload_n hx hb dX1_makePath_5 rfl (lv_at hl 0 rfl) ?_
  refine lv_iconst (v := nI 0) hx hb dX1_makePath_6 (by decide) ?_
  refine va_put (D := D) (ci := 0) (v := .int (nI 0)) (ty := .int) (C := RX1) (T := TX1) (N := 14) hx hb hW iPL tyX1 tyX1_ok nmX1 hown hK hP hD hS 0 rfl rfl 11 (by decide) (hW _ tw_55) (fun _ h9 => h9) rfl (by decide +kernel) rfl rfl (Nat.le_of_ble_eq_true rfl) dX1_makePath_7 (fun H locs hP hD hS => ?_)
  have hP : va_P D vwCl (wC o ad cI cZ cG tl lc wc dc (nI 0) (nI n) isw (p_lay q mem)) H := hP
  have hD : va_D A (wC o ad cI cZ cG tl lc wc dc (nI 0) (nI n) isw (p_lay q mem)) := hD
  refine lv_iload_n hx hb dX1_makePath_10 rfl (lv_at hl 1 rfl) ?_
  refine lv_istore_n (lv' := [(3, .int (nI x0)), (0, .ref (o 0)), (1, .int (nI x0)), (2, .int (nI q))]) hx hb dX1_makePath_11 rfl hl (by decide) rfl (fun ls hl => ?_)
  refine lv_iload_n hx hb dX1_makePath_12 rfl (lv_at hl 3 rfl) ?_
  refine lv_istore (lv' := [(4, .int (nI q)), (3, .int (nI x0)), (0, .ref (o 0)), (1, .int (nI x0)), (2, .int (nI q))]) hx hb dX1_makePath_13 hl (by decide) rfl (fun ls hl => ?_)
  exact loop q q H locs ls 0 x0 _ _ ⟨by omega, by omega, by omega, by omega, by have := hlv_5 q (by omega); omega, rfl⟩ hP hD hS (lv_sub hl [2, 1, 0] rfl)
set_option maxHeartbeats 1000000 in
set_option maxRecDepth 100000 in
/-- climb(array d, x0, q) -/
theorem c_climb {l : Launch} {D : va_G} {o ad : Nat → Nat} {cI cZ cG : ClassId} {tl lc wc dc pn : Int32} {isw : Nat → Int32} (d x0 q : Nat) (hd0 : d < 71) (hd1 : lenC d = 32) (hx0 : x0 < q) (hq : q ≤ 24) (n : Nat) (mem : Nat → Nat → Int32) : MV l gE yX1_climb (.code yX1_climb cX1_climb 7 none :: tW) ({ frames := 4, cells := 0, slots := 0, locals := 160 }) D vwCl (tC cI cZ cG) [.ref (o 0), .ref (ad d), .int (nI x0), .int (nI q)] (wC o ad cI cZ cG tl lc wc dc pn (nI n) isw mem) (wC o ad cI cZ cG tl lc wc dc pn (nI (p_climb d x0 q (n, mem)).1) isw ((p_climb d x0 q (n, mem)).2)) := by
  refine MV.ofW (by decide +kernel) rfl (Nat.le_of_ble_eq_true rfl) ?_
  intro p e s m below meth c A ls hx hb hr hts hown hlk hml hA hP hK hD hT hl
  have hS : va_S A s.heap s.heap [] := va_S.rf
  have hown : s.vm.findClass RX1 = some m.cls := hown
  have hW : ∀ w ∈ tW, w.before _ s = true := fun w h => hts w (List.mem_cons_of_mem _ h)
  have hl : lv_has ls 7 [(0, .ref (o 0)), (1, .ref (ad d)), (2, .int (nI x0)), (3, .int (nI q))] := hl
  have loop : ∀ (k i : Nat) (H : Heap) (locs : List Loc) (ls : Array Slot) (c1 x a : Nat) (m2 : xMem), 1 ≤ i ∧ i ≤ k ∧ i ≤ 24 ∧ x < i ∧ c1 + hlv i ≤ 5 ∧ p_climbA k x c1 i (a, m2) = p_climb d x0 q (n, mem) → va_P D vwCl (wC o ad cI cZ cG tl lc wc dc pn (nI a) isw m2) H → va_D A (wC o ad cI cZ cG tl lc wc dc pn (nI a) isw m2) → va_S A s.heap H locs → lv_has ls 7 [(0, .ref (o 0)), (4, .int (nI x)), (5, .int (nI c1)), (6, .int (nI i))] → W p l e ({ frames := 4, cells := 0, slots := 0, locals := 160 }) s m ([.ref (o 0), .ref (ad d), .int (nI x0), .int (nI q)] : List Value).toArray below meth c H locs 0 0 (MQ below (xQv D vwCl (wC o ad cI cZ cG tl lc wc dc pn (nI (p_climb d x0 q (n, mem)).1) isw ((p_climb d x0 q (n, mem)).2)) A) ([.ref (o 0), .ref (ad d), .int (nI x0), .int (nI q)] : List Value).toArray s 0 0 A) (F0 m 17 ls []) := by
    intro k
    induction k with
    | zero =>
      intro i H locs ls c1 x a m2 hk hP hD hS hl
      exact absurd hk.1 (by omega)
    | succ k ih =>
      intro i H locs ls c1 x a m2 hk hP hD hS hl
      obtain ⟨g1, g2, g3, g4, g6, g7⟩ := hk
      refine lv_iload hx hb dX1_climb_17 (lv_at hl 3 rfl) ?_
      refine lv_iconst (v := nI 1) hx hb dX1_climb_19 (by decide) ?_
      refine lv_icmp_le (tgt := 105) hx hb dX1_climb_20 (by decide) (fun hd => ?_) (fun hd => ?_)
      · have g5 : i ≤ 1 := (nI_leI (by omega) (by decide)).mp hd
        have g8 : (a, m2) = p_climb d x0 q (n, mem) := by rw [← g7]; exact (if_pos g5).symm
        have hP : va_P D vwCl (wC o ad cI cZ cG tl lc wc dc pn (nI (p_climb d x0 q (n, mem)).1) isw ((p_climb d x0 q (n, mem)).2)) H := by rw [← g8]; exact hP
        have hD : va_D A (wC o ad cI cZ cG tl lc wc dc pn (nI (p_climb d x0 q (n, mem)).1) isw ((p_climb d x0 q (n, mem)).2)) := by rw [← g8]; exact hD
        exact mv_ret hx hb hr hlk hS hP hD dX1_climb_105
      · have g5 : 2 ≤ i := by
          rcases Nat.lt_or_ge i 2 with h | h
          · exact absurd (nI_le (by omega) (by decide)) hd
          · exact h
        have g9 := hlv_step i (by omega) g5
        have gx := xor1_le x
        refine lv_iload hx hb dX1_climb_23 (lv_at hl 1 rfl) ?_
        refine lv_iload hx hb dX1_climb_25 (lv_at hl 3 rfl) ?_
        refine mi_callS (As := [.int (nI x), .int (nI i)]) (rest := []) ⟨hx, hb, hml, hown, hW⟩ (c_hasPartner _ (nI x) (nI i)) gE_ok (va_cwS 2 hW (gS tw_340 tw_341 tw_1 tw_342) rfl rfl rfl (by decide +kernel) ⟨Nat.le_of_ble_eq_true rfl, Nat.le_of_ble_eq_true rfl⟩) hP hD hK hS hA hT rfl hl.1 rfl (Nat.le_of_ble_eq_true rfl) dX1_climb_27 ⟨Nat.zero_le _, Nat.zero_le _⟩ (fun H locs hP hD hS => ?_)
        refine lv_eqi (v := hb1 x i) (p_has_eq (by omega) (by omega)) ?_
        refine lv_if_eq (tgt := 87) hx hb dX1_climb_30 (by decide) (fun hh => ?_) (fun hh => ?_)
        · have g8 := hb1_0 hh
          refine lv_iload hx hb dX1_climb_87 (lv_at hl 1 rfl) ?_
          refine lv_iconst (v := nI 2) hx hb dX1_climb_89 (by decide) ?_
          refine lv_idiv hx hb dX1_climb_90 (by decide) ?_
          refine lv_eqi (v := nI (x / 2)) (pk_div (by omega) (by decide) (by decide)) ?_
          refine lv_istore (lv' := [(4, .int (nI (x / 2))), (0, .ref (o 0)), (5, .int (nI c1)), (6, .int (nI i))]) hx hb dX1_climb_91 hl (by decide) rfl (fun ls hl => ?_)
          refine lv_iload hx hb dX1_climb_93 (lv_at hl 3 rfl) ?_
          refine lv_iload hx hb dX1_climb_95 (lv_at hl 3 rfl) ?_
          refine lv_iconst (v := nI 2) hx hb dX1_climb_97 (by decide) ?_
          refine lv_idiv hx hb dX1_climb_98 (by decide) ?_
          refine lv_eqi (v := nI (i / 2)) (pk_div (by omega) (by decide) (by decide)) ?_
          refine lv_isub hx hb dX1_climb_99 ?_
          refine lv_eqi (v := nI (i - i / 2)) (pk_sub (by omega)) ?_
          refine lv_istore (lv' := [(6, .int (nI (i - i / 2))), (4, .int (nI (x / 2))), (0, .ref (o 0)), (5, .int (nI c1))]) hx hb dX1_climb_100 hl (by decide) rfl (fun ls hl => ?_)
          refine lv_goto (tgt := 17) hx hb dX1_climb_102 (by decide) ?_
          exact ih (i - i / 2) H locs ls c1 (x / 2) _ _ ⟨by omega, by omega, by omega, half_lt g4 g5, by omega, by rw [← g7]; exact ((if_neg (by omega)).trans (if_neg g8)).symm⟩ hP hD hS (lv_sub hl [2, 1, 3, 0] rfl)
        · have g8 := hb1_1 hh
          refine lv_iload hx hb dX1_climb_33 (lv_at hl 1 rfl) ?_
          refine mi_callS (As := [.int (nI x)]) (rest := []) ⟨hx, hb, hml, hown, hW⟩ (c_partnerOf _ (nI x)) gE_ok (va_cwS 1 hW (gS tw_343 tw_344 tw_1 tw_345) rfl rfl rfl (by decide +kernel) ⟨Nat.le_of_ble_eq_true rfl, Nat.le_of_ble_eq_true rfl⟩) hP hD hK hS hA hT rfl hl.1 rfl (Nat.le_of_ble_eq_true rfl) dX1_climb_35 ⟨Nat.zero_le _, Nat.zero_le _⟩ (fun H locs hP hD hS => ?_)
          refine lv_eqi (v := nI (x ^^^ 1)) (nI_xor1 x) ?_
          refine lv_iload hx hb dX1_climb_38 (lv_at hl 1 rfl) ?_
          refine lv_icmp_le (tgt := 65) hx hb dX1_climb_40 (by decide) (fun hr2 => ?_) (fun hr2 => ?_)
          · have gl : ¬ x < x ^^^ 1 := fun h => nI_ge h (by omega) hr2
            refine lv_aload_n hx hb dX1_climb_65 rfl (lv_at hl 0 rfl) ?_
            refine lv_aload_n hx hb dX1_climb_66 rfl (lv_at hl 0 rfl) ?_
            refine va_get (D := D) (ci := 0) (v := .ref (o 4)) (C := RX1) (T := TX1) (N := 14) hx hb hW iPL hown hK hP 0 rfl rfl 10 (by decide) (hW _ tw_54) (fun _ h9 => h9) rfl dX1_climb_67 ?_
            refine lv_iload hx hb dX1_climb_70 (lv_at hl 2 rfl) ?_
            refine m_row hx hb hK hP 4 2 c1 rfl rfl (by omega) (by decide) rfl dX1_climb_72 ?_
            refine lv_aload_n hx hb dX1_climb_73 rfl (lv_at hl 0 rfl) ?_
            refine va_get (D := D) (ci := 0) (v := .ref (ad 2)) (C := RX1) (T := TX1) (N := 14) hx hb hW iPL hown hK hP 0 rfl rfl 13 (by decide) (hW _ tw_57) (fun _ h9 => h9) rfl dX1_climb_74 ?_
            refine lv_aload_n hx hb dX1_climb_77 rfl (lv_at hl 0 rfl) ?_
            refine va_get (D := D) (ci := 0) (v := .ref (ad 2)) (C := RX1) (T := TX1) (N := 14) hx hb hW iPL hown hK hP 0 rfl rfl 13 (by decide) (hW _ tw_57) (fun _ h9 => h9) rfl dX1_climb_78 ?_
            refine mv_callV (C := RX1) (As := [.ref (ad (42 + c1)), .ref (ad 2), .ref (ad 2)]) (rest := []) ⟨hx, hb, hml, hown, hW⟩ (c_nodeInto (42 + c1) 2 2 (⟨⟨by omega, by first | decide | exact lenC_row (by omega)⟩, ⟨by omega, by first | decide | exact lenC_row (by omega)⟩, ⟨by decide, by decide⟩⟩) a m2) gE_ok (cwV 3 hW (gV tw_257 tw_259 tv_X1_nodeInto tw_1 tw_260) rfl rfl rfl (by decide +kernel) ⟨Nat.le_of_ble_eq_true rfl, Nat.le_of_ble_eq_true rfl⟩) (va_recv hK hP (ci := 0) (q0 := 0) rfl rfl) hP hD hK hS hA hT rfl hl.1 rfl (Nat.le_of_ble_eq_true rfl) dX1_climb_81 ⟨Nat.zero_le _, Nat.zero_le _⟩ (fun H locs hP hD hS => ?_)
            have hP : va_P D vwCl (wC o ad cI cZ cG tl lc wc dc pn (nI (p_node (42 + c1) 2 2 m2).1) isw ((p_node (42 + c1) 2 2 m2).2)) H := hP
            have hD : va_D A (wC o ad cI cZ cG tl lc wc dc pn (nI (p_node (42 + c1) 2 2 m2).1) isw ((p_node (42 + c1) 2 2 m2).2)) := hD
            refine lv_iinc (v := nI (c1 + 1)) (lv' := [(5, .int (nI (c1 + 1))), (0, .ref (o 0)), (4, .int (nI x)), (6, .int (nI i))]) hx hb dX1_climb_84 hl (k := 2) rfl (nI_1 c1) (by decide) rfl (fun ls hl => ?_)
            refine lv_iload hx hb dX1_climb_87 (lv_at hl 2 rfl) ?_
            refine lv_iconst (v := nI 2) hx hb dX1_climb_89 (by decide) ?_
            refine lv_idiv hx hb dX1_climb_90 (by decide) ?_
            refine lv_eqi (v := nI (x / 2)) (pk_div (by omega) (by decide) (by decide)) ?_
            refine lv_istore (lv' := [(4, .int (nI (x / 2))), (5, .int (nI (c1 + 1))), (0, .ref (o 0)), (6, .int (nI i))]) hx hb dX1_climb_91 hl (by decide) rfl (fun ls hl => ?_)
            refine lv_iload hx hb dX1_climb_93 (lv_at hl 3 rfl) ?_
            refine lv_iload hx hb dX1_climb_95 (lv_at hl 3 rfl) ?_
            refine lv_iconst (v := nI 2) hx hb dX1_climb_97 (by decide) ?_
            refine lv_idiv hx hb dX1_climb_98 (by decide) ?_
            refine lv_eqi (v := nI (i / 2)) (pk_div (by omega) (by decide) (by decide)) ?_
            refine lv_isub hx hb dX1_climb_99 ?_
            refine lv_eqi (v := nI (i - i / 2)) (pk_sub (by omega)) ?_
            refine lv_istore (lv' := [(6, .int (nI (i - i / 2))), (4, .int (nI (x / 2))), (5, .int (nI (c1 + 1))), (0, .ref (o 0))]) hx hb dX1_climb_100 hl (by decide) rfl (fun ls hl => ?_)
            refine lv_goto (tgt := 17) hx hb dX1_climb_102 (by decide) ?_
            exact ih (i - i / 2) H locs ls (c1 + 1) (x / 2) _ _ ⟨by omega, by omega, by omega, half_lt g4 g5, by omega, by rw [← g7]; exact ((if_neg (by omega)).trans ((if_pos g8).trans (by rw [if_neg gl]))).symm⟩ hP hD hS (lv_sub hl [3, 1, 2, 0] rfl)
          · have gl : x < x ^^^ 1 := by
              rcases Nat.lt_or_ge x (x ^^^ 1) with h | h
              · exact h
              · exact absurd (nI_le h (by omega)) hr2
            refine lv_aload_n hx hb dX1_climb_43 rfl (lv_at hl 0 rfl) ?_
            refine lv_aload_n hx hb dX1_climb_44 rfl (lv_at hl 0 rfl) ?_
            refine va_get (D := D) (ci := 0) (v := .ref (ad 2)) (C := RX1) (T := TX1) (N := 14) hx hb hW iPL hown hK hP 0 rfl rfl 13 (by decide) (hW _ tw_57) (fun _ h9 => h9) rfl dX1_climb_45 ?_
            refine lv_aload_n hx hb dX1_climb_48 rfl (lv_at hl 0 rfl) ?_
            refine va_get (D := D) (ci := 0) (v := .ref (o 4)) (C := RX1) (T := TX1) (N := 14) hx hb hW iPL hown hK hP 0 rfl rfl 10 (by decide) (hW _ tw_54) (fun _ h9 => h9) rfl dX1_climb_49 ?_
            refine lv_iload hx hb dX1_climb_52 (lv_at hl 2 rfl) ?_
            refine m_row hx hb hK hP 4 2 c1 rfl rfl (by omega) (by decide) rfl dX1_climb_54 ?_
            refine lv_aload_n hx hb dX1_climb_55 rfl (lv_at hl 0 rfl) ?_
            refine va_get (D := D) (ci := 0) (v := .ref (ad 2)) (C := RX1) (T := TX1) (N := 14) hx hb hW iPL hown hK hP 0 rfl rfl 13 (by decide) (hW _ tw_57) (fun _ h9 => h9) rfl dX1_climb_56 ?_
            refine mv_callV (C := RX1) (As := [.ref (ad 2), .ref (ad (42 + c1)), .ref (ad 2)]) (rest := []) ⟨hx, hb, hml, hown, hW⟩ (c_nodeInto 2 (42 + c1) 2 (⟨⟨by omega, by first | decide | exact lenC_row (by omega)⟩, ⟨by omega, by first | decide | exact lenC_row (by omega)⟩, ⟨by decide, by decide⟩⟩) a m2) gE_ok (cwV 3 hW (gV tw_257 tw_259 tv_X1_nodeInto tw_1 tw_260) rfl rfl rfl (by decide +kernel) ⟨Nat.le_of_ble_eq_true rfl, Nat.le_of_ble_eq_true rfl⟩) (va_recv hK hP (ci := 0) (q0 := 0) rfl rfl) hP hD hK hS hA hT rfl hl.1 rfl (Nat.le_of_ble_eq_true rfl) dX1_climb_59 ⟨Nat.zero_le _, Nat.zero_le _⟩ (fun H locs hP hD hS => ?_)
            have hP : va_P D vwCl (wC o ad cI cZ cG tl lc wc dc pn (nI (p_node 2 (42 + c1) 2 m2).1) isw ((p_node 2 (42 + c1) 2 m2).2)) H := hP
            have hD : va_D A (wC o ad cI cZ cG tl lc wc dc pn (nI (p_node 2 (42 + c1) 2 m2).1) isw ((p_node 2 (42 + c1) 2 m2).2)) := hD
            refine lv_goto (tgt := 84) hx hb dX1_climb_62 (by decide) ?_
            refine lv_iinc (v := nI (c1 + 1)) (lv' := [(5, .int (nI (c1 + 1))), (0, .ref (o 0)), (4, .int (nI x)), (6, .int (nI i))]) hx hb dX1_climb_84 hl (k := 2) rfl (nI_1 c1) (by decide) rfl (fun ls hl => ?_)
            refine lv_iload hx hb dX1_climb_87 (lv_at hl 2 rfl) ?_
            refine lv_iconst (v := nI 2) hx hb dX1_climb_89 (by decide) ?_
            refine lv_idiv hx hb dX1_climb_90 (by decide) ?_
            refine lv_eqi (v := nI (x / 2)) (pk_div (by omega) (by decide) (by decide)) ?_
            refine lv_istore (lv' := [(4, .int (nI (x / 2))), (5, .int (nI (c1 + 1))), (0, .ref (o 0)), (6, .int (nI i))]) hx hb dX1_climb_91 hl (by decide) rfl (fun ls hl => ?_)
            refine lv_iload hx hb dX1_climb_93 (lv_at hl 3 rfl) ?_
            refine lv_iload hx hb dX1_climb_95 (lv_at hl 3 rfl) ?_
            refine lv_iconst (v := nI 2) hx hb dX1_climb_97 (by decide) ?_
            refine lv_idiv hx hb dX1_climb_98 (by decide) ?_
            refine lv_eqi (v := nI (i / 2)) (pk_div (by omega) (by decide) (by decide)) ?_
            refine lv_isub hx hb dX1_climb_99 ?_
            refine lv_eqi (v := nI (i - i / 2)) (pk_sub (by omega)) ?_
            refine lv_istore (lv' := [(6, .int (nI (i - i / 2))), (4, .int (nI (x / 2))), (5, .int (nI (c1 + 1))), (0, .ref (o 0))]) hx hb dX1_climb_100 hl (by decide) rfl (fun ls hl => ?_)
            refine lv_goto (tgt := 17) hx hb dX1_climb_102 (by decide) ?_
            exact ih (i - i / 2) H locs ls (c1 + 1) (x / 2) _ _ ⟨by omega, by omega, by omega, half_lt g4 g5, by omega, by rw [← g7]; exact ((if_neg (by omega)).trans ((if_pos g8).trans (by rw [if_pos gl]))).symm⟩ hP hD hS (lv_sub hl [3, 1, 2, 0] rfl)
  refine lv_aload_n hx hb dX1_climb_0 rfl (lv_at hl 1 rfl) ?_
  refine lv_aload_n hx hb dX1_climb_1 rfl (lv_at hl 0 rfl) ?_
  refine va_get (D := D) (ci := 0) (v := .ref (ad 2)) (C := RX1) (T := TX1) (N := 14) hx hb hW iPL hown hK hP 0 rfl rfl 13 (by decide) (hW _ tw_57) (fun _ h9 => h9) rfl dX1_climb_2 ?_
  refine mv_callS (As := [.ref (ad d), .ref (ad 2)]) (rest := []) ⟨hx, hb, hml, hown, hW⟩ (c_copyDigest d 2 (hd0) (by decide) (hd1) (by decide) (nI n) mem) gE_ok (va_cwS 2 hW (gS tw_249 tw_250 tw_1 tw_251) rfl rfl rfl (by decide +kernel) ⟨Nat.le_of_ble_eq_true rfl, Nat.le_of_ble_eq_true rfl⟩) hP hD hK hS hA hT rfl hl.1 rfl (Nat.le_of_ble_eq_true rfl) dX1_climb_5 ⟨Nat.zero_le _, Nat.zero_le _⟩ (fun H locs hP hD hS => ?_)
  have hP : va_P D vwCl (wC o ad cI cZ cG tl lc wc dc pn (nI n) isw (p_copy d 2 mem)) H := hP
  have hD : va_D A (wC o ad cI cZ cG tl lc wc dc pn (nI n) isw (p_copy d 2 mem)) := hD
  refine lv_iload_n hx hb dX1_climb_8 rfl (lv_at hl 2 rfl) ?_
  refine lv_istore (lv' := [(4, .int (nI x0)), (0, .ref (o 0)), (1, .ref (ad d)), (2, .int (nI x0)), (3, .int (nI q))]) hx hb dX1_climb_9 hl (by decide) rfl (fun ls hl => ?_)
  refine lv_iconst (v := nI 0) hx hb dX1_climb_11 (by decide) ?_
  refine lv_istore (lv' := [(5, .int (nI 0)), (4, .int (nI x0)), (0, .ref (o 0)), (1, .ref (ad d)), (2, .int (nI x0)), (3, .int (nI q))]) hx hb dX1_climb_12 hl (by decide) rfl (fun ls hl => ?_)
  refine lv_iload_n hx hb dX1_climb_14 rfl (lv_at hl 5 rfl) ?_
  refine lv_istore (lv' := [(6, .int (nI q)), (5, .int (nI 0)), (4, .int (nI x0)), (0, .ref (o 0)), (1, .ref (ad d)), (2, .int (nI x0)), (3, .int (nI q))]) hx hb dX1_climb_15 hl (by decide) rfl (fun ls hl => ?_)
  exact loop q q H locs ls 0 x0 _ _ ⟨by omega, by omega, by omega, by omega, by have := hlv_5 q (by omega); omega, rfl⟩ hP hD hS (lv_sub hl [3, 2, 1, 0] rfl)
set_option maxHeartbeats 1000000 in
set_option maxRecDepth 100000 in
/-- stillMakesRoot(y) -/
theorem c_stillMakesRoot {l : Launch} {D : va_G} {o ad : Nat → Nat} {cI cZ cG : ClassId} {tl lc wc dc pn : Int32} {isw : Nat → Int32} (y q : Nat) (hy : y < 12) (hq : q ≤ 24) (n : Nat) (mem : Nat → Nat → Int32) (hm : mem 1 y = nI q) : MI l gE yX1_stillMakesRoot (.code yX1_stillMakesRoot cX1_stillMakesRoot 2 (some .boolean) :: tW) ({ frames := 6, cells := 0, slots := 0, locals := 230 }) D vwCl (tC cI cZ cG) [.ref (o 0), .int (nI y)] (wC o ad cI cZ cG tl lc wc dc pn (nI n) isw mem) (wC o ad cI cZ cG tl lc wc dc pn (nI (p_tree q 2 (n, mem)).1) isw ((p_tree q 2 (n, mem)).2)) (p_still q y (n, mem)) := by
  refine MI.ofW (by decide +kernel) rfl (Nat.le_of_ble_eq_true rfl) ?_
  intro p e s m below meth c A ls hx hb hr hts hown hlk hml hA hP hK hD hT hl
  have hS : va_S A s.heap s.heap [] := va_S.rf
  have hown : s.vm.findClass RX1 = some m.cls := hown
  have hW : ∀ w ∈ tW, w.before _ s = true := fun w h => hts w (List.mem_cons_of_mem _ h)
  have hl : lv_has ls 2 [(0, .ref (o 0)), (1, .int (nI y))] := hl
  refine lv_aload_n hx hb dX1_stillMakesRoot_0 rfl (lv_at hl 0 rfl) ?_
  refine lv_aload_n hx hb dX1_stillMakesRoot_1 rfl (lv_at hl 0 rfl) ?_
  refine va_get (D := D) (ci := 0) (v := .ref (ad 1)) (C := RX1) (T := TX1) (N := 14) hx hb hW iPL hown hK hP 0 rfl rfl 8 (by decide) (hW _ tw_52) (fun _ h9 => h9) rfl dX1_stillMakesRoot_2 ?_
  refine lv_iload_n hx hb dX1_stillMakesRoot_5 rfl (lv_at hl 1 rfl) ?_
  refine m_ld (X := wX o ad cZ cG tl lc wc dc pn (nI n) isw) hx hb hK hP 0 1 y rfl (by decide) (show y < 12 by omega) (by decide) dX1_stillMakesRoot_6 ?_
  refine lv_eqi (v := nI q) (hm) ?_
  refine lv_aload_n hx hb dX1_stillMakesRoot_7 rfl (lv_at hl 0 rfl) ?_
  refine va_get (D := D) (ci := 0) (v := .ref (ad 2)) (C := RX1) (T := TX1) (N := 14) hx hb hW iPL hown hK hP 0 rfl rfl 13 (by decide) (hW _ tw_57) (fun _ h9 => h9) rfl dX1_stillMakesRoot_8 ?_
  refine mv_callV (C := RX1) (As := [.int (nI q), .ref (ad 2)]) (rest := []) ⟨hx, hb, hml, hown, hW⟩ (c_treeInto q 2 (hq) (by decide) (by decide) n mem) gE_ok (cwV 2 hW (gV tw_241 tw_243 tv_X1_treeInto tw_1 tw_244) rfl rfl rfl (by decide +kernel) ⟨Nat.le_of_ble_eq_true rfl, Nat.le_of_ble_eq_true rfl⟩) (va_recv hK hP (ci := 0) (q0 := 0) rfl rfl) hP hD hK hS hA hT rfl hl.1 rfl (Nat.le_of_ble_eq_true rfl) dX1_stillMakesRoot_11 ⟨Nat.zero_le _, Nat.zero_le _⟩ (fun H locs hP hD hS => ?_)
  have hP : va_P D vwCl (wC o ad cI cZ cG tl lc wc dc pn (nI (p_tree q 2 (n, mem)).1) isw ((p_tree q 2 (n, mem)).2)) H := hP
  have hD : va_D A (wC o ad cI cZ cG tl lc wc dc pn (nI (p_tree q 2 (n, mem)).1) isw ((p_tree q 2 (n, mem)).2)) := hD
  refine lv_aload_n hx hb dX1_stillMakesRoot_14 rfl (lv_at hl 0 rfl) ?_
  refine va_get (D := D) (ci := 0) (v := .ref (ad 2)) (C := RX1) (T := TX1) (N := 14) hx hb hW iPL hown hK hP 0 rfl rfl 13 (by decide) (hW _ tw_57) (fun _ h9 => h9) rfl dX1_stillMakesRoot_15 ?_
  refine lv_aload_n hx hb dX1_stillMakesRoot_18 rfl (lv_at hl 0 rfl) ?_
  refine va_get (D := D) (ci := 0) (v := .ref (o 3)) (C := RX1) (T := TX1) (N := 14) hx hb hW iPL hown hK hP 0 rfl rfl 7 (by decide) (hW _ tw_51) (fun _ h9 => h9) rfl dX1_stillMakesRoot_19 ?_
  refine lv_iload_n hx hb dX1_stillMakesRoot_22 rfl (lv_at hl 1 rfl) ?_
  refine m_row hx hb hK hP 3 2 y rfl rfl (by omega) (by decide) rfl dX1_stillMakesRoot_23 ?_
  refine mi_callS (As := [.ref (ad 2), .ref (ad (30 + y))]) (rest := []) ⟨hx, hb, hml, hown, hW⟩ (c_compareDigests 2 (30 + y) (by decide) (by omega) (by decide) (lenC_row (by omega)) (nI (p_tree q 2 (n, mem)).1) ((p_tree q 2 (n, mem)).2)) gE_ok (va_cwS 2 hW (gS tw_385 tw_386 tw_1 tw_387) rfl rfl rfl (by decide +kernel) ⟨Nat.le_of_ble_eq_true rfl, Nat.le_of_ble_eq_true rfl⟩) hP hD hK hS hA hT rfl hl.1 rfl (Nat.le_of_ble_eq_true rfl) dX1_stillMakesRoot_24 ⟨Nat.zero_le _, Nat.zero_le _⟩ (fun H locs hP hD hS => ?_)
  refine lv_if_ne (tgt := 34) hx hb dX1_stillMakesRoot_27 (by decide) (fun hc => ?_) (fun hc => ?_)
  · refine lv_iconst (v := nI 0) hx hb dX1_stillMakesRoot_34 (by decide) ?_
    have hP : va_P D vwCl (wC o ad cI cZ cG tl lc wc dc pn (nI (p_tree q 2 (n, mem)).1) isw ((p_tree q 2 (n, mem)).2)) H := by exact hP
    have hD : va_D A (wC o ad cI cZ cG tl lc wc dc pn (nI (p_tree q 2 (n, mem)).1) isw ((p_tree q 2 (n, mem)).2)) := by exact hD
    exact mi_ret hx hb hr rfl hlk hS hP hD ((if_neg hc).symm) dX1_stillMakesRoot_35
  · refine lv_iconst (v := nI 1) hx hb dX1_stillMakesRoot_30 (by decide) ?_
    refine lv_goto (tgt := 35) hx hb dX1_stillMakesRoot_31 (by decide) ?_
    have hP : va_P D vwCl (wC o ad cI cZ cG tl lc wc dc pn (nI (p_tree q 2 (n, mem)).1) isw ((p_tree q 2 (n, mem)).2)) H := by exact hP
    have hD : va_D A (wC o ad cI cZ cG tl lc wc dc pn (nI (p_tree q 2 (n, mem)).1) isw ((p_tree q 2 (n, mem)).2)) := by exact hD
    exact mi_ret hx hb hr rfl hlk hS hP hD ((if_pos hc).symm) dX1_stillMakesRoot_35
set_option maxHeartbeats 1000000 in
set_option maxRecDepth 100000 in
/-- liesOn(sd, x, y) -/
theorem c_liesOn {l : Launch} {D : va_G} {o ad : Nat → Nat} {cI cZ cG : ClassId} {tl lc wc dc pn : Int32} {isw : Nat → Int32} (sd : Int32) (x y : Nat) (hx0 : x < 24) (hy0 : y < 24) (sl : Int32) (mem : Nat → Nat → Int32) : MI l gE yX1_liesOn (.code yX1_liesOn cX1_liesOn 5 (some .boolean) :: tW) ({ frames := 1, cells := 0, slots := 0, locals := 24 }) D vwCl (tC cI cZ cG) [.ref (o 0), .int sd, .int (nI x), .int (nI y)] (wC o ad cI cZ cG tl lc wc dc pn sl isw mem) (wC o ad cI cZ cG tl lc wc dc pn sl isw mem) (p_lies sd (p_cmp (mem (6 + x)) (mem (6 + y)))) := by
  refine MI.ofW (by decide +kernel) rfl (Nat.le_of_ble_eq_true rfl) ?_
  intro p e s m below meth c A ls hx hb hr hts hown hlk hml hA hP hK hD hT hl
  have hS : va_S A s.heap s.heap [] := va_S.rf
  have hown : s.vm.findClass RX1 = some m.cls := hown
  have hW : ∀ w ∈ tW, w.before _ s = true := fun w h => hts w (List.mem_cons_of_mem _ h)
  have hl : lv_has ls 5 [(0, .ref (o 0)), (1, .int sd), (2, .int (nI x)), (3, .int (nI y))] := hl
  refine lv_aload_n hx hb dX1_liesOn_0 rfl (lv_at hl 0 rfl) ?_
  refine va_get (D := D) (ci := 0) (v := .ref (o 2)) (C := RX1) (T := TX1) (N := 14) hx hb hW iPL hown hK hP 0 rfl rfl 3 (by decide) (hW _ tw_47) (fun _ h9 => h9) rfl dX1_liesOn_1 ?_
  refine lv_iload_n hx hb dX1_liesOn_4 rfl (lv_at hl 2 rfl) ?_
  refine m_row hx hb hK hP 2 2 x rfl rfl (by omega) (by decide) rfl dX1_liesOn_5 ?_
  refine lv_aload_n hx hb dX1_liesOn_6 rfl (lv_at hl 0 rfl) ?_
  refine va_get (D := D) (ci := 0) (v := .ref (o 2)) (C := RX1) (T := TX1) (N := 14) hx hb hW iPL hown hK hP 0 rfl rfl 3 (by decide) (hW _ tw_47) (fun _ h9 => h9) rfl dX1_liesOn_7 ?_
  refine lv_iload_n hx hb dX1_liesOn_10 rfl (lv_at hl 3 rfl) ?_
  refine m_row hx hb hK hP 2 2 y rfl rfl (by omega) (by decide) rfl dX1_liesOn_11 ?_
  refine mi_callS (As := [.ref (ad (6 + x)), .ref (ad (6 + y))]) (rest := []) ⟨hx, hb, hml, hown, hW⟩ (c_compareDigests (6 + x) (6 + y) (by omega) (by omega) (lenC_row (by omega)) (lenC_row (by omega)) sl mem) gE_ok (va_cwS 2 hW (gS tw_385 tw_386 tw_1 tw_387) rfl rfl rfl (by decide +kernel) ⟨Nat.le_of_ble_eq_true rfl, Nat.le_of_ble_eq_true rfl⟩) hP hD hK hS hA hT rfl hl.1 rfl (Nat.le_of_ble_eq_true rfl) dX1_liesOn_12 ⟨Nat.zero_le _, Nat.zero_le _⟩ (fun H locs hP hD hS => ?_)
  refine lv_istore (lv' := [(4, .int (p_cmp (mem (6 + x)) (mem (6 + y)))), (0, .ref (o 0)), (1, .int sd), (2, .int (nI x)), (3, .int (nI y))]) hx hb dX1_liesOn_15 hl (by decide) rfl (fun ls hl => ?_)
  refine lv_iload_n hx hb dX1_liesOn_17 rfl (lv_at hl 2 rfl) ?_
  refine lv_if_ne (tgt := 34) hx hb dX1_liesOn_18 (by decide) (fun hc => ?_) (fun hc => ?_)
  · refine lv_iload hx hb dX1_liesOn_34 (lv_at hl 0 rfl) ?_
    refine lv_if_le (tgt := 43) hx hb dX1_liesOn_36 (by decide) (fun he => ?_) (fun he => ?_)
    · refine lv_iconst (v := nI 0) hx hb dX1_liesOn_43 (by decide) ?_
      have hP : va_P D vwCl (wC o ad cI cZ cG tl lc wc dc pn sl isw mem) H := by exact hP
      have hD : va_D A (wC o ad cI cZ cG tl lc wc dc pn sl isw mem) := by exact hD
      exact mi_ret hx hb hr rfl hlk hS hP hD (((if_neg hc).trans (if_neg (Int32.not_lt.mpr he))).symm) dX1_liesOn_44
    · refine lv_iconst (v := nI 1) hx hb dX1_liesOn_39 (by decide) ?_
      refine lv_goto (tgt := 44) hx hb dX1_liesOn_40 (by decide) ?_
      have hP : va_P D vwCl (wC o ad cI cZ cG tl lc wc dc pn sl isw mem) H := by exact hP
      have hD : va_D A (wC o ad cI cZ cG tl lc wc dc pn sl isw mem) := by exact hD
      exact mi_ret hx hb hr rfl hlk hS hP hD (((if_neg hc).trans (if_pos (Int32.not_le.mp he))).symm) dX1_liesOn_44
  · refine lv_iload hx hb dX1_liesOn_21 (lv_at hl 0 rfl) ?_
    refine lv_if_ge (tgt := 30) hx hb dX1_liesOn_23 (by decide) (fun he => ?_) (fun he => ?_)
    · refine lv_iconst (v := nI 0) hx hb dX1_liesOn_30 (by decide) ?_
      refine lv_goto (tgt := 44) hx hb dX1_liesOn_31 (by decide) ?_
      have hP : va_P D vwCl (wC o ad cI cZ cG tl lc wc dc pn sl isw mem) H := by exact hP
      have hD : va_D A (wC o ad cI cZ cG tl lc wc dc pn sl isw mem) := by exact hD
      exact mi_ret hx hb hr rfl hlk hS hP hD (((if_pos hc).trans (if_neg (Int32.not_lt.mpr he))).symm) dX1_liesOn_44
    · refine lv_iconst (v := nI 1) hx hb dX1_liesOn_26 (by decide) ?_
      refine lv_goto (tgt := 44) hx hb dX1_liesOn_27 (by decide) ?_
      have hP : va_P D vwCl (wC o ad cI cZ cG tl lc wc dc pn sl isw mem) H := by exact hP
      have hD : va_D A (wC o ad cI cZ cG tl lc wc dc pn sl isw mem) := by exact hD
      exact mi_ret hx hb hr rfl hlk hS hP hD (((if_pos hc).trans (if_pos (Int32.not_le.mp he))).symm) dX1_liesOn_44
set_option maxHeartbeats 1000000 in
set_option maxRecDepth 100000 in
/-- nearestWithdrawn(lf, sd) -/
theorem c_nearestWithdrawn {l : Launch} {D : va_G} {o ad : Nat → Nat} {cI cZ cG : ClassId} {tl lc wc dc pn : Int32} {isw : Nat → Int32} (lf q : Nat) (hl0 : lf < 24) (hq : q ≤ 24) (hlc : lc = nI q) (sd sl : Int32) (mem : Nat → Nat → Int32) : MI l gE yX1_nearestWithdrawn (.code yX1_nearestWithdrawn cX1_nearestWithdrawn 5 (some .int) :: tW) ({ frames := 2, cells := 0, slots := 0, locals := 56 }) D vwCl (tC cI cZ cG) [.ref (o 0), .int (nI lf), .int sd] (wC o ad cI cZ cG tl lc wc dc pn sl isw mem) (wC o ad cI cZ cG tl lc wc dc pn sl isw mem) (nrI (p_near sd isw mem lf q)) := by
  refine MI.ofW (by decide +kernel) rfl (Nat.le_of_ble_eq_true rfl) ?_
  intro p e s m below meth c A ls hx hb hr hts hown hlk hml hA hP hK hD hT hl
  have hS : va_S A s.heap s.heap [] := va_S.rf
  have hown : s.vm.findClass RX1 = some m.cls := hown
  have hW : ∀ w ∈ tW, w.before _ s = true := fun w h => hts w (List.mem_cons_of_mem _ h)
  have hl : lv_has ls 5 [(0, .ref (o 0)), (1, .int (nI lf)), (2, .int sd)] := hl
  have loop : ∀ (k i : Nat) (H : Heap) (locs : List Loc) (ls : Array Slot), i + k = q → va_P D vwCl (wC o ad cI cZ cG tl lc wc dc pn sl isw mem) H → va_D A (wC o ad cI cZ cG tl lc wc dc pn sl isw mem) → va_S A s.heap H locs → lv_has ls 5 [(0, .ref (o 0)), (1, .int (nI lf)), (2, .int sd), (3, .int (nrI (p_near sd isw mem lf i))), (4, .int (nI i))] → W p l e ({ frames := 2, cells := 0, slots := 0, locals := 56 }) s m ([.ref (o 0), .int (nI lf), .int sd] : List Value).toArray below meth c H locs 0 0 (MQ below (xQi D vwCl (wC o ad cI cZ cG tl lc wc dc pn sl isw mem) (nrI (p_near sd isw mem lf q)) A) ([.ref (o 0), .int (nI lf), .int sd] : List Value).toArray s 0 0 A) (F0 m 5 ls []) := by
    intro k
    induction k with
    | zero =>
      intro i H locs ls hk hP hD hS hl
      have hk : i = q := by omega
      refine lv_iload hx hb dX1_nearestWithdrawn_5 (lv_at hl 4 rfl) ?_
      refine lv_aload_n hx hb dX1_nearestWithdrawn_7 rfl (lv_at hl 0 rfl) ?_
      refine va_get (D := D) (ci := 0) (v := .int lc) (C := RX1) (T := TX1) (N := 14) hx hb hW iPL hown hK hP 0 rfl rfl 5 (by decide) (hW _ tw_49) (fun _ h9 => h9) rfl dX1_nearestWithdrawn_8 ?_
      refine lv_eqi (v := nI q) (hlc) ?_
      refine lv_icmp_ge (tgt := 60) hx hb dX1_nearestWithdrawn_11 (by decide) (fun hc => ?_) (fun hc => ?_)
      · refine lv_iload_n hx hb dX1_nearestWithdrawn_60 rfl (lv_at hl 3 rfl) ?_
        have hP : va_P D vwCl (wC o ad cI cZ cG tl lc wc dc pn sl isw mem) H := by exact hP
        have hD : va_D A (wC o ad cI cZ cG tl lc wc dc pn sl isw mem) := by exact hD
        exact mi_ret hx hb hr rfl hlk hS hP hD (by rw [hk]) dX1_nearestWithdrawn_61
      · exact absurd (nI_le (by omega) (by omega)) hc
    | succ k ih =>
      intro i H locs ls hk hP hD hS hl
      refine lv_iload hx hb dX1_nearestWithdrawn_5 (lv_at hl 4 rfl) ?_
      refine lv_aload_n hx hb dX1_nearestWithdrawn_7 rfl (lv_at hl 0 rfl) ?_
      refine va_get (D := D) (ci := 0) (v := .int lc) (C := RX1) (T := TX1) (N := 14) hx hb hW iPL hown hK hP 0 rfl rfl 5 (by decide) (hW _ tw_49) (fun _ h9 => h9) rfl dX1_nearestWithdrawn_8 ?_
      refine lv_eqi (v := nI q) (hlc) ?_
      refine lv_icmp_ge (tgt := 60) hx hb dX1_nearestWithdrawn_11 (by decide) (fun hc => ?_) (fun hc => ?_)
      · exact absurd hc (nI_ge (by omega) (by omega))
      · refine lv_aload_n hx hb dX1_nearestWithdrawn_14 rfl (lv_at hl 0 rfl) ?_
        refine va_get (D := D) (ci := 0) (v := .ref (o 6)) (C := RX1) (T := TX1) (N := 14) hx hb hW iPL hown hK hP 0 rfl rfl 4 (by decide) (hW _ tw_48) (fun _ h9 => h9) rfl dX1_nearestWithdrawn_15 ?_
        refine lv_iload hx hb dX1_nearestWithdrawn_18 (lv_at hl 4 rfl) ?_
        refine m_zld hx hb hK hP 6 1 i rfl rfl (by omega) (by decide) dX1_nearestWithdrawn_20 ?_
        refine lv_if_eq (tgt := 54) hx hb dX1_nearestWithdrawn_21 (by decide) (fun ha => ?_) (fun ha => ?_)
        · have e1 : p_near sd isw mem lf (i + 1) = p_near sd isw mem lf i := if_pos ha
          refine lv_iinc (v := nI (i + 1)) (lv' := [(4, .int (nI (i + 1))), (0, .ref (o 0)), (1, .int (nI lf)), (2, .int sd), (3, .int (nrI (p_near sd isw mem lf i)))]) hx hb dX1_nearestWithdrawn_54 hl (k := 4) rfl (nI_1 i) (by decide) rfl (fun ls hl => ?_)
          refine lv_goto (tgt := 5) hx hb dX1_nearestWithdrawn_57 (by decide) ?_
          have hl := lv_sub hl [1, 2, 3, 4, 0] rfl
          refine ih (i + 1) H locs ls (by omega) hP hD hS ?_
          rw [e1]
          exact hl
        · refine lv_aload_n hx hb dX1_nearestWithdrawn_24 rfl (lv_at hl 0 rfl) ?_
          refine lv_iload_n hx hb dX1_nearestWithdrawn_25 rfl (lv_at hl 2 rfl) ?_
          refine lv_iload hx hb dX1_nearestWithdrawn_26 (lv_at hl 4 rfl) ?_
          refine lv_iload_n hx hb dX1_nearestWithdrawn_28 rfl (lv_at hl 1 rfl) ?_
          refine mi_callV (C := RX1) (As := [.int sd, .int (nI i), .int (nI lf)]) (rest := []) ⟨hx, hb, hml, hown, hW⟩ (c_liesOn sd i lf (by omega) (by omega) sl mem) gE_ok (cwV 3 hW (gV tw_421 tw_423 tv_X1_liesOn tw_1 tw_424) rfl rfl rfl (by decide +kernel) ⟨Nat.le_of_ble_eq_true rfl, Nat.le_of_ble_eq_true rfl⟩) (va_recv hK hP (ci := 0) (q0 := 0) rfl rfl) hP hD hK hS hA hT rfl hl.1 rfl (Nat.le_of_ble_eq_true rfl) dX1_nearestWithdrawn_29 ⟨Nat.zero_le _, Nat.zero_le _⟩ (fun H locs hP hD hS => ?_)
          refine lv_if_eq (tgt := 54) hx hb dX1_nearestWithdrawn_32 (by decide) (fun hb2 => ?_) (fun hb2 => ?_)
          · have e1 : p_near sd isw mem lf (i + 1) = p_near sd isw mem lf i := (if_neg ha).trans (if_pos hb2)
            refine lv_iinc (v := nI (i + 1)) (lv' := [(4, .int (nI (i + 1))), (0, .ref (o 0)), (1, .int (nI lf)), (2, .int sd), (3, .int (nrI (p_near sd isw mem lf i)))]) hx hb dX1_nearestWithdrawn_54 hl (k := 4) rfl (nI_1 i) (by decide) rfl (fun ls hl => ?_)
            refine lv_goto (tgt := 5) hx hb dX1_nearestWithdrawn_57 (by decide) ?_
            have hl := lv_sub hl [1, 2, 3, 4, 0] rfl
            refine ih (i + 1) H locs ls (by omega) hP hD hS ?_
            rw [e1]
            exact hl
          · cases hr9 : p_near sd isw mem lf i with
            | none =>
              rw [hr9] at hl
              refine lv_iload_n hx hb dX1_nearestWithdrawn_35 rfl (lv_at hl 3 rfl) ?_
              refine lv_iconst (v := (-1)) hx hb dX1_nearestWithdrawn_36 (by decide) ?_
              refine lv_icmp_eq (tgt := 51) hx hb dX1_nearestWithdrawn_37 (by decide) (fun hm1 => ?_) (fun hm1 => ?_)
              · have e1 : p_near sd isw mem lf (i + 1) = some i := by
                  show p_nearS sd isw mem lf i (p_near sd isw mem lf i) = _
                  unfold p_nearS
                  rw [if_neg ha, if_neg hb2, hr9]
                refine lv_iload hx hb dX1_nearestWithdrawn_51 (lv_at hl 4 rfl) ?_
                refine lv_istore_n (lv' := [(3, .int (nI i)), (0, .ref (o 0)), (1, .int (nI lf)), (2, .int sd), (4, .int (nI i))]) hx hb dX1_nearestWithdrawn_53 rfl hl (by decide) rfl (fun ls hl => ?_)
                refine lv_iinc (v := nI (i + 1)) (lv' := [(4, .int (nI (i + 1))), (3, .int (nI i)), (0, .ref (o 0)), (1, .int (nI lf)), (2, .int sd)]) hx hb dX1_nearestWithdrawn_54 hl (k := 4) rfl (nI_1 i) (by decide) rfl (fun ls hl => ?_)
                refine lv_goto (tgt := 5) hx hb dX1_nearestWithdrawn_57 (by decide) ?_
                have hl := lv_sub hl [2, 3, 4, 1, 0] rfl
                refine ih (i + 1) H locs ls (by omega) hP hD hS ?_
                rw [e1]
                exact hl
              · exact absurd rfl hm1
            | some j =>
              have hj := p_near_lt sd isw mem lf i j hr9
              rw [hr9] at hl
              have hl : lv_has ls 5 [(0, .ref (o 0)), (1, .int (nI lf)), (2, .int sd), (3, .int (nI j)), (4, .int (nI i))] := hl
              refine lv_iload_n hx hb dX1_nearestWithdrawn_35 rfl (lv_at hl 3 rfl) ?_
              refine lv_iconst (v := (-1)) hx hb dX1_nearestWithdrawn_36 (by decide) ?_
              refine lv_icmp_eq (tgt := 51) hx hb dX1_nearestWithdrawn_37 (by decide) (fun hm1 => ?_) (fun hm1 => ?_)
              · exact absurd hm1 (nrI_ne j (by omega))
              · refine lv_aload_n hx hb dX1_nearestWithdrawn_40 rfl (lv_at hl 0 rfl) ?_
                refine lv_iload_n hx hb dX1_nearestWithdrawn_41 rfl (lv_at hl 2 rfl) ?_
                refine lv_iload_n hx hb dX1_nearestWithdrawn_42 rfl (lv_at hl 3 rfl) ?_
                refine lv_iload hx hb dX1_nearestWithdrawn_43 (lv_at hl 4 rfl) ?_
                refine mi_callV (C := RX1) (As := [.int sd, .int (nI j), .int (nI i)]) (rest := []) ⟨hx, hb, hml, hown, hW⟩ (c_liesOn sd j i (by omega) (by omega) sl mem) gE_ok (cwV 3 hW (gV tw_421 tw_423 tv_X1_liesOn tw_1 tw_424) rfl rfl rfl (by decide +kernel) ⟨Nat.le_of_ble_eq_true rfl, Nat.le_of_ble_eq_true rfl⟩) (va_recv hK hP (ci := 0) (q0 := 0) rfl rfl) hP hD hK hS hA hT rfl hl.1 rfl (Nat.le_of_ble_eq_true rfl) dX1_nearestWithdrawn_45 ⟨Nat.zero_le _, Nat.zero_le _⟩ (fun H locs hP hD hS => ?_)
                refine lv_if_eq (tgt := 54) hx hb dX1_nearestWithdrawn_48 (by decide) (fun hb3 => ?_) (fun hb3 => ?_)
                · have e1 : p_near sd isw mem lf (i + 1) = some j := by
                    show p_nearS sd isw mem lf i (p_near sd isw mem lf i) = _
                    unfold p_nearS
                    rw [if_neg ha, if_neg hb2, hr9]
                    exact if_pos hb3
                  refine lv_iinc (v := nI (i + 1)) (lv' := [(4, .int (nI (i + 1))), (0, .ref (o 0)), (1, .int (nI lf)), (2, .int sd), (3, .int (nI j))]) hx hb dX1_nearestWithdrawn_54 hl (k := 4) rfl (nI_1 i) (by decide) rfl (fun ls hl => ?_)
                  refine lv_goto (tgt := 5) hx hb dX1_nearestWithdrawn_57 (by decide) ?_
                  have hl := lv_sub hl [1, 2, 3, 4, 0] rfl
                  refine ih (i + 1) H locs ls (by omega) hP hD hS ?_
                  rw [e1]
                  exact hl
                · have e1 : p_near sd isw mem lf (i + 1) = some i := by
                    show p_nearS sd isw mem lf i (p_near sd isw mem lf i) = _
                    unfold p_nearS
                    rw [if_neg ha, if_neg hb2, hr9]
                    exact if_neg hb3
                  refine lv_iload hx hb dX1_nearestWithdrawn_51 (lv_at hl 4 rfl) ?_
                  refine lv_istore_n (lv' := [(3, .int (nI i)), (0, .ref (o 0)), (1, .int (nI lf)), (2, .int sd), (4, .int (nI i))]) hx hb dX1_nearestWithdrawn_53 rfl hl (by decide) rfl (fun ls hl => ?_)
                  refine lv_iinc (v := nI (i + 1)) (lv' := [(4, .int (nI (i + 1))), (3, .int (nI i)), (0, .ref (o 0)), (1, .int (nI lf)), (2, .int sd)]) hx hb dX1_nearestWithdrawn_54 hl (k := 4) rfl (nI_1 i) (by decide) rfl (fun ls hl => ?_)
                  refine lv_goto (tgt := 5) hx hb dX1_nearestWithdrawn_57 (by decide) ?_
                  have hl := lv_sub hl [2, 3, 4, 1, 0] rfl
                  refine ih (i + 1) H locs ls (by omega) hP hD hS ?_
                  rw [e1]
                  exact hl
  refine lv_iconst (v := (-1)) hx hb dX1_nearestWithdrawn_0 (by decide) ?_
  refine lv_istore_n (lv' := [(3, .int (-1)), (0, .ref (o 0)), (1, .int (nI lf)), (2, .int sd)]) hx hb dX1_nearestWithdrawn_1 rfl hl (by decide) rfl (fun ls hl => ?_)
  refine lv_iconst (v := nI 0) hx hb dX1_nearestWithdrawn_2 (by decide) ?_
  refine lv_istore (lv' := [(4, .int (nI 0)), (3, .int (-1)), (0, .ref (o 0)), (1, .int (nI lf)), (2, .int sd)]) hx hb dX1_nearestWithdrawn_3 hl (by decide) rfl (fun ls hl => ?_)
  exact loop q 0 s.heap [] ls (by omega) hP hD hS (lv_sub hl [2, 3, 4, 1, 0] rfl)
end
section
/-! CONTRACTS OF METHODS THAT MAY THROW: x = none: it returns; x = some nm: it throws an nm, and no old cell has changed -/
abbrev xQr (x : Option String) : Array Value → State → Outcome → State → Prop := xt_Q (fun _ : Unit => none) (fun _ st t => x = none ∧ t.heap = st.heap) (fun nm => x = some nm)
abbrev xQTv (D : va_G) (cl : List vw_C) (w1 : va_W) (A : Nat → Prop) (x : Option String) : Array Value → State → Outcome → State → Prop := xt_Q (fun _ : Unit => none) (fun _ st t => x = none ∧ va_P D cl w1 t.heap ∧ va_D A w1 ∧ va_F A st t) (fun nm => x = some nm)
abbrev xQTi (D : va_G) (cl : List vw_C) (w1 : va_W) (res : Int32) (A : Nat → Prop) (x : Option String) : Array Value → State → Outcome → State → Prop := xt_Q (fun r : Int32 => some (.int r)) (fun r st t => x = none ∧ r = res ∧ va_P D cl w1 t.heap ∧ va_D A w1 ∧ va_F A st t) (fun nm => x = some nm)
def MTr (l : Launch) (E : xE) (y : MethodName) (ws : List Cond) (rm : Room) (D : va_G) (cl : List vw_C) (tys : List (ClassId × FieldType)) (av : List Value) (w0 : va_W) (x : Option String) : Prop :=
  ∀ sz : Nat, MetT l y ws rm (xPc E D cl tys av w0 sz) (xQr x) 1 6 (fun q => sz ≤ q)
def MTv (l : Launch) (E : xE) (y : MethodName) (ws : List Cond) (rm : Room) (D : va_G) (cl : List vw_C) (tys : List (ClassId × FieldType)) (av : List Value) (w0 w1 : va_W) (x : Option String) (mc ms : Nat) : Prop :=
  ∀ sz : Nat, MetT l y ws rm (xPc E D cl tys av w0 sz) (xQTv D cl w1 (va_A w0 sz) x) mc ms (va_A w0 sz)
def MTi (l : Launch) (E : xE) (y : MethodName) (ws : List Cond) (rm : Room) (D : va_G) (cl : List vw_C) (tys : List (ClassId × FieldType)) (av : List Value) (w0 w1 : va_W) (res : Int32) (x : Option String) (mc ms : Nat) : Prop :=
  ∀ sz : Nat, MetT l y ws rm (xPc E D cl tys av w0 sz) (xQTi D cl w1 res (va_A w0 sz) x) mc ms (va_A w0 sz)
section TC
variable {l : Launch} {E : xE} {y : MethodName} {ws ws' : List Cond} {rm : Room} {D : va_G} {cl : List vw_C} {tys : List (ClassId × FieldType)} {av : List Value} {w0 w1 : va_W} {cc : ByteArray} {maxL mc ms : Nat} {x : Option String} {ty : FieldType} {res : Int32}
theorem MTr.ofW (hy : plainName y.cls = true) (hw : ws = Cond.code y cc maxL none :: ws') (hlen : (lg_sl av).length ≤ maxL)
    (body : ∀ (p : Program) (e : Env) (s : State) (m : MethodId) (below : List Frame) (meth : Method) (c : Code) (A : Nat → Prop) (ls : Array Slot), p.tables.exec = Jvm.exec → c.code = cc → meth.sig.returnType = none → (∀ w ∈ ws, w.before av.toArray s = true) → s.vm.findClass y.cls = some m.cls → meth.locks = false → c.maxLocals = maxL → (∀ q : Nat, s.heap.size ≤ q → A q) →
      va_P D cl w0 s.heap → va_K D cl tys s → va_D A w0 → E A s s.heap → lv_has ls maxL (lv_args 0 av) → c.exceptionTable.isEmpty = true → W p l e rm s m av.toArray below meth c s.heap [] 0 0 (MQT below (xQr x) av.toArray s 1 6 (fun q => s.heap.size ≤ q)) (F0 m 0 ls [])) : MTr l E y ws rm D cl tys av w0 x := by
  intro sz
  refine MetT.ofW (cc := cc) (maxL := maxL) (ret := none) hy hw ?_
  intro p e s m args below meth c s₁ B hml hv
  obtain ⟨rfl, hsz, hP, hK, hD0, hE⟩ := hv
  subst hsz
  have hl := lv_entry av (n := maxL) hlen
  have hat := atoms_spec (ws := ws) B.pre
  rw [lg_entry_eq]
  exact body p e s m below meth c _ _ B.exec B.bytes B.returns hat (findClass_of_methodNamed B.named) B.notSynchronized hml (fun q h => Or.inr h) hP hK hD0.self hE hl (BodyLoose.noHandlers B (hat _ (by rw [hw]; exact List.mem_cons_self)))
theorem MTv.ofW (hy : plainName y.cls = true) (hw : ws = Cond.code y cc maxL none :: ws') (hlen : (lg_sl av).length ≤ maxL)
    (body : ∀ (p : Program) (e : Env) (s : State) (m : MethodId) (below : List Frame) (meth : Method) (c : Code) (A : Nat → Prop) (ls : Array Slot), p.tables.exec = Jvm.exec → c.code = cc → meth.sig.returnType = none → (∀ w ∈ ws, w.before av.toArray s = true) → s.vm.findClass y.cls = some m.cls → meth.locks = false → c.maxLocals = maxL → (∀ q : Nat, s.heap.size ≤ q → A q) →
      va_P D cl w0 s.heap → va_K D cl tys s → va_D A w0 → E A s s.heap → lv_has ls maxL (lv_args 0 av) → c.exceptionTable.isEmpty = true → W p l e rm s m av.toArray below meth c s.heap [] 0 0 (MQT below (xQTv D cl w1 A x) av.toArray s mc ms A) (F0 m 0 ls [])) : MTv l E y ws rm D cl tys av w0 w1 x mc ms := by
  intro sz
  refine MetT.ofW (cc := cc) (maxL := maxL) (ret := none) hy hw ?_
  intro p e s m args below meth c s₁ B hml hv
  obtain ⟨rfl, hsz, hP, hK, hD0, hE⟩ := hv
  subst hsz
  have hl := lv_entry av (n := maxL) hlen
  have hat := atoms_spec (ws := ws) B.pre
  rw [lg_entry_eq]
  exact body p e s m below meth c _ _ B.exec B.bytes B.returns hat (findClass_of_methodNamed B.named) B.notSynchronized hml (fun q h => Or.inr h) hP hK hD0.self hE hl (BodyLoose.noHandlers B (hat _ (by rw [hw]; exact List.mem_cons_self)))
theorem MTi.ofW (hy : plainName y.cls = true) (hw : ws = Cond.code y cc maxL (some ty) :: ws') (hlen : (lg_sl av).length ≤ maxL)
    (body : ∀ (p : Program) (e : Env) (s : State) (m : MethodId) (below : List Frame) (meth : Method) (c : Code) (A : Nat → Prop) (ls : Array Slot), p.tables.exec = Jvm.exec → c.code = cc → meth.sig.returnType = some ty → (∀ w ∈ ws, w.before av.toArray s = true) → s.vm.findClass y.cls = some m.cls → meth.locks = false → c.maxLocals = maxL → (∀ q : Nat, s.heap.size ≤ q → A q) →
      va_P D cl w0 s.heap → va_K D cl tys s → va_D A w0 → E A s s.heap → lv_has ls maxL (lv_args 0 av) → c.exceptionTable.isEmpty = true → W p l e rm s m av.toArray below meth c s.heap [] 0 0 (MQT below (xQTi D cl w1 res A x) av.toArray s mc ms A) (F0 m 0 ls [])) : MTi l E y ws rm D cl tys av w0 w1 res x mc ms := by
  intro sz
  refine MetT.ofW (cc := cc) (maxL := maxL) (ret := some ty) hy hw ?_
  intro p e s m args below meth c s₁ B hml hv
  obtain ⟨rfl, hsz, hP, hK, hD0, hE⟩ := hv
  subst hsz
  have hl := lv_entry av (n := maxL) hlen
  have hat := atoms_spec (ws := ws) B.pre
  rw [lg_entry_eq]
  exact body p e s m below meth c _ _ B.exec B.bytes B.returns hat (findClass_of_methodNamed B.named) B.notSynchronized hml (fun q h => Or.inr h) hP hK hD0.self hE hl (BodyLoose.noHandlers B (hat _ (by rw [hw]; exact List.mem_cons_self)))
end TC
section TR
variable {p : Program} {l : Launch} {e : Env} {R : Room} {s : State} {m : MethodId} {args : Array Value} {below : List Frame} {meth : Method} {c : Code} {H : Heap} {locs : List Loc} {cells slots : Nat} {Q : State → Prop}
variable {cc bytes : ByteArray} {pc nL maxL n index M N : Nat} {ls : Array Slot} {rest st0 As : List Value} {D : va_G} {cl : List vw_C} {A : Nat → Prop} {tys : List (ClassId × FieldType)} {w0 w1 : va_W} {E : xE} {Ts ws : List Cond} {own C : String} {y : MethodName} {rm : Room} {ret : Option FieldType} {res : Int32} {b : Nat} {x : Option String} {Qc : Array Value → State → Outcome → State → Prop} {free' : Addr → Prop}
/-- the three ends -/
theorem tr_ret (hx : p.tables.exec = Jvm.exec) (hb : c.code = cc) (hr : meth.sig.returnType = none) (hlk : meth.locks = false) (hn : x = none) (hdg : decode cc pc = .ok (.return_, 1)) (hM : cells ≤ M) (hN : slots ≤ N) :
    W p l e R s m args below meth c s.heap [] cells slots (MQT below (xQr x) args s M N free') (F0 m pc ls []) := by
  refine W.widen hM hN ?_
  exact xt_mono (fun t h => MQT.of t h) (W.vret hx hb hr (fun t ht _ => Or.inl ⟨(), rfl, hn, ht⟩) (fun q h => by cases h) hdg hlk)
theorem tv_ret (hx : p.tables.exec = Jvm.exec) (hb : c.code = cc) (hr : meth.sig.returnType = none) (hlk : meth.locks = false) (hn : x = none) (hS : va_S A s.heap H locs) (hP : va_P D cl w1 H) (hD : va_D A w1) (hdg : decode cc pc = .ok (.return_, 1)) (hM : cells ≤ M) (hN : slots ≤ N) :
    W p l e R s m args below meth c H locs cells slots (MQT below (xQTv D cl w1 A x) args s M N A) (F0 m pc ls []) := by
  refine W.widen hM hN ?_
  exact xt_mono (fun t h => MQT.of t h) (W.vret hx hb hr (fun t ht _ => Or.inl ⟨(), rfl, hn, by rw [ht]; exact hP, hD, hS.F ht⟩) hS.2.2 hdg hlk)
theorem ti_ret {ty : FieldType} {v : Int32} (hx : p.tables.exec = Jvm.exec) (hb : c.code = cc) (hr : meth.sig.returnType = some ty) (hnw : narrow ty (.int v) = .int v) (hlk : meth.locks = false) (hn : x = none) (hS : va_S A s.heap H locs) (hP : va_P D cl w1 H) (hD : va_D A w1) (hv : v = res) (hdg : decode cc pc = .ok (.ireturn, 1)) (hM : cells ≤ M) (hN : slots ≤ N) :
    W p l e R s m args below meth c H locs cells slots (MQT below (xQTi D cl w1 res A x) args s M N A) (F0 m pc ls [.int v]) := by
  refine W.widen hM hN ?_
  exact xt_mono (fun t h => MQT.of t h) (W.zret hx hb hr hnw (fun t ht _ => Or.inl ⟨v, rfl, hn, hv, by rw [ht]; exact hP, hD, hS.F ht⟩) hS.2.2 hdg hlk)
/-- throw new cls("tx") -/
theorem tr_throw (hx : p.tables.exec = Jvm.exec) (hb : c.code = cc) (hml : c.maxLocals = ls.size) (hl0 : l.stackTraces = false) {cls tx : String} {names : List String} {ia is ic : Nat}
    (hown : s.vm.findClass own = some m.cls) (hcls : Bundle.fit cls = true) (hnames : ∀ n ∈ names, Bundle.fit n = true) (h : ∀ w ∈ Bundle.ownAtoms own ic cls names, w.before args s = true)
    (hclink : (Cond.classLink own ia cls).before args s = true) (hini : (Cond.initialized cls).before args s = true) (hstr : (Cond.stringRef own is tx).before args s = true) (hno : c.exceptionTable.isEmpty = true) (hlk : meth.locks = false)
    (hd0 : decode cc pc = .ok (.new ia, 3)) (hd3 : decode cc (pc + 3) = .ok (.dup, 1)) (hd4 : decode cc (pc + 3 + 1) = .ok (.ldc is, 2)) (hd6 : decode cc (pc + 3 + 1 + 2) = .ok (.invokespecial ic, 3)) (hd9 : decode cc (pc + 3 + 1 + 2 + 3) = .ok (.athrow, 1))
    (hRc : cells + 1 ≤ R.cells) (hRs : slots + 6 ≤ R.slots) (hM : cells + 1 ≤ M) (hN : slots + 6 ≤ N) (hRf : names.length + 3 < R.frames) (hRl : (rest.map fun v => v.category).sum + (13 * (names.length + 1) + 43) ≤ R.locals)
    (hq : ∀ (z : Nat) (t : State), xt_Th cls z t → xt_K s t → Qc args s (.threw z) t) :
    W p l e R s m args below meth c s.heap [] cells slots (MQT below Qc args s M N free') (F0 m pc ls rest) := fun T hT X =>
  xt_throw hx hb hml ((show e.platform.stackTraces = l.stackTraces by rw [X.admits.platform]).trans hl0) hown hcls hnames h hclink hini hstr hno hlk hd0 hd3 hd4 hd6 hd9 hRc hRs hM hN hRf hRl hq T hT X
/-- a guard's call, at the start of a method that may throw -/
theorem tr_callV (S : CallFix p m c cc nL s args Ts own) (hMt : MTr l E y ws rm D cl tys (.ref b :: As) w0 x) (hE : okE E) (cw : CallW R s args own C index y bytes maxL ret ws rm 1 6 n) (hrc : ∃ cellB : Cell, s.heap[b]? = some cellB ∧ cellB.vm.isStatics = false ∧ s.vm.findClass C = some cellB.cls)
    (hP : va_P D cl w0 s.heap) (hD : va_D A w0) (hK : va_K D cl tys s) (hA : ∀ q : Nat, s.heap.size ≤ q → A q) (hT : E A s s.heap) (hn : As.length = n) (hsz : ls.size = nL) (hst : st0 = As.reverse ++ .ref b :: rest) (hW : (rest.map fun v => v.category).sum ≤ 8) (hdg : decode cc pc = .ok (.invokevirtual index, 3)) (hf : cells + 1 ≤ R.cells ∧ slots + 6 ≤ R.slots)
    (hno : c.exceptionTable.isEmpty = true) (hlk : meth.locks = false) (hM : cells + 1 ≤ M) (hN : slots + 6 ≤ N) (hq : ∀ (nm : String) (z : Nat) (t : State), x = some nm → xt_Th nm z t → xt_K s t → Qc args s (.threw z) t)
    (kk : x = none → W p l e R s m args below meth c s.heap [] (cells + 1) (slots + 6) (MQT below Qc args s M N free') (F0 m (pc + 3) ls rest)) : W p l e R s m args below meth c s.heap [] cells slots (MQT below Qc args s M N free') (F0 m pc ls st0) :=
  xt_req (φ := fun _ : Unit => x = none) (xt_runV (As := As) (rest := rest) S (hMt s.heap.size) cw ⟨mc_blind hE, hrc, mc_pre hE hP hD hK va_S.rf hA hT _⟩ rfl hn hsz hst (lv_room hW) hdg hf) (fun _ h => h) hno hlk (fun _ _ _ h => ⟨h.2, h.1⟩) hM hN hq (fun _ h => kk h)
theorem tr_callS (S : CallFix p m c cc nL s args Ts own) (hMt : MTr l E y ws rm D cl tys As w0 x) (hE : okE E) (cw : CallB R s args own index y bytes maxL ret ws rm 1 6 n ∧ (Cond.static y).before args s = true)
    (hP : va_P D cl w0 s.heap) (hD : va_D A w0) (hK : va_K D cl tys s) (hA : ∀ q : Nat, s.heap.size ≤ q → A q) (hT : E A s s.heap) (hn : As.length = n) (hsz : ls.size = nL) (hst : st0 = As.reverse ++ rest) (hW : (rest.map fun v => v.category).sum ≤ 8) (hdg : decode cc pc = .ok (.invokestatic index, 3)) (hf : cells + 1 ≤ R.cells ∧ slots + 6 ≤ R.slots)
    (hno : c.exceptionTable.isEmpty = true) (hlk : meth.locks = false) (hM : cells + 1 ≤ M) (hN : slots + 6 ≤ N) (hq : ∀ (nm : String) (z : Nat) (t : State), x = some nm → xt_Th nm z t → xt_K s t → Qc args s (.threw z) t)
    (kk : x = none → W p l e R s m args below meth c s.heap [] (cells + 1) (slots + 6) (MQT below Qc args s M N free') (F0 m (pc + 3) ls rest)) : W p l e R s m args below meth c s.heap [] cells slots (MQT below Qc args s M N free') (F0 m pc ls st0) :=
  xt_req (φ := fun _ : Unit => x = none) (xt_runS (As := As) (rest := rest) S (hMt s.heap.size) cw ⟨mc_blind hE, mc_pre hE hP hD hK va_S.rf hA hT _⟩ rfl hn hsz hst (lv_room hW) hdg hf) (fun _ h => h) hno hlk (fun _ _ _ h => ⟨h.2, h.1⟩) hM hN hq (fun _ h => kk h)
end TR
/-- the four words of a throw that speak of the heap -/
def xW : List Cond := [.isRef (.static Bundle.tN "UNASSIGNED_STACK" Bundle.steD), .isRef (.static Bundle.tN "SUPPRESSED_SENTINEL" Bundle.listD), .laysStatic Bundle.tN "UNASSIGNED_STACK" Bundle.steD, .laysStatic Bundle.tN "SUPPRESSED_SENTINEL" Bundle.listD]
def xCl : List Cond := [.castable "java/lang/IllegalArgumentException" "java/lang/IllegalArgumentException", .castable "java/lang/UnsupportedOperationException" "java/lang/UnsupportedOperationException", .castable "java/lang/IllegalStateException" "java/lang/IllegalStateException", .castable "java/lang/IndexOutOfBoundsException" "java/lang/IndexOutOfBoundsException", .declares ⟨"java/lang/RuntimeException", "<init>", "(Ljava/lang/String;)V"⟩, .declares ⟨"java/lang/Exception", "<init>", "(Ljava/lang/String;)V"⟩, .declares ⟨"java/lang/Throwable", "<init>", "(Ljava/lang/String;)V"⟩]
theorem own_ok {args : Array Value} {s : State} {A : Nat → Prop} {L : List Cond} (h1 : ∀ w ∈ L, w ∈ tW ∨ w ∈ xCl ∨ w ∈ xW) (hW : ∀ w ∈ tW, w.before args s = true) (hT : gE A s s.heap) : ∀ w ∈ L, w.before args s = true := by
  intro w hw
  rcases h1 w hw with h | h | h
  · exact hW w h
  · have g := hT.2.2.2
    simp only [xCl, List.mem_cons, List.not_mem_nil, or_false] at h
    rcases h with rfl | rfl | rfl | rfl | rfl | rfl | rfl
    · exact g (.castable "java/lang/IllegalArgumentException" "java/lang/IllegalArgumentException") (by decide +kernel)
    · exact g (.castable "java/lang/UnsupportedOperationException" "java/lang/UnsupportedOperationException") (by decide +kernel)
    · exact g (.castable "java/lang/IllegalStateException" "java/lang/IllegalStateException") (by decide +kernel)
    · exact g (.castable "java/lang/IndexOutOfBoundsException" "java/lang/IndexOutOfBoundsException") (by decide +kernel)
    · exact g (.declares ⟨"java/lang/RuntimeException", "<init>", "(Ljava/lang/String;)V"⟩) (by decide +kernel)
    · exact g (.declares ⟨"java/lang/Exception", "<init>", "(Ljava/lang/String;)V"⟩) (by decide +kernel)
    · exact g (.declares ⟨"java/lang/Throwable", "<init>", "(Ljava/lang/String;)V"⟩) (by decide +kernel)
  · simp only [xW, List.mem_cons, List.not_mem_nil, or_false] at h
    rcases h with rfl | rfl | rfl | rfl
    · exact hT.2.1.ref
    · exact hT.2.2.1.ref
    · exact hT.2.1.lays
    · exact hT.2.2.1.lays
set_option maxRecDepth 100000 in
theorem own_IAE : ∀ w ∈ Bundle.ownAtoms RX1 64 "java/lang/IllegalArgumentException" ["java/lang/RuntimeException", "java/lang/Exception"], w ∈ tW ∨ w ∈ xCl ∨ w ∈ xW := by decide +kernel
set_option maxRecDepth 100000 in
theorem own_UOE : ∀ w ∈ Bundle.ownAtoms RX1 71 "java/lang/UnsupportedOperationException" ["java/lang/RuntimeException", "java/lang/Exception"], w ∈ tW ∨ w ∈ xCl ∨ w ∈ xW := by decide +kernel
set_option maxRecDepth 100000 in
theorem own_ISE : ∀ w ∈ Bundle.ownAtoms RX1 108 "java/lang/IllegalStateException" ["java/lang/RuntimeException", "java/lang/Exception"], w ∈ tW ∨ w ∈ xCl ∨ w ∈ xW := by decide +kernel
set_option maxRecDepth 100000 in
theorem own_IOB : ∀ w ∈ Bundle.ownAtoms RX1 147 "java/lang/IndexOutOfBoundsException" ["java/lang/RuntimeException", "java/lang/Exception"], w ∈ tW ∨ w ∈ xCl ∨ w ∈ xW := by decide +kernel
end
section
/-! PURE FUNCTIONS OF THE PUBLIC METHODS: what they throw, what they answer, the world behind them -/
abbrev nIOB : String := "java/lang/IndexOutOfBoundsException"
abbrev nIAE : String := "java/lang/IllegalArgumentException"
abbrev nUOE : String := "java/lang/UnsupportedOperationException"
abbrev nISE : String := "java/lang/IllegalStateException"
abbrev tn (v : Int32) : Nat := v.toNatClampNeg
def x_req (v n : Int32) : Option String := if v < 0 ∨ ¬ v < n then some nIOB else none
def x_mask (v : Int32) : Option String := if v < nI 1 ∨ ¬ v ≤ nI 255 then some nIAE else none
theorem x_req_none {v : Int32} {q : Nat} (hq : q < 2 ^ 31) (h : x_req v (nI q) = none) : ∃ i : Nat, i < q ∧ v = nI i := by
  unfold x_req at h
  by_cases hc : v < 0 ∨ ¬ v < nI q
  · rw [if_pos hc] at h; cases h
  · obtain ⟨j, hj, rfl⟩ := nI_of (fun h => hc (Or.inl h))
    refine ⟨j, ?_, rfl⟩
    rcases Nat.lt_or_ge j q with h1 | h1
    · exact h1
    · exact absurd (Or.inr (nI_nlt h1 hj)) hc
/-- what feed throws -/
def x_feed (tl v : Int32) : Option String := if v < nI 1 ∨ ¬ v ≤ nI 8 then some nIAE else if tl + v ≤ nI 200 then none else some nUOE
theorem x_feed_none {t : Nat} {v : Int32} (ht : t ≤ 200) (h : x_feed (nI t) v = none) : ∃ q : Nat, 1 ≤ q ∧ q ≤ 8 ∧ t + q ≤ 200 ∧ v = nI q := by
  unfold x_feed at h
  by_cases hc : v < nI 1 ∨ ¬ v ≤ nI 8
  · rw [if_pos hc] at h; cases h
  · rw [if_neg hc] at h
    by_cases hd : nI t + v ≤ nI 200
    · have h0 : ¬ v < 0 := by
        intro h1
        exact hc (Or.inl (Int32.lt_of_lt_of_le h1 (nI_pos' (by decide))))
      obtain ⟨q, hq, rfl⟩ := nI_of h0
      have h8 : q ≤ 8 := by
        rcases Nat.lt_or_ge 8 q with h1 | h1
        · exact absurd (Or.inr (nI_ge h1 hq)) hc
        · exact h1
      have h1 : 1 ≤ q := by
        rcases Nat.lt_or_ge q 1 with h1 | h1
        · exact absurd (Or.inl (nI_lt h1 (by decide))) hc
        · exact h1
      rw [nI_add] at hd
      exact ⟨q, h1, h8, (nI_leI (by omega) (by decide)).mp hd, rfl⟩
    · rw [if_neg hd] at h; cases h
def fdB (b : Int64) (q i : Nat) : Int32 := (lush b (nI 8 * nI (q - 1 - i))).toInt32 &&& nI 255
def p_feed (b : Int64) (t q i : Nat) (mem : xMem) : xMem := itr (fun j m => va_up m 0 (upd (m 0) (t + j) (fdB b q j))) i mem
theorem p_feed_s (b : Int64) (t q i : Nat) (mem : xMem) : p_feed b t q (i + 1) mem = va_up (p_feed b t q i mem) 0 (upd (p_feed b t q i mem 0) (t + i) (fdB b q i)) := rfl
noncomputable def p_leaf (q t : Nat) (z : Nat × xMem) : Nat × xMem := P_fin (6 + q) (P_first 0 t (P_take (nI 0) (0, z.2)))
theorem p_leaf_e (q t : Nat) (z : Nat × xMem) : p_leaf q t z = P_fin (6 + q) (P_first 0 t (P_take (nI 0) (0, z.2))) := rfl
def p_bend (k i : Nat) (x : Int32) (mem : xMem) : xMem := va_up mem k (upd (mem k) i (mem k i ^^^ x))
noncomputable def p_close (q y : Nat) (z : Nat × xMem) : Nat × xMem := ((p_tree q (30 + y) z).1, va_up (p_tree q (30 + y) z).2 1 (upd ((p_tree q (30 + y) z).2 1) y (nI q)))
noncomputable def p_mark (lf : Nat) (k1 k2 : Int64) (mem : xMem) : Nat × xMem := p_keyed k2 2 2 (p_keyed k1 (6 + lf) 2 mem).2
/-- check, behind its guards: leaf, day, the number told, the count told -/
noncomputable def p_checkW (lf d : Nat) (x q pn : Int32) (z : Nat × xMem) : Nat × xMem :=
  if q = z.2 1 d then (if pn = nI (p_due (tn q) 0 (tn x) (tn q)) then p_climb (6 + lf) (tn x) (tn q) z else z) else z
noncomputable def p_checkR (lf d : Nat) (x q pn : Int32) (z : Nat × xMem) : Int32 :=
  if q = z.2 1 d then (if pn = nI (p_due (tn q) 0 (tn x) (tn q)) then (if p_cmp ((p_climb (6 + lf) (tn x) (tn q) z).2 2) ((p_climb (6 + lf) (tn x) (tn q) z).2 (30 + d)) = 0 then nI 0 else nI 3) else nI 2) else nI 1
noncomputable def p_grewW (a b : Nat) (z : Nat × xMem) : Nat × xMem :=
  if p_still (tn (z.2 1 a)) a z = 0 then p_tree (tn (z.2 1 a)) 2 z else p_tree (tn (z.2 1 b)) 2 (p_tree (tn (z.2 1 a)) 2 z)
noncomputable def p_grewR (a b : Nat) (z : Nat × xMem) : Int32 :=
  if p_still (tn (z.2 1 a)) a z = 0 then nI 0 else if p_still (tn (z.2 1 b)) b (p_tree (tn (z.2 1 a)) 2 z) = 0 then nI 0 else nI 1
def x_if (c : Prop) [Decidable c] (nm : String) : Option String := if c then some nm else none
theorem x_if_t {c : Prop} [Decidable c] {nm : String} (h : c) : x_if c nm = some nm := if_pos h
theorem x_if_f {c : Prop} [Decidable c] {nm : String} (h : ¬ c) : x_if c nm = none := if_neg h
theorem x_or1 {a b : Option String} {nm : String} (h : a = some nm) : a.or b = some nm := by rw [h]; rfl
theorem x_or2 {a b : Option String} {r : Option String} (h : a = none) (h2 : b = r) : a.or b = r := by rw [h, h2]; rfl
section MZ
variable {p : Program} {l : Launch} {e : Env} {R : Room} {s : State} {m : MethodId} {args : Array Value} {below : List Frame} {meth : Method} {c : Code} {H H0 : Heap} {locs : List Loc} {cells slots : Nat} {Q : State → Prop}
variable {cc : ByteArray} {pc : Nat} {ls : Array Slot} {rest : List Value} {D : va_G} {cl : List vw_C} {A : Nat → Prop} {tys : List (ClassId × FieldType)} {ws : va_W}
/-- bastore into a boolean array -/
theorem m_zst (hexec : p.tables.exec = Jvm.exec) (hb : c.code = cc) (hK : va_K D cl tys s) (hP : va_P D cl ws H) (hD : va_D A ws) (hS : va_S A H0 H locs) (q0 t0 j : Nat) {a : Nat} {cZ : ClassId} {N : Nat} {f : Nat → Int32} {x v : Int32} (ha : ws[q0]? = some (a, .inl (cZ, N, .inl f))) (ht : tys[t0]? = some (cZ, .boolean)) (hj : j < N) (hN : N < 2 ^ 31) (hv : vp_nar .boolean x = v) (hdg : decode cc pc = .ok (.bastore, 1))
    (kk : ∀ (H1 : Heap) (locs1 : List Loc), va_P D cl (ws.set q0 (a, .inl (cZ, N, .inl (upd f j v)))) H1 → va_D A (ws.set q0 (a, .inl (cZ, N, .inl (upd f j v)))) → va_S A H0 H1 locs1 → W p l e R s m args below meth c H1 locs1 cells slots Q (F0 m (pc + 1) ls rest)) : W p l e R s m args below meth c H locs cells slots Q (F0 m pc ls (.int x :: .int (nI j) :: .ref a :: rest)) := by
  refine va_zast hexec hb hK hP hD hS q0 t0 ha ht (vp_in_nI hj hN) hdg (fun H1 locs1 hP1 hD1 hS1 => ?_)
  rw [nI_clamp (Nat.lt_trans hj hN), hv] at hP1 hD1
  exact kk H1 locs1 hP1 hD1 hS1
end MZ
end
section
/-! WHAT THE PURE FUNCTIONS LEAVE ALONE: array k keeps what it holds -/
theorem itr_keep {f : Nat → xMem → xMem} {k : Nat} (h : ∀ i m, f i m k = m k) : ∀ n m, itr f n m k = m k
  | 0, _ => rfl
  | n + 1, m => by rw [itr_s, h, itr_keep h n m]
theorem itr_keep2 {f : Nat → Nat × xMem → Nat × xMem} {k : Nat} (h : ∀ i z, (f i z).2 k = z.2 k) : ∀ n z, (itr f n z).2 k = z.2 k
  | 0, _ => rfl
  | n + 1, z => by rw [itr_s, h, itr_keep2 h n z]
theorem p_take_k {k : Nat} (h : k ≠ 3) (x : Int32) (z : Nat × xMem) : (p_take x z).2 k = z.2 k := by
  unfold p_take
  split
  · exact va_up_ne _ _ h
  · rfl
theorem P_take_k {k : Nat} (h : k ≠ 3) (x : Int32) (z : Nat × xMem) : (P_take x z).2 k = z.2 k := by rw [P_take_e]; exact p_take_k h x z
theorem P_first_k {k : Nat} (h : k ≠ 3) (kk q : Nat) (z : Nat × xMem) : (P_first kk q z).2 k = z.2 k := by
  rw [P_first_e]
  exact itr_keep2 (fun i z => p_take_k h _ z) q z
theorem p_long_k {k : Nat} (h : k ≠ 3) (v : Int64) (q : Nat) (z : Nat × xMem) : (p_takeLongN v q z).2 k = z.2 k := itr_keep2 (fun i z => p_take_k h _ z) q z
theorem P_long_k {k : Nat} (h : k ≠ 3) (v : Int64) (z : Nat × xMem) : (P_long v z).2 k = z.2 k := by
  rw [P_long_e]
  unfold p_takeLong
  exact p_long_k h v 8 z
theorem p_spread_k {k : Nat} (h : k ≠ 4) (f : Nat) (m : xMem) : p_spread f m k = m k := by
  unfold p_spread
  rw [itr_keep (f := p_w2) (fun i m => va_up_ne _ _ h), itr_keep (f := p_w1 f) (fun i m => va_up_ne _ _ h)]
theorem p_add_k {k : Nat} (h : k ≠ 5) (j : Nat) (x : Int32) (m : xMem) : p_add j x m k = m k := va_up_ne _ _ h
theorem p_stir_k {k : Nat} (h : k ≠ 5) (m : xMem) : p_stir m k = m k := by
  unfold p_stir
  rw [p_add_k h, p_add_k h, p_add_k h, p_add_k h, p_add_k h, p_add_k h, p_add_k h, p_add_k h]
theorem pfC_k {k : Nat} (h : k ≠ 3) (z : Nat × xMem) : (pfC z).2 k = z.2 k := by
  obtain ⟨n, m⟩ := z
  rw [pfC_e]
  unfold p_takeLong
  rw [p_long_k h, pfB_e, itr_keep2 (fun i z => p_take_k h _ z), pfA_e, p_take_k h]
theorem pfD_k {k : Nat} (h : k ≠ 3) (h5 : k ≠ 5) (z : Nat × xMem) : pfD z k = z.2 k := by rw [pfD_e, va_up_ne _ _ h5, pfC_k h]
theorem pfE_k {k : Nat} (h : k ≠ 3) (h4 : k ≠ 4) (h5 : k ≠ 5) (z : Nat × xMem) : ∀ b, pfE z b k = z.2 k
  | 0 => by rw [pfE_0, pfD_k h h5]
  | b + 1 => by rw [pfE_s, p_stir_k h5, p_spread_k h4, pfE_k h h4 h5 z b]
theorem pfF_k {k kk : Nat} (h : k ≠ 3) (h4 : k ≠ 4) (h5 : k ≠ 5) (hk : k ≠ kk) (z : Nat × xMem) : ∀ i, pfF kk z i k = z.2 k
  | 0 => by rw [pfF_0, pfE_k h h4 h5]
  | i + 1 => by rw [pfF_s, va_up_ne _ _ hk, pfF_k h h4 h5 hk z i]
theorem P_fin_k {k kk : Nat} (h : k ≠ 3) (h4 : k ≠ 4) (h5 : k ≠ 5) (hk : k ≠ kk) (z : Nat × xMem) : (P_fin kk z).2 k = z.2 k := by rw [P_fin_e, p_finish_2, pfF_k h h4 h5 hk]
theorem p_copy_k {k t : Nat} (h : k ≠ t) (k0 : Nat) (m : xMem) : p_copy k0 t m k = m k := va_up_ne _ _ h
theorem p_node_k {k t : Nat} (h : k ≠ 3) (h4 : k ≠ 4) (h5 : k ≠ 5) (hk : k ≠ t) (a b : Nat) (m : xMem) : (p_node a b t m).2 k = m k := by
  rw [p_node_e, P_fin_k h h4 h5 hk, P_first_k h, P_first_k h, P_take_k h]
theorem p_keyed_k {k t : Nat} (h : k ≠ 3) (h4 : k ≠ 4) (h5 : k ≠ 5) (hk : k ≠ t) (key : Int64) (d : Nat) (m : xMem) : (p_keyed key d t m).2 k = m k := by
  rw [p_keyed_e, P_fin_k h h4 h5 hk, P_first_k h, P_long_k h]
theorem p_lay_k {k : Nat} (h : k < 47) (n : Nat) (m : xMem) : p_lay n m k = m k := itr_keep (fun i m => p_copy_k (by omega) _ m) n m
theorem p_fold_k {k : Nat} (h : k ≠ 3) (h4 : k ≠ 4) (h5 : k ≠ 5) (hk : k < 47) (w : Nat) (z : Nat × xMem) : (p_fold w z).2 k = z.2 k := by
  have e : ∀ n, (itr (fun j z => p_node (47 + 2 * j) (47 + (2 * j + 1)) (47 + j) z.2) n z).2 k = z.2 k := fun n => itr_keep2 (f := fun j z => p_node (47 + 2 * j) (47 + (2 * j + 1)) (47 + j) z.2) (fun i z => p_node_k h h4 h5 (by omega) _ _ _) n z
  unfold p_fold
  split
  · exact (p_copy_k (by omega) _ _).trans (e _)
  · exact e _
theorem p_up_k {k : Nat} (h : k ≠ 3) (h4 : k ≠ 4) (h5 : k ≠ 5) (hk : k < 47) : ∀ (f w : Nat) (z : Nat × xMem), (p_up f w z).2 k = z.2 k
  | 0, _, _ => rfl
  | f + 1, w, z => by
    unfold p_up
    split
    · rfl
    · rw [p_up_k h h4 h5 hk f, p_fold_k h h4 h5 hk]
theorem p_tree_k {k t : Nat} (h : k ≠ 3) (h4 : k ≠ 4) (h5 : k ≠ 5) (hk : k < 47) (ht : k ≠ t) (n : Nat) (z : Nat × xMem) : (p_tree n t z).2 k = z.2 k := by
  unfold p_tree
  split
  · exact P_fin_k h h4 h5 ht _
  · exact (p_copy_k ht _ _).trans ((p_up_k h h4 h5 hk _ _ _).trans (p_lay_k hk _ _))
theorem p_pathA_k {k : Nat} (h : k ≠ 3) (h4 : k ≠ 4) (h5 : k ≠ 5) (hk : k < 42) : ∀ (f a w : Nat) (z : Nat × Nat × xMem), (p_pathA f a w z).2.2 k = z.2.2 k
  | 0, _, _, _ => rfl
  | f + 1, a, w, z => by
    unfold p_pathA
    split
    · rfl
    · rw [p_pathA_k h h4 h5 hk f]
      split
      · exact (p_fold_k h h4 h5 (by omega) _ _).trans (p_copy_k (by omega) _ _)
      · exact p_fold_k h h4 h5 (by omega) _ _
theorem p_path_k {k : Nat} (h : k ≠ 3) (h4 : k ≠ 4) (h5 : k ≠ 5) (hk : k < 42) (a n : Nat) (z : Nat × xMem) : (p_path a n z).2.2 k = z.2 k := by
  unfold p_path
  rw [p_pathA_k h h4 h5 hk]
  exact p_lay_k (by omega) _ _
theorem p_climbA_k {k : Nat} (h2 : k ≠ 2) (h : k ≠ 3) (h4 : k ≠ 4) (h5 : k ≠ 5) : ∀ (f a k1 w : Nat) (z : Nat × xMem), (p_climbA f a k1 w z).2 k = z.2 k
  | 0, _, _, _, _ => rfl
  | f + 1, a, k1, w, z => by
    unfold p_climbA
    split
    · rfl
    · split
      · rw [p_climbA_k h2 h h4 h5 f]
        split
        · exact p_node_k h h4 h5 h2 _ _ _
        · exact p_node_k h h4 h5 h2 _ _ _
      · rw [p_climbA_k h2 h h4 h5 f]
theorem p_climb_k {k : Nat} (h2 : k ≠ 2) (h : k ≠ 3) (h4 : k ≠ 4) (h5 : k ≠ 5) (d a w : Nat) (z : Nat × xMem) : (p_climb d a w z).2 k = z.2 k := by
  unfold p_climb
  rw [p_climbA_k h2 h h4 h5]
  exact p_copy_k h2 _ _
end
section
theorem nI_prd (q : Nat) : nI (q + 1) - nI 1 = nI q := pk_sub (by omega)
theorem x_req_pn {v pn : Int32} (h : pn ≤ nI 5) (h1 : x_req v pn = none) : ∃ i : Nat, i < 5 ∧ v = nI i := by
  unfold x_req at h1
  by_cases hc : v < 0 ∨ ¬ v < pn
  · rw [if_pos hc] at h1; cases h1
  · obtain ⟨j, hj, rfl⟩ := nI_of (fun h => hc (Or.inl h))
    have h2 : nI j < pn := by
      rcases Int32.lt_or_le (nI j) pn with h3 | h3
      · exact h3
      · exact absurd (Or.inr (Int32.not_lt.mpr h3)) hc
    exact ⟨j, (nI_ltI hj (by decide)).mp (Int32.lt_of_lt_of_le h2 h), rfl⟩
/-- feed's counter: q - 1 - i, and -1 at the end -/
def fdC (q i : Nat) : Int32 := nI (q - 1) - nI i
theorem fdC_0 (q : Nat) : fdC q 0 = nI (q - 1) := pk_sub (by omega)
theorem fdC_pos (q i : Nat) (h : i < q) : fdC q i = nI (q - 1 - i) := pk_sub (by omega)
theorem fdC_neg (q i : Nat) (h1 : 1 ≤ q ∧ q ≤ 8) (h2 : i = q) : fdC q i < 0 := by
  subst h2
  have : i = 1 ∨ i = 2 ∨ i = 3 ∨ i = 4 ∨ i = 5 ∨ i = 6 ∨ i = 7 ∨ i = 8 := by omega
  rcases this with rfl | rfl | rfl | rfl | rfl | rfl | rfl | rfl <;> decide
theorem fdC_s : ∀ q, q < 9 → ∀ i, i < q → nI (q - 1 - i) + Int32.ofInt (-1) = fdC q (i + 1) := by decide +kernel
set_option maxHeartbeats 4000000 in
set_option maxRecDepth 100000 in
/-- requireLeaf(v) -/
theorem c_requireLeaf {l : Launch} {D : va_G} {o ad : Nat → Nat} {cI cZ cG : ClassId} {tl lc wc dc pn : Int32} {isw : Nat → Int32} (hl0 : l.stackTraces = false) (v sl : Int32) (mem : Nat → Nat → Int32) : MTr l gE yX1_requireLeaf (.code yX1_requireLeaf cX1_requireLeaf 2 none :: tW) ({ frames := 6, cells := 1, slots := 6, locals := 100 }) D vwCl (tC cI cZ cG) [.ref (o 0), .int v] (wC o ad cI cZ cG tl lc wc dc pn sl isw mem) (x_req v lc) := by
  refine MTr.ofW (by decide +kernel) rfl (Nat.le_of_ble_eq_true rfl) ?_
  intro p e s m below meth c A ls hx hb hr hts hown hlk hml hA hP hK hD hT hl hno
  have hS : va_S A s.heap s.heap [] := va_S.rf
  have hown : s.vm.findClass RX1 = some m.cls := hown
  have hW : ∀ w ∈ tW, w.before _ s = true := fun w h => hts w (List.mem_cons_of_mem _ h)
  have hl : lv_has ls 2 [(0, .ref (o 0)), (1, .int v)] := hl
  refine lv_iload_n hx hb dX1_requireLeaf_0 rfl (lv_at hl 1 rfl) ?_
  refine lv_if_lt (tgt := 12) hx hb dX1_requireLeaf_1 (by decide) (fun ha => ?_) (fun ha => ?_)
  · exact tr_throw (cls := "java/lang/IndexOutOfBoundsException") (tx := "no such leaf") (names := ["java/lang/RuntimeException", "java/lang/Exception"]) (rest := []) hx hb (hml.trans hl.1.symm) hl0 hown (by decide +kernel) (by decide +kernel) (own_ok own_IOB hW hT) (hW _ tw_273) (hW _ tw_12) (hT.2.2.2 (.stringRef "ProofLeaves" 157 "no such leaf") (by decide +kernel)) hno hlk dX1_requireLeaf_12 dX1_requireLeaf_15 dX1_requireLeaf_16 dX1_requireLeaf_18 dX1_requireLeaf_21 (Nat.le_of_ble_eq_true rfl) (Nat.le_of_ble_eq_true rfl) (Nat.le_of_ble_eq_true rfl) (Nat.le_of_ble_eq_true rfl) (Nat.le_of_ble_eq_true rfl) (Nat.le_of_ble_eq_true rfl) (fun z t h1 h2 => Or.inr ⟨_, _, rfl, if_pos (Or.inl ha), h1, h2⟩)
  · refine lv_iload_n hx hb dX1_requireLeaf_4 rfl (lv_at hl 1 rfl) ?_
    refine lv_aload_n hx hb dX1_requireLeaf_5 rfl (lv_at hl 0 rfl) ?_
    refine va_get (D := D) (ci := 0) (v := .int lc) (C := RX1) (T := TX1) (N := 14) hx hb hW iPL hown hK hP 0 rfl rfl 5 (by decide) (hW _ tw_49) (fun _ h9 => h9) rfl dX1_requireLeaf_6 ?_
    refine lv_icmp_lt (tgt := 22) hx hb dX1_requireLeaf_9 (by decide) (fun hc => ?_) (fun hc => ?_)
    · exact tr_ret hx hb hr hlk (if_neg (fun h => h.elim ha (fun h1 => h1 hc))) dX1_requireLeaf_22 (Nat.le_of_ble_eq_true rfl) (Nat.le_of_ble_eq_true rfl)
    · exact tr_throw (cls := "java/lang/IndexOutOfBoundsException") (tx := "no such leaf") (names := ["java/lang/RuntimeException", "java/lang/Exception"]) (rest := []) hx hb (hml.trans hl.1.symm) hl0 hown (by decide +kernel) (by decide +kernel) (own_ok own_IOB hW hT) (hW _ tw_273) (hW _ tw_12) (hT.2.2.2 (.stringRef "ProofLeaves" 157 "no such leaf") (by decide +kernel)) hno hlk dX1_requireLeaf_12 dX1_requireLeaf_15 dX1_requireLeaf_16 dX1_requireLeaf_18 dX1_requireLeaf_21 (Nat.le_of_ble_eq_true rfl) (Nat.le_of_ble_eq_true rfl) (Nat.le_of_ble_eq_true rfl) (Nat.le_of_ble_eq_true rfl) (Nat.le_of_ble_eq_true rfl) (Nat.le_of_ble_eq_true rfl) (fun z t h1 h2 => Or.inr ⟨_, _, rfl, if_pos (Or.inr hc), h1, h2⟩)
set_option maxHeartbeats 4000000 in
set_option maxRecDepth 100000 in
/-- requireDay(v) -/
theorem c_requireDay {l : Launch} {D : va_G} {o ad : Nat → Nat} {cI cZ cG : ClassId} {tl lc wc dc pn : Int32} {isw : Nat → Int32} (hl0 : l.stackTraces = false) (v sl : Int32) (mem : Nat → Nat → Int32) : MTr l gE yX1_requireDay (.code yX1_requireDay cX1_requireDay 2 none :: tW) ({ frames := 6, cells := 1, slots := 6, locals := 100 }) D vwCl (tC cI cZ cG) [.ref (o 0), .int v] (wC o ad cI cZ cG tl lc wc dc pn sl isw mem) (x_req v dc) := by
  refine MTr.ofW (by decide +kernel) rfl (Nat.le_of_ble_eq_true rfl) ?_
  intro p e s m below meth c A ls hx hb hr hts hown hlk hml hA hP hK hD hT hl hno
  have hS : va_S A s.heap s.heap [] := va_S.rf
  have hown : s.vm.findClass RX1 = some m.cls := hown
  have hW : ∀ w ∈ tW, w.before _ s = true := fun w h => hts w (List.mem_cons_of_mem _ h)
  have hl : lv_has ls 2 [(0, .ref (o 0)), (1, .int v)] := hl
  refine lv_iload_n hx hb dX1_requireDay_0 rfl (lv_at hl 1 rfl) ?_
  refine lv_if_lt (tgt := 12) hx hb dX1_requireDay_1 (by decide) (fun ha => ?_) (fun ha => ?_)
  · exact tr_throw (cls := "java/lang/IndexOutOfBoundsException") (tx := "no such day") (names := ["java/lang/RuntimeException", "java/lang/Exception"]) (rest := []) hx hb (hml.trans hl.1.symm) hl0 hown (by decide +kernel) (by decide +kernel) (own_ok own_IOB hW hT) (hW _ tw_273) (hW _ tw_12) (hT.2.2.2 (.stringRef "ProofLeaves" 159 "no such day") (by decide +kernel)) hno hlk dX1_requireDay_12 dX1_requireDay_15 dX1_requireDay_16 dX1_requireDay_18 dX1_requireDay_21 (Nat.le_of_ble_eq_true rfl) (Nat.le_of_ble_eq_true rfl) (Nat.le_of_ble_eq_true rfl) (Nat.le_of_ble_eq_true rfl) (Nat.le_of_ble_eq_true rfl) (Nat.le_of_ble_eq_true rfl) (fun z t h1 h2 => Or.inr ⟨_, _, rfl, if_pos (Or.inl ha), h1, h2⟩)
  · refine lv_iload_n hx hb dX1_requireDay_4 rfl (lv_at hl 1 rfl) ?_
    refine lv_aload_n hx hb dX1_requireDay_5 rfl (lv_at hl 0 rfl) ?_
    refine va_get (D := D) (ci := 0) (v := .int dc) (C := RX1) (T := TX1) (N := 14) hx hb hW iPL hown hK hP 0 rfl rfl 9 (by decide) (hW _ tw_53) (fun _ h9 => h9) rfl dX1_requireDay_6 ?_
    refine lv_icmp_lt (tgt := 22) hx hb dX1_requireDay_9 (by decide) (fun hc => ?_) (fun hc => ?_)
    · exact tr_ret hx hb hr hlk (if_neg (fun h => h.elim ha (fun h1 => h1 hc))) dX1_requireDay_22 (Nat.le_of_ble_eq_true rfl) (Nat.le_of_ble_eq_true rfl)
    · exact tr_throw (cls := "java/lang/IndexOutOfBoundsException") (tx := "no such day") (names := ["java/lang/RuntimeException", "java/lang/Exception"]) (rest := []) hx hb (hml.trans hl.1.symm) hl0 hown (by decide +kernel) (by decide +kernel) (own_ok own_IOB hW hT) (hW _ tw_273) (hW _ tw_12) (hT.2.2.2 (.stringRef "ProofLeaves" 159 "no such day") (by decide +kernel)) hno hlk dX1_requireDay_12 dX1_requireDay_15 dX1_requireDay_16 dX1_requireDay_18 dX1_requireDay_21 (Nat.le_of_ble_eq_true rfl) (Nat.le_of_ble_eq_true rfl) (Nat.le_of_ble_eq_true rfl) (Nat.le_of_ble_eq_true rfl) (Nat.le_of_ble_eq_true rfl) (Nat.le_of_ble_eq_true rfl) (fun z t h1 h2 => Or.inr ⟨_, _, rfl, if_pos (Or.inr hc), h1, h2⟩)
set_option maxHeartbeats 4000000 in
set_option maxRecDepth 100000 in
/-- requirePathDigest(v) -/
theorem c_requirePathDigest {l : Launch} {D : va_G} {o ad : Nat → Nat} {cI cZ cG : ClassId} {tl lc wc dc pn : Int32} {isw : Nat → Int32} (hl0 : l.stackTraces = false) (v sl : Int32) (mem : Nat → Nat → Int32) : MTr l gE yX1_requirePathDigest (.code yX1_requirePathDigest cX1_requirePathDigest 2 none :: tW) ({ frames := 6, cells := 1, slots := 6, locals := 100 }) D vwCl (tC cI cZ cG) [.ref (o 0), .int v] (wC o ad cI cZ cG tl lc wc dc pn sl isw mem) (x_req v pn) := by
  refine MTr.ofW (by decide +kernel) rfl (Nat.le_of_ble_eq_true rfl) ?_
  intro p e s m below meth c A ls hx hb hr hts hown hlk hml hA hP hK hD hT hl hno
  have hS : va_S A s.heap s.heap [] := va_S.rf
  have hown : s.vm.findClass RX1 = some m.cls := hown
  have hW : ∀ w ∈ tW, w.before _ s = true := fun w h => hts w (List.mem_cons_of_mem _ h)
  have hl : lv_has ls 2 [(0, .ref (o 0)), (1, .int v)] := hl
  refine lv_iload_n hx hb dX1_requirePathDigest_0 rfl (lv_at hl 1 rfl) ?_
  refine lv_if_lt (tgt := 12) hx hb dX1_requirePathDigest_1 (by decide) (fun ha => ?_) (fun ha => ?_)
  · exact tr_throw (cls := "java/lang/IndexOutOfBoundsException") (tx := "no such digest in the proof") (names := ["java/lang/RuntimeException", "java/lang/Exception"]) (rest := []) hx hb (hml.trans hl.1.symm) hl0 hown (by decide +kernel) (by decide +kernel) (own_ok own_IOB hW hT) (hW _ tw_273) (hW _ tw_12) (hT.2.2.2 (.stringRef "ProofLeaves" 161 "no such digest in the proof") (by decide +kernel)) hno hlk dX1_requirePathDigest_12 dX1_requirePathDigest_15 dX1_requirePathDigest_16 dX1_requirePathDigest_18 dX1_requirePathDigest_21 (Nat.le_of_ble_eq_true rfl) (Nat.le_of_ble_eq_true rfl) (Nat.le_of_ble_eq_true rfl) (Nat.le_of_ble_eq_true rfl) (Nat.le_of_ble_eq_true rfl) (Nat.le_of_ble_eq_true rfl) (fun z t h1 h2 => Or.inr ⟨_, _, rfl, if_pos (Or.inl ha), h1, h2⟩)
  · refine lv_iload_n hx hb dX1_requirePathDigest_4 rfl (lv_at hl 1 rfl) ?_
    refine lv_aload_n hx hb dX1_requirePathDigest_5 rfl (lv_at hl 0 rfl) ?_
    refine va_get (D := D) (ci := 0) (v := .int pn) (C := RX1) (T := TX1) (N := 14) hx hb hW iPL hown hK hP 0 rfl rfl 11 (by decide) (hW _ tw_55) (fun _ h9 => h9) rfl dX1_requirePathDigest_6 ?_
    refine lv_icmp_lt (tgt := 22) hx hb dX1_requirePathDigest_9 (by decide) (fun hc => ?_) (fun hc => ?_)
    · exact tr_ret hx hb hr hlk (if_neg (fun h => h.elim ha (fun h1 => h1 hc))) dX1_requirePathDigest_22 (Nat.le_of_ble_eq_true rfl) (Nat.le_of_ble_eq_true rfl)
    · exact tr_throw (cls := "java/lang/IndexOutOfBoundsException") (tx := "no such digest in the proof") (names := ["java/lang/RuntimeException", "java/lang/Exception"]) (rest := []) hx hb (hml.trans hl.1.symm) hl0 hown (by decide +kernel) (by decide +kernel) (own_ok own_IOB hW hT) (hW _ tw_273) (hW _ tw_12) (hT.2.2.2 (.stringRef "ProofLeaves" 161 "no such digest in the proof") (by decide +kernel)) hno hlk dX1_requirePathDigest_12 dX1_requirePathDigest_15 dX1_requirePathDigest_16 dX1_requirePathDigest_18 dX1_requirePathDigest_21 (Nat.le_of_ble_eq_true rfl) (Nat.le_of_ble_eq_true rfl) (Nat.le_of_ble_eq_true rfl) (Nat.le_of_ble_eq_true rfl) (Nat.le_of_ble_eq_true rfl) (Nat.le_of_ble_eq_true rfl) (fun z t h1 h2 => Or.inr ⟨_, _, rfl, if_pos (Or.inr hc), h1, h2⟩)
set_option maxHeartbeats 4000000 in
set_option maxRecDepth 100000 in
/-- requireByte(v) -/
theorem c_requireByte {l : Launch} {D : va_G} {cI cZ cG : ClassId} (hl0 : l.stackTraces = false) (w : va_W) (v : Int32) : MTr l gE yX1_requireByte (.code yX1_requireByte cX1_requireByte 1 none :: tW) ({ frames := 6, cells := 1, slots := 6, locals := 100 }) D vwCl (tC cI cZ cG) [.int v] (w) (x_req v (nI 32)) := by
  refine MTr.ofW (by decide +kernel) rfl (Nat.le_of_ble_eq_true rfl) ?_
  intro p e s m below meth c A ls hx hb hr hts hown hlk hml hA hP hK hD hT hl hno
  have hS : va_S A s.heap s.heap [] := va_S.rf
  have hown : s.vm.findClass RX1 = some m.cls := hown
  have hW : ∀ w ∈ tW, w.before _ s = true := fun w h => hts w (List.mem_cons_of_mem _ h)
  have hl : lv_has ls 1 [(0, .int v)] := hl
  refine lv_iload_n hx hb dX1_requireByte_0 rfl (lv_at hl 0 rfl) ?_
  refine lv_if_lt (tgt := 10) hx hb dX1_requireByte_1 (by decide) (fun ha => ?_) (fun ha => ?_)
  · exact tr_throw (cls := "java/lang/IndexOutOfBoundsException") (tx := "no such byte") (names := ["java/lang/RuntimeException", "java/lang/Exception"]) (rest := []) hx hb (hml.trans hl.1.symm) hl0 hown (by decide +kernel) (by decide +kernel) (own_ok own_IOB hW hT) (hW _ tw_273) (hW _ tw_12) (hT.2.2.2 (.stringRef "ProofLeaves" 163 "no such byte") (by decide +kernel)) hno hlk dX1_requireByte_10 dX1_requireByte_13 dX1_requireByte_14 dX1_requireByte_16 dX1_requireByte_19 (Nat.le_of_ble_eq_true rfl) (Nat.le_of_ble_eq_true rfl) (Nat.le_of_ble_eq_true rfl) (Nat.le_of_ble_eq_true rfl) (Nat.le_of_ble_eq_true rfl) (Nat.le_of_ble_eq_true rfl) (fun z t h1 h2 => Or.inr ⟨_, _, rfl, if_pos (Or.inl ha), h1, h2⟩)
  · refine lv_iload_n hx hb dX1_requireByte_4 rfl (lv_at hl 0 rfl) ?_
    refine lv_bipush (v := nI 32) hx hb dX1_requireByte_5 (by decide) ?_
    refine lv_icmp_lt (tgt := 20) hx hb dX1_requireByte_7 (by decide) (fun hc => ?_) (fun hc => ?_)
    · exact tr_ret hx hb hr hlk (if_neg (fun h => h.elim ha (fun h1 => h1 hc))) dX1_requireByte_20 (Nat.le_of_ble_eq_true rfl) (Nat.le_of_ble_eq_true rfl)
    · exact tr_throw (cls := "java/lang/IndexOutOfBoundsException") (tx := "no such byte") (names := ["java/lang/RuntimeException", "java/lang/Exception"]) (rest := []) hx hb (hml.trans hl.1.symm) hl0 hown (by decide +kernel) (by decide +kernel) (own_ok own_IOB hW hT) (hW _ tw_273) (hW _ tw_12) (hT.2.2.2 (.stringRef "ProofLeaves" 163 "no such byte") (by decide +kernel)) hno hlk dX1_requireByte_10 dX1_requireByte_13 dX1_requireByte_14 dX1_requireByte_16 dX1_requireByte_19 (Nat.le_of_ble_eq_true rfl) (Nat.le_of_ble_eq_true rfl) (Nat.le_of_ble_eq_true rfl) (Nat.le_of_ble_eq_true rfl) (Nat.le_of_ble_eq_true rfl) (Nat.le_of_ble_eq_true rfl) (fun z t h1 h2 => Or.inr ⟨_, _, rfl, if_pos (Or.inr hc), h1, h2⟩)
set_option maxHeartbeats 4000000 in
set_option maxRecDepth 100000 in
/-- requireMask(v) -/
theorem c_requireMask {l : Launch} {D : va_G} {cI cZ cG : ClassId} (hl0 : l.stackTraces = false) (w : va_W) (v : Int32) : MTr l gE yX1_requireMask (.code yX1_requireMask cX1_requireMask 1 none :: tW) ({ frames := 6, cells := 1, slots := 6, locals := 100 }) D vwCl (tC cI cZ cG) [.int v] (w) (x_mask v) := by
  refine MTr.ofW (by decide +kernel) rfl (Nat.le_of_ble_eq_true rfl) ?_
  intro p e s m below meth c A ls hx hb hr hts hown hlk hml hA hP hK hD hT hl hno
  have hS : va_S A s.heap s.heap [] := va_S.rf
  have hown : s.vm.findClass RX1 = some m.cls := hown
  have hW : ∀ w ∈ tW, w.before _ s = true := fun w h => hts w (List.mem_cons_of_mem _ h)
  have hl : lv_has ls 1 [(0, .int v)] := hl
  refine lv_iload_n hx hb dX1_requireMask_0 rfl (lv_at hl 0 rfl) ?_
  refine lv_iconst (v := nI 1) hx hb dX1_requireMask_1 (by decide) ?_
  refine lv_icmp_lt (tgt := 12) hx hb dX1_requireMask_2 (by decide) (fun ha => ?_) (fun ha => ?_)
  · exact tr_throw (cls := "java/lang/IllegalArgumentException") (tx := "the mask is not 1 .. 255") (names := ["java/lang/RuntimeException", "java/lang/Exception"]) (rest := []) hx hb (hml.trans hl.1.symm) hl0 hown (by decide +kernel) (by decide +kernel) (own_ok own_IAE hW hT) (hW _ tw_97) (hW _ tw_7) (hT.2.2.2 (.stringRef "ProofLeaves" 165 "the mask is not 1 .. 255") (by decide +kernel)) hno hlk dX1_requireMask_12 dX1_requireMask_15 dX1_requireMask_16 dX1_requireMask_18 dX1_requireMask_21 (Nat.le_of_ble_eq_true rfl) (Nat.le_of_ble_eq_true rfl) (Nat.le_of_ble_eq_true rfl) (Nat.le_of_ble_eq_true rfl) (Nat.le_of_ble_eq_true rfl) (Nat.le_of_ble_eq_true rfl) (fun z t h1 h2 => Or.inr ⟨_, _, rfl, if_pos (Or.inl ha), h1, h2⟩)
  · refine lv_iload_n hx hb dX1_requireMask_5 rfl (lv_at hl 0 rfl) ?_
    refine lv_sipush (v := nI 255) hx hb dX1_requireMask_6 (by decide) ?_
    refine lv_icmp_le (tgt := 22) hx hb dX1_requireMask_9 (by decide) (fun hc => ?_) (fun hc => ?_)
    · exact tr_ret hx hb hr hlk (if_neg (fun h => h.elim ha (fun h1 => h1 hc))) dX1_requireMask_22 (Nat.le_of_ble_eq_true rfl) (Nat.le_of_ble_eq_true rfl)
    · exact tr_throw (cls := "java/lang/IllegalArgumentException") (tx := "the mask is not 1 .. 255") (names := ["java/lang/RuntimeException", "java/lang/Exception"]) (rest := []) hx hb (hml.trans hl.1.symm) hl0 hown (by decide +kernel) (by decide +kernel) (own_ok own_IAE hW hT) (hW _ tw_97) (hW _ tw_7) (hT.2.2.2 (.stringRef "ProofLeaves" 165 "the mask is not 1 .. 255") (by decide +kernel)) hno hlk dX1_requireMask_12 dX1_requireMask_15 dX1_requireMask_16 dX1_requireMask_18 dX1_requireMask_21 (Nat.le_of_ble_eq_true rfl) (Nat.le_of_ble_eq_true rfl) (Nat.le_of_ble_eq_true rfl) (Nat.le_of_ble_eq_true rfl) (Nat.le_of_ble_eq_true rfl) (Nat.le_of_ble_eq_true rfl) (fun z t h1 h2 => Or.inr ⟨_, _, rfl, if_pos (Or.inr hc), h1, h2⟩)
end
section
set_option maxHeartbeats 4000000 in
set_option maxRecDepth 100000 in
/-- feed(b, v) -/
theorem c_feed {l : Launch} {D : va_G} {o ad : Nat → Nat} {cI cZ cG : ClassId} {tl lc wc dc pn : Int32} {isw : Nat → Int32} (hl0 : l.stackTraces = false) (t : Nat) (ht : t ≤ 200) (v sl : Int32) (b : Int64) (mem : Nat → Nat → Int32) : MTi l gE yX1_feed (.code yX1_feed cX1_feed 5 (some .int) :: tW) ({ frames := 6, cells := 1, slots := 6, locals := 100 }) D vwCl (tC cI cZ cG) [.ref (o 0), .long b, .int v] (wC o ad cI cZ cG (nI t) lc wc dc pn sl isw mem) (wC o ad cI cZ cG (nI t + v) lc wc dc pn sl isw (p_feed b t (tn v) (tn v) mem)) (nI t + v) (x_feed (nI t) v) 1 6 := by
  refine MTi.ofW (by decide +kernel) rfl (Nat.le_of_ble_eq_true rfl) ?_
  intro p e s m below meth c A ls hx hb hr hts hown hlk hml hA hP hK hD hT hl hno
  have hS : va_S A s.heap s.heap [] := va_S.rf
  have hown : s.vm.findClass RX1 = some m.cls := hown
  have hW : ∀ w ∈ tW, w.before _ s = true := fun w h => hts w (List.mem_cons_of_mem _ h)
  have hl : lv_has ls 5 [(0, .ref (o 0)), (1, .long b), (3, .int v)] := hl
  refine lv_iload_n hx hb dX1_feed_0 rfl (lv_at hl 2 rfl) ?_
  refine lv_iconst (v := nI 1) hx hb dX1_feed_1 (by decide) ?_
  refine lv_icmp_lt (tgt := 11) hx hb dX1_feed_2 (by decide) (fun ha => ?_) (fun ha => ?_)
  · exact tr_throw (cls := "java/lang/IllegalArgumentException") (tx := "n is not 1 .. 8") (names := ["java/lang/RuntimeException", "java/lang/Exception"]) (rest := []) hx hb (hml.trans hl.1.symm) hl0 hown (by decide +kernel) (by decide +kernel) (own_ok own_IAE hW hT) (hW _ tw_97) (hW _ tw_7) (hT.2.2.2 (.stringRef "ProofLeaves" 62 "n is not 1 .. 8") (by decide +kernel)) hno hlk dX1_feed_11 dX1_feed_14 dX1_feed_15 dX1_feed_17 dX1_feed_20 (Nat.le_of_ble_eq_true rfl) (Nat.le_of_ble_eq_true rfl) (Nat.le_of_ble_eq_true rfl) (Nat.le_of_ble_eq_true rfl) (Nat.le_of_ble_eq_true rfl) (Nat.le_of_ble_eq_true rfl) (fun z t h1 h2 => Or.inr ⟨_, _, rfl, if_pos (Or.inl ha), h1, h2⟩)
  · refine lv_iload_n hx hb dX1_feed_5 rfl (lv_at hl 2 rfl) ?_
    refine lv_bipush (v := nI 8) hx hb dX1_feed_6 (by decide) ?_
    refine lv_icmp_le (tgt := 21) hx hb dX1_feed_8 (by decide) (fun hc => ?_) (fun hc => ?_)
    · refine lv_aload_n hx hb dX1_feed_21 rfl (lv_at hl 0 rfl) ?_
      refine va_get (D := D) (ci := 0) (v := .int (nI t)) (C := RX1) (T := TX1) (N := 14) hx hb hW iPL hown hK hP 0 rfl rfl 2 (by decide) (hW _ tw_46) (fun _ h9 => h9) rfl dX1_feed_22 ?_
      refine lv_iload_n hx hb dX1_feed_25 rfl (lv_at hl 2 rfl) ?_
      refine lv_iadd hx hb dX1_feed_26 ?_
      refine lv_sipush (v := nI 200) hx hb dX1_feed_27 (by decide) ?_
      refine lv_icmp_le (tgt := 43) hx hb dX1_feed_30 (by decide) (fun hd => ?_) (fun hd => ?_)
      · have hg : x_feed (nI t) v = none := (if_neg (fun h => h.elim ha (fun h1 => h1 hc))).trans (if_pos hd)
        obtain ⟨q, q1, q8, q2, rfl⟩ := x_feed_none ht hg
        have eq9 : tn (nI q) = q := nI_clamp (by omega)
        refine lv_iload_n hx hb dX1_feed_43 rfl (lv_at hl 2 rfl) ?_
        refine lv_iconst (v := nI 1) hx hb dX1_feed_44 (by decide) ?_
        refine lv_isub hx hb dX1_feed_45 ?_
        refine lv_eqi (v := nI (q - 1)) (pk_sub (by omega)) ?_
        refine lv_istore (lv' := [(4, .int (nI (q - 1))), (0, .ref (o 0)), (1, .long b), (3, .int (nI q))]) hx hb dX1_feed_46 hl (by decide) rfl (fun ls hl => ?_)
        have loop : ∀ (k i : Nat) (H : Heap) (locs : List Loc) (ls : Array Slot), i + k = q → va_P D vwCl (wC o ad cI cZ cG (nI (t + i)) lc wc dc pn sl isw (p_feed b t q i mem)) H → va_D A (wC o ad cI cZ cG (nI (t + i)) lc wc dc pn sl isw (p_feed b t q i mem)) → va_S A s.heap H locs → lv_has ls 5 [(0, .ref (o 0)), (1, .long b), (3, .int (nI q)), (4, .int (fdC q i))] → W p l e ({ frames := 6, cells := 1, slots := 6, locals := 100 }) s m ([.ref (o 0), .long b, .int (nI q)] : List Value).toArray below meth c H locs 0 0 (MQT below (xQTi D vwCl (wC o ad cI cZ cG (nI t + (nI q)) lc wc dc pn sl isw (p_feed b t (tn (nI q)) (tn (nI q)) mem)) (nI t + (nI q)) A (x_feed (nI t) (nI q))) ([.ref (o 0), .long b, .int (nI q)] : List Value).toArray s 1 6 A) (F0 m 48 ls []) := by
          intro k
          induction k with
          | zero =>
            intro i H locs ls hk hP hD hS hl
            have hk : i = q := by omega
            refine lv_iload hx hb dX1_feed_48 (lv_at hl 3 rfl) ?_
            refine lv_if_lt (tgt := 90) hx hb dX1_feed_50 (by decide) (fun hn => ?_) (fun hn => ?_)
            · refine lv_aload_n hx hb dX1_feed_90 rfl (lv_at hl 0 rfl) ?_
              refine va_get (D := D) (ci := 0) (v := .int (nI (t + i))) (C := RX1) (T := TX1) (N := 14) hx hb hW iPL hown hK hP 0 rfl rfl 2 (by decide) (hW _ tw_46) (fun _ h9 => h9) rfl dX1_feed_91 ?_
              rw [hk] at hP hD
              have hP : va_P D vwCl (wC o ad cI cZ cG (nI t + (nI q)) lc wc dc pn sl isw (p_feed b t (tn (nI q)) (tn (nI q)) mem)) H := by rw [eq9, nI_add]; exact hP
              have hD : va_D A (wC o ad cI cZ cG (nI t + (nI q)) lc wc dc pn sl isw (p_feed b t (tn (nI q)) (tn (nI q)) mem)) := by rw [eq9, nI_add]; exact hD
              exact ti_ret hx hb hr rfl hlk (hg) hS hP hD (by rw [hk, nI_add]) dX1_feed_94 (Nat.le_of_ble_eq_true rfl) (Nat.le_of_ble_eq_true rfl)
            · exact absurd (fdC_neg q i (by omega) (by omega)) hn
          | succ k ih =>
            intro i H locs ls hk hP hD hS hl
            have hi8 : i < q := by omega
            refine lv_iload hx hb dX1_feed_48 (lv_at hl 3 rfl) ?_
            refine lv_if_lt (tgt := 90) hx hb dX1_feed_50 (by decide) (fun hn => ?_) (fun hn => ?_)
            · exact absurd hn (by rw [fdC_pos q i hi8]; exact nI_pos (by omega))
            · rw [fdC_pos q i hi8] at hl
              refine lv_aload_n hx hb dX1_feed_53 rfl (lv_at hl 0 rfl) ?_
              refine va_get (D := D) (ci := 0) (v := .ref (ad 0)) (C := RX1) (T := TX1) (N := 14) hx hb hW iPL hown hK hP 0 rfl rfl 1 (by decide) (hW _ tw_45) (fun _ h9 => h9) rfl dX1_feed_54 ?_
              refine lv_aload_n hx hb dX1_feed_57 rfl (lv_at hl 0 rfl) ?_
              refine va_get (D := D) (ci := 0) (v := .int (nI (t + i))) (C := RX1) (T := TX1) (N := 14) hx hb hW iPL hown hK hP 0 rfl rfl 2 (by decide) (hW _ tw_46) (fun _ h9 => h9) rfl dX1_feed_58 ?_
              refine lv_lload_n hx hb dX1_feed_61 rfl (lv_at hl 1 rfl) ?_
              refine lv_bipush (v := nI 8) hx hb dX1_feed_62 (by decide) ?_
              refine lv_iload hx hb dX1_feed_64 (lv_at hl 3 rfl) ?_
              refine lv_imul hx hb dX1_feed_66 ?_
              refine lv_lushr (v := lush b ((nI 8) * (nI (q - 1 - i)))) hx hb dX1_feed_67 rfl ?_
              refine lv_l2i (v := (lush b ((nI 8) * (nI (q - 1 - i)))).toInt32) hx hb dX1_feed_68 rfl ?_
              refine lv_sipush (v := nI 255) hx hb dX1_feed_69 (by decide) ?_
              refine lv_iand hx hb dX1_feed_72 ?_
              refine lv_eqi (v := fdB b q i) (rfl) ?_
              refine m_st (X := wX o ad cZ cG (nI (t + i)) lc wc dc pn sl isw) hx hb hK hP hD hS 0 0 (t + i) rfl (by decide) (show (t + i) < 200 by omega) (by decide) dX1_feed_73 (fun H locs hP hD hS => ?_)
              have hP : va_P D vwCl (wC o ad cI cZ cG (nI (t + i)) lc wc dc pn sl isw (va_up (p_feed b t q i mem) 0 (upd ((p_feed b t q i mem) 0) (t + i) (fdB b q i)))) H := hP
              have hD : va_D A (wC o ad cI cZ cG (nI (t + i)) lc wc dc pn sl isw (va_up (p_feed b t q i mem) 0 (upd ((p_feed b t q i mem) 0) (t + i) (fdB b q i)))) := hD
              have hP : va_P D vwCl (wC o ad cI cZ cG (nI (t + i)) lc wc dc pn sl isw (p_feed b t q (i + 1) mem)) H := by rw [p_feed_s]; exact hP
              have hD : va_D A (wC o ad cI cZ cG (nI (t + i)) lc wc dc pn sl isw (p_feed b t q (i + 1) mem)) := by rw [p_feed_s]; exact hD
              refine lv_aload_n hx hb dX1_feed_74 rfl (lv_at hl 0 rfl) ?_
              refine lv_dup hx hb dX1_feed_75 rfl ?_
              refine va_get (D := D) (ci := 0) (v := .int (nI (t + i))) (C := RX1) (T := TX1) (N := 14) hx hb hW iPL hown hK hP 0 rfl rfl 2 (by decide) (hW _ tw_46) (fun _ h9 => h9) rfl dX1_feed_76 ?_
              refine lv_iconst (v := nI 1) hx hb dX1_feed_79 (by decide) ?_
              refine lv_iadd hx hb dX1_feed_80 ?_
              refine lv_eqi (v := nI (t + (i + 1))) (nI_add (t + i) 1) ?_
              refine va_put (D := D) (ci := 0) (v := .int (nI (t + (i + 1)))) (ty := .int) (C := RX1) (T := TX1) (N := 14) hx hb hW iPL tyX1 tyX1_ok nmX1 hown hK hP hD hS 0 rfl rfl 2 (by decide) (hW _ tw_46) (fun _ h9 => h9) rfl (by decide +kernel) rfl rfl (Nat.le_of_ble_eq_true rfl) dX1_feed_81 (fun H locs hP hD hS => ?_)
              have hP : va_P D vwCl (wC o ad cI cZ cG (nI (t + (i + 1))) lc wc dc pn sl isw (p_feed b t q (i + 1) mem)) H := hP
              have hD : va_D A (wC o ad cI cZ cG (nI (t + (i + 1))) lc wc dc pn sl isw (p_feed b t q (i + 1) mem)) := hD
              refine lv_iinc (v := fdC q (i + 1)) (lv' := [(4, .int (fdC q (i + 1))), (0, .ref (o 0)), (1, .long b), (3, .int (nI q))]) hx hb dX1_feed_84 hl (k := 3) rfl (fdC_s q (by omega) i hi8) (by decide) rfl (fun ls hl => ?_)
              refine lv_goto (tgt := 48) hx hb dX1_feed_87 (by decide) ?_
              exact ih (i + 1) H locs ls (by omega) hP hD hS (lv_sub hl [1, 2, 3, 0] rfl)
        exact loop q 0 s.heap [] ls (by omega) hP hD hS (lv_sub hl [1, 2, 3, 0] (by rw [fdC_0]; rfl))
      · exact tr_throw (cls := "java/lang/UnsupportedOperationException") (tx := "the tape would have more than 200 bytes") (names := ["java/lang/RuntimeException", "java/lang/Exception"]) (rest := []) hx hb (hml.trans hl.1.symm) hl0 hown (by decide +kernel) (by decide +kernel) (own_ok own_UOE hW hT) (hW _ tw_166) (hW _ tw_8) (hT.2.2.2 (.stringRef "ProofLeaves" 69 "the tape would have more than 200 bytes") (by decide +kernel)) hno hlk dX1_feed_33 dX1_feed_36 dX1_feed_37 dX1_feed_39 dX1_feed_42 (Nat.le_of_ble_eq_true rfl) (Nat.le_of_ble_eq_true rfl) (Nat.le_of_ble_eq_true rfl) (Nat.le_of_ble_eq_true rfl) (Nat.le_of_ble_eq_true rfl) (Nat.le_of_ble_eq_true rfl) (fun z t h1 h2 => Or.inr ⟨_, _, rfl, (if_neg (fun h => h.elim ha (fun h1 => h1 hc))).trans (if_neg hd), h1, h2⟩)
    · exact tr_throw (cls := "java/lang/IllegalArgumentException") (tx := "n is not 1 .. 8") (names := ["java/lang/RuntimeException", "java/lang/Exception"]) (rest := []) hx hb (hml.trans hl.1.symm) hl0 hown (by decide +kernel) (by decide +kernel) (own_ok own_IAE hW hT) (hW _ tw_97) (hW _ tw_7) (hT.2.2.2 (.stringRef "ProofLeaves" 62 "n is not 1 .. 8") (by decide +kernel)) hno hlk dX1_feed_11 dX1_feed_14 dX1_feed_15 dX1_feed_17 dX1_feed_20 (Nat.le_of_ble_eq_true rfl) (Nat.le_of_ble_eq_true rfl) (Nat.le_of_ble_eq_true rfl) (Nat.le_of_ble_eq_true rfl) (Nat.le_of_ble_eq_true rfl) (Nat.le_of_ble_eq_true rfl) (fun z t h1 h2 => Or.inr ⟨_, _, rfl, if_pos (Or.inr hc), h1, h2⟩)
set_option maxHeartbeats 4000000 in
set_option maxRecDepth 100000 in
/-- leaf() -/
theorem c_leaf {l : Launch} {D : va_G} {o ad : Nat → Nat} {cI cZ cG : ClassId} {tl lc wc dc pn : Int32} {isw : Nat → Int32} (hl0 : l.stackTraces = false) (q t n : Nat) (hq : q ≤ 24) (ht : t ≤ 200) (mem : Nat → Nat → Int32) : MTi l gE yX1_leaf (.code yX1_leaf cX1_leaf 1 (some .int) :: tW) ({ frames := 6, cells := 1, slots := 6, locals := 200 }) D vwCl (tC cI cZ cG) [.ref (o 0)] (wC o ad cI cZ cG (nI t) (nI q) wc dc pn (nI n) isw mem) (wC o ad cI cZ cG (nI 0) (nI (q + 1)) wc dc pn (nI (p_leaf q t (n, mem)).1) isw (p_leaf q t (n, mem)).2) (nI q) (x_if (¬ nI q < nI 24) nUOE) 1 6 := by
  refine MTi.ofW (by decide +kernel) rfl (Nat.le_of_ble_eq_true rfl) ?_
  intro p e s m below meth c A ls hx hb hr hts hown hlk hml hA hP hK hD hT hl hno
  have hS : va_S A s.heap s.heap [] := va_S.rf
  have hown : s.vm.findClass RX1 = some m.cls := hown
  have hW : ∀ w ∈ tW, w.before _ s = true := fun w h => hts w (List.mem_cons_of_mem _ h)
  have hl : lv_has ls 1 [(0, .ref (o 0))] := hl
  refine lv_aload_n hx hb dX1_leaf_0 rfl (lv_at hl 0 rfl) ?_
  refine va_get (D := D) (ci := 0) (v := .int (nI q)) (C := RX1) (T := TX1) (N := 14) hx hb hW iPL hown hK hP 0 rfl rfl 5 (by decide) (hW _ tw_49) (fun _ h9 => h9) rfl dX1_leaf_1 ?_
  refine lv_bipush (v := nI 24) hx hb dX1_leaf_4 (by decide) ?_
  refine lv_icmp_lt (tgt := 19) hx hb dX1_leaf_6 (by decide) (fun ha => ?_) (fun ha => ?_)
  · have hq2 : q < 24 := (nI_ltI (by omega) (by decide)).mp ha
    have e1 : (P_take (nI 0) (0, mem)).1 = 1 := P_take_fst _ _ (show 0 < 256 by decide)
    have e2 : (P_first 0 t (P_take (nI 0) (0, mem))).1 = 1 + t := by rw [P_first_fst 0 t _ (by omega), e1]
    refine lv_aload_n hx hb dX1_leaf_19 rfl (lv_at hl 0 rfl) ?_
    refine va_get (D := D) (ci := 0) (v := .ref (o 1)) (C := RX1) (T := TX1) (N := 14) hx hb hW iPL hown hK hP 0 rfl rfl 0 (by decide) (hW _ tw_44) (fun _ h9 => h9) rfl dX1_leaf_20 ?_
    refine mv_callV (C := RX0) (As := []) (rest := []) ⟨hx, hb, hml, hown, hW⟩ (c_begin n mem) gE_ok (cwV 0 hW (gV tw_190 tw_191 tw_192 tw_2 tw_193) rfl rfl rfl (by decide +kernel) ⟨Nat.le_of_ble_eq_true rfl, Nat.le_of_ble_eq_true rfl⟩) (va_recv hK hP (ci := 1) (q0 := 1) rfl rfl) hP hD hK hS hA hT rfl hl.1 rfl (Nat.le_of_ble_eq_true rfl) dX1_leaf_23 ⟨Nat.le_of_ble_eq_true rfl, Nat.le_of_ble_eq_true rfl⟩ (fun H locs hP hD hS => ?_)
    have hP : va_P D vwCl (wC o ad cI cZ cG (nI t) (nI q) wc dc pn (nI 0) isw mem) H := hP
    have hD : va_D A (wC o ad cI cZ cG (nI t) (nI q) wc dc pn (nI 0) isw mem) := hD
    refine lv_aload_n hx hb dX1_leaf_26 rfl (lv_at hl 0 rfl) ?_
    refine va_get (D := D) (ci := 0) (v := .ref (o 1)) (C := RX1) (T := TX1) (N := 14) hx hb hW iPL hown hK hP 0 rfl rfl 0 (by decide) (hW _ tw_44) (fun _ h9 => h9) rfl dX1_leaf_27 ?_
    refine lv_iconst (v := nI 0) hx hb dX1_leaf_30 (by decide) ?_
    refine mv_callV (C := RX0) (As := [.int (nI 0)]) (rest := []) ⟨hx, hb, hml, hown, hW⟩ (C_take 0 (by decide) mem (nI 0)) gE_ok (cwV 1 hW (gV tw_194 tw_195 tw_196 tw_2 tw_197) rfl rfl rfl (by decide +kernel) ⟨Nat.le_of_ble_eq_true rfl, Nat.le_of_ble_eq_true rfl⟩) (va_recv hK hP (ci := 1) (q0 := 1) rfl rfl) hP hD hK hS hA hT rfl hl.1 rfl (Nat.le_of_ble_eq_true rfl) dX1_leaf_31 ⟨Nat.le_of_ble_eq_true rfl, Nat.le_of_ble_eq_true rfl⟩ (fun H locs hP hD hS => ?_)
    have hP : va_P D vwCl (wC o ad cI cZ cG (nI t) (nI q) wc dc pn (nI (P_take (nI 0) (0, mem)).1) isw ((P_take (nI 0) (0, mem)).2)) H := hP
    have hD : va_D A (wC o ad cI cZ cG (nI t) (nI q) wc dc pn (nI (P_take (nI 0) (0, mem)).1) isw ((P_take (nI 0) (0, mem)).2)) := hD
    refine lv_aload_n hx hb dX1_leaf_34 rfl (lv_at hl 0 rfl) ?_
    refine va_get (D := D) (ci := 0) (v := .ref (o 1)) (C := RX1) (T := TX1) (N := 14) hx hb hW iPL hown hK hP 0 rfl rfl 0 (by decide) (hW _ tw_44) (fun _ h9 => h9) rfl dX1_leaf_35 ?_
    refine lv_aload_n hx hb dX1_leaf_38 rfl (lv_at hl 0 rfl) ?_
    refine va_get (D := D) (ci := 0) (v := .ref (ad 0)) (C := RX1) (T := TX1) (N := 14) hx hb hW iPL hown hK hP 0 rfl rfl 1 (by decide) (hW _ tw_45) (fun _ h9 => h9) rfl dX1_leaf_39 ?_
    refine lv_aload_n hx hb dX1_leaf_42 rfl (lv_at hl 0 rfl) ?_
    refine va_get (D := D) (ci := 0) (v := .int (nI t)) (C := RX1) (T := TX1) (N := 14) hx hb hW iPL hown hK hP 0 rfl rfl 2 (by decide) (hW _ tw_46) (fun _ h9 => h9) rfl dX1_leaf_43 ?_
    refine mv_callV (C := RX0) (As := [.ref (ad 0), .int (nI t)]) (rest := []) ⟨hx, hb, hml, hown, hW⟩ (C_takeFirst ((P_take (nI 0) (0, mem)).1) t 0 (by rw [e1]; decide) (ht) (by decide) ((P_take (nI 0) (0, mem)).2)) gE_ok (cwV 2 hW (gV tw_198 tw_199 tw_200 tw_2 tw_201) rfl rfl rfl (by decide +kernel) ⟨Nat.le_of_ble_eq_true rfl, Nat.le_of_ble_eq_true rfl⟩) (va_recv hK hP (ci := 1) (q0 := 1) rfl rfl) hP hD hK hS hA hT rfl hl.1 rfl (Nat.le_of_ble_eq_true rfl) dX1_leaf_46 ⟨Nat.le_of_ble_eq_true rfl, Nat.le_of_ble_eq_true rfl⟩ (fun H locs hP hD hS => ?_)
    have hP : va_P D vwCl (wC o ad cI cZ cG (nI t) (nI q) wc dc pn (nI (P_first 0 t (P_take (nI 0) (0, mem))).1) isw ((P_first 0 t (P_take (nI 0) (0, mem))).2)) H := hP
    have hD : va_D A (wC o ad cI cZ cG (nI t) (nI q) wc dc pn (nI (P_first 0 t (P_take (nI 0) (0, mem))).1) isw ((P_first 0 t (P_take (nI 0) (0, mem))).2)) := hD
    refine lv_aload_n hx hb dX1_leaf_49 rfl (lv_at hl 0 rfl) ?_
    refine va_get (D := D) (ci := 0) (v := .ref (o 1)) (C := RX1) (T := TX1) (N := 14) hx hb hW iPL hown hK hP 0 rfl rfl 0 (by decide) (hW _ tw_44) (fun _ h9 => h9) rfl dX1_leaf_50 ?_
    refine lv_aload_n hx hb dX1_leaf_53 rfl (lv_at hl 0 rfl) ?_
    refine va_get (D := D) (ci := 0) (v := .ref (o 2)) (C := RX1) (T := TX1) (N := 14) hx hb hW iPL hown hK hP 0 rfl rfl 3 (by decide) (hW _ tw_47) (fun _ h9 => h9) rfl dX1_leaf_54 ?_
    refine lv_aload_n hx hb dX1_leaf_57 rfl (lv_at hl 0 rfl) ?_
    refine va_get (D := D) (ci := 0) (v := .int (nI q)) (C := RX1) (T := TX1) (N := 14) hx hb hW iPL hown hK hP 0 rfl rfl 5 (by decide) (hW _ tw_49) (fun _ h9 => h9) rfl dX1_leaf_58 ?_
    refine m_row hx hb hK hP 2 2 q rfl rfl (by omega) (by decide) rfl dX1_leaf_61 ?_
    refine mv_callV (C := RX0) (As := [.ref (ad (6 + q))]) (rest := []) ⟨hx, hb, hml, hown, hW⟩ (C_finishInto ((P_first 0 t (P_take (nI 0) (0, mem))).1) (6 + q) (by rw [e2]; omega) (by omega) (lenC_row (by omega)) ((P_first 0 t (P_take (nI 0) (0, mem))).2)) gE_ok (cwV 1 hW (gV tw_203 tw_204 tw_205 tw_2 tw_206) rfl rfl rfl (by decide +kernel) ⟨Nat.le_of_ble_eq_true rfl, Nat.le_of_ble_eq_true rfl⟩) (va_recv hK hP (ci := 1) (q0 := 1) rfl rfl) hP hD hK hS hA hT rfl hl.1 rfl (Nat.le_of_ble_eq_true rfl) dX1_leaf_62 ⟨Nat.le_of_ble_eq_true rfl, Nat.le_of_ble_eq_true rfl⟩ (fun H locs hP hD hS => ?_)
    have hP : va_P D vwCl (wC o ad cI cZ cG (nI t) (nI q) wc dc pn (nI (P_fin (6 + q) (P_first 0 t (P_take (nI 0) (0, mem)))).1) isw ((P_fin (6 + q) (P_first 0 t (P_take (nI 0) (0, mem)))).2)) H := hP
    have hD : va_D A (wC o ad cI cZ cG (nI t) (nI q) wc dc pn (nI (P_fin (6 + q) (P_first 0 t (P_take (nI 0) (0, mem)))).1) isw ((P_fin (6 + q) (P_first 0 t (P_take (nI 0) (0, mem)))).2)) := hD
    refine lv_aload_n hx hb dX1_leaf_65 rfl (lv_at hl 0 rfl) ?_
    refine lv_iconst (v := nI 0) hx hb dX1_leaf_66 (by decide) ?_
    refine va_put (D := D) (ci := 0) (v := .int (nI 0)) (ty := .int) (C := RX1) (T := TX1) (N := 14) hx hb hW iPL tyX1 tyX1_ok nmX1 hown hK hP hD hS 0 rfl rfl 2 (by decide) (hW _ tw_46) (fun _ h9 => h9) rfl (by decide +kernel) rfl rfl (Nat.le_of_ble_eq_true rfl) dX1_leaf_67 (fun H locs hP hD hS => ?_)
    have hP : va_P D vwCl (wC o ad cI cZ cG (nI 0) (nI q) wc dc pn (nI (P_fin (6 + q) (P_first 0 t (P_take (nI 0) (0, mem)))).1) isw ((P_fin (6 + q) (P_first 0 t (P_take (nI 0) (0, mem)))).2)) H := hP
    have hD : va_D A (wC o ad cI cZ cG (nI 0) (nI q) wc dc pn (nI (P_fin (6 + q) (P_first 0 t (P_take (nI 0) (0, mem)))).1) isw ((P_fin (6 + q) (P_first 0 t (P_take (nI 0) (0, mem)))).2)) := hD
    refine lv_aload_n hx hb dX1_leaf_70 rfl (lv_at hl 0 rfl) ?_
    refine lv_dup hx hb dX1_leaf_71 rfl ?_
    refine va_get (D := D) (ci := 0) (v := .int (nI q)) (C := RX1) (T := TX1) (N := 14) hx hb hW iPL hown hK hP 0 rfl rfl 5 (by decide) (hW _ tw_49) (fun _ h9 => h9) rfl dX1_leaf_72 ?_
    refine lv_iconst (v := nI 1) hx hb dX1_leaf_75 (by decide) ?_
    refine lv_iadd hx hb dX1_leaf_76 ?_
    refine lv_eqi (v := nI (q + 1)) (nI_add q 1) ?_
    refine va_put (D := D) (ci := 0) (v := .int (nI (q + 1))) (ty := .int) (C := RX1) (T := TX1) (N := 14) hx hb hW iPL tyX1 tyX1_ok nmX1 hown hK hP hD hS 0 rfl rfl 5 (by decide) (hW _ tw_49) (fun _ h9 => h9) rfl (by decide +kernel) rfl rfl (Nat.le_of_ble_eq_true rfl) dX1_leaf_77 (fun H locs hP hD hS => ?_)
    have hP : va_P D vwCl (wC o ad cI cZ cG (nI 0) (nI (q + 1)) wc dc pn (nI (P_fin (6 + q) (P_first 0 t (P_take (nI 0) (0, mem)))).1) isw ((P_fin (6 + q) (P_first 0 t (P_take (nI 0) (0, mem)))).2)) H := hP
    have hD : va_D A (wC o ad cI cZ cG (nI 0) (nI (q + 1)) wc dc pn (nI (P_fin (6 + q) (P_first 0 t (P_take (nI 0) (0, mem)))).1) isw ((P_fin (6 + q) (P_first 0 t (P_take (nI 0) (0, mem)))).2)) := hD
    refine lv_aload_n hx hb dX1_leaf_80 rfl (lv_at hl 0 rfl) ?_
    refine va_get (D := D) (ci := 0) (v := .int (nI (q + 1))) (C := RX1) (T := TX1) (N := 14) hx hb hW iPL hown hK hP 0 rfl rfl 5 (by decide) (hW _ tw_49) (fun _ h9 => h9) rfl dX1_leaf_81 ?_
    refine lv_iconst (v := nI 1) hx hb dX1_leaf_84 (by decide) ?_
    refine lv_isub hx hb dX1_leaf_85 ?_
    refine lv_eqi (v := nI q) (nI_prd q) ?_
    have hP : va_P D vwCl (wC o ad cI cZ cG (nI 0) (nI (q + 1)) wc dc pn (nI (p_leaf q t (n, mem)).1) isw (p_leaf q t (n, mem)).2) H := by rw [p_leaf_e]; exact hP
    have hD : va_D A (wC o ad cI cZ cG (nI 0) (nI (q + 1)) wc dc pn (nI (p_leaf q t (n, mem)).1) isw (p_leaf q t (n, mem)).2) := by rw [p_leaf_e]; exact hD
    exact ti_ret hx hb hr rfl hlk (x_if_f (fun h => h ha)) hS hP hD (rfl) dX1_leaf_86 (Nat.le_of_ble_eq_true rfl) (Nat.le_of_ble_eq_true rfl)
  · exact tr_throw (cls := "java/lang/UnsupportedOperationException") (tx := "there are 24 leaves") (names := ["java/lang/RuntimeException", "java/lang/Exception"]) (rest := []) hx hb (hml.trans hl.1.symm) hl0 hown (by decide +kernel) (by decide +kernel) (own_ok own_UOE hW hT) (hW _ tw_166) (hW _ tw_8) (hT.2.2.2 (.stringRef "ProofLeaves" 72 "there are 24 leaves") (by decide +kernel)) hno hlk dX1_leaf_9 dX1_leaf_12 dX1_leaf_13 dX1_leaf_15 dX1_leaf_18 (Nat.le_of_ble_eq_true rfl) (Nat.le_of_ble_eq_true rfl) (Nat.le_of_ble_eq_true rfl) (Nat.le_of_ble_eq_true rfl) (Nat.le_of_ble_eq_true rfl) (Nat.le_of_ble_eq_true rfl) (fun z t h1 h2 => Or.inr ⟨_, _, rfl, x_if_t ha, h1, h2⟩)
set_option maxHeartbeats 4000000 in
set_option maxRecDepth 100000 in
/-- close() -/
theorem c_close {l : Launch} {D : va_G} {o ad : Nat → Nat} {cI cZ cG : ClassId} {tl lc wc dc pn : Int32} {isw : Nat → Int32} (hl0 : l.stackTraces = false) (q y n : Nat) (hq : q ≤ 24) (hy : y ≤ 12) (mem : Nat → Nat → Int32) : MTi l gE yX1_close (.code yX1_close cX1_close 1 (some .int) :: tW) ({ frames := 7, cells := 1, slots := 6, locals := 260 }) D vwCl (tC cI cZ cG) [.ref (o 0)] (wC o ad cI cZ cG tl (nI q) wc (nI y) pn (nI n) isw mem) (wC o ad cI cZ cG tl (nI q) wc (nI (y + 1)) pn (nI (p_close q y (n, mem)).1) isw (p_close q y (n, mem)).2) (nI y) (x_if (¬ nI y < nI 12) nUOE) 1 6 := by
  refine MTi.ofW (by decide +kernel) rfl (Nat.le_of_ble_eq_true rfl) ?_
  intro p e s m below meth c A ls hx hb hr hts hown hlk hml hA hP hK hD hT hl hno
  have hS : va_S A s.heap s.heap [] := va_S.rf
  have hown : s.vm.findClass RX1 = some m.cls := hown
  have hW : ∀ w ∈ tW, w.before _ s = true := fun w h => hts w (List.mem_cons_of_mem _ h)
  have hl : lv_has ls 1 [(0, .ref (o 0))] := hl
  refine lv_aload_n hx hb dX1_close_0 rfl (lv_at hl 0 rfl) ?_
  refine va_get (D := D) (ci := 0) (v := .int (nI y)) (C := RX1) (T := TX1) (N := 14) hx hb hW iPL hown hK hP 0 rfl rfl 9 (by decide) (hW _ tw_53) (fun _ h9 => h9) rfl dX1_close_1 ?_
  refine lv_bipush (v := nI 12) hx hb dX1_close_4 (by decide) ?_
  refine lv_icmp_lt (tgt := 19) hx hb dX1_close_6 (by decide) (fun ha => ?_) (fun ha => ?_)
  · have hy2 : y < 12 := (nI_ltI (by omega) (by decide)).mp ha
    refine lv_aload_n hx hb dX1_close_19 rfl (lv_at hl 0 rfl) ?_
    refine lv_aload_n hx hb dX1_close_20 rfl (lv_at hl 0 rfl) ?_
    refine va_get (D := D) (ci := 0) (v := .int (nI q)) (C := RX1) (T := TX1) (N := 14) hx hb hW iPL hown hK hP 0 rfl rfl 5 (by decide) (hW _ tw_49) (fun _ h9 => h9) rfl dX1_close_21 ?_
    refine lv_aload_n hx hb dX1_close_24 rfl (lv_at hl 0 rfl) ?_
    refine va_get (D := D) (ci := 0) (v := .ref (o 3)) (C := RX1) (T := TX1) (N := 14) hx hb hW iPL hown hK hP 0 rfl rfl 7 (by decide) (hW _ tw_51) (fun _ h9 => h9) rfl dX1_close_25 ?_
    refine lv_aload_n hx hb dX1_close_28 rfl (lv_at hl 0 rfl) ?_
    refine va_get (D := D) (ci := 0) (v := .int (nI y)) (C := RX1) (T := TX1) (N := 14) hx hb hW iPL hown hK hP 0 rfl rfl 9 (by decide) (hW _ tw_53) (fun _ h9 => h9) rfl dX1_close_29 ?_
    refine m_row hx hb hK hP 3 2 y rfl rfl (by omega) (by decide) rfl dX1_close_32 ?_
    refine mv_callV (C := RX1) (As := [.int (nI q), .ref (ad (30 + y))]) (rest := []) ⟨hx, hb, hml, hown, hW⟩ (c_treeInto q (30 + y) (by omega) (by omega) (lenC_row (by omega)) n mem) gE_ok (cwV 2 hW (gV tw_241 tw_243 tv_X1_treeInto tw_1 tw_244) rfl rfl rfl (by decide +kernel) ⟨Nat.le_of_ble_eq_true rfl, Nat.le_of_ble_eq_true rfl⟩) (va_recv hK hP (ci := 0) (q0 := 0) rfl rfl) hP hD hK hS hA hT rfl hl.1 rfl (Nat.le_of_ble_eq_true rfl) dX1_close_33 ⟨Nat.le_of_ble_eq_true rfl, Nat.le_of_ble_eq_true rfl⟩ (fun H locs hP hD hS => ?_)
    have hP : va_P D vwCl (wC o ad cI cZ cG tl (nI q) wc (nI y) pn (nI (p_tree q (30 + y) (n, mem)).1) isw ((p_tree q (30 + y) (n, mem)).2)) H := hP
    have hD : va_D A (wC o ad cI cZ cG tl (nI q) wc (nI y) pn (nI (p_tree q (30 + y) (n, mem)).1) isw ((p_tree q (30 + y) (n, mem)).2)) := hD
    refine lv_aload_n hx hb dX1_close_36 rfl (lv_at hl 0 rfl) ?_
    refine va_get (D := D) (ci := 0) (v := .ref (ad 1)) (C := RX1) (T := TX1) (N := 14) hx hb hW iPL hown hK hP 0 rfl rfl 8 (by decide) (hW _ tw_52) (fun _ h9 => h9) rfl dX1_close_37 ?_
    refine lv_aload_n hx hb dX1_close_40 rfl (lv_at hl 0 rfl) ?_
    refine va_get (D := D) (ci := 0) (v := .int (nI y)) (C := RX1) (T := TX1) (N := 14) hx hb hW iPL hown hK hP 0 rfl rfl 9 (by decide) (hW _ tw_53) (fun _ h9 => h9) rfl dX1_close_41 ?_
    refine lv_aload_n hx hb dX1_close_44 rfl (lv_at hl 0 rfl) ?_
    refine va_get (D := D) (ci := 0) (v := .int (nI q)) (C := RX1) (T := TX1) (N := 14) hx hb hW iPL hown hK hP 0 rfl rfl 5 (by decide) (hW _ tw_49) (fun _ h9 => h9) rfl dX1_close_45 ?_
    refine m_st (X := wX o ad cZ cG tl (nI q) wc (nI y) pn (nI (p_tree q (30 + y) (n, mem)).1) isw) hx hb hK hP hD hS 0 1 y rfl (by decide) (show y < 12 by omega) (by decide) dX1_close_48 (fun H locs hP hD hS => ?_)
    have hP : va_P D vwCl (wC o ad cI cZ cG tl (nI q) wc (nI y) pn (nI (p_tree q (30 + y) (n, mem)).1) isw (va_up ((p_tree q (30 + y) (n, mem)).2) 1 (upd (((p_tree q (30 + y) (n, mem)).2) 1) y (nI q)))) H := hP
    have hD : va_D A (wC o ad cI cZ cG tl (nI q) wc (nI y) pn (nI (p_tree q (30 + y) (n, mem)).1) isw (va_up ((p_tree q (30 + y) (n, mem)).2) 1 (upd (((p_tree q (30 + y) (n, mem)).2) 1) y (nI q)))) := hD
    refine lv_aload_n hx hb dX1_close_49 rfl (lv_at hl 0 rfl) ?_
    refine lv_dup hx hb dX1_close_50 rfl ?_
    refine va_get (D := D) (ci := 0) (v := .int (nI y)) (C := RX1) (T := TX1) (N := 14) hx hb hW iPL hown hK hP 0 rfl rfl 9 (by decide) (hW _ tw_53) (fun _ h9 => h9) rfl dX1_close_51 ?_
    refine lv_iconst (v := nI 1) hx hb dX1_close_54 (by decide) ?_
    refine lv_iadd hx hb dX1_close_55 ?_
    refine lv_eqi (v := nI (y + 1)) (nI_add y 1) ?_
    refine va_put (D := D) (ci := 0) (v := .int (nI (y + 1))) (ty := .int) (C := RX1) (T := TX1) (N := 14) hx hb hW iPL tyX1 tyX1_ok nmX1 hown hK hP hD hS 0 rfl rfl 9 (by decide) (hW _ tw_53) (fun _ h9 => h9) rfl (by decide +kernel) rfl rfl (Nat.le_of_ble_eq_true rfl) dX1_close_56 (fun H locs hP hD hS => ?_)
    have hP : va_P D vwCl (wC o ad cI cZ cG tl (nI q) wc (nI (y + 1)) pn (nI (p_tree q (30 + y) (n, mem)).1) isw (va_up ((p_tree q (30 + y) (n, mem)).2) 1 (upd (((p_tree q (30 + y) (n, mem)).2) 1) y (nI q)))) H := hP
    have hD : va_D A (wC o ad cI cZ cG tl (nI q) wc (nI (y + 1)) pn (nI (p_tree q (30 + y) (n, mem)).1) isw (va_up ((p_tree q (30 + y) (n, mem)).2) 1 (upd (((p_tree q (30 + y) (n, mem)).2) 1) y (nI q)))) := hD
    refine lv_aload_n hx hb dX1_close_59 rfl (lv_at hl 0 rfl) ?_
    refine va_get (D := D) (ci := 0) (v := .int (nI (y + 1))) (C := RX1) (T := TX1) (N := 14) hx hb hW iPL hown hK hP 0 rfl rfl 9 (by decide) (hW _ tw_53) (fun _ h9 => h9) rfl dX1_close_60 ?_
    refine lv_iconst (v := nI 1) hx hb dX1_close_63 (by decide) ?_
    refine lv_isub hx hb dX1_close_64 ?_
    refine lv_eqi (v := nI y) (nI_prd y) ?_
    have hP : va_P D vwCl (wC o ad cI cZ cG tl (nI q) wc (nI (y + 1)) pn (nI (p_close q y (n, mem)).1) isw (p_close q y (n, mem)).2) H := by exact hP
    have hD : va_D A (wC o ad cI cZ cG tl (nI q) wc (nI (y + 1)) pn (nI (p_close q y (n, mem)).1) isw (p_close q y (n, mem)).2) := by exact hD
    exact ti_ret hx hb hr rfl hlk (x_if_f (fun h => h ha)) hS hP hD (rfl) dX1_close_65 (Nat.le_of_ble_eq_true rfl) (Nat.le_of_ble_eq_true rfl)
  · exact tr_throw (cls := "java/lang/UnsupportedOperationException") (tx := "there are 12 days") (names := ["java/lang/RuntimeException", "java/lang/Exception"]) (rest := []) hx hb (hml.trans hl.1.symm) hl0 hown (by decide +kernel) (by decide +kernel) (own_ok own_UOE hW hT) (hW _ tw_166) (hW _ tw_8) (hT.2.2.2 (.stringRef "ProofLeaves" 89 "there are 12 days") (by decide +kernel)) hno hlk dX1_close_9 dX1_close_12 dX1_close_13 dX1_close_15 dX1_close_18 (Nat.le_of_ble_eq_true rfl) (Nat.le_of_ble_eq_true rfl) (Nat.le_of_ble_eq_true rfl) (Nat.le_of_ble_eq_true rfl) (Nat.le_of_ble_eq_true rfl) (Nat.le_of_ble_eq_true rfl) (fun z t h1 h2 => Or.inr ⟨_, _, rfl, x_if_t ha, h1, h2⟩)
set_option maxHeartbeats 4000000 in
set_option maxRecDepth 100000 in
/-- root(v, u) -/
theorem c_root {l : Launch} {D : va_G} {o ad : Nat → Nat} {cI cZ cG : ClassId} {tl lc wc dc pn : Int32} {isw : Nat → Int32} (hl0 : l.stackTraces = false) (y : Nat) (hy : y ≤ 12) (v u sl : Int32) (mem : Nat → Nat → Int32) : MTi l gE yX1_root (.code yX1_root cX1_root 3 (some .int) :: tW) ({ frames := 7, cells := 2, slots := 12, locals := 140 }) D vwCl (tC cI cZ cG) [.ref (o 0), .int v, .int u] (wC o ad cI cZ cG tl lc wc (nI y) pn sl isw mem) (wC o ad cI cZ cG tl lc wc (nI y) pn sl isw mem) (mem (30 + tn v) (tn u)) ((x_req v (nI y)).or (x_req u (nI 32))) 2 12 := by
  refine MTi.ofW (by decide +kernel) rfl (Nat.le_of_ble_eq_true rfl) ?_
  intro p e s m below meth c A ls hx hb hr hts hown hlk hml hA hP hK hD hT hl hno
  have hS : va_S A s.heap s.heap [] := va_S.rf
  have hown : s.vm.findClass RX1 = some m.cls := hown
  have hW : ∀ w ∈ tW, w.before _ s = true := fun w h => hts w (List.mem_cons_of_mem _ h)
  have hl : lv_has ls 3 [(0, .ref (o 0)), (1, .int v), (2, .int u)] := hl
  refine lv_aload_n hx hb dX1_root_0 rfl (lv_at hl 0 rfl) ?_
  refine lv_iload_n hx hb dX1_root_1 rfl (lv_at hl 1 rfl) ?_
  refine tr_callV (C := RX1) (As := [.int v]) (rest := []) ⟨hx, hb, hml, hown, hW⟩ (c_requireDay hl0 v sl mem) gE_ok (cwV 1 hW (gV tw_269 tw_271 tv_X1_requireDay tw_1 tw_272) rfl rfl rfl (by decide +kernel) ⟨Nat.le_of_ble_eq_true rfl, Nat.le_of_ble_eq_true rfl⟩) (va_recv hK hP (ci := 0) (q0 := 0) rfl rfl) hP hD hK hA hT rfl hl.1 rfl (Nat.le_of_ble_eq_true rfl) dX1_root_2 ⟨Nat.le_of_ble_eq_true rfl, Nat.le_of_ble_eq_true rfl⟩ hno hlk (Nat.le_of_ble_eq_true rfl) (Nat.le_of_ble_eq_true rfl) (fun nm z t h0 h1 h2 => Or.inr ⟨nm, z, rfl, x_or1 h0, h1, h2⟩) (fun hg1 => ?_)
  obtain ⟨d, hid, rfl⟩ := x_req_none (by omega) hg1
  refine lv_iload_n hx hb dX1_root_5 rfl (lv_at hl 2 rfl) ?_
  refine tr_callS (As := [.int u]) (rest := []) ⟨hx, hb, hml, hown, hW⟩ (c_requireByte hl0 _ u) gE_ok (va_cwS 1 hW (gS tw_289 tw_290 tw_1 tw_291) rfl rfl rfl (by decide +kernel) ⟨Nat.le_of_ble_eq_true rfl, Nat.le_of_ble_eq_true rfl⟩) hP hD hK hA hT rfl hl.1 rfl (Nat.le_of_ble_eq_true rfl) dX1_root_6 ⟨Nat.le_of_ble_eq_true rfl, Nat.le_of_ble_eq_true rfl⟩ hno hlk (Nat.le_of_ble_eq_true rfl) (Nat.le_of_ble_eq_true rfl) (fun nm z t h0 h1 h2 => Or.inr ⟨nm, z, rfl, x_or2 hg1 (h0), h1, h2⟩) (fun hg2 => ?_)
  obtain ⟨i, hii, rfl⟩ := x_req_none (by omega) hg2
  refine lv_aload_n hx hb dX1_root_9 rfl (lv_at hl 0 rfl) ?_
  refine va_get (D := D) (ci := 0) (v := .ref (o 3)) (C := RX1) (T := TX1) (N := 14) hx hb hW iPL hown hK hP 0 rfl rfl 7 (by decide) (hW _ tw_51) (fun _ h9 => h9) rfl dX1_root_10 ?_
  refine lv_iload_n hx hb dX1_root_13 rfl (lv_at hl 1 rfl) ?_
  refine m_row hx hb hK hP 3 2 d rfl rfl (by omega) (by decide) rfl dX1_root_14 ?_
  refine lv_iload_n hx hb dX1_root_15 rfl (lv_at hl 2 rfl) ?_
  refine m_ld (X := wX o ad cZ cG tl lc wc (nI y) pn sl isw) hx hb hK hP 0 (30 + d) i rfl (by omega) (by rw [lenC_row (by omega)]; omega) (by rw [lenC_row (by omega)]; decide) dX1_root_16 ?_
  have hP : va_P D vwCl (wC o ad cI cZ cG tl lc wc (nI y) pn sl isw mem) s.heap := by exact hP
  have hD : va_D A (wC o ad cI cZ cG tl lc wc (nI y) pn sl isw mem) := by exact hD
  exact ti_ret hx hb hr rfl hlk (x_or2 hg1 (hg2)) hS hP hD (by rw [show tn (nI d) = d from nI_clamp (by omega), show tn (nI i) = i from nI_clamp (by omega)]) dX1_root_17 (Nat.le_of_ble_eq_true rfl) (Nat.le_of_ble_eq_true rfl)
set_option maxHeartbeats 4000000 in
set_option maxRecDepth 100000 in
/-- digest(v, u) -/
theorem c_digest {l : Launch} {D : va_G} {o ad : Nat → Nat} {cI cZ cG : ClassId} {tl lc wc dc pn : Int32} {isw : Nat → Int32} (hl0 : l.stackTraces = false) (q : Nat) (hq : q ≤ 24) (v u sl : Int32) (mem : Nat → Nat → Int32) : MTi l gE yX1_digest (.code yX1_digest cX1_digest 3 (some .int) :: tW) ({ frames := 7, cells := 2, slots := 12, locals := 140 }) D vwCl (tC cI cZ cG) [.ref (o 0), .int v, .int u] (wC o ad cI cZ cG tl (nI q) wc dc pn sl isw mem) (wC o ad cI cZ cG tl (nI q) wc dc pn sl isw mem) (mem (6 + tn v) (tn u)) ((x_req v (nI q)).or (x_req u (nI 32))) 2 12 := by
  refine MTi.ofW (by decide +kernel) rfl (Nat.le_of_ble_eq_true rfl) ?_
  intro p e s m below meth c A ls hx hb hr hts hown hlk hml hA hP hK hD hT hl hno
  have hS : va_S A s.heap s.heap [] := va_S.rf
  have hown : s.vm.findClass RX1 = some m.cls := hown
  have hW : ∀ w ∈ tW, w.before _ s = true := fun w h => hts w (List.mem_cons_of_mem _ h)
  have hl : lv_has ls 3 [(0, .ref (o 0)), (1, .int v), (2, .int u)] := hl
  refine lv_aload_n hx hb dX1_digest_0 rfl (lv_at hl 0 rfl) ?_
  refine lv_iload_n hx hb dX1_digest_1 rfl (lv_at hl 1 rfl) ?_
  refine tr_callV (C := RX1) (As := [.int v]) (rest := []) ⟨hx, hb, hml, hown, hW⟩ (c_requireLeaf hl0 v sl mem) gE_ok (cwV 1 hW (gV tw_300 tw_302 tv_X1_requireLeaf tw_1 tw_303) rfl rfl rfl (by decide +kernel) ⟨Nat.le_of_ble_eq_true rfl, Nat.le_of_ble_eq_true rfl⟩) (va_recv hK hP (ci := 0) (q0 := 0) rfl rfl) hP hD hK hA hT rfl hl.1 rfl (Nat.le_of_ble_eq_true rfl) dX1_digest_2 ⟨Nat.le_of_ble_eq_true rfl, Nat.le_of_ble_eq_true rfl⟩ hno hlk (Nat.le_of_ble_eq_true rfl) (Nat.le_of_ble_eq_true rfl) (fun nm z t h0 h1 h2 => Or.inr ⟨nm, z, rfl, x_or1 h0, h1, h2⟩) (fun hg1 => ?_)
  obtain ⟨d, hid, rfl⟩ := x_req_none (by omega) hg1
  refine lv_iload_n hx hb dX1_digest_5 rfl (lv_at hl 2 rfl) ?_
  refine tr_callS (As := [.int u]) (rest := []) ⟨hx, hb, hml, hown, hW⟩ (c_requireByte hl0 _ u) gE_ok (va_cwS 1 hW (gS tw_289 tw_290 tw_1 tw_291) rfl rfl rfl (by decide +kernel) ⟨Nat.le_of_ble_eq_true rfl, Nat.le_of_ble_eq_true rfl⟩) hP hD hK hA hT rfl hl.1 rfl (Nat.le_of_ble_eq_true rfl) dX1_digest_6 ⟨Nat.le_of_ble_eq_true rfl, Nat.le_of_ble_eq_true rfl⟩ hno hlk (Nat.le_of_ble_eq_true rfl) (Nat.le_of_ble_eq_true rfl) (fun nm z t h0 h1 h2 => Or.inr ⟨nm, z, rfl, x_or2 hg1 (h0), h1, h2⟩) (fun hg2 => ?_)
  obtain ⟨i, hii, rfl⟩ := x_req_none (by omega) hg2
  refine lv_aload_n hx hb dX1_digest_9 rfl (lv_at hl 0 rfl) ?_
  refine va_get (D := D) (ci := 0) (v := .ref (o 2)) (C := RX1) (T := TX1) (N := 14) hx hb hW iPL hown hK hP 0 rfl rfl 3 (by decide) (hW _ tw_47) (fun _ h9 => h9) rfl dX1_digest_10 ?_
  refine lv_iload_n hx hb dX1_digest_13 rfl (lv_at hl 1 rfl) ?_
  refine m_row hx hb hK hP 2 2 d rfl rfl (by omega) (by decide) rfl dX1_digest_14 ?_
  refine lv_iload_n hx hb dX1_digest_15 rfl (lv_at hl 2 rfl) ?_
  refine m_ld (X := wX o ad cZ cG tl (nI q) wc dc pn sl isw) hx hb hK hP 0 (6 + d) i rfl (by omega) (by rw [lenC_row (by omega)]; omega) (by rw [lenC_row (by omega)]; decide) dX1_digest_16 ?_
  have hP : va_P D vwCl (wC o ad cI cZ cG tl (nI q) wc dc pn sl isw mem) s.heap := by exact hP
  have hD : va_D A (wC o ad cI cZ cG tl (nI q) wc dc pn sl isw mem) := by exact hD
  exact ti_ret hx hb hr rfl hlk (x_or2 hg1 (hg2)) hS hP hD (by rw [show tn (nI d) = d from nI_clamp (by omega), show tn (nI i) = i from nI_clamp (by omega)]) dX1_digest_17 (Nat.le_of_ble_eq_true rfl) (Nat.le_of_ble_eq_true rfl)
set_option maxHeartbeats 4000000 in
set_option maxRecDepth 100000 in
/-- count(v) -/
theorem c_count {l : Launch} {D : va_G} {o ad : Nat → Nat} {cI cZ cG : ClassId} {tl lc wc dc pn : Int32} {isw : Nat → Int32} (hl0 : l.stackTraces = false) (y : Nat) (hy : y ≤ 12) (v sl : Int32) (mem : Nat → Nat → Int32) : MTi l gE yX1_count (.code yX1_count cX1_count 2 (some .int) :: tW) ({ frames := 7, cells := 1, slots := 6, locals := 140 }) D vwCl (tC cI cZ cG) [.ref (o 0), .int v] (wC o ad cI cZ cG tl lc wc (nI y) pn sl isw mem) (wC o ad cI cZ cG tl lc wc (nI y) pn sl isw mem) (mem 1 (tn v)) (x_req v (nI y)) 1 6 := by
  refine MTi.ofW (by decide +kernel) rfl (Nat.le_of_ble_eq_true rfl) ?_
  intro p e s m below meth c A ls hx hb hr hts hown hlk hml hA hP hK hD hT hl hno
  have hS : va_S A s.heap s.heap [] := va_S.rf
  have hown : s.vm.findClass RX1 = some m.cls := hown
  have hW : ∀ w ∈ tW, w.before _ s = true := fun w h => hts w (List.mem_cons_of_mem _ h)
  have hl : lv_has ls 2 [(0, .ref (o 0)), (1, .int v)] := hl
  refine lv_aload_n hx hb dX1_count_0 rfl (lv_at hl 0 rfl) ?_
  refine lv_iload_n hx hb dX1_count_1 rfl (lv_at hl 1 rfl) ?_
  refine tr_callV (C := RX1) (As := [.int v]) (rest := []) ⟨hx, hb, hml, hown, hW⟩ (c_requireDay hl0 v sl mem) gE_ok (cwV 1 hW (gV tw_269 tw_271 tv_X1_requireDay tw_1 tw_272) rfl rfl rfl (by decide +kernel) ⟨Nat.le_of_ble_eq_true rfl, Nat.le_of_ble_eq_true rfl⟩) (va_recv hK hP (ci := 0) (q0 := 0) rfl rfl) hP hD hK hA hT rfl hl.1 rfl (Nat.le_of_ble_eq_true rfl) dX1_count_2 ⟨Nat.le_of_ble_eq_true rfl, Nat.le_of_ble_eq_true rfl⟩ hno hlk (Nat.le_of_ble_eq_true rfl) (Nat.le_of_ble_eq_true rfl) (fun nm z t h0 h1 h2 => Or.inr ⟨nm, z, rfl, h0, h1, h2⟩) (fun hg1 => ?_)
  obtain ⟨d, hid, rfl⟩ := x_req_none (by omega) hg1
  refine lv_aload_n hx hb dX1_count_5 rfl (lv_at hl 0 rfl) ?_
  refine va_get (D := D) (ci := 0) (v := .ref (ad 1)) (C := RX1) (T := TX1) (N := 14) hx hb hW iPL hown hK hP 0 rfl rfl 8 (by decide) (hW _ tw_52) (fun _ h9 => h9) rfl dX1_count_6 ?_
  refine lv_iload_n hx hb dX1_count_9 rfl (lv_at hl 1 rfl) ?_
  refine m_ld (X := wX o ad cZ cG tl lc wc (nI y) pn sl isw) hx hb hK hP 0 1 d rfl (by decide) (show d < 12 by omega) (by decide) dX1_count_10 ?_
  have hP : va_P D vwCl (wC o ad cI cZ cG tl lc wc (nI y) pn sl isw mem) s.heap := by exact hP
  have hD : va_D A (wC o ad cI cZ cG tl lc wc (nI y) pn sl isw mem) := by exact hD
  exact ti_ret hx hb hr rfl hlk (hg1) hS hP hD (by rw [show tn (nI d) = d from nI_clamp (by omega)]) dX1_count_11 (Nat.le_of_ble_eq_true rfl) (Nat.le_of_ble_eq_true rfl)
set_option maxHeartbeats 4000000 in
set_option maxRecDepth 100000 in
/-- proof(v, u) -/
theorem c_proof {l : Launch} {D : va_G} {o ad : Nat → Nat} {cI cZ cG : ClassId} {tl lc wc dc pn : Int32} {isw : Nat → Int32} (hl0 : l.stackTraces = false) (hpn : pn ≤ nI 5) (v u sl : Int32) (mem : Nat → Nat → Int32) : MTi l gE yX1_proof (.code yX1_proof cX1_proof 3 (some .int) :: tW) ({ frames := 7, cells := 2, slots := 12, locals := 140 }) D vwCl (tC cI cZ cG) [.ref (o 0), .int v, .int u] (wC o ad cI cZ cG tl lc wc dc pn sl isw mem) (wC o ad cI cZ cG tl lc wc dc pn sl isw mem) (mem (42 + tn v) (tn u)) ((x_req v pn).or (x_req u (nI 32))) 2 12 := by
  refine MTi.ofW (by decide +kernel) rfl (Nat.le_of_ble_eq_true rfl) ?_
  intro p e s m below meth c A ls hx hb hr hts hown hlk hml hA hP hK hD hT hl hno
  have hS : va_S A s.heap s.heap [] := va_S.rf
  have hown : s.vm.findClass RX1 = some m.cls := hown
  have hW : ∀ w ∈ tW, w.before _ s = true := fun w h => hts w (List.mem_cons_of_mem _ h)
  have hl : lv_has ls 3 [(0, .ref (o 0)), (1, .int v), (2, .int u)] := hl
  refine lv_aload_n hx hb dX1_proof_0 rfl (lv_at hl 0 rfl) ?_
  refine lv_iload_n hx hb dX1_proof_1 rfl (lv_at hl 1 rfl) ?_
  refine tr_callV (C := RX1) (As := [.int v]) (rest := []) ⟨hx, hb, hml, hown, hW⟩ (c_requirePathDigest hl0 v sl mem) gE_ok (cwV 1 hW (gV tw_353 tw_355 tv_X1_requirePathDigest tw_1 tw_356) rfl rfl rfl (by decide +kernel) ⟨Nat.le_of_ble_eq_true rfl, Nat.le_of_ble_eq_true rfl⟩) (va_recv hK hP (ci := 0) (q0 := 0) rfl rfl) hP hD hK hA hT rfl hl.1 rfl (Nat.le_of_ble_eq_true rfl) dX1_proof_2 ⟨Nat.le_of_ble_eq_true rfl, Nat.le_of_ble_eq_true rfl⟩ hno hlk (Nat.le_of_ble_eq_true rfl) (Nat.le_of_ble_eq_true rfl) (fun nm z t h0 h1 h2 => Or.inr ⟨nm, z, rfl, x_or1 h0, h1, h2⟩) (fun hg1 => ?_)
  obtain ⟨d, hid, rfl⟩ := x_req_pn hpn hg1
  refine lv_iload_n hx hb dX1_proof_5 rfl (lv_at hl 2 rfl) ?_
  refine tr_callS (As := [.int u]) (rest := []) ⟨hx, hb, hml, hown, hW⟩ (c_requireByte hl0 _ u) gE_ok (va_cwS 1 hW (gS tw_289 tw_290 tw_1 tw_291) rfl rfl rfl (by decide +kernel) ⟨Nat.le_of_ble_eq_true rfl, Nat.le_of_ble_eq_true rfl⟩) hP hD hK hA hT rfl hl.1 rfl (Nat.le_of_ble_eq_true rfl) dX1_proof_6 ⟨Nat.le_of_ble_eq_true rfl, Nat.le_of_ble_eq_true rfl⟩ hno hlk (Nat.le_of_ble_eq_true rfl) (Nat.le_of_ble_eq_true rfl) (fun nm z t h0 h1 h2 => Or.inr ⟨nm, z, rfl, x_or2 hg1 (h0), h1, h2⟩) (fun hg2 => ?_)
  obtain ⟨i, hii, rfl⟩ := x_req_none (by omega) hg2
  refine lv_aload_n hx hb dX1_proof_9 rfl (lv_at hl 0 rfl) ?_
  refine va_get (D := D) (ci := 0) (v := .ref (o 4)) (C := RX1) (T := TX1) (N := 14) hx hb hW iPL hown hK hP 0 rfl rfl 10 (by decide) (hW _ tw_54) (fun _ h9 => h9) rfl dX1_proof_10 ?_
  refine lv_iload_n hx hb dX1_proof_13 rfl (lv_at hl 1 rfl) ?_
  refine m_row hx hb hK hP 4 2 d rfl rfl (by omega) (by decide) rfl dX1_proof_14 ?_
  refine lv_iload_n hx hb dX1_proof_15 rfl (lv_at hl 2 rfl) ?_
  refine m_ld (X := wX o ad cZ cG tl lc wc dc pn sl isw) hx hb hK hP 0 (42 + d) i rfl (by omega) (by rw [lenC_row (by omega)]; omega) (by rw [lenC_row (by omega)]; decide) dX1_proof_16 ?_
  have hP : va_P D vwCl (wC o ad cI cZ cG tl lc wc dc pn sl isw mem) s.heap := by exact hP
  have hD : va_D A (wC o ad cI cZ cG tl lc wc dc pn sl isw mem) := by exact hD
  exact ti_ret hx hb hr rfl hlk (x_or2 hg1 (hg2)) hS hP hD (by rw [show tn (nI d) = d from nI_clamp (by omega), show tn (nI i) = i from nI_clamp (by omega)]) dX1_proof_17 (Nat.le_of_ble_eq_true rfl) (Nat.le_of_ble_eq_true rfl)
set_option maxHeartbeats 4000000 in
set_option maxRecDepth 100000 in
/-- bend(v, u, x) -/
theorem c_bend {l : Launch} {D : va_G} {o ad : Nat → Nat} {cI cZ cG : ClassId} {tl lc wc dc pn : Int32} {isw : Nat → Int32} (hl0 : l.stackTraces = false) (hpn : pn ≤ nI 5) (v u x sl : Int32) (mem : Nat → Nat → Int32) : MTv l gE yX1_bend (.code yX1_bend cX1_bend 4 none :: tW) ({ frames := 7, cells := 3, slots := 18, locals := 140 }) D vwCl (tC cI cZ cG) [.ref (o 0), .int v, .int u, .int x] (wC o ad cI cZ cG tl lc wc dc pn sl isw mem) (wC o ad cI cZ cG tl lc wc dc pn sl isw (p_bend (42 + tn v) (tn u) x mem)) ((x_req v pn).or ((x_req u (nI 32)).or (x_mask x))) 3 18 := by
  refine MTv.ofW (by decide +kernel) rfl (Nat.le_of_ble_eq_true rfl) ?_
  intro p e s m below meth c A ls hx hb hr hts hown hlk hml hA hP hK hD hT hl hno
  have hS : va_S A s.heap s.heap [] := va_S.rf
  have hown : s.vm.findClass RX1 = some m.cls := hown
  have hW : ∀ w ∈ tW, w.before _ s = true := fun w h => hts w (List.mem_cons_of_mem _ h)
  have hl : lv_has ls 4 [(0, .ref (o 0)), (1, .int v), (2, .int u), (3, .int x)] := hl
  refine lv_aload_n hx hb dX1_bend_0 rfl (lv_at hl 0 rfl) ?_
  refine lv_iload_n hx hb dX1_bend_1 rfl (lv_at hl 1 rfl) ?_
  refine tr_callV (C := RX1) (As := [.int v]) (rest := []) ⟨hx, hb, hml, hown, hW⟩ (c_requirePathDigest hl0 v sl mem) gE_ok (cwV 1 hW (gV tw_353 tw_355 tv_X1_requirePathDigest tw_1 tw_356) rfl rfl rfl (by decide +kernel) ⟨Nat.le_of_ble_eq_true rfl, Nat.le_of_ble_eq_true rfl⟩) (va_recv hK hP (ci := 0) (q0 := 0) rfl rfl) hP hD hK hA hT rfl hl.1 rfl (Nat.le_of_ble_eq_true rfl) dX1_bend_2 ⟨Nat.le_of_ble_eq_true rfl, Nat.le_of_ble_eq_true rfl⟩ hno hlk (Nat.le_of_ble_eq_true rfl) (Nat.le_of_ble_eq_true rfl) (fun nm z t h0 h1 h2 => Or.inr ⟨nm, z, rfl, x_or1 h0, h1, h2⟩) (fun hg1 => ?_)
  obtain ⟨d, hid, rfl⟩ := x_req_pn hpn hg1
  refine lv_iload_n hx hb dX1_bend_5 rfl (lv_at hl 2 rfl) ?_
  refine tr_callS (As := [.int u]) (rest := []) ⟨hx, hb, hml, hown, hW⟩ (c_requireByte hl0 _ u) gE_ok (va_cwS 1 hW (gS tw_289 tw_290 tw_1 tw_291) rfl rfl rfl (by decide +kernel) ⟨Nat.le_of_ble_eq_true rfl, Nat.le_of_ble_eq_true rfl⟩) hP hD hK hA hT rfl hl.1 rfl (Nat.le_of_ble_eq_true rfl) dX1_bend_6 ⟨Nat.le_of_ble_eq_true rfl, Nat.le_of_ble_eq_true rfl⟩ hno hlk (Nat.le_of_ble_eq_true rfl) (Nat.le_of_ble_eq_true rfl) (fun nm z t h0 h1 h2 => Or.inr ⟨nm, z, rfl, x_or2 hg1 (x_or1 h0), h1, h2⟩) (fun hg2 => ?_)
  obtain ⟨i, hii, rfl⟩ := x_req_none (by omega) hg2
  refine lv_iload_n hx hb dX1_bend_9 rfl (lv_at hl 3 rfl) ?_
  refine tr_callS (As := [.int x]) (rest := []) ⟨hx, hb, hml, hown, hW⟩ (c_requireMask hl0 _ x) gE_ok (va_cwS 1 hW (gS tw_365 tw_366 tw_1 tw_367) rfl rfl rfl (by decide +kernel) ⟨Nat.le_of_ble_eq_true rfl, Nat.le_of_ble_eq_true rfl⟩) hP hD hK hA hT rfl hl.1 rfl (Nat.le_of_ble_eq_true rfl) dX1_bend_10 ⟨Nat.le_of_ble_eq_true rfl, Nat.le_of_ble_eq_true rfl⟩ hno hlk (Nat.le_of_ble_eq_true rfl) (Nat.le_of_ble_eq_true rfl) (fun nm z t h0 h1 h2 => Or.inr ⟨nm, z, rfl, x_or2 hg1 (x_or2 hg2 (h0)), h1, h2⟩) (fun hg3 => ?_)
  refine lv_aload_n hx hb dX1_bend_13 rfl (lv_at hl 0 rfl) ?_
  refine va_get (D := D) (ci := 0) (v := .ref (o 4)) (C := RX1) (T := TX1) (N := 14) hx hb hW iPL hown hK hP 0 rfl rfl 10 (by decide) (hW _ tw_54) (fun _ h9 => h9) rfl dX1_bend_14 ?_
  refine lv_iload_n hx hb dX1_bend_17 rfl (lv_at hl 1 rfl) ?_
  refine m_row hx hb hK hP 4 2 d rfl rfl (by omega) (by decide) rfl dX1_bend_18 ?_
  refine lv_iload_n hx hb dX1_bend_19 rfl (lv_at hl 2 rfl) ?_
  refine lv_dup2_11 hx hb dX1_bend_20 rfl rfl ?_
  refine m_ld (X := wX o ad cZ cG tl lc wc dc pn sl isw) hx hb hK hP 0 (42 + d) i rfl (by omega) (by rw [lenC_row (by omega)]; omega) (by rw [lenC_row (by omega)]; decide) dX1_bend_21 ?_
  refine lv_iload_n hx hb dX1_bend_22 rfl (lv_at hl 3 rfl) ?_
  refine lv_ixor hx hb dX1_bend_23 ?_
  refine m_st (X := wX o ad cZ cG tl lc wc dc pn sl isw) hx hb hK hP hD hS 0 (42 + d) i rfl (by omega) (by rw [lenC_row (by omega)]; omega) (by rw [lenC_row (by omega)]; decide) dX1_bend_24 (fun H locs hP hD hS => ?_)
  have hP : va_P D vwCl (wC o ad cI cZ cG tl lc wc dc pn sl isw (va_up mem (42 + d) (upd (mem (42 + d)) i ((mem (42 + d) i) ^^^ x)))) H := hP
  have hD : va_D A (wC o ad cI cZ cG tl lc wc dc pn sl isw (va_up mem (42 + d) (upd (mem (42 + d)) i ((mem (42 + d) i) ^^^ x)))) := hD
  have hP : va_P D vwCl (wC o ad cI cZ cG tl lc wc dc pn sl isw (p_bend (42 + tn (nI d)) (tn (nI i)) x mem)) H := by rw [show tn (nI d) = d from nI_clamp (by omega), show tn (nI i) = i from nI_clamp (by omega)]; exact hP
  have hD : va_D A (wC o ad cI cZ cG tl lc wc dc pn sl isw (p_bend (42 + tn (nI d)) (tn (nI i)) x mem)) := by rw [show tn (nI d) = d from nI_clamp (by omega), show tn (nI i) = i from nI_clamp (by omega)]; exact hD
  exact tv_ret hx hb hr hlk (x_or2 hg1 (x_or2 hg2 (hg3))) hS hP hD dX1_bend_25 (Nat.le_of_ble_eq_true rfl) (Nat.le_of_ble_eq_true rfl)
set_option maxHeartbeats 4000000 in
set_option maxRecDepth 100000 in
/-- poke(v, u, x) -/
theorem c_poke {l : Launch} {D : va_G} {o ad : Nat → Nat} {cI cZ cG : ClassId} {tl lc wc dc pn : Int32} {isw : Nat → Int32} (hl0 : l.stackTraces = false) (q : Nat) (hq : q ≤ 24) (v u x sl : Int32) (mem : Nat → Nat → Int32) : MTv l gE yX1_poke (.code yX1_poke cX1_poke 4 none :: tW) ({ frames := 7, cells := 3, slots := 18, locals := 140 }) D vwCl (tC cI cZ cG) [.ref (o 0), .int v, .int u, .int x] (wC o ad cI cZ cG tl (nI q) wc dc pn sl isw mem) (wC o ad cI cZ cG tl (nI q) wc dc pn sl isw (p_bend (6 + tn v) (tn u) x mem)) ((x_req v (nI q)).or ((x_req u (nI 32)).or (x_mask x))) 3 18 := by
  refine MTv.ofW (by decide +kernel) rfl (Nat.le_of_ble_eq_true rfl) ?_
  intro p e s m below meth c A ls hx hb hr hts hown hlk hml hA hP hK hD hT hl hno
  have hS : va_S A s.heap s.heap [] := va_S.rf
  have hown : s.vm.findClass RX1 = some m.cls := hown
  have hW : ∀ w ∈ tW, w.before _ s = true := fun w h => hts w (List.mem_cons_of_mem _ h)
  have hl : lv_has ls 4 [(0, .ref (o 0)), (1, .int v), (2, .int u), (3, .int x)] := hl
  refine lv_aload_n hx hb dX1_poke_0 rfl (lv_at hl 0 rfl) ?_
  refine lv_iload_n hx hb dX1_poke_1 rfl (lv_at hl 1 rfl) ?_
  refine tr_callV (C := RX1) (As := [.int v]) (rest := []) ⟨hx, hb, hml, hown, hW⟩ (c_requireLeaf hl0 v sl mem) gE_ok (cwV 1 hW (gV tw_300 tw_302 tv_X1_requireLeaf tw_1 tw_303) rfl rfl rfl (by decide +kernel) ⟨Nat.le_of_ble_eq_true rfl, Nat.le_of_ble_eq_true rfl⟩) (va_recv hK hP (ci := 0) (q0 := 0) rfl rfl) hP hD hK hA hT rfl hl.1 rfl (Nat.le_of_ble_eq_true rfl) dX1_poke_2 ⟨Nat.le_of_ble_eq_true rfl, Nat.le_of_ble_eq_true rfl⟩ hno hlk (Nat.le_of_ble_eq_true rfl) (Nat.le_of_ble_eq_true rfl) (fun nm z t h0 h1 h2 => Or.inr ⟨nm, z, rfl, x_or1 h0, h1, h2⟩) (fun hg1 => ?_)
  obtain ⟨d, hid, rfl⟩ := x_req_none (by omega) hg1
  refine lv_iload_n hx hb dX1_poke_5 rfl (lv_at hl 2 rfl) ?_
  refine tr_callS (As := [.int u]) (rest := []) ⟨hx, hb, hml, hown, hW⟩ (c_requireByte hl0 _ u) gE_ok (va_cwS 1 hW (gS tw_289 tw_290 tw_1 tw_291) rfl rfl rfl (by decide +kernel) ⟨Nat.le_of_ble_eq_true rfl, Nat.le_of_ble_eq_true rfl⟩) hP hD hK hA hT rfl hl.1 rfl (Nat.le_of_ble_eq_true rfl) dX1_poke_6 ⟨Nat.le_of_ble_eq_true rfl, Nat.le_of_ble_eq_true rfl⟩ hno hlk (Nat.le_of_ble_eq_true rfl) (Nat.le_of_ble_eq_true rfl) (fun nm z t h0 h1 h2 => Or.inr ⟨nm, z, rfl, x_or2 hg1 (x_or1 h0), h1, h2⟩) (fun hg2 => ?_)
  obtain ⟨i, hii, rfl⟩ := x_req_none (by omega) hg2
  refine lv_iload_n hx hb dX1_poke_9 rfl (lv_at hl 3 rfl) ?_
  refine tr_callS (As := [.int x]) (rest := []) ⟨hx, hb, hml, hown, hW⟩ (c_requireMask hl0 _ x) gE_ok (va_cwS 1 hW (gS tw_365 tw_366 tw_1 tw_367) rfl rfl rfl (by decide +kernel) ⟨Nat.le_of_ble_eq_true rfl, Nat.le_of_ble_eq_true rfl⟩) hP hD hK hA hT rfl hl.1 rfl (Nat.le_of_ble_eq_true rfl) dX1_poke_10 ⟨Nat.le_of_ble_eq_true rfl, Nat.le_of_ble_eq_true rfl⟩ hno hlk (Nat.le_of_ble_eq_true rfl) (Nat.le_of_ble_eq_true rfl) (fun nm z t h0 h1 h2 => Or.inr ⟨nm, z, rfl, x_or2 hg1 (x_or2 hg2 (h0)), h1, h2⟩) (fun hg3 => ?_)
  refine lv_aload_n hx hb dX1_poke_13 rfl (lv_at hl 0 rfl) ?_
  refine va_get (D := D) (ci := 0) (v := .ref (o 2)) (C := RX1) (T := TX1) (N := 14) hx hb hW iPL hown hK hP 0 rfl rfl 3 (by decide) (hW _ tw_47) (fun _ h9 => h9) rfl dX1_poke_14 ?_
  refine lv_iload_n hx hb dX1_poke_17 rfl (lv_at hl 1 rfl) ?_
  refine m_row hx hb hK hP 2 2 d rfl rfl (by omega) (by decide) rfl dX1_poke_18 ?_
  refine lv_iload_n hx hb dX1_poke_19 rfl (lv_at hl 2 rfl) ?_
  refine lv_dup2_11 hx hb dX1_poke_20 rfl rfl ?_
  refine m_ld (X := wX o ad cZ cG tl (nI q) wc dc pn sl isw) hx hb hK hP 0 (6 + d) i rfl (by omega) (by rw [lenC_row (by omega)]; omega) (by rw [lenC_row (by omega)]; decide) dX1_poke_21 ?_
  refine lv_iload_n hx hb dX1_poke_22 rfl (lv_at hl 3 rfl) ?_
  refine lv_ixor hx hb dX1_poke_23 ?_
  refine m_st (X := wX o ad cZ cG tl (nI q) wc dc pn sl isw) hx hb hK hP hD hS 0 (6 + d) i rfl (by omega) (by rw [lenC_row (by omega)]; omega) (by rw [lenC_row (by omega)]; decide) dX1_poke_24 (fun H locs hP hD hS => ?_)
  have hP : va_P D vwCl (wC o ad cI cZ cG tl (nI q) wc dc pn sl isw (va_up mem (6 + d) (upd (mem (6 + d)) i ((mem (6 + d) i) ^^^ x)))) H := hP
  have hD : va_D A (wC o ad cI cZ cG tl (nI q) wc dc pn sl isw (va_up mem (6 + d) (upd (mem (6 + d)) i ((mem (6 + d) i) ^^^ x)))) := hD
  have hP : va_P D vwCl (wC o ad cI cZ cG tl (nI q) wc dc pn sl isw (p_bend (6 + tn (nI d)) (tn (nI i)) x mem)) H := by rw [show tn (nI d) = d from nI_clamp (by omega), show tn (nI i) = i from nI_clamp (by omega)]; exact hP
  have hD : va_D A (wC o ad cI cZ cG tl (nI q) wc dc pn sl isw (p_bend (6 + tn (nI d)) (tn (nI i)) x mem)) := by rw [show tn (nI d) = d from nI_clamp (by omega), show tn (nI i) = i from nI_clamp (by omega)]; exact hD
  exact tv_ret hx hb hr hlk (x_or2 hg1 (x_or2 hg2 (hg3))) hS hP hD dX1_poke_25 (Nat.le_of_ble_eq_true rfl) (Nat.le_of_ble_eq_true rfl)
set_option maxHeartbeats 4000000 in
set_option maxRecDepth 100000 in
/-- mark(v, k1, k2, u) -/
theorem c_mark {l : Launch} {D : va_G} {o ad : Nat → Nat} {cI cZ cG : ClassId} {tl lc wc dc pn : Int32} {isw : Nat → Int32} (hl0 : l.stackTraces = false) (q n : Nat) (hq : q ≤ 24) (v u : Int32) (k1 k2 : Int64) (mem : Nat → Nat → Int32) : MTi l gE yX1_mark (.code yX1_mark cX1_mark 7 (some .int) :: tW) ({ frames := 7, cells := 2, slots := 12, locals := 190 }) D vwCl (tC cI cZ cG) [.ref (o 0), .int v, .long k1, .long k2, .int u] (wC o ad cI cZ cG tl (nI q) wc dc pn (nI n) isw mem) (wC o ad cI cZ cG tl (nI q) wc dc pn (nI (p_mark (tn v) k1 k2 mem).1) isw (p_mark (tn v) k1 k2 mem).2) ((p_mark (tn v) k1 k2 mem).2 2 (tn u)) ((x_req v (nI q)).or (x_req u (nI 32))) 2 12 := by
  refine MTi.ofW (by decide +kernel) rfl (Nat.le_of_ble_eq_true rfl) ?_
  intro p e s m below meth c A ls hx hb hr hts hown hlk hml hA hP hK hD hT hl hno
  have hS : va_S A s.heap s.heap [] := va_S.rf
  have hown : s.vm.findClass RX1 = some m.cls := hown
  have hW : ∀ w ∈ tW, w.before _ s = true := fun w h => hts w (List.mem_cons_of_mem _ h)
  have hl : lv_has ls 7 [(0, .ref (o 0)), (1, .int v), (2, .long k1), (4, .long k2), (6, .int u)] := hl
  refine lv_aload_n hx hb dX1_mark_0 rfl (lv_at hl 0 rfl) ?_
  refine lv_iload_n hx hb dX1_mark_1 rfl (lv_at hl 1 rfl) ?_
  refine tr_callV (C := RX1) (As := [.int v]) (rest := []) ⟨hx, hb, hml, hown, hW⟩ (c_requireLeaf hl0 v (nI n) mem) gE_ok (cwV 1 hW (gV tw_300 tw_302 tv_X1_requireLeaf tw_1 tw_303) rfl rfl rfl (by decide +kernel) ⟨Nat.le_of_ble_eq_true rfl, Nat.le_of_ble_eq_true rfl⟩) (va_recv hK hP (ci := 0) (q0 := 0) rfl rfl) hP hD hK hA hT rfl hl.1 rfl (Nat.le_of_ble_eq_true rfl) dX1_mark_2 ⟨Nat.le_of_ble_eq_true rfl, Nat.le_of_ble_eq_true rfl⟩ hno hlk (Nat.le_of_ble_eq_true rfl) (Nat.le_of_ble_eq_true rfl) (fun nm z t h0 h1 h2 => Or.inr ⟨nm, z, rfl, x_or1 h0, h1, h2⟩) (fun hg1 => ?_)
  obtain ⟨d, hid, rfl⟩ := x_req_none (by omega) hg1
  refine lv_iload hx hb dX1_mark_5 (lv_at hl 4 rfl) ?_
  refine tr_callS (As := [.int u]) (rest := []) ⟨hx, hb, hml, hown, hW⟩ (c_requireByte hl0 _ u) gE_ok (va_cwS 1 hW (gS tw_289 tw_290 tw_1 tw_291) rfl rfl rfl (by decide +kernel) ⟨Nat.le_of_ble_eq_true rfl, Nat.le_of_ble_eq_true rfl⟩) hP hD hK hA hT rfl hl.1 rfl (Nat.le_of_ble_eq_true rfl) dX1_mark_7 ⟨Nat.le_of_ble_eq_true rfl, Nat.le_of_ble_eq_true rfl⟩ hno hlk (Nat.le_of_ble_eq_true rfl) (Nat.le_of_ble_eq_true rfl) (fun nm z t h0 h1 h2 => Or.inr ⟨nm, z, rfl, x_or2 hg1 (h0), h1, h2⟩) (fun hg2 => ?_)
  obtain ⟨i, hii, rfl⟩ := x_req_none (by omega) hg2
  refine lv_aload_n hx hb dX1_mark_10 rfl (lv_at hl 0 rfl) ?_
  refine lv_lload_n hx hb dX1_mark_11 rfl (lv_at hl 2 rfl) ?_
  refine lv_aload_n hx hb dX1_mark_12 rfl (lv_at hl 0 rfl) ?_
  refine va_get (D := D) (ci := 0) (v := .ref (o 2)) (C := RX1) (T := TX1) (N := 14) hx hb hW iPL hown hK hP 0 rfl rfl 3 (by decide) (hW _ tw_47) (fun _ h9 => h9) rfl dX1_mark_13 ?_
  refine lv_iload_n hx hb dX1_mark_16 rfl (lv_at hl 1 rfl) ?_
  refine m_row hx hb hK hP 2 2 d rfl rfl (by omega) (by decide) rfl dX1_mark_17 ?_
  refine lv_aload_n hx hb dX1_mark_18 rfl (lv_at hl 0 rfl) ?_
  refine va_get (D := D) (ci := 0) (v := .ref (ad 2)) (C := RX1) (T := TX1) (N := 14) hx hb hW iPL hown hK hP 0 rfl rfl 13 (by decide) (hW _ tw_57) (fun _ h9 => h9) rfl dX1_mark_19 ?_
  refine mv_callV (C := RX1) (As := [.long k1, .ref (ad (6 + d)), .ref (ad 2)]) (rest := []) ⟨hx, hb, hml, hown, hW⟩ (c_keyedInto (6 + d) 2 ⟨⟨by omega, by first | decide | exact lenC_row (by omega)⟩, ⟨by decide, by decide⟩⟩ n mem k1) gE_ok (cwV 3 hW (gV tw_432 tw_434 tv_X1_keyedInto tw_1 tw_435) rfl rfl rfl (by decide +kernel) ⟨Nat.le_of_ble_eq_true rfl, Nat.le_of_ble_eq_true rfl⟩) (va_recv hK hP (ci := 0) (q0 := 0) rfl rfl) hP hD hK hS hA hT rfl hl.1 rfl (Nat.le_of_ble_eq_true rfl) dX1_mark_22 ⟨Nat.le_of_ble_eq_true rfl, Nat.le_of_ble_eq_true rfl⟩ (fun H locs hP hD hS => ?_)
  have hP : va_P D vwCl (wC o ad cI cZ cG tl (nI q) wc dc pn (nI (p_keyed k1 (6 + d) 2 mem).1) isw ((p_keyed k1 (6 + d) 2 mem).2)) H := hP
  have hD : va_D A (wC o ad cI cZ cG tl (nI q) wc dc pn (nI (p_keyed k1 (6 + d) 2 mem).1) isw ((p_keyed k1 (6 + d) 2 mem).2)) := hD
  refine lv_aload_n hx hb dX1_mark_25 rfl (lv_at hl 0 rfl) ?_
  refine lv_lload hx hb dX1_mark_26 (lv_at hl 3 rfl) ?_
  refine lv_aload_n hx hb dX1_mark_28 rfl (lv_at hl 0 rfl) ?_
  refine va_get (D := D) (ci := 0) (v := .ref (ad 2)) (C := RX1) (T := TX1) (N := 14) hx hb hW iPL hown hK hP 0 rfl rfl 13 (by decide) (hW _ tw_57) (fun _ h9 => h9) rfl dX1_mark_29 ?_
  refine lv_aload_n hx hb dX1_mark_32 rfl (lv_at hl 0 rfl) ?_
  refine va_get (D := D) (ci := 0) (v := .ref (ad 2)) (C := RX1) (T := TX1) (N := 14) hx hb hW iPL hown hK hP 0 rfl rfl 13 (by decide) (hW _ tw_57) (fun _ h9 => h9) rfl dX1_mark_33 ?_
  refine mv_callV (C := RX1) (As := [.long k2, .ref (ad 2), .ref (ad 2)]) (rest := []) ⟨hx, hb, hml, hown, hW⟩ (c_keyedInto 2 2 ⟨⟨by omega, by first | decide | exact lenC_row (by omega)⟩, ⟨by decide, by decide⟩⟩ ((p_keyed k1 (6 + d) 2 mem).1) ((p_keyed k1 (6 + d) 2 mem).2) k2) gE_ok (cwV 3 hW (gV tw_432 tw_434 tv_X1_keyedInto tw_1 tw_435) rfl rfl rfl (by decide +kernel) ⟨Nat.le_of_ble_eq_true rfl, Nat.le_of_ble_eq_true rfl⟩) (va_recv hK hP (ci := 0) (q0 := 0) rfl rfl) hP hD hK hS hA hT rfl hl.1 rfl (Nat.le_of_ble_eq_true rfl) dX1_mark_36 ⟨Nat.le_of_ble_eq_true rfl, Nat.le_of_ble_eq_true rfl⟩ (fun H locs hP hD hS => ?_)
  have hP : va_P D vwCl (wC o ad cI cZ cG tl (nI q) wc dc pn (nI (p_keyed k2 2 2 ((p_keyed k1 (6 + d) 2 mem).2)).1) isw ((p_keyed k2 2 2 ((p_keyed k1 (6 + d) 2 mem).2)).2)) H := hP
  have hD : va_D A (wC o ad cI cZ cG tl (nI q) wc dc pn (nI (p_keyed k2 2 2 ((p_keyed k1 (6 + d) 2 mem).2)).1) isw ((p_keyed k2 2 2 ((p_keyed k1 (6 + d) 2 mem).2)).2)) := hD
  refine lv_aload_n hx hb dX1_mark_39 rfl (lv_at hl 0 rfl) ?_
  refine va_get (D := D) (ci := 0) (v := .ref (ad 2)) (C := RX1) (T := TX1) (N := 14) hx hb hW iPL hown hK hP 0 rfl rfl 13 (by decide) (hW _ tw_57) (fun _ h9 => h9) rfl dX1_mark_40 ?_
  refine lv_iload hx hb dX1_mark_43 (lv_at hl 4 rfl) ?_
  refine m_ld (X := wX o ad cZ cG tl (nI q) wc dc pn (nI (p_keyed k2 2 2 ((p_keyed k1 (6 + d) 2 mem).2)).1) isw) hx hb hK hP 0 2 i rfl (by decide) (show i < 32 by omega) (by decide) dX1_mark_45 ?_
  have hP : va_P D vwCl (wC o ad cI cZ cG tl (nI q) wc dc pn (nI (p_mark (tn (nI d)) k1 k2 mem).1) isw (p_mark (tn (nI d)) k1 k2 mem).2) H := by rw [show tn (nI d) = d from nI_clamp (by omega)]; exact hP
  have hD : va_D A (wC o ad cI cZ cG tl (nI q) wc dc pn (nI (p_mark (tn (nI d)) k1 k2 mem).1) isw (p_mark (tn (nI d)) k1 k2 mem).2) := by rw [show tn (nI d) = d from nI_clamp (by omega)]; exact hD
  exact ti_ret hx hb hr rfl hlk (x_or2 hg1 (hg2)) hS hP hD (by rw [show tn (nI d) = d from nI_clamp (by omega), show tn (nI i) = i from nI_clamp (by omega)]; rfl) dX1_mark_46 (Nat.le_of_ble_eq_true rfl) (Nat.le_of_ble_eq_true rfl)
set_option maxHeartbeats 4000000 in
set_option maxRecDepth 100000 in
/-- prove(v, u) -/
theorem c_prove {l : Launch} {D : va_G} {o ad : Nat → Nat} {cI cZ cG : ClassId} {tl lc wc dc pn : Int32} {isw : Nat → Int32} (hl0 : l.stackTraces = false) (q y n : Nat) (hq : q ≤ 24) (hy : y ≤ 12) (v u : Int32) (mem : Nat → Nat → Int32) (hm : ∀ d, d < y → mem 1 d = nI (tn (mem 1 d)) ∧ tn (mem 1 d) ≤ 24) : MTi l gE yX1_prove (.code yX1_prove cX1_prove 3 (some .int) :: tW) ({ frames := 7, cells := 3, slots := 18, locals := 230 }) D vwCl (tC cI cZ cG) [.ref (o 0), .int v, .int u] (wC o ad cI cZ cG tl (nI q) wc (nI y) pn (nI n) isw mem) (wC o ad cI cZ cG tl (nI q) wc (nI y) (nI (p_path (tn v) (tn (mem 1 (tn u))) (n, mem)).1) (nI (p_path (tn v) (tn (mem 1 (tn u))) (n, mem)).2.1) isw (p_path (tn v) (tn (mem 1 (tn u))) (n, mem)).2.2) (nI (p_path (tn v) (tn (mem 1 (tn u))) (n, mem)).1) ((x_req v (nI q)).or ((x_req u (nI y)).or (x_if (¬ v < mem 1 (tn u)) nISE))) 3 18 := by
  refine MTi.ofW (by decide +kernel) rfl (Nat.le_of_ble_eq_true rfl) ?_
  intro p e s m below meth c A ls hx hb hr hts hown hlk hml hA hP hK hD hT hl hno
  have hS : va_S A s.heap s.heap [] := va_S.rf
  have hown : s.vm.findClass RX1 = some m.cls := hown
  have hW : ∀ w ∈ tW, w.before _ s = true := fun w h => hts w (List.mem_cons_of_mem _ h)
  have hl : lv_has ls 3 [(0, .ref (o 0)), (1, .int v), (2, .int u)] := hl
  refine lv_aload_n hx hb dX1_prove_0 rfl (lv_at hl 0 rfl) ?_
  refine lv_iload_n hx hb dX1_prove_1 rfl (lv_at hl 1 rfl) ?_
  refine tr_callV (C := RX1) (As := [.int v]) (rest := []) ⟨hx, hb, hml, hown, hW⟩ (c_requireLeaf hl0 v (nI n) mem) gE_ok (cwV 1 hW (gV tw_300 tw_302 tv_X1_requireLeaf tw_1 tw_303) rfl rfl rfl (by decide +kernel) ⟨Nat.le_of_ble_eq_true rfl, Nat.le_of_ble_eq_true rfl⟩) (va_recv hK hP (ci := 0) (q0 := 0) rfl rfl) hP hD hK hA hT rfl hl.1 rfl (Nat.le_of_ble_eq_true rfl) dX1_prove_2 ⟨Nat.le_of_ble_eq_true rfl, Nat.le_of_ble_eq_true rfl⟩ hno hlk (Nat.le_of_ble_eq_true rfl) (Nat.le_of_ble_eq_true rfl) (fun nm z t h0 h1 h2 => Or.inr ⟨nm, z, rfl, x_or1 h0, h1, h2⟩) (fun hg1 => ?_)
  obtain ⟨lf, hilf, rfl⟩ := x_req_none (by omega) hg1
  refine lv_aload_n hx hb dX1_prove_5 rfl (lv_at hl 0 rfl) ?_
  refine lv_iload_n hx hb dX1_prove_6 rfl (lv_at hl 2 rfl) ?_
  refine tr_callV (C := RX1) (As := [.int u]) (rest := []) ⟨hx, hb, hml, hown, hW⟩ (c_requireDay hl0 u (nI n) mem) gE_ok (cwV 1 hW (gV tw_269 tw_271 tv_X1_requireDay tw_1 tw_272) rfl rfl rfl (by decide +kernel) ⟨Nat.le_of_ble_eq_true rfl, Nat.le_of_ble_eq_true rfl⟩) (va_recv hK hP (ci := 0) (q0 := 0) rfl rfl) hP hD hK hA hT rfl hl.1 rfl (Nat.le_of_ble_eq_true rfl) dX1_prove_7 ⟨Nat.le_of_ble_eq_true rfl, Nat.le_of_ble_eq_true rfl⟩ hno hlk (Nat.le_of_ble_eq_true rfl) (Nat.le_of_ble_eq_true rfl) (fun nm z t h0 h1 h2 => Or.inr ⟨nm, z, rfl, x_or2 hg1 (x_or1 h0), h1, h2⟩) (fun hg2 => ?_)
  obtain ⟨d, hid, rfl⟩ := x_req_none (by omega) hg2
  have hd9 : tn (nI d) = d := nI_clamp (by omega)
  have hl9 : tn (nI lf) = lf := nI_clamp (by omega)
  have hc9 := (hm d hid).1
  have hq9 := (hm d hid).2
  generalize hc8 : tn (mem 1 d) = cc0 at hc9 hq9
  refine lv_iload_n hx hb dX1_prove_10 rfl (lv_at hl 1 rfl) ?_
  refine lv_aload_n hx hb dX1_prove_11 rfl (lv_at hl 0 rfl) ?_
  refine va_get (D := D) (ci := 0) (v := .ref (ad 1)) (C := RX1) (T := TX1) (N := 14) hx hb hW iPL hown hK hP 0 rfl rfl 8 (by decide) (hW _ tw_52) (fun _ h9 => h9) rfl dX1_prove_12 ?_
  refine lv_iload_n hx hb dX1_prove_15 rfl (lv_at hl 2 rfl) ?_
  refine m_ld (X := wX o ad cZ cG tl (nI q) wc (nI y) pn (nI n) isw) hx hb hK hP 0 1 d rfl (by decide) (show d < 12 by omega) (by decide) dX1_prove_16 ?_
  refine lv_eqi (v := nI cc0) (hc9) ?_
  refine lv_icmp_lt (tgt := 30) hx hb dX1_prove_17 (by decide) (fun ha => ?_) (fun ha => ?_)
  · have hlt : lf < cc0 := (nI_ltI (by omega) (by omega)).mp ha
    have hg3 : x_if (¬ nI lf < mem 1 (tn (nI d))) nISE = none := x_if_f (fun h => h (by rw [hd9, hc9]; exact ha))
    refine lv_aload_n hx hb dX1_prove_30 rfl (lv_at hl 0 rfl) ?_
    refine lv_iload_n hx hb dX1_prove_31 rfl (lv_at hl 1 rfl) ?_
    refine lv_aload_n hx hb dX1_prove_32 rfl (lv_at hl 0 rfl) ?_
    refine va_get (D := D) (ci := 0) (v := .ref (ad 1)) (C := RX1) (T := TX1) (N := 14) hx hb hW iPL hown hK hP 0 rfl rfl 8 (by decide) (hW _ tw_52) (fun _ h9 => h9) rfl dX1_prove_33 ?_
    refine lv_iload_n hx hb dX1_prove_36 rfl (lv_at hl 2 rfl) ?_
    refine m_ld (X := wX o ad cZ cG tl (nI q) wc (nI y) pn (nI n) isw) hx hb hK hP 0 1 d rfl (by decide) (show d < 12 by omega) (by decide) dX1_prove_37 ?_
    refine lv_eqi (v := nI cc0) (hc9) ?_
    refine mv_callV (C := RX1) (As := [.int (nI lf), .int (nI cc0)]) (rest := []) ⟨hx, hb, hml, hown, hW⟩ (c_makePath lf cc0 (by omega) (by omega) n mem) gE_ok (cwV 2 hW (gV tw_336 tw_338 tv_X1_makePath tw_1 tw_339) rfl rfl rfl (by decide +kernel) ⟨Nat.le_of_ble_eq_true rfl, Nat.le_of_ble_eq_true rfl⟩) (va_recv hK hP (ci := 0) (q0 := 0) rfl rfl) hP hD hK hS hA hT rfl hl.1 rfl (Nat.le_of_ble_eq_true rfl) dX1_prove_38 ⟨Nat.le_of_ble_eq_true rfl, Nat.le_of_ble_eq_true rfl⟩ (fun H locs hP hD hS => ?_)
    have hP : va_P D vwCl (wC o ad cI cZ cG tl (nI q) wc (nI y) (nI (p_path lf cc0 (n, mem)).1) (nI (p_path lf cc0 (n, mem)).2.1) isw ((p_path lf cc0 (n, mem)).2.2)) H := hP
    have hD : va_D A (wC o ad cI cZ cG tl (nI q) wc (nI y) (nI (p_path lf cc0 (n, mem)).1) (nI (p_path lf cc0 (n, mem)).2.1) isw ((p_path lf cc0 (n, mem)).2.2)) := hD
    refine lv_aload_n hx hb dX1_prove_41 rfl (lv_at hl 0 rfl) ?_
    refine va_get (D := D) (ci := 0) (v := .int (nI (p_path lf cc0 (n, mem)).1)) (C := RX1) (T := TX1) (N := 14) hx hb hW iPL hown hK hP 0 rfl rfl 11 (by decide) (hW _ tw_55) (fun _ h9 => h9) rfl dX1_prove_42 ?_
    have hP : va_P D vwCl (wC o ad cI cZ cG tl (nI q) wc (nI y) (nI (p_path (tn (nI lf)) (tn (mem 1 (tn (nI d)))) (n, mem)).1) (nI (p_path (tn (nI lf)) (tn (mem 1 (tn (nI d)))) (n, mem)).2.1) isw (p_path (tn (nI lf)) (tn (mem 1 (tn (nI d)))) (n, mem)).2.2) H := by rw [hd9, hl9, hc8]; exact hP
    have hD : va_D A (wC o ad cI cZ cG tl (nI q) wc (nI y) (nI (p_path (tn (nI lf)) (tn (mem 1 (tn (nI d)))) (n, mem)).1) (nI (p_path (tn (nI lf)) (tn (mem 1 (tn (nI d)))) (n, mem)).2.1) isw (p_path (tn (nI lf)) (tn (mem 1 (tn (nI d)))) (n, mem)).2.2) := by rw [hd9, hl9, hc8]; exact hD
    exact ti_ret hx hb hr rfl hlk (x_or2 hg1 (x_or2 hg2 (hg3))) hS hP hD (by rw [hd9, hl9, hc8]) dX1_prove_45 (Nat.le_of_ble_eq_true rfl) (Nat.le_of_ble_eq_true rfl)
  · have hg3 : x_if (¬ nI lf < mem 1 (tn (nI d))) nISE = some nISE := x_if_t (by rw [hd9, hc9]; exact ha)
    exact tr_throw (cls := "java/lang/IllegalStateException") (tx := "the leaf came after the day") (names := ["java/lang/RuntimeException", "java/lang/Exception"]) (rest := []) hx hb (hml.trans hl.1.symm) hl0 hown (by decide +kernel) (by decide +kernel) (own_ok own_ISE hW hT) (hW _ tw_320) (hW _ tw_13) (hT.2.2.2 (.stringRef "ProofLeaves" 106 "the leaf came after the day") (by decide +kernel)) hno hlk dX1_prove_20 dX1_prove_23 dX1_prove_24 dX1_prove_26 dX1_prove_29 (Nat.le_of_ble_eq_true rfl) (Nat.le_of_ble_eq_true rfl) (Nat.le_of_ble_eq_true rfl) (Nat.le_of_ble_eq_true rfl) (Nat.le_of_ble_eq_true rfl) (Nat.le_of_ble_eq_true rfl) (fun z t h1 h2 => Or.inr ⟨_, _, rfl, x_or2 hg1 (x_or2 hg2 (hg3)), h1, h2⟩)
set_option maxHeartbeats 4000000 in
set_option maxRecDepth 100000 in
/-- withdraw(v) -/
theorem c_withdraw {l : Launch} {D : va_G} {o ad : Nat → Nat} {cI cZ cG : ClassId} {tl lc wc dc pn : Int32} {isw : Nat → Int32} (hl0 : l.stackTraces = false) (q u : Nat) (hq : q ≤ 24) (v sl : Int32) (mem : Nat → Nat → Int32) : MTi l gE yX1_withdraw (.code yX1_withdraw cX1_withdraw 2 (some .int) :: tW) ({ frames := 7, cells := 2, slots := 12, locals := 140 }) D vwCl (tC cI cZ cG) [.ref (o 0), .int v] (wC o ad cI cZ cG tl (nI q) (nI u) dc pn sl isw mem) (wC o ad cI cZ cG tl (nI q) (nI (u + 1)) dc pn sl (upd isw (tn v) (nI 1)) mem) (nI (u + 1)) ((x_req v (nI q)).or (x_if (¬ isw (tn v) = 0) nUOE)) 2 12 := by
  refine MTi.ofW (by decide +kernel) rfl (Nat.le_of_ble_eq_true rfl) ?_
  intro p e s m below meth c A ls hx hb hr hts hown hlk hml hA hP hK hD hT hl hno
  have hS : va_S A s.heap s.heap [] := va_S.rf
  have hown : s.vm.findClass RX1 = some m.cls := hown
  have hW : ∀ w ∈ tW, w.before _ s = true := fun w h => hts w (List.mem_cons_of_mem _ h)
  have hl : lv_has ls 2 [(0, .ref (o 0)), (1, .int v)] := hl
  refine lv_aload_n hx hb dX1_withdraw_0 rfl (lv_at hl 0 rfl) ?_
  refine lv_iload_n hx hb dX1_withdraw_1 rfl (lv_at hl 1 rfl) ?_
  refine tr_callV (C := RX1) (As := [.int v]) (rest := []) ⟨hx, hb, hml, hown, hW⟩ (c_requireLeaf hl0 v sl mem) gE_ok (cwV 1 hW (gV tw_300 tw_302 tv_X1_requireLeaf tw_1 tw_303) rfl rfl rfl (by decide +kernel) ⟨Nat.le_of_ble_eq_true rfl, Nat.le_of_ble_eq_true rfl⟩) (va_recv hK hP (ci := 0) (q0 := 0) rfl rfl) hP hD hK hA hT rfl hl.1 rfl (Nat.le_of_ble_eq_true rfl) dX1_withdraw_2 ⟨Nat.le_of_ble_eq_true rfl, Nat.le_of_ble_eq_true rfl⟩ hno hlk (Nat.le_of_ble_eq_true rfl) (Nat.le_of_ble_eq_true rfl) (fun nm z t h0 h1 h2 => Or.inr ⟨nm, z, rfl, x_or1 h0, h1, h2⟩) (fun hg1 => ?_)
  obtain ⟨lf, hilf, rfl⟩ := x_req_none (by omega) hg1
  refine lv_aload_n hx hb dX1_withdraw_5 rfl (lv_at hl 0 rfl) ?_
  refine va_get (D := D) (ci := 0) (v := .ref (o 6)) (C := RX1) (T := TX1) (N := 14) hx hb hW iPL hown hK hP 0 rfl rfl 4 (by decide) (hW _ tw_48) (fun _ h9 => h9) rfl dX1_withdraw_6 ?_
  refine lv_iload_n hx hb dX1_withdraw_9 rfl (lv_at hl 1 rfl) ?_
  refine m_zld hx hb hK hP 6 1 lf rfl rfl (by omega) (by decide) dX1_withdraw_10 ?_
  have hl9 : tn (nI lf) = lf := nI_clamp (by omega)
  refine lv_if_eq (tgt := 24) hx hb dX1_withdraw_11 (by decide) (fun ha => ?_) (fun ha => ?_)
  · have hg2 : x_if (¬ isw (tn (nI lf)) = 0) nUOE = none := x_if_f (fun h => h (by rw [hl9]; exact ha))
    refine lv_aload_n hx hb dX1_withdraw_24 rfl (lv_at hl 0 rfl) ?_
    refine va_get (D := D) (ci := 0) (v := .ref (o 6)) (C := RX1) (T := TX1) (N := 14) hx hb hW iPL hown hK hP 0 rfl rfl 4 (by decide) (hW _ tw_48) (fun _ h9 => h9) rfl dX1_withdraw_25 ?_
    refine lv_iload_n hx hb dX1_withdraw_28 rfl (lv_at hl 1 rfl) ?_
    refine lv_iconst (v := nI 1) hx hb dX1_withdraw_29 (by decide) ?_
    refine m_zst (x := nI 1) (v := nI 1) hx hb hK hP hD hS 6 1 lf rfl rfl (by omega) (by decide) rfl dX1_withdraw_30 (fun H locs hP hD hS => ?_)
    have hP : va_P D vwCl (wC o ad cI cZ cG tl (nI q) (nI u) dc pn sl (upd isw lf (nI 1)) mem) H := hP
    have hD : va_D A (wC o ad cI cZ cG tl (nI q) (nI u) dc pn sl (upd isw lf (nI 1)) mem) := hD
    refine lv_aload_n hx hb dX1_withdraw_31 rfl (lv_at hl 0 rfl) ?_
    refine lv_dup hx hb dX1_withdraw_32 rfl ?_
    refine va_get (D := D) (ci := 0) (v := .int (nI u)) (C := RX1) (T := TX1) (N := 14) hx hb hW iPL hown hK hP 0 rfl rfl 6 (by decide) (hW _ tw_50) (fun _ h9 => h9) rfl dX1_withdraw_33 ?_
    refine lv_iconst (v := nI 1) hx hb dX1_withdraw_36 (by decide) ?_
    refine lv_iadd hx hb dX1_withdraw_37 ?_
    refine lv_eqi (v := nI (u + 1)) (nI_add u 1) ?_
    refine va_put (D := D) (ci := 0) (v := .int (nI (u + 1))) (ty := .int) (C := RX1) (T := TX1) (N := 14) hx hb hW iPL tyX1 tyX1_ok nmX1 hown hK hP hD hS 0 rfl rfl 6 (by decide) (hW _ tw_50) (fun _ h9 => h9) rfl (by decide +kernel) rfl rfl (Nat.le_of_ble_eq_true rfl) dX1_withdraw_38 (fun H locs hP hD hS => ?_)
    have hP : va_P D vwCl (wC o ad cI cZ cG tl (nI q) (nI (u + 1)) dc pn sl (upd isw lf (nI 1)) mem) H := hP
    have hD : va_D A (wC o ad cI cZ cG tl (nI q) (nI (u + 1)) dc pn sl (upd isw lf (nI 1)) mem) := hD
    refine lv_aload_n hx hb dX1_withdraw_41 rfl (lv_at hl 0 rfl) ?_
    refine va_get (D := D) (ci := 0) (v := .int (nI (u + 1))) (C := RX1) (T := TX1) (N := 14) hx hb hW iPL hown hK hP 0 rfl rfl 6 (by decide) (hW _ tw_50) (fun _ h9 => h9) rfl dX1_withdraw_42 ?_
    have hP : va_P D vwCl (wC o ad cI cZ cG tl (nI q) (nI (u + 1)) dc pn sl (upd isw (tn (nI lf)) (nI 1)) mem) H := by rw [hl9]; exact hP
    have hD : va_D A (wC o ad cI cZ cG tl (nI q) (nI (u + 1)) dc pn sl (upd isw (tn (nI lf)) (nI 1)) mem) := by rw [hl9]; exact hD
    exact ti_ret hx hb hr rfl hlk (x_or2 hg1 (hg2)) hS hP hD (rfl) dX1_withdraw_45 (Nat.le_of_ble_eq_true rfl) (Nat.le_of_ble_eq_true rfl)
  · have hg2 : x_if (¬ isw (tn (nI lf)) = 0) nUOE = some nUOE := x_if_t (by rw [hl9]; exact ha)
    exact tr_throw (cls := "java/lang/UnsupportedOperationException") (tx := "the leaf is withdrawn already") (names := ["java/lang/RuntimeException", "java/lang/Exception"]) (rest := []) hx hb (hml.trans hl.1.symm) hl0 hown (by decide +kernel) (by decide +kernel) (own_ok own_UOE hW hT) (hW _ tw_166) (hW _ tw_8) (hT.2.2.2 (.stringRef "ProofLeaves" 141 "the leaf is withdrawn already") (by decide +kernel)) hno hlk dX1_withdraw_14 dX1_withdraw_17 dX1_withdraw_18 dX1_withdraw_20 dX1_withdraw_23 (Nat.le_of_ble_eq_true rfl) (Nat.le_of_ble_eq_true rfl) (Nat.le_of_ble_eq_true rfl) (Nat.le_of_ble_eq_true rfl) (Nat.le_of_ble_eq_true rfl) (Nat.le_of_ble_eq_true rfl) (fun z t h1 h2 => Or.inr ⟨_, _, rfl, x_or2 hg1 (hg2), h1, h2⟩)
set_option maxHeartbeats 4000000 in
set_option maxRecDepth 100000 in
/-- absence(v, sd) -/
theorem c_absence {l : Launch} {D : va_G} {o ad : Nat → Nat} {cI cZ cG : ClassId} {tl lc wc dc pn : Int32} {isw : Nat → Int32} (hl0 : l.stackTraces = false) (q : Nat) (hq : q ≤ 24) (v sd sl : Int32) (mem : Nat → Nat → Int32) : MTi l gE yX1_absence (.code yX1_absence cX1_absence 3 (some .int) :: tW) ({ frames := 7, cells := 2, slots := 12, locals := 150 }) D vwCl (tC cI cZ cG) [.ref (o 0), .int v, .int sd] (wC o ad cI cZ cG tl (nI q) wc dc pn sl isw mem) (wC o ad cI cZ cG tl (nI q) wc dc pn sl isw mem) (nrI (p_near sd isw mem (tn v) q)) ((x_req v (nI q)).or ((x_if (¬ (sd = 0 ∨ sd = nI 1)) nIOB).or (x_if (¬ isw (tn v) = 0) nISE))) 2 12 := by
  refine MTi.ofW (by decide +kernel) rfl (Nat.le_of_ble_eq_true rfl) ?_
  intro p e s m below meth c A ls hx hb hr hts hown hlk hml hA hP hK hD hT hl hno
  have hS : va_S A s.heap s.heap [] := va_S.rf
  have hown : s.vm.findClass RX1 = some m.cls := hown
  have hW : ∀ w ∈ tW, w.before _ s = true := fun w h => hts w (List.mem_cons_of_mem _ h)
  have hl : lv_has ls 3 [(0, .ref (o 0)), (1, .int v), (2, .int sd)] := hl
  refine lv_aload_n hx hb dX1_absence_0 rfl (lv_at hl 0 rfl) ?_
  refine lv_iload_n hx hb dX1_absence_1 rfl (lv_at hl 1 rfl) ?_
  refine tr_callV (C := RX1) (As := [.int v]) (rest := []) ⟨hx, hb, hml, hown, hW⟩ (c_requireLeaf hl0 v sl mem) gE_ok (cwV 1 hW (gV tw_300 tw_302 tv_X1_requireLeaf tw_1 tw_303) rfl rfl rfl (by decide +kernel) ⟨Nat.le_of_ble_eq_true rfl, Nat.le_of_ble_eq_true rfl⟩) (va_recv hK hP (ci := 0) (q0 := 0) rfl rfl) hP hD hK hA hT rfl hl.1 rfl (Nat.le_of_ble_eq_true rfl) dX1_absence_2 ⟨Nat.le_of_ble_eq_true rfl, Nat.le_of_ble_eq_true rfl⟩ hno hlk (Nat.le_of_ble_eq_true rfl) (Nat.le_of_ble_eq_true rfl) (fun nm z t h0 h1 h2 => Or.inr ⟨nm, z, rfl, x_or1 h0, h1, h2⟩) (fun hg1 => ?_)
  obtain ⟨lf, hilf, rfl⟩ := x_req_none (by omega) hg1
  refine lv_iload_n hx hb dX1_absence_5 rfl (lv_at hl 2 rfl) ?_
  have hl9 : tn (nI lf) = lf := nI_clamp (by omega)
  refine lv_if_eq (tgt := 24) hx hb dX1_absence_6 (by decide) (fun ha => ?_) (fun ha => ?_)
  · have hg2 : x_if (¬ (sd = 0 ∨ sd = nI 1)) nIOB = none := x_if_f (fun h => h (Or.inl ha))
    refine lv_aload_n hx hb dX1_absence_24 rfl (lv_at hl 0 rfl) ?_
    refine va_get (D := D) (ci := 0) (v := .ref (o 6)) (C := RX1) (T := TX1) (N := 14) hx hb hW iPL hown hK hP 0 rfl rfl 4 (by decide) (hW _ tw_48) (fun _ h9 => h9) rfl dX1_absence_25 ?_
    refine lv_iload_n hx hb dX1_absence_28 rfl (lv_at hl 1 rfl) ?_
    refine m_zld hx hb hK hP 6 1 lf rfl rfl (by omega) (by decide) dX1_absence_29 ?_
    refine lv_if_eq (tgt := 43) hx hb dX1_absence_30 (by decide) (fun hb2 => ?_) (fun hb2 => ?_)
    · have hg3 : x_if (¬ isw (tn (nI lf)) = 0) nISE = none := x_if_f (fun h => h (by rw [hl9]; exact hb2))
      refine lv_aload_n hx hb dX1_absence_43 rfl (lv_at hl 0 rfl) ?_
      refine lv_iload_n hx hb dX1_absence_44 rfl (lv_at hl 1 rfl) ?_
      refine lv_iload_n hx hb dX1_absence_45 rfl (lv_at hl 2 rfl) ?_
      refine mi_callV (C := RX1) (As := [.int (nI lf), .int sd]) (rest := []) ⟨hx, hb, hml, hown, hW⟩ (c_nearestWithdrawn lf q (by omega) hq rfl sd sl mem) gE_ok (cwV 2 hW (gV tw_417 tw_419 tv_X1_nearestWithdrawn tw_1 tw_420) rfl rfl rfl (by decide +kernel) ⟨Nat.le_of_ble_eq_true rfl, Nat.le_of_ble_eq_true rfl⟩) (va_recv hK hP (ci := 0) (q0 := 0) rfl rfl) hP hD hK hS hA hT rfl hl.1 rfl (Nat.le_of_ble_eq_true rfl) dX1_absence_46 ⟨Nat.le_of_ble_eq_true rfl, Nat.le_of_ble_eq_true rfl⟩ (fun H locs hP hD hS => ?_)
      have hP : va_P D vwCl (wC o ad cI cZ cG tl (nI q) wc dc pn sl isw mem) H := by exact hP
      have hD : va_D A (wC o ad cI cZ cG tl (nI q) wc dc pn sl isw mem) := by exact hD
      exact ti_ret hx hb hr rfl hlk (x_or2 hg1 (x_or2 hg2 (hg3))) hS hP hD (by rw [hl9]) dX1_absence_49 (Nat.le_of_ble_eq_true rfl) (Nat.le_of_ble_eq_true rfl)
    · have hg3 : x_if (¬ isw (tn (nI lf)) = 0) nISE = some nISE := x_if_t (by rw [hl9]; exact hb2)
      exact tr_throw (cls := "java/lang/IllegalStateException") (tx := "the leaf is withdrawn") (names := ["java/lang/RuntimeException", "java/lang/Exception"]) (rest := []) hx hb (hml.trans hl.1.symm) hl0 hown (by decide +kernel) (by decide +kernel) (own_ok own_ISE hW hT) (hW _ tw_320) (hW _ tw_13) (hT.2.2.2 (.stringRef "ProofLeaves" 148 "the leaf is withdrawn") (by decide +kernel)) hno hlk dX1_absence_33 dX1_absence_36 dX1_absence_37 dX1_absence_39 dX1_absence_42 (Nat.le_of_ble_eq_true rfl) (Nat.le_of_ble_eq_true rfl) (Nat.le_of_ble_eq_true rfl) (Nat.le_of_ble_eq_true rfl) (Nat.le_of_ble_eq_true rfl) (Nat.le_of_ble_eq_true rfl) (fun z t h1 h2 => Or.inr ⟨_, _, rfl, x_or2 hg1 (x_or2 hg2 (hg3)), h1, h2⟩)
  · refine lv_iload_n hx hb dX1_absence_9 rfl (lv_at hl 2 rfl) ?_
    refine lv_iconst (v := nI 1) hx hb dX1_absence_10 (by decide) ?_
    refine lv_icmp_eq (tgt := 24) hx hb dX1_absence_11 (by decide) (fun hc => ?_) (fun hc => ?_)
    · have hg2 : x_if (¬ (sd = 0 ∨ sd = nI 1)) nIOB = none := x_if_f (fun h => h (Or.inr hc))
      refine lv_aload_n hx hb dX1_absence_24 rfl (lv_at hl 0 rfl) ?_
      refine va_get (D := D) (ci := 0) (v := .ref (o 6)) (C := RX1) (T := TX1) (N := 14) hx hb hW iPL hown hK hP 0 rfl rfl 4 (by decide) (hW _ tw_48) (fun _ h9 => h9) rfl dX1_absence_25 ?_
      refine lv_iload_n hx hb dX1_absence_28 rfl (lv_at hl 1 rfl) ?_
      refine m_zld hx hb hK hP 6 1 lf rfl rfl (by omega) (by decide) dX1_absence_29 ?_
      refine lv_if_eq (tgt := 43) hx hb dX1_absence_30 (by decide) (fun hb2 => ?_) (fun hb2 => ?_)
      · have hg3 : x_if (¬ isw (tn (nI lf)) = 0) nISE = none := x_if_f (fun h => h (by rw [hl9]; exact hb2))
        refine lv_aload_n hx hb dX1_absence_43 rfl (lv_at hl 0 rfl) ?_
        refine lv_iload_n hx hb dX1_absence_44 rfl (lv_at hl 1 rfl) ?_
        refine lv_iload_n hx hb dX1_absence_45 rfl (lv_at hl 2 rfl) ?_
        refine mi_callV (C := RX1) (As := [.int (nI lf), .int sd]) (rest := []) ⟨hx, hb, hml, hown, hW⟩ (c_nearestWithdrawn lf q (by omega) hq rfl sd sl mem) gE_ok (cwV 2 hW (gV tw_417 tw_419 tv_X1_nearestWithdrawn tw_1 tw_420) rfl rfl rfl (by decide +kernel) ⟨Nat.le_of_ble_eq_true rfl, Nat.le_of_ble_eq_true rfl⟩) (va_recv hK hP (ci := 0) (q0 := 0) rfl rfl) hP hD hK hS hA hT rfl hl.1 rfl (Nat.le_of_ble_eq_true rfl) dX1_absence_46 ⟨Nat.le_of_ble_eq_true rfl, Nat.le_of_ble_eq_true rfl⟩ (fun H locs hP hD hS => ?_)
        have hP : va_P D vwCl (wC o ad cI cZ cG tl (nI q) wc dc pn sl isw mem) H := by exact hP
        have hD : va_D A (wC o ad cI cZ cG tl (nI q) wc dc pn sl isw mem) := by exact hD
        exact ti_ret hx hb hr rfl hlk (x_or2 hg1 (x_or2 hg2 (hg3))) hS hP hD (by rw [hl9]) dX1_absence_49 (Nat.le_of_ble_eq_true rfl) (Nat.le_of_ble_eq_true rfl)
      · have hg3 : x_if (¬ isw (tn (nI lf)) = 0) nISE = some nISE := x_if_t (by rw [hl9]; exact hb2)
        exact tr_throw (cls := "java/lang/IllegalStateException") (tx := "the leaf is withdrawn") (names := ["java/lang/RuntimeException", "java/lang/Exception"]) (rest := []) hx hb (hml.trans hl.1.symm) hl0 hown (by decide +kernel) (by decide +kernel) (own_ok own_ISE hW hT) (hW _ tw_320) (hW _ tw_13) (hT.2.2.2 (.stringRef "ProofLeaves" 148 "the leaf is withdrawn") (by decide +kernel)) hno hlk dX1_absence_33 dX1_absence_36 dX1_absence_37 dX1_absence_39 dX1_absence_42 (Nat.le_of_ble_eq_true rfl) (Nat.le_of_ble_eq_true rfl) (Nat.le_of_ble_eq_true rfl) (Nat.le_of_ble_eq_true rfl) (Nat.le_of_ble_eq_true rfl) (Nat.le_of_ble_eq_true rfl) (fun z t h1 h2 => Or.inr ⟨_, _, rfl, x_or2 hg1 (x_or2 hg2 (hg3)), h1, h2⟩)
    · have hg2 : x_if (¬ (sd = 0 ∨ sd = nI 1)) nIOB = some nIOB := x_if_t (fun h => h.elim ha hc)
      exact tr_throw (cls := "java/lang/IndexOutOfBoundsException") (tx := "no such side") (names := ["java/lang/RuntimeException", "java/lang/Exception"]) (rest := []) hx hb (hml.trans hl.1.symm) hl0 hown (by decide +kernel) (by decide +kernel) (own_ok own_IOB hW hT) (hW _ tw_273) (hW _ tw_12) (hT.2.2.2 (.stringRef "ProofLeaves" 145 "no such side") (by decide +kernel)) hno hlk dX1_absence_14 dX1_absence_17 dX1_absence_18 dX1_absence_20 dX1_absence_23 (Nat.le_of_ble_eq_true rfl) (Nat.le_of_ble_eq_true rfl) (Nat.le_of_ble_eq_true rfl) (Nat.le_of_ble_eq_true rfl) (Nat.le_of_ble_eq_true rfl) (Nat.le_of_ble_eq_true rfl) (fun z t h1 h2 => Or.inr ⟨_, _, rfl, x_or2 hg1 (x_or1 hg2), h1, h2⟩)
set_option maxHeartbeats 4000000 in
set_option maxRecDepth 100000 in
/-- grew(v, u) -/
theorem c_grew {l : Launch} {D : va_G} {o ad : Nat → Nat} {cI cZ cG : ClassId} {tl lc wc dc pn : Int32} {isw : Nat → Int32} (hl0 : l.stackTraces = false) (y n : Nat) (hy : y ≤ 12) (v u : Int32) (mem : Nat → Nat → Int32) (hm : ∀ d, d < y → mem 1 d = nI (tn (mem 1 d)) ∧ tn (mem 1 d) ≤ 24) : MTi l gE yX1_grew (.code yX1_grew cX1_grew 3 (some .boolean) :: tW) ({ frames := 7, cells := 3, slots := 18, locals := 260 }) D vwCl (tC cI cZ cG) [.ref (o 0), .int v, .int u] (wC o ad cI cZ cG tl lc wc (nI y) pn (nI n) isw mem) (wC o ad cI cZ cG tl lc wc (nI y) pn (nI (p_grewW (tn v) (tn u) (n, mem)).1) isw (p_grewW (tn v) (tn u) (n, mem)).2) (p_grewR (tn v) (tn u) (n, mem)) ((x_req v (nI y)).or ((x_req u (nI y)).or (x_if (¬ v ≤ u) nIAE))) 3 18 := by
  refine MTi.ofW (by decide +kernel) rfl (Nat.le_of_ble_eq_true rfl) ?_
  intro p e s m below meth c A ls hx hb hr hts hown hlk hml hA hP hK hD hT hl hno
  have hS : va_S A s.heap s.heap [] := va_S.rf
  have hown : s.vm.findClass RX1 = some m.cls := hown
  have hW : ∀ w ∈ tW, w.before _ s = true := fun w h => hts w (List.mem_cons_of_mem _ h)
  have hl : lv_has ls 3 [(0, .ref (o 0)), (1, .int v), (2, .int u)] := hl
  refine lv_aload_n hx hb dX1_grew_0 rfl (lv_at hl 0 rfl) ?_
  refine lv_iload_n hx hb dX1_grew_1 rfl (lv_at hl 1 rfl) ?_
  refine tr_callV (C := RX1) (As := [.int v]) (rest := []) ⟨hx, hb, hml, hown, hW⟩ (c_requireDay hl0 v (nI n) mem) gE_ok (cwV 1 hW (gV tw_269 tw_271 tv_X1_requireDay tw_1 tw_272) rfl rfl rfl (by decide +kernel) ⟨Nat.le_of_ble_eq_true rfl, Nat.le_of_ble_eq_true rfl⟩) (va_recv hK hP (ci := 0) (q0 := 0) rfl rfl) hP hD hK hA hT rfl hl.1 rfl (Nat.le_of_ble_eq_true rfl) dX1_grew_2 ⟨Nat.le_of_ble_eq_true rfl, Nat.le_of_ble_eq_true rfl⟩ hno hlk (Nat.le_of_ble_eq_true rfl) (Nat.le_of_ble_eq_true rfl) (fun nm z t h0 h1 h2 => Or.inr ⟨nm, z, rfl, x_or1 h0, h1, h2⟩) (fun hg1 => ?_)
  obtain ⟨da, hida, rfl⟩ := x_req_none (by omega) hg1
  refine lv_aload_n hx hb dX1_grew_5 rfl (lv_at hl 0 rfl) ?_
  refine lv_iload_n hx hb dX1_grew_6 rfl (lv_at hl 2 rfl) ?_
  refine tr_callV (C := RX1) (As := [.int u]) (rest := []) ⟨hx, hb, hml, hown, hW⟩ (c_requireDay hl0 u (nI n) mem) gE_ok (cwV 1 hW (gV tw_269 tw_271 tv_X1_requireDay tw_1 tw_272) rfl rfl rfl (by decide +kernel) ⟨Nat.le_of_ble_eq_true rfl, Nat.le_of_ble_eq_true rfl⟩) (va_recv hK hP (ci := 0) (q0 := 0) rfl rfl) hP hD hK hA hT rfl hl.1 rfl (Nat.le_of_ble_eq_true rfl) dX1_grew_7 ⟨Nat.le_of_ble_eq_true rfl, Nat.le_of_ble_eq_true rfl⟩ hno hlk (Nat.le_of_ble_eq_true rfl) (Nat.le_of_ble_eq_true rfl) (fun nm z t h0 h1 h2 => Or.inr ⟨nm, z, rfl, x_or2 hg1 (x_or1 h0), h1, h2⟩) (fun hg2 => ?_)
  obtain ⟨db, hidb, rfl⟩ := x_req_none (by omega) hg2
  refine lv_iload_n hx hb dX1_grew_10 rfl (lv_at hl 1 rfl) ?_
  refine lv_iload_n hx hb dX1_grew_11 rfl (lv_at hl 2 rfl) ?_
  have ha9 : tn (nI da) = da := nI_clamp (by omega)
  have hb9 : tn (nI db) = db := nI_clamp (by omega)
  have ca1 := (hm da hida).1
  have ca2 := (hm da hida).2
  have cb1 := (hm db hidb).1
  have cb2 := (hm db hidb).2
  generalize ca3 : tn (mem 1 da) = ca at ca1 ca2
  generalize cb3 : tn (mem 1 db) = cb at cb1 cb2
  refine lv_icmp_le (tgt := 25) hx hb dX1_grew_12 (by decide) (fun ha => ?_) (fun ha => ?_)
  · have hg3 : x_if (¬ nI da ≤ nI db) nIAE = none := x_if_f (fun h => h ha)
    refine lv_aload_n hx hb dX1_grew_25 rfl (lv_at hl 0 rfl) ?_
    refine lv_iload_n hx hb dX1_grew_26 rfl (lv_at hl 1 rfl) ?_
    refine mi_callV (C := RX1) (As := [.int (nI da)]) (rest := []) ⟨hx, hb, hml, hown, hW⟩ (c_stillMakesRoot da ca (by omega) (ca2) n mem (ca1)) gE_ok (cwV 1 hW (gV tw_396 tw_398 tv_X1_stillMakesRoot tw_1 tw_399) rfl rfl rfl (by decide +kernel) ⟨Nat.le_of_ble_eq_true rfl, Nat.le_of_ble_eq_true rfl⟩) (va_recv hK hP (ci := 0) (q0 := 0) rfl rfl) hP hD hK hS hA hT rfl hl.1 rfl (Nat.le_of_ble_eq_true rfl) dX1_grew_27 ⟨Nat.le_of_ble_eq_true rfl, Nat.le_of_ble_eq_true rfl⟩ (fun H locs hP hD hS => ?_)
    have hP : va_P D vwCl (wC o ad cI cZ cG tl lc wc (nI y) pn (nI (p_tree ca 2 (n, mem)).1) isw ((p_tree ca 2 (n, mem)).2)) H := hP
    have hD : va_D A (wC o ad cI cZ cG tl lc wc (nI y) pn (nI (p_tree ca 2 (n, mem)).1) isw ((p_tree ca 2 (n, mem)).2)) := hD
    refine lv_if_eq (tgt := 45) hx hb dX1_grew_30 (by decide) (fun h1 => ?_) (fun h1 => ?_)
    · have eW : p_grewW da db (n, mem) = p_tree ca 2 (n, mem) := by
        unfold p_grewW
        rw [ca3, cb3]
        exact if_pos h1
      have eR : p_grewR da db (n, mem) = nI 0 := by
        unfold p_grewR
        rw [ca3, cb3]
        exact if_pos h1
      refine lv_iconst (v := nI 0) hx hb dX1_grew_45 (by decide) ?_
      have hP : va_P D vwCl (wC o ad cI cZ cG tl lc wc (nI y) pn (nI (p_grewW (tn (nI da)) (tn (nI db)) (n, mem)).1) isw (p_grewW (tn (nI da)) (tn (nI db)) (n, mem)).2) H := by rw [ha9, hb9, eW]; exact hP
      have hD : va_D A (wC o ad cI cZ cG tl lc wc (nI y) pn (nI (p_grewW (tn (nI da)) (tn (nI db)) (n, mem)).1) isw (p_grewW (tn (nI da)) (tn (nI db)) (n, mem)).2) := by rw [ha9, hb9, eW]; exact hD
      exact ti_ret hx hb hr rfl hlk (x_or2 hg1 (x_or2 hg2 (hg3))) hS hP hD (by rw [ha9, hb9, eR]) dX1_grew_46 (Nat.le_of_ble_eq_true rfl) (Nat.le_of_ble_eq_true rfl)
    · refine lv_aload_n hx hb dX1_grew_33 rfl (lv_at hl 0 rfl) ?_
      refine lv_iload_n hx hb dX1_grew_34 rfl (lv_at hl 2 rfl) ?_
      refine mi_callV (C := RX1) (As := [.int (nI db)]) (rest := []) ⟨hx, hb, hml, hown, hW⟩ (c_stillMakesRoot db cb (by omega) (cb2) ((p_tree ca 2 (n, mem)).1) ((p_tree ca 2 (n, mem)).2) (by rw [p_tree_k (by decide) (by decide) (by decide) (by decide) (by decide)]; exact cb1)) gE_ok (cwV 1 hW (gV tw_396 tw_398 tv_X1_stillMakesRoot tw_1 tw_399) rfl rfl rfl (by decide +kernel) ⟨Nat.le_of_ble_eq_true rfl, Nat.le_of_ble_eq_true rfl⟩) (va_recv hK hP (ci := 0) (q0 := 0) rfl rfl) hP hD hK hS hA hT rfl hl.1 rfl (Nat.le_of_ble_eq_true rfl) dX1_grew_35 ⟨Nat.le_of_ble_eq_true rfl, Nat.le_of_ble_eq_true rfl⟩ (fun H locs hP hD hS => ?_)
      have hP : va_P D vwCl (wC o ad cI cZ cG tl lc wc (nI y) pn (nI (p_tree cb 2 (p_tree ca 2 (n, mem))).1) isw ((p_tree cb 2 (p_tree ca 2 (n, mem))).2)) H := hP
      have hD : va_D A (wC o ad cI cZ cG tl lc wc (nI y) pn (nI (p_tree cb 2 (p_tree ca 2 (n, mem))).1) isw ((p_tree cb 2 (p_tree ca 2 (n, mem))).2)) := hD
      refine lv_if_eq (tgt := 45) hx hb dX1_grew_38 (by decide) (fun h2 => ?_) (fun h2 => ?_)
      · have eW : p_grewW da db (n, mem) = p_tree cb 2 (p_tree ca 2 (n, mem)) := by
          unfold p_grewW
          rw [ca3, cb3]
          exact if_neg h1
        have eR : p_grewR da db (n, mem) = nI 0 := by
          unfold p_grewR
          rw [ca3, cb3]
          exact (if_neg h1).trans (if_pos h2)
        refine lv_iconst (v := nI 0) hx hb dX1_grew_45 (by decide) ?_
        have hP : va_P D vwCl (wC o ad cI cZ cG tl lc wc (nI y) pn (nI (p_grewW (tn (nI da)) (tn (nI db)) (n, mem)).1) isw (p_grewW (tn (nI da)) (tn (nI db)) (n, mem)).2) H := by rw [ha9, hb9, eW]; exact hP
        have hD : va_D A (wC o ad cI cZ cG tl lc wc (nI y) pn (nI (p_grewW (tn (nI da)) (tn (nI db)) (n, mem)).1) isw (p_grewW (tn (nI da)) (tn (nI db)) (n, mem)).2) := by rw [ha9, hb9, eW]; exact hD
        exact ti_ret hx hb hr rfl hlk (x_or2 hg1 (x_or2 hg2 (hg3))) hS hP hD (by rw [ha9, hb9, eR]) dX1_grew_46 (Nat.le_of_ble_eq_true rfl) (Nat.le_of_ble_eq_true rfl)
      · have eW : p_grewW da db (n, mem) = p_tree cb 2 (p_tree ca 2 (n, mem)) := by
          unfold p_grewW
          rw [ca3, cb3]
          exact if_neg h1
        have eR : p_grewR da db (n, mem) = nI 1 := by
          unfold p_grewR
          rw [ca3, cb3]
          exact (if_neg h1).trans (if_neg h2)
        refine lv_iconst (v := nI 1) hx hb dX1_grew_41 (by decide) ?_
        refine lv_goto (tgt := 46) hx hb dX1_grew_42 (by decide) ?_
        have hP : va_P D vwCl (wC o ad cI cZ cG tl lc wc (nI y) pn (nI (p_grewW (tn (nI da)) (tn (nI db)) (n, mem)).1) isw (p_grewW (tn (nI da)) (tn (nI db)) (n, mem)).2) H := by rw [ha9, hb9, eW]; exact hP
        have hD : va_D A (wC o ad cI cZ cG tl lc wc (nI y) pn (nI (p_grewW (tn (nI da)) (tn (nI db)) (n, mem)).1) isw (p_grewW (tn (nI da)) (tn (nI db)) (n, mem)).2) := by rw [ha9, hb9, eW]; exact hD
        exact ti_ret hx hb hr rfl hlk (x_or2 hg1 (x_or2 hg2 (hg3))) hS hP hD (by rw [ha9, hb9, eR]) dX1_grew_46 (Nat.le_of_ble_eq_true rfl) (Nat.le_of_ble_eq_true rfl)
  · have hg3 : x_if (¬ nI da ≤ nI db) nIAE = some nIAE := x_if_t ha
    exact tr_throw (cls := "java/lang/IllegalArgumentException") (tx := "the first day is later than the second") (names := ["java/lang/RuntimeException", "java/lang/Exception"]) (rest := []) hx hb (hml.trans hl.1.symm) hl0 hown (by decide +kernel) (by decide +kernel) (own_ok own_IAE hW hT) (hW _ tw_97) (hW _ tw_7) (hT.2.2.2 (.stringRef "ProofLeaves" 135 "the first day is later than the second") (by decide +kernel)) hno hlk dX1_grew_15 dX1_grew_18 dX1_grew_19 dX1_grew_21 dX1_grew_24 (Nat.le_of_ble_eq_true rfl) (Nat.le_of_ble_eq_true rfl) (Nat.le_of_ble_eq_true rfl) (Nat.le_of_ble_eq_true rfl) (Nat.le_of_ble_eq_true rfl) (Nat.le_of_ble_eq_true rfl) (fun z t h1 h2 => Or.inr ⟨_, _, rfl, x_or2 hg1 (x_or2 hg2 (hg3)), h1, h2⟩)
set_option maxHeartbeats 4000000 in
set_option maxRecDepth 100000 in
/-- check(v, u, x, k) -/
theorem c_check {l : Launch} {D : va_G} {o ad : Nat → Nat} {cI cZ cG : ClassId} {tl lc wc dc pn : Int32} {isw : Nat → Int32} (hl0 : l.stackTraces = false) (q y n : Nat) (hq : q ≤ 24) (hy : y ≤ 12) (v u x k : Int32) (mem : Nat → Nat → Int32) (hm : ∀ d, d < y → mem 1 d = nI (tn (mem 1 d)) ∧ tn (mem 1 d) ≤ 24) : MTi l gE yX1_check (.code yX1_check cX1_check 5 (some .int) :: tW) ({ frames := 7, cells := 3, slots := 18, locals := 230 }) D vwCl (tC cI cZ cG) [.ref (o 0), .int v, .int u, .int x, .int k] (wC o ad cI cZ cG tl (nI q) wc (nI y) pn (nI n) isw mem) (wC o ad cI cZ cG tl (nI q) wc (nI y) pn (nI (p_checkW (tn v) (tn u) x k pn (n, mem)).1) isw (p_checkW (tn v) (tn u) x k pn (n, mem)).2) (p_checkR (tn v) (tn u) x k pn (n, mem)) ((x_req v (nI q)).or ((x_req u (nI y)).or ((x_if (pn = (-1)) nISE).or (x_if (x < 0 ∨ ¬ x < k) nIAE)))) 3 18 := by
  refine MTi.ofW (by decide +kernel) rfl (Nat.le_of_ble_eq_true rfl) ?_
  intro p e s m below meth c A ls hx hb hr hts hown hlk hml hA hP hK hD hT hl hno
  have hS : va_S A s.heap s.heap [] := va_S.rf
  have hown : s.vm.findClass RX1 = some m.cls := hown
  have hW : ∀ w ∈ tW, w.before _ s = true := fun w h => hts w (List.mem_cons_of_mem _ h)
  have hl : lv_has ls 5 [(0, .ref (o 0)), (1, .int v), (2, .int u), (3, .int x), (4, .int k)] := hl
  refine lv_aload_n hx hb dX1_check_0 rfl (lv_at hl 0 rfl) ?_
  refine lv_iload_n hx hb dX1_check_1 rfl (lv_at hl 1 rfl) ?_
  refine tr_callV (C := RX1) (As := [.int v]) (rest := []) ⟨hx, hb, hml, hown, hW⟩ (c_requireLeaf hl0 v (nI n) mem) gE_ok (cwV 1 hW (gV tw_300 tw_302 tv_X1_requireLeaf tw_1 tw_303) rfl rfl rfl (by decide +kernel) ⟨Nat.le_of_ble_eq_true rfl, Nat.le_of_ble_eq_true rfl⟩) (va_recv hK hP (ci := 0) (q0 := 0) rfl rfl) hP hD hK hA hT rfl hl.1 rfl (Nat.le_of_ble_eq_true rfl) dX1_check_2 ⟨Nat.le_of_ble_eq_true rfl, Nat.le_of_ble_eq_true rfl⟩ hno hlk (Nat.le_of_ble_eq_true rfl) (Nat.le_of_ble_eq_true rfl) (fun nm z t h0 h1 h2 => Or.inr ⟨nm, z, rfl, x_or1 h0, h1, h2⟩) (fun hg1 => ?_)
  obtain ⟨lf, hilf, rfl⟩ := x_req_none (by omega) hg1
  refine lv_aload_n hx hb dX1_check_5 rfl (lv_at hl 0 rfl) ?_
  refine lv_iload_n hx hb dX1_check_6 rfl (lv_at hl 2 rfl) ?_
  refine tr_callV (C := RX1) (As := [.int u]) (rest := []) ⟨hx, hb, hml, hown, hW⟩ (c_requireDay hl0 u (nI n) mem) gE_ok (cwV 1 hW (gV tw_269 tw_271 tv_X1_requireDay tw_1 tw_272) rfl rfl rfl (by decide +kernel) ⟨Nat.le_of_ble_eq_true rfl, Nat.le_of_ble_eq_true rfl⟩) (va_recv hK hP (ci := 0) (q0 := 0) rfl rfl) hP hD hK hA hT rfl hl.1 rfl (Nat.le_of_ble_eq_true rfl) dX1_check_7 ⟨Nat.le_of_ble_eq_true rfl, Nat.le_of_ble_eq_true rfl⟩ hno hlk (Nat.le_of_ble_eq_true rfl) (Nat.le_of_ble_eq_true rfl) (fun nm z t h0 h1 h2 => Or.inr ⟨nm, z, rfl, x_or2 hg1 (x_or1 h0), h1, h2⟩) (fun hg2 => ?_)
  obtain ⟨d, hid, rfl⟩ := x_req_none (by omega) hg2
  refine lv_aload_n hx hb dX1_check_10 rfl (lv_at hl 0 rfl) ?_
  refine va_get (D := D) (ci := 0) (v := .int pn) (C := RX1) (T := TX1) (N := 14) hx hb hW iPL hown hK hP 0 rfl rfl 11 (by decide) (hW _ tw_55) (fun _ h9 => h9) rfl dX1_check_11 ?_
  refine lv_iconst (v := (-1)) hx hb dX1_check_14 (by decide) ?_
  have hd9 : tn (nI d) = d := nI_clamp (by omega)
  have hl9 : tn (nI lf) = lf := nI_clamp (by omega)
  have hc9 := (hm d hid).1
  have hq9 := (hm d hid).2
  refine lv_icmp_ne (tgt := 28) hx hb dX1_check_15 (by decide) (fun ha => ?_) (fun ha => ?_)
  · have hg3 : x_if (pn = (-1)) nISE = none := x_if_f ha
    refine lv_iload_n hx hb dX1_check_28 rfl (lv_at hl 3 rfl) ?_
    refine lv_if_lt (tgt := 38) hx hb dX1_check_29 (by decide) (fun hn => ?_) (fun hn => ?_)
    · have hg4 : x_if (x < 0 ∨ ¬ x < k) nIAE = some nIAE := x_if_t (Or.inl hn)
      exact tr_throw (cls := "java/lang/IllegalArgumentException") (tx := "the number told is not 0 .. the count told - 1") (names := ["java/lang/RuntimeException", "java/lang/Exception"]) (rest := []) hx hb (hml.trans hl.1.symm) hl0 hown (by decide +kernel) (by decide +kernel) (own_ok own_IAE hW hT) (hW _ tw_97) (hW _ tw_7) (hT.2.2.2 (.stringRef "ProofLeaves" 121 "the number told is not 0 .. the count told - 1") (by decide +kernel)) hno hlk dX1_check_38 dX1_check_41 dX1_check_42 dX1_check_44 dX1_check_47 (Nat.le_of_ble_eq_true rfl) (Nat.le_of_ble_eq_true rfl) (Nat.le_of_ble_eq_true rfl) (Nat.le_of_ble_eq_true rfl) (Nat.le_of_ble_eq_true rfl) (Nat.le_of_ble_eq_true rfl) (fun z t h1 h2 => Or.inr ⟨_, _, rfl, x_or2 hg1 (x_or2 hg2 (x_or2 hg3 (hg4))), h1, h2⟩)
    · refine lv_iload_n hx hb dX1_check_32 rfl (lv_at hl 3 rfl) ?_
      refine lv_iload hx hb dX1_check_33 (lv_at hl 4 rfl) ?_
      refine lv_icmp_lt (tgt := 48) hx hb dX1_check_35 (by decide) (fun hc => ?_) (fun hc => ?_)
      · have hg4 : x_if (x < 0 ∨ ¬ x < k) nIAE = none := x_if_f (fun h => h.elim hn (fun h1 => h1 hc))
        refine lv_iload hx hb dX1_check_48 (lv_at hl 4 rfl) ?_
        refine lv_aload_n hx hb dX1_check_50 rfl (lv_at hl 0 rfl) ?_
        refine va_get (D := D) (ci := 0) (v := .ref (ad 1)) (C := RX1) (T := TX1) (N := 14) hx hb hW iPL hown hK hP 0 rfl rfl 8 (by decide) (hW _ tw_52) (fun _ h9 => h9) rfl dX1_check_51 ?_
        refine lv_iload_n hx hb dX1_check_54 rfl (lv_at hl 2 rfl) ?_
        refine m_ld (X := wX o ad cZ cG tl (nI q) wc (nI y) pn (nI n) isw) hx hb hK hP 0 1 d rfl (by decide) (show d < 12 by omega) (by decide) dX1_check_55 ?_
        refine lv_icmp_eq (tgt := 61) hx hb dX1_check_56 (by decide) (fun he => ?_) (fun he => ?_)
        · have hk9 : k = nI (tn (mem 1 d)) := he.trans hc9
          generalize hc8 : tn (mem 1 d) = cc0 at hk9 hq9
          subst hk9
          obtain ⟨x0, hx1, rfl⟩ := nI_of hn
          have hx0 : x0 < cc0 := (nI_ltI hx1 (by omega)).mp hc
          have hk8 : tn (nI cc0) = cc0 := nI_clamp (by omega)
          have hx8 : tn (nI x0) = x0 := nI_clamp (by omega)
          refine lv_aload_n hx hb dX1_check_61 rfl (lv_at hl 0 rfl) ?_
          refine va_get (D := D) (ci := 0) (v := .int pn) (C := RX1) (T := TX1) (N := 14) hx hb hW iPL hown hK hP 0 rfl rfl 11 (by decide) (hW _ tw_55) (fun _ h9 => h9) rfl dX1_check_62 ?_
          refine lv_iload_n hx hb dX1_check_65 rfl (lv_at hl 3 rfl) ?_
          refine lv_iload hx hb dX1_check_66 (lv_at hl 4 rfl) ?_
          refine mi_callS (As := [.int (nI x0), .int (nI cc0)]) (rest := [.int pn]) ⟨hx, hb, hml, hown, hW⟩ (c_dueLength _ x0 cc0 (by omega) (by omega)) gE_ok (va_cwS 2 hW (gS tw_378 tw_379 tw_1 tw_380) rfl rfl rfl (by decide +kernel) ⟨Nat.le_of_ble_eq_true rfl, Nat.le_of_ble_eq_true rfl⟩) hP hD hK hS hA hT rfl hl.1 rfl (Nat.le_of_ble_eq_true rfl) dX1_check_68 ⟨Nat.le_of_ble_eq_true rfl, Nat.le_of_ble_eq_true rfl⟩ (fun H locs hP hD hS => ?_)
          refine lv_icmp_eq (tgt := 76) hx hb dX1_check_71 (by decide) (fun hp => ?_) (fun hp => ?_)
          · have eW : p_checkW lf d (nI x0) (nI cc0) pn (n, mem) = p_climb (6 + lf) x0 cc0 (n, mem) := by
              unfold p_checkW
              rw [if_pos he, hk8, hx8]
              exact if_pos hp
            refine lv_aload_n hx hb dX1_check_76 rfl (lv_at hl 0 rfl) ?_
            refine lv_aload_n hx hb dX1_check_77 rfl (lv_at hl 0 rfl) ?_
            refine va_get (D := D) (ci := 0) (v := .ref (o 2)) (C := RX1) (T := TX1) (N := 14) hx hb hW iPL hown hK hP 0 rfl rfl 3 (by decide) (hW _ tw_47) (fun _ h9 => h9) rfl dX1_check_78 ?_
            refine lv_iload_n hx hb dX1_check_81 rfl (lv_at hl 1 rfl) ?_
            refine m_row hx hb hK hP 2 2 lf rfl rfl (by omega) (by decide) rfl dX1_check_82 ?_
            refine lv_iload_n hx hb dX1_check_83 rfl (lv_at hl 3 rfl) ?_
            refine lv_iload hx hb dX1_check_84 (lv_at hl 4 rfl) ?_
            refine mv_callV (C := RX1) (As := [.ref (ad (6 + lf)), .int (nI x0), .int (nI cc0)]) (rest := []) ⟨hx, hb, hml, hown, hW⟩ (c_climb (6 + lf) x0 cc0 (by omega) (lenC_row (by omega)) (by omega) (by omega) n mem) gE_ok (cwV 3 hW (gV tw_381 tw_383 tv_X1_climb tw_1 tw_384) rfl rfl rfl (by decide +kernel) ⟨Nat.le_of_ble_eq_true rfl, Nat.le_of_ble_eq_true rfl⟩) (va_recv hK hP (ci := 0) (q0 := 0) rfl rfl) hP hD hK hS hA hT rfl hl.1 rfl (Nat.le_of_ble_eq_true rfl) dX1_check_86 ⟨Nat.le_of_ble_eq_true rfl, Nat.le_of_ble_eq_true rfl⟩ (fun H locs hP hD hS => ?_)
            have hP : va_P D vwCl (wC o ad cI cZ cG tl (nI q) wc (nI y) pn (nI (p_climb (6 + lf) x0 cc0 (n, mem)).1) isw ((p_climb (6 + lf) x0 cc0 (n, mem)).2)) H := hP
            have hD : va_D A (wC o ad cI cZ cG tl (nI q) wc (nI y) pn (nI (p_climb (6 + lf) x0 cc0 (n, mem)).1) isw ((p_climb (6 + lf) x0 cc0 (n, mem)).2)) := hD
            refine lv_aload_n hx hb dX1_check_89 rfl (lv_at hl 0 rfl) ?_
            refine va_get (D := D) (ci := 0) (v := .ref (ad 2)) (C := RX1) (T := TX1) (N := 14) hx hb hW iPL hown hK hP 0 rfl rfl 13 (by decide) (hW _ tw_57) (fun _ h9 => h9) rfl dX1_check_90 ?_
            refine lv_aload_n hx hb dX1_check_93 rfl (lv_at hl 0 rfl) ?_
            refine va_get (D := D) (ci := 0) (v := .ref (o 3)) (C := RX1) (T := TX1) (N := 14) hx hb hW iPL hown hK hP 0 rfl rfl 7 (by decide) (hW _ tw_51) (fun _ h9 => h9) rfl dX1_check_94 ?_
            refine lv_iload_n hx hb dX1_check_97 rfl (lv_at hl 2 rfl) ?_
            refine m_row hx hb hK hP 3 2 d rfl rfl (by omega) (by decide) rfl dX1_check_98 ?_
            refine mi_callS (As := [.ref (ad 2), .ref (ad (30 + d))]) (rest := []) ⟨hx, hb, hml, hown, hW⟩ (c_compareDigests 2 (30 + d) (by decide) (by omega) (by decide) (lenC_row (by omega)) (nI (p_climb (6 + lf) x0 cc0 (n, mem)).1) ((p_climb (6 + lf) x0 cc0 (n, mem)).2)) gE_ok (va_cwS 2 hW (gS tw_385 tw_386 tw_1 tw_387) rfl rfl rfl (by decide +kernel) ⟨Nat.le_of_ble_eq_true rfl, Nat.le_of_ble_eq_true rfl⟩) hP hD hK hS hA hT rfl hl.1 rfl (Nat.le_of_ble_eq_true rfl) dX1_check_99 ⟨Nat.le_of_ble_eq_true rfl, Nat.le_of_ble_eq_true rfl⟩ (fun H locs hP hD hS => ?_)
            refine lv_if_ne (tgt := 109) hx hb dX1_check_102 (by decide) (fun hz => ?_) (fun hz => ?_)
            · have eR : p_checkR lf d (nI x0) (nI cc0) pn (n, mem) = nI 3 := by
                unfold p_checkR
                rw [if_pos he, hk8, hx8]
                exact (if_pos hp).trans (if_neg hz)
              refine lv_iconst (v := nI 3) hx hb dX1_check_109 (by decide) ?_
              have hP : va_P D vwCl (wC o ad cI cZ cG tl (nI q) wc (nI y) pn (nI (p_checkW (tn (nI lf)) (tn (nI d)) (nI x0) (nI cc0) pn (n, mem)).1) isw (p_checkW (tn (nI lf)) (tn (nI d)) (nI x0) (nI cc0) pn (n, mem)).2) H := by rw [hd9, hl9, eW]; exact hP
              have hD : va_D A (wC o ad cI cZ cG tl (nI q) wc (nI y) pn (nI (p_checkW (tn (nI lf)) (tn (nI d)) (nI x0) (nI cc0) pn (n, mem)).1) isw (p_checkW (tn (nI lf)) (tn (nI d)) (nI x0) (nI cc0) pn (n, mem)).2) := by rw [hd9, hl9, eW]; exact hD
              exact ti_ret hx hb hr rfl hlk (x_or2 hg1 (x_or2 hg2 (x_or2 hg3 (hg4)))) hS hP hD (by rw [hd9, hl9, eR]) dX1_check_110 (Nat.le_of_ble_eq_true rfl) (Nat.le_of_ble_eq_true rfl)
            · have eR : p_checkR lf d (nI x0) (nI cc0) pn (n, mem) = nI 0 := by
                unfold p_checkR
                rw [if_pos he, hk8, hx8]
                exact (if_pos hp).trans (if_pos hz)
              refine lv_iconst (v := nI 0) hx hb dX1_check_105 (by decide) ?_
              refine lv_goto (tgt := 110) hx hb dX1_check_106 (by decide) ?_
              have hP : va_P D vwCl (wC o ad cI cZ cG tl (nI q) wc (nI y) pn (nI (p_checkW (tn (nI lf)) (tn (nI d)) (nI x0) (nI cc0) pn (n, mem)).1) isw (p_checkW (tn (nI lf)) (tn (nI d)) (nI x0) (nI cc0) pn (n, mem)).2) H := by rw [hd9, hl9, eW]; exact hP
              have hD : va_D A (wC o ad cI cZ cG tl (nI q) wc (nI y) pn (nI (p_checkW (tn (nI lf)) (tn (nI d)) (nI x0) (nI cc0) pn (n, mem)).1) isw (p_checkW (tn (nI lf)) (tn (nI d)) (nI x0) (nI cc0) pn (n, mem)).2) := by rw [hd9, hl9, eW]; exact hD
              exact ti_ret hx hb hr rfl hlk (x_or2 hg1 (x_or2 hg2 (x_or2 hg3 (hg4)))) hS hP hD (by rw [hd9, hl9, eR]) dX1_check_110 (Nat.le_of_ble_eq_true rfl) (Nat.le_of_ble_eq_true rfl)
          · have eW : p_checkW lf d (nI x0) (nI cc0) pn (n, mem) = (n, mem) := by
              unfold p_checkW
              rw [if_pos he, hk8, hx8]
              exact if_neg hp
            have eR : p_checkR lf d (nI x0) (nI cc0) pn (n, mem) = nI 2 := by
              unfold p_checkR
              rw [if_pos he, hk8, hx8]
              exact if_neg hp
            refine lv_iconst (v := nI 2) hx hb dX1_check_74 (by decide) ?_
            have hP : va_P D vwCl (wC o ad cI cZ cG tl (nI q) wc (nI y) pn (nI (p_checkW (tn (nI lf)) (tn (nI d)) (nI x0) (nI cc0) pn (n, mem)).1) isw (p_checkW (tn (nI lf)) (tn (nI d)) (nI x0) (nI cc0) pn (n, mem)).2) H := by rw [hd9, hl9, eW]; exact hP
            have hD : va_D A (wC o ad cI cZ cG tl (nI q) wc (nI y) pn (nI (p_checkW (tn (nI lf)) (tn (nI d)) (nI x0) (nI cc0) pn (n, mem)).1) isw (p_checkW (tn (nI lf)) (tn (nI d)) (nI x0) (nI cc0) pn (n, mem)).2) := by rw [hd9, hl9, eW]; exact hD
            exact ti_ret hx hb hr rfl hlk (x_or2 hg1 (x_or2 hg2 (x_or2 hg3 (hg4)))) hS hP hD (by rw [hd9, hl9, eR]) dX1_check_75 (Nat.le_of_ble_eq_true rfl) (Nat.le_of_ble_eq_true rfl)
        · have eW : p_checkW lf d x k pn (n, mem) = (n, mem) := if_neg he
          have eR : p_checkR lf d x k pn (n, mem) = nI 1 := if_neg he
          refine lv_iconst (v := nI 1) hx hb dX1_check_59 (by decide) ?_
          have hP : va_P D vwCl (wC o ad cI cZ cG tl (nI q) wc (nI y) pn (nI (p_checkW (tn (nI lf)) (tn (nI d)) x k pn (n, mem)).1) isw (p_checkW (tn (nI lf)) (tn (nI d)) x k pn (n, mem)).2) s.heap := by rw [hd9, hl9, eW]; exact hP
          have hD : va_D A (wC o ad cI cZ cG tl (nI q) wc (nI y) pn (nI (p_checkW (tn (nI lf)) (tn (nI d)) x k pn (n, mem)).1) isw (p_checkW (tn (nI lf)) (tn (nI d)) x k pn (n, mem)).2) := by rw [hd9, hl9, eW]; exact hD
          exact ti_ret hx hb hr rfl hlk (x_or2 hg1 (x_or2 hg2 (x_or2 hg3 (hg4)))) hS hP hD (by rw [hd9, hl9, eR]) dX1_check_60 (Nat.le_of_ble_eq_true rfl) (Nat.le_of_ble_eq_true rfl)
      · have hg4 : x_if (x < 0 ∨ ¬ x < k) nIAE = some nIAE := x_if_t (Or.inr hc)
        exact tr_throw (cls := "java/lang/IllegalArgumentException") (tx := "the number told is not 0 .. the count told - 1") (names := ["java/lang/RuntimeException", "java/lang/Exception"]) (rest := []) hx hb (hml.trans hl.1.symm) hl0 hown (by decide +kernel) (by decide +kernel) (own_ok own_IAE hW hT) (hW _ tw_97) (hW _ tw_7) (hT.2.2.2 (.stringRef "ProofLeaves" 121 "the number told is not 0 .. the count told - 1") (by decide +kernel)) hno hlk dX1_check_38 dX1_check_41 dX1_check_42 dX1_check_44 dX1_check_47 (Nat.le_of_ble_eq_true rfl) (Nat.le_of_ble_eq_true rfl) (Nat.le_of_ble_eq_true rfl) (Nat.le_of_ble_eq_true rfl) (Nat.le_of_ble_eq_true rfl) (Nat.le_of_ble_eq_true rfl) (fun z t h1 h2 => Or.inr ⟨_, _, rfl, x_or2 hg1 (x_or2 hg2 (x_or2 hg3 (hg4))), h1, h2⟩)
  · have hg3 : x_if (pn = (-1)) nISE = some nISE := x_if_t ha
    exact tr_throw (cls := "java/lang/IllegalStateException") (tx := "there is no proof") (names := ["java/lang/RuntimeException", "java/lang/Exception"]) (rest := []) hx hb (hml.trans hl.1.symm) hl0 hown (by decide +kernel) (by decide +kernel) (own_ok own_ISE hW hT) (hW _ tw_320) (hW _ tw_13) (hT.2.2.2 (.stringRef "ProofLeaves" 119 "there is no proof") (by decide +kernel)) hno hlk dX1_check_18 dX1_check_21 dX1_check_22 dX1_check_24 dX1_check_27 (Nat.le_of_ble_eq_true rfl) (Nat.le_of_ble_eq_true rfl) (Nat.le_of_ble_eq_true rfl) (Nat.le_of_ble_eq_true rfl) (Nat.le_of_ble_eq_true rfl) (Nat.le_of_ble_eq_true rfl) (fun z t h1 h2 => Or.inr ⟨_, _, rfl, x_or2 hg1 (x_or2 hg2 (x_or1 hg3)), h1, h2⟩)
end
section
theorem dX2_init_0 : decode cX2_init 0 = .ok (.aload_n 0, 1) := by decide +kernel
theorem dX2_init_1 : decode cX2_init 1 = .ok (.invokespecial 1, 3) := by decide +kernel
theorem dX2_init_4 : decode cX2_init 4 = .ok (.aload_n 0, 1) := by decide +kernel
theorem dX2_init_5 : decode cX2_init 5 = .ok (.sipush 200, 3) := by decide +kernel
theorem dX2_init_8 : decode cX2_init 8 = .ok (.newarray .int, 2) := by decide +kernel
theorem dX2_init_10 : decode cX2_init 10 = .ok (.putfield 7, 3) := by decide +kernel
theorem dX2_init_13 : decode cX2_init 13 = .ok (.aload_n 0, 1) := by decide +kernel
theorem dX2_init_14 : decode cX2_init 14 = .ok (.sipush 768, 3) := by decide +kernel
theorem dX2_init_17 : decode cX2_init 17 = .ok (.newarray .int, 2) := by decide +kernel
theorem dX2_init_19 : decode cX2_init 19 = .ok (.putfield 13, 3) := by decide +kernel
theorem dX2_init_22 : decode cX2_init 22 = .ok (.aload_n 0, 1) := by decide +kernel
theorem dX2_init_23 : decode cX2_init 23 = .ok (.bipush 24, 2) := by decide +kernel
theorem dX2_init_25 : decode cX2_init 25 = .ok (.newarray .boolean, 2) := by decide +kernel
theorem dX2_init_27 : decode cX2_init 27 = .ok (.putfield 16, 3) := by decide +kernel
theorem dX2_init_30 : decode cX2_init 30 = .ok (.aload_n 0, 1) := by decide +kernel
theorem dX2_init_31 : decode cX2_init 31 = .ok (.bipush 12, 2) := by decide +kernel
theorem dX2_init_33 : decode cX2_init 33 = .ok (.newarray .int, 2) := by decide +kernel
theorem dX2_init_35 : decode cX2_init 35 = .ok (.putfield 20, 3) := by decide +kernel
theorem dX2_init_38 : decode cX2_init 38 = .ok (.aload_n 0, 1) := by decide +kernel
theorem dX2_init_39 : decode cX2_init 39 = .ok (.sipush 384, 3) := by decide +kernel
theorem dX2_init_42 : decode cX2_init 42 = .ok (.newarray .int, 2) := by decide +kernel
theorem dX2_init_44 : decode cX2_init 44 = .ok (.putfield 23, 3) := by decide +kernel
theorem dX2_init_47 : decode cX2_init 47 = .ok (.aload_n 0, 1) := by decide +kernel
theorem dX2_init_48 : decode cX2_init 48 = .ok (.sipush 320, 3) := by decide +kernel
theorem dX2_init_51 : decode cX2_init 51 = .ok (.newarray .int, 2) := by decide +kernel
theorem dX2_init_53 : decode cX2_init 53 = .ok (.putfield 26, 3) := by decide +kernel
theorem dX2_init_56 : decode cX2_init 56 = .ok (.aload_n 0, 1) := by decide +kernel
theorem dX2_init_57 : decode cX2_init 57 = .ok (.sipush 256, 3) := by decide +kernel
theorem dX2_init_60 : decode cX2_init 60 = .ok (.newarray .int, 2) := by decide +kernel
theorem dX2_init_62 : decode cX2_init 62 = .ok (.putfield 29, 3) := by decide +kernel
theorem dX2_init_65 : decode cX2_init 65 = .ok (.aload_n 0, 1) := by decide +kernel
theorem dX2_init_66 : decode cX2_init 66 = .ok (.bipush 32, 2) := by decide +kernel
theorem dX2_init_68 : decode cX2_init 68 = .ok (.newarray .int, 2) := by decide +kernel
theorem dX2_init_70 : decode cX2_init 70 = .ok (.putfield 32, 3) := by decide +kernel
theorem dX2_init_73 : decode cX2_init 73 = .ok (.aload_n 0, 1) := by decide +kernel
theorem dX2_init_74 : decode cX2_init 74 = .ok (.bipush 64, 2) := by decide +kernel
theorem dX2_init_76 : decode cX2_init 76 = .ok (.newarray .int, 2) := by decide +kernel
theorem dX2_init_78 : decode cX2_init 78 = .ok (.putfield 35, 3) := by decide +kernel
theorem dX2_init_81 : decode cX2_init 81 = .ok (.aload_n 0, 1) := by decide +kernel
theorem dX2_init_82 : decode cX2_init 82 = .ok (.bipush 8, 2) := by decide +kernel
theorem dX2_init_84 : decode cX2_init 84 = .ok (.newarray .int, 2) := by decide +kernel
theorem dX2_init_86 : decode cX2_init 86 = .ok (.putfield 38, 3) := by decide +kernel
theorem dX2_init_89 : decode cX2_init 89 = .ok (.aload_n 0, 1) := by decide +kernel
theorem dX2_init_90 : decode cX2_init 90 = .ok (.sipush 256, 3) := by decide +kernel
theorem dX2_init_93 : decode cX2_init 93 = .ok (.newarray .int, 2) := by decide +kernel
theorem dX2_init_95 : decode cX2_init 95 = .ok (.putfield 41, 3) := by decide +kernel
theorem dX2_init_98 : decode cX2_init 98 = .ok (.aload_n 0, 1) := by decide +kernel
theorem dX2_init_99 : decode cX2_init 99 = .ok (.bipush 8, 2) := by decide +kernel
theorem dX2_init_101 : decode cX2_init 101 = .ok (.newarray .int, 2) := by decide +kernel
theorem dX2_init_103 : decode cX2_init 103 = .ok (.putfield 44, 3) := by decide +kernel
theorem dX2_init_106 : decode cX2_init 106 = .ok (.aload_n 0, 1) := by decide +kernel
theorem dX2_init_107 : decode cX2_init 107 = .ok (.bipush 8, 2) := by decide +kernel
theorem dX2_init_109 : decode cX2_init 109 = .ok (.newarray .int, 2) := by decide +kernel
theorem dX2_init_111 : decode cX2_init 111 = .ok (.putfield 47, 3) := by decide +kernel
theorem dX2_init_114 : decode cX2_init 114 = .ok (.aload_n 0, 1) := by decide +kernel
theorem dX2_init_115 : decode cX2_init 115 = .ok (.bipush 8, 2) := by decide +kernel
theorem dX2_init_117 : decode cX2_init 117 = .ok (.newarray .int, 2) := by decide +kernel
theorem dX2_init_119 : decode cX2_init 119 = .ok (.putfield 50, 3) := by decide +kernel
theorem dX2_init_122 : decode cX2_init 122 = .ok (.aload_n 0, 1) := by decide +kernel
theorem dX2_init_123 : decode cX2_init 123 = .ok (.bipush 8, 2) := by decide +kernel
theorem dX2_init_125 : decode cX2_init 125 = .ok (.newarray .boolean, 2) := by decide +kernel
theorem dX2_init_127 : decode cX2_init 127 = .ok (.putfield 53, 3) := by decide +kernel
theorem dX2_init_130 : decode cX2_init 130 = .ok (.aload_n 0, 1) := by decide +kernel
theorem dX2_init_131 : decode cX2_init 131 = .ok (.bipush 64, 2) := by decide +kernel
theorem dX2_init_133 : decode cX2_init 133 = .ok (.newarray .int, 2) := by decide +kernel
theorem dX2_init_135 : decode cX2_init 135 = .ok (.dup, 1) := by decide +kernel
theorem dX2_init_136 : decode cX2_init 136 = .ok (.iconst 0, 1) := by decide +kernel
theorem dX2_init_137 : decode cX2_init 137 = .ok (.ldc 56, 2) := by decide +kernel
theorem dX2_init_139 : decode cX2_init 139 = .ok (.iastore, 1) := by decide +kernel
theorem dX2_init_140 : decode cX2_init 140 = .ok (.dup, 1) := by decide +kernel
theorem dX2_init_141 : decode cX2_init 141 = .ok (.iconst 1, 1) := by decide +kernel
theorem dX2_init_142 : decode cX2_init 142 = .ok (.ldc 57, 2) := by decide +kernel
theorem dX2_init_144 : decode cX2_init 144 = .ok (.iastore, 1) := by decide +kernel
theorem dX2_init_145 : decode cX2_init 145 = .ok (.dup, 1) := by decide +kernel
theorem dX2_init_146 : decode cX2_init 146 = .ok (.iconst 2, 1) := by decide +kernel
theorem dX2_init_147 : decode cX2_init 147 = .ok (.ldc 58, 2) := by decide +kernel
theorem dX2_init_149 : decode cX2_init 149 = .ok (.iastore, 1) := by decide +kernel
theorem dX2_init_150 : decode cX2_init 150 = .ok (.dup, 1) := by decide +kernel
theorem dX2_init_151 : decode cX2_init 151 = .ok (.iconst 3, 1) := by decide +kernel
theorem dX2_init_152 : decode cX2_init 152 = .ok (.ldc 59, 2) := by decide +kernel
theorem dX2_init_154 : decode cX2_init 154 = .ok (.iastore, 1) := by decide +kernel
theorem dX2_init_155 : decode cX2_init 155 = .ok (.dup, 1) := by decide +kernel
theorem dX2_init_156 : decode cX2_init 156 = .ok (.iconst 4, 1) := by decide +kernel
theorem dX2_init_157 : decode cX2_init 157 = .ok (.ldc 60, 2) := by decide +kernel
theorem dX2_init_159 : decode cX2_init 159 = .ok (.iastore, 1) := by decide +kernel
theorem dX2_init_160 : decode cX2_init 160 = .ok (.dup, 1) := by decide +kernel
theorem dX2_init_161 : decode cX2_init 161 = .ok (.iconst 5, 1) := by decide +kernel
theorem dX2_init_162 : decode cX2_init 162 = .ok (.ldc 61, 2) := by decide +kernel
theorem dX2_init_164 : decode cX2_init 164 = .ok (.iastore, 1) := by decide +kernel
theorem dX2_init_165 : decode cX2_init 165 = .ok (.dup, 1) := by decide +kernel
theorem dX2_init_166 : decode cX2_init 166 = .ok (.bipush 6, 2) := by decide +kernel
theorem dX2_init_168 : decode cX2_init 168 = .ok (.ldc 62, 2) := by decide +kernel
theorem dX2_init_170 : decode cX2_init 170 = .ok (.iastore, 1) := by decide +kernel
theorem dX2_init_171 : decode cX2_init 171 = .ok (.dup, 1) := by decide +kernel
theorem dX2_init_172 : decode cX2_init 172 = .ok (.bipush 7, 2) := by decide +kernel
theorem dX2_init_174 : decode cX2_init 174 = .ok (.ldc 63, 2) := by decide +kernel
theorem dX2_init_176 : decode cX2_init 176 = .ok (.iastore, 1) := by decide +kernel
theorem dX2_init_177 : decode cX2_init 177 = .ok (.dup, 1) := by decide +kernel
theorem dX2_init_178 : decode cX2_init 178 = .ok (.bipush 8, 2) := by decide +kernel
theorem dX2_init_180 : decode cX2_init 180 = .ok (.ldc 64, 2) := by decide +kernel
theorem dX2_init_182 : decode cX2_init 182 = .ok (.iastore, 1) := by decide +kernel
theorem dX2_init_183 : decode cX2_init 183 = .ok (.dup, 1) := by decide +kernel
theorem dX2_init_184 : decode cX2_init 184 = .ok (.bipush 9, 2) := by decide +kernel
theorem dX2_init_186 : decode cX2_init 186 = .ok (.ldc 65, 2) := by decide +kernel
theorem dX2_init_188 : decode cX2_init 188 = .ok (.iastore, 1) := by decide +kernel
theorem dX2_init_189 : decode cX2_init 189 = .ok (.dup, 1) := by decide +kernel
theorem dX2_init_190 : decode cX2_init 190 = .ok (.bipush 10, 2) := by decide +kernel
theorem dX2_init_192 : decode cX2_init 192 = .ok (.ldc 66, 2) := by decide +kernel
theorem dX2_init_194 : decode cX2_init 194 = .ok (.iastore, 1) := by decide +kernel
theorem dX2_init_195 : decode cX2_init 195 = .ok (.dup, 1) := by decide +kernel
theorem dX2_init_196 : decode cX2_init 196 = .ok (.bipush 11, 2) := by decide +kernel
theorem dX2_init_198 : decode cX2_init 198 = .ok (.ldc 67, 2) := by decide +kernel
theorem dX2_init_200 : decode cX2_init 200 = .ok (.iastore, 1) := by decide +kernel
theorem dX2_init_201 : decode cX2_init 201 = .ok (.dup, 1) := by decide +kernel
theorem dX2_init_202 : decode cX2_init 202 = .ok (.bipush 12, 2) := by decide +kernel
theorem dX2_init_204 : decode cX2_init 204 = .ok (.ldc 68, 2) := by decide +kernel
theorem dX2_init_206 : decode cX2_init 206 = .ok (.iastore, 1) := by decide +kernel
theorem dX2_init_207 : decode cX2_init 207 = .ok (.dup, 1) := by decide +kernel
theorem dX2_init_208 : decode cX2_init 208 = .ok (.bipush 13, 2) := by decide +kernel
theorem dX2_init_210 : decode cX2_init 210 = .ok (.ldc 69, 2) := by decide +kernel
theorem dX2_init_212 : decode cX2_init 212 = .ok (.iastore, 1) := by decide +kernel
theorem dX2_init_213 : decode cX2_init 213 = .ok (.dup, 1) := by decide +kernel
theorem dX2_init_214 : decode cX2_init 214 = .ok (.bipush 14, 2) := by decide +kernel
theorem dX2_init_216 : decode cX2_init 216 = .ok (.ldc 70, 2) := by decide +kernel
theorem dX2_init_218 : decode cX2_init 218 = .ok (.iastore, 1) := by decide +kernel
theorem dX2_init_219 : decode cX2_init 219 = .ok (.dup, 1) := by decide +kernel
theorem dX2_init_220 : decode cX2_init 220 = .ok (.bipush 15, 2) := by decide +kernel
theorem dX2_init_222 : decode cX2_init 222 = .ok (.ldc 71, 2) := by decide +kernel
theorem dX2_init_224 : decode cX2_init 224 = .ok (.iastore, 1) := by decide +kernel
theorem dX2_init_225 : decode cX2_init 225 = .ok (.dup, 1) := by decide +kernel
theorem dX2_init_226 : decode cX2_init 226 = .ok (.bipush 16, 2) := by decide +kernel
theorem dX2_init_228 : decode cX2_init 228 = .ok (.ldc 72, 2) := by decide +kernel
theorem dX2_init_230 : decode cX2_init 230 = .ok (.iastore, 1) := by decide +kernel
theorem dX2_init_231 : decode cX2_init 231 = .ok (.dup, 1) := by decide +kernel
theorem dX2_init_232 : decode cX2_init 232 = .ok (.bipush 17, 2) := by decide +kernel
theorem dX2_init_234 : decode cX2_init 234 = .ok (.ldc 73, 2) := by decide +kernel
theorem dX2_init_236 : decode cX2_init 236 = .ok (.iastore, 1) := by decide +kernel
theorem dX2_init_237 : decode cX2_init 237 = .ok (.dup, 1) := by decide +kernel
theorem dX2_init_238 : decode cX2_init 238 = .ok (.bipush 18, 2) := by decide +kernel
theorem dX2_init_240 : decode cX2_init 240 = .ok (.ldc 74, 2) := by decide +kernel
theorem dX2_init_242 : decode cX2_init 242 = .ok (.iastore, 1) := by decide +kernel
theorem dX2_init_243 : decode cX2_init 243 = .ok (.dup, 1) := by decide +kernel
theorem dX2_init_244 : decode cX2_init 244 = .ok (.bipush 19, 2) := by decide +kernel
theorem dX2_init_246 : decode cX2_init 246 = .ok (.ldc 75, 2) := by decide +kernel
theorem dX2_init_248 : decode cX2_init 248 = .ok (.iastore, 1) := by decide +kernel
theorem dX2_init_249 : decode cX2_init 249 = .ok (.dup, 1) := by decide +kernel
theorem dX2_init_250 : decode cX2_init 250 = .ok (.bipush 20, 2) := by decide +kernel
theorem dX2_init_252 : decode cX2_init 252 = .ok (.ldc 76, 2) := by decide +kernel
theorem dX2_init_254 : decode cX2_init 254 = .ok (.iastore, 1) := by decide +kernel
theorem dX2_init_255 : decode cX2_init 255 = .ok (.dup, 1) := by decide +kernel
theorem dX2_init_256 : decode cX2_init 256 = .ok (.bipush 21, 2) := by decide +kernel
theorem dX2_init_258 : decode cX2_init 258 = .ok (.ldc 77, 2) := by decide +kernel
theorem dX2_init_260 : decode cX2_init 260 = .ok (.iastore, 1) := by decide +kernel
theorem dX2_init_261 : decode cX2_init 261 = .ok (.dup, 1) := by decide +kernel
theorem dX2_init_262 : decode cX2_init 262 = .ok (.bipush 22, 2) := by decide +kernel
theorem dX2_init_264 : decode cX2_init 264 = .ok (.ldc 78, 2) := by decide +kernel
theorem dX2_init_266 : decode cX2_init 266 = .ok (.iastore, 1) := by decide +kernel
theorem dX2_init_267 : decode cX2_init 267 = .ok (.dup, 1) := by decide +kernel
theorem dX2_init_268 : decode cX2_init 268 = .ok (.bipush 23, 2) := by decide +kernel
theorem dX2_init_270 : decode cX2_init 270 = .ok (.ldc 79, 2) := by decide +kernel
theorem dX2_init_272 : decode cX2_init 272 = .ok (.iastore, 1) := by decide +kernel
theorem dX2_init_273 : decode cX2_init 273 = .ok (.dup, 1) := by decide +kernel
theorem dX2_init_274 : decode cX2_init 274 = .ok (.bipush 24, 2) := by decide +kernel
theorem dX2_init_276 : decode cX2_init 276 = .ok (.ldc 80, 2) := by decide +kernel
theorem dX2_init_278 : decode cX2_init 278 = .ok (.iastore, 1) := by decide +kernel
theorem dX2_init_279 : decode cX2_init 279 = .ok (.dup, 1) := by decide +kernel
theorem dX2_init_280 : decode cX2_init 280 = .ok (.bipush 25, 2) := by decide +kernel
theorem dX2_init_282 : decode cX2_init 282 = .ok (.ldc 81, 2) := by decide +kernel
theorem dX2_init_284 : decode cX2_init 284 = .ok (.iastore, 1) := by decide +kernel
theorem dX2_init_285 : decode cX2_init 285 = .ok (.dup, 1) := by decide +kernel
theorem dX2_init_286 : decode cX2_init 286 = .ok (.bipush 26, 2) := by decide +kernel
theorem dX2_init_288 : decode cX2_init 288 = .ok (.ldc 82, 2) := by decide +kernel
theorem dX2_init_290 : decode cX2_init 290 = .ok (.iastore, 1) := by decide +kernel
theorem dX2_init_291 : decode cX2_init 291 = .ok (.dup, 1) := by decide +kernel
theorem dX2_init_292 : decode cX2_init 292 = .ok (.bipush 27, 2) := by decide +kernel
theorem dX2_init_294 : decode cX2_init 294 = .ok (.ldc 83, 2) := by decide +kernel
theorem dX2_init_296 : decode cX2_init 296 = .ok (.iastore, 1) := by decide +kernel
theorem dX2_init_297 : decode cX2_init 297 = .ok (.dup, 1) := by decide +kernel
theorem dX2_init_298 : decode cX2_init 298 = .ok (.bipush 28, 2) := by decide +kernel
theorem dX2_init_300 : decode cX2_init 300 = .ok (.ldc 84, 2) := by decide +kernel
theorem dX2_init_302 : decode cX2_init 302 = .ok (.iastore, 1) := by decide +kernel
theorem dX2_init_303 : decode cX2_init 303 = .ok (.dup, 1) := by decide +kernel
theorem dX2_init_304 : decode cX2_init 304 = .ok (.bipush 29, 2) := by decide +kernel
theorem dX2_init_306 : decode cX2_init 306 = .ok (.ldc 85, 2) := by decide +kernel
theorem dX2_init_308 : decode cX2_init 308 = .ok (.iastore, 1) := by decide +kernel
theorem dX2_init_309 : decode cX2_init 309 = .ok (.dup, 1) := by decide +kernel
theorem dX2_init_310 : decode cX2_init 310 = .ok (.bipush 30, 2) := by decide +kernel
theorem dX2_init_312 : decode cX2_init 312 = .ok (.ldc 86, 2) := by decide +kernel
theorem dX2_init_314 : decode cX2_init 314 = .ok (.iastore, 1) := by decide +kernel
theorem dX2_init_315 : decode cX2_init 315 = .ok (.dup, 1) := by decide +kernel
theorem dX2_init_316 : decode cX2_init 316 = .ok (.bipush 31, 2) := by decide +kernel
theorem dX2_init_318 : decode cX2_init 318 = .ok (.ldc 87, 2) := by decide +kernel
theorem dX2_init_320 : decode cX2_init 320 = .ok (.iastore, 1) := by decide +kernel
theorem dX2_init_321 : decode cX2_init 321 = .ok (.dup, 1) := by decide +kernel
theorem dX2_init_322 : decode cX2_init 322 = .ok (.bipush 32, 2) := by decide +kernel
theorem dX2_init_324 : decode cX2_init 324 = .ok (.ldc 88, 2) := by decide +kernel
theorem dX2_init_326 : decode cX2_init 326 = .ok (.iastore, 1) := by decide +kernel
theorem dX2_init_327 : decode cX2_init 327 = .ok (.dup, 1) := by decide +kernel
theorem dX2_init_328 : decode cX2_init 328 = .ok (.bipush 33, 2) := by decide +kernel
theorem dX2_init_330 : decode cX2_init 330 = .ok (.ldc 89, 2) := by decide +kernel
theorem dX2_init_332 : decode cX2_init 332 = .ok (.iastore, 1) := by decide +kernel
theorem dX2_init_333 : decode cX2_init 333 = .ok (.dup, 1) := by decide +kernel
theorem dX2_init_334 : decode cX2_init 334 = .ok (.bipush 34, 2) := by decide +kernel
theorem dX2_init_336 : decode cX2_init 336 = .ok (.ldc 90, 2) := by decide +kernel
theorem dX2_init_338 : decode cX2_init 338 = .ok (.iastore, 1) := by decide +kernel
theorem dX2_init_339 : decode cX2_init 339 = .ok (.dup, 1) := by decide +kernel
theorem dX2_init_340 : decode cX2_init 340 = .ok (.bipush 35, 2) := by decide +kernel
theorem dX2_init_342 : decode cX2_init 342 = .ok (.ldc 91, 2) := by decide +kernel
theorem dX2_init_344 : decode cX2_init 344 = .ok (.iastore, 1) := by decide +kernel
theorem dX2_init_345 : decode cX2_init 345 = .ok (.dup, 1) := by decide +kernel
theorem dX2_init_346 : decode cX2_init 346 = .ok (.bipush 36, 2) := by decide +kernel
theorem dX2_init_348 : decode cX2_init 348 = .ok (.ldc 92, 2) := by decide +kernel
theorem dX2_init_350 : decode cX2_init 350 = .ok (.iastore, 1) := by decide +kernel
theorem dX2_init_351 : decode cX2_init 351 = .ok (.dup, 1) := by decide +kernel
theorem dX2_init_352 : decode cX2_init 352 = .ok (.bipush 37, 2) := by decide +kernel
theorem dX2_init_354 : decode cX2_init 354 = .ok (.ldc 93, 2) := by decide +kernel
theorem dX2_init_356 : decode cX2_init 356 = .ok (.iastore, 1) := by decide +kernel
theorem dX2_init_357 : decode cX2_init 357 = .ok (.dup, 1) := by decide +kernel
theorem dX2_init_358 : decode cX2_init 358 = .ok (.bipush 38, 2) := by decide +kernel
theorem dX2_init_360 : decode cX2_init 360 = .ok (.ldc 94, 2) := by decide +kernel
theorem dX2_init_362 : decode cX2_init 362 = .ok (.iastore, 1) := by decide +kernel
theorem dX2_init_363 : decode cX2_init 363 = .ok (.dup, 1) := by decide +kernel
theorem dX2_init_364 : decode cX2_init 364 = .ok (.bipush 39, 2) := by decide +kernel
theorem dX2_init_366 : decode cX2_init 366 = .ok (.ldc 95, 2) := by decide +kernel
theorem dX2_init_368 : decode cX2_init 368 = .ok (.iastore, 1) := by decide +kernel
theorem dX2_init_369 : decode cX2_init 369 = .ok (.dup, 1) := by decide +kernel
theorem dX2_init_370 : decode cX2_init 370 = .ok (.bipush 40, 2) := by decide +kernel
theorem dX2_init_372 : decode cX2_init 372 = .ok (.ldc 96, 2) := by decide +kernel
theorem dX2_init_374 : decode cX2_init 374 = .ok (.iastore, 1) := by decide +kernel
theorem dX2_init_375 : decode cX2_init 375 = .ok (.dup, 1) := by decide +kernel
theorem dX2_init_376 : decode cX2_init 376 = .ok (.bipush 41, 2) := by decide +kernel
theorem dX2_init_378 : decode cX2_init 378 = .ok (.ldc 97, 2) := by decide +kernel
theorem dX2_init_380 : decode cX2_init 380 = .ok (.iastore, 1) := by decide +kernel
theorem dX2_init_381 : decode cX2_init 381 = .ok (.dup, 1) := by decide +kernel
theorem dX2_init_382 : decode cX2_init 382 = .ok (.bipush 42, 2) := by decide +kernel
theorem dX2_init_384 : decode cX2_init 384 = .ok (.ldc 98, 2) := by decide +kernel
theorem dX2_init_386 : decode cX2_init 386 = .ok (.iastore, 1) := by decide +kernel
theorem dX2_init_387 : decode cX2_init 387 = .ok (.dup, 1) := by decide +kernel
theorem dX2_init_388 : decode cX2_init 388 = .ok (.bipush 43, 2) := by decide +kernel
theorem dX2_init_390 : decode cX2_init 390 = .ok (.ldc 99, 2) := by decide +kernel
theorem dX2_init_392 : decode cX2_init 392 = .ok (.iastore, 1) := by decide +kernel
theorem dX2_init_393 : decode cX2_init 393 = .ok (.dup, 1) := by decide +kernel
theorem dX2_init_394 : decode cX2_init 394 = .ok (.bipush 44, 2) := by decide +kernel
theorem dX2_init_396 : decode cX2_init 396 = .ok (.ldc 100, 2) := by decide +kernel
theorem dX2_init_398 : decode cX2_init 398 = .ok (.iastore, 1) := by decide +kernel
theorem dX2_init_399 : decode cX2_init 399 = .ok (.dup, 1) := by decide +kernel
theorem dX2_init_400 : decode cX2_init 400 = .ok (.bipush 45, 2) := by decide +kernel
theorem dX2_init_402 : decode cX2_init 402 = .ok (.ldc 101, 2) := by decide +kernel
theorem dX2_init_404 : decode cX2_init 404 = .ok (.iastore, 1) := by decide +kernel
theorem dX2_init_405 : decode cX2_init 405 = .ok (.dup, 1) := by decide +kernel
theorem dX2_init_406 : decode cX2_init 406 = .ok (.bipush 46, 2) := by decide +kernel
theorem dX2_init_408 : decode cX2_init 408 = .ok (.ldc 102, 2) := by decide +kernel
theorem dX2_init_410 : decode cX2_init 410 = .ok (.iastore, 1) := by decide +kernel
theorem dX2_init_411 : decode cX2_init 411 = .ok (.dup, 1) := by decide +kernel
theorem dX2_init_412 : decode cX2_init 412 = .ok (.bipush 47, 2) := by decide +kernel
theorem dX2_init_414 : decode cX2_init 414 = .ok (.ldc 103, 2) := by decide +kernel
theorem dX2_init_416 : decode cX2_init 416 = .ok (.iastore, 1) := by decide +kernel
theorem dX2_init_417 : decode cX2_init 417 = .ok (.dup, 1) := by decide +kernel
theorem dX2_init_418 : decode cX2_init 418 = .ok (.bipush 48, 2) := by decide +kernel
theorem dX2_init_420 : decode cX2_init 420 = .ok (.ldc 104, 2) := by decide +kernel
theorem dX2_init_422 : decode cX2_init 422 = .ok (.iastore, 1) := by decide +kernel
theorem dX2_init_423 : decode cX2_init 423 = .ok (.dup, 1) := by decide +kernel
theorem dX2_init_424 : decode cX2_init 424 = .ok (.bipush 49, 2) := by decide +kernel
theorem dX2_init_426 : decode cX2_init 426 = .ok (.ldc 105, 2) := by decide +kernel
theorem dX2_init_428 : decode cX2_init 428 = .ok (.iastore, 1) := by decide +kernel
theorem dX2_init_429 : decode cX2_init 429 = .ok (.dup, 1) := by decide +kernel
theorem dX2_init_430 : decode cX2_init 430 = .ok (.bipush 50, 2) := by decide +kernel
theorem dX2_init_432 : decode cX2_init 432 = .ok (.ldc 106, 2) := by decide +kernel
theorem dX2_init_434 : decode cX2_init 434 = .ok (.iastore, 1) := by decide +kernel
theorem dX2_init_435 : decode cX2_init 435 = .ok (.dup, 1) := by decide +kernel
theorem dX2_init_436 : decode cX2_init 436 = .ok (.bipush 51, 2) := by decide +kernel
theorem dX2_init_438 : decode cX2_init 438 = .ok (.ldc 107, 2) := by decide +kernel
theorem dX2_init_440 : decode cX2_init 440 = .ok (.iastore, 1) := by decide +kernel
theorem dX2_init_441 : decode cX2_init 441 = .ok (.dup, 1) := by decide +kernel
theorem dX2_init_442 : decode cX2_init 442 = .ok (.bipush 52, 2) := by decide +kernel
theorem dX2_init_444 : decode cX2_init 444 = .ok (.ldc 108, 2) := by decide +kernel
theorem dX2_init_446 : decode cX2_init 446 = .ok (.iastore, 1) := by decide +kernel
theorem dX2_init_447 : decode cX2_init 447 = .ok (.dup, 1) := by decide +kernel
theorem dX2_init_448 : decode cX2_init 448 = .ok (.bipush 53, 2) := by decide +kernel
theorem dX2_init_450 : decode cX2_init 450 = .ok (.ldc 109, 2) := by decide +kernel
theorem dX2_init_452 : decode cX2_init 452 = .ok (.iastore, 1) := by decide +kernel
theorem dX2_init_453 : decode cX2_init 453 = .ok (.dup, 1) := by decide +kernel
theorem dX2_init_454 : decode cX2_init 454 = .ok (.bipush 54, 2) := by decide +kernel
theorem dX2_init_456 : decode cX2_init 456 = .ok (.ldc 110, 2) := by decide +kernel
theorem dX2_init_458 : decode cX2_init 458 = .ok (.iastore, 1) := by decide +kernel
theorem dX2_init_459 : decode cX2_init 459 = .ok (.dup, 1) := by decide +kernel
theorem dX2_init_460 : decode cX2_init 460 = .ok (.bipush 55, 2) := by decide +kernel
theorem dX2_init_462 : decode cX2_init 462 = .ok (.ldc 111, 2) := by decide +kernel
theorem dX2_init_464 : decode cX2_init 464 = .ok (.iastore, 1) := by decide +kernel
theorem dX2_init_465 : decode cX2_init 465 = .ok (.dup, 1) := by decide +kernel
theorem dX2_init_466 : decode cX2_init 466 = .ok (.bipush 56, 2) := by decide +kernel
theorem dX2_init_468 : decode cX2_init 468 = .ok (.ldc 112, 2) := by decide +kernel
theorem dX2_init_470 : decode cX2_init 470 = .ok (.iastore, 1) := by decide +kernel
theorem dX2_init_471 : decode cX2_init 471 = .ok (.dup, 1) := by decide +kernel
theorem dX2_init_472 : decode cX2_init 472 = .ok (.bipush 57, 2) := by decide +kernel
theorem dX2_init_474 : decode cX2_init 474 = .ok (.ldc 113, 2) := by decide +kernel
theorem dX2_init_476 : decode cX2_init 476 = .ok (.iastore, 1) := by decide +kernel
theorem dX2_init_477 : decode cX2_init 477 = .ok (.dup, 1) := by decide +kernel
theorem dX2_init_478 : decode cX2_init 478 = .ok (.bipush 58, 2) := by decide +kernel
theorem dX2_init_480 : decode cX2_init 480 = .ok (.ldc 114, 2) := by decide +kernel
theorem dX2_init_482 : decode cX2_init 482 = .ok (.iastore, 1) := by decide +kernel
theorem dX2_init_483 : decode cX2_init 483 = .ok (.dup, 1) := by decide +kernel
theorem dX2_init_484 : decode cX2_init 484 = .ok (.bipush 59, 2) := by decide +kernel
theorem dX2_init_486 : decode cX2_init 486 = .ok (.ldc 115, 2) := by decide +kernel
theorem dX2_init_488 : decode cX2_init 488 = .ok (.iastore, 1) := by decide +kernel
theorem dX2_init_489 : decode cX2_init 489 = .ok (.dup, 1) := by decide +kernel
theorem dX2_init_490 : decode cX2_init 490 = .ok (.bipush 60, 2) := by decide +kernel
theorem dX2_init_492 : decode cX2_init 492 = .ok (.ldc 116, 2) := by decide +kernel
theorem dX2_init_494 : decode cX2_init 494 = .ok (.iastore, 1) := by decide +kernel
theorem dX2_init_495 : decode cX2_init 495 = .ok (.dup, 1) := by decide +kernel
theorem dX2_init_496 : decode cX2_init 496 = .ok (.bipush 61, 2) := by decide +kernel
theorem dX2_init_498 : decode cX2_init 498 = .ok (.ldc 117, 2) := by decide +kernel
theorem dX2_init_500 : decode cX2_init 500 = .ok (.iastore, 1) := by decide +kernel
theorem dX2_init_501 : decode cX2_init 501 = .ok (.dup, 1) := by decide +kernel
theorem dX2_init_502 : decode cX2_init 502 = .ok (.bipush 62, 2) := by decide +kernel
theorem dX2_init_504 : decode cX2_init 504 = .ok (.ldc 118, 2) := by decide +kernel
theorem dX2_init_506 : decode cX2_init 506 = .ok (.iastore, 1) := by decide +kernel
theorem dX2_init_507 : decode cX2_init 507 = .ok (.dup, 1) := by decide +kernel
theorem dX2_init_508 : decode cX2_init 508 = .ok (.bipush 63, 2) := by decide +kernel
theorem dX2_init_510 : decode cX2_init 510 = .ok (.ldc 119, 2) := by decide +kernel
theorem dX2_init_512 : decode cX2_init 512 = .ok (.iastore, 1) := by decide +kernel
theorem dX2_init_513 : decode cX2_init 513 = .ok (.putfield 120, 3) := by decide +kernel
theorem dX2_init_516 : decode cX2_init 516 = .ok (.return_, 1) := by decide +kernel
theorem dX2_thrown_0 : decode cX2_thrown 0 = .ok (.aload_n 0, 1) := by decide +kernel
theorem dX2_thrown_1 : decode cX2_thrown 1 = .ok (.getfield 123, 3) := by decide +kernel
theorem dX2_thrown_4 : decode cX2_thrown 4 = .ok (.ireturn, 1) := by decide +kernel
theorem dX2_feed_0 : decode cX2_feed 0 = .ok (.aload_n 0, 1) := by decide +kernel
theorem dX2_feed_1 : decode cX2_feed 1 = .ok (.iload_n 3, 1) := by decide +kernel
theorem dX2_feed_2 : decode cX2_feed 2 = .ok (.iconst 1, 1) := by decide +kernel
theorem dX2_feed_3 : decode cX2_feed 3 = .ok (.bipush 8, 2) := by decide +kernel
theorem dX2_feed_5 : decode cX2_feed 5 = .ok (.invokestatic 130, 3) := by decide +kernel
theorem dX2_feed_8 : decode cX2_feed 8 = .ok (.aload_n 0, 1) := by decide +kernel
theorem dX2_feed_9 : decode cX2_feed 9 = .ok (.getfield 185, 3) := by decide +kernel
theorem dX2_feed_12 : decode cX2_feed 12 = .ok (.iload_n 3, 1) := by decide +kernel
theorem dX2_feed_13 : decode cX2_feed 13 = .ok (.iadd, 1) := by decide +kernel
theorem dX2_feed_14 : decode cX2_feed 14 = .ok (.sipush 200, 3) := by decide +kernel
theorem dX2_feed_17 : decode cX2_feed 17 = .ok (.if_icmp .gt 7, 3) := by decide +kernel
theorem dX2_feed_20 : decode cX2_feed 20 = .ok (.iconst 1, 1) := by decide +kernel
theorem dX2_feed_21 : decode cX2_feed 21 = .ok (.goto 4, 3) := by decide +kernel
theorem dX2_feed_24 : decode cX2_feed 24 = .ok (.iconst 0, 1) := by decide +kernel
theorem dX2_feed_25 : decode cX2_feed 25 = .ok (.iconst 1, 1) := by decide +kernel
theorem dX2_feed_26 : decode cX2_feed 26 = .ok (.invokevirtual 188, 3) := by decide +kernel
theorem dX2_feed_29 : decode cX2_feed 29 = .ok (.ifCond .ne 5, 3) := by decide +kernel
theorem dX2_feed_32 : decode cX2_feed 32 = .ok (.iconst 0, 1) := by decide +kernel
theorem dX2_feed_33 : decode cX2_feed 33 = .ok (.ireturn, 1) := by decide +kernel
theorem dX2_feed_34 : decode cX2_feed 34 = .ok (.iload_n 3, 1) := by decide +kernel
theorem dX2_feed_35 : decode cX2_feed 35 = .ok (.iconst 1, 1) := by decide +kernel
theorem dX2_feed_36 : decode cX2_feed 36 = .ok (.isub, 1) := by decide +kernel
theorem dX2_feed_37 : decode cX2_feed 37 = .ok (.istore 4, 2) := by decide +kernel
theorem dX2_feed_39 : decode cX2_feed 39 = .ok (.iload 4, 2) := by decide +kernel
theorem dX2_feed_41 : decode cX2_feed 41 = .ok (.ifCond .lt 40, 3) := by decide +kernel
theorem dX2_feed_44 : decode cX2_feed 44 = .ok (.aload_n 0, 1) := by decide +kernel
theorem dX2_feed_45 : decode cX2_feed 45 = .ok (.getfield 7, 3) := by decide +kernel
theorem dX2_feed_48 : decode cX2_feed 48 = .ok (.aload_n 0, 1) := by decide +kernel
theorem dX2_feed_49 : decode cX2_feed 49 = .ok (.getfield 185, 3) := by decide +kernel
theorem dX2_feed_52 : decode cX2_feed 52 = .ok (.lload_n 1, 1) := by decide +kernel
theorem dX2_feed_53 : decode cX2_feed 53 = .ok (.bipush 8, 2) := by decide +kernel
theorem dX2_feed_55 : decode cX2_feed 55 = .ok (.iload 4, 2) := by decide +kernel
theorem dX2_feed_57 : decode cX2_feed 57 = .ok (.imul, 1) := by decide +kernel
theorem dX2_feed_58 : decode cX2_feed 58 = .ok (.lushr, 1) := by decide +kernel
theorem dX2_feed_59 : decode cX2_feed 59 = .ok (.l2i, 1) := by decide +kernel
theorem dX2_feed_60 : decode cX2_feed 60 = .ok (.sipush 255, 3) := by decide +kernel
theorem dX2_feed_63 : decode cX2_feed 63 = .ok (.iand, 1) := by decide +kernel
theorem dX2_feed_64 : decode cX2_feed 64 = .ok (.iastore, 1) := by decide +kernel
theorem dX2_feed_65 : decode cX2_feed 65 = .ok (.aload_n 0, 1) := by decide +kernel
theorem dX2_feed_66 : decode cX2_feed 66 = .ok (.dup, 1) := by decide +kernel
theorem dX2_feed_67 : decode cX2_feed 67 = .ok (.getfield 185, 3) := by decide +kernel
theorem dX2_feed_70 : decode cX2_feed 70 = .ok (.iconst 1, 1) := by decide +kernel
theorem dX2_feed_71 : decode cX2_feed 71 = .ok (.iadd, 1) := by decide +kernel
theorem dX2_feed_72 : decode cX2_feed 72 = .ok (.putfield 185, 3) := by decide +kernel
theorem dX2_feed_75 : decode cX2_feed 75 = .ok (.iinc 4 (-1), 3) := by decide +kernel
theorem dX2_feed_78 : decode cX2_feed 78 = .ok (.goto (-39), 3) := by decide +kernel
theorem dX2_feed_81 : decode cX2_feed 81 = .ok (.aload_n 0, 1) := by decide +kernel
theorem dX2_feed_82 : decode cX2_feed 82 = .ok (.getfield 185, 3) := by decide +kernel
theorem dX2_feed_85 : decode cX2_feed 85 = .ok (.ireturn, 1) := by decide +kernel
theorem dX2_in_0 : decode cX2_in 0 = .ok (.iload_n 0, 1) := by decide +kernel
theorem dX2_in_1 : decode cX2_in 1 = .ok (.iload_n 1, 1) := by decide +kernel
theorem dX2_in_2 : decode cX2_in 2 = .ok (.if_icmp .lt 12, 3) := by decide +kernel
theorem dX2_in_5 : decode cX2_in 5 = .ok (.iload_n 0, 1) := by decide +kernel
theorem dX2_in_6 : decode cX2_in 6 = .ok (.iload_n 2, 1) := by decide +kernel
theorem dX2_in_7 : decode cX2_in 7 = .ok (.if_icmp .gt 7, 3) := by decide +kernel
theorem dX2_in_10 : decode cX2_in 10 = .ok (.iconst 1, 1) := by decide +kernel
theorem dX2_in_11 : decode cX2_in 11 = .ok (.goto 4, 3) := by decide +kernel
theorem dX2_in_14 : decode cX2_in 14 = .ok (.iconst 0, 1) := by decide +kernel
theorem dX2_in_15 : decode cX2_in 15 = .ok (.ireturn, 1) := by decide +kernel
theorem dX2_goes_0 : decode cX2_goes 0 = .ok (.aload_n 0, 1) := by decide +kernel
theorem dX2_goes_1 : decode cX2_goes 1 = .ok (.iload_n 1, 1) := by decide +kernel
theorem dX2_goes_2 : decode cX2_goes 2 = .ok (.ifCond .ne 7, 3) := by decide +kernel
theorem dX2_goes_5 : decode cX2_goes 5 = .ok (.iconst 1, 1) := by decide +kernel
theorem dX2_goes_6 : decode cX2_goes 6 = .ok (.goto 20, 3) := by decide +kernel
theorem dX2_goes_9 : decode cX2_goes 9 = .ok (.iload_n 2, 1) := by decide +kernel
theorem dX2_goes_10 : decode cX2_goes 10 = .ok (.ifCond .ne 7, 3) := by decide +kernel
theorem dX2_goes_13 : decode cX2_goes 13 = .ok (.iconst 2, 1) := by decide +kernel
theorem dX2_goes_14 : decode cX2_goes 14 = .ok (.goto 12, 3) := by decide +kernel
theorem dX2_goes_17 : decode cX2_goes 17 = .ok (.iload_n 3, 1) := by decide +kernel
theorem dX2_goes_18 : decode cX2_goes 18 = .ok (.ifCond .ne 7, 3) := by decide +kernel
theorem dX2_goes_21 : decode cX2_goes 21 = .ok (.iconst 3, 1) := by decide +kernel
theorem dX2_goes_22 : decode cX2_goes 22 = .ok (.goto 4, 3) := by decide +kernel
theorem dX2_goes_25 : decode cX2_goes 25 = .ok (.iconst 0, 1) := by decide +kernel
theorem dX2_goes_26 : decode cX2_goes 26 = .ok (.putfield 123, 3) := by decide +kernel
theorem dX2_goes_29 : decode cX2_goes 29 = .ok (.aload_n 0, 1) := by decide +kernel
theorem dX2_goes_30 : decode cX2_goes 30 = .ok (.getfield 123, 3) := by decide +kernel
theorem dX2_goes_33 : decode cX2_goes 33 = .ok (.ifCond .ne 7, 3) := by decide +kernel
theorem dX2_goes_36 : decode cX2_goes 36 = .ok (.iconst 1, 1) := by decide +kernel
theorem dX2_goes_37 : decode cX2_goes 37 = .ok (.goto 4, 3) := by decide +kernel
theorem dX2_goes_40 : decode cX2_goes 40 = .ok (.iconst 0, 1) := by decide +kernel
theorem dX2_goes_41 : decode cX2_goes 41 = .ok (.ireturn, 1) := by decide +kernel
theorem dX2_leaf_0 : decode cX2_leaf 0 = .ok (.aload_n 0, 1) := by decide +kernel
theorem dX2_leaf_1 : decode cX2_leaf 1 = .ok (.aload_n 0, 1) := by decide +kernel
theorem dX2_leaf_2 : decode cX2_leaf 2 = .ok (.getfield 127, 3) := by decide +kernel
theorem dX2_leaf_5 : decode cX2_leaf 5 = .ok (.bipush 24, 2) := by decide +kernel
theorem dX2_leaf_7 : decode cX2_leaf 7 = .ok (.if_icmp .ge 7, 3) := by decide +kernel
theorem dX2_leaf_10 : decode cX2_leaf 10 = .ok (.iconst 1, 1) := by decide +kernel
theorem dX2_leaf_11 : decode cX2_leaf 11 = .ok (.goto 4, 3) := by decide +kernel
theorem dX2_leaf_14 : decode cX2_leaf 14 = .ok (.iconst 0, 1) := by decide +kernel
theorem dX2_leaf_15 : decode cX2_leaf 15 = .ok (.iconst 1, 1) := by decide +kernel
theorem dX2_leaf_16 : decode cX2_leaf 16 = .ok (.iconst 1, 1) := by decide +kernel
theorem dX2_leaf_17 : decode cX2_leaf 17 = .ok (.invokevirtual 188, 3) := by decide +kernel
theorem dX2_leaf_20 : decode cX2_leaf 20 = .ok (.ifCond .ne 5, 3) := by decide +kernel
theorem dX2_leaf_23 : decode cX2_leaf 23 = .ok (.iconst 0, 1) := by decide +kernel
theorem dX2_leaf_24 : decode cX2_leaf 24 = .ok (.ireturn, 1) := by decide +kernel
theorem dX2_leaf_25 : decode cX2_leaf 25 = .ok (.aload_n 0, 1) := by decide +kernel
theorem dX2_leaf_26 : decode cX2_leaf 26 = .ok (.invokevirtual 165, 3) := by decide +kernel
theorem dX2_leaf_29 : decode cX2_leaf 29 = .ok (.aload_n 0, 1) := by decide +kernel
theorem dX2_leaf_30 : decode cX2_leaf 30 = .ok (.iconst 0, 1) := by decide +kernel
theorem dX2_leaf_31 : decode cX2_leaf 31 = .ok (.invokevirtual 140, 3) := by decide +kernel
theorem dX2_leaf_34 : decode cX2_leaf 34 = .ok (.iconst 0, 1) := by decide +kernel
theorem dX2_leaf_35 : decode cX2_leaf 35 = .ok (.istore_n 1, 1) := by decide +kernel
theorem dX2_leaf_36 : decode cX2_leaf 36 = .ok (.iload_n 1, 1) := by decide +kernel
theorem dX2_leaf_37 : decode cX2_leaf 37 = .ok (.aload_n 0, 1) := by decide +kernel
theorem dX2_leaf_38 : decode cX2_leaf 38 = .ok (.getfield 185, 3) := by decide +kernel
theorem dX2_leaf_41 : decode cX2_leaf 41 = .ok (.if_icmp .ge 19, 3) := by decide +kernel
theorem dX2_leaf_44 : decode cX2_leaf 44 = .ok (.aload_n 0, 1) := by decide +kernel
theorem dX2_leaf_45 : decode cX2_leaf 45 = .ok (.aload_n 0, 1) := by decide +kernel
theorem dX2_leaf_46 : decode cX2_leaf 46 = .ok (.getfield 7, 3) := by decide +kernel
theorem dX2_leaf_49 : decode cX2_leaf 49 = .ok (.iload_n 1, 1) := by decide +kernel
theorem dX2_leaf_50 : decode cX2_leaf 50 = .ok (.iaload, 1) := by decide +kernel
theorem dX2_leaf_51 : decode cX2_leaf 51 = .ok (.invokevirtual 140, 3) := by decide +kernel
theorem dX2_leaf_54 : decode cX2_leaf 54 = .ok (.iinc 1 1, 3) := by decide +kernel
theorem dX2_leaf_57 : decode cX2_leaf 57 = .ok (.goto (-21), 3) := by decide +kernel
theorem dX2_leaf_60 : decode cX2_leaf 60 = .ok (.aload_n 0, 1) := by decide +kernel
theorem dX2_leaf_61 : decode cX2_leaf 61 = .ok (.invokevirtual 172, 3) := by decide +kernel
theorem dX2_leaf_64 : decode cX2_leaf 64 = .ok (.aload_n 0, 1) := by decide +kernel
theorem dX2_leaf_65 : decode cX2_leaf 65 = .ok (.iconst 0, 1) := by decide +kernel
theorem dX2_leaf_66 : decode cX2_leaf 66 = .ok (.putfield 185, 3) := by decide +kernel
theorem dX2_leaf_69 : decode cX2_leaf 69 = .ok (.iconst 0, 1) := by decide +kernel
theorem dX2_leaf_70 : decode cX2_leaf 70 = .ok (.istore_n 1, 1) := by decide +kernel
theorem dX2_leaf_71 : decode cX2_leaf 71 = .ok (.iload_n 1, 1) := by decide +kernel
theorem dX2_leaf_72 : decode cX2_leaf 72 = .ok (.bipush 32, 2) := by decide +kernel
theorem dX2_leaf_74 : decode cX2_leaf 74 = .ok (.if_icmp .ge 29, 3) := by decide +kernel
theorem dX2_leaf_77 : decode cX2_leaf 77 = .ok (.aload_n 0, 1) := by decide +kernel
theorem dX2_leaf_78 : decode cX2_leaf 78 = .ok (.getfield 13, 3) := by decide +kernel
theorem dX2_leaf_81 : decode cX2_leaf 81 = .ok (.bipush 32, 2) := by decide +kernel
theorem dX2_leaf_83 : decode cX2_leaf 83 = .ok (.aload_n 0, 1) := by decide +kernel
theorem dX2_leaf_84 : decode cX2_leaf 84 = .ok (.getfield 127, 3) := by decide +kernel
theorem dX2_leaf_87 : decode cX2_leaf 87 = .ok (.imul, 1) := by decide +kernel
theorem dX2_leaf_88 : decode cX2_leaf 88 = .ok (.iload_n 1, 1) := by decide +kernel
theorem dX2_leaf_89 : decode cX2_leaf 89 = .ok (.iadd, 1) := by decide +kernel
theorem dX2_leaf_90 : decode cX2_leaf 90 = .ok (.aload_n 0, 1) := by decide +kernel
theorem dX2_leaf_91 : decode cX2_leaf 91 = .ok (.getfield 32, 3) := by decide +kernel
theorem dX2_leaf_94 : decode cX2_leaf 94 = .ok (.iload_n 1, 1) := by decide +kernel
theorem dX2_leaf_95 : decode cX2_leaf 95 = .ok (.iaload, 1) := by decide +kernel
theorem dX2_leaf_96 : decode cX2_leaf 96 = .ok (.iastore, 1) := by decide +kernel
theorem dX2_leaf_97 : decode cX2_leaf 97 = .ok (.iinc 1 1, 3) := by decide +kernel
theorem dX2_leaf_100 : decode cX2_leaf 100 = .ok (.goto (-29), 3) := by decide +kernel
theorem dX2_leaf_103 : decode cX2_leaf 103 = .ok (.aload_n 0, 1) := by decide +kernel
theorem dX2_leaf_104 : decode cX2_leaf 104 = .ok (.dup, 1) := by decide +kernel
theorem dX2_leaf_105 : decode cX2_leaf 105 = .ok (.getfield 127, 3) := by decide +kernel
theorem dX2_leaf_108 : decode cX2_leaf 108 = .ok (.iconst 1, 1) := by decide +kernel
theorem dX2_leaf_109 : decode cX2_leaf 109 = .ok (.iadd, 1) := by decide +kernel
theorem dX2_leaf_110 : decode cX2_leaf 110 = .ok (.putfield 127, 3) := by decide +kernel
theorem dX2_leaf_113 : decode cX2_leaf 113 = .ok (.aload_n 0, 1) := by decide +kernel
theorem dX2_leaf_114 : decode cX2_leaf 114 = .ok (.getfield 127, 3) := by decide +kernel
theorem dX2_leaf_117 : decode cX2_leaf 117 = .ok (.iconst 1, 1) := by decide +kernel
theorem dX2_leaf_118 : decode cX2_leaf 118 = .ok (.isub, 1) := by decide +kernel
theorem dX2_leaf_119 : decode cX2_leaf 119 = .ok (.ireturn, 1) := by decide +kernel
theorem dX2_begin_0 : decode cX2_begin 0 = .ok (.aload_n 0, 1) := by decide +kernel
theorem dX2_begin_1 : decode cX2_begin 1 = .ok (.iconst 0, 1) := by decide +kernel
theorem dX2_begin_2 : decode cX2_begin 2 = .ok (.putfield 137, 3) := by decide +kernel
theorem dX2_begin_5 : decode cX2_begin 5 = .ok (.return_, 1) := by decide +kernel
theorem dX2_add_0 : decode cX2_add 0 = .ok (.aload_n 0, 1) := by decide +kernel
theorem dX2_add_1 : decode cX2_add 1 = .ok (.getfield 29, 3) := by decide +kernel
theorem dX2_add_4 : decode cX2_add 4 = .ok (.aload_n 0, 1) := by decide +kernel
theorem dX2_add_5 : decode cX2_add 5 = .ok (.getfield 137, 3) := by decide +kernel
theorem dX2_add_8 : decode cX2_add 8 = .ok (.iload_n 1, 1) := by decide +kernel
theorem dX2_add_9 : decode cX2_add 9 = .ok (.iastore, 1) := by decide +kernel
theorem dX2_add_10 : decode cX2_add 10 = .ok (.aload_n 0, 1) := by decide +kernel
theorem dX2_add_11 : decode cX2_add 11 = .ok (.dup, 1) := by decide +kernel
theorem dX2_add_12 : decode cX2_add 12 = .ok (.getfield 137, 3) := by decide +kernel
theorem dX2_add_15 : decode cX2_add 15 = .ok (.iconst 1, 1) := by decide +kernel
theorem dX2_add_16 : decode cX2_add 16 = .ok (.iadd, 1) := by decide +kernel
theorem dX2_add_17 : decode cX2_add 17 = .ok (.putfield 137, 3) := by decide +kernel
theorem dX2_add_20 : decode cX2_add 20 = .ok (.return_, 1) := by decide +kernel
theorem dX2_digest0_0 : decode cX2_digest0 0 = .ok (.aload_n 0, 1) := by decide +kernel
theorem dX2_digest0_1 : decode cX2_digest0 1 = .ok (.getfield 38, 3) := by decide +kernel
theorem dX2_digest0_4 : decode cX2_digest0 4 = .ok (.iconst 0, 1) := by decide +kernel
theorem dX2_digest0_5 : decode cX2_digest0 5 = .ok (.ldc 148, 2) := by decide +kernel
theorem dX2_digest0_7 : decode cX2_digest0 7 = .ok (.iastore, 1) := by decide +kernel
theorem dX2_digest0_8 : decode cX2_digest0 8 = .ok (.aload_n 0, 1) := by decide +kernel
theorem dX2_digest0_9 : decode cX2_digest0 9 = .ok (.getfield 38, 3) := by decide +kernel
theorem dX2_digest0_12 : decode cX2_digest0 12 = .ok (.iconst 1, 1) := by decide +kernel
theorem dX2_digest0_13 : decode cX2_digest0 13 = .ok (.ldc 149, 2) := by decide +kernel
theorem dX2_digest0_15 : decode cX2_digest0 15 = .ok (.iastore, 1) := by decide +kernel
theorem dX2_digest0_16 : decode cX2_digest0 16 = .ok (.aload_n 0, 1) := by decide +kernel
theorem dX2_digest0_17 : decode cX2_digest0 17 = .ok (.getfield 38, 3) := by decide +kernel
theorem dX2_digest0_20 : decode cX2_digest0 20 = .ok (.iconst 2, 1) := by decide +kernel
theorem dX2_digest0_21 : decode cX2_digest0 21 = .ok (.ldc 150, 2) := by decide +kernel
theorem dX2_digest0_23 : decode cX2_digest0 23 = .ok (.iastore, 1) := by decide +kernel
theorem dX2_digest0_24 : decode cX2_digest0 24 = .ok (.aload_n 0, 1) := by decide +kernel
theorem dX2_digest0_25 : decode cX2_digest0 25 = .ok (.getfield 38, 3) := by decide +kernel
theorem dX2_digest0_28 : decode cX2_digest0 28 = .ok (.iconst 3, 1) := by decide +kernel
theorem dX2_digest0_29 : decode cX2_digest0 29 = .ok (.ldc 151, 2) := by decide +kernel
theorem dX2_digest0_31 : decode cX2_digest0 31 = .ok (.iastore, 1) := by decide +kernel
theorem dX2_digest0_32 : decode cX2_digest0 32 = .ok (.aload_n 0, 1) := by decide +kernel
theorem dX2_digest0_33 : decode cX2_digest0 33 = .ok (.getfield 38, 3) := by decide +kernel
theorem dX2_digest0_36 : decode cX2_digest0 36 = .ok (.iconst 4, 1) := by decide +kernel
theorem dX2_digest0_37 : decode cX2_digest0 37 = .ok (.ldc 152, 2) := by decide +kernel
theorem dX2_digest0_39 : decode cX2_digest0 39 = .ok (.iastore, 1) := by decide +kernel
theorem dX2_digest0_40 : decode cX2_digest0 40 = .ok (.aload_n 0, 1) := by decide +kernel
theorem dX2_digest0_41 : decode cX2_digest0 41 = .ok (.getfield 38, 3) := by decide +kernel
theorem dX2_digest0_44 : decode cX2_digest0 44 = .ok (.iconst 5, 1) := by decide +kernel
theorem dX2_digest0_45 : decode cX2_digest0 45 = .ok (.ldc 153, 2) := by decide +kernel
theorem dX2_digest0_47 : decode cX2_digest0 47 = .ok (.iastore, 1) := by decide +kernel
theorem dX2_digest0_48 : decode cX2_digest0 48 = .ok (.aload_n 0, 1) := by decide +kernel
theorem dX2_digest0_49 : decode cX2_digest0 49 = .ok (.getfield 38, 3) := by decide +kernel
theorem dX2_digest0_52 : decode cX2_digest0 52 = .ok (.bipush 6, 2) := by decide +kernel
theorem dX2_digest0_54 : decode cX2_digest0 54 = .ok (.ldc 154, 2) := by decide +kernel
theorem dX2_digest0_56 : decode cX2_digest0 56 = .ok (.iastore, 1) := by decide +kernel
theorem dX2_digest0_57 : decode cX2_digest0 57 = .ok (.aload_n 0, 1) := by decide +kernel
theorem dX2_digest0_58 : decode cX2_digest0 58 = .ok (.getfield 38, 3) := by decide +kernel
theorem dX2_digest0_61 : decode cX2_digest0 61 = .ok (.bipush 7, 2) := by decide +kernel
theorem dX2_digest0_63 : decode cX2_digest0 63 = .ok (.ldc 155, 2) := by decide +kernel
theorem dX2_digest0_65 : decode cX2_digest0 65 = .ok (.iastore, 1) := by decide +kernel
theorem dX2_digest0_66 : decode cX2_digest0 66 = .ok (.aload_n 0, 1) := by decide +kernel
theorem dX2_digest0_67 : decode cX2_digest0 67 = .ok (.getfield 137, 3) := by decide +kernel
theorem dX2_digest0_70 : decode cX2_digest0 70 = .ok (.istore_n 1, 1) := by decide +kernel
theorem dX2_digest0_71 : decode cX2_digest0 71 = .ok (.aload_n 0, 1) := by decide +kernel
theorem dX2_digest0_72 : decode cX2_digest0 72 = .ok (.sipush 128, 3) := by decide +kernel
theorem dX2_digest0_75 : decode cX2_digest0 75 = .ok (.invokevirtual 140, 3) := by decide +kernel
theorem dX2_digest0_78 : decode cX2_digest0 78 = .ok (.aload_n 0, 1) := by decide +kernel
theorem dX2_digest0_79 : decode cX2_digest0 79 = .ok (.getfield 137, 3) := by decide +kernel
theorem dX2_digest0_82 : decode cX2_digest0 82 = .ok (.bipush 64, 2) := by decide +kernel
theorem dX2_digest0_84 : decode cX2_digest0 84 = .ok (.irem, 1) := by decide +kernel
theorem dX2_digest0_85 : decode cX2_digest0 85 = .ok (.bipush 56, 2) := by decide +kernel
theorem dX2_digest0_87 : decode cX2_digest0 87 = .ok (.if_icmp .eq 11, 3) := by decide +kernel
theorem dX2_digest0_90 : decode cX2_digest0 90 = .ok (.aload_n 0, 1) := by decide +kernel
theorem dX2_digest0_91 : decode cX2_digest0 91 = .ok (.iconst 0, 1) := by decide +kernel
theorem dX2_digest0_92 : decode cX2_digest0 92 = .ok (.invokevirtual 140, 3) := by decide +kernel
theorem dX2_digest0_95 : decode cX2_digest0 95 = .ok (.goto (-17), 3) := by decide +kernel
theorem dX2_digest0_98 : decode cX2_digest0 98 = .ok (.aload_n 0, 1) := by decide +kernel
theorem dX2_digest0_99 : decode cX2_digest0 99 = .ok (.ldc2_w 156, 3) := by decide +kernel
theorem dX2_digest0_102 : decode cX2_digest0 102 = .ok (.iload_n 1, 1) := by decide +kernel
theorem dX2_digest0_103 : decode cX2_digest0 103 = .ok (.i2l, 1) := by decide +kernel
theorem dX2_digest0_104 : decode cX2_digest0 104 = .ok (.lmul, 1) := by decide +kernel
theorem dX2_digest0_105 : decode cX2_digest0 105 = .ok (.invokevirtual 158, 3) := by decide +kernel
theorem dX2_digest0_108 : decode cX2_digest0 108 = .ok (.iconst 0, 1) := by decide +kernel
theorem dX2_digest0_109 : decode cX2_digest0 109 = .ok (.istore_n 2, 1) := by decide +kernel
theorem dX2_digest0_110 : decode cX2_digest0 110 = .ok (.iload_n 2, 1) := by decide +kernel
theorem dX2_digest0_111 : decode cX2_digest0 111 = .ok (.aload_n 0, 1) := by decide +kernel
theorem dX2_digest0_112 : decode cX2_digest0 112 = .ok (.getfield 137, 3) := by decide +kernel
theorem dX2_digest0_115 : decode cX2_digest0 115 = .ok (.if_icmp .ge 14, 3) := by decide +kernel
theorem dX2_digest0_118 : decode cX2_digest0 118 = .ok (.aload_n 0, 1) := by decide +kernel
theorem dX2_digest0_119 : decode cX2_digest0 119 = .ok (.iload_n 2, 1) := by decide +kernel
theorem dX2_digest0_120 : decode cX2_digest0 120 = .ok (.invokevirtual 162, 3) := by decide +kernel
theorem dX2_digest0_123 : decode cX2_digest0 123 = .ok (.iinc 2 64, 3) := by decide +kernel
theorem dX2_digest0_126 : decode cX2_digest0 126 = .ok (.goto (-16), 3) := by decide +kernel
theorem dX2_digest0_129 : decode cX2_digest0 129 = .ok (.iconst 0, 1) := by decide +kernel
theorem dX2_digest0_130 : decode cX2_digest0 130 = .ok (.istore_n 2, 1) := by decide +kernel
theorem dX2_digest0_131 : decode cX2_digest0 131 = .ok (.iload_n 2, 1) := by decide +kernel
theorem dX2_digest0_132 : decode cX2_digest0 132 = .ok (.bipush 32, 2) := by decide +kernel
theorem dX2_digest0_134 : decode cX2_digest0 134 = .ok (.if_icmp .ge 37, 3) := by decide +kernel
theorem dX2_digest0_137 : decode cX2_digest0 137 = .ok (.aload_n 0, 1) := by decide +kernel
theorem dX2_digest0_138 : decode cX2_digest0 138 = .ok (.getfield 32, 3) := by decide +kernel
theorem dX2_digest0_141 : decode cX2_digest0 141 = .ok (.iload_n 2, 1) := by decide +kernel
theorem dX2_digest0_142 : decode cX2_digest0 142 = .ok (.aload_n 0, 1) := by decide +kernel
theorem dX2_digest0_143 : decode cX2_digest0 143 = .ok (.getfield 38, 3) := by decide +kernel
theorem dX2_digest0_146 : decode cX2_digest0 146 = .ok (.iload_n 2, 1) := by decide +kernel
theorem dX2_digest0_147 : decode cX2_digest0 147 = .ok (.iconst 4, 1) := by decide +kernel
theorem dX2_digest0_148 : decode cX2_digest0 148 = .ok (.idiv, 1) := by decide +kernel
theorem dX2_digest0_149 : decode cX2_digest0 149 = .ok (.iaload, 1) := by decide +kernel
theorem dX2_digest0_150 : decode cX2_digest0 150 = .ok (.bipush 24, 2) := by decide +kernel
theorem dX2_digest0_152 : decode cX2_digest0 152 = .ok (.bipush 8, 2) := by decide +kernel
theorem dX2_digest0_154 : decode cX2_digest0 154 = .ok (.iload_n 2, 1) := by decide +kernel
theorem dX2_digest0_155 : decode cX2_digest0 155 = .ok (.iconst 4, 1) := by decide +kernel
theorem dX2_digest0_156 : decode cX2_digest0 156 = .ok (.irem, 1) := by decide +kernel
theorem dX2_digest0_157 : decode cX2_digest0 157 = .ok (.imul, 1) := by decide +kernel
theorem dX2_digest0_158 : decode cX2_digest0 158 = .ok (.isub, 1) := by decide +kernel
theorem dX2_digest0_159 : decode cX2_digest0 159 = .ok (.iushr, 1) := by decide +kernel
theorem dX2_digest0_160 : decode cX2_digest0 160 = .ok (.sipush 255, 3) := by decide +kernel
theorem dX2_digest0_163 : decode cX2_digest0 163 = .ok (.iand, 1) := by decide +kernel
theorem dX2_digest0_164 : decode cX2_digest0 164 = .ok (.iastore, 1) := by decide +kernel
theorem dX2_digest0_165 : decode cX2_digest0 165 = .ok (.iinc 2 1, 3) := by decide +kernel
theorem dX2_digest0_168 : decode cX2_digest0 168 = .ok (.goto (-37), 3) := by decide +kernel
theorem dX2_digest0_171 : decode cX2_digest0 171 = .ok (.return_, 1) := by decide +kernel
theorem dX2_addLong_0 : decode cX2_addLong 0 = .ok (.bipush 56, 2) := by decide +kernel
theorem dX2_addLong_2 : decode cX2_addLong 2 = .ok (.istore_n 3, 1) := by decide +kernel
theorem dX2_addLong_3 : decode cX2_addLong 3 = .ok (.iload_n 3, 1) := by decide +kernel
theorem dX2_addLong_4 : decode cX2_addLong 4 = .ok (.ifCond .lt 21, 3) := by decide +kernel
theorem dX2_addLong_7 : decode cX2_addLong 7 = .ok (.aload_n 0, 1) := by decide +kernel
theorem dX2_addLong_8 : decode cX2_addLong 8 = .ok (.lload_n 1, 1) := by decide +kernel
theorem dX2_addLong_9 : decode cX2_addLong 9 = .ok (.iload_n 3, 1) := by decide +kernel
theorem dX2_addLong_10 : decode cX2_addLong 10 = .ok (.lushr, 1) := by decide +kernel
theorem dX2_addLong_11 : decode cX2_addLong 11 = .ok (.l2i, 1) := by decide +kernel
theorem dX2_addLong_12 : decode cX2_addLong 12 = .ok (.sipush 255, 3) := by decide +kernel
theorem dX2_addLong_15 : decode cX2_addLong 15 = .ok (.iand, 1) := by decide +kernel
theorem dX2_addLong_16 : decode cX2_addLong 16 = .ok (.invokevirtual 140, 3) := by decide +kernel
theorem dX2_addLong_19 : decode cX2_addLong 19 = .ok (.iinc 3 (-8), 3) := by decide +kernel
theorem dX2_addLong_22 : decode cX2_addLong 22 = .ok (.goto (-19), 3) := by decide +kernel
theorem dX2_addLong_25 : decode cX2_addLong 25 = .ok (.return_, 1) := by decide +kernel
theorem dX2_block_0 : decode cX2_block 0 = .ok (.iconst 0, 1) := by decide +kernel
theorem dX2_block_1 : decode cX2_block 1 = .ok (.istore_n 2, 1) := by decide +kernel
theorem dX2_block_2 : decode cX2_block 2 = .ok (.iload_n 2, 1) := by decide +kernel
theorem dX2_block_3 : decode cX2_block 3 = .ok (.bipush 16, 2) := by decide +kernel
theorem dX2_block_5 : decode cX2_block 5 = .ok (.if_icmp .ge 73, 3) := by decide +kernel
theorem dX2_block_8 : decode cX2_block 8 = .ok (.aload_n 0, 1) := by decide +kernel
theorem dX2_block_9 : decode cX2_block 9 = .ok (.getfield 35, 3) := by decide +kernel
theorem dX2_block_12 : decode cX2_block 12 = .ok (.iload_n 2, 1) := by decide +kernel
theorem dX2_block_13 : decode cX2_block 13 = .ok (.aload_n 0, 1) := by decide +kernel
theorem dX2_block_14 : decode cX2_block 14 = .ok (.getfield 29, 3) := by decide +kernel
theorem dX2_block_17 : decode cX2_block 17 = .ok (.iload_n 1, 1) := by decide +kernel
theorem dX2_block_18 : decode cX2_block 18 = .ok (.iconst 4, 1) := by decide +kernel
theorem dX2_block_19 : decode cX2_block 19 = .ok (.iload_n 2, 1) := by decide +kernel
theorem dX2_block_20 : decode cX2_block 20 = .ok (.imul, 1) := by decide +kernel
theorem dX2_block_21 : decode cX2_block 21 = .ok (.iadd, 1) := by decide +kernel
theorem dX2_block_22 : decode cX2_block 22 = .ok (.iaload, 1) := by decide +kernel
theorem dX2_block_23 : decode cX2_block 23 = .ok (.bipush 24, 2) := by decide +kernel
theorem dX2_block_25 : decode cX2_block 25 = .ok (.ishl, 1) := by decide +kernel
theorem dX2_block_26 : decode cX2_block 26 = .ok (.aload_n 0, 1) := by decide +kernel
theorem dX2_block_27 : decode cX2_block 27 = .ok (.getfield 29, 3) := by decide +kernel
theorem dX2_block_30 : decode cX2_block 30 = .ok (.iload_n 1, 1) := by decide +kernel
theorem dX2_block_31 : decode cX2_block 31 = .ok (.iconst 4, 1) := by decide +kernel
theorem dX2_block_32 : decode cX2_block 32 = .ok (.iload_n 2, 1) := by decide +kernel
theorem dX2_block_33 : decode cX2_block 33 = .ok (.imul, 1) := by decide +kernel
theorem dX2_block_34 : decode cX2_block 34 = .ok (.iadd, 1) := by decide +kernel
theorem dX2_block_35 : decode cX2_block 35 = .ok (.iconst 1, 1) := by decide +kernel
theorem dX2_block_36 : decode cX2_block 36 = .ok (.iadd, 1) := by decide +kernel
theorem dX2_block_37 : decode cX2_block 37 = .ok (.iaload, 1) := by decide +kernel
theorem dX2_block_38 : decode cX2_block 38 = .ok (.bipush 16, 2) := by decide +kernel
theorem dX2_block_40 : decode cX2_block 40 = .ok (.ishl, 1) := by decide +kernel
theorem dX2_block_41 : decode cX2_block 41 = .ok (.ior, 1) := by decide +kernel
theorem dX2_block_42 : decode cX2_block 42 = .ok (.aload_n 0, 1) := by decide +kernel
theorem dX2_block_43 : decode cX2_block 43 = .ok (.getfield 29, 3) := by decide +kernel
theorem dX2_block_46 : decode cX2_block 46 = .ok (.iload_n 1, 1) := by decide +kernel
theorem dX2_block_47 : decode cX2_block 47 = .ok (.iconst 4, 1) := by decide +kernel
theorem dX2_block_48 : decode cX2_block 48 = .ok (.iload_n 2, 1) := by decide +kernel
theorem dX2_block_49 : decode cX2_block 49 = .ok (.imul, 1) := by decide +kernel
theorem dX2_block_50 : decode cX2_block 50 = .ok (.iadd, 1) := by decide +kernel
theorem dX2_block_51 : decode cX2_block 51 = .ok (.iconst 2, 1) := by decide +kernel
theorem dX2_block_52 : decode cX2_block 52 = .ok (.iadd, 1) := by decide +kernel
theorem dX2_block_53 : decode cX2_block 53 = .ok (.iaload, 1) := by decide +kernel
theorem dX2_block_54 : decode cX2_block 54 = .ok (.bipush 8, 2) := by decide +kernel
theorem dX2_block_56 : decode cX2_block 56 = .ok (.ishl, 1) := by decide +kernel
theorem dX2_block_57 : decode cX2_block 57 = .ok (.ior, 1) := by decide +kernel
theorem dX2_block_58 : decode cX2_block 58 = .ok (.aload_n 0, 1) := by decide +kernel
theorem dX2_block_59 : decode cX2_block 59 = .ok (.getfield 29, 3) := by decide +kernel
theorem dX2_block_62 : decode cX2_block 62 = .ok (.iload_n 1, 1) := by decide +kernel
theorem dX2_block_63 : decode cX2_block 63 = .ok (.iconst 4, 1) := by decide +kernel
theorem dX2_block_64 : decode cX2_block 64 = .ok (.iload_n 2, 1) := by decide +kernel
theorem dX2_block_65 : decode cX2_block 65 = .ok (.imul, 1) := by decide +kernel
theorem dX2_block_66 : decode cX2_block 66 = .ok (.iadd, 1) := by decide +kernel
theorem dX2_block_67 : decode cX2_block 67 = .ok (.iconst 3, 1) := by decide +kernel
theorem dX2_block_68 : decode cX2_block 68 = .ok (.iadd, 1) := by decide +kernel
theorem dX2_block_69 : decode cX2_block 69 = .ok (.iaload, 1) := by decide +kernel
theorem dX2_block_70 : decode cX2_block 70 = .ok (.ior, 1) := by decide +kernel
theorem dX2_block_71 : decode cX2_block 71 = .ok (.iastore, 1) := by decide +kernel
theorem dX2_block_72 : decode cX2_block 72 = .ok (.iinc 2 1, 3) := by decide +kernel
theorem dX2_block_75 : decode cX2_block 75 = .ok (.goto (-73), 3) := by decide +kernel
theorem dX2_block_78 : decode cX2_block 78 = .ok (.bipush 16, 2) := by decide +kernel
theorem dX2_block_80 : decode cX2_block 80 = .ok (.istore_n 2, 1) := by decide +kernel
theorem dX2_block_81 : decode cX2_block 81 = .ok (.iload_n 2, 1) := by decide +kernel
theorem dX2_block_82 : decode cX2_block 82 = .ok (.bipush 64, 2) := by decide +kernel
theorem dX2_block_84 : decode cX2_block 84 = .ok (.if_icmp .ge 102, 3) := by decide +kernel
theorem dX2_block_87 : decode cX2_block 87 = .ok (.aload_n 0, 1) := by decide +kernel
theorem dX2_block_88 : decode cX2_block 88 = .ok (.getfield 35, 3) := by decide +kernel
theorem dX2_block_91 : decode cX2_block 91 = .ok (.iload_n 2, 1) := by decide +kernel
theorem dX2_block_92 : decode cX2_block 92 = .ok (.bipush 15, 2) := by decide +kernel
theorem dX2_block_94 : decode cX2_block 94 = .ok (.isub, 1) := by decide +kernel
theorem dX2_block_95 : decode cX2_block 95 = .ok (.iaload, 1) := by decide +kernel
theorem dX2_block_96 : decode cX2_block 96 = .ok (.istore_n 3, 1) := by decide +kernel
theorem dX2_block_97 : decode cX2_block 97 = .ok (.aload_n 0, 1) := by decide +kernel
theorem dX2_block_98 : decode cX2_block 98 = .ok (.getfield 35, 3) := by decide +kernel
theorem dX2_block_101 : decode cX2_block 101 = .ok (.iload_n 2, 1) := by decide +kernel
theorem dX2_block_102 : decode cX2_block 102 = .ok (.iconst 2, 1) := by decide +kernel
theorem dX2_block_103 : decode cX2_block 103 = .ok (.isub, 1) := by decide +kernel
theorem dX2_block_104 : decode cX2_block 104 = .ok (.iaload, 1) := by decide +kernel
theorem dX2_block_105 : decode cX2_block 105 = .ok (.istore 4, 2) := by decide +kernel
theorem dX2_block_107 : decode cX2_block 107 = .ok (.iload_n 3, 1) := by decide +kernel
theorem dX2_block_108 : decode cX2_block 108 = .ok (.bipush 7, 2) := by decide +kernel
theorem dX2_block_110 : decode cX2_block 110 = .ok (.invokestatic 144, 3) := by decide +kernel
theorem dX2_block_113 : decode cX2_block 113 = .ok (.iload_n 3, 1) := by decide +kernel
theorem dX2_block_114 : decode cX2_block 114 = .ok (.bipush 18, 2) := by decide +kernel
theorem dX2_block_116 : decode cX2_block 116 = .ok (.invokestatic 144, 3) := by decide +kernel
theorem dX2_block_119 : decode cX2_block 119 = .ok (.ixor, 1) := by decide +kernel
theorem dX2_block_120 : decode cX2_block 120 = .ok (.iload_n 3, 1) := by decide +kernel
theorem dX2_block_121 : decode cX2_block 121 = .ok (.iconst 3, 1) := by decide +kernel
theorem dX2_block_122 : decode cX2_block 122 = .ok (.iushr, 1) := by decide +kernel
theorem dX2_block_123 : decode cX2_block 123 = .ok (.ixor, 1) := by decide +kernel
theorem dX2_block_124 : decode cX2_block 124 = .ok (.istore 5, 2) := by decide +kernel
theorem dX2_block_126 : decode cX2_block 126 = .ok (.iload 4, 2) := by decide +kernel
theorem dX2_block_128 : decode cX2_block 128 = .ok (.bipush 17, 2) := by decide +kernel
theorem dX2_block_130 : decode cX2_block 130 = .ok (.invokestatic 144, 3) := by decide +kernel
theorem dX2_block_133 : decode cX2_block 133 = .ok (.iload 4, 2) := by decide +kernel
theorem dX2_block_135 : decode cX2_block 135 = .ok (.bipush 19, 2) := by decide +kernel
theorem dX2_block_137 : decode cX2_block 137 = .ok (.invokestatic 144, 3) := by decide +kernel
theorem dX2_block_140 : decode cX2_block 140 = .ok (.ixor, 1) := by decide +kernel
theorem dX2_block_141 : decode cX2_block 141 = .ok (.iload 4, 2) := by decide +kernel
theorem dX2_block_143 : decode cX2_block 143 = .ok (.bipush 10, 2) := by decide +kernel
theorem dX2_block_145 : decode cX2_block 145 = .ok (.iushr, 1) := by decide +kernel
theorem dX2_block_146 : decode cX2_block 146 = .ok (.ixor, 1) := by decide +kernel
theorem dX2_block_147 : decode cX2_block 147 = .ok (.istore 6, 2) := by decide +kernel
theorem dX2_block_149 : decode cX2_block 149 = .ok (.aload_n 0, 1) := by decide +kernel
theorem dX2_block_150 : decode cX2_block 150 = .ok (.getfield 35, 3) := by decide +kernel
theorem dX2_block_153 : decode cX2_block 153 = .ok (.iload_n 2, 1) := by decide +kernel
theorem dX2_block_154 : decode cX2_block 154 = .ok (.aload_n 0, 1) := by decide +kernel
theorem dX2_block_155 : decode cX2_block 155 = .ok (.getfield 35, 3) := by decide +kernel
theorem dX2_block_158 : decode cX2_block 158 = .ok (.iload_n 2, 1) := by decide +kernel
theorem dX2_block_159 : decode cX2_block 159 = .ok (.bipush 16, 2) := by decide +kernel
theorem dX2_block_161 : decode cX2_block 161 = .ok (.isub, 1) := by decide +kernel
theorem dX2_block_162 : decode cX2_block 162 = .ok (.iaload, 1) := by decide +kernel
theorem dX2_block_163 : decode cX2_block 163 = .ok (.iload 5, 2) := by decide +kernel
theorem dX2_block_165 : decode cX2_block 165 = .ok (.iadd, 1) := by decide +kernel
theorem dX2_block_166 : decode cX2_block 166 = .ok (.aload_n 0, 1) := by decide +kernel
theorem dX2_block_167 : decode cX2_block 167 = .ok (.getfield 35, 3) := by decide +kernel
theorem dX2_block_170 : decode cX2_block 170 = .ok (.iload_n 2, 1) := by decide +kernel
theorem dX2_block_171 : decode cX2_block 171 = .ok (.bipush 7, 2) := by decide +kernel
theorem dX2_block_173 : decode cX2_block 173 = .ok (.isub, 1) := by decide +kernel
theorem dX2_block_174 : decode cX2_block 174 = .ok (.iaload, 1) := by decide +kernel
theorem dX2_block_175 : decode cX2_block 175 = .ok (.iadd, 1) := by decide +kernel
theorem dX2_block_176 : decode cX2_block 176 = .ok (.iload 6, 2) := by decide +kernel
theorem dX2_block_178 : decode cX2_block 178 = .ok (.iadd, 1) := by decide +kernel
theorem dX2_block_179 : decode cX2_block 179 = .ok (.iastore, 1) := by decide +kernel
theorem dX2_block_180 : decode cX2_block 180 = .ok (.iinc 2 1, 3) := by decide +kernel
theorem dX2_block_183 : decode cX2_block 183 = .ok (.goto (-102), 3) := by decide +kernel
theorem dX2_block_186 : decode cX2_block 186 = .ok (.aload_n 0, 1) := by decide +kernel
theorem dX2_block_187 : decode cX2_block 187 = .ok (.getfield 38, 3) := by decide +kernel
theorem dX2_block_190 : decode cX2_block 190 = .ok (.iconst 0, 1) := by decide +kernel
theorem dX2_block_191 : decode cX2_block 191 = .ok (.iaload, 1) := by decide +kernel
theorem dX2_block_192 : decode cX2_block 192 = .ok (.istore_n 2, 1) := by decide +kernel
theorem dX2_block_193 : decode cX2_block 193 = .ok (.aload_n 0, 1) := by decide +kernel
theorem dX2_block_194 : decode cX2_block 194 = .ok (.getfield 38, 3) := by decide +kernel
theorem dX2_block_197 : decode cX2_block 197 = .ok (.iconst 1, 1) := by decide +kernel
theorem dX2_block_198 : decode cX2_block 198 = .ok (.iaload, 1) := by decide +kernel
theorem dX2_block_199 : decode cX2_block 199 = .ok (.istore_n 3, 1) := by decide +kernel
theorem dX2_block_200 : decode cX2_block 200 = .ok (.aload_n 0, 1) := by decide +kernel
theorem dX2_block_201 : decode cX2_block 201 = .ok (.getfield 38, 3) := by decide +kernel
theorem dX2_block_204 : decode cX2_block 204 = .ok (.iconst 2, 1) := by decide +kernel
theorem dX2_block_205 : decode cX2_block 205 = .ok (.iaload, 1) := by decide +kernel
theorem dX2_block_206 : decode cX2_block 206 = .ok (.istore 4, 2) := by decide +kernel
theorem dX2_block_208 : decode cX2_block 208 = .ok (.aload_n 0, 1) := by decide +kernel
theorem dX2_block_209 : decode cX2_block 209 = .ok (.getfield 38, 3) := by decide +kernel
theorem dX2_block_212 : decode cX2_block 212 = .ok (.iconst 3, 1) := by decide +kernel
theorem dX2_block_213 : decode cX2_block 213 = .ok (.iaload, 1) := by decide +kernel
theorem dX2_block_214 : decode cX2_block 214 = .ok (.istore 5, 2) := by decide +kernel
theorem dX2_block_216 : decode cX2_block 216 = .ok (.aload_n 0, 1) := by decide +kernel
theorem dX2_block_217 : decode cX2_block 217 = .ok (.getfield 38, 3) := by decide +kernel
theorem dX2_block_220 : decode cX2_block 220 = .ok (.iconst 4, 1) := by decide +kernel
theorem dX2_block_221 : decode cX2_block 221 = .ok (.iaload, 1) := by decide +kernel
theorem dX2_block_222 : decode cX2_block 222 = .ok (.istore 6, 2) := by decide +kernel
theorem dX2_block_224 : decode cX2_block 224 = .ok (.aload_n 0, 1) := by decide +kernel
theorem dX2_block_225 : decode cX2_block 225 = .ok (.getfield 38, 3) := by decide +kernel
theorem dX2_block_228 : decode cX2_block 228 = .ok (.iconst 5, 1) := by decide +kernel
theorem dX2_block_229 : decode cX2_block 229 = .ok (.iaload, 1) := by decide +kernel
theorem dX2_block_230 : decode cX2_block 230 = .ok (.istore 7, 2) := by decide +kernel
theorem dX2_block_232 : decode cX2_block 232 = .ok (.aload_n 0, 1) := by decide +kernel
theorem dX2_block_233 : decode cX2_block 233 = .ok (.getfield 38, 3) := by decide +kernel
theorem dX2_block_236 : decode cX2_block 236 = .ok (.bipush 6, 2) := by decide +kernel
theorem dX2_block_238 : decode cX2_block 238 = .ok (.iaload, 1) := by decide +kernel
theorem dX2_block_239 : decode cX2_block 239 = .ok (.istore 8, 2) := by decide +kernel
theorem dX2_block_241 : decode cX2_block 241 = .ok (.aload_n 0, 1) := by decide +kernel
theorem dX2_block_242 : decode cX2_block 242 = .ok (.getfield 38, 3) := by decide +kernel
theorem dX2_block_245 : decode cX2_block 245 = .ok (.bipush 7, 2) := by decide +kernel
theorem dX2_block_247 : decode cX2_block 247 = .ok (.iaload, 1) := by decide +kernel
theorem dX2_block_248 : decode cX2_block 248 = .ok (.istore 9, 2) := by decide +kernel
theorem dX2_block_250 : decode cX2_block 250 = .ok (.iconst 0, 1) := by decide +kernel
theorem dX2_block_251 : decode cX2_block 251 = .ok (.istore 10, 2) := by decide +kernel
theorem dX2_block_253 : decode cX2_block 253 = .ok (.iload 10, 2) := by decide +kernel
theorem dX2_block_255 : decode cX2_block 255 = .ok (.bipush 64, 2) := by decide +kernel
theorem dX2_block_257 : decode cX2_block 257 = .ok (.if_icmp .ge 136, 3) := by decide +kernel
theorem dX2_block_260 : decode cX2_block 260 = .ok (.iload 9, 2) := by decide +kernel
theorem dX2_block_262 : decode cX2_block 262 = .ok (.iload 6, 2) := by decide +kernel
theorem dX2_block_264 : decode cX2_block 264 = .ok (.bipush 6, 2) := by decide +kernel
theorem dX2_block_266 : decode cX2_block 266 = .ok (.invokestatic 144, 3) := by decide +kernel
theorem dX2_block_269 : decode cX2_block 269 = .ok (.iload 6, 2) := by decide +kernel
theorem dX2_block_271 : decode cX2_block 271 = .ok (.bipush 11, 2) := by decide +kernel
theorem dX2_block_273 : decode cX2_block 273 = .ok (.invokestatic 144, 3) := by decide +kernel
theorem dX2_block_276 : decode cX2_block 276 = .ok (.ixor, 1) := by decide +kernel
theorem dX2_block_277 : decode cX2_block 277 = .ok (.iload 6, 2) := by decide +kernel
theorem dX2_block_279 : decode cX2_block 279 = .ok (.bipush 25, 2) := by decide +kernel
theorem dX2_block_281 : decode cX2_block 281 = .ok (.invokestatic 144, 3) := by decide +kernel
theorem dX2_block_284 : decode cX2_block 284 = .ok (.ixor, 1) := by decide +kernel
theorem dX2_block_285 : decode cX2_block 285 = .ok (.iadd, 1) := by decide +kernel
theorem dX2_block_286 : decode cX2_block 286 = .ok (.iload 6, 2) := by decide +kernel
theorem dX2_block_288 : decode cX2_block 288 = .ok (.iload 7, 2) := by decide +kernel
theorem dX2_block_290 : decode cX2_block 290 = .ok (.iand, 1) := by decide +kernel
theorem dX2_block_291 : decode cX2_block 291 = .ok (.iload 6, 2) := by decide +kernel
theorem dX2_block_293 : decode cX2_block 293 = .ok (.iconst (-1), 1) := by decide +kernel
theorem dX2_block_294 : decode cX2_block 294 = .ok (.ixor, 1) := by decide +kernel
theorem dX2_block_295 : decode cX2_block 295 = .ok (.iload 8, 2) := by decide +kernel
theorem dX2_block_297 : decode cX2_block 297 = .ok (.iand, 1) := by decide +kernel
theorem dX2_block_298 : decode cX2_block 298 = .ok (.ixor, 1) := by decide +kernel
theorem dX2_block_299 : decode cX2_block 299 = .ok (.iadd, 1) := by decide +kernel
theorem dX2_block_300 : decode cX2_block 300 = .ok (.aload_n 0, 1) := by decide +kernel
theorem dX2_block_301 : decode cX2_block 301 = .ok (.getfield 120, 3) := by decide +kernel
theorem dX2_block_304 : decode cX2_block 304 = .ok (.iload 10, 2) := by decide +kernel
theorem dX2_block_306 : decode cX2_block 306 = .ok (.iaload, 1) := by decide +kernel
theorem dX2_block_307 : decode cX2_block 307 = .ok (.iadd, 1) := by decide +kernel
theorem dX2_block_308 : decode cX2_block 308 = .ok (.aload_n 0, 1) := by decide +kernel
theorem dX2_block_309 : decode cX2_block 309 = .ok (.getfield 35, 3) := by decide +kernel
theorem dX2_block_312 : decode cX2_block 312 = .ok (.iload 10, 2) := by decide +kernel
theorem dX2_block_314 : decode cX2_block 314 = .ok (.iaload, 1) := by decide +kernel
theorem dX2_block_315 : decode cX2_block 315 = .ok (.iadd, 1) := by decide +kernel
theorem dX2_block_316 : decode cX2_block 316 = .ok (.istore 11, 2) := by decide +kernel
theorem dX2_block_318 : decode cX2_block 318 = .ok (.iload_n 2, 1) := by decide +kernel
theorem dX2_block_319 : decode cX2_block 319 = .ok (.iconst 2, 1) := by decide +kernel
theorem dX2_block_320 : decode cX2_block 320 = .ok (.invokestatic 144, 3) := by decide +kernel
theorem dX2_block_323 : decode cX2_block 323 = .ok (.iload_n 2, 1) := by decide +kernel
theorem dX2_block_324 : decode cX2_block 324 = .ok (.bipush 13, 2) := by decide +kernel
theorem dX2_block_326 : decode cX2_block 326 = .ok (.invokestatic 144, 3) := by decide +kernel
theorem dX2_block_329 : decode cX2_block 329 = .ok (.ixor, 1) := by decide +kernel
theorem dX2_block_330 : decode cX2_block 330 = .ok (.iload_n 2, 1) := by decide +kernel
theorem dX2_block_331 : decode cX2_block 331 = .ok (.bipush 22, 2) := by decide +kernel
theorem dX2_block_333 : decode cX2_block 333 = .ok (.invokestatic 144, 3) := by decide +kernel
theorem dX2_block_336 : decode cX2_block 336 = .ok (.ixor, 1) := by decide +kernel
theorem dX2_block_337 : decode cX2_block 337 = .ok (.iload_n 2, 1) := by decide +kernel
theorem dX2_block_338 : decode cX2_block 338 = .ok (.iload_n 3, 1) := by decide +kernel
theorem dX2_block_339 : decode cX2_block 339 = .ok (.iand, 1) := by decide +kernel
theorem dX2_block_340 : decode cX2_block 340 = .ok (.iload_n 2, 1) := by decide +kernel
theorem dX2_block_341 : decode cX2_block 341 = .ok (.iload 4, 2) := by decide +kernel
theorem dX2_block_343 : decode cX2_block 343 = .ok (.iand, 1) := by decide +kernel
theorem dX2_block_344 : decode cX2_block 344 = .ok (.ixor, 1) := by decide +kernel
theorem dX2_block_345 : decode cX2_block 345 = .ok (.iload_n 3, 1) := by decide +kernel
theorem dX2_block_346 : decode cX2_block 346 = .ok (.iload 4, 2) := by decide +kernel
theorem dX2_block_348 : decode cX2_block 348 = .ok (.iand, 1) := by decide +kernel
theorem dX2_block_349 : decode cX2_block 349 = .ok (.ixor, 1) := by decide +kernel
theorem dX2_block_350 : decode cX2_block 350 = .ok (.iadd, 1) := by decide +kernel
theorem dX2_block_351 : decode cX2_block 351 = .ok (.istore 12, 2) := by decide +kernel
theorem dX2_block_353 : decode cX2_block 353 = .ok (.iload 8, 2) := by decide +kernel
theorem dX2_block_355 : decode cX2_block 355 = .ok (.istore 9, 2) := by decide +kernel
theorem dX2_block_357 : decode cX2_block 357 = .ok (.iload 7, 2) := by decide +kernel
theorem dX2_block_359 : decode cX2_block 359 = .ok (.istore 8, 2) := by decide +kernel
theorem dX2_block_361 : decode cX2_block 361 = .ok (.iload 6, 2) := by decide +kernel
theorem dX2_block_363 : decode cX2_block 363 = .ok (.istore 7, 2) := by decide +kernel
theorem dX2_block_365 : decode cX2_block 365 = .ok (.iload 5, 2) := by decide +kernel
theorem dX2_block_367 : decode cX2_block 367 = .ok (.iload 11, 2) := by decide +kernel
theorem dX2_block_369 : decode cX2_block 369 = .ok (.iadd, 1) := by decide +kernel
theorem dX2_block_370 : decode cX2_block 370 = .ok (.istore 6, 2) := by decide +kernel
theorem dX2_block_372 : decode cX2_block 372 = .ok (.iload 4, 2) := by decide +kernel
theorem dX2_block_374 : decode cX2_block 374 = .ok (.istore 5, 2) := by decide +kernel
theorem dX2_block_376 : decode cX2_block 376 = .ok (.iload_n 3, 1) := by decide +kernel
theorem dX2_block_377 : decode cX2_block 377 = .ok (.istore 4, 2) := by decide +kernel
theorem dX2_block_379 : decode cX2_block 379 = .ok (.iload_n 2, 1) := by decide +kernel
theorem dX2_block_380 : decode cX2_block 380 = .ok (.istore_n 3, 1) := by decide +kernel
theorem dX2_block_381 : decode cX2_block 381 = .ok (.iload 11, 2) := by decide +kernel
theorem dX2_block_383 : decode cX2_block 383 = .ok (.iload 12, 2) := by decide +kernel
theorem dX2_block_385 : decode cX2_block 385 = .ok (.iadd, 1) := by decide +kernel
theorem dX2_block_386 : decode cX2_block 386 = .ok (.istore_n 2, 1) := by decide +kernel
theorem dX2_block_387 : decode cX2_block 387 = .ok (.iinc 10 1, 3) := by decide +kernel
theorem dX2_block_390 : decode cX2_block 390 = .ok (.goto (-137), 3) := by decide +kernel
theorem dX2_block_393 : decode cX2_block 393 = .ok (.aload_n 0, 1) := by decide +kernel
theorem dX2_block_394 : decode cX2_block 394 = .ok (.getfield 38, 3) := by decide +kernel
theorem dX2_block_397 : decode cX2_block 397 = .ok (.iconst 0, 1) := by decide +kernel
theorem dX2_block_398 : decode cX2_block 398 = .ok (.aload_n 0, 1) := by decide +kernel
theorem dX2_block_399 : decode cX2_block 399 = .ok (.getfield 38, 3) := by decide +kernel
theorem dX2_block_402 : decode cX2_block 402 = .ok (.iconst 0, 1) := by decide +kernel
theorem dX2_block_403 : decode cX2_block 403 = .ok (.iaload, 1) := by decide +kernel
theorem dX2_block_404 : decode cX2_block 404 = .ok (.iload_n 2, 1) := by decide +kernel
theorem dX2_block_405 : decode cX2_block 405 = .ok (.iadd, 1) := by decide +kernel
theorem dX2_block_406 : decode cX2_block 406 = .ok (.iastore, 1) := by decide +kernel
theorem dX2_block_407 : decode cX2_block 407 = .ok (.aload_n 0, 1) := by decide +kernel
theorem dX2_block_408 : decode cX2_block 408 = .ok (.getfield 38, 3) := by decide +kernel
theorem dX2_block_411 : decode cX2_block 411 = .ok (.iconst 1, 1) := by decide +kernel
theorem dX2_block_412 : decode cX2_block 412 = .ok (.aload_n 0, 1) := by decide +kernel
theorem dX2_block_413 : decode cX2_block 413 = .ok (.getfield 38, 3) := by decide +kernel
theorem dX2_block_416 : decode cX2_block 416 = .ok (.iconst 1, 1) := by decide +kernel
theorem dX2_block_417 : decode cX2_block 417 = .ok (.iaload, 1) := by decide +kernel
theorem dX2_block_418 : decode cX2_block 418 = .ok (.iload_n 3, 1) := by decide +kernel
theorem dX2_block_419 : decode cX2_block 419 = .ok (.iadd, 1) := by decide +kernel
theorem dX2_block_420 : decode cX2_block 420 = .ok (.iastore, 1) := by decide +kernel
theorem dX2_block_421 : decode cX2_block 421 = .ok (.aload_n 0, 1) := by decide +kernel
theorem dX2_block_422 : decode cX2_block 422 = .ok (.getfield 38, 3) := by decide +kernel
theorem dX2_block_425 : decode cX2_block 425 = .ok (.iconst 2, 1) := by decide +kernel
theorem dX2_block_426 : decode cX2_block 426 = .ok (.aload_n 0, 1) := by decide +kernel
theorem dX2_block_427 : decode cX2_block 427 = .ok (.getfield 38, 3) := by decide +kernel
theorem dX2_block_430 : decode cX2_block 430 = .ok (.iconst 2, 1) := by decide +kernel
theorem dX2_block_431 : decode cX2_block 431 = .ok (.iaload, 1) := by decide +kernel
theorem dX2_block_432 : decode cX2_block 432 = .ok (.iload 4, 2) := by decide +kernel
theorem dX2_block_434 : decode cX2_block 434 = .ok (.iadd, 1) := by decide +kernel
theorem dX2_block_435 : decode cX2_block 435 = .ok (.iastore, 1) := by decide +kernel
theorem dX2_block_436 : decode cX2_block 436 = .ok (.aload_n 0, 1) := by decide +kernel
theorem dX2_block_437 : decode cX2_block 437 = .ok (.getfield 38, 3) := by decide +kernel
theorem dX2_block_440 : decode cX2_block 440 = .ok (.iconst 3, 1) := by decide +kernel
theorem dX2_block_441 : decode cX2_block 441 = .ok (.aload_n 0, 1) := by decide +kernel
theorem dX2_block_442 : decode cX2_block 442 = .ok (.getfield 38, 3) := by decide +kernel
theorem dX2_block_445 : decode cX2_block 445 = .ok (.iconst 3, 1) := by decide +kernel
theorem dX2_block_446 : decode cX2_block 446 = .ok (.iaload, 1) := by decide +kernel
theorem dX2_block_447 : decode cX2_block 447 = .ok (.iload 5, 2) := by decide +kernel
theorem dX2_block_449 : decode cX2_block 449 = .ok (.iadd, 1) := by decide +kernel
theorem dX2_block_450 : decode cX2_block 450 = .ok (.iastore, 1) := by decide +kernel
theorem dX2_block_451 : decode cX2_block 451 = .ok (.aload_n 0, 1) := by decide +kernel
theorem dX2_block_452 : decode cX2_block 452 = .ok (.getfield 38, 3) := by decide +kernel
theorem dX2_block_455 : decode cX2_block 455 = .ok (.iconst 4, 1) := by decide +kernel
theorem dX2_block_456 : decode cX2_block 456 = .ok (.aload_n 0, 1) := by decide +kernel
theorem dX2_block_457 : decode cX2_block 457 = .ok (.getfield 38, 3) := by decide +kernel
theorem dX2_block_460 : decode cX2_block 460 = .ok (.iconst 4, 1) := by decide +kernel
theorem dX2_block_461 : decode cX2_block 461 = .ok (.iaload, 1) := by decide +kernel
theorem dX2_block_462 : decode cX2_block 462 = .ok (.iload 6, 2) := by decide +kernel
theorem dX2_block_464 : decode cX2_block 464 = .ok (.iadd, 1) := by decide +kernel
theorem dX2_block_465 : decode cX2_block 465 = .ok (.iastore, 1) := by decide +kernel
theorem dX2_block_466 : decode cX2_block 466 = .ok (.aload_n 0, 1) := by decide +kernel
theorem dX2_block_467 : decode cX2_block 467 = .ok (.getfield 38, 3) := by decide +kernel
theorem dX2_block_470 : decode cX2_block 470 = .ok (.iconst 5, 1) := by decide +kernel
theorem dX2_block_471 : decode cX2_block 471 = .ok (.aload_n 0, 1) := by decide +kernel
theorem dX2_block_472 : decode cX2_block 472 = .ok (.getfield 38, 3) := by decide +kernel
theorem dX2_block_475 : decode cX2_block 475 = .ok (.iconst 5, 1) := by decide +kernel
theorem dX2_block_476 : decode cX2_block 476 = .ok (.iaload, 1) := by decide +kernel
theorem dX2_block_477 : decode cX2_block 477 = .ok (.iload 7, 2) := by decide +kernel
theorem dX2_block_479 : decode cX2_block 479 = .ok (.iadd, 1) := by decide +kernel
theorem dX2_block_480 : decode cX2_block 480 = .ok (.iastore, 1) := by decide +kernel
theorem dX2_block_481 : decode cX2_block 481 = .ok (.aload_n 0, 1) := by decide +kernel
theorem dX2_block_482 : decode cX2_block 482 = .ok (.getfield 38, 3) := by decide +kernel
theorem dX2_block_485 : decode cX2_block 485 = .ok (.bipush 6, 2) := by decide +kernel
theorem dX2_block_487 : decode cX2_block 487 = .ok (.aload_n 0, 1) := by decide +kernel
theorem dX2_block_488 : decode cX2_block 488 = .ok (.getfield 38, 3) := by decide +kernel
theorem dX2_block_491 : decode cX2_block 491 = .ok (.bipush 6, 2) := by decide +kernel
theorem dX2_block_493 : decode cX2_block 493 = .ok (.iaload, 1) := by decide +kernel
theorem dX2_block_494 : decode cX2_block 494 = .ok (.iload 8, 2) := by decide +kernel
theorem dX2_block_496 : decode cX2_block 496 = .ok (.iadd, 1) := by decide +kernel
theorem dX2_block_497 : decode cX2_block 497 = .ok (.iastore, 1) := by decide +kernel
theorem dX2_block_498 : decode cX2_block 498 = .ok (.aload_n 0, 1) := by decide +kernel
theorem dX2_block_499 : decode cX2_block 499 = .ok (.getfield 38, 3) := by decide +kernel
theorem dX2_block_502 : decode cX2_block 502 = .ok (.bipush 7, 2) := by decide +kernel
theorem dX2_block_504 : decode cX2_block 504 = .ok (.aload_n 0, 1) := by decide +kernel
theorem dX2_block_505 : decode cX2_block 505 = .ok (.getfield 38, 3) := by decide +kernel
theorem dX2_block_508 : decode cX2_block 508 = .ok (.bipush 7, 2) := by decide +kernel
theorem dX2_block_510 : decode cX2_block 510 = .ok (.iaload, 1) := by decide +kernel
theorem dX2_block_511 : decode cX2_block 511 = .ok (.iload 9, 2) := by decide +kernel
theorem dX2_block_513 : decode cX2_block 513 = .ok (.iadd, 1) := by decide +kernel
theorem dX2_block_514 : decode cX2_block 514 = .ok (.iastore, 1) := by decide +kernel
theorem dX2_block_515 : decode cX2_block 515 = .ok (.return_, 1) := by decide +kernel
theorem dX2_right_0 : decode cX2_right 0 = .ok (.iload_n 0, 1) := by decide +kernel
theorem dX2_right_1 : decode cX2_right 1 = .ok (.iload_n 1, 1) := by decide +kernel
theorem dX2_right_2 : decode cX2_right 2 = .ok (.iushr, 1) := by decide +kernel
theorem dX2_right_3 : decode cX2_right 3 = .ok (.iload_n 0, 1) := by decide +kernel
theorem dX2_right_4 : decode cX2_right 4 = .ok (.bipush 32, 2) := by decide +kernel
theorem dX2_right_6 : decode cX2_right 6 = .ok (.iload_n 1, 1) := by decide +kernel
theorem dX2_right_7 : decode cX2_right 7 = .ok (.isub, 1) := by decide +kernel
theorem dX2_right_8 : decode cX2_right 8 = .ok (.ishl, 1) := by decide +kernel
theorem dX2_right_9 : decode cX2_right 9 = .ok (.ior, 1) := by decide +kernel
theorem dX2_right_10 : decode cX2_right 10 = .ok (.ireturn, 1) := by decide +kernel
theorem dX2_close_0 : decode cX2_close 0 = .ok (.aload_n 0, 1) := by decide +kernel
theorem dX2_close_1 : decode cX2_close 1 = .ok (.aload_n 0, 1) := by decide +kernel
theorem dX2_close_2 : decode cX2_close 2 = .ok (.getfield 134, 3) := by decide +kernel
theorem dX2_close_5 : decode cX2_close 5 = .ok (.bipush 12, 2) := by decide +kernel
theorem dX2_close_7 : decode cX2_close 7 = .ok (.if_icmp .ge 7, 3) := by decide +kernel
theorem dX2_close_10 : decode cX2_close 10 = .ok (.iconst 1, 1) := by decide +kernel
theorem dX2_close_11 : decode cX2_close 11 = .ok (.goto 4, 3) := by decide +kernel
theorem dX2_close_14 : decode cX2_close 14 = .ok (.iconst 0, 1) := by decide +kernel
theorem dX2_close_15 : decode cX2_close 15 = .ok (.iconst 1, 1) := by decide +kernel
theorem dX2_close_16 : decode cX2_close 16 = .ok (.iconst 1, 1) := by decide +kernel
theorem dX2_close_17 : decode cX2_close 17 = .ok (.invokevirtual 188, 3) := by decide +kernel
theorem dX2_close_20 : decode cX2_close 20 = .ok (.ifCond .ne 5, 3) := by decide +kernel
theorem dX2_close_23 : decode cX2_close 23 = .ok (.iconst 0, 1) := by decide +kernel
theorem dX2_close_24 : decode cX2_close 24 = .ok (.ireturn, 1) := by decide +kernel
theorem dX2_close_25 : decode cX2_close 25 = .ok (.aload_n 0, 1) := by decide +kernel
theorem dX2_close_26 : decode cX2_close 26 = .ok (.iconst 0, 1) := by decide +kernel
theorem dX2_close_27 : decode cX2_close 27 = .ok (.aload_n 0, 1) := by decide +kernel
theorem dX2_close_28 : decode cX2_close 28 = .ok (.getfield 127, 3) := by decide +kernel
theorem dX2_close_31 : decode cX2_close 31 = .ok (.invokevirtual 192, 3) := by decide +kernel
theorem dX2_close_34 : decode cX2_close 34 = .ok (.aload_n 0, 1) := by decide +kernel
theorem dX2_close_35 : decode cX2_close 35 = .ok (.getfield 20, 3) := by decide +kernel
theorem dX2_close_38 : decode cX2_close 38 = .ok (.aload_n 0, 1) := by decide +kernel
theorem dX2_close_39 : decode cX2_close 39 = .ok (.getfield 134, 3) := by decide +kernel
theorem dX2_close_42 : decode cX2_close 42 = .ok (.aload_n 0, 1) := by decide +kernel
theorem dX2_close_43 : decode cX2_close 43 = .ok (.getfield 127, 3) := by decide +kernel
theorem dX2_close_46 : decode cX2_close 46 = .ok (.iastore, 1) := by decide +kernel
theorem dX2_close_47 : decode cX2_close 47 = .ok (.iconst 0, 1) := by decide +kernel
theorem dX2_close_48 : decode cX2_close 48 = .ok (.istore_n 1, 1) := by decide +kernel
theorem dX2_close_49 : decode cX2_close 49 = .ok (.iload_n 1, 1) := by decide +kernel
theorem dX2_close_50 : decode cX2_close 50 = .ok (.bipush 32, 2) := by decide +kernel
theorem dX2_close_52 : decode cX2_close 52 = .ok (.if_icmp .ge 29, 3) := by decide +kernel
theorem dX2_close_55 : decode cX2_close 55 = .ok (.aload_n 0, 1) := by decide +kernel
theorem dX2_close_56 : decode cX2_close 56 = .ok (.getfield 23, 3) := by decide +kernel
theorem dX2_close_59 : decode cX2_close 59 = .ok (.bipush 32, 2) := by decide +kernel
theorem dX2_close_61 : decode cX2_close 61 = .ok (.aload_n 0, 1) := by decide +kernel
theorem dX2_close_62 : decode cX2_close 62 = .ok (.getfield 134, 3) := by decide +kernel
theorem dX2_close_65 : decode cX2_close 65 = .ok (.imul, 1) := by decide +kernel
theorem dX2_close_66 : decode cX2_close 66 = .ok (.iload_n 1, 1) := by decide +kernel
theorem dX2_close_67 : decode cX2_close 67 = .ok (.iadd, 1) := by decide +kernel
theorem dX2_close_68 : decode cX2_close 68 = .ok (.aload_n 0, 1) := by decide +kernel
theorem dX2_close_69 : decode cX2_close 69 = .ok (.getfield 32, 3) := by decide +kernel
theorem dX2_close_72 : decode cX2_close 72 = .ok (.iload_n 1, 1) := by decide +kernel
theorem dX2_close_73 : decode cX2_close 73 = .ok (.iaload, 1) := by decide +kernel
theorem dX2_close_74 : decode cX2_close 74 = .ok (.iastore, 1) := by decide +kernel
theorem dX2_close_75 : decode cX2_close 75 = .ok (.iinc 1 1, 3) := by decide +kernel
theorem dX2_close_78 : decode cX2_close 78 = .ok (.goto (-29), 3) := by decide +kernel
theorem dX2_close_81 : decode cX2_close 81 = .ok (.aload_n 0, 1) := by decide +kernel
theorem dX2_close_82 : decode cX2_close 82 = .ok (.dup, 1) := by decide +kernel
theorem dX2_close_83 : decode cX2_close 83 = .ok (.getfield 134, 3) := by decide +kernel
theorem dX2_close_86 : decode cX2_close 86 = .ok (.iconst 1, 1) := by decide +kernel
theorem dX2_close_87 : decode cX2_close 87 = .ok (.iadd, 1) := by decide +kernel
theorem dX2_close_88 : decode cX2_close 88 = .ok (.putfield 134, 3) := by decide +kernel
theorem dX2_close_91 : decode cX2_close 91 = .ok (.aload_n 0, 1) := by decide +kernel
theorem dX2_close_92 : decode cX2_close 92 = .ok (.getfield 134, 3) := by decide +kernel
theorem dX2_close_95 : decode cX2_close 95 = .ok (.iconst 1, 1) := by decide +kernel
theorem dX2_close_96 : decode cX2_close 96 = .ok (.isub, 1) := by decide +kernel
theorem dX2_close_97 : decode cX2_close 97 = .ok (.ireturn, 1) := by decide +kernel
theorem dX2_tree_0 : decode cX2_tree 0 = .ok (.iload_n 2, 1) := by decide +kernel
theorem dX2_tree_1 : decode cX2_tree 1 = .ok (.ifCond .ne 12, 3) := by decide +kernel
theorem dX2_tree_4 : decode cX2_tree 4 = .ok (.aload_n 0, 1) := by decide +kernel
theorem dX2_tree_5 : decode cX2_tree 5 = .ok (.invokevirtual 165, 3) := by decide +kernel
theorem dX2_tree_8 : decode cX2_tree 8 = .ok (.aload_n 0, 1) := by decide +kernel
theorem dX2_tree_9 : decode cX2_tree 9 = .ok (.invokevirtual 172, 3) := by decide +kernel
theorem dX2_tree_12 : decode cX2_tree 12 = .ok (.return_, 1) := by decide +kernel
theorem dX2_tree_13 : decode cX2_tree 13 = .ok (.aload_n 0, 1) := by decide +kernel
theorem dX2_tree_14 : decode cX2_tree 14 = .ok (.iconst 0, 1) := by decide +kernel
theorem dX2_tree_15 : decode cX2_tree 15 = .ok (.putfield 175, 3) := by decide +kernel
theorem dX2_tree_18 : decode cX2_tree 18 = .ok (.iload_n 1, 1) := by decide +kernel
theorem dX2_tree_19 : decode cX2_tree 19 = .ok (.istore_n 3, 1) := by decide +kernel
theorem dX2_tree_20 : decode cX2_tree 20 = .ok (.iload_n 3, 1) := by decide +kernel
theorem dX2_tree_21 : decode cX2_tree 21 = .ok (.iload_n 1, 1) := by decide +kernel
theorem dX2_tree_22 : decode cX2_tree 22 = .ok (.iload_n 2, 1) := by decide +kernel
theorem dX2_tree_23 : decode cX2_tree 23 = .ok (.iadd, 1) := by decide +kernel
theorem dX2_tree_24 : decode cX2_tree 24 = .ok (.if_icmp .ge 112, 3) := by decide +kernel
theorem dX2_tree_27 : decode cX2_tree 27 = .ok (.iconst 0, 1) := by decide +kernel
theorem dX2_tree_28 : decode cX2_tree 28 = .ok (.istore 4, 2) := by decide +kernel
theorem dX2_tree_30 : decode cX2_tree 30 = .ok (.iload 4, 2) := by decide +kernel
theorem dX2_tree_32 : decode cX2_tree 32 = .ok (.bipush 32, 2) := by decide +kernel
theorem dX2_tree_34 : decode cX2_tree 34 = .ok (.if_icmp .ge 36, 3) := by decide +kernel
theorem dX2_tree_37 : decode cX2_tree 37 = .ok (.aload_n 0, 1) := by decide +kernel
theorem dX2_tree_38 : decode cX2_tree 38 = .ok (.getfield 41, 3) := by decide +kernel
theorem dX2_tree_41 : decode cX2_tree 41 = .ok (.bipush 32, 2) := by decide +kernel
theorem dX2_tree_43 : decode cX2_tree 43 = .ok (.aload_n 0, 1) := by decide +kernel
theorem dX2_tree_44 : decode cX2_tree 44 = .ok (.getfield 175, 3) := by decide +kernel
theorem dX2_tree_47 : decode cX2_tree 47 = .ok (.imul, 1) := by decide +kernel
theorem dX2_tree_48 : decode cX2_tree 48 = .ok (.iload 4, 2) := by decide +kernel
theorem dX2_tree_50 : decode cX2_tree 50 = .ok (.iadd, 1) := by decide +kernel
theorem dX2_tree_51 : decode cX2_tree 51 = .ok (.aload_n 0, 1) := by decide +kernel
theorem dX2_tree_52 : decode cX2_tree 52 = .ok (.getfield 13, 3) := by decide +kernel
theorem dX2_tree_55 : decode cX2_tree 55 = .ok (.bipush 32, 2) := by decide +kernel
theorem dX2_tree_57 : decode cX2_tree 57 = .ok (.iload_n 3, 1) := by decide +kernel
theorem dX2_tree_58 : decode cX2_tree 58 = .ok (.imul, 1) := by decide +kernel
theorem dX2_tree_59 : decode cX2_tree 59 = .ok (.iload 4, 2) := by decide +kernel
theorem dX2_tree_61 : decode cX2_tree 61 = .ok (.iadd, 1) := by decide +kernel
theorem dX2_tree_62 : decode cX2_tree 62 = .ok (.iaload, 1) := by decide +kernel
theorem dX2_tree_63 : decode cX2_tree 63 = .ok (.iastore, 1) := by decide +kernel
theorem dX2_tree_64 : decode cX2_tree 64 = .ok (.iinc 4 1, 3) := by decide +kernel
theorem dX2_tree_67 : decode cX2_tree 67 = .ok (.goto (-37), 3) := by decide +kernel
theorem dX2_tree_70 : decode cX2_tree 70 = .ok (.aload_n 0, 1) := by decide +kernel
theorem dX2_tree_71 : decode cX2_tree 71 = .ok (.getfield 44, 3) := by decide +kernel
theorem dX2_tree_74 : decode cX2_tree 74 = .ok (.aload_n 0, 1) := by decide +kernel
theorem dX2_tree_75 : decode cX2_tree 75 = .ok (.getfield 175, 3) := by decide +kernel
theorem dX2_tree_78 : decode cX2_tree 78 = .ok (.iconst 1, 1) := by decide +kernel
theorem dX2_tree_79 : decode cX2_tree 79 = .ok (.iastore, 1) := by decide +kernel
theorem dX2_tree_80 : decode cX2_tree 80 = .ok (.aload_n 0, 1) := by decide +kernel
theorem dX2_tree_81 : decode cX2_tree 81 = .ok (.dup, 1) := by decide +kernel
theorem dX2_tree_82 : decode cX2_tree 82 = .ok (.getfield 175, 3) := by decide +kernel
theorem dX2_tree_85 : decode cX2_tree 85 = .ok (.iconst 1, 1) := by decide +kernel
theorem dX2_tree_86 : decode cX2_tree 86 = .ok (.iadd, 1) := by decide +kernel
theorem dX2_tree_87 : decode cX2_tree 87 = .ok (.putfield 175, 3) := by decide +kernel
theorem dX2_tree_90 : decode cX2_tree 90 = .ok (.aload_n 0, 1) := by decide +kernel
theorem dX2_tree_91 : decode cX2_tree 91 = .ok (.getfield 175, 3) := by decide +kernel
theorem dX2_tree_94 : decode cX2_tree 94 = .ok (.iconst 1, 1) := by decide +kernel
theorem dX2_tree_95 : decode cX2_tree 95 = .ok (.if_icmp .le 35, 3) := by decide +kernel
theorem dX2_tree_98 : decode cX2_tree 98 = .ok (.aload_n 0, 1) := by decide +kernel
theorem dX2_tree_99 : decode cX2_tree 99 = .ok (.getfield 44, 3) := by decide +kernel
theorem dX2_tree_102 : decode cX2_tree 102 = .ok (.aload_n 0, 1) := by decide +kernel
theorem dX2_tree_103 : decode cX2_tree 103 = .ok (.getfield 175, 3) := by decide +kernel
theorem dX2_tree_106 : decode cX2_tree 106 = .ok (.iconst 1, 1) := by decide +kernel
theorem dX2_tree_107 : decode cX2_tree 107 = .ok (.isub, 1) := by decide +kernel
theorem dX2_tree_108 : decode cX2_tree 108 = .ok (.iaload, 1) := by decide +kernel
theorem dX2_tree_109 : decode cX2_tree 109 = .ok (.aload_n 0, 1) := by decide +kernel
theorem dX2_tree_110 : decode cX2_tree 110 = .ok (.getfield 44, 3) := by decide +kernel
theorem dX2_tree_113 : decode cX2_tree 113 = .ok (.aload_n 0, 1) := by decide +kernel
theorem dX2_tree_114 : decode cX2_tree 114 = .ok (.getfield 175, 3) := by decide +kernel
theorem dX2_tree_117 : decode cX2_tree 117 = .ok (.iconst 2, 1) := by decide +kernel
theorem dX2_tree_118 : decode cX2_tree 118 = .ok (.isub, 1) := by decide +kernel
theorem dX2_tree_119 : decode cX2_tree 119 = .ok (.iaload, 1) := by decide +kernel
theorem dX2_tree_120 : decode cX2_tree 120 = .ok (.if_icmp .ne 10, 3) := by decide +kernel
theorem dX2_tree_123 : decode cX2_tree 123 = .ok (.aload_n 0, 1) := by decide +kernel
theorem dX2_tree_124 : decode cX2_tree 124 = .ok (.invokevirtual 182, 3) := by decide +kernel
theorem dX2_tree_127 : decode cX2_tree 127 = .ok (.goto (-37), 3) := by decide +kernel
theorem dX2_tree_130 : decode cX2_tree 130 = .ok (.iinc 3 1, 3) := by decide +kernel
theorem dX2_tree_133 : decode cX2_tree 133 = .ok (.goto (-113), 3) := by decide +kernel
theorem dX2_tree_136 : decode cX2_tree 136 = .ok (.aload_n 0, 1) := by decide +kernel
theorem dX2_tree_137 : decode cX2_tree 137 = .ok (.getfield 175, 3) := by decide +kernel
theorem dX2_tree_140 : decode cX2_tree 140 = .ok (.iconst 1, 1) := by decide +kernel
theorem dX2_tree_141 : decode cX2_tree 141 = .ok (.if_icmp .le 10, 3) := by decide +kernel
theorem dX2_tree_144 : decode cX2_tree 144 = .ok (.aload_n 0, 1) := by decide +kernel
theorem dX2_tree_145 : decode cX2_tree 145 = .ok (.invokevirtual 182, 3) := by decide +kernel
theorem dX2_tree_148 : decode cX2_tree 148 = .ok (.goto (-12), 3) := by decide +kernel
theorem dX2_tree_151 : decode cX2_tree 151 = .ok (.iconst 0, 1) := by decide +kernel
theorem dX2_tree_152 : decode cX2_tree 152 = .ok (.istore_n 3, 1) := by decide +kernel
theorem dX2_tree_153 : decode cX2_tree 153 = .ok (.iload_n 3, 1) := by decide +kernel
theorem dX2_tree_154 : decode cX2_tree 154 = .ok (.bipush 32, 2) := by decide +kernel
theorem dX2_tree_156 : decode cX2_tree 156 = .ok (.if_icmp .ge 21, 3) := by decide +kernel
theorem dX2_tree_159 : decode cX2_tree 159 = .ok (.aload_n 0, 1) := by decide +kernel
theorem dX2_tree_160 : decode cX2_tree 160 = .ok (.getfield 32, 3) := by decide +kernel
theorem dX2_tree_163 : decode cX2_tree 163 = .ok (.iload_n 3, 1) := by decide +kernel
theorem dX2_tree_164 : decode cX2_tree 164 = .ok (.aload_n 0, 1) := by decide +kernel
theorem dX2_tree_165 : decode cX2_tree 165 = .ok (.getfield 41, 3) := by decide +kernel
theorem dX2_tree_168 : decode cX2_tree 168 = .ok (.iload_n 3, 1) := by decide +kernel
theorem dX2_tree_169 : decode cX2_tree 169 = .ok (.iaload, 1) := by decide +kernel
theorem dX2_tree_170 : decode cX2_tree 170 = .ok (.iastore, 1) := by decide +kernel
theorem dX2_tree_171 : decode cX2_tree 171 = .ok (.iinc 3 1, 3) := by decide +kernel
theorem dX2_tree_174 : decode cX2_tree 174 = .ok (.goto (-21), 3) := by decide +kernel
theorem dX2_tree_177 : decode cX2_tree 177 = .ok (.return_, 1) := by decide +kernel
theorem dX2_join_0 : decode cX2_join 0 = .ok (.aload_n 0, 1) := by decide +kernel
theorem dX2_join_1 : decode cX2_join 1 = .ok (.aload_n 0, 1) := by decide +kernel
theorem dX2_join_2 : decode cX2_join 2 = .ok (.getfield 41, 3) := by decide +kernel
theorem dX2_join_5 : decode cX2_join 5 = .ok (.bipush 32, 2) := by decide +kernel
theorem dX2_join_7 : decode cX2_join 7 = .ok (.aload_n 0, 1) := by decide +kernel
theorem dX2_join_8 : decode cX2_join 8 = .ok (.getfield 175, 3) := by decide +kernel
theorem dX2_join_11 : decode cX2_join 11 = .ok (.iconst 2, 1) := by decide +kernel
theorem dX2_join_12 : decode cX2_join 12 = .ok (.isub, 1) := by decide +kernel
theorem dX2_join_13 : decode cX2_join 13 = .ok (.imul, 1) := by decide +kernel
theorem dX2_join_14 : decode cX2_join 14 = .ok (.aload_n 0, 1) := by decide +kernel
theorem dX2_join_15 : decode cX2_join 15 = .ok (.getfield 41, 3) := by decide +kernel
theorem dX2_join_18 : decode cX2_join 18 = .ok (.bipush 32, 2) := by decide +kernel
theorem dX2_join_20 : decode cX2_join 20 = .ok (.aload_n 0, 1) := by decide +kernel
theorem dX2_join_21 : decode cX2_join 21 = .ok (.getfield 175, 3) := by decide +kernel
theorem dX2_join_24 : decode cX2_join 24 = .ok (.iconst 1, 1) := by decide +kernel
theorem dX2_join_25 : decode cX2_join 25 = .ok (.isub, 1) := by decide +kernel
theorem dX2_join_26 : decode cX2_join 26 = .ok (.imul, 1) := by decide +kernel
theorem dX2_join_27 : decode cX2_join 27 = .ok (.invokevirtual 178, 3) := by decide +kernel
theorem dX2_join_30 : decode cX2_join 30 = .ok (.aload_n 0, 1) := by decide +kernel
theorem dX2_join_31 : decode cX2_join 31 = .ok (.dup, 1) := by decide +kernel
theorem dX2_join_32 : decode cX2_join 32 = .ok (.getfield 175, 3) := by decide +kernel
theorem dX2_join_35 : decode cX2_join 35 = .ok (.iconst 1, 1) := by decide +kernel
theorem dX2_join_36 : decode cX2_join 36 = .ok (.isub, 1) := by decide +kernel
theorem dX2_join_37 : decode cX2_join 37 = .ok (.putfield 175, 3) := by decide +kernel
theorem dX2_join_40 : decode cX2_join 40 = .ok (.aload_n 0, 1) := by decide +kernel
theorem dX2_join_41 : decode cX2_join 41 = .ok (.getfield 44, 3) := by decide +kernel
theorem dX2_join_44 : decode cX2_join 44 = .ok (.aload_n 0, 1) := by decide +kernel
theorem dX2_join_45 : decode cX2_join 45 = .ok (.getfield 175, 3) := by decide +kernel
theorem dX2_join_48 : decode cX2_join 48 = .ok (.iconst 1, 1) := by decide +kernel
theorem dX2_join_49 : decode cX2_join 49 = .ok (.isub, 1) := by decide +kernel
theorem dX2_join_50 : decode cX2_join 50 = .ok (.aload_n 0, 1) := by decide +kernel
theorem dX2_join_51 : decode cX2_join 51 = .ok (.getfield 44, 3) := by decide +kernel
theorem dX2_join_54 : decode cX2_join 54 = .ok (.aload_n 0, 1) := by decide +kernel
theorem dX2_join_55 : decode cX2_join 55 = .ok (.getfield 175, 3) := by decide +kernel
theorem dX2_join_58 : decode cX2_join 58 = .ok (.iconst 1, 1) := by decide +kernel
theorem dX2_join_59 : decode cX2_join 59 = .ok (.isub, 1) := by decide +kernel
theorem dX2_join_60 : decode cX2_join 60 = .ok (.iaload, 1) := by decide +kernel
theorem dX2_join_61 : decode cX2_join 61 = .ok (.aload_n 0, 1) := by decide +kernel
theorem dX2_join_62 : decode cX2_join 62 = .ok (.getfield 44, 3) := by decide +kernel
theorem dX2_join_65 : decode cX2_join 65 = .ok (.aload_n 0, 1) := by decide +kernel
theorem dX2_join_66 : decode cX2_join 66 = .ok (.getfield 175, 3) := by decide +kernel
theorem dX2_join_69 : decode cX2_join 69 = .ok (.iaload, 1) := by decide +kernel
theorem dX2_join_70 : decode cX2_join 70 = .ok (.iadd, 1) := by decide +kernel
theorem dX2_join_71 : decode cX2_join 71 = .ok (.iastore, 1) := by decide +kernel
theorem dX2_join_72 : decode cX2_join 72 = .ok (.iconst 0, 1) := by decide +kernel
theorem dX2_join_73 : decode cX2_join 73 = .ok (.istore_n 1, 1) := by decide +kernel
theorem dX2_join_74 : decode cX2_join 74 = .ok (.iload_n 1, 1) := by decide +kernel
theorem dX2_join_75 : decode cX2_join 75 = .ok (.bipush 32, 2) := by decide +kernel
theorem dX2_join_77 : decode cX2_join 77 = .ok (.if_icmp .ge 31, 3) := by decide +kernel
theorem dX2_join_80 : decode cX2_join 80 = .ok (.aload_n 0, 1) := by decide +kernel
theorem dX2_join_81 : decode cX2_join 81 = .ok (.getfield 41, 3) := by decide +kernel
theorem dX2_join_84 : decode cX2_join 84 = .ok (.bipush 32, 2) := by decide +kernel
theorem dX2_join_86 : decode cX2_join 86 = .ok (.aload_n 0, 1) := by decide +kernel
theorem dX2_join_87 : decode cX2_join 87 = .ok (.getfield 175, 3) := by decide +kernel
theorem dX2_join_90 : decode cX2_join 90 = .ok (.iconst 1, 1) := by decide +kernel
theorem dX2_join_91 : decode cX2_join 91 = .ok (.isub, 1) := by decide +kernel
theorem dX2_join_92 : decode cX2_join 92 = .ok (.imul, 1) := by decide +kernel
theorem dX2_join_93 : decode cX2_join 93 = .ok (.iload_n 1, 1) := by decide +kernel
theorem dX2_join_94 : decode cX2_join 94 = .ok (.iadd, 1) := by decide +kernel
theorem dX2_join_95 : decode cX2_join 95 = .ok (.aload_n 0, 1) := by decide +kernel
theorem dX2_join_96 : decode cX2_join 96 = .ok (.getfield 32, 3) := by decide +kernel
theorem dX2_join_99 : decode cX2_join 99 = .ok (.iload_n 1, 1) := by decide +kernel
theorem dX2_join_100 : decode cX2_join 100 = .ok (.iaload, 1) := by decide +kernel
theorem dX2_join_101 : decode cX2_join 101 = .ok (.iastore, 1) := by decide +kernel
theorem dX2_join_102 : decode cX2_join 102 = .ok (.iinc 1 1, 3) := by decide +kernel
theorem dX2_join_105 : decode cX2_join 105 = .ok (.goto (-31), 3) := by decide +kernel
theorem dX2_join_108 : decode cX2_join 108 = .ok (.return_, 1) := by decide +kernel
theorem dX2_node_0 : decode cX2_node 0 = .ok (.aload_n 0, 1) := by decide +kernel
theorem dX2_node_1 : decode cX2_node 1 = .ok (.invokevirtual 165, 3) := by decide +kernel
theorem dX2_node_4 : decode cX2_node 4 = .ok (.aload_n 0, 1) := by decide +kernel
theorem dX2_node_5 : decode cX2_node 5 = .ok (.iconst 1, 1) := by decide +kernel
theorem dX2_node_6 : decode cX2_node 6 = .ok (.invokevirtual 140, 3) := by decide +kernel
theorem dX2_node_9 : decode cX2_node 9 = .ok (.aload_n 0, 1) := by decide +kernel
theorem dX2_node_10 : decode cX2_node 10 = .ok (.aload_n 1, 1) := by decide +kernel
theorem dX2_node_11 : decode cX2_node 11 = .ok (.iload_n 2, 1) := by decide +kernel
theorem dX2_node_12 : decode cX2_node 12 = .ok (.invokevirtual 168, 3) := by decide +kernel
theorem dX2_node_15 : decode cX2_node 15 = .ok (.aload_n 0, 1) := by decide +kernel
theorem dX2_node_16 : decode cX2_node 16 = .ok (.aload_n 3, 1) := by decide +kernel
theorem dX2_node_17 : decode cX2_node 17 = .ok (.iload 4, 2) := by decide +kernel
theorem dX2_node_19 : decode cX2_node 19 = .ok (.invokevirtual 168, 3) := by decide +kernel
theorem dX2_node_22 : decode cX2_node 22 = .ok (.aload_n 0, 1) := by decide +kernel
theorem dX2_node_23 : decode cX2_node 23 = .ok (.invokevirtual 172, 3) := by decide +kernel
theorem dX2_node_26 : decode cX2_node 26 = .ok (.return_, 1) := by decide +kernel
theorem dX2_addRow_0 : decode cX2_addRow 0 = .ok (.iconst 0, 1) := by decide +kernel
theorem dX2_addRow_1 : decode cX2_addRow 1 = .ok (.istore_n 3, 1) := by decide +kernel
theorem dX2_addRow_2 : decode cX2_addRow 2 = .ok (.iload_n 3, 1) := by decide +kernel
theorem dX2_addRow_3 : decode cX2_addRow 3 = .ok (.bipush 32, 2) := by decide +kernel
theorem dX2_addRow_5 : decode cX2_addRow 5 = .ok (.if_icmp .ge 18, 3) := by decide +kernel
theorem dX2_addRow_8 : decode cX2_addRow 8 = .ok (.aload_n 0, 1) := by decide +kernel
theorem dX2_addRow_9 : decode cX2_addRow 9 = .ok (.aload_n 1, 1) := by decide +kernel
theorem dX2_addRow_10 : decode cX2_addRow 10 = .ok (.iload_n 2, 1) := by decide +kernel
theorem dX2_addRow_11 : decode cX2_addRow 11 = .ok (.iload_n 3, 1) := by decide +kernel
theorem dX2_addRow_12 : decode cX2_addRow 12 = .ok (.iadd, 1) := by decide +kernel
theorem dX2_addRow_13 : decode cX2_addRow 13 = .ok (.iaload, 1) := by decide +kernel
theorem dX2_addRow_14 : decode cX2_addRow 14 = .ok (.invokevirtual 140, 3) := by decide +kernel
theorem dX2_addRow_17 : decode cX2_addRow 17 = .ok (.iinc 3 1, 3) := by decide +kernel
theorem dX2_addRow_20 : decode cX2_addRow 20 = .ok (.goto (-18), 3) := by decide +kernel
theorem dX2_addRow_23 : decode cX2_addRow 23 = .ok (.return_, 1) := by decide +kernel
theorem dX2_root_0 : decode cX2_root 0 = .ok (.aload_n 0, 1) := by decide +kernel
theorem dX2_root_1 : decode cX2_root 1 = .ok (.aload_n 0, 1) := by decide +kernel
theorem dX2_root_2 : decode cX2_root 2 = .ok (.iload_n 1, 1) := by decide +kernel
theorem dX2_root_3 : decode cX2_root 3 = .ok (.invokevirtual 196, 3) := by decide +kernel
theorem dX2_root_6 : decode cX2_root 6 = .ok (.ifCond .eq 14, 3) := by decide +kernel
theorem dX2_root_9 : decode cX2_root 9 = .ok (.iload_n 2, 1) := by decide +kernel
theorem dX2_root_10 : decode cX2_root 10 = .ok (.invokestatic 200, 3) := by decide +kernel
theorem dX2_root_13 : decode cX2_root 13 = .ok (.ifCond .eq 7, 3) := by decide +kernel
theorem dX2_root_16 : decode cX2_root 16 = .ok (.iconst 1, 1) := by decide +kernel
theorem dX2_root_17 : decode cX2_root 17 = .ok (.goto 4, 3) := by decide +kernel
theorem dX2_root_20 : decode cX2_root 20 = .ok (.iconst 0, 1) := by decide +kernel
theorem dX2_root_21 : decode cX2_root 21 = .ok (.iconst 1, 1) := by decide +kernel
theorem dX2_root_22 : decode cX2_root 22 = .ok (.iconst 1, 1) := by decide +kernel
theorem dX2_root_23 : decode cX2_root 23 = .ok (.invokevirtual 188, 3) := by decide +kernel
theorem dX2_root_26 : decode cX2_root 26 = .ok (.ifCond .ne 5, 3) := by decide +kernel
theorem dX2_root_29 : decode cX2_root 29 = .ok (.iconst 0, 1) := by decide +kernel
theorem dX2_root_30 : decode cX2_root 30 = .ok (.ireturn, 1) := by decide +kernel
theorem dX2_root_31 : decode cX2_root 31 = .ok (.aload_n 0, 1) := by decide +kernel
theorem dX2_root_32 : decode cX2_root 32 = .ok (.getfield 23, 3) := by decide +kernel
theorem dX2_root_35 : decode cX2_root 35 = .ok (.bipush 32, 2) := by decide +kernel
theorem dX2_root_37 : decode cX2_root 37 = .ok (.iload_n 1, 1) := by decide +kernel
theorem dX2_root_38 : decode cX2_root 38 = .ok (.imul, 1) := by decide +kernel
theorem dX2_root_39 : decode cX2_root 39 = .ok (.iload_n 2, 1) := by decide +kernel
theorem dX2_root_40 : decode cX2_root 40 = .ok (.iadd, 1) := by decide +kernel
theorem dX2_root_41 : decode cX2_root 41 = .ok (.iaload, 1) := by decide +kernel
theorem dX2_root_42 : decode cX2_root 42 = .ok (.ireturn, 1) := by decide +kernel
theorem dX2_isDay_0 : decode cX2_isDay 0 = .ok (.iload_n 1, 1) := by decide +kernel
theorem dX2_isDay_1 : decode cX2_isDay 1 = .ok (.iconst 0, 1) := by decide +kernel
theorem dX2_isDay_2 : decode cX2_isDay 2 = .ok (.aload_n 0, 1) := by decide +kernel
theorem dX2_isDay_3 : decode cX2_isDay 3 = .ok (.getfield 134, 3) := by decide +kernel
theorem dX2_isDay_6 : decode cX2_isDay 6 = .ok (.iconst 1, 1) := by decide +kernel
theorem dX2_isDay_7 : decode cX2_isDay 7 = .ok (.isub, 1) := by decide +kernel
theorem dX2_isDay_8 : decode cX2_isDay 8 = .ok (.invokestatic 130, 3) := by decide +kernel
theorem dX2_isDay_11 : decode cX2_isDay 11 = .ok (.ireturn, 1) := by decide +kernel
theorem dX2_isByte_0 : decode cX2_isByte 0 = .ok (.iload_n 0, 1) := by decide +kernel
theorem dX2_isByte_1 : decode cX2_isByte 1 = .ok (.iconst 0, 1) := by decide +kernel
theorem dX2_isByte_2 : decode cX2_isByte 2 = .ok (.bipush 31, 2) := by decide +kernel
theorem dX2_isByte_4 : decode cX2_isByte 4 = .ok (.invokestatic 130, 3) := by decide +kernel
theorem dX2_isByte_7 : decode cX2_isByte 7 = .ok (.ireturn, 1) := by decide +kernel
theorem dX2_digest_0 : decode cX2_digest 0 = .ok (.aload_n 0, 1) := by decide +kernel
theorem dX2_digest_1 : decode cX2_digest 1 = .ok (.aload_n 0, 1) := by decide +kernel
theorem dX2_digest_2 : decode cX2_digest 2 = .ok (.iload_n 1, 1) := by decide +kernel
theorem dX2_digest_3 : decode cX2_digest 3 = .ok (.invokevirtual 203, 3) := by decide +kernel
theorem dX2_digest_6 : decode cX2_digest 6 = .ok (.ifCond .eq 14, 3) := by decide +kernel
theorem dX2_digest_9 : decode cX2_digest 9 = .ok (.iload_n 2, 1) := by decide +kernel
theorem dX2_digest_10 : decode cX2_digest 10 = .ok (.invokestatic 200, 3) := by decide +kernel
theorem dX2_digest_13 : decode cX2_digest 13 = .ok (.ifCond .eq 7, 3) := by decide +kernel
theorem dX2_digest_16 : decode cX2_digest 16 = .ok (.iconst 1, 1) := by decide +kernel
theorem dX2_digest_17 : decode cX2_digest 17 = .ok (.goto 4, 3) := by decide +kernel
theorem dX2_digest_20 : decode cX2_digest 20 = .ok (.iconst 0, 1) := by decide +kernel
theorem dX2_digest_21 : decode cX2_digest 21 = .ok (.iconst 1, 1) := by decide +kernel
theorem dX2_digest_22 : decode cX2_digest 22 = .ok (.iconst 1, 1) := by decide +kernel
theorem dX2_digest_23 : decode cX2_digest 23 = .ok (.invokevirtual 188, 3) := by decide +kernel
theorem dX2_digest_26 : decode cX2_digest 26 = .ok (.ifCond .ne 5, 3) := by decide +kernel
theorem dX2_digest_29 : decode cX2_digest 29 = .ok (.iconst 0, 1) := by decide +kernel
theorem dX2_digest_30 : decode cX2_digest 30 = .ok (.ireturn, 1) := by decide +kernel
theorem dX2_digest_31 : decode cX2_digest 31 = .ok (.aload_n 0, 1) := by decide +kernel
theorem dX2_digest_32 : decode cX2_digest 32 = .ok (.getfield 13, 3) := by decide +kernel
theorem dX2_digest_35 : decode cX2_digest 35 = .ok (.bipush 32, 2) := by decide +kernel
theorem dX2_digest_37 : decode cX2_digest 37 = .ok (.iload_n 1, 1) := by decide +kernel
theorem dX2_digest_38 : decode cX2_digest 38 = .ok (.imul, 1) := by decide +kernel
theorem dX2_digest_39 : decode cX2_digest 39 = .ok (.iload_n 2, 1) := by decide +kernel
theorem dX2_digest_40 : decode cX2_digest 40 = .ok (.iadd, 1) := by decide +kernel
theorem dX2_digest_41 : decode cX2_digest 41 = .ok (.iaload, 1) := by decide +kernel
theorem dX2_digest_42 : decode cX2_digest 42 = .ok (.ireturn, 1) := by decide +kernel
theorem dX2_isLeaf_0 : decode cX2_isLeaf 0 = .ok (.iload_n 1, 1) := by decide +kernel
theorem dX2_isLeaf_1 : decode cX2_isLeaf 1 = .ok (.iconst 0, 1) := by decide +kernel
theorem dX2_isLeaf_2 : decode cX2_isLeaf 2 = .ok (.aload_n 0, 1) := by decide +kernel
theorem dX2_isLeaf_3 : decode cX2_isLeaf 3 = .ok (.getfield 127, 3) := by decide +kernel
theorem dX2_isLeaf_6 : decode cX2_isLeaf 6 = .ok (.iconst 1, 1) := by decide +kernel
theorem dX2_isLeaf_7 : decode cX2_isLeaf 7 = .ok (.isub, 1) := by decide +kernel
theorem dX2_isLeaf_8 : decode cX2_isLeaf 8 = .ok (.invokestatic 130, 3) := by decide +kernel
theorem dX2_isLeaf_11 : decode cX2_isLeaf 11 = .ok (.ireturn, 1) := by decide +kernel
theorem dX2_count_0 : decode cX2_count 0 = .ok (.aload_n 0, 1) := by decide +kernel
theorem dX2_count_1 : decode cX2_count 1 = .ok (.aload_n 0, 1) := by decide +kernel
theorem dX2_count_2 : decode cX2_count 2 = .ok (.iload_n 1, 1) := by decide +kernel
theorem dX2_count_3 : decode cX2_count 3 = .ok (.invokevirtual 196, 3) := by decide +kernel
theorem dX2_count_6 : decode cX2_count 6 = .ok (.iconst 1, 1) := by decide +kernel
theorem dX2_count_7 : decode cX2_count 7 = .ok (.iconst 1, 1) := by decide +kernel
theorem dX2_count_8 : decode cX2_count 8 = .ok (.invokevirtual 188, 3) := by decide +kernel
theorem dX2_count_11 : decode cX2_count 11 = .ok (.ifCond .ne 5, 3) := by decide +kernel
theorem dX2_count_14 : decode cX2_count 14 = .ok (.iconst 0, 1) := by decide +kernel
theorem dX2_count_15 : decode cX2_count 15 = .ok (.ireturn, 1) := by decide +kernel
theorem dX2_count_16 : decode cX2_count 16 = .ok (.aload_n 0, 1) := by decide +kernel
theorem dX2_count_17 : decode cX2_count 17 = .ok (.getfield 20, 3) := by decide +kernel
theorem dX2_count_20 : decode cX2_count 20 = .ok (.iload_n 1, 1) := by decide +kernel
theorem dX2_count_21 : decode cX2_count 21 = .ok (.iaload, 1) := by decide +kernel
theorem dX2_count_22 : decode cX2_count 22 = .ok (.ireturn, 1) := by decide +kernel
theorem dX2_prove_0 : decode cX2_prove 0 = .ok (.aload_n 0, 1) := by decide +kernel
theorem dX2_prove_1 : decode cX2_prove 1 = .ok (.iload_n 1, 1) := by decide +kernel
theorem dX2_prove_2 : decode cX2_prove 2 = .ok (.invokevirtual 203, 3) := by decide +kernel
theorem dX2_prove_5 : decode cX2_prove 5 = .ok (.ifCond .eq 15, 3) := by decide +kernel
theorem dX2_prove_8 : decode cX2_prove 8 = .ok (.aload_n 0, 1) := by decide +kernel
theorem dX2_prove_9 : decode cX2_prove 9 = .ok (.iload_n 2, 1) := by decide +kernel
theorem dX2_prove_10 : decode cX2_prove 10 = .ok (.invokevirtual 196, 3) := by decide +kernel
theorem dX2_prove_13 : decode cX2_prove 13 = .ok (.ifCond .eq 7, 3) := by decide +kernel
theorem dX2_prove_16 : decode cX2_prove 16 = .ok (.iconst 1, 1) := by decide +kernel
theorem dX2_prove_17 : decode cX2_prove 17 = .ok (.goto 4, 3) := by decide +kernel
theorem dX2_prove_20 : decode cX2_prove 20 = .ok (.iconst 0, 1) := by decide +kernel
theorem dX2_prove_21 : decode cX2_prove 21 = .ok (.istore_n 3, 1) := by decide +kernel
theorem dX2_prove_22 : decode cX2_prove 22 = .ok (.aload_n 0, 1) := by decide +kernel
theorem dX2_prove_23 : decode cX2_prove 23 = .ok (.iload_n 3, 1) := by decide +kernel
theorem dX2_prove_24 : decode cX2_prove 24 = .ok (.iload_n 3, 1) := by decide +kernel
theorem dX2_prove_25 : decode cX2_prove 25 = .ok (.ifCond .eq 17, 3) := by decide +kernel
theorem dX2_prove_28 : decode cX2_prove 28 = .ok (.iload_n 1, 1) := by decide +kernel
theorem dX2_prove_29 : decode cX2_prove 29 = .ok (.aload_n 0, 1) := by decide +kernel
theorem dX2_prove_30 : decode cX2_prove 30 = .ok (.getfield 20, 3) := by decide +kernel
theorem dX2_prove_33 : decode cX2_prove 33 = .ok (.iload_n 2, 1) := by decide +kernel
theorem dX2_prove_34 : decode cX2_prove 34 = .ok (.iaload, 1) := by decide +kernel
theorem dX2_prove_35 : decode cX2_prove 35 = .ok (.if_icmp .ge 7, 3) := by decide +kernel
theorem dX2_prove_38 : decode cX2_prove 38 = .ok (.iconst 1, 1) := by decide +kernel
theorem dX2_prove_39 : decode cX2_prove 39 = .ok (.goto 4, 3) := by decide +kernel
theorem dX2_prove_42 : decode cX2_prove 42 = .ok (.iconst 0, 1) := by decide +kernel
theorem dX2_prove_43 : decode cX2_prove 43 = .ok (.iconst 1, 1) := by decide +kernel
theorem dX2_prove_44 : decode cX2_prove 44 = .ok (.invokevirtual 188, 3) := by decide +kernel
theorem dX2_prove_47 : decode cX2_prove 47 = .ok (.ifCond .ne 5, 3) := by decide +kernel
theorem dX2_prove_50 : decode cX2_prove 50 = .ok (.iconst 0, 1) := by decide +kernel
theorem dX2_prove_51 : decode cX2_prove 51 = .ok (.ireturn, 1) := by decide +kernel
theorem dX2_prove_52 : decode cX2_prove 52 = .ok (.aload_n 0, 1) := by decide +kernel
theorem dX2_prove_53 : decode cX2_prove 53 = .ok (.iload_n 1, 1) := by decide +kernel
theorem dX2_prove_54 : decode cX2_prove 54 = .ok (.aload_n 0, 1) := by decide +kernel
theorem dX2_prove_55 : decode cX2_prove 55 = .ok (.getfield 20, 3) := by decide +kernel
theorem dX2_prove_58 : decode cX2_prove 58 = .ok (.iload_n 2, 1) := by decide +kernel
theorem dX2_prove_59 : decode cX2_prove 59 = .ok (.iaload, 1) := by decide +kernel
theorem dX2_prove_60 : decode cX2_prove 60 = .ok (.invokevirtual 209, 3) := by decide +kernel
theorem dX2_prove_63 : decode cX2_prove 63 = .ok (.aload_n 0, 1) := by decide +kernel
theorem dX2_prove_64 : decode cX2_prove 64 = .ok (.aload_n 0, 1) := by decide +kernel
theorem dX2_prove_65 : decode cX2_prove 65 = .ok (.getfield 206, 3) := by decide +kernel
theorem dX2_prove_68 : decode cX2_prove 68 = .ok (.putfield 212, 3) := by decide +kernel
theorem dX2_prove_71 : decode cX2_prove 71 = .ok (.aload_n 0, 1) := by decide +kernel
theorem dX2_prove_72 : decode cX2_prove 72 = .ok (.iconst 1, 1) := by decide +kernel
theorem dX2_prove_73 : decode cX2_prove 73 = .ok (.putfield 215, 3) := by decide +kernel
theorem dX2_prove_76 : decode cX2_prove 76 = .ok (.iconst 0, 1) := by decide +kernel
theorem dX2_prove_77 : decode cX2_prove 77 = .ok (.istore 4, 2) := by decide +kernel
theorem dX2_prove_79 : decode cX2_prove 79 = .ok (.iload 4, 2) := by decide +kernel
theorem dX2_prove_81 : decode cX2_prove 81 = .ok (.aload_n 0, 1) := by decide +kernel
theorem dX2_prove_82 : decode cX2_prove 82 = .ok (.getfield 206, 3) := by decide +kernel
theorem dX2_prove_85 : decode cX2_prove 85 = .ok (.if_icmp .ge 77, 3) := by decide +kernel
theorem dX2_prove_88 : decode cX2_prove 88 = .ok (.aload_n 0, 1) := by decide +kernel
theorem dX2_prove_89 : decode cX2_prove 89 = .ok (.aload_n 0, 1) := by decide +kernel
theorem dX2_prove_90 : decode cX2_prove 90 = .ok (.getfield 47, 3) := by decide +kernel
theorem dX2_prove_93 : decode cX2_prove 93 = .ok (.aload_n 0, 1) := by decide +kernel
theorem dX2_prove_94 : decode cX2_prove 94 = .ok (.getfield 206, 3) := by decide +kernel
theorem dX2_prove_97 : decode cX2_prove 97 = .ok (.iconst 1, 1) := by decide +kernel
theorem dX2_prove_98 : decode cX2_prove 98 = .ok (.isub, 1) := by decide +kernel
theorem dX2_prove_99 : decode cX2_prove 99 = .ok (.iload 4, 2) := by decide +kernel
theorem dX2_prove_101 : decode cX2_prove 101 = .ok (.isub, 1) := by decide +kernel
theorem dX2_prove_102 : decode cX2_prove 102 = .ok (.iaload, 1) := by decide +kernel
theorem dX2_prove_103 : decode cX2_prove 103 = .ok (.aload_n 0, 1) := by decide +kernel
theorem dX2_prove_104 : decode cX2_prove 104 = .ok (.getfield 50, 3) := by decide +kernel
theorem dX2_prove_107 : decode cX2_prove 107 = .ok (.aload_n 0, 1) := by decide +kernel
theorem dX2_prove_108 : decode cX2_prove 108 = .ok (.getfield 206, 3) := by decide +kernel
theorem dX2_prove_111 : decode cX2_prove 111 = .ok (.iconst 1, 1) := by decide +kernel
theorem dX2_prove_112 : decode cX2_prove 112 = .ok (.isub, 1) := by decide +kernel
theorem dX2_prove_113 : decode cX2_prove 113 = .ok (.iload 4, 2) := by decide +kernel
theorem dX2_prove_115 : decode cX2_prove 115 = .ok (.isub, 1) := by decide +kernel
theorem dX2_prove_116 : decode cX2_prove 116 = .ok (.iaload, 1) := by decide +kernel
theorem dX2_prove_117 : decode cX2_prove 117 = .ok (.invokevirtual 192, 3) := by decide +kernel
theorem dX2_prove_120 : decode cX2_prove 120 = .ok (.iconst 0, 1) := by decide +kernel
theorem dX2_prove_121 : decode cX2_prove 121 = .ok (.istore 5, 2) := by decide +kernel
theorem dX2_prove_123 : decode cX2_prove 123 = .ok (.iload 5, 2) := by decide +kernel
theorem dX2_prove_125 : decode cX2_prove 125 = .ok (.bipush 32, 2) := by decide +kernel
theorem dX2_prove_127 : decode cX2_prove 127 = .ok (.if_icmp .ge 29, 3) := by decide +kernel
theorem dX2_prove_130 : decode cX2_prove 130 = .ok (.aload_n 0, 1) := by decide +kernel
theorem dX2_prove_131 : decode cX2_prove 131 = .ok (.getfield 26, 3) := by decide +kernel
theorem dX2_prove_134 : decode cX2_prove 134 = .ok (.bipush 32, 2) := by decide +kernel
theorem dX2_prove_136 : decode cX2_prove 136 = .ok (.iload 4, 2) := by decide +kernel
theorem dX2_prove_138 : decode cX2_prove 138 = .ok (.imul, 1) := by decide +kernel
theorem dX2_prove_139 : decode cX2_prove 139 = .ok (.iload 5, 2) := by decide +kernel
theorem dX2_prove_141 : decode cX2_prove 141 = .ok (.iadd, 1) := by decide +kernel
theorem dX2_prove_142 : decode cX2_prove 142 = .ok (.aload_n 0, 1) := by decide +kernel
theorem dX2_prove_143 : decode cX2_prove 143 = .ok (.getfield 32, 3) := by decide +kernel
theorem dX2_prove_146 : decode cX2_prove 146 = .ok (.iload 5, 2) := by decide +kernel
theorem dX2_prove_148 : decode cX2_prove 148 = .ok (.iaload, 1) := by decide +kernel
theorem dX2_prove_149 : decode cX2_prove 149 = .ok (.iastore, 1) := by decide +kernel
theorem dX2_prove_150 : decode cX2_prove 150 = .ok (.iinc 5 1, 3) := by decide +kernel
theorem dX2_prove_153 : decode cX2_prove 153 = .ok (.goto (-30), 3) := by decide +kernel
theorem dX2_prove_156 : decode cX2_prove 156 = .ok (.iinc 4 1, 3) := by decide +kernel
theorem dX2_prove_159 : decode cX2_prove 159 = .ok (.goto (-80), 3) := by decide +kernel
theorem dX2_prove_162 : decode cX2_prove 162 = .ok (.aload_n 0, 1) := by decide +kernel
theorem dX2_prove_163 : decode cX2_prove 163 = .ok (.getfield 212, 3) := by decide +kernel
theorem dX2_prove_166 : decode cX2_prove 166 = .ok (.ireturn, 1) := by decide +kernel
theorem dX2_goTo_0 : decode cX2_goTo 0 = .ok (.aload_n 0, 1) := by decide +kernel
theorem dX2_goTo_1 : decode cX2_goTo 1 = .ok (.iconst 0, 1) := by decide +kernel
theorem dX2_goTo_2 : decode cX2_goTo 2 = .ok (.putfield 206, 3) := by decide +kernel
theorem dX2_goTo_5 : decode cX2_goTo 5 = .ok (.iconst 0, 1) := by decide +kernel
theorem dX2_goTo_6 : decode cX2_goTo 6 = .ok (.istore_n 3, 1) := by decide +kernel
theorem dX2_goTo_7 : decode cX2_goTo 7 = .ok (.iload_n 2, 1) := by decide +kernel
theorem dX2_goTo_8 : decode cX2_goTo 8 = .ok (.istore 4, 2) := by decide +kernel
theorem dX2_goTo_10 : decode cX2_goTo 10 = .ok (.iload 4, 2) := by decide +kernel
theorem dX2_goTo_12 : decode cX2_goTo 12 = .ok (.iconst 1, 1) := by decide +kernel
theorem dX2_goTo_13 : decode cX2_goTo 13 = .ok (.if_icmp .le 140, 3) := by decide +kernel
theorem dX2_goTo_16 : decode cX2_goTo 16 = .ok (.iconst 1, 1) := by decide +kernel
theorem dX2_goTo_17 : decode cX2_goTo 17 = .ok (.istore 5, 2) := by decide +kernel
theorem dX2_goTo_19 : decode cX2_goTo 19 = .ok (.iconst 2, 1) := by decide +kernel
theorem dX2_goTo_20 : decode cX2_goTo 20 = .ok (.iload 5, 2) := by decide +kernel
theorem dX2_goTo_22 : decode cX2_goTo 22 = .ok (.imul, 1) := by decide +kernel
theorem dX2_goTo_23 : decode cX2_goTo 23 = .ok (.iload 4, 2) := by decide +kernel
theorem dX2_goTo_25 : decode cX2_goTo 25 = .ok (.if_icmp .ge 12, 3) := by decide +kernel
theorem dX2_goTo_28 : decode cX2_goTo 28 = .ok (.iconst 2, 1) := by decide +kernel
theorem dX2_goTo_29 : decode cX2_goTo 29 = .ok (.iload 5, 2) := by decide +kernel
theorem dX2_goTo_31 : decode cX2_goTo 31 = .ok (.imul, 1) := by decide +kernel
theorem dX2_goTo_32 : decode cX2_goTo 32 = .ok (.istore 5, 2) := by decide +kernel
theorem dX2_goTo_34 : decode cX2_goTo 34 = .ok (.goto (-15), 3) := by decide +kernel
theorem dX2_goTo_37 : decode cX2_goTo 37 = .ok (.iload_n 1, 1) := by decide +kernel
theorem dX2_goTo_38 : decode cX2_goTo 38 = .ok (.iload_n 3, 1) := by decide +kernel
theorem dX2_goTo_39 : decode cX2_goTo 39 = .ok (.iload 5, 2) := by decide +kernel
theorem dX2_goTo_41 : decode cX2_goTo 41 = .ok (.iadd, 1) := by decide +kernel
theorem dX2_goTo_42 : decode cX2_goTo 42 = .ok (.if_icmp .ge 7, 3) := by decide +kernel
theorem dX2_goTo_45 : decode cX2_goTo 45 = .ok (.iconst 1, 1) := by decide +kernel
theorem dX2_goTo_46 : decode cX2_goTo 46 = .ok (.goto 4, 3) := by decide +kernel
theorem dX2_goTo_49 : decode cX2_goTo 49 = .ok (.iconst 0, 1) := by decide +kernel
theorem dX2_goTo_50 : decode cX2_goTo 50 = .ok (.istore 6, 2) := by decide +kernel
theorem dX2_goTo_52 : decode cX2_goTo 52 = .ok (.aload_n 0, 1) := by decide +kernel
theorem dX2_goTo_53 : decode cX2_goTo 53 = .ok (.getfield 53, 3) := by decide +kernel
theorem dX2_goTo_56 : decode cX2_goTo 56 = .ok (.aload_n 0, 1) := by decide +kernel
theorem dX2_goTo_57 : decode cX2_goTo 57 = .ok (.getfield 206, 3) := by decide +kernel
theorem dX2_goTo_60 : decode cX2_goTo 60 = .ok (.iload 6, 2) := by decide +kernel
theorem dX2_goTo_62 : decode cX2_goTo 62 = .ok (.bastore, 1) := by decide +kernel
theorem dX2_goTo_63 : decode cX2_goTo 63 = .ok (.aload_n 0, 1) := by decide +kernel
theorem dX2_goTo_64 : decode cX2_goTo 64 = .ok (.getfield 47, 3) := by decide +kernel
theorem dX2_goTo_67 : decode cX2_goTo 67 = .ok (.aload_n 0, 1) := by decide +kernel
theorem dX2_goTo_68 : decode cX2_goTo 68 = .ok (.getfield 206, 3) := by decide +kernel
theorem dX2_goTo_71 : decode cX2_goTo 71 = .ok (.iload 6, 2) := by decide +kernel
theorem dX2_goTo_73 : decode cX2_goTo 73 = .ok (.ifCond .eq 10, 3) := by decide +kernel
theorem dX2_goTo_76 : decode cX2_goTo 76 = .ok (.iload_n 3, 1) := by decide +kernel
theorem dX2_goTo_77 : decode cX2_goTo 77 = .ok (.iload 5, 2) := by decide +kernel
theorem dX2_goTo_79 : decode cX2_goTo 79 = .ok (.iadd, 1) := by decide +kernel
theorem dX2_goTo_80 : decode cX2_goTo 80 = .ok (.goto 4, 3) := by decide +kernel
theorem dX2_goTo_83 : decode cX2_goTo 83 = .ok (.iload_n 3, 1) := by decide +kernel
theorem dX2_goTo_84 : decode cX2_goTo 84 = .ok (.iastore, 1) := by decide +kernel
theorem dX2_goTo_85 : decode cX2_goTo 85 = .ok (.aload_n 0, 1) := by decide +kernel
theorem dX2_goTo_86 : decode cX2_goTo 86 = .ok (.getfield 50, 3) := by decide +kernel
theorem dX2_goTo_89 : decode cX2_goTo 89 = .ok (.aload_n 0, 1) := by decide +kernel
theorem dX2_goTo_90 : decode cX2_goTo 90 = .ok (.getfield 206, 3) := by decide +kernel
theorem dX2_goTo_93 : decode cX2_goTo 93 = .ok (.iload 6, 2) := by decide +kernel
theorem dX2_goTo_95 : decode cX2_goTo 95 = .ok (.ifCond .eq 11, 3) := by decide +kernel
theorem dX2_goTo_98 : decode cX2_goTo 98 = .ok (.iload 4, 2) := by decide +kernel
theorem dX2_goTo_100 : decode cX2_goTo 100 = .ok (.iload 5, 2) := by decide +kernel
theorem dX2_goTo_102 : decode cX2_goTo 102 = .ok (.isub, 1) := by decide +kernel
theorem dX2_goTo_103 : decode cX2_goTo 103 = .ok (.goto 5, 3) := by decide +kernel
theorem dX2_goTo_106 : decode cX2_goTo 106 = .ok (.iload 5, 2) := by decide +kernel
theorem dX2_goTo_108 : decode cX2_goTo 108 = .ok (.iastore, 1) := by decide +kernel
theorem dX2_goTo_109 : decode cX2_goTo 109 = .ok (.aload_n 0, 1) := by decide +kernel
theorem dX2_goTo_110 : decode cX2_goTo 110 = .ok (.dup, 1) := by decide +kernel
theorem dX2_goTo_111 : decode cX2_goTo 111 = .ok (.getfield 206, 3) := by decide +kernel
theorem dX2_goTo_114 : decode cX2_goTo 114 = .ok (.iconst 1, 1) := by decide +kernel
theorem dX2_goTo_115 : decode cX2_goTo 115 = .ok (.iadd, 1) := by decide +kernel
theorem dX2_goTo_116 : decode cX2_goTo 116 = .ok (.putfield 206, 3) := by decide +kernel
theorem dX2_goTo_119 : decode cX2_goTo 119 = .ok (.iload 6, 2) := by decide +kernel
theorem dX2_goTo_121 : decode cX2_goTo 121 = .ok (.ifCond .eq 7, 3) := by decide +kernel
theorem dX2_goTo_124 : decode cX2_goTo 124 = .ok (.iload_n 3, 1) := by decide +kernel
theorem dX2_goTo_125 : decode cX2_goTo 125 = .ok (.goto 7, 3) := by decide +kernel
theorem dX2_goTo_128 : decode cX2_goTo 128 = .ok (.iload_n 3, 1) := by decide +kernel
theorem dX2_goTo_129 : decode cX2_goTo 129 = .ok (.iload 5, 2) := by decide +kernel
theorem dX2_goTo_131 : decode cX2_goTo 131 = .ok (.iadd, 1) := by decide +kernel
theorem dX2_goTo_132 : decode cX2_goTo 132 = .ok (.istore_n 3, 1) := by decide +kernel
theorem dX2_goTo_133 : decode cX2_goTo 133 = .ok (.iload 6, 2) := by decide +kernel
theorem dX2_goTo_135 : decode cX2_goTo 135 = .ok (.ifCond .eq 8, 3) := by decide +kernel
theorem dX2_goTo_138 : decode cX2_goTo 138 = .ok (.iload 5, 2) := by decide +kernel
theorem dX2_goTo_140 : decode cX2_goTo 140 = .ok (.goto 8, 3) := by decide +kernel
theorem dX2_goTo_143 : decode cX2_goTo 143 = .ok (.iload 4, 2) := by decide +kernel
theorem dX2_goTo_145 : decode cX2_goTo 145 = .ok (.iload 5, 2) := by decide +kernel
theorem dX2_goTo_147 : decode cX2_goTo 147 = .ok (.isub, 1) := by decide +kernel
theorem dX2_goTo_148 : decode cX2_goTo 148 = .ok (.istore 4, 2) := by decide +kernel
theorem dX2_goTo_150 : decode cX2_goTo 150 = .ok (.goto (-140), 3) := by decide +kernel
theorem dX2_goTo_153 : decode cX2_goTo 153 = .ok (.return_, 1) := by decide +kernel
theorem dX2_proof_0 : decode cX2_proof 0 = .ok (.aload_n 0, 1) := by decide +kernel
theorem dX2_proof_1 : decode cX2_proof 1 = .ok (.iload_n 1, 1) := by decide +kernel
theorem dX2_proof_2 : decode cX2_proof 2 = .ok (.iconst 0, 1) := by decide +kernel
theorem dX2_proof_3 : decode cX2_proof 3 = .ok (.aload_n 0, 1) := by decide +kernel
theorem dX2_proof_4 : decode cX2_proof 4 = .ok (.getfield 212, 3) := by decide +kernel
theorem dX2_proof_7 : decode cX2_proof 7 = .ok (.iconst 1, 1) := by decide +kernel
theorem dX2_proof_8 : decode cX2_proof 8 = .ok (.isub, 1) := by decide +kernel
theorem dX2_proof_9 : decode cX2_proof 9 = .ok (.invokestatic 130, 3) := by decide +kernel
theorem dX2_proof_12 : decode cX2_proof 12 = .ok (.ifCond .eq 14, 3) := by decide +kernel
theorem dX2_proof_15 : decode cX2_proof 15 = .ok (.iload_n 2, 1) := by decide +kernel
theorem dX2_proof_16 : decode cX2_proof 16 = .ok (.invokestatic 200, 3) := by decide +kernel
theorem dX2_proof_19 : decode cX2_proof 19 = .ok (.ifCond .eq 7, 3) := by decide +kernel
theorem dX2_proof_22 : decode cX2_proof 22 = .ok (.iconst 1, 1) := by decide +kernel
theorem dX2_proof_23 : decode cX2_proof 23 = .ok (.goto 4, 3) := by decide +kernel
theorem dX2_proof_26 : decode cX2_proof 26 = .ok (.iconst 0, 1) := by decide +kernel
theorem dX2_proof_27 : decode cX2_proof 27 = .ok (.iconst 1, 1) := by decide +kernel
theorem dX2_proof_28 : decode cX2_proof 28 = .ok (.iconst 1, 1) := by decide +kernel
theorem dX2_proof_29 : decode cX2_proof 29 = .ok (.invokevirtual 188, 3) := by decide +kernel
theorem dX2_proof_32 : decode cX2_proof 32 = .ok (.ifCond .ne 5, 3) := by decide +kernel
theorem dX2_proof_35 : decode cX2_proof 35 = .ok (.iconst 0, 1) := by decide +kernel
theorem dX2_proof_36 : decode cX2_proof 36 = .ok (.ireturn, 1) := by decide +kernel
theorem dX2_proof_37 : decode cX2_proof 37 = .ok (.aload_n 0, 1) := by decide +kernel
theorem dX2_proof_38 : decode cX2_proof 38 = .ok (.getfield 26, 3) := by decide +kernel
theorem dX2_proof_41 : decode cX2_proof 41 = .ok (.bipush 32, 2) := by decide +kernel
theorem dX2_proof_43 : decode cX2_proof 43 = .ok (.iload_n 1, 1) := by decide +kernel
theorem dX2_proof_44 : decode cX2_proof 44 = .ok (.imul, 1) := by decide +kernel
theorem dX2_proof_45 : decode cX2_proof 45 = .ok (.iload_n 2, 1) := by decide +kernel
theorem dX2_proof_46 : decode cX2_proof 46 = .ok (.iadd, 1) := by decide +kernel
theorem dX2_proof_47 : decode cX2_proof 47 = .ok (.iaload, 1) := by decide +kernel
theorem dX2_proof_48 : decode cX2_proof 48 = .ok (.ireturn, 1) := by decide +kernel
theorem dX2_bend_0 : decode cX2_bend 0 = .ok (.aload_n 0, 1) := by decide +kernel
theorem dX2_bend_1 : decode cX2_bend 1 = .ok (.iload_n 1, 1) := by decide +kernel
theorem dX2_bend_2 : decode cX2_bend 2 = .ok (.iconst 0, 1) := by decide +kernel
theorem dX2_bend_3 : decode cX2_bend 3 = .ok (.aload_n 0, 1) := by decide +kernel
theorem dX2_bend_4 : decode cX2_bend 4 = .ok (.getfield 212, 3) := by decide +kernel
theorem dX2_bend_7 : decode cX2_bend 7 = .ok (.iconst 1, 1) := by decide +kernel
theorem dX2_bend_8 : decode cX2_bend 8 = .ok (.isub, 1) := by decide +kernel
theorem dX2_bend_9 : decode cX2_bend 9 = .ok (.invokestatic 130, 3) := by decide +kernel
theorem dX2_bend_12 : decode cX2_bend 12 = .ok (.ifCond .eq 14, 3) := by decide +kernel
theorem dX2_bend_15 : decode cX2_bend 15 = .ok (.iload_n 2, 1) := by decide +kernel
theorem dX2_bend_16 : decode cX2_bend 16 = .ok (.invokestatic 200, 3) := by decide +kernel
theorem dX2_bend_19 : decode cX2_bend 19 = .ok (.ifCond .eq 7, 3) := by decide +kernel
theorem dX2_bend_22 : decode cX2_bend 22 = .ok (.iconst 1, 1) := by decide +kernel
theorem dX2_bend_23 : decode cX2_bend 23 = .ok (.goto 4, 3) := by decide +kernel
theorem dX2_bend_26 : decode cX2_bend 26 = .ok (.iconst 0, 1) := by decide +kernel
theorem dX2_bend_27 : decode cX2_bend 27 = .ok (.iload_n 3, 1) := by decide +kernel
theorem dX2_bend_28 : decode cX2_bend 28 = .ok (.iconst 1, 1) := by decide +kernel
theorem dX2_bend_29 : decode cX2_bend 29 = .ok (.sipush 255, 3) := by decide +kernel
theorem dX2_bend_32 : decode cX2_bend 32 = .ok (.invokestatic 130, 3) := by decide +kernel
theorem dX2_bend_35 : decode cX2_bend 35 = .ok (.iconst 1, 1) := by decide +kernel
theorem dX2_bend_36 : decode cX2_bend 36 = .ok (.invokevirtual 188, 3) := by decide +kernel
theorem dX2_bend_39 : decode cX2_bend 39 = .ok (.ifCond .eq 27, 3) := by decide +kernel
theorem dX2_bend_42 : decode cX2_bend 42 = .ok (.aload_n 0, 1) := by decide +kernel
theorem dX2_bend_43 : decode cX2_bend 43 = .ok (.getfield 26, 3) := by decide +kernel
theorem dX2_bend_46 : decode cX2_bend 46 = .ok (.bipush 32, 2) := by decide +kernel
theorem dX2_bend_48 : decode cX2_bend 48 = .ok (.iload_n 1, 1) := by decide +kernel
theorem dX2_bend_49 : decode cX2_bend 49 = .ok (.imul, 1) := by decide +kernel
theorem dX2_bend_50 : decode cX2_bend 50 = .ok (.iload_n 2, 1) := by decide +kernel
theorem dX2_bend_51 : decode cX2_bend 51 = .ok (.iadd, 1) := by decide +kernel
theorem dX2_bend_52 : decode cX2_bend 52 = .ok (.aload_n 0, 1) := by decide +kernel
theorem dX2_bend_53 : decode cX2_bend 53 = .ok (.getfield 26, 3) := by decide +kernel
theorem dX2_bend_56 : decode cX2_bend 56 = .ok (.bipush 32, 2) := by decide +kernel
theorem dX2_bend_58 : decode cX2_bend 58 = .ok (.iload_n 1, 1) := by decide +kernel
theorem dX2_bend_59 : decode cX2_bend 59 = .ok (.imul, 1) := by decide +kernel
theorem dX2_bend_60 : decode cX2_bend 60 = .ok (.iload_n 2, 1) := by decide +kernel
theorem dX2_bend_61 : decode cX2_bend 61 = .ok (.iadd, 1) := by decide +kernel
theorem dX2_bend_62 : decode cX2_bend 62 = .ok (.iaload, 1) := by decide +kernel
theorem dX2_bend_63 : decode cX2_bend 63 = .ok (.iload_n 3, 1) := by decide +kernel
theorem dX2_bend_64 : decode cX2_bend 64 = .ok (.ixor, 1) := by decide +kernel
theorem dX2_bend_65 : decode cX2_bend 65 = .ok (.iastore, 1) := by decide +kernel
theorem dX2_bend_66 : decode cX2_bend 66 = .ok (.return_, 1) := by decide +kernel
theorem dX2_check_0 : decode cX2_check 0 = .ok (.aload_n 0, 1) := by decide +kernel
theorem dX2_check_1 : decode cX2_check 1 = .ok (.aload_n 0, 1) := by decide +kernel
theorem dX2_check_2 : decode cX2_check 2 = .ok (.iload_n 1, 1) := by decide +kernel
theorem dX2_check_3 : decode cX2_check 3 = .ok (.invokevirtual 203, 3) := by decide +kernel
theorem dX2_check_6 : decode cX2_check 6 = .ok (.ifCond .eq 15, 3) := by decide +kernel
theorem dX2_check_9 : decode cX2_check 9 = .ok (.aload_n 0, 1) := by decide +kernel
theorem dX2_check_10 : decode cX2_check 10 = .ok (.iload_n 2, 1) := by decide +kernel
theorem dX2_check_11 : decode cX2_check 11 = .ok (.invokevirtual 196, 3) := by decide +kernel
theorem dX2_check_14 : decode cX2_check 14 = .ok (.ifCond .eq 7, 3) := by decide +kernel
theorem dX2_check_17 : decode cX2_check 17 = .ok (.iconst 1, 1) := by decide +kernel
theorem dX2_check_18 : decode cX2_check 18 = .ok (.goto 4, 3) := by decide +kernel
theorem dX2_check_21 : decode cX2_check 21 = .ok (.iconst 0, 1) := by decide +kernel
theorem dX2_check_22 : decode cX2_check 22 = .ok (.aload_n 0, 1) := by decide +kernel
theorem dX2_check_23 : decode cX2_check 23 = .ok (.getfield 215, 3) := by decide +kernel
theorem dX2_check_26 : decode cX2_check 26 = .ok (.iload_n 3, 1) := by decide +kernel
theorem dX2_check_27 : decode cX2_check 27 = .ok (.ifCond .lt 13, 3) := by decide +kernel
theorem dX2_check_30 : decode cX2_check 30 = .ok (.iload_n 3, 1) := by decide +kernel
theorem dX2_check_31 : decode cX2_check 31 = .ok (.iload 4, 2) := by decide +kernel
theorem dX2_check_33 : decode cX2_check 33 = .ok (.if_icmp .ge 7, 3) := by decide +kernel
theorem dX2_check_36 : decode cX2_check 36 = .ok (.iconst 1, 1) := by decide +kernel
theorem dX2_check_37 : decode cX2_check 37 = .ok (.goto 4, 3) := by decide +kernel
theorem dX2_check_40 : decode cX2_check 40 = .ok (.iconst 0, 1) := by decide +kernel
theorem dX2_check_41 : decode cX2_check 41 = .ok (.invokevirtual 188, 3) := by decide +kernel
theorem dX2_check_44 : decode cX2_check 44 = .ok (.ifCond .ne 5, 3) := by decide +kernel
theorem dX2_check_47 : decode cX2_check 47 = .ok (.iconst 0, 1) := by decide +kernel
theorem dX2_check_48 : decode cX2_check 48 = .ok (.ireturn, 1) := by decide +kernel
theorem dX2_check_49 : decode cX2_check 49 = .ok (.iload 4, 2) := by decide +kernel
theorem dX2_check_51 : decode cX2_check 51 = .ok (.aload_n 0, 1) := by decide +kernel
theorem dX2_check_52 : decode cX2_check 52 = .ok (.getfield 20, 3) := by decide +kernel
theorem dX2_check_55 : decode cX2_check 55 = .ok (.iload_n 2, 1) := by decide +kernel
theorem dX2_check_56 : decode cX2_check 56 = .ok (.iaload, 1) := by decide +kernel
theorem dX2_check_57 : decode cX2_check 57 = .ok (.if_icmp .eq 5, 3) := by decide +kernel
theorem dX2_check_60 : decode cX2_check 60 = .ok (.iconst 1, 1) := by decide +kernel
theorem dX2_check_61 : decode cX2_check 61 = .ok (.ireturn, 1) := by decide +kernel
theorem dX2_check_62 : decode cX2_check 62 = .ok (.aload_n 0, 1) := by decide +kernel
theorem dX2_check_63 : decode cX2_check 63 = .ok (.iload_n 3, 1) := by decide +kernel
theorem dX2_check_64 : decode cX2_check 64 = .ok (.iload 4, 2) := by decide +kernel
theorem dX2_check_66 : decode cX2_check 66 = .ok (.invokevirtual 209, 3) := by decide +kernel
theorem dX2_check_69 : decode cX2_check 69 = .ok (.aload_n 0, 1) := by decide +kernel
theorem dX2_check_70 : decode cX2_check 70 = .ok (.getfield 206, 3) := by decide +kernel
theorem dX2_check_73 : decode cX2_check 73 = .ok (.aload_n 0, 1) := by decide +kernel
theorem dX2_check_74 : decode cX2_check 74 = .ok (.getfield 212, 3) := by decide +kernel
theorem dX2_check_77 : decode cX2_check 77 = .ok (.if_icmp .eq 5, 3) := by decide +kernel
theorem dX2_check_80 : decode cX2_check 80 = .ok (.iconst 2, 1) := by decide +kernel
theorem dX2_check_81 : decode cX2_check 81 = .ok (.ireturn, 1) := by decide +kernel
theorem dX2_check_82 : decode cX2_check 82 = .ok (.iconst 0, 1) := by decide +kernel
theorem dX2_check_83 : decode cX2_check 83 = .ok (.istore 5, 2) := by decide +kernel
theorem dX2_check_85 : decode cX2_check 85 = .ok (.iload 5, 2) := by decide +kernel
theorem dX2_check_87 : decode cX2_check 87 = .ok (.bipush 32, 2) := by decide +kernel
theorem dX2_check_89 : decode cX2_check 89 = .ok (.if_icmp .ge 28, 3) := by decide +kernel
theorem dX2_check_92 : decode cX2_check 92 = .ok (.aload_n 0, 1) := by decide +kernel
theorem dX2_check_93 : decode cX2_check 93 = .ok (.getfield 41, 3) := by decide +kernel
theorem dX2_check_96 : decode cX2_check 96 = .ok (.iload 5, 2) := by decide +kernel
theorem dX2_check_98 : decode cX2_check 98 = .ok (.aload_n 0, 1) := by decide +kernel
theorem dX2_check_99 : decode cX2_check 99 = .ok (.getfield 13, 3) := by decide +kernel
theorem dX2_check_102 : decode cX2_check 102 = .ok (.bipush 32, 2) := by decide +kernel
theorem dX2_check_104 : decode cX2_check 104 = .ok (.iload_n 1, 1) := by decide +kernel
theorem dX2_check_105 : decode cX2_check 105 = .ok (.imul, 1) := by decide +kernel
theorem dX2_check_106 : decode cX2_check 106 = .ok (.iload 5, 2) := by decide +kernel
theorem dX2_check_108 : decode cX2_check 108 = .ok (.iadd, 1) := by decide +kernel
theorem dX2_check_109 : decode cX2_check 109 = .ok (.iaload, 1) := by decide +kernel
theorem dX2_check_110 : decode cX2_check 110 = .ok (.iastore, 1) := by decide +kernel
theorem dX2_check_111 : decode cX2_check 111 = .ok (.iinc 5 1, 3) := by decide +kernel
theorem dX2_check_114 : decode cX2_check 114 = .ok (.goto (-29), 3) := by decide +kernel
theorem dX2_check_117 : decode cX2_check 117 = .ok (.iconst 0, 1) := by decide +kernel
theorem dX2_check_118 : decode cX2_check 118 = .ok (.istore 5, 2) := by decide +kernel
theorem dX2_check_120 : decode cX2_check 120 = .ok (.iload 5, 2) := by decide +kernel
theorem dX2_check_122 : decode cX2_check 122 = .ok (.aload_n 0, 1) := by decide +kernel
theorem dX2_check_123 : decode cX2_check 123 = .ok (.getfield 206, 3) := by decide +kernel
theorem dX2_check_126 : decode cX2_check 126 = .ok (.if_icmp .ge 95, 3) := by decide +kernel
theorem dX2_check_129 : decode cX2_check 129 = .ok (.aload_n 0, 1) := by decide +kernel
theorem dX2_check_130 : decode cX2_check 130 = .ok (.getfield 53, 3) := by decide +kernel
theorem dX2_check_133 : decode cX2_check 133 = .ok (.aload_n 0, 1) := by decide +kernel
theorem dX2_check_134 : decode cX2_check 134 = .ok (.getfield 206, 3) := by decide +kernel
theorem dX2_check_137 : decode cX2_check 137 = .ok (.iconst 1, 1) := by decide +kernel
theorem dX2_check_138 : decode cX2_check 138 = .ok (.isub, 1) := by decide +kernel
theorem dX2_check_139 : decode cX2_check 139 = .ok (.iload 5, 2) := by decide +kernel
theorem dX2_check_141 : decode cX2_check 141 = .ok (.isub, 1) := by decide +kernel
theorem dX2_check_142 : decode cX2_check 142 = .ok (.baload, 1) := by decide +kernel
theorem dX2_check_143 : decode cX2_check 143 = .ok (.ifCond .eq 24, 3) := by decide +kernel
theorem dX2_check_146 : decode cX2_check 146 = .ok (.aload_n 0, 1) := by decide +kernel
theorem dX2_check_147 : decode cX2_check 147 = .ok (.aload_n 0, 1) := by decide +kernel
theorem dX2_check_148 : decode cX2_check 148 = .ok (.getfield 41, 3) := by decide +kernel
theorem dX2_check_151 : decode cX2_check 151 = .ok (.iconst 0, 1) := by decide +kernel
theorem dX2_check_152 : decode cX2_check 152 = .ok (.aload_n 0, 1) := by decide +kernel
theorem dX2_check_153 : decode cX2_check 153 = .ok (.getfield 26, 3) := by decide +kernel
theorem dX2_check_156 : decode cX2_check 156 = .ok (.bipush 32, 2) := by decide +kernel
theorem dX2_check_158 : decode cX2_check 158 = .ok (.iload 5, 2) := by decide +kernel
theorem dX2_check_160 : decode cX2_check 160 = .ok (.imul, 1) := by decide +kernel
theorem dX2_check_161 : decode cX2_check 161 = .ok (.invokevirtual 178, 3) := by decide +kernel
theorem dX2_check_164 : decode cX2_check 164 = .ok (.goto 21, 3) := by decide +kernel
theorem dX2_check_167 : decode cX2_check 167 = .ok (.aload_n 0, 1) := by decide +kernel
theorem dX2_check_168 : decode cX2_check 168 = .ok (.aload_n 0, 1) := by decide +kernel
theorem dX2_check_169 : decode cX2_check 169 = .ok (.getfield 26, 3) := by decide +kernel
theorem dX2_check_172 : decode cX2_check 172 = .ok (.bipush 32, 2) := by decide +kernel
theorem dX2_check_174 : decode cX2_check 174 = .ok (.iload 5, 2) := by decide +kernel
theorem dX2_check_176 : decode cX2_check 176 = .ok (.imul, 1) := by decide +kernel
theorem dX2_check_177 : decode cX2_check 177 = .ok (.aload_n 0, 1) := by decide +kernel
theorem dX2_check_178 : decode cX2_check 178 = .ok (.getfield 41, 3) := by decide +kernel
theorem dX2_check_181 : decode cX2_check 181 = .ok (.iconst 0, 1) := by decide +kernel
theorem dX2_check_182 : decode cX2_check 182 = .ok (.invokevirtual 178, 3) := by decide +kernel
theorem dX2_check_185 : decode cX2_check 185 = .ok (.iconst 0, 1) := by decide +kernel
theorem dX2_check_186 : decode cX2_check 186 = .ok (.istore 6, 2) := by decide +kernel
theorem dX2_check_188 : decode cX2_check 188 = .ok (.iload 6, 2) := by decide +kernel
theorem dX2_check_190 : decode cX2_check 190 = .ok (.bipush 32, 2) := by decide +kernel
theorem dX2_check_192 : decode cX2_check 192 = .ok (.if_icmp .ge 23, 3) := by decide +kernel
theorem dX2_check_195 : decode cX2_check 195 = .ok (.aload_n 0, 1) := by decide +kernel
theorem dX2_check_196 : decode cX2_check 196 = .ok (.getfield 41, 3) := by decide +kernel
theorem dX2_check_199 : decode cX2_check 199 = .ok (.iload 6, 2) := by decide +kernel
theorem dX2_check_201 : decode cX2_check 201 = .ok (.aload_n 0, 1) := by decide +kernel
theorem dX2_check_202 : decode cX2_check 202 = .ok (.getfield 32, 3) := by decide +kernel
theorem dX2_check_205 : decode cX2_check 205 = .ok (.iload 6, 2) := by decide +kernel
theorem dX2_check_207 : decode cX2_check 207 = .ok (.iaload, 1) := by decide +kernel
theorem dX2_check_208 : decode cX2_check 208 = .ok (.iastore, 1) := by decide +kernel
theorem dX2_check_209 : decode cX2_check 209 = .ok (.iinc 6 1, 3) := by decide +kernel
theorem dX2_check_212 : decode cX2_check 212 = .ok (.goto (-24), 3) := by decide +kernel
theorem dX2_check_215 : decode cX2_check 215 = .ok (.iinc 5 1, 3) := by decide +kernel
theorem dX2_check_218 : decode cX2_check 218 = .ok (.goto (-98), 3) := by decide +kernel
theorem dX2_check_221 : decode cX2_check 221 = .ok (.iconst 0, 1) := by decide +kernel
theorem dX2_check_222 : decode cX2_check 222 = .ok (.istore 5, 2) := by decide +kernel
theorem dX2_check_224 : decode cX2_check 224 = .ok (.iload 5, 2) := by decide +kernel
theorem dX2_check_226 : decode cX2_check 226 = .ok (.bipush 32, 2) := by decide +kernel
theorem dX2_check_228 : decode cX2_check 228 = .ok (.if_icmp .ge 23, 3) := by decide +kernel
theorem dX2_check_231 : decode cX2_check 231 = .ok (.aload_n 0, 1) := by decide +kernel
theorem dX2_check_232 : decode cX2_check 232 = .ok (.getfield 32, 3) := by decide +kernel
theorem dX2_check_235 : decode cX2_check 235 = .ok (.iload 5, 2) := by decide +kernel
theorem dX2_check_237 : decode cX2_check 237 = .ok (.aload_n 0, 1) := by decide +kernel
theorem dX2_check_238 : decode cX2_check 238 = .ok (.getfield 41, 3) := by decide +kernel
theorem dX2_check_241 : decode cX2_check 241 = .ok (.iload 5, 2) := by decide +kernel
theorem dX2_check_243 : decode cX2_check 243 = .ok (.iaload, 1) := by decide +kernel
theorem dX2_check_244 : decode cX2_check 244 = .ok (.iastore, 1) := by decide +kernel
theorem dX2_check_245 : decode cX2_check 245 = .ok (.iinc 5 1, 3) := by decide +kernel
theorem dX2_check_248 : decode cX2_check 248 = .ok (.goto (-24), 3) := by decide +kernel
theorem dX2_check_251 : decode cX2_check 251 = .ok (.aload_n 0, 1) := by decide +kernel
theorem dX2_check_252 : decode cX2_check 252 = .ok (.aload_n 0, 1) := by decide +kernel
theorem dX2_check_253 : decode cX2_check 253 = .ok (.getfield 23, 3) := by decide +kernel
theorem dX2_check_256 : decode cX2_check 256 = .ok (.bipush 32, 2) := by decide +kernel
theorem dX2_check_258 : decode cX2_check 258 = .ok (.iload_n 2, 1) := by decide +kernel
theorem dX2_check_259 : decode cX2_check 259 = .ok (.imul, 1) := by decide +kernel
theorem dX2_check_260 : decode cX2_check 260 = .ok (.invokevirtual 219, 3) := by decide +kernel
theorem dX2_check_263 : decode cX2_check 263 = .ok (.ifCond .eq 7, 3) := by decide +kernel
theorem dX2_check_266 : decode cX2_check 266 = .ok (.iconst 0, 1) := by decide +kernel
theorem dX2_check_267 : decode cX2_check 267 = .ok (.goto 4, 3) := by decide +kernel
theorem dX2_check_270 : decode cX2_check 270 = .ok (.iconst 3, 1) := by decide +kernel
theorem dX2_check_271 : decode cX2_check 271 = .ok (.ireturn, 1) := by decide +kernel
theorem dX2_isOut_0 : decode cX2_isOut 0 = .ok (.iconst 0, 1) := by decide +kernel
theorem dX2_isOut_1 : decode cX2_isOut 1 = .ok (.istore_n 3, 1) := by decide +kernel
theorem dX2_isOut_2 : decode cX2_isOut 2 = .ok (.iload_n 3, 1) := by decide +kernel
theorem dX2_isOut_3 : decode cX2_isOut 3 = .ok (.bipush 32, 2) := by decide +kernel
theorem dX2_isOut_5 : decode cX2_isOut 5 = .ok (.if_icmp .ge 25, 3) := by decide +kernel
theorem dX2_isOut_8 : decode cX2_isOut 8 = .ok (.aload_n 1, 1) := by decide +kernel
theorem dX2_isOut_9 : decode cX2_isOut 9 = .ok (.iload_n 2, 1) := by decide +kernel
theorem dX2_isOut_10 : decode cX2_isOut 10 = .ok (.iload_n 3, 1) := by decide +kernel
theorem dX2_isOut_11 : decode cX2_isOut 11 = .ok (.iadd, 1) := by decide +kernel
theorem dX2_isOut_12 : decode cX2_isOut 12 = .ok (.iaload, 1) := by decide +kernel
theorem dX2_isOut_13 : decode cX2_isOut 13 = .ok (.aload_n 0, 1) := by decide +kernel
theorem dX2_isOut_14 : decode cX2_isOut 14 = .ok (.getfield 32, 3) := by decide +kernel
theorem dX2_isOut_17 : decode cX2_isOut 17 = .ok (.iload_n 3, 1) := by decide +kernel
theorem dX2_isOut_18 : decode cX2_isOut 18 = .ok (.iaload, 1) := by decide +kernel
theorem dX2_isOut_19 : decode cX2_isOut 19 = .ok (.if_icmp .eq 5, 3) := by decide +kernel
theorem dX2_isOut_22 : decode cX2_isOut 22 = .ok (.iconst 0, 1) := by decide +kernel
theorem dX2_isOut_23 : decode cX2_isOut 23 = .ok (.ireturn, 1) := by decide +kernel
theorem dX2_isOut_24 : decode cX2_isOut 24 = .ok (.iinc 3 1, 3) := by decide +kernel
theorem dX2_isOut_27 : decode cX2_isOut 27 = .ok (.goto (-25), 3) := by decide +kernel
theorem dX2_isOut_30 : decode cX2_isOut 30 = .ok (.iconst 1, 1) := by decide +kernel
theorem dX2_isOut_31 : decode cX2_isOut 31 = .ok (.ireturn, 1) := by decide +kernel
theorem dX2_grew_0 : decode cX2_grew 0 = .ok (.aload_n 0, 1) := by decide +kernel
theorem dX2_grew_1 : decode cX2_grew 1 = .ok (.aload_n 0, 1) := by decide +kernel
theorem dX2_grew_2 : decode cX2_grew 2 = .ok (.iload_n 1, 1) := by decide +kernel
theorem dX2_grew_3 : decode cX2_grew 3 = .ok (.invokevirtual 196, 3) := by decide +kernel
theorem dX2_grew_6 : decode cX2_grew 6 = .ok (.ifCond .eq 15, 3) := by decide +kernel
theorem dX2_grew_9 : decode cX2_grew 9 = .ok (.aload_n 0, 1) := by decide +kernel
theorem dX2_grew_10 : decode cX2_grew 10 = .ok (.iload_n 2, 1) := by decide +kernel
theorem dX2_grew_11 : decode cX2_grew 11 = .ok (.invokevirtual 196, 3) := by decide +kernel
theorem dX2_grew_14 : decode cX2_grew 14 = .ok (.ifCond .eq 7, 3) := by decide +kernel
theorem dX2_grew_17 : decode cX2_grew 17 = .ok (.iconst 1, 1) := by decide +kernel
theorem dX2_grew_18 : decode cX2_grew 18 = .ok (.goto 4, 3) := by decide +kernel
theorem dX2_grew_21 : decode cX2_grew 21 = .ok (.iconst 0, 1) := by decide +kernel
theorem dX2_grew_22 : decode cX2_grew 22 = .ok (.iload_n 1, 1) := by decide +kernel
theorem dX2_grew_23 : decode cX2_grew 23 = .ok (.iload_n 2, 1) := by decide +kernel
theorem dX2_grew_24 : decode cX2_grew 24 = .ok (.if_icmp .gt 7, 3) := by decide +kernel
theorem dX2_grew_27 : decode cX2_grew 27 = .ok (.iconst 1, 1) := by decide +kernel
theorem dX2_grew_28 : decode cX2_grew 28 = .ok (.goto 4, 3) := by decide +kernel
theorem dX2_grew_31 : decode cX2_grew 31 = .ok (.iconst 0, 1) := by decide +kernel
theorem dX2_grew_32 : decode cX2_grew 32 = .ok (.iconst 1, 1) := by decide +kernel
theorem dX2_grew_33 : decode cX2_grew 33 = .ok (.invokevirtual 188, 3) := by decide +kernel
theorem dX2_grew_36 : decode cX2_grew 36 = .ok (.ifCond .ne 5, 3) := by decide +kernel
theorem dX2_grew_39 : decode cX2_grew 39 = .ok (.iconst 0, 1) := by decide +kernel
theorem dX2_grew_40 : decode cX2_grew 40 = .ok (.ireturn, 1) := by decide +kernel
theorem dX2_grew_41 : decode cX2_grew 41 = .ok (.aload_n 0, 1) := by decide +kernel
theorem dX2_grew_42 : decode cX2_grew 42 = .ok (.iconst 0, 1) := by decide +kernel
theorem dX2_grew_43 : decode cX2_grew 43 = .ok (.aload_n 0, 1) := by decide +kernel
theorem dX2_grew_44 : decode cX2_grew 44 = .ok (.getfield 20, 3) := by decide +kernel
theorem dX2_grew_47 : decode cX2_grew 47 = .ok (.iload_n 1, 1) := by decide +kernel
theorem dX2_grew_48 : decode cX2_grew 48 = .ok (.iaload, 1) := by decide +kernel
theorem dX2_grew_49 : decode cX2_grew 49 = .ok (.invokevirtual 192, 3) := by decide +kernel
theorem dX2_grew_52 : decode cX2_grew 52 = .ok (.aload_n 0, 1) := by decide +kernel
theorem dX2_grew_53 : decode cX2_grew 53 = .ok (.aload_n 0, 1) := by decide +kernel
theorem dX2_grew_54 : decode cX2_grew 54 = .ok (.getfield 23, 3) := by decide +kernel
theorem dX2_grew_57 : decode cX2_grew 57 = .ok (.bipush 32, 2) := by decide +kernel
theorem dX2_grew_59 : decode cX2_grew 59 = .ok (.iload_n 1, 1) := by decide +kernel
theorem dX2_grew_60 : decode cX2_grew 60 = .ok (.imul, 1) := by decide +kernel
theorem dX2_grew_61 : decode cX2_grew 61 = .ok (.invokevirtual 219, 3) := by decide +kernel
theorem dX2_grew_64 : decode cX2_grew 64 = .ok (.ifCond .ne 5, 3) := by decide +kernel
theorem dX2_grew_67 : decode cX2_grew 67 = .ok (.iconst 0, 1) := by decide +kernel
theorem dX2_grew_68 : decode cX2_grew 68 = .ok (.ireturn, 1) := by decide +kernel
theorem dX2_grew_69 : decode cX2_grew 69 = .ok (.aload_n 0, 1) := by decide +kernel
theorem dX2_grew_70 : decode cX2_grew 70 = .ok (.iconst 0, 1) := by decide +kernel
theorem dX2_grew_71 : decode cX2_grew 71 = .ok (.aload_n 0, 1) := by decide +kernel
theorem dX2_grew_72 : decode cX2_grew 72 = .ok (.getfield 20, 3) := by decide +kernel
theorem dX2_grew_75 : decode cX2_grew 75 = .ok (.iload_n 2, 1) := by decide +kernel
theorem dX2_grew_76 : decode cX2_grew 76 = .ok (.iaload, 1) := by decide +kernel
theorem dX2_grew_77 : decode cX2_grew 77 = .ok (.invokevirtual 192, 3) := by decide +kernel
theorem dX2_grew_80 : decode cX2_grew 80 = .ok (.aload_n 0, 1) := by decide +kernel
theorem dX2_grew_81 : decode cX2_grew 81 = .ok (.aload_n 0, 1) := by decide +kernel
theorem dX2_grew_82 : decode cX2_grew 82 = .ok (.getfield 23, 3) := by decide +kernel
theorem dX2_grew_85 : decode cX2_grew 85 = .ok (.bipush 32, 2) := by decide +kernel
theorem dX2_grew_87 : decode cX2_grew 87 = .ok (.iload_n 2, 1) := by decide +kernel
theorem dX2_grew_88 : decode cX2_grew 88 = .ok (.imul, 1) := by decide +kernel
theorem dX2_grew_89 : decode cX2_grew 89 = .ok (.invokevirtual 219, 3) := by decide +kernel
theorem dX2_grew_92 : decode cX2_grew 92 = .ok (.ireturn, 1) := by decide +kernel
theorem dX2_withdraw_0 : decode cX2_withdraw 0 = .ok (.aload_n 0, 1) := by decide +kernel
theorem dX2_withdraw_1 : decode cX2_withdraw 1 = .ok (.iload_n 1, 1) := by decide +kernel
theorem dX2_withdraw_2 : decode cX2_withdraw 2 = .ok (.invokevirtual 203, 3) := by decide +kernel
theorem dX2_withdraw_5 : decode cX2_withdraw 5 = .ok (.istore_n 2, 1) := by decide +kernel
theorem dX2_withdraw_6 : decode cX2_withdraw 6 = .ok (.aload_n 0, 1) := by decide +kernel
theorem dX2_withdraw_7 : decode cX2_withdraw 7 = .ok (.iload_n 2, 1) := by decide +kernel
theorem dX2_withdraw_8 : decode cX2_withdraw 8 = .ok (.iload_n 2, 1) := by decide +kernel
theorem dX2_withdraw_9 : decode cX2_withdraw 9 = .ok (.ifCond .eq 16, 3) := by decide +kernel
theorem dX2_withdraw_12 : decode cX2_withdraw 12 = .ok (.aload_n 0, 1) := by decide +kernel
theorem dX2_withdraw_13 : decode cX2_withdraw 13 = .ok (.getfield 16, 3) := by decide +kernel
theorem dX2_withdraw_16 : decode cX2_withdraw 16 = .ok (.iload_n 1, 1) := by decide +kernel
theorem dX2_withdraw_17 : decode cX2_withdraw 17 = .ok (.baload, 1) := by decide +kernel
theorem dX2_withdraw_18 : decode cX2_withdraw 18 = .ok (.ifCond .ne 7, 3) := by decide +kernel
theorem dX2_withdraw_21 : decode cX2_withdraw 21 = .ok (.iconst 1, 1) := by decide +kernel
theorem dX2_withdraw_22 : decode cX2_withdraw 22 = .ok (.goto 4, 3) := by decide +kernel
theorem dX2_withdraw_25 : decode cX2_withdraw 25 = .ok (.iconst 0, 1) := by decide +kernel
theorem dX2_withdraw_26 : decode cX2_withdraw 26 = .ok (.iconst 1, 1) := by decide +kernel
theorem dX2_withdraw_27 : decode cX2_withdraw 27 = .ok (.invokevirtual 188, 3) := by decide +kernel
theorem dX2_withdraw_30 : decode cX2_withdraw 30 = .ok (.ifCond .ne 5, 3) := by decide +kernel
theorem dX2_withdraw_33 : decode cX2_withdraw 33 = .ok (.iconst 0, 1) := by decide +kernel
theorem dX2_withdraw_34 : decode cX2_withdraw 34 = .ok (.ireturn, 1) := by decide +kernel
theorem dX2_withdraw_35 : decode cX2_withdraw 35 = .ok (.aload_n 0, 1) := by decide +kernel
theorem dX2_withdraw_36 : decode cX2_withdraw 36 = .ok (.getfield 16, 3) := by decide +kernel
theorem dX2_withdraw_39 : decode cX2_withdraw 39 = .ok (.iload_n 1, 1) := by decide +kernel
theorem dX2_withdraw_40 : decode cX2_withdraw 40 = .ok (.iconst 1, 1) := by decide +kernel
theorem dX2_withdraw_41 : decode cX2_withdraw 41 = .ok (.bastore, 1) := by decide +kernel
theorem dX2_withdraw_42 : decode cX2_withdraw 42 = .ok (.iconst 0, 1) := by decide +kernel
theorem dX2_withdraw_43 : decode cX2_withdraw 43 = .ok (.istore_n 3, 1) := by decide +kernel
theorem dX2_withdraw_44 : decode cX2_withdraw 44 = .ok (.iconst 0, 1) := by decide +kernel
theorem dX2_withdraw_45 : decode cX2_withdraw 45 = .ok (.istore 4, 2) := by decide +kernel
theorem dX2_withdraw_47 : decode cX2_withdraw 47 = .ok (.iload 4, 2) := by decide +kernel
theorem dX2_withdraw_49 : decode cX2_withdraw 49 = .ok (.aload_n 0, 1) := by decide +kernel
theorem dX2_withdraw_50 : decode cX2_withdraw 50 = .ok (.getfield 127, 3) := by decide +kernel
theorem dX2_withdraw_53 : decode cX2_withdraw 53 = .ok (.if_icmp .ge 22, 3) := by decide +kernel
theorem dX2_withdraw_56 : decode cX2_withdraw 56 = .ok (.aload_n 0, 1) := by decide +kernel
theorem dX2_withdraw_57 : decode cX2_withdraw 57 = .ok (.getfield 16, 3) := by decide +kernel
theorem dX2_withdraw_60 : decode cX2_withdraw 60 = .ok (.iload 4, 2) := by decide +kernel
theorem dX2_withdraw_62 : decode cX2_withdraw 62 = .ok (.baload, 1) := by decide +kernel
theorem dX2_withdraw_63 : decode cX2_withdraw 63 = .ok (.ifCond .eq 6, 3) := by decide +kernel
theorem dX2_withdraw_66 : decode cX2_withdraw 66 = .ok (.iinc 3 1, 3) := by decide +kernel
theorem dX2_withdraw_69 : decode cX2_withdraw 69 = .ok (.iinc 4 1, 3) := by decide +kernel
theorem dX2_withdraw_72 : decode cX2_withdraw 72 = .ok (.goto (-25), 3) := by decide +kernel
theorem dX2_withdraw_75 : decode cX2_withdraw 75 = .ok (.iload_n 3, 1) := by decide +kernel
theorem dX2_withdraw_76 : decode cX2_withdraw 76 = .ok (.ireturn, 1) := by decide +kernel
theorem dX2_absence_0 : decode cX2_absence 0 = .ok (.aload_n 0, 1) := by decide +kernel
theorem dX2_absence_1 : decode cX2_absence 1 = .ok (.iload_n 1, 1) := by decide +kernel
theorem dX2_absence_2 : decode cX2_absence 2 = .ok (.invokevirtual 203, 3) := by decide +kernel
theorem dX2_absence_5 : decode cX2_absence 5 = .ok (.ifCond .eq 16, 3) := by decide +kernel
theorem dX2_absence_8 : decode cX2_absence 8 = .ok (.iload_n 2, 1) := by decide +kernel
theorem dX2_absence_9 : decode cX2_absence 9 = .ok (.iconst 0, 1) := by decide +kernel
theorem dX2_absence_10 : decode cX2_absence 10 = .ok (.iconst 1, 1) := by decide +kernel
theorem dX2_absence_11 : decode cX2_absence 11 = .ok (.invokestatic 130, 3) := by decide +kernel
theorem dX2_absence_14 : decode cX2_absence 14 = .ok (.ifCond .eq 7, 3) := by decide +kernel
theorem dX2_absence_17 : decode cX2_absence 17 = .ok (.iconst 1, 1) := by decide +kernel
theorem dX2_absence_18 : decode cX2_absence 18 = .ok (.goto 4, 3) := by decide +kernel
theorem dX2_absence_21 : decode cX2_absence 21 = .ok (.iconst 0, 1) := by decide +kernel
theorem dX2_absence_22 : decode cX2_absence 22 = .ok (.istore_n 3, 1) := by decide +kernel
theorem dX2_absence_23 : decode cX2_absence 23 = .ok (.aload_n 0, 1) := by decide +kernel
theorem dX2_absence_24 : decode cX2_absence 24 = .ok (.iload_n 3, 1) := by decide +kernel
theorem dX2_absence_25 : decode cX2_absence 25 = .ok (.iload_n 3, 1) := by decide +kernel
theorem dX2_absence_26 : decode cX2_absence 26 = .ok (.ifCond .eq 16, 3) := by decide +kernel
theorem dX2_absence_29 : decode cX2_absence 29 = .ok (.aload_n 0, 1) := by decide +kernel
theorem dX2_absence_30 : decode cX2_absence 30 = .ok (.getfield 16, 3) := by decide +kernel
theorem dX2_absence_33 : decode cX2_absence 33 = .ok (.iload_n 1, 1) := by decide +kernel
theorem dX2_absence_34 : decode cX2_absence 34 = .ok (.baload, 1) := by decide +kernel
theorem dX2_absence_35 : decode cX2_absence 35 = .ok (.ifCond .ne 7, 3) := by decide +kernel
theorem dX2_absence_38 : decode cX2_absence 38 = .ok (.iconst 1, 1) := by decide +kernel
theorem dX2_absence_39 : decode cX2_absence 39 = .ok (.goto 4, 3) := by decide +kernel
theorem dX2_absence_42 : decode cX2_absence 42 = .ok (.iconst 0, 1) := by decide +kernel
theorem dX2_absence_43 : decode cX2_absence 43 = .ok (.iconst 1, 1) := by decide +kernel
theorem dX2_absence_44 : decode cX2_absence 44 = .ok (.invokevirtual 188, 3) := by decide +kernel
theorem dX2_absence_47 : decode cX2_absence 47 = .ok (.ifCond .ne 5, 3) := by decide +kernel
theorem dX2_absence_50 : decode cX2_absence 50 = .ok (.iconst 0, 1) := by decide +kernel
theorem dX2_absence_51 : decode cX2_absence 51 = .ok (.ireturn, 1) := by decide +kernel
theorem dX2_absence_52 : decode cX2_absence 52 = .ok (.iconst (-1), 1) := by decide +kernel
theorem dX2_absence_53 : decode cX2_absence 53 = .ok (.istore 4, 2) := by decide +kernel
theorem dX2_absence_55 : decode cX2_absence 55 = .ok (.iconst 0, 1) := by decide +kernel
theorem dX2_absence_56 : decode cX2_absence 56 = .ok (.istore 5, 2) := by decide +kernel
theorem dX2_absence_58 : decode cX2_absence 58 = .ok (.iload 5, 2) := by decide +kernel
theorem dX2_absence_60 : decode cX2_absence 60 = .ok (.aload_n 0, 1) := by decide +kernel
theorem dX2_absence_61 : decode cX2_absence 61 = .ok (.getfield 127, 3) := by decide +kernel
theorem dX2_absence_64 : decode cX2_absence 64 = .ok (.if_icmp .ge 86, 3) := by decide +kernel
theorem dX2_absence_67 : decode cX2_absence 67 = .ok (.aload_n 0, 1) := by decide +kernel
theorem dX2_absence_68 : decode cX2_absence 68 = .ok (.iload 5, 2) := by decide +kernel
theorem dX2_absence_70 : decode cX2_absence 70 = .ok (.iload_n 1, 1) := by decide +kernel
theorem dX2_absence_71 : decode cX2_absence 71 = .ok (.invokevirtual 223, 3) := by decide +kernel
theorem dX2_absence_74 : decode cX2_absence 74 = .ok (.istore 6, 2) := by decide +kernel
theorem dX2_absence_76 : decode cX2_absence 76 = .ok (.aload_n 0, 1) := by decide +kernel
theorem dX2_absence_77 : decode cX2_absence 77 = .ok (.getfield 16, 3) := by decide +kernel
theorem dX2_absence_80 : decode cX2_absence 80 = .ok (.iload 5, 2) := by decide +kernel
theorem dX2_absence_82 : decode cX2_absence 82 = .ok (.baload, 1) := by decide +kernel
theorem dX2_absence_83 : decode cX2_absence 83 = .ok (.ifCond .eq 61, 3) := by decide +kernel
theorem dX2_absence_86 : decode cX2_absence 86 = .ok (.iload_n 2, 1) := by decide +kernel
theorem dX2_absence_87 : decode cX2_absence 87 = .ok (.ifCond .ne 11, 3) := by decide +kernel
theorem dX2_absence_90 : decode cX2_absence 90 = .ok (.iload 6, 2) := by decide +kernel
theorem dX2_absence_92 : decode cX2_absence 92 = .ok (.ifCond .lt 14, 3) := by decide +kernel
theorem dX2_absence_95 : decode cX2_absence 95 = .ok (.goto 49, 3) := by decide +kernel
theorem dX2_absence_98 : decode cX2_absence 98 = .ok (.iload 6, 2) := by decide +kernel
theorem dX2_absence_100 : decode cX2_absence 100 = .ok (.ifCond .gt 6, 3) := by decide +kernel
theorem dX2_absence_103 : decode cX2_absence 103 = .ok (.goto 41, 3) := by decide +kernel
theorem dX2_absence_106 : decode cX2_absence 106 = .ok (.iload 4, 2) := by decide +kernel
theorem dX2_absence_108 : decode cX2_absence 108 = .ok (.ifCond .lt 32, 3) := by decide +kernel
theorem dX2_absence_111 : decode cX2_absence 111 = .ok (.iload_n 2, 1) := by decide +kernel
theorem dX2_absence_112 : decode cX2_absence 112 = .ok (.ifCond .ne 17, 3) := by decide +kernel
theorem dX2_absence_115 : decode cX2_absence 115 = .ok (.aload_n 0, 1) := by decide +kernel
theorem dX2_absence_116 : decode cX2_absence 116 = .ok (.iload 5, 2) := by decide +kernel
theorem dX2_absence_118 : decode cX2_absence 118 = .ok (.iload 4, 2) := by decide +kernel
theorem dX2_absence_120 : decode cX2_absence 120 = .ok (.invokevirtual 223, 3) := by decide +kernel
theorem dX2_absence_123 : decode cX2_absence 123 = .ok (.ifCond .le 21, 3) := by decide +kernel
theorem dX2_absence_126 : decode cX2_absence 126 = .ok (.goto 14, 3) := by decide +kernel
theorem dX2_absence_129 : decode cX2_absence 129 = .ok (.aload_n 0, 1) := by decide +kernel
theorem dX2_absence_130 : decode cX2_absence 130 = .ok (.iload 5, 2) := by decide +kernel
theorem dX2_absence_132 : decode cX2_absence 132 = .ok (.iload 4, 2) := by decide +kernel
theorem dX2_absence_134 : decode cX2_absence 134 = .ok (.invokevirtual 223, 3) := by decide +kernel
theorem dX2_absence_137 : decode cX2_absence 137 = .ok (.ifCond .ge 7, 3) := by decide +kernel
theorem dX2_absence_140 : decode cX2_absence 140 = .ok (.iload 5, 2) := by decide +kernel
theorem dX2_absence_142 : decode cX2_absence 142 = .ok (.istore 4, 2) := by decide +kernel
theorem dX2_absence_144 : decode cX2_absence 144 = .ok (.iinc 5 1, 3) := by decide +kernel
theorem dX2_absence_147 : decode cX2_absence 147 = .ok (.goto (-89), 3) := by decide +kernel
theorem dX2_absence_150 : decode cX2_absence 150 = .ok (.iload 4, 2) := by decide +kernel
theorem dX2_absence_152 : decode cX2_absence 152 = .ok (.ireturn, 1) := by decide +kernel
theorem dX2_order_0 : decode cX2_order 0 = .ok (.iconst 0, 1) := by decide +kernel
theorem dX2_order_1 : decode cX2_order 1 = .ok (.istore_n 3, 1) := by decide +kernel
theorem dX2_order_2 : decode cX2_order 2 = .ok (.iload_n 3, 1) := by decide +kernel
theorem dX2_order_3 : decode cX2_order 3 = .ok (.bipush 32, 2) := by decide +kernel
theorem dX2_order_5 : decode cX2_order 5 = .ok (.if_icmp .ge 42, 3) := by decide +kernel
theorem dX2_order_8 : decode cX2_order 8 = .ok (.aload_n 0, 1) := by decide +kernel
theorem dX2_order_9 : decode cX2_order 9 = .ok (.getfield 13, 3) := by decide +kernel
theorem dX2_order_12 : decode cX2_order 12 = .ok (.bipush 32, 2) := by decide +kernel
theorem dX2_order_14 : decode cX2_order 14 = .ok (.iload_n 1, 1) := by decide +kernel
theorem dX2_order_15 : decode cX2_order 15 = .ok (.imul, 1) := by decide +kernel
theorem dX2_order_16 : decode cX2_order 16 = .ok (.iload_n 3, 1) := by decide +kernel
theorem dX2_order_17 : decode cX2_order 17 = .ok (.iadd, 1) := by decide +kernel
theorem dX2_order_18 : decode cX2_order 18 = .ok (.iaload, 1) := by decide +kernel
theorem dX2_order_19 : decode cX2_order 19 = .ok (.aload_n 0, 1) := by decide +kernel
theorem dX2_order_20 : decode cX2_order 20 = .ok (.getfield 13, 3) := by decide +kernel
theorem dX2_order_23 : decode cX2_order 23 = .ok (.bipush 32, 2) := by decide +kernel
theorem dX2_order_25 : decode cX2_order 25 = .ok (.iload_n 2, 1) := by decide +kernel
theorem dX2_order_26 : decode cX2_order 26 = .ok (.imul, 1) := by decide +kernel
theorem dX2_order_27 : decode cX2_order 27 = .ok (.iload_n 3, 1) := by decide +kernel
theorem dX2_order_28 : decode cX2_order 28 = .ok (.iadd, 1) := by decide +kernel
theorem dX2_order_29 : decode cX2_order 29 = .ok (.iaload, 1) := by decide +kernel
theorem dX2_order_30 : decode cX2_order 30 = .ok (.isub, 1) := by decide +kernel
theorem dX2_order_31 : decode cX2_order 31 = .ok (.istore 4, 2) := by decide +kernel
theorem dX2_order_33 : decode cX2_order 33 = .ok (.iload 4, 2) := by decide +kernel
theorem dX2_order_35 : decode cX2_order 35 = .ok (.ifCond .eq 6, 3) := by decide +kernel
theorem dX2_order_38 : decode cX2_order 38 = .ok (.iload 4, 2) := by decide +kernel
theorem dX2_order_40 : decode cX2_order 40 = .ok (.ireturn, 1) := by decide +kernel
theorem dX2_order_41 : decode cX2_order 41 = .ok (.iinc 3 1, 3) := by decide +kernel
theorem dX2_order_44 : decode cX2_order 44 = .ok (.goto (-42), 3) := by decide +kernel
theorem dX2_order_47 : decode cX2_order 47 = .ok (.iconst 0, 1) := by decide +kernel
theorem dX2_order_48 : decode cX2_order 48 = .ok (.ireturn, 1) := by decide +kernel
theorem dX2_mark_0 : decode cX2_mark 0 = .ok (.aload_n 0, 1) := by decide +kernel
theorem dX2_mark_1 : decode cX2_mark 1 = .ok (.aload_n 0, 1) := by decide +kernel
theorem dX2_mark_2 : decode cX2_mark 2 = .ok (.iload_n 1, 1) := by decide +kernel
theorem dX2_mark_3 : decode cX2_mark 3 = .ok (.invokevirtual 203, 3) := by decide +kernel
theorem dX2_mark_6 : decode cX2_mark 6 = .ok (.ifCond .eq 15, 3) := by decide +kernel
theorem dX2_mark_9 : decode cX2_mark 9 = .ok (.iload 6, 2) := by decide +kernel
theorem dX2_mark_11 : decode cX2_mark 11 = .ok (.invokestatic 200, 3) := by decide +kernel
theorem dX2_mark_14 : decode cX2_mark 14 = .ok (.ifCond .eq 7, 3) := by decide +kernel
theorem dX2_mark_17 : decode cX2_mark 17 = .ok (.iconst 1, 1) := by decide +kernel
theorem dX2_mark_18 : decode cX2_mark 18 = .ok (.goto 4, 3) := by decide +kernel
theorem dX2_mark_21 : decode cX2_mark 21 = .ok (.iconst 0, 1) := by decide +kernel
theorem dX2_mark_22 : decode cX2_mark 22 = .ok (.iconst 1, 1) := by decide +kernel
theorem dX2_mark_23 : decode cX2_mark 23 = .ok (.iconst 1, 1) := by decide +kernel
theorem dX2_mark_24 : decode cX2_mark 24 = .ok (.invokevirtual 188, 3) := by decide +kernel
theorem dX2_mark_27 : decode cX2_mark 27 = .ok (.ifCond .ne 5, 3) := by decide +kernel
theorem dX2_mark_30 : decode cX2_mark 30 = .ok (.iconst 0, 1) := by decide +kernel
theorem dX2_mark_31 : decode cX2_mark 31 = .ok (.ireturn, 1) := by decide +kernel
theorem dX2_mark_32 : decode cX2_mark 32 = .ok (.aload_n 0, 1) := by decide +kernel
theorem dX2_mark_33 : decode cX2_mark 33 = .ok (.invokevirtual 165, 3) := by decide +kernel
theorem dX2_mark_36 : decode cX2_mark 36 = .ok (.aload_n 0, 1) := by decide +kernel
theorem dX2_mark_37 : decode cX2_mark 37 = .ok (.lload_n 2, 1) := by decide +kernel
theorem dX2_mark_38 : decode cX2_mark 38 = .ok (.invokevirtual 158, 3) := by decide +kernel
theorem dX2_mark_41 : decode cX2_mark 41 = .ok (.aload_n 0, 1) := by decide +kernel
theorem dX2_mark_42 : decode cX2_mark 42 = .ok (.aload_n 0, 1) := by decide +kernel
theorem dX2_mark_43 : decode cX2_mark 43 = .ok (.getfield 13, 3) := by decide +kernel
theorem dX2_mark_46 : decode cX2_mark 46 = .ok (.bipush 32, 2) := by decide +kernel
theorem dX2_mark_48 : decode cX2_mark 48 = .ok (.iload_n 1, 1) := by decide +kernel
theorem dX2_mark_49 : decode cX2_mark 49 = .ok (.imul, 1) := by decide +kernel
theorem dX2_mark_50 : decode cX2_mark 50 = .ok (.invokevirtual 168, 3) := by decide +kernel
theorem dX2_mark_53 : decode cX2_mark 53 = .ok (.aload_n 0, 1) := by decide +kernel
theorem dX2_mark_54 : decode cX2_mark 54 = .ok (.invokevirtual 172, 3) := by decide +kernel
theorem dX2_mark_57 : decode cX2_mark 57 = .ok (.iconst 0, 1) := by decide +kernel
theorem dX2_mark_58 : decode cX2_mark 58 = .ok (.istore 7, 2) := by decide +kernel
theorem dX2_mark_60 : decode cX2_mark 60 = .ok (.iload 7, 2) := by decide +kernel
theorem dX2_mark_62 : decode cX2_mark 62 = .ok (.bipush 32, 2) := by decide +kernel
theorem dX2_mark_64 : decode cX2_mark 64 = .ok (.if_icmp .ge 23, 3) := by decide +kernel
theorem dX2_mark_67 : decode cX2_mark 67 = .ok (.aload_n 0, 1) := by decide +kernel
theorem dX2_mark_68 : decode cX2_mark 68 = .ok (.getfield 41, 3) := by decide +kernel
theorem dX2_mark_71 : decode cX2_mark 71 = .ok (.iload 7, 2) := by decide +kernel
theorem dX2_mark_73 : decode cX2_mark 73 = .ok (.aload_n 0, 1) := by decide +kernel
theorem dX2_mark_74 : decode cX2_mark 74 = .ok (.getfield 32, 3) := by decide +kernel
theorem dX2_mark_77 : decode cX2_mark 77 = .ok (.iload 7, 2) := by decide +kernel
theorem dX2_mark_79 : decode cX2_mark 79 = .ok (.iaload, 1) := by decide +kernel
theorem dX2_mark_80 : decode cX2_mark 80 = .ok (.iastore, 1) := by decide +kernel
theorem dX2_mark_81 : decode cX2_mark 81 = .ok (.iinc 7 1, 3) := by decide +kernel
theorem dX2_mark_84 : decode cX2_mark 84 = .ok (.goto (-24), 3) := by decide +kernel
theorem dX2_mark_87 : decode cX2_mark 87 = .ok (.aload_n 0, 1) := by decide +kernel
theorem dX2_mark_88 : decode cX2_mark 88 = .ok (.invokevirtual 165, 3) := by decide +kernel
theorem dX2_mark_91 : decode cX2_mark 91 = .ok (.aload_n 0, 1) := by decide +kernel
theorem dX2_mark_92 : decode cX2_mark 92 = .ok (.lload 4, 2) := by decide +kernel
theorem dX2_mark_94 : decode cX2_mark 94 = .ok (.invokevirtual 158, 3) := by decide +kernel
theorem dX2_mark_97 : decode cX2_mark 97 = .ok (.aload_n 0, 1) := by decide +kernel
theorem dX2_mark_98 : decode cX2_mark 98 = .ok (.aload_n 0, 1) := by decide +kernel
theorem dX2_mark_99 : decode cX2_mark 99 = .ok (.getfield 41, 3) := by decide +kernel
theorem dX2_mark_102 : decode cX2_mark 102 = .ok (.iconst 0, 1) := by decide +kernel
theorem dX2_mark_103 : decode cX2_mark 103 = .ok (.invokevirtual 168, 3) := by decide +kernel
theorem dX2_mark_106 : decode cX2_mark 106 = .ok (.aload_n 0, 1) := by decide +kernel
theorem dX2_mark_107 : decode cX2_mark 107 = .ok (.invokevirtual 172, 3) := by decide +kernel
theorem dX2_mark_110 : decode cX2_mark 110 = .ok (.aload_n 0, 1) := by decide +kernel
theorem dX2_mark_111 : decode cX2_mark 111 = .ok (.getfield 32, 3) := by decide +kernel
theorem dX2_mark_114 : decode cX2_mark 114 = .ok (.iload 6, 2) := by decide +kernel
theorem dX2_mark_116 : decode cX2_mark 116 = .ok (.iaload, 1) := by decide +kernel
theorem dX2_mark_117 : decode cX2_mark 117 = .ok (.ireturn, 1) := by decide +kernel
theorem dX2_poke_0 : decode cX2_poke 0 = .ok (.aload_n 0, 1) := by decide +kernel
theorem dX2_poke_1 : decode cX2_poke 1 = .ok (.aload_n 0, 1) := by decide +kernel
theorem dX2_poke_2 : decode cX2_poke 2 = .ok (.iload_n 1, 1) := by decide +kernel
theorem dX2_poke_3 : decode cX2_poke 3 = .ok (.invokevirtual 203, 3) := by decide +kernel
theorem dX2_poke_6 : decode cX2_poke 6 = .ok (.ifCond .eq 14, 3) := by decide +kernel
theorem dX2_poke_9 : decode cX2_poke 9 = .ok (.iload_n 2, 1) := by decide +kernel
theorem dX2_poke_10 : decode cX2_poke 10 = .ok (.invokestatic 200, 3) := by decide +kernel
theorem dX2_poke_13 : decode cX2_poke 13 = .ok (.ifCond .eq 7, 3) := by decide +kernel
theorem dX2_poke_16 : decode cX2_poke 16 = .ok (.iconst 1, 1) := by decide +kernel
theorem dX2_poke_17 : decode cX2_poke 17 = .ok (.goto 4, 3) := by decide +kernel
theorem dX2_poke_20 : decode cX2_poke 20 = .ok (.iconst 0, 1) := by decide +kernel
theorem dX2_poke_21 : decode cX2_poke 21 = .ok (.iload_n 3, 1) := by decide +kernel
theorem dX2_poke_22 : decode cX2_poke 22 = .ok (.iconst 1, 1) := by decide +kernel
theorem dX2_poke_23 : decode cX2_poke 23 = .ok (.sipush 255, 3) := by decide +kernel
theorem dX2_poke_26 : decode cX2_poke 26 = .ok (.invokestatic 130, 3) := by decide +kernel
theorem dX2_poke_29 : decode cX2_poke 29 = .ok (.iconst 1, 1) := by decide +kernel
theorem dX2_poke_30 : decode cX2_poke 30 = .ok (.invokevirtual 188, 3) := by decide +kernel
theorem dX2_poke_33 : decode cX2_poke 33 = .ok (.ifCond .eq 27, 3) := by decide +kernel
theorem dX2_poke_36 : decode cX2_poke 36 = .ok (.aload_n 0, 1) := by decide +kernel
theorem dX2_poke_37 : decode cX2_poke 37 = .ok (.getfield 13, 3) := by decide +kernel
theorem dX2_poke_40 : decode cX2_poke 40 = .ok (.bipush 32, 2) := by decide +kernel
theorem dX2_poke_42 : decode cX2_poke 42 = .ok (.iload_n 1, 1) := by decide +kernel
theorem dX2_poke_43 : decode cX2_poke 43 = .ok (.imul, 1) := by decide +kernel
theorem dX2_poke_44 : decode cX2_poke 44 = .ok (.iload_n 2, 1) := by decide +kernel
theorem dX2_poke_45 : decode cX2_poke 45 = .ok (.iadd, 1) := by decide +kernel
theorem dX2_poke_46 : decode cX2_poke 46 = .ok (.aload_n 0, 1) := by decide +kernel
theorem dX2_poke_47 : decode cX2_poke 47 = .ok (.getfield 13, 3) := by decide +kernel
theorem dX2_poke_50 : decode cX2_poke 50 = .ok (.bipush 32, 2) := by decide +kernel
theorem dX2_poke_52 : decode cX2_poke 52 = .ok (.iload_n 1, 1) := by decide +kernel
theorem dX2_poke_53 : decode cX2_poke 53 = .ok (.imul, 1) := by decide +kernel
theorem dX2_poke_54 : decode cX2_poke 54 = .ok (.iload_n 2, 1) := by decide +kernel
theorem dX2_poke_55 : decode cX2_poke 55 = .ok (.iadd, 1) := by decide +kernel
theorem dX2_poke_56 : decode cX2_poke 56 = .ok (.iaload, 1) := by decide +kernel
theorem dX2_poke_57 : decode cX2_poke 57 = .ok (.iload_n 3, 1) := by decide +kernel
theorem dX2_poke_58 : decode cX2_poke 58 = .ok (.ixor, 1) := by decide +kernel
theorem dX2_poke_59 : decode cX2_poke 59 = .ok (.iastore, 1) := by decide +kernel
theorem dX2_poke_60 : decode cX2_poke 60 = .ok (.return_, 1) := by decide +kernel
end
section
/-! THE REFERENCE'S WORLD: its numbers, its two rows of booleans, its int arrays by numbers: 0 tape, 1 count, 2 out, 3 message, 4 w, 5 h, 6 leaf, 7 root, 8 proof, 9 part, 10 size, 11 otherFrom, 12 otherMany, 13 k -/
def nE : xE := fun _ _ _ => True
theorem nE_ok : okE nE := ⟨fun _ _ _ _ _ _ => trivial, fun _ _ _ _ _ _ => trivial, fun _ _ _ _ _ _ => trivial⟩
def lenM : Nat → Nat
  | 0 => 200
  | 1 => 12
  | 2 => 32
  | 3 => 256
  | 4 => 64
  | 5 => 8
  | 6 => 768
  | 7 => 384
  | 8 => 320
  | 9 => 256
  | 10 => 8
  | 11 => 8
  | 12 => 8
  | _ => 64
abbrev wMx (om am : Nat → Nat) (cZ : ClassId) (th tp lv dy pv pm by_ pt wy : Int32) (gone oR : Nat → Int32) : va_W :=
  [(om 0, .inr (2, [.int th, .int tp, .ref (am 0), .int lv, .ref (am 6), .ref (om 1), .int dy, .ref (am 1), .ref (am 7), .int pv, .int pm, .ref (am 8), .int by_, .ref (am 3), .ref (am 2), .ref (am 4), .ref (am 5), .int pt, .ref (am 9), .ref (am 10), .int wy, .ref (am 11), .ref (am 12), .ref (om 2), .ref (am 13)])),
   (om 1, .inl (cZ, 24, .inl gone)),
   (om 2, .inl (cZ, 8, .inl oR))]
abbrev wM (om am : Nat → Nat) (cI cZ : ClassId) (th tp lv dy pv pm by_ pt wy : Int32) (gone oR : Nat → Int32) (mem : xMem) : va_W := wMx om am cZ th tp lv dy pv pm by_ pt wy gone oR ++ mp am cI lenM mem 14
def p_in (x a b : Int32) : Int32 := if x < a then nI 0 else if b < x then nI 0 else nI 1
def gth (a b c : Int32) : Int32 := if a = 0 then nI 1 else if b = 0 then nI 2 else if c = 0 then nI 3 else nI 0
def b01 : Option String → Int32
  | none => nI 1
  | some _ => nI 0
theorem p_in_req (v : Int32) (q : Nat) (hq : q < 2 ^ 30) : p_in v (nI 0) (nI q - nI 1) = b01 (x_req v (nI q)) := by
  unfold p_in x_req
  by_cases h0 : v < 0
  · rw [if_pos (show v < nI 0 from h0), if_pos (Or.inl h0)]
    rfl
  · rw [if_neg (show ¬ v < nI 0 from h0)]
    obtain ⟨j, hj, rfl⟩ := nI_of h0
    rcases Nat.eq_zero_or_pos q with rfl | hp
    · rw [if_pos (show nI 0 - nI 1 < nI j from Int32.lt_of_lt_of_le (by decide) (nI_pos' hj)), if_pos (Or.inr (nI_nlt (Nat.zero_le _) hj))]
      rfl
    · rw [pk_sub (show 1 ≤ q from hp)]
      by_cases h1 : j < q
      · rw [if_neg (nI_nlt (show j ≤ q - 1 by omega) (by omega)), if_neg (fun h => h.elim h0 (fun h2 => h2 (nI_lt h1 (by omega))))]
        rfl
      · rw [if_pos (nI_lt (show q - 1 < j by omega) hj), if_pos (Or.inr (nI_nlt (by omega) hj))]
        rfl
theorem p_in_byte (v : Int32) : p_in v (nI 0) (nI 31) = b01 (x_req v (nI 32)) := p_in_req v 32 (by decide)
def rgt (x d : Int32) : Int32 := ush x d ||| (x <<< ((nI 32 - d) &&& 31))
theorem rgt_eq {x d : Int32} (h : (nI 32 - d) &&& 31 = (-d) &&& 31) : rgt x d = rotr x d := by
  unfold rgt rotr
  rw [h]
def p_row (kk a q : Nat) (z : Nat × xMem) : Nat × xMem := itr (fun i z => p_take (z.2 kk (a + i)) z) q z
theorem p_row_fst (kk a : Nat) : ∀ (q : Nat) (z : Nat × xMem), z.1 + q ≤ 256 → (p_row kk a q z).1 = z.1 + q
  | 0, _, _ => rfl
  | q + 1, z, h => by
    have ih := p_row_fst kk a q z (by omega)
    show (p_take _ (p_row kk a q z)).1 = _
    rw [p_take_fst _ _ (by omega), ih]
    omega
theorem p_row_s (kk a i : Nat) (z : Nat × xMem) : p_row kk a (i + 1) z = p_take ((p_row kk a i z).2 kk (a + i)) (p_row kk a i z) := rfl
noncomputable def P_row : Nat → Nat → Nat → Nat × xMem → Nat × xMem := lk p_row
theorem P_row_e : P_row = p_row := lk_eq _
theorem P_row_fst (kk a q : Nat) (z : Nat × xMem) (h : z.1 + q ≤ 256) : (P_row kk a q z).1 = z.1 + q := by rw [P_row_e]; exact p_row_fst kk a q z h
theorem P_row_k {k : Nat} (h : k ≠ 3) (kk a q : Nat) (z : Nat × xMem) : (P_row kk a q z).2 k = z.2 k := by
  rw [P_row_e]
  exact itr_keep2 (fun i z => p_take_k h _ z) q z
theorem w2c (a b c d : Int32) : a + b + c + d = d + c + b + a := by
  rw [Int32.add_comm (a + b + c) d, Int32.add_comm (a + b) c, ← Int32.add_assoc, Int32.add_comm a b, ← Int32.add_assoc]
/-- the eight stores of the first state -/
def st5 (j : Nat) (x : Int32) (mem : xMem) : xMem := va_up mem 5 (upd (mem 5) j x)
def hS5 (mem : xMem) : xMem := va_up mem 5 (va_cpy h0 (mem 5) 0 0 8)
theorem st8 (mem : xMem) : st5 7 1541459225 (st5 6 528734635 (st5 5 (-1694144372) (st5 4 1359893119 (st5 3 (-1521486534) (st5 2 1013904242 (st5 1 (-1150833019) (st5 0 1779033703 mem))))))) = hS5 mem := by
  funext k
  by_cases hk : k = 5
  · subst hk
    unfold st5 hS5
    simp only [va_up_self]
    funext i
    by_cases hi : i < 8
    · have : i = 0 ∨ i = 1 ∨ i = 2 ∨ i = 3 ∨ i = 4 ∨ i = 5 ∨ i = 6 ∨ i = 7 := by omega
      rcases this with rfl | rfl | rfl | rfl | rfl | rfl | rfl | rfl <;> rfl
    · have e : va_cpy h0 (mem 5) 0 0 8 i = mem 5 i := if_neg (by omega)
      rw [e]
      have g0 : i ≠ 0 := by omega
      have g1 : i ≠ 1 := by omega
      have g2 : i ≠ 2 := by omega
      have g3 : i ≠ 3 := by omega
      have g4 : i ≠ 4 := by omega
      have g5 : i ≠ 5 := by omega
      have g6 : i ≠ 6 := by omega
      have g7 : i ≠ 7 := by omega
      simp [upd, g0, g1, g2, g3, g4, g5, g6, g7]
  · unfold st5 hS5
    simp only [va_up_ne _ _ hk]
/-- array 5 filled anew: it keeps away from what the message's steps do -/
def U5 (z : Nat × xMem) : Nat × xMem := (z.1, hS5 z.2)
theorem U5_take (x : Int32) (z : Nat × xMem) : p_take x (U5 z) = U5 (p_take x z) := by
  obtain ⟨n, m⟩ := z
  unfold p_take U5
  by_cases h : n < 256
  · rw [if_pos (show (n, hS5 m).1 < 256 from h), if_pos h]
    refine Prod.ext rfl ?_
    funext k
    show va_up (hS5 m) 3 (upd (hS5 m 3) n x) k = hS5 (va_up m 3 (upd (m 3) n x)) k
    unfold hS5
    by_cases h3 : k = 3
    · subst h3
      rw [va_up_self, va_up_ne _ _ (by decide), va_up_ne _ _ (by decide), va_up_self]
    · rw [va_up_ne _ _ h3]
      by_cases h5 : k = 5
      · subst h5
        rw [va_up_self, va_up_self, va_up_ne _ _ (by decide)]
      · rw [va_up_ne _ _ h5, va_up_ne _ _ h5, va_up_ne _ _ h3]
  · rw [if_neg (show ¬ (n, hS5 m).1 < 256 from h), if_neg h]
theorem U5_itr {f : Nat → Nat × xMem → Nat × xMem} (h : ∀ i z, f i (U5 z) = U5 (f i z)) : ∀ n z, itr f n (U5 z) = U5 (itr f n z)
  | 0, _ => rfl
  | n + 1, z => by rw [itr_s, itr_s, U5_itr h n z, h]
theorem U5_pfC (n : Nat) (mem : xMem) : pfC (n, hS5 mem) = U5 (pfC (n, mem)) := by
  have e0 : (n, hS5 mem) = U5 (n, mem) := rfl
  rw [pfC_e, pfC_e, pfB_e, pfB_e, pfA_e, pfA_e, e0, U5_take, U5_itr (fun i z => U5_take _ z)]
  unfold p_takeLong p_takeLongN
  rw [U5_itr (fun i z => U5_take _ z)]
theorem U5_snd (z : Nat × xMem) : (U5 z).2 = va_up z.2 5 (va_cpy h0 (z.2 5) 0 0 8) := rfl
theorem U5_fst (z : Nat × xMem) : (U5 z).1 = z.1 := rfl
theorem pfD_U (n : Nat) (mem : xMem) : (pfC (n, hS5 mem)).2 = pfD (n, mem) := by rw [U5_pfC, U5_snd, pfD_e]
theorem pfC_U (n : Nat) (mem : xMem) : (pfC (n, hS5 mem)).1 = (pfC (n, mem)).1 := by rw [U5_pfC, U5_fst]
theorem pfZ_fst (n : Nat) (mem : xMem) : ∀ i, n + 1 + i ≤ 256 → (itr (fun _ => p_take (nI 0)) i (pfA (n, mem))).1 = n + 1 + i
  | 0, h => by
    show (p_take (nI 128) (n, mem)).1 = n + 1 + 0
    rw [p_take_fst _ _ (show n < 256 by omega)]
  | i + 1, h => by
    have ih := pfZ_fst n mem i (by omega)
    rw [itr_s, p_take_fst _ _ (by omega), ih]
    omega
theorem pfC_fst (n : Nat) (mem : xMem) (h : n ≤ 247) : (pfC (n, mem)).1 = n + 9 + zz n := by
  have hz := zz_lt n
  have hb : n + 1 + zz n + 8 ≤ 256 := by
    unfold zz at hz ⊢
    omega
  rw [pfC_e]
  unfold p_takeLong
  have e : (pfB (n, mem)).1 = n + 1 + zz n := by
    rw [pfB_e]
    exact pfZ_fst n mem (zz n) (by omega)
  rw [p_takeLongN_fst _ 8 _ (by omega), e]
  omega
noncomputable def mN (a x b y : Nat) (mem : xMem) : Nat × xMem := P_fin 2 (P_row b y 32 (P_row a x 32 (P_take (nI 1) (0, mem))))
theorem mN_e (a x b y : Nat) (mem : xMem) : mN a x b y mem = P_fin 2 (P_row b y 32 (P_row a x 32 (P_take (nI 1) (0, mem)))) := rfl
theorem mN_k {k : Nat} (h2 : k ≠ 2) (h : k ≠ 3) (h4 : k ≠ 4) (h5 : k ≠ 5) (a x b y : Nat) (m : xMem) : (mN a x b y m).2 k = m k := by
  rw [mN_e, P_fin_k h h4 h5 h2, P_row_k h, P_row_k h, P_take_k h]
end
section
theorem pz_s (i : Nat) (z : Nat × xMem) : itr (fun _ => p_take (nI 0)) (i + 1) z = P_take (nI 0) (itr (fun _ => p_take (nI 0)) i z) := by rw [itr_s, P_take_e]
theorem p_rnds_0 (m : xMem) : p_rnds m 0 = m 5 := rfl
theorem lenM_lt (k : Nat) : lenM k < 2 ^ 31 := by
  unfold lenM
  split <;> decide
theorem p_in_nar (x a b : Int32) : narrow .boolean (.int (p_in x a b)) = .int (p_in x a b) := by
  unfold p_in
  split
  · rfl
  · split <;> rfl
theorem p_long_s (v : Int64) (i : Nat) (z : Nat × xMem) : p_takeLongN v (i + 1) z = p_take ((lush v (p_sh i)).toInt32 &&& nI 255) (p_takeLongN v i z) := rfl
set_option maxHeartbeats 4000000 in
set_option maxRecDepth 100000 in
theorem n_thrown {l : Launch} {D : va_G} {om am : Nat → Nat} {cI cZ cG : ClassId} {th tp lv dy pv pm by_ pt wy : Int32} {gone oR : Nat → Int32} (mem : xMem) : MI l nE yX2_thrown (.code yX2_thrown cX2_thrown 1 (some .int) :: tW) ({ frames := 0, cells := 0, slots := 0, locals := 0 }) D vwCl (tC cI cZ cG) [.ref (om 0)] (wM om am cI cZ th tp lv dy pv pm by_ pt wy gone oR mem) (wM om am cI cZ th tp lv dy pv pm by_ pt wy gone oR mem) (th) := by
  refine MI.ofW (by decide +kernel) rfl (Nat.le_of_ble_eq_true rfl) ?_
  intro p e s m below meth c A ls hx hb hr hts hown hlk hml hA hP hK hD hT hl
  have hS : va_S A s.heap s.heap [] := va_S.rf
  have hown : s.vm.findClass RX2 = some m.cls := hown
  have hW : ∀ w ∈ tW, w.before _ s = true := fun w h => hts w (List.mem_cons_of_mem _ h)
  have hl : lv_has ls 1 [(0, .ref (om 0))] := hl
  refine lv_aload_n hx hb dX2_thrown_0 rfl (lv_at hl 0 rfl) ?_
  refine va_get (D := D) (ci := 2) (v := .int th) (C := RX2) (T := TX2) (N := 25) hx hb hW iMD hown hK hP 0 rfl rfl 0 (by decide) (hW _ tw_514) (fun _ h9 => h9) rfl dX2_thrown_1 ?_
  have hP : va_P D vwCl (wM om am cI cZ th tp lv dy pv pm by_ pt wy gone oR mem) s.heap := by exact hP
  have hD : va_D A (wM om am cI cZ th tp lv dy pv pm by_ pt wy gone oR mem) := by exact hD
  exact mi_ret hx hb hr (rfl) hlk hS hP hD (rfl) dX2_thrown_4
set_option maxHeartbeats 4000000 in
set_option maxRecDepth 100000 in
theorem n_in {l : Launch} {D : va_G} {cI cZ cG : ClassId} (w : va_W) (x a b : Int32) : MI l nE yX2_in (.code yX2_in cX2_in 3 (some .boolean) :: tW) ({ frames := 0, cells := 0, slots := 0, locals := 0 }) D vwCl (tC cI cZ cG) [.int x, .int a, .int b] (w) (w) (p_in x a b) := by
  refine MI.ofW (by decide +kernel) rfl (Nat.le_of_ble_eq_true rfl) ?_
  intro p e s m below meth c A ls hx hb hr hts hown hlk hml hA hP hK hD hT hl
  have hS : va_S A s.heap s.heap [] := va_S.rf
  have hown : s.vm.findClass RX2 = some m.cls := hown
  have hW : ∀ w ∈ tW, w.before _ s = true := fun w h => hts w (List.mem_cons_of_mem _ h)
  have hl : lv_has ls 3 [(0, .int x), (1, .int a), (2, .int b)] := hl
  refine lv_iload_n hx hb dX2_in_0 rfl (lv_at hl 0 rfl) ?_
  refine lv_iload_n hx hb dX2_in_1 rfl (lv_at hl 1 rfl) ?_
  refine lv_icmp_lt (tgt := 14) hx hb dX2_in_2 (by decide) (fun ha => ?_) (fun ha => ?_)
  · refine lv_iconst (v := nI 0) hx hb dX2_in_14 (by decide) ?_
    have hP : va_P D vwCl (w) s.heap := by exact hP
    have hD : va_D A (w) := by exact hD
    exact mi_ret hx hb hr (rfl) hlk hS hP hD ((if_pos ha).symm) dX2_in_15
  · refine lv_iload_n hx hb dX2_in_5 rfl (lv_at hl 0 rfl) ?_
    refine lv_iload_n hx hb dX2_in_6 rfl (lv_at hl 2 rfl) ?_
    refine lv_icmp_gt (tgt := 14) hx hb dX2_in_7 (by decide) (fun hc => ?_) (fun hc => ?_)
    · refine lv_iconst (v := nI 0) hx hb dX2_in_14 (by decide) ?_
      have hP : va_P D vwCl (w) s.heap := by exact hP
      have hD : va_D A (w) := by exact hD
      exact mi_ret hx hb hr (rfl) hlk hS hP hD (((if_neg ha).trans (if_pos hc)).symm) dX2_in_15
    · refine lv_iconst (v := nI 1) hx hb dX2_in_10 (by decide) ?_
      refine lv_goto (tgt := 15) hx hb dX2_in_11 (by decide) ?_
      have hP : va_P D vwCl (w) s.heap := by exact hP
      have hD : va_D A (w) := by exact hD
      exact mi_ret hx hb hr (rfl) hlk hS hP hD (((if_neg ha).trans (if_neg hc)).symm) dX2_in_15
set_option maxHeartbeats 4000000 in
set_option maxRecDepth 100000 in
theorem n_goes {l : Launch} {D : va_G} {om am : Nat → Nat} {cI cZ cG : ClassId} {th tp lv dy pv pm by_ pt wy : Int32} {gone oR : Nat → Int32} (a b c0 t r : Int32) (mem : xMem) (ht : gth a b c0 = t) (hr0 : (if t = 0 then nI 1 else nI 0) = r) : MI l nE yX2_goes (.code yX2_goes cX2_goes 4 (some .boolean) :: tW) ({ frames := 0, cells := 0, slots := 0, locals := 0 }) D vwCl (tC cI cZ cG) [.ref (om 0), .int a, .int b, .int c0] (wM om am cI cZ th tp lv dy pv pm by_ pt wy gone oR mem) (wM om am cI cZ t tp lv dy pv pm by_ pt wy gone oR mem) (r) := by
  refine MI.ofW (by decide +kernel) rfl (Nat.le_of_ble_eq_true rfl) ?_
  intro p e s m below meth c A ls hx hb hr hts hown hlk hml hA hP hK hD hT hl
  have hS : va_S A s.heap s.heap [] := va_S.rf
  have hown : s.vm.findClass RX2 = some m.cls := hown
  have hW : ∀ w ∈ tW, w.before _ s = true := fun w h => hts w (List.mem_cons_of_mem _ h)
  have hl : lv_has ls 4 [(0, .ref (om 0)), (1, .int a), (2, .int b), (3, .int c0)] := hl
  refine lv_aload_n hx hb dX2_goes_0 rfl (lv_at hl 0 rfl) ?_
  refine lv_iload_n hx hb dX2_goes_1 rfl (lv_at hl 1 rfl) ?_
  refine lv_if_ne (tgt := 9) hx hb dX2_goes_2 (by decide) (fun ha => ?_) (fun ha => ?_)
  · refine lv_iload_n hx hb dX2_goes_9 rfl (lv_at hl 2 rfl) ?_
    refine lv_if_ne (tgt := 17) hx hb dX2_goes_10 (by decide) (fun hb2 => ?_) (fun hb2 => ?_)
    · refine lv_iload_n hx hb dX2_goes_17 rfl (lv_at hl 3 rfl) ?_
      refine lv_if_ne (tgt := 25) hx hb dX2_goes_18 (by decide) (fun hc => ?_) (fun hc => ?_)
      · have ht9 : t = nI 0 := ht.symm.trans ((if_neg ha).trans ((if_neg hb2).trans (if_neg hc)))
        refine lv_iconst (v := nI 0) hx hb dX2_goes_25 (by decide) ?_
        refine va_put (D := D) (ci := 2) (v := .int (nI 0)) (ty := .int) (C := RX2) (T := TX2) (N := 25) hx hb hW iMD tyX2 tyX2_ok nmX2 hown hK hP hD hS 0 rfl rfl 0 (by decide) (hW _ tw_514) (fun _ h9 => h9) rfl (by decide +kernel) rfl rfl (Nat.le_of_ble_eq_true rfl) dX2_goes_26 (fun H locs hP hD hS => ?_)
        have hP : va_P D vwCl (wM om am cI cZ (nI 0) tp lv dy pv pm by_ pt wy gone oR mem) H := hP
        have hD : va_D A (wM om am cI cZ (nI 0) tp lv dy pv pm by_ pt wy gone oR mem) := hD
        refine lv_aload_n hx hb dX2_goes_29 rfl (lv_at hl 0 rfl) ?_
        refine va_get (D := D) (ci := 2) (v := .int (nI 0)) (C := RX2) (T := TX2) (N := 25) hx hb hW iMD hown hK hP 0 rfl rfl 0 (by decide) (hW _ tw_514) (fun _ h9 => h9) rfl dX2_goes_30 ?_
        refine lv_if_ne (tgt := 40) hx hb dX2_goes_33 (by decide) (fun hq9 => absurd (by decide) hq9) (fun _ => ?_)
        refine lv_iconst (v := nI 1) hx hb dX2_goes_36 (by decide) ?_
        refine lv_goto (tgt := 41) hx hb dX2_goes_37 (by decide) ?_
        have hP : va_P D vwCl (wM om am cI cZ t tp lv dy pv pm by_ pt wy gone oR mem) H := by rw [ht9]; exact hP
        have hD : va_D A (wM om am cI cZ t tp lv dy pv pm by_ pt wy gone oR mem) := by rw [ht9]; exact hD
        exact mi_ret hx hb hr (rfl) hlk hS hP hD (by rw [← hr0, ht9]; decide) dX2_goes_41
      · have ht9 : t = nI 3 := ht.symm.trans ((if_neg ha).trans ((if_neg hb2).trans (if_pos hc)))
        refine lv_iconst (v := nI 3) hx hb dX2_goes_21 (by decide) ?_
        refine lv_goto (tgt := 26) hx hb dX2_goes_22 (by decide) ?_
        refine va_put (D := D) (ci := 2) (v := .int (nI 3)) (ty := .int) (C := RX2) (T := TX2) (N := 25) hx hb hW iMD tyX2 tyX2_ok nmX2 hown hK hP hD hS 0 rfl rfl 0 (by decide) (hW _ tw_514) (fun _ h9 => h9) rfl (by decide +kernel) rfl rfl (Nat.le_of_ble_eq_true rfl) dX2_goes_26 (fun H locs hP hD hS => ?_)
        have hP : va_P D vwCl (wM om am cI cZ (nI 3) tp lv dy pv pm by_ pt wy gone oR mem) H := hP
        have hD : va_D A (wM om am cI cZ (nI 3) tp lv dy pv pm by_ pt wy gone oR mem) := hD
        refine lv_aload_n hx hb dX2_goes_29 rfl (lv_at hl 0 rfl) ?_
        refine va_get (D := D) (ci := 2) (v := .int (nI 3)) (C := RX2) (T := TX2) (N := 25) hx hb hW iMD hown hK hP 0 rfl rfl 0 (by decide) (hW _ tw_514) (fun _ h9 => h9) rfl dX2_goes_30 ?_
        refine lv_if_ne (tgt := 40) hx hb dX2_goes_33 (by decide) (fun _ => ?_) (fun hq9 => absurd hq9 (by decide))
        refine lv_iconst (v := nI 0) hx hb dX2_goes_40 (by decide) ?_
        have hP : va_P D vwCl (wM om am cI cZ t tp lv dy pv pm by_ pt wy gone oR mem) H := by rw [ht9]; exact hP
        have hD : va_D A (wM om am cI cZ t tp lv dy pv pm by_ pt wy gone oR mem) := by rw [ht9]; exact hD
        exact mi_ret hx hb hr (rfl) hlk hS hP hD (by rw [← hr0, ht9]; decide) dX2_goes_41
    · have ht9 : t = nI 2 := ht.symm.trans ((if_neg ha).trans (if_pos hb2))
      refine lv_iconst (v := nI 2) hx hb dX2_goes_13 (by decide) ?_
      refine lv_goto (tgt := 26) hx hb dX2_goes_14 (by decide) ?_
      refine va_put (D := D) (ci := 2) (v := .int (nI 2)) (ty := .int) (C := RX2) (T := TX2) (N := 25) hx hb hW iMD tyX2 tyX2_ok nmX2 hown hK hP hD hS 0 rfl rfl 0 (by decide) (hW _ tw_514) (fun _ h9 => h9) rfl (by decide +kernel) rfl rfl (Nat.le_of_ble_eq_true rfl) dX2_goes_26 (fun H locs hP hD hS => ?_)
      have hP : va_P D vwCl (wM om am cI cZ (nI 2) tp lv dy pv pm by_ pt wy gone oR mem) H := hP
      have hD : va_D A (wM om am cI cZ (nI 2) tp lv dy pv pm by_ pt wy gone oR mem) := hD
      refine lv_aload_n hx hb dX2_goes_29 rfl (lv_at hl 0 rfl) ?_
      refine va_get (D := D) (ci := 2) (v := .int (nI 2)) (C := RX2) (T := TX2) (N := 25) hx hb hW iMD hown hK hP 0 rfl rfl 0 (by decide) (hW _ tw_514) (fun _ h9 => h9) rfl dX2_goes_30 ?_
      refine lv_if_ne (tgt := 40) hx hb dX2_goes_33 (by decide) (fun _ => ?_) (fun hq9 => absurd hq9 (by decide))
      refine lv_iconst (v := nI 0) hx hb dX2_goes_40 (by decide) ?_
      have hP : va_P D vwCl (wM om am cI cZ t tp lv dy pv pm by_ pt wy gone oR mem) H := by rw [ht9]; exact hP
      have hD : va_D A (wM om am cI cZ t tp lv dy pv pm by_ pt wy gone oR mem) := by rw [ht9]; exact hD
      exact mi_ret hx hb hr (rfl) hlk hS hP hD (by rw [← hr0, ht9]; decide) dX2_goes_41
  · have ht9 : t = nI 1 := ht.symm.trans (if_pos ha)
    refine lv_iconst (v := nI 1) hx hb dX2_goes_5 (by decide) ?_
    refine lv_goto (tgt := 26) hx hb dX2_goes_6 (by decide) ?_
    refine va_put (D := D) (ci := 2) (v := .int (nI 1)) (ty := .int) (C := RX2) (T := TX2) (N := 25) hx hb hW iMD tyX2 tyX2_ok nmX2 hown hK hP hD hS 0 rfl rfl 0 (by decide) (hW _ tw_514) (fun _ h9 => h9) rfl (by decide +kernel) rfl rfl (Nat.le_of_ble_eq_true rfl) dX2_goes_26 (fun H locs hP hD hS => ?_)
    have hP : va_P D vwCl (wM om am cI cZ (nI 1) tp lv dy pv pm by_ pt wy gone oR mem) H := hP
    have hD : va_D A (wM om am cI cZ (nI 1) tp lv dy pv pm by_ pt wy gone oR mem) := hD
    refine lv_aload_n hx hb dX2_goes_29 rfl (lv_at hl 0 rfl) ?_
    refine va_get (D := D) (ci := 2) (v := .int (nI 1)) (C := RX2) (T := TX2) (N := 25) hx hb hW iMD hown hK hP 0 rfl rfl 0 (by decide) (hW _ tw_514) (fun _ h9 => h9) rfl dX2_goes_30 ?_
    refine lv_if_ne (tgt := 40) hx hb dX2_goes_33 (by decide) (fun _ => ?_) (fun hq9 => absurd hq9 (by decide))
    refine lv_iconst (v := nI 0) hx hb dX2_goes_40 (by decide) ?_
    have hP : va_P D vwCl (wM om am cI cZ t tp lv dy pv pm by_ pt wy gone oR mem) H := by rw [ht9]; exact hP
    have hD : va_D A (wM om am cI cZ t tp lv dy pv pm by_ pt wy gone oR mem) := by rw [ht9]; exact hD
    exact mi_ret hx hb hr (rfl) hlk hS hP hD (by rw [← hr0, ht9]; decide) dX2_goes_41
set_option maxHeartbeats 4000000 in
set_option maxRecDepth 100000 in
theorem n_isLeaf {l : Launch} {D : va_G} {om am : Nat → Nat} {cI cZ cG : ClassId} {th tp dy pv pm by_ pt wy : Int32} {gone oR : Nat → Int32} (v : Int32) (q : Nat) (hq : q < 2 ^ 30) (mem : xMem) : MI l nE yX2_isLeaf (.code yX2_isLeaf cX2_isLeaf 2 (some .boolean) :: tW) ({ frames := 1, cells := 0, slots := 0, locals := 24 }) D vwCl (tC cI cZ cG) [.ref (om 0), .int v] (wM om am cI cZ th tp (nI q) dy pv pm by_ pt wy gone oR mem) (wM om am cI cZ th tp (nI q) dy pv pm by_ pt wy gone oR mem) (b01 (x_req v (nI q))) := by
  refine MI.ofW (by decide +kernel) rfl (Nat.le_of_ble_eq_true rfl) ?_
  intro p e s m below meth c A ls hx hb hr hts hown hlk hml hA hP hK hD hT hl
  have hS : va_S A s.heap s.heap [] := va_S.rf
  have hown : s.vm.findClass RX2 = some m.cls := hown
  have hW : ∀ w ∈ tW, w.before _ s = true := fun w h => hts w (List.mem_cons_of_mem _ h)
  have hl : lv_has ls 2 [(0, .ref (om 0)), (1, .int v)] := hl
  refine lv_iload_n hx hb dX2_isLeaf_0 rfl (lv_at hl 1 rfl) ?_
  refine lv_iconst (v := nI 0) hx hb dX2_isLeaf_1 (by decide) ?_
  refine lv_aload_n hx hb dX2_isLeaf_2 rfl (lv_at hl 0 rfl) ?_
  refine va_get (D := D) (ci := 2) (v := .int (nI q)) (C := RX2) (T := TX2) (N := 25) hx hb hW iMD hown hK hP 0 rfl rfl 3 (by decide) (hW _ tw_517) (fun _ h9 => h9) rfl dX2_isLeaf_3 ?_
  refine lv_iconst (v := nI 1) hx hb dX2_isLeaf_6 (by decide) ?_
  refine lv_isub hx hb dX2_isLeaf_7 ?_
  refine mi_callS (As := [.int v, .int (nI 0), .int ((nI q) - (nI 1))]) (rest := []) ⟨hx, hb, hml, hown, hW⟩ (n_in _ v (nI 0) ((nI q) - (nI 1))) nE_ok (va_cwS 3 hW (gS tw_598 tw_599 tw_3 tw_600) rfl rfl rfl (by decide +kernel) ⟨Nat.le_of_ble_eq_true rfl, Nat.le_of_ble_eq_true rfl⟩) hP hD hK hS hA hT rfl hl.1 rfl (Nat.le_of_ble_eq_true rfl) dX2_isLeaf_8 ⟨Nat.zero_le _, Nat.zero_le _⟩ (fun H locs hP hD hS => ?_)
  have hP : va_P D vwCl (wM om am cI cZ th tp (nI q) dy pv pm by_ pt wy gone oR mem) H := by exact hP
  have hD : va_D A (wM om am cI cZ th tp (nI q) dy pv pm by_ pt wy gone oR mem) := by exact hD
  exact mi_ret hx hb hr (p_in_nar _ _ _) hlk hS hP hD (p_in_req v q hq) dX2_isLeaf_11
set_option maxHeartbeats 4000000 in
set_option maxRecDepth 100000 in
theorem n_isDay {l : Launch} {D : va_G} {om am : Nat → Nat} {cI cZ cG : ClassId} {th tp lv pv pm by_ pt wy : Int32} {gone oR : Nat → Int32} (v : Int32) (q : Nat) (hq : q < 2 ^ 30) (mem : xMem) : MI l nE yX2_isDay (.code yX2_isDay cX2_isDay 2 (some .boolean) :: tW) ({ frames := 1, cells := 0, slots := 0, locals := 24 }) D vwCl (tC cI cZ cG) [.ref (om 0), .int v] (wM om am cI cZ th tp lv (nI q) pv pm by_ pt wy gone oR mem) (wM om am cI cZ th tp lv (nI q) pv pm by_ pt wy gone oR mem) (b01 (x_req v (nI q))) := by
  refine MI.ofW (by decide +kernel) rfl (Nat.le_of_ble_eq_true rfl) ?_
  intro p e s m below meth c A ls hx hb hr hts hown hlk hml hA hP hK hD hT hl
  have hS : va_S A s.heap s.heap [] := va_S.rf
  have hown : s.vm.findClass RX2 = some m.cls := hown
  have hW : ∀ w ∈ tW, w.before _ s = true := fun w h => hts w (List.mem_cons_of_mem _ h)
  have hl : lv_has ls 2 [(0, .ref (om 0)), (1, .int v)] := hl
  refine lv_iload_n hx hb dX2_isDay_0 rfl (lv_at hl 1 rfl) ?_
  refine lv_iconst (v := nI 0) hx hb dX2_isDay_1 (by decide) ?_
  refine lv_aload_n hx hb dX2_isDay_2 rfl (lv_at hl 0 rfl) ?_
  refine va_get (D := D) (ci := 2) (v := .int (nI q)) (C := RX2) (T := TX2) (N := 25) hx hb hW iMD hown hK hP 0 rfl rfl 6 (by decide) (hW _ tw_520) (fun _ h9 => h9) rfl dX2_isDay_3 ?_
  refine lv_iconst (v := nI 1) hx hb dX2_isDay_6 (by decide) ?_
  refine lv_isub hx hb dX2_isDay_7 ?_
  refine mi_callS (As := [.int v, .int (nI 0), .int ((nI q) - (nI 1))]) (rest := []) ⟨hx, hb, hml, hown, hW⟩ (n_in _ v (nI 0) ((nI q) - (nI 1))) nE_ok (va_cwS 3 hW (gS tw_598 tw_599 tw_3 tw_600) rfl rfl rfl (by decide +kernel) ⟨Nat.le_of_ble_eq_true rfl, Nat.le_of_ble_eq_true rfl⟩) hP hD hK hS hA hT rfl hl.1 rfl (Nat.le_of_ble_eq_true rfl) dX2_isDay_8 ⟨Nat.zero_le _, Nat.zero_le _⟩ (fun H locs hP hD hS => ?_)
  have hP : va_P D vwCl (wM om am cI cZ th tp lv (nI q) pv pm by_ pt wy gone oR mem) H := by exact hP
  have hD : va_D A (wM om am cI cZ th tp lv (nI q) pv pm by_ pt wy gone oR mem) := by exact hD
  exact mi_ret hx hb hr (p_in_nar _ _ _) hlk hS hP hD (p_in_req v q hq) dX2_isDay_11
set_option maxHeartbeats 4000000 in
set_option maxRecDepth 100000 in
theorem n_isByte {l : Launch} {D : va_G} {cI cZ cG : ClassId} (w : va_W) (v : Int32) : MI l nE yX2_isByte (.code yX2_isByte cX2_isByte 1 (some .boolean) :: tW) ({ frames := 1, cells := 0, slots := 0, locals := 24 }) D vwCl (tC cI cZ cG) [.int v] (w) (w) (b01 (x_req v (nI 32))) := by
  refine MI.ofW (by decide +kernel) rfl (Nat.le_of_ble_eq_true rfl) ?_
  intro p e s m below meth c A ls hx hb hr hts hown hlk hml hA hP hK hD hT hl
  have hS : va_S A s.heap s.heap [] := va_S.rf
  have hown : s.vm.findClass RX2 = some m.cls := hown
  have hW : ∀ w ∈ tW, w.before _ s = true := fun w h => hts w (List.mem_cons_of_mem _ h)
  have hl : lv_has ls 1 [(0, .int v)] := hl
  refine lv_iload_n hx hb dX2_isByte_0 rfl (lv_at hl 0 rfl) ?_
  refine lv_iconst (v := nI 0) hx hb dX2_isByte_1 (by decide) ?_
  refine lv_bipush (v := nI 31) hx hb dX2_isByte_2 (by decide) ?_
  refine mi_callS (As := [.int v, .int (nI 0), .int (nI 31)]) (rest := []) ⟨hx, hb, hml, hown, hW⟩ (n_in _ v (nI 0) (nI 31)) nE_ok (va_cwS 3 hW (gS tw_598 tw_599 tw_3 tw_600) rfl rfl rfl (by decide +kernel) ⟨Nat.le_of_ble_eq_true rfl, Nat.le_of_ble_eq_true rfl⟩) hP hD hK hS hA hT rfl hl.1 rfl (Nat.le_of_ble_eq_true rfl) dX2_isByte_4 ⟨Nat.zero_le _, Nat.zero_le _⟩ (fun H locs hP hD hS => ?_)
  have hP : va_P D vwCl (w) H := by exact hP
  have hD : va_D A (w) := by exact hD
  exact mi_ret hx hb hr (p_in_nar _ _ _) hlk hS hP hD (p_in_byte v) dX2_isByte_7
set_option maxHeartbeats 4000000 in
set_option maxRecDepth 100000 in
theorem n_right {l : Launch} {D : va_G} {cI cZ cG : ClassId} (w : va_W) (x d : Int32) (hd : (nI 32 - d) &&& 31 = (-d) &&& 31) : MI l nE yX2_right (.code yX2_right cX2_right 2 (some .int) :: tW) ({ frames := 0, cells := 0, slots := 0, locals := 0 }) D vwCl (tC cI cZ cG) [.int x, .int d] (w) (w) (rotr x d) := by
  refine MI.ofW (by decide +kernel) rfl (Nat.le_of_ble_eq_true rfl) ?_
  intro p e s m below meth c A ls hx hb hr hts hown hlk hml hA hP hK hD hT hl
  have hS : va_S A s.heap s.heap [] := va_S.rf
  have hown : s.vm.findClass RX2 = some m.cls := hown
  have hW : ∀ w ∈ tW, w.before _ s = true := fun w h => hts w (List.mem_cons_of_mem _ h)
  have hl : lv_has ls 2 [(0, .int x), (1, .int d)] := hl
  refine lv_iload_n hx hb dX2_right_0 rfl (lv_at hl 0 rfl) ?_
  refine lv_iload_n hx hb dX2_right_1 rfl (lv_at hl 1 rfl) ?_
  refine lv_iushr (v := ush x d) hx hb dX2_right_2 rfl ?_
  refine lv_iload_n hx hb dX2_right_3 rfl (lv_at hl 0 rfl) ?_
  refine lv_bipush (v := nI 32) hx hb dX2_right_4 (by decide) ?_
  refine lv_iload_n hx hb dX2_right_6 rfl (lv_at hl 1 rfl) ?_
  refine lv_isub hx hb dX2_right_7 ?_
  refine lv_ishl hx hb dX2_right_8 ?_
  refine lv_ior hx hb dX2_right_9 ?_
  have hP : va_P D vwCl (w) s.heap := by exact hP
  have hD : va_D A (w) := by exact hD
  exact mi_ret hx hb hr (rfl) hlk hS hP hD (rgt_eq hd) dX2_right_10
set_option maxHeartbeats 4000000 in
set_option maxRecDepth 100000 in
theorem n_begin {l : Launch} {D : va_G} {om am : Nat → Nat} {cI cZ cG : ClassId} {th tp lv dy pv pm by_ pt wy : Int32} {gone oR : Nat → Int32} (mem : xMem) : MV l nE yX2_begin (.code yX2_begin cX2_begin 1 none :: tW) ({ frames := 0, cells := 0, slots := 0, locals := 0 }) D vwCl (tC cI cZ cG) [.ref (om 0)] (wM om am cI cZ th tp lv dy pv pm by_ pt wy gone oR mem) (wM om am cI cZ th tp lv dy pv pm (nI 0) pt wy gone oR mem) := by
  refine MV.ofW (by decide +kernel) rfl (Nat.le_of_ble_eq_true rfl) ?_
  intro p e s m below meth c A ls hx hb hr hts hown hlk hml hA hP hK hD hT hl
  have hS : va_S A s.heap s.heap [] := va_S.rf
  have hown : s.vm.findClass RX2 = some m.cls := hown
  have hW : ∀ w ∈ tW, w.before _ s = true := fun w h => hts w (List.mem_cons_of_mem _ h)
  have hl : lv_has ls 1 [(0, .ref (om 0))] := hl
  refine lv_aload_n hx hb dX2_begin_0 rfl (lv_at hl 0 rfl) ?_
  refine lv_iconst (v := nI 0) hx hb dX2_begin_1 (by decide) ?_
  refine va_put (D := D) (ci := 2) (v := .int (nI 0)) (ty := .int) (C := RX2) (T := TX2) (N := 25) hx hb hW iMD tyX2 tyX2_ok nmX2 hown hK hP hD hS 0 rfl rfl 12 (by decide) (hW _ tw_526) (fun _ h9 => h9) rfl (by decide +kernel) rfl rfl (Nat.le_of_ble_eq_true rfl) dX2_begin_2 (fun H locs hP hD hS => ?_)
  have hP : va_P D vwCl (wM om am cI cZ th tp lv dy pv pm (nI 0) pt wy gone oR mem) H := hP
  have hD : va_D A (wM om am cI cZ th tp lv dy pv pm (nI 0) pt wy gone oR mem) := hD
  have hP : va_P D vwCl (wM om am cI cZ th tp lv dy pv pm (nI 0) pt wy gone oR mem) H := by exact hP
  have hD : va_D A (wM om am cI cZ th tp lv dy pv pm (nI 0) pt wy gone oR mem) := by exact hD
  exact mv_ret hx hb hr hlk hS hP hD dX2_begin_5
set_option maxHeartbeats 4000000 in
set_option maxRecDepth 100000 in
theorem n_add {l : Launch} {D : va_G} {om am : Nat → Nat} {cI cZ cG : ClassId} {th tp lv dy pv pm pt wy : Int32} {gone oR : Nat → Int32} (n : Nat) (hn : n < 256) (mem : xMem) (x : Int32) : MV l nE yX2_add (.code yX2_add cX2_add 2 none :: tW) ({ frames := 0, cells := 0, slots := 0, locals := 0 }) D vwCl (tC cI cZ cG) [.ref (om 0), .int x] (wM om am cI cZ th tp lv dy pv pm (nI n) pt wy gone oR mem) (wM om am cI cZ th tp lv dy pv pm (nI (P_take x (n, mem)).1) pt wy gone oR ((P_take x (n, mem)).2)) := by
  refine MV.ofW (by decide +kernel) rfl (Nat.le_of_ble_eq_true rfl) ?_
  intro p e s m below meth c A ls hx hb hr hts hown hlk hml hA hP hK hD hT hl
  have hS : va_S A s.heap s.heap [] := va_S.rf
  have hown : s.vm.findClass RX2 = some m.cls := hown
  have hW : ∀ w ∈ tW, w.before _ s = true := fun w h => hts w (List.mem_cons_of_mem _ h)
  have hl : lv_has ls 2 [(0, .ref (om 0)), (1, .int x)] := hl
  refine lv_aload_n hx hb dX2_add_0 rfl (lv_at hl 0 rfl) ?_
  refine va_get (D := D) (ci := 2) (v := .ref (am 3)) (C := RX2) (T := TX2) (N := 25) hx hb hW iMD hown hK hP 0 rfl rfl 13 (by decide) (hW _ tw_527) (fun _ h9 => h9) rfl dX2_add_1 ?_
  refine lv_aload_n hx hb dX2_add_4 rfl (lv_at hl 0 rfl) ?_
  refine va_get (D := D) (ci := 2) (v := .int (nI n)) (C := RX2) (T := TX2) (N := 25) hx hb hW iMD hown hK hP 0 rfl rfl 12 (by decide) (hW _ tw_526) (fun _ h9 => h9) rfl dX2_add_5 ?_
  refine lv_iload_n hx hb dX2_add_8 rfl (lv_at hl 1 rfl) ?_
  refine m_st (X := wMx om am cZ th tp lv dy pv pm (nI n) pt wy gone oR) hx hb hK hP hD hS 0 3 n rfl (by decide) (show n < 256 by omega) (by decide) dX2_add_9 (fun H locs hP hD hS => ?_)
  have hP : va_P D vwCl (wM om am cI cZ th tp lv dy pv pm (nI n) pt wy gone oR (va_up mem 3 (upd (mem 3) n x))) H := hP
  have hD : va_D A (wM om am cI cZ th tp lv dy pv pm (nI n) pt wy gone oR (va_up mem 3 (upd (mem 3) n x))) := hD
  refine lv_aload_n hx hb dX2_add_10 rfl (lv_at hl 0 rfl) ?_
  refine lv_dup hx hb dX2_add_11 rfl ?_
  refine va_get (D := D) (ci := 2) (v := .int (nI n)) (C := RX2) (T := TX2) (N := 25) hx hb hW iMD hown hK hP 0 rfl rfl 12 (by decide) (hW _ tw_526) (fun _ h9 => h9) rfl dX2_add_12 ?_
  refine lv_iconst (v := nI 1) hx hb dX2_add_15 (by decide) ?_
  refine lv_iadd hx hb dX2_add_16 ?_
  refine lv_eqi (v := nI (n + 1)) (nI_add _ _) ?_
  refine va_put (D := D) (ci := 2) (v := .int (nI (n + 1))) (ty := .int) (C := RX2) (T := TX2) (N := 25) hx hb hW iMD tyX2 tyX2_ok nmX2 hown hK hP hD hS 0 rfl rfl 12 (by decide) (hW _ tw_526) (fun _ h9 => h9) rfl (by decide +kernel) rfl rfl (Nat.le_of_ble_eq_true rfl) dX2_add_17 (fun H locs hP hD hS => ?_)
  have hP : va_P D vwCl (wM om am cI cZ th tp lv dy pv pm (nI (n + 1)) pt wy gone oR (va_up mem 3 (upd (mem 3) n x))) H := hP
  have hD : va_D A (wM om am cI cZ th tp lv dy pv pm (nI (n + 1)) pt wy gone oR (va_up mem 3 (upd (mem 3) n x))) := hD
  have e1 : P_take x (n, mem) = (n + 1, va_up mem 3 (upd (mem 3) n x)) := by rw [P_take_e]; exact if_pos hn
  have hP : va_P D vwCl (wM om am cI cZ th tp lv dy pv pm (nI (P_take x (n, mem)).1) pt wy gone oR ((P_take x (n, mem)).2)) H := by rw [e1]; exact hP
  have hD : va_D A (wM om am cI cZ th tp lv dy pv pm (nI (P_take x (n, mem)).1) pt wy gone oR ((P_take x (n, mem)).2)) := by rw [e1]; exact hD
  exact mv_ret hx hb hr hlk hS hP hD dX2_add_20
set_option maxHeartbeats 4000000 in
set_option maxRecDepth 100000 in
theorem n_addRow {l : Launch} {D : va_G} {om am : Nat → Nat} {cI cZ cG : ClassId} {th tp lv dy pv pm pt wy : Int32} {gone oR : Nat → Int32} (n kk a : Nat) (hn : n + 32 ≤ 256) (hkk : kk < 14) (hq : a + 32 ≤ lenM kk) (mem : xMem) : MV l nE yX2_addRow (.code yX2_addRow cX2_addRow 4 none :: tW) ({ frames := 1, cells := 0, slots := 0, locals := 24 }) D vwCl (tC cI cZ cG) [.ref (om 0), .ref (am kk), .int (nI a)] (wM om am cI cZ th tp lv dy pv pm (nI n) pt wy gone oR mem) (wM om am cI cZ th tp lv dy pv pm (nI (P_row kk a 32 (n, mem)).1) pt wy gone oR ((P_row kk a 32 (n, mem)).2)) := by
  refine MV.ofW (by decide +kernel) rfl (Nat.le_of_ble_eq_true rfl) ?_
  intro p e s m below meth c A ls hx hb hr hts hown hlk hml hA hP hK hD hT hl
  have hS : va_S A s.heap s.heap [] := va_S.rf
  have hown : s.vm.findClass RX2 = some m.cls := hown
  have hW : ∀ w ∈ tW, w.before _ s = true := fun w h => hts w (List.mem_cons_of_mem _ h)
  have hl : lv_has ls 4 [(0, .ref (om 0)), (1, .ref (am kk)), (2, .int (nI a))] := hl
  have hq2 := lenM_lt kk
  have loop : ∀ (k i : Nat) (H : Heap) (locs : List Loc) (ls : Array Slot), i + k = 32 → va_P D vwCl (wM om am cI cZ th tp lv dy pv pm (nI (p_row kk a i (n, mem)).1) pt wy gone oR ((p_row kk a i (n, mem)).2)) H → va_D A (wM om am cI cZ th tp lv dy pv pm (nI (p_row kk a i (n, mem)).1) pt wy gone oR ((p_row kk a i (n, mem)).2)) → va_S A s.heap H locs → lv_has ls 4 [(0, .ref (om 0)), (1, .ref (am kk)), (2, .int (nI a)), (3, .int (nI i))] → W p l e ({ frames := 1, cells := 0, slots := 0, locals := 24 }) s m ([.ref (om 0), .ref (am kk), .int (nI a)] : List Value).toArray below meth c H locs 0 0 (MQ below (xQv D vwCl (wM om am cI cZ th tp lv dy pv pm (nI (P_row kk a 32 (n, mem)).1) pt wy gone oR ((P_row kk a 32 (n, mem)).2)) A) ([.ref (om 0), .ref (am kk), .int (nI a)] : List Value).toArray s 0 0 A) (F0 m 2 ls []) := by
    intro k
    induction k with
    | zero =>
      intro i H locs ls hk hP hD hS hl
      have hk9 : i = 32 := by omega
      subst hk9
      refine lv_iload_n hx hb dX2_addRow_2 rfl (lv_at hl 3 rfl) ?_
      refine lv_bipush (v := nI 32) hx hb dX2_addRow_3 (by decide) ?_
      refine lv_icmp_ge (tgt := 23) hx hb dX2_addRow_5 (by decide) (fun _ => ?_) (fun hq9 => absurd (by decide) hq9)
      have hP : va_P D vwCl (wM om am cI cZ th tp lv dy pv pm (nI (P_row kk a 32 (n, mem)).1) pt wy gone oR ((P_row kk a 32 (n, mem)).2)) H := by rw [P_row_e]; exact hP
      have hD : va_D A (wM om am cI cZ th tp lv dy pv pm (nI (P_row kk a 32 (n, mem)).1) pt wy gone oR ((P_row kk a 32 (n, mem)).2)) := by rw [P_row_e]; exact hD
      exact mv_ret hx hb hr hlk hS hP hD dX2_addRow_23
    | succ k ih =>
      intro i H locs ls hk hP hD hS hl
      have e0 := p_row_fst kk a i (n, mem) (show n + i ≤ 256 by omega)
      have e0 : (p_row kk a i (n, mem)).1 = n + i := e0
      refine lv_iload_n hx hb dX2_addRow_2 rfl (lv_at hl 3 rfl) ?_
      refine lv_bipush (v := nI 32) hx hb dX2_addRow_3 (by decide) ?_
      refine lv_icmp_ge (tgt := 23) hx hb dX2_addRow_5 (by decide) (fun hq9 => absurd hq9 (nI_ge (by omega) (by decide))) (fun _ => ?_)
      refine lv_aload_n hx hb dX2_addRow_8 rfl (lv_at hl 0 rfl) ?_
      refine lv_aload_n hx hb dX2_addRow_9 rfl (lv_at hl 1 rfl) ?_
      refine lv_iload_n hx hb dX2_addRow_10 rfl (lv_at hl 2 rfl) ?_
      refine lv_iload_n hx hb dX2_addRow_11 rfl (lv_at hl 3 rfl) ?_
      refine lv_iadd hx hb dX2_addRow_12 ?_
      refine lv_eqi (v := nI (a + i)) (nI_add _ _) ?_
      refine m_ld (X := wMx om am cZ th tp lv dy pv pm (nI (p_row kk a i (n, mem)).1) pt wy gone oR) hx hb hK hP 0 kk (a + i) rfl hkk (by omega) (lenM_lt kk) dX2_addRow_13 ?_
      refine mv_callV (C := RX2) (As := [.int (((p_row kk a i (n, mem)).2) kk (a + i))]) (rest := []) ⟨hx, hb, hml, hown, hW⟩ (n_add ((p_row kk a i (n, mem)).1) (by rw [e0]; omega) ((p_row kk a i (n, mem)).2) (((p_row kk a i (n, mem)).2) kk (a + i))) nE_ok (cwV 1 hW (gV tw_613 tw_615 tv_X2_add tw_3 tw_616) rfl rfl rfl (by decide +kernel) ⟨Nat.le_of_ble_eq_true rfl, Nat.le_of_ble_eq_true rfl⟩) (va_recv hK hP (ci := 2) (q0 := 0) rfl rfl) hP hD hK hS hA hT rfl hl.1 rfl (Nat.le_of_ble_eq_true rfl) dX2_addRow_14 ⟨Nat.zero_le _, Nat.zero_le _⟩ (fun H locs hP hD hS => ?_)
      have hP : va_P D vwCl (wM om am cI cZ th tp lv dy pv pm (nI (P_take (((p_row kk a i (n, mem)).2) kk (a + i)) (p_row kk a i (n, mem))).1) pt wy gone oR ((P_take (((p_row kk a i (n, mem)).2) kk (a + i)) (p_row kk a i (n, mem))).2)) H := hP
      have hD : va_D A (wM om am cI cZ th tp lv dy pv pm (nI (P_take (((p_row kk a i (n, mem)).2) kk (a + i)) (p_row kk a i (n, mem))).1) pt wy gone oR ((P_take (((p_row kk a i (n, mem)).2) kk (a + i)) (p_row kk a i (n, mem))).2)) := hD
      have hP : va_P D vwCl (wM om am cI cZ th tp lv dy pv pm (nI (p_row kk a (i + 1) (n, mem)).1) pt wy gone oR ((p_row kk a (i + 1) (n, mem)).2)) H := by rw [p_row_s, ← P_take_e]; exact hP
      have hD : va_D A (wM om am cI cZ th tp lv dy pv pm (nI (p_row kk a (i + 1) (n, mem)).1) pt wy gone oR ((p_row kk a (i + 1) (n, mem)).2)) := by rw [p_row_s, ← P_take_e]; exact hD
      refine lv_iinc (v := nI (i + 1)) (lv' := [(3, .int (nI (i + 1))), (0, .ref (om 0)), (1, .ref (am kk)), (2, .int (nI a))]) hx hb dX2_addRow_17 hl (k := 3) rfl (nI_1 _) (by decide) rfl (fun ls hl => ?_)
      refine lv_goto (tgt := 2) hx hb dX2_addRow_20 (by decide) ?_
      exact ih (i + 1) H locs ls (by omega) hP hD hS (lv_sub hl [1, 2, 3, 0] rfl)
  refine lv_iconst (v := nI 0) hx hb dX2_addRow_0 (by decide) ?_
  refine lv_istore_n (lv' := [(3, .int (nI 0)), (0, .ref (om 0)), (1, .ref (am kk)), (2, .int (nI a))]) hx hb dX2_addRow_1 rfl hl (by decide) rfl (fun ls hl => ?_)
  exact loop 32 0 s.heap [] ls (by omega) hP hD hS (lv_sub hl [1, 2, 3, 0] rfl)
set_option maxHeartbeats 4000000 in
set_option maxRecDepth 100000 in
theorem n_addLong {l : Launch} {D : va_G} {om am : Nat → Nat} {cI cZ cG : ClassId} {th tp lv dy pv pm pt wy : Int32} {gone oR : Nat → Int32} (n : Nat) (hn : n + 8 ≤ 256) (mem : xMem) (v : Int64) : MV l nE yX2_addLong (.code yX2_addLong cX2_addLong 4 none :: tW) ({ frames := 1, cells := 0, slots := 0, locals := 24 }) D vwCl (tC cI cZ cG) [.ref (om 0), .long v] (wM om am cI cZ th tp lv dy pv pm (nI n) pt wy gone oR mem) (wM om am cI cZ th tp lv dy pv pm (nI (P_long v (n, mem)).1) pt wy gone oR ((P_long v (n, mem)).2)) := by
  refine MV.ofW (by decide +kernel) rfl (Nat.le_of_ble_eq_true rfl) ?_
  intro p e s m below meth c A ls hx hb hr hts hown hlk hml hA hP hK hD hT hl
  have hS : va_S A s.heap s.heap [] := va_S.rf
  have hown : s.vm.findClass RX2 = some m.cls := hown
  have hW : ∀ w ∈ tW, w.before _ s = true := fun w h => hts w (List.mem_cons_of_mem _ h)
  have hl : lv_has ls 4 [(0, .ref (om 0)), (1, .long v)] := hl
  have loop : ∀ (k i : Nat) (H : Heap) (locs : List Loc) (ls : Array Slot), i + k = 8 → va_P D vwCl (wM om am cI cZ th tp lv dy pv pm (nI (p_takeLongN v i (n, mem)).1) pt wy gone oR ((p_takeLongN v i (n, mem)).2)) H → va_D A (wM om am cI cZ th tp lv dy pv pm (nI (p_takeLongN v i (n, mem)).1) pt wy gone oR ((p_takeLongN v i (n, mem)).2)) → va_S A s.heap H locs → lv_has ls 4 [(0, .ref (om 0)), (1, .long v), (3, .int (p_sh i))] → W p l e ({ frames := 1, cells := 0, slots := 0, locals := 24 }) s m ([.ref (om 0), .long v] : List Value).toArray below meth c H locs 0 0 (MQ below (xQv D vwCl (wM om am cI cZ th tp lv dy pv pm (nI (P_long v (n, mem)).1) pt wy gone oR ((P_long v (n, mem)).2)) A) ([.ref (om 0), .long v] : List Value).toArray s 0 0 A) (F0 m 3 ls []) := by
    intro k
    induction k with
    | zero =>
      intro i H locs ls hk hP hD hS hl
      have hk9 : i = 8 := by omega
      subst hk9
      refine lv_iload_n hx hb dX2_addLong_3 rfl (lv_at hl 2 rfl) ?_
      refine lv_if_lt (tgt := 25) hx hb dX2_addLong_4 (by decide) (fun _ => ?_) (fun hq9 => absurd (by decide) hq9)
      have hP : va_P D vwCl (wM om am cI cZ th tp lv dy pv pm (nI (P_long v (n, mem)).1) pt wy gone oR ((P_long v (n, mem)).2)) H := by rw [P_long_e]; unfold p_takeLong; exact hP
      have hD : va_D A (wM om am cI cZ th tp lv dy pv pm (nI (P_long v (n, mem)).1) pt wy gone oR ((P_long v (n, mem)).2)) := by rw [P_long_e]; unfold p_takeLong; exact hD
      exact mv_ret hx hb hr hlk hS hP hD dX2_addLong_25
    | succ k ih =>
      intro i H locs ls hk hP hD hS hl
      have e0 : (p_takeLongN v i (n, mem)).1 = n + i := p_takeLongN_fst v i (n, mem) (show n + i ≤ 256 by omega)
      refine lv_iload_n hx hb dX2_addLong_3 rfl (lv_at hl 2 rfl) ?_
      refine lv_if_lt (tgt := 25) hx hb dX2_addLong_4 (by decide) (fun hq9 => absurd hq9 (p_sh_pos i (by omega))) (fun _ => ?_)
      refine lv_aload_n hx hb dX2_addLong_7 rfl (lv_at hl 0 rfl) ?_
      refine lv_lload_n hx hb dX2_addLong_8 rfl (lv_at hl 1 rfl) ?_
      refine lv_iload_n hx hb dX2_addLong_9 rfl (lv_at hl 2 rfl) ?_
      refine lv_lushr (v := lush v (p_sh i)) hx hb dX2_addLong_10 rfl ?_
      refine lv_l2i (v := (lush v (p_sh i)).toInt32) hx hb dX2_addLong_11 rfl ?_
      refine lv_sipush (v := nI 255) hx hb dX2_addLong_12 (by decide) ?_
      refine lv_iand hx hb dX2_addLong_15 ?_
      refine mv_callV (C := RX2) (As := [.int (((lush v (p_sh i)).toInt32) &&& (nI 255))]) (rest := []) ⟨hx, hb, hml, hown, hW⟩ (n_add ((p_takeLongN v i (n, mem)).1) (by rw [e0]; omega) ((p_takeLongN v i (n, mem)).2) (((lush v (p_sh i)).toInt32) &&& (nI 255))) nE_ok (cwV 1 hW (gV tw_613 tw_615 tv_X2_add tw_3 tw_616) rfl rfl rfl (by decide +kernel) ⟨Nat.le_of_ble_eq_true rfl, Nat.le_of_ble_eq_true rfl⟩) (va_recv hK hP (ci := 2) (q0 := 0) rfl rfl) hP hD hK hS hA hT rfl hl.1 rfl (Nat.le_of_ble_eq_true rfl) dX2_addLong_16 ⟨Nat.zero_le _, Nat.zero_le _⟩ (fun H locs hP hD hS => ?_)
      have hP : va_P D vwCl (wM om am cI cZ th tp lv dy pv pm (nI (P_take (((lush v (p_sh i)).toInt32) &&& (nI 255)) (p_takeLongN v i (n, mem))).1) pt wy gone oR ((P_take (((lush v (p_sh i)).toInt32) &&& (nI 255)) (p_takeLongN v i (n, mem))).2)) H := hP
      have hD : va_D A (wM om am cI cZ th tp lv dy pv pm (nI (P_take (((lush v (p_sh i)).toInt32) &&& (nI 255)) (p_takeLongN v i (n, mem))).1) pt wy gone oR ((P_take (((lush v (p_sh i)).toInt32) &&& (nI 255)) (p_takeLongN v i (n, mem))).2)) := hD
      have hP : va_P D vwCl (wM om am cI cZ th tp lv dy pv pm (nI (p_takeLongN v (i + 1) (n, mem)).1) pt wy gone oR ((p_takeLongN v (i + 1) (n, mem)).2)) H := by rw [p_long_s, ← P_take_e]; exact hP
      have hD : va_D A (wM om am cI cZ th tp lv dy pv pm (nI (p_takeLongN v (i + 1) (n, mem)).1) pt wy gone oR ((p_takeLongN v (i + 1) (n, mem)).2)) := by rw [p_long_s, ← P_take_e]; exact hD
      refine lv_iinc (v := p_sh (i + 1)) (lv' := [(3, .int (p_sh (i + 1))), (0, .ref (om 0)), (1, .long v)]) hx hb dX2_addLong_19 hl (k := 2) rfl (p_sh_next i (by omega)) (by decide) rfl (fun ls hl => ?_)
      refine lv_goto (tgt := 3) hx hb dX2_addLong_22 (by decide) ?_
      exact ih (i + 1) H locs ls (by omega) hP hD hS (lv_sub hl [1, 2, 0] rfl)
  refine lv_bipush (v := nI 56) hx hb dX2_addLong_0 (by decide) ?_
  refine lv_eqi (v := p_sh 0) (by decide) ?_
  refine lv_istore_n (lv' := [(3, .int (p_sh 0)), (0, .ref (om 0)), (1, .long v)]) hx hb dX2_addLong_2 rfl hl (by decide) rfl (fun ls hl => ?_)
  exact loop 8 0 s.heap [] ls (by omega) hP hD hS (lv_sub hl [1, 2, 0] rfl)
end
section
set_option maxHeartbeats 4000000 in
set_option maxRecDepth 100000 in
theorem n_block {l : Launch} {D : va_G} {om am : Nat → Nat} {cI cZ cG : ClassId} {th tp lv dy pv pm by_ pt wy : Int32} {gone oR : Nat → Int32} (f : Nat) (hf : f + 64 ≤ 256) (mem : xMem) (hkc : ∀ i, i < 64 → mem 13 i = kc i) : MV l nE yX2_block (.code yX2_block cX2_block 13 none :: tW) ({ frames := 1, cells := 0, slots := 0, locals := 24 }) D vwCl (tC cI cZ cG) [.ref (om 0), .int (nI f)] (wM om am cI cZ th tp lv dy pv pm by_ pt wy gone oR mem) (wM om am cI cZ th tp lv dy pv pm by_ pt wy gone oR (p_stir (p_spread f mem))) := by
  refine MV.ofW (by decide +kernel) rfl (Nat.le_of_ble_eq_true rfl) ?_
  intro p e s m below meth c A ls hx hb hr hts hown hlk hml hA hP hK hD hT hl
  have hS : va_S A s.heap s.heap [] := va_S.rf
  have hown : s.vm.findClass RX2 = some m.cls := hown
  have hW : ∀ w ∈ tW, w.before _ s = true := fun w h => hts w (List.mem_cons_of_mem _ h)
  have hl : lv_has ls 13 [(0, .ref (om 0)), (1, .int (nI f))] := hl
  have hk2 : ∀ i, i < 64 → p_spread f mem 13 i = kc i := fun i hi => by rw [p_spread_k (by decide)]; exact hkc i hi
  have hm2 : itr p_w2 48 (itr (p_w1 f) 16 mem) = p_spread f mem := rfl
  generalize p_spread f mem = m1 at hk2 hm2 ⊢
  have loop3 : ∀ (k i : Nat) (H : Heap) (locs : List Loc) (ls : Array Slot), i + k = 64 → va_P D vwCl (wM om am cI cZ th tp lv dy pv pm by_ pt wy gone oR m1) H → va_D A (wM om am cI cZ th tp lv dy pv pm by_ pt wy gone oR m1) → va_S A s.heap H locs → lv_has ls 13 [(0, .ref (om 0)), (2, .int (p_rnds (m1) i 0)), (3, .int (p_rnds (m1) i 1)), (4, .int (p_rnds (m1) i 2)), (5, .int (p_rnds (m1) i 3)), (6, .int (p_rnds (m1) i 4)), (7, .int (p_rnds (m1) i 5)), (8, .int (p_rnds (m1) i 6)), (9, .int (p_rnds (m1) i 7)), (10, .int (nI i))] → W p l e ({ frames := 1, cells := 0, slots := 0, locals := 24 }) s m ([.ref (om 0), .int (nI f)] : List Value).toArray below meth c H locs 0 0 (MQ below (xQv D vwCl (wM om am cI cZ th tp lv dy pv pm by_ pt wy gone oR (p_stir m1)) A) ([.ref (om 0), .int (nI f)] : List Value).toArray s 0 0 A) (F0 m 253 ls []) := by
    intro k
    induction k with
    | zero =>
      intro i H locs ls hk hP hD hS hl
      have hk9 : i = 64 := by omega
      rw [hk9] at hl
      refine lv_iload hx hb dX2_block_253 (lv_at hl 9 rfl) ?_
      refine lv_bipush (v := nI 64) hx hb dX2_block_255 (by decide) ?_
      refine lv_icmp_ge (tgt := 393) hx hb dX2_block_257 (by decide) (fun _ => ?_) (fun hq9 => absurd (by decide) hq9)
      refine lv_aload_n hx hb dX2_block_393 rfl (lv_at hl 0 rfl) ?_
      refine va_get (D := D) (ci := 2) (v := .ref (am 5)) (C := RX2) (T := TX2) (N := 25) hx hb hW iMD hown hK hP 0 rfl rfl 16 (by decide) (hW _ tw_530) (fun _ h9 => h9) rfl dX2_block_394 ?_
      refine lv_iconst (v := nI 0) hx hb dX2_block_397 (by decide) ?_
      refine lv_aload_n hx hb dX2_block_398 rfl (lv_at hl 0 rfl) ?_
      refine va_get (D := D) (ci := 2) (v := .ref (am 5)) (C := RX2) (T := TX2) (N := 25) hx hb hW iMD hown hK hP 0 rfl rfl 16 (by decide) (hW _ tw_530) (fun _ h9 => h9) rfl dX2_block_399 ?_
      refine lv_iconst (v := nI 0) hx hb dX2_block_402 (by decide) ?_
      refine m_ld (X := wMx om am cZ th tp lv dy pv pm by_ pt wy gone oR) hx hb hK hP 0 5 0 rfl (by decide) (show 0 < 8 by omega) (by decide) dX2_block_403 ?_
      refine lv_iload_n hx hb dX2_block_404 rfl (lv_at hl 1 rfl) ?_
      refine lv_iadd hx hb dX2_block_405 ?_
      refine m_st (X := wMx om am cZ th tp lv dy pv pm by_ pt wy gone oR) hx hb hK hP hD hS 0 5 0 rfl (by decide) (show 0 < 8 by omega) (by decide) dX2_block_406 (fun H locs hP hD hS => ?_)
      have hP : va_P D vwCl (wM om am cI cZ th tp lv dy pv pm by_ pt wy gone oR (p_add 0 (p_rnds (m1) 64 0) (m1))) H := hP
      have hD : va_D A (wM om am cI cZ th tp lv dy pv pm by_ pt wy gone oR (p_add 0 (p_rnds (m1) 64 0) (m1))) := hD
      refine lv_aload_n hx hb dX2_block_407 rfl (lv_at hl 0 rfl) ?_
      refine va_get (D := D) (ci := 2) (v := .ref (am 5)) (C := RX2) (T := TX2) (N := 25) hx hb hW iMD hown hK hP 0 rfl rfl 16 (by decide) (hW _ tw_530) (fun _ h9 => h9) rfl dX2_block_408 ?_
      refine lv_iconst (v := nI 1) hx hb dX2_block_411 (by decide) ?_
      refine lv_aload_n hx hb dX2_block_412 rfl (lv_at hl 0 rfl) ?_
      refine va_get (D := D) (ci := 2) (v := .ref (am 5)) (C := RX2) (T := TX2) (N := 25) hx hb hW iMD hown hK hP 0 rfl rfl 16 (by decide) (hW _ tw_530) (fun _ h9 => h9) rfl dX2_block_413 ?_
      refine lv_iconst (v := nI 1) hx hb dX2_block_416 (by decide) ?_
      refine m_ld (X := wMx om am cZ th tp lv dy pv pm by_ pt wy gone oR) hx hb hK hP 0 5 1 rfl (by decide) (show 1 < 8 by omega) (by decide) dX2_block_417 ?_
      refine lv_iload_n hx hb dX2_block_418 rfl (lv_at hl 2 rfl) ?_
      refine lv_iadd hx hb dX2_block_419 ?_
      refine m_st (X := wMx om am cZ th tp lv dy pv pm by_ pt wy gone oR) hx hb hK hP hD hS 0 5 1 rfl (by decide) (show 1 < 8 by omega) (by decide) dX2_block_420 (fun H locs hP hD hS => ?_)
      have hP : va_P D vwCl (wM om am cI cZ th tp lv dy pv pm by_ pt wy gone oR (p_add 1 (p_rnds (m1) 64 1) (p_add 0 (p_rnds (m1) 64 0) (m1)))) H := hP
      have hD : va_D A (wM om am cI cZ th tp lv dy pv pm by_ pt wy gone oR (p_add 1 (p_rnds (m1) 64 1) (p_add 0 (p_rnds (m1) 64 0) (m1)))) := hD
      refine lv_aload_n hx hb dX2_block_421 rfl (lv_at hl 0 rfl) ?_
      refine va_get (D := D) (ci := 2) (v := .ref (am 5)) (C := RX2) (T := TX2) (N := 25) hx hb hW iMD hown hK hP 0 rfl rfl 16 (by decide) (hW _ tw_530) (fun _ h9 => h9) rfl dX2_block_422 ?_
      refine lv_iconst (v := nI 2) hx hb dX2_block_425 (by decide) ?_
      refine lv_aload_n hx hb dX2_block_426 rfl (lv_at hl 0 rfl) ?_
      refine va_get (D := D) (ci := 2) (v := .ref (am 5)) (C := RX2) (T := TX2) (N := 25) hx hb hW iMD hown hK hP 0 rfl rfl 16 (by decide) (hW _ tw_530) (fun _ h9 => h9) rfl dX2_block_427 ?_
      refine lv_iconst (v := nI 2) hx hb dX2_block_430 (by decide) ?_
      refine m_ld (X := wMx om am cZ th tp lv dy pv pm by_ pt wy gone oR) hx hb hK hP 0 5 2 rfl (by decide) (show 2 < 8 by omega) (by decide) dX2_block_431 ?_
      refine lv_iload hx hb dX2_block_432 (lv_at hl 3 rfl) ?_
      refine lv_iadd hx hb dX2_block_434 ?_
      refine m_st (X := wMx om am cZ th tp lv dy pv pm by_ pt wy gone oR) hx hb hK hP hD hS 0 5 2 rfl (by decide) (show 2 < 8 by omega) (by decide) dX2_block_435 (fun H locs hP hD hS => ?_)
      have hP : va_P D vwCl (wM om am cI cZ th tp lv dy pv pm by_ pt wy gone oR (p_add 2 (p_rnds (m1) 64 2) (p_add 1 (p_rnds (m1) 64 1) (p_add 0 (p_rnds (m1) 64 0) (m1))))) H := hP
      have hD : va_D A (wM om am cI cZ th tp lv dy pv pm by_ pt wy gone oR (p_add 2 (p_rnds (m1) 64 2) (p_add 1 (p_rnds (m1) 64 1) (p_add 0 (p_rnds (m1) 64 0) (m1))))) := hD
      refine lv_aload_n hx hb dX2_block_436 rfl (lv_at hl 0 rfl) ?_
      refine va_get (D := D) (ci := 2) (v := .ref (am 5)) (C := RX2) (T := TX2) (N := 25) hx hb hW iMD hown hK hP 0 rfl rfl 16 (by decide) (hW _ tw_530) (fun _ h9 => h9) rfl dX2_block_437 ?_
      refine lv_iconst (v := nI 3) hx hb dX2_block_440 (by decide) ?_
      refine lv_aload_n hx hb dX2_block_441 rfl (lv_at hl 0 rfl) ?_
      refine va_get (D := D) (ci := 2) (v := .ref (am 5)) (C := RX2) (T := TX2) (N := 25) hx hb hW iMD hown hK hP 0 rfl rfl 16 (by decide) (hW _ tw_530) (fun _ h9 => h9) rfl dX2_block_442 ?_
      refine lv_iconst (v := nI 3) hx hb dX2_block_445 (by decide) ?_
      refine m_ld (X := wMx om am cZ th tp lv dy pv pm by_ pt wy gone oR) hx hb hK hP 0 5 3 rfl (by decide) (show 3 < 8 by omega) (by decide) dX2_block_446 ?_
      refine lv_iload hx hb dX2_block_447 (lv_at hl 4 rfl) ?_
      refine lv_iadd hx hb dX2_block_449 ?_
      refine m_st (X := wMx om am cZ th tp lv dy pv pm by_ pt wy gone oR) hx hb hK hP hD hS 0 5 3 rfl (by decide) (show 3 < 8 by omega) (by decide) dX2_block_450 (fun H locs hP hD hS => ?_)
      have hP : va_P D vwCl (wM om am cI cZ th tp lv dy pv pm by_ pt wy gone oR (p_add 3 (p_rnds (m1) 64 3) (p_add 2 (p_rnds (m1) 64 2) (p_add 1 (p_rnds (m1) 64 1) (p_add 0 (p_rnds (m1) 64 0) (m1)))))) H := hP
      have hD : va_D A (wM om am cI cZ th tp lv dy pv pm by_ pt wy gone oR (p_add 3 (p_rnds (m1) 64 3) (p_add 2 (p_rnds (m1) 64 2) (p_add 1 (p_rnds (m1) 64 1) (p_add 0 (p_rnds (m1) 64 0) (m1)))))) := hD
      refine lv_aload_n hx hb dX2_block_451 rfl (lv_at hl 0 rfl) ?_
      refine va_get (D := D) (ci := 2) (v := .ref (am 5)) (C := RX2) (T := TX2) (N := 25) hx hb hW iMD hown hK hP 0 rfl rfl 16 (by decide) (hW _ tw_530) (fun _ h9 => h9) rfl dX2_block_452 ?_
      refine lv_iconst (v := nI 4) hx hb dX2_block_455 (by decide) ?_
      refine lv_aload_n hx hb dX2_block_456 rfl (lv_at hl 0 rfl) ?_
      refine va_get (D := D) (ci := 2) (v := .ref (am 5)) (C := RX2) (T := TX2) (N := 25) hx hb hW iMD hown hK hP 0 rfl rfl 16 (by decide) (hW _ tw_530) (fun _ h9 => h9) rfl dX2_block_457 ?_
      refine lv_iconst (v := nI 4) hx hb dX2_block_460 (by decide) ?_
      refine m_ld (X := wMx om am cZ th tp lv dy pv pm by_ pt wy gone oR) hx hb hK hP 0 5 4 rfl (by decide) (show 4 < 8 by omega) (by decide) dX2_block_461 ?_
      refine lv_iload hx hb dX2_block_462 (lv_at hl 5 rfl) ?_
      refine lv_iadd hx hb dX2_block_464 ?_
      refine m_st (X := wMx om am cZ th tp lv dy pv pm by_ pt wy gone oR) hx hb hK hP hD hS 0 5 4 rfl (by decide) (show 4 < 8 by omega) (by decide) dX2_block_465 (fun H locs hP hD hS => ?_)
      have hP : va_P D vwCl (wM om am cI cZ th tp lv dy pv pm by_ pt wy gone oR (p_add 4 (p_rnds (m1) 64 4) (p_add 3 (p_rnds (m1) 64 3) (p_add 2 (p_rnds (m1) 64 2) (p_add 1 (p_rnds (m1) 64 1) (p_add 0 (p_rnds (m1) 64 0) (m1))))))) H := hP
      have hD : va_D A (wM om am cI cZ th tp lv dy pv pm by_ pt wy gone oR (p_add 4 (p_rnds (m1) 64 4) (p_add 3 (p_rnds (m1) 64 3) (p_add 2 (p_rnds (m1) 64 2) (p_add 1 (p_rnds (m1) 64 1) (p_add 0 (p_rnds (m1) 64 0) (m1))))))) := hD
      refine lv_aload_n hx hb dX2_block_466 rfl (lv_at hl 0 rfl) ?_
      refine va_get (D := D) (ci := 2) (v := .ref (am 5)) (C := RX2) (T := TX2) (N := 25) hx hb hW iMD hown hK hP 0 rfl rfl 16 (by decide) (hW _ tw_530) (fun _ h9 => h9) rfl dX2_block_467 ?_
      refine lv_iconst (v := nI 5) hx hb dX2_block_470 (by decide) ?_
      refine lv_aload_n hx hb dX2_block_471 rfl (lv_at hl 0 rfl) ?_
      refine va_get (D := D) (ci := 2) (v := .ref (am 5)) (C := RX2) (T := TX2) (N := 25) hx hb hW iMD hown hK hP 0 rfl rfl 16 (by decide) (hW _ tw_530) (fun _ h9 => h9) rfl dX2_block_472 ?_
      refine lv_iconst (v := nI 5) hx hb dX2_block_475 (by decide) ?_
      refine m_ld (X := wMx om am cZ th tp lv dy pv pm by_ pt wy gone oR) hx hb hK hP 0 5 5 rfl (by decide) (show 5 < 8 by omega) (by decide) dX2_block_476 ?_
      refine lv_iload hx hb dX2_block_477 (lv_at hl 6 rfl) ?_
      refine lv_iadd hx hb dX2_block_479 ?_
      refine m_st (X := wMx om am cZ th tp lv dy pv pm by_ pt wy gone oR) hx hb hK hP hD hS 0 5 5 rfl (by decide) (show 5 < 8 by omega) (by decide) dX2_block_480 (fun H locs hP hD hS => ?_)
      have hP : va_P D vwCl (wM om am cI cZ th tp lv dy pv pm by_ pt wy gone oR (p_add 5 (p_rnds (m1) 64 5) (p_add 4 (p_rnds (m1) 64 4) (p_add 3 (p_rnds (m1) 64 3) (p_add 2 (p_rnds (m1) 64 2) (p_add 1 (p_rnds (m1) 64 1) (p_add 0 (p_rnds (m1) 64 0) (m1)))))))) H := hP
      have hD : va_D A (wM om am cI cZ th tp lv dy pv pm by_ pt wy gone oR (p_add 5 (p_rnds (m1) 64 5) (p_add 4 (p_rnds (m1) 64 4) (p_add 3 (p_rnds (m1) 64 3) (p_add 2 (p_rnds (m1) 64 2) (p_add 1 (p_rnds (m1) 64 1) (p_add 0 (p_rnds (m1) 64 0) (m1)))))))) := hD
      refine lv_aload_n hx hb dX2_block_481 rfl (lv_at hl 0 rfl) ?_
      refine va_get (D := D) (ci := 2) (v := .ref (am 5)) (C := RX2) (T := TX2) (N := 25) hx hb hW iMD hown hK hP 0 rfl rfl 16 (by decide) (hW _ tw_530) (fun _ h9 => h9) rfl dX2_block_482 ?_
      refine lv_bipush (v := nI 6) hx hb dX2_block_485 (by decide) ?_
      refine lv_aload_n hx hb dX2_block_487 rfl (lv_at hl 0 rfl) ?_
      refine va_get (D := D) (ci := 2) (v := .ref (am 5)) (C := RX2) (T := TX2) (N := 25) hx hb hW iMD hown hK hP 0 rfl rfl 16 (by decide) (hW _ tw_530) (fun _ h9 => h9) rfl dX2_block_488 ?_
      refine lv_bipush (v := nI 6) hx hb dX2_block_491 (by decide) ?_
      refine m_ld (X := wMx om am cZ th tp lv dy pv pm by_ pt wy gone oR) hx hb hK hP 0 5 6 rfl (by decide) (show 6 < 8 by omega) (by decide) dX2_block_493 ?_
      refine lv_iload hx hb dX2_block_494 (lv_at hl 7 rfl) ?_
      refine lv_iadd hx hb dX2_block_496 ?_
      refine m_st (X := wMx om am cZ th tp lv dy pv pm by_ pt wy gone oR) hx hb hK hP hD hS 0 5 6 rfl (by decide) (show 6 < 8 by omega) (by decide) dX2_block_497 (fun H locs hP hD hS => ?_)
      have hP : va_P D vwCl (wM om am cI cZ th tp lv dy pv pm by_ pt wy gone oR (p_add 6 (p_rnds (m1) 64 6) (p_add 5 (p_rnds (m1) 64 5) (p_add 4 (p_rnds (m1) 64 4) (p_add 3 (p_rnds (m1) 64 3) (p_add 2 (p_rnds (m1) 64 2) (p_add 1 (p_rnds (m1) 64 1) (p_add 0 (p_rnds (m1) 64 0) (m1))))))))) H := hP
      have hD : va_D A (wM om am cI cZ th tp lv dy pv pm by_ pt wy gone oR (p_add 6 (p_rnds (m1) 64 6) (p_add 5 (p_rnds (m1) 64 5) (p_add 4 (p_rnds (m1) 64 4) (p_add 3 (p_rnds (m1) 64 3) (p_add 2 (p_rnds (m1) 64 2) (p_add 1 (p_rnds (m1) 64 1) (p_add 0 (p_rnds (m1) 64 0) (m1))))))))) := hD
      refine lv_aload_n hx hb dX2_block_498 rfl (lv_at hl 0 rfl) ?_
      refine va_get (D := D) (ci := 2) (v := .ref (am 5)) (C := RX2) (T := TX2) (N := 25) hx hb hW iMD hown hK hP 0 rfl rfl 16 (by decide) (hW _ tw_530) (fun _ h9 => h9) rfl dX2_block_499 ?_
      refine lv_bipush (v := nI 7) hx hb dX2_block_502 (by decide) ?_
      refine lv_aload_n hx hb dX2_block_504 rfl (lv_at hl 0 rfl) ?_
      refine va_get (D := D) (ci := 2) (v := .ref (am 5)) (C := RX2) (T := TX2) (N := 25) hx hb hW iMD hown hK hP 0 rfl rfl 16 (by decide) (hW _ tw_530) (fun _ h9 => h9) rfl dX2_block_505 ?_
      refine lv_bipush (v := nI 7) hx hb dX2_block_508 (by decide) ?_
      refine m_ld (X := wMx om am cZ th tp lv dy pv pm by_ pt wy gone oR) hx hb hK hP 0 5 7 rfl (by decide) (show 7 < 8 by omega) (by decide) dX2_block_510 ?_
      refine lv_iload hx hb dX2_block_511 (lv_at hl 8 rfl) ?_
      refine lv_iadd hx hb dX2_block_513 ?_
      refine m_st (X := wMx om am cZ th tp lv dy pv pm by_ pt wy gone oR) hx hb hK hP hD hS 0 5 7 rfl (by decide) (show 7 < 8 by omega) (by decide) dX2_block_514 (fun H locs hP hD hS => ?_)
      have hP : va_P D vwCl (wM om am cI cZ th tp lv dy pv pm by_ pt wy gone oR (p_add 7 (p_rnds (m1) 64 7) (p_add 6 (p_rnds (m1) 64 6) (p_add 5 (p_rnds (m1) 64 5) (p_add 4 (p_rnds (m1) 64 4) (p_add 3 (p_rnds (m1) 64 3) (p_add 2 (p_rnds (m1) 64 2) (p_add 1 (p_rnds (m1) 64 1) (p_add 0 (p_rnds (m1) 64 0) (m1)))))))))) H := hP
      have hD : va_D A (wM om am cI cZ th tp lv dy pv pm by_ pt wy gone oR (p_add 7 (p_rnds (m1) 64 7) (p_add 6 (p_rnds (m1) 64 6) (p_add 5 (p_rnds (m1) 64 5) (p_add 4 (p_rnds (m1) 64 4) (p_add 3 (p_rnds (m1) 64 3) (p_add 2 (p_rnds (m1) 64 2) (p_add 1 (p_rnds (m1) 64 1) (p_add 0 (p_rnds (m1) 64 0) (m1)))))))))) := hD
      have hP : va_P D vwCl (wM om am cI cZ th tp lv dy pv pm by_ pt wy gone oR (p_stir m1)) H := by exact hP
      have hD : va_D A (wM om am cI cZ th tp lv dy pv pm by_ pt wy gone oR (p_stir m1)) := by exact hD
      exact mv_ret hx hb hr hlk hS hP hD dX2_block_515
    | succ k ih =>
      intro i H locs ls hk hP hD hS hl
      refine lv_iload hx hb dX2_block_253 (lv_at hl 9 rfl) ?_
      refine lv_bipush (v := nI 64) hx hb dX2_block_255 (by decide) ?_
      refine lv_icmp_ge (tgt := 393) hx hb dX2_block_257 (by decide) (fun hq9 => absurd hq9 (nI_ge (by omega) (by decide))) (fun _ => ?_)
      refine lv_iload hx hb dX2_block_260 (lv_at hl 8 rfl) ?_
      refine lv_iload hx hb dX2_block_262 (lv_at hl 5 rfl) ?_
      refine lv_bipush (v := nI 6) hx hb dX2_block_264 (by decide) ?_
      refine mi_callS (As := [.int (p_rnds (m1) i 4), .int (nI 6)]) (rest := [.int (p_rnds (m1) i 7)]) ⟨hx, hb, hml, hown, hW⟩ (n_right _ (p_rnds (m1) i 4) (nI 6) (by decide)) nE_ok (va_cwS 2 hW (gS tw_638 tw_639 tw_3 tw_640) rfl rfl rfl (by decide +kernel) ⟨Nat.le_of_ble_eq_true rfl, Nat.le_of_ble_eq_true rfl⟩) hP hD hK hS hA hT rfl hl.1 rfl (Nat.le_of_ble_eq_true rfl) dX2_block_266 ⟨Nat.zero_le _, Nat.zero_le _⟩ (fun H locs hP hD hS => ?_)
      refine lv_iload hx hb dX2_block_269 (lv_at hl 5 rfl) ?_
      refine lv_bipush (v := nI 11) hx hb dX2_block_271 (by decide) ?_
      refine mi_callS (As := [.int (p_rnds (m1) i 4), .int (nI 11)]) (rest := [.int (rotr (p_rnds (m1) i 4) (nI 6)), .int (p_rnds (m1) i 7)]) ⟨hx, hb, hml, hown, hW⟩ (n_right _ (p_rnds (m1) i 4) (nI 11) (by decide)) nE_ok (va_cwS 2 hW (gS tw_638 tw_639 tw_3 tw_640) rfl rfl rfl (by decide +kernel) ⟨Nat.le_of_ble_eq_true rfl, Nat.le_of_ble_eq_true rfl⟩) hP hD hK hS hA hT rfl hl.1 rfl (Nat.le_of_ble_eq_true rfl) dX2_block_273 ⟨Nat.zero_le _, Nat.zero_le _⟩ (fun H locs hP hD hS => ?_)
      refine lv_ixor hx hb dX2_block_276 ?_
      refine lv_iload hx hb dX2_block_277 (lv_at hl 5 rfl) ?_
      refine lv_bipush (v := nI 25) hx hb dX2_block_279 (by decide) ?_
      refine mi_callS (As := [.int (p_rnds (m1) i 4), .int (nI 25)]) (rest := [.int ((rotr (p_rnds (m1) i 4) (nI 6)) ^^^ (rotr (p_rnds (m1) i 4) (nI 11))), .int (p_rnds (m1) i 7)]) ⟨hx, hb, hml, hown, hW⟩ (n_right _ (p_rnds (m1) i 4) (nI 25) (by decide)) nE_ok (va_cwS 2 hW (gS tw_638 tw_639 tw_3 tw_640) rfl rfl rfl (by decide +kernel) ⟨Nat.le_of_ble_eq_true rfl, Nat.le_of_ble_eq_true rfl⟩) hP hD hK hS hA hT rfl hl.1 rfl (Nat.le_of_ble_eq_true rfl) dX2_block_281 ⟨Nat.zero_le _, Nat.zero_le _⟩ (fun H locs hP hD hS => ?_)
      refine lv_ixor hx hb dX2_block_284 ?_
      refine lv_iadd hx hb dX2_block_285 ?_
      refine lv_iload hx hb dX2_block_286 (lv_at hl 5 rfl) ?_
      refine lv_iload hx hb dX2_block_288 (lv_at hl 6 rfl) ?_
      refine lv_iand hx hb dX2_block_290 ?_
      refine lv_iload hx hb dX2_block_291 (lv_at hl 5 rfl) ?_
      refine lv_iconst (v := (-1)) hx hb dX2_block_293 (by decide) ?_
      refine lv_ixor hx hb dX2_block_294 ?_
      refine lv_iload hx hb dX2_block_295 (lv_at hl 7 rfl) ?_
      refine lv_iand hx hb dX2_block_297 ?_
      refine lv_ixor hx hb dX2_block_298 ?_
      refine lv_iadd hx hb dX2_block_299 ?_
      refine lv_aload_n hx hb dX2_block_300 rfl (lv_at hl 0 rfl) ?_
      refine va_get (D := D) (ci := 2) (v := .ref (am 13)) (C := RX2) (T := TX2) (N := 25) hx hb hW iMD hown hK hP 0 rfl rfl 24 (by decide) (hW _ tw_538) (fun _ h9 => h9) rfl dX2_block_301 ?_
      refine lv_iload hx hb dX2_block_304 (lv_at hl 9 rfl) ?_
      refine m_ld (X := wMx om am cZ th tp lv dy pv pm by_ pt wy gone oR) hx hb hK hP 0 13 i rfl (by decide) (show i < 64 by omega) (by decide) dX2_block_306 ?_
      refine lv_eqi (v := kc i) (hk2 i (by omega)) ?_
      refine lv_iadd hx hb dX2_block_307 ?_
      refine lv_aload_n hx hb dX2_block_308 rfl (lv_at hl 0 rfl) ?_
      refine va_get (D := D) (ci := 2) (v := .ref (am 4)) (C := RX2) (T := TX2) (N := 25) hx hb hW iMD hown hK hP 0 rfl rfl 15 (by decide) (hW _ tw_529) (fun _ h9 => h9) rfl dX2_block_309 ?_
      refine lv_iload hx hb dX2_block_312 (lv_at hl 9 rfl) ?_
      refine m_ld (X := wMx om am cZ th tp lv dy pv pm by_ pt wy gone oR) hx hb hK hP 0 4 i rfl (by decide) (show i < 64 by omega) (by decide) dX2_block_314 ?_
      refine lv_iadd hx hb dX2_block_315 ?_
      refine lv_istore (lv' := [(11, .int (((((p_rnds (m1) i 7) + (((rotr (p_rnds (m1) i 4) (nI 6)) ^^^ (rotr (p_rnds (m1) i 4) (nI 11))) ^^^ (rotr (p_rnds (m1) i 4) (nI 25)))) + (((p_rnds (m1) i 4) &&& (p_rnds (m1) i 5)) ^^^ (((p_rnds (m1) i 4) ^^^ (-1)) &&& (p_rnds (m1) i 6)))) + (kc i)) + (m1 4 i))), (0, .ref (om 0)), (2, .int (p_rnds (m1) i 0)), (3, .int (p_rnds (m1) i 1)), (4, .int (p_rnds (m1) i 2)), (5, .int (p_rnds (m1) i 3)), (6, .int (p_rnds (m1) i 4)), (7, .int (p_rnds (m1) i 5)), (8, .int (p_rnds (m1) i 6)), (9, .int (p_rnds (m1) i 7)), (10, .int (nI i))]) hx hb dX2_block_316 hl (by decide) rfl (fun ls hl => ?_)
      refine lv_iload_n hx hb dX2_block_318 rfl (lv_at hl 2 rfl) ?_
      refine lv_iconst (v := nI 2) hx hb dX2_block_319 (by decide) ?_
      refine mi_callS (As := [.int (p_rnds (m1) i 0), .int (nI 2)]) (rest := []) ⟨hx, hb, hml, hown, hW⟩ (n_right _ (p_rnds (m1) i 0) (nI 2) (by decide)) nE_ok (va_cwS 2 hW (gS tw_638 tw_639 tw_3 tw_640) rfl rfl rfl (by decide +kernel) ⟨Nat.le_of_ble_eq_true rfl, Nat.le_of_ble_eq_true rfl⟩) hP hD hK hS hA hT rfl hl.1 rfl (Nat.le_of_ble_eq_true rfl) dX2_block_320 ⟨Nat.zero_le _, Nat.zero_le _⟩ (fun H locs hP hD hS => ?_)
      refine lv_iload_n hx hb dX2_block_323 rfl (lv_at hl 2 rfl) ?_
      refine lv_bipush (v := nI 13) hx hb dX2_block_324 (by decide) ?_
      refine mi_callS (As := [.int (p_rnds (m1) i 0), .int (nI 13)]) (rest := [.int (rotr (p_rnds (m1) i 0) (nI 2))]) ⟨hx, hb, hml, hown, hW⟩ (n_right _ (p_rnds (m1) i 0) (nI 13) (by decide)) nE_ok (va_cwS 2 hW (gS tw_638 tw_639 tw_3 tw_640) rfl rfl rfl (by decide +kernel) ⟨Nat.le_of_ble_eq_true rfl, Nat.le_of_ble_eq_true rfl⟩) hP hD hK hS hA hT rfl hl.1 rfl (Nat.le_of_ble_eq_true rfl) dX2_block_326 ⟨Nat.zero_le _, Nat.zero_le _⟩ (fun H locs hP hD hS => ?_)
      refine lv_ixor hx hb dX2_block_329 ?_
      refine lv_iload_n hx hb dX2_block_330 rfl (lv_at hl 2 rfl) ?_
      refine lv_bipush (v := nI 22) hx hb dX2_block_331 (by decide) ?_
      refine mi_callS (As := [.int (p_rnds (m1) i 0), .int (nI 22)]) (rest := [.int ((rotr (p_rnds (m1) i 0) (nI 2)) ^^^ (rotr (p_rnds (m1) i 0) (nI 13)))]) ⟨hx, hb, hml, hown, hW⟩ (n_right _ (p_rnds (m1) i 0) (nI 22) (by decide)) nE_ok (va_cwS 2 hW (gS tw_638 tw_639 tw_3 tw_640) rfl rfl rfl (by decide +kernel) ⟨Nat.le_of_ble_eq_true rfl, Nat.le_of_ble_eq_true rfl⟩) hP hD hK hS hA hT rfl hl.1 rfl (Nat.le_of_ble_eq_true rfl) dX2_block_333 ⟨Nat.zero_le _, Nat.zero_le _⟩ (fun H locs hP hD hS => ?_)
      refine lv_ixor hx hb dX2_block_336 ?_
      refine lv_iload_n hx hb dX2_block_337 rfl (lv_at hl 2 rfl) ?_
      refine lv_iload_n hx hb dX2_block_338 rfl (lv_at hl 3 rfl) ?_
      refine lv_iand hx hb dX2_block_339 ?_
      refine lv_iload_n hx hb dX2_block_340 rfl (lv_at hl 2 rfl) ?_
      refine lv_iload hx hb dX2_block_341 (lv_at hl 4 rfl) ?_
      refine lv_iand hx hb dX2_block_343 ?_
      refine lv_ixor hx hb dX2_block_344 ?_
      refine lv_iload_n hx hb dX2_block_345 rfl (lv_at hl 3 rfl) ?_
      refine lv_iload hx hb dX2_block_346 (lv_at hl 4 rfl) ?_
      refine lv_iand hx hb dX2_block_348 ?_
      refine lv_ixor hx hb dX2_block_349 ?_
      refine lv_iadd hx hb dX2_block_350 ?_
      refine lv_istore (lv' := [(12, .int ((((rotr (p_rnds (m1) i 0) (nI 2)) ^^^ (rotr (p_rnds (m1) i 0) (nI 13))) ^^^ (rotr (p_rnds (m1) i 0) (nI 22))) + ((((p_rnds (m1) i 0) &&& (p_rnds (m1) i 1)) ^^^ ((p_rnds (m1) i 0) &&& (p_rnds (m1) i 2))) ^^^ ((p_rnds (m1) i 1) &&& (p_rnds (m1) i 2))))), (11, .int (((((p_rnds (m1) i 7) + (((rotr (p_rnds (m1) i 4) (nI 6)) ^^^ (rotr (p_rnds (m1) i 4) (nI 11))) ^^^ (rotr (p_rnds (m1) i 4) (nI 25)))) + (((p_rnds (m1) i 4) &&& (p_rnds (m1) i 5)) ^^^ (((p_rnds (m1) i 4) ^^^ (-1)) &&& (p_rnds (m1) i 6)))) + (kc i)) + (m1 4 i))), (0, .ref (om 0)), (2, .int (p_rnds (m1) i 0)), (3, .int (p_rnds (m1) i 1)), (4, .int (p_rnds (m1) i 2)), (5, .int (p_rnds (m1) i 3)), (6, .int (p_rnds (m1) i 4)), (7, .int (p_rnds (m1) i 5)), (8, .int (p_rnds (m1) i 6)), (9, .int (p_rnds (m1) i 7)), (10, .int (nI i))]) hx hb dX2_block_351 hl (by decide) rfl (fun ls hl => ?_)
      refine lv_iload hx hb dX2_block_353 (lv_at hl 9 rfl) ?_
      refine lv_istore (lv' := [(9, .int (p_rnds (m1) i 6)), (12, .int ((((rotr (p_rnds (m1) i 0) (nI 2)) ^^^ (rotr (p_rnds (m1) i 0) (nI 13))) ^^^ (rotr (p_rnds (m1) i 0) (nI 22))) + ((((p_rnds (m1) i 0) &&& (p_rnds (m1) i 1)) ^^^ ((p_rnds (m1) i 0) &&& (p_rnds (m1) i 2))) ^^^ ((p_rnds (m1) i 1) &&& (p_rnds (m1) i 2))))), (11, .int (((((p_rnds (m1) i 7) + (((rotr (p_rnds (m1) i 4) (nI 6)) ^^^ (rotr (p_rnds (m1) i 4) (nI 11))) ^^^ (rotr (p_rnds (m1) i 4) (nI 25)))) + (((p_rnds (m1) i 4) &&& (p_rnds (m1) i 5)) ^^^ (((p_rnds (m1) i 4) ^^^ (-1)) &&& (p_rnds (m1) i 6)))) + (kc i)) + (m1 4 i))), (0, .ref (om 0)), (2, .int (p_rnds (m1) i 0)), (3, .int (p_rnds (m1) i 1)), (4, .int (p_rnds (m1) i 2)), (5, .int (p_rnds (m1) i 3)), (6, .int (p_rnds (m1) i 4)), (7, .int (p_rnds (m1) i 5)), (8, .int (p_rnds (m1) i 6)), (10, .int (nI i))]) hx hb dX2_block_355 hl (by decide) rfl (fun ls hl => ?_)
      refine lv_iload hx hb dX2_block_357 (lv_at hl 9 rfl) ?_
      refine lv_istore (lv' := [(8, .int (p_rnds (m1) i 5)), (9, .int (p_rnds (m1) i 6)), (12, .int ((((rotr (p_rnds (m1) i 0) (nI 2)) ^^^ (rotr (p_rnds (m1) i 0) (nI 13))) ^^^ (rotr (p_rnds (m1) i 0) (nI 22))) + ((((p_rnds (m1) i 0) &&& (p_rnds (m1) i 1)) ^^^ ((p_rnds (m1) i 0) &&& (p_rnds (m1) i 2))) ^^^ ((p_rnds (m1) i 1) &&& (p_rnds (m1) i 2))))), (11, .int (((((p_rnds (m1) i 7) + (((rotr (p_rnds (m1) i 4) (nI 6)) ^^^ (rotr (p_rnds (m1) i 4) (nI 11))) ^^^ (rotr (p_rnds (m1) i 4) (nI 25)))) + (((p_rnds (m1) i 4) &&& (p_rnds (m1) i 5)) ^^^ (((p_rnds (m1) i 4) ^^^ (-1)) &&& (p_rnds (m1) i 6)))) + (kc i)) + (m1 4 i))), (0, .ref (om 0)), (2, .int (p_rnds (m1) i 0)), (3, .int (p_rnds (m1) i 1)), (4, .int (p_rnds (m1) i 2)), (5, .int (p_rnds (m1) i 3)), (6, .int (p_rnds (m1) i 4)), (7, .int (p_rnds (m1) i 5)), (10, .int (nI i))]) hx hb dX2_block_359 hl (by decide) rfl (fun ls hl => ?_)
      refine lv_iload hx hb dX2_block_361 (lv_at hl 9 rfl) ?_
      refine lv_istore (lv' := [(7, .int (p_rnds (m1) i 4)), (8, .int (p_rnds (m1) i 5)), (9, .int (p_rnds (m1) i 6)), (12, .int ((((rotr (p_rnds (m1) i 0) (nI 2)) ^^^ (rotr (p_rnds (m1) i 0) (nI 13))) ^^^ (rotr (p_rnds (m1) i 0) (nI 22))) + ((((p_rnds (m1) i 0) &&& (p_rnds (m1) i 1)) ^^^ ((p_rnds (m1) i 0) &&& (p_rnds (m1) i 2))) ^^^ ((p_rnds (m1) i 1) &&& (p_rnds (m1) i 2))))), (11, .int (((((p_rnds (m1) i 7) + (((rotr (p_rnds (m1) i 4) (nI 6)) ^^^ (rotr (p_rnds (m1) i 4) (nI 11))) ^^^ (rotr (p_rnds (m1) i 4) (nI 25)))) + (((p_rnds (m1) i 4) &&& (p_rnds (m1) i 5)) ^^^ (((p_rnds (m1) i 4) ^^^ (-1)) &&& (p_rnds (m1) i 6)))) + (kc i)) + (m1 4 i))), (0, .ref (om 0)), (2, .int (p_rnds (m1) i 0)), (3, .int (p_rnds (m1) i 1)), (4, .int (p_rnds (m1) i 2)), (5, .int (p_rnds (m1) i 3)), (6, .int (p_rnds (m1) i 4)), (10, .int (nI i))]) hx hb dX2_block_363 hl (by decide) rfl (fun ls hl => ?_)
      refine lv_iload hx hb dX2_block_365 (lv_at hl 9 rfl) ?_
      refine lv_iload hx hb dX2_block_367 (lv_at hl 4 rfl) ?_
      refine lv_iadd hx hb dX2_block_369 ?_
      refine lv_istore (lv' := [(6, .int ((p_rnds (m1) i 3) + (((((p_rnds (m1) i 7) + (((rotr (p_rnds (m1) i 4) (nI 6)) ^^^ (rotr (p_rnds (m1) i 4) (nI 11))) ^^^ (rotr (p_rnds (m1) i 4) (nI 25)))) + (((p_rnds (m1) i 4) &&& (p_rnds (m1) i 5)) ^^^ (((p_rnds (m1) i 4) ^^^ (-1)) &&& (p_rnds (m1) i 6)))) + (kc i)) + (m1 4 i)))), (7, .int (p_rnds (m1) i 4)), (8, .int (p_rnds (m1) i 5)), (9, .int (p_rnds (m1) i 6)), (12, .int ((((rotr (p_rnds (m1) i 0) (nI 2)) ^^^ (rotr (p_rnds (m1) i 0) (nI 13))) ^^^ (rotr (p_rnds (m1) i 0) (nI 22))) + ((((p_rnds (m1) i 0) &&& (p_rnds (m1) i 1)) ^^^ ((p_rnds (m1) i 0) &&& (p_rnds (m1) i 2))) ^^^ ((p_rnds (m1) i 1) &&& (p_rnds (m1) i 2))))), (11, .int (((((p_rnds (m1) i 7) + (((rotr (p_rnds (m1) i 4) (nI 6)) ^^^ (rotr (p_rnds (m1) i 4) (nI 11))) ^^^ (rotr (p_rnds (m1) i 4) (nI 25)))) + (((p_rnds (m1) i 4) &&& (p_rnds (m1) i 5)) ^^^ (((p_rnds (m1) i 4) ^^^ (-1)) &&& (p_rnds (m1) i 6)))) + (kc i)) + (m1 4 i))), (0, .ref (om 0)), (2, .int (p_rnds (m1) i 0)), (3, .int (p_rnds (m1) i 1)), (4, .int (p_rnds (m1) i 2)), (5, .int (p_rnds (m1) i 3)), (10, .int (nI i))]) hx hb dX2_block_370 hl (by decide) rfl (fun ls hl => ?_)
      refine lv_iload hx hb dX2_block_372 (lv_at hl 9 rfl) ?_
      refine lv_istore (lv' := [(5, .int (p_rnds (m1) i 2)), (6, .int ((p_rnds (m1) i 3) + (((((p_rnds (m1) i 7) + (((rotr (p_rnds (m1) i 4) (nI 6)) ^^^ (rotr (p_rnds (m1) i 4) (nI 11))) ^^^ (rotr (p_rnds (m1) i 4) (nI 25)))) + (((p_rnds (m1) i 4) &&& (p_rnds (m1) i 5)) ^^^ (((p_rnds (m1) i 4) ^^^ (-1)) &&& (p_rnds (m1) i 6)))) + (kc i)) + (m1 4 i)))), (7, .int (p_rnds (m1) i 4)), (8, .int (p_rnds (m1) i 5)), (9, .int (p_rnds (m1) i 6)), (12, .int ((((rotr (p_rnds (m1) i 0) (nI 2)) ^^^ (rotr (p_rnds (m1) i 0) (nI 13))) ^^^ (rotr (p_rnds (m1) i 0) (nI 22))) + ((((p_rnds (m1) i 0) &&& (p_rnds (m1) i 1)) ^^^ ((p_rnds (m1) i 0) &&& (p_rnds (m1) i 2))) ^^^ ((p_rnds (m1) i 1) &&& (p_rnds (m1) i 2))))), (11, .int (((((p_rnds (m1) i 7) + (((rotr (p_rnds (m1) i 4) (nI 6)) ^^^ (rotr (p_rnds (m1) i 4) (nI 11))) ^^^ (rotr (p_rnds (m1) i 4) (nI 25)))) + (((p_rnds (m1) i 4) &&& (p_rnds (m1) i 5)) ^^^ (((p_rnds (m1) i 4) ^^^ (-1)) &&& (p_rnds (m1) i 6)))) + (kc i)) + (m1 4 i))), (0, .ref (om 0)), (2, .int (p_rnds (m1) i 0)), (3, .int (p_rnds (m1) i 1)), (4, .int (p_rnds (m1) i 2)), (10, .int (nI i))]) hx hb dX2_block_374 hl (by decide) rfl (fun ls hl => ?_)
      refine lv_iload_n hx hb dX2_block_376 rfl (lv_at hl 9 rfl) ?_
      refine lv_istore (lv' := [(4, .int (p_rnds (m1) i 1)), (5, .int (p_rnds (m1) i 2)), (6, .int ((p_rnds (m1) i 3) + (((((p_rnds (m1) i 7) + (((rotr (p_rnds (m1) i 4) (nI 6)) ^^^ (rotr (p_rnds (m1) i 4) (nI 11))) ^^^ (rotr (p_rnds (m1) i 4) (nI 25)))) + (((p_rnds (m1) i 4) &&& (p_rnds (m1) i 5)) ^^^ (((p_rnds (m1) i 4) ^^^ (-1)) &&& (p_rnds (m1) i 6)))) + (kc i)) + (m1 4 i)))), (7, .int (p_rnds (m1) i 4)), (8, .int (p_rnds (m1) i 5)), (9, .int (p_rnds (m1) i 6)), (12, .int ((((rotr (p_rnds (m1) i 0) (nI 2)) ^^^ (rotr (p_rnds (m1) i 0) (nI 13))) ^^^ (rotr (p_rnds (m1) i 0) (nI 22))) + ((((p_rnds (m1) i 0) &&& (p_rnds (m1) i 1)) ^^^ ((p_rnds (m1) i 0) &&& (p_rnds (m1) i 2))) ^^^ ((p_rnds (m1) i 1) &&& (p_rnds (m1) i 2))))), (11, .int (((((p_rnds (m1) i 7) + (((rotr (p_rnds (m1) i 4) (nI 6)) ^^^ (rotr (p_rnds (m1) i 4) (nI 11))) ^^^ (rotr (p_rnds (m1) i 4) (nI 25)))) + (((p_rnds (m1) i 4) &&& (p_rnds (m1) i 5)) ^^^ (((p_rnds (m1) i 4) ^^^ (-1)) &&& (p_rnds (m1) i 6)))) + (kc i)) + (m1 4 i))), (0, .ref (om 0)), (2, .int (p_rnds (m1) i 0)), (3, .int (p_rnds (m1) i 1)), (10, .int (nI i))]) hx hb dX2_block_377 hl (by decide) rfl (fun ls hl => ?_)
      refine lv_iload_n hx hb dX2_block_379 rfl (lv_at hl 9 rfl) ?_
      refine lv_istore_n (lv' := [(3, .int (p_rnds (m1) i 0)), (4, .int (p_rnds (m1) i 1)), (5, .int (p_rnds (m1) i 2)), (6, .int ((p_rnds (m1) i 3) + (((((p_rnds (m1) i 7) + (((rotr (p_rnds (m1) i 4) (nI 6)) ^^^ (rotr (p_rnds (m1) i 4) (nI 11))) ^^^ (rotr (p_rnds (m1) i 4) (nI 25)))) + (((p_rnds (m1) i 4) &&& (p_rnds (m1) i 5)) ^^^ (((p_rnds (m1) i 4) ^^^ (-1)) &&& (p_rnds (m1) i 6)))) + (kc i)) + (m1 4 i)))), (7, .int (p_rnds (m1) i 4)), (8, .int (p_rnds (m1) i 5)), (9, .int (p_rnds (m1) i 6)), (12, .int ((((rotr (p_rnds (m1) i 0) (nI 2)) ^^^ (rotr (p_rnds (m1) i 0) (nI 13))) ^^^ (rotr (p_rnds (m1) i 0) (nI 22))) + ((((p_rnds (m1) i 0) &&& (p_rnds (m1) i 1)) ^^^ ((p_rnds (m1) i 0) &&& (p_rnds (m1) i 2))) ^^^ ((p_rnds (m1) i 1) &&& (p_rnds (m1) i 2))))), (11, .int (((((p_rnds (m1) i 7) + (((rotr (p_rnds (m1) i 4) (nI 6)) ^^^ (rotr (p_rnds (m1) i 4) (nI 11))) ^^^ (rotr (p_rnds (m1) i 4) (nI 25)))) + (((p_rnds (m1) i 4) &&& (p_rnds (m1) i 5)) ^^^ (((p_rnds (m1) i 4) ^^^ (-1)) &&& (p_rnds (m1) i 6)))) + (kc i)) + (m1 4 i))), (0, .ref (om 0)), (2, .int (p_rnds (m1) i 0)), (10, .int (nI i))]) hx hb dX2_block_380 rfl hl (by decide) rfl (fun ls hl => ?_)
      refine lv_iload hx hb dX2_block_381 (lv_at hl 8 rfl) ?_
      refine lv_iload hx hb dX2_block_383 (lv_at hl 7 rfl) ?_
      refine lv_iadd hx hb dX2_block_385 ?_
      refine lv_eqi (v := p_rnds (m1) (i + 1) 0) ((Int32.add_assoc _ _ _).symm) ?_
      refine lv_istore_n (lv' := [(2, .int (p_rnds (m1) (i + 1) 0)), (3, .int (p_rnds (m1) i 0)), (4, .int (p_rnds (m1) i 1)), (5, .int (p_rnds (m1) i 2)), (6, .int ((p_rnds (m1) i 3) + (((((p_rnds (m1) i 7) + (((rotr (p_rnds (m1) i 4) (nI 6)) ^^^ (rotr (p_rnds (m1) i 4) (nI 11))) ^^^ (rotr (p_rnds (m1) i 4) (nI 25)))) + (((p_rnds (m1) i 4) &&& (p_rnds (m1) i 5)) ^^^ (((p_rnds (m1) i 4) ^^^ (-1)) &&& (p_rnds (m1) i 6)))) + (kc i)) + (m1 4 i)))), (7, .int (p_rnds (m1) i 4)), (8, .int (p_rnds (m1) i 5)), (9, .int (p_rnds (m1) i 6)), (12, .int ((((rotr (p_rnds (m1) i 0) (nI 2)) ^^^ (rotr (p_rnds (m1) i 0) (nI 13))) ^^^ (rotr (p_rnds (m1) i 0) (nI 22))) + ((((p_rnds (m1) i 0) &&& (p_rnds (m1) i 1)) ^^^ ((p_rnds (m1) i 0) &&& (p_rnds (m1) i 2))) ^^^ ((p_rnds (m1) i 1) &&& (p_rnds (m1) i 2))))), (11, .int (((((p_rnds (m1) i 7) + (((rotr (p_rnds (m1) i 4) (nI 6)) ^^^ (rotr (p_rnds (m1) i 4) (nI 11))) ^^^ (rotr (p_rnds (m1) i 4) (nI 25)))) + (((p_rnds (m1) i 4) &&& (p_rnds (m1) i 5)) ^^^ (((p_rnds (m1) i 4) ^^^ (-1)) &&& (p_rnds (m1) i 6)))) + (kc i)) + (m1 4 i))), (0, .ref (om 0)), (10, .int (nI i))]) hx hb dX2_block_386 rfl hl (by decide) rfl (fun ls hl => ?_)
      refine lv_iinc (v := nI (i + 1)) (lv' := [(10, .int (nI (i + 1))), (2, .int (p_rnds (m1) (i + 1) 0)), (3, .int (p_rnds (m1) i 0)), (4, .int (p_rnds (m1) i 1)), (5, .int (p_rnds (m1) i 2)), (6, .int ((p_rnds (m1) i 3) + (((((p_rnds (m1) i 7) + (((rotr (p_rnds (m1) i 4) (nI 6)) ^^^ (rotr (p_rnds (m1) i 4) (nI 11))) ^^^ (rotr (p_rnds (m1) i 4) (nI 25)))) + (((p_rnds (m1) i 4) &&& (p_rnds (m1) i 5)) ^^^ (((p_rnds (m1) i 4) ^^^ (-1)) &&& (p_rnds (m1) i 6)))) + (kc i)) + (m1 4 i)))), (7, .int (p_rnds (m1) i 4)), (8, .int (p_rnds (m1) i 5)), (9, .int (p_rnds (m1) i 6)), (12, .int ((((rotr (p_rnds (m1) i 0) (nI 2)) ^^^ (rotr (p_rnds (m1) i 0) (nI 13))) ^^^ (rotr (p_rnds (m1) i 0) (nI 22))) + ((((p_rnds (m1) i 0) &&& (p_rnds (m1) i 1)) ^^^ ((p_rnds (m1) i 0) &&& (p_rnds (m1) i 2))) ^^^ ((p_rnds (m1) i 1) &&& (p_rnds (m1) i 2))))), (11, .int (((((p_rnds (m1) i 7) + (((rotr (p_rnds (m1) i 4) (nI 6)) ^^^ (rotr (p_rnds (m1) i 4) (nI 11))) ^^^ (rotr (p_rnds (m1) i 4) (nI 25)))) + (((p_rnds (m1) i 4) &&& (p_rnds (m1) i 5)) ^^^ (((p_rnds (m1) i 4) ^^^ (-1)) &&& (p_rnds (m1) i 6)))) + (kc i)) + (m1 4 i))), (0, .ref (om 0))]) hx hb dX2_block_387 hl (k := 11) rfl (nI_1 _) (by decide) rfl (fun ls hl => ?_)
      refine lv_goto (tgt := 253) hx hb dX2_block_390 (by decide) ?_
      exact ih (i + 1) H locs ls (by omega) hP hD hS (lv_sub hl [11, 1, 2, 3, 4, 5, 6, 7, 8, 0] rfl)
  have loop2 : ∀ (k i : Nat) (H : Heap) (locs : List Loc) (ls : Array Slot), i + k = 48 → va_P D vwCl (wM om am cI cZ th tp lv dy pv pm by_ pt wy gone oR (itr p_w2 i (itr (p_w1 f) 16 mem))) H → va_D A (wM om am cI cZ th tp lv dy pv pm by_ pt wy gone oR (itr p_w2 i (itr (p_w1 f) 16 mem))) → va_S A s.heap H locs → lv_has ls 13 [(0, .ref (om 0)), (2, .int (nI (16 + i)))] → W p l e ({ frames := 1, cells := 0, slots := 0, locals := 24 }) s m ([.ref (om 0), .int (nI f)] : List Value).toArray below meth c H locs 0 0 (MQ below (xQv D vwCl (wM om am cI cZ th tp lv dy pv pm by_ pt wy gone oR (p_stir m1)) A) ([.ref (om 0), .int (nI f)] : List Value).toArray s 0 0 A) (F0 m 81 ls []) := by
    intro k
    induction k with
    | zero =>
      intro i H locs ls hk hP hD hS hl
      have hk9 : i = 48 := by omega
      rw [hk9, hm2] at hP hD
      refine lv_iload_n hx hb dX2_block_81 rfl (lv_at hl 1 rfl) ?_
      refine lv_bipush (v := nI 64) hx hb dX2_block_82 (by decide) ?_
      refine lv_icmp_ge (tgt := 186) hx hb dX2_block_84 (by decide) (fun _ => ?_) (fun hq9 => absurd (nI_le (by omega) (by omega)) hq9)
      refine lv_aload_n hx hb dX2_block_186 rfl (lv_at hl 0 rfl) ?_
      refine va_get (D := D) (ci := 2) (v := .ref (am 5)) (C := RX2) (T := TX2) (N := 25) hx hb hW iMD hown hK hP 0 rfl rfl 16 (by decide) (hW _ tw_530) (fun _ h9 => h9) rfl dX2_block_187 ?_
      refine lv_iconst (v := nI 0) hx hb dX2_block_190 (by decide) ?_
      refine m_ld (X := wMx om am cZ th tp lv dy pv pm by_ pt wy gone oR) hx hb hK hP 0 5 0 rfl (by decide) (show 0 < 8 by omega) (by decide) dX2_block_191 ?_
      refine lv_istore_n (lv' := [(2, .int (m1 5 0)), (0, .ref (om 0))]) hx hb dX2_block_192 rfl hl (by decide) rfl (fun ls hl => ?_)
      refine lv_aload_n hx hb dX2_block_193 rfl (lv_at hl 1 rfl) ?_
      refine va_get (D := D) (ci := 2) (v := .ref (am 5)) (C := RX2) (T := TX2) (N := 25) hx hb hW iMD hown hK hP 0 rfl rfl 16 (by decide) (hW _ tw_530) (fun _ h9 => h9) rfl dX2_block_194 ?_
      refine lv_iconst (v := nI 1) hx hb dX2_block_197 (by decide) ?_
      refine m_ld (X := wMx om am cZ th tp lv dy pv pm by_ pt wy gone oR) hx hb hK hP 0 5 1 rfl (by decide) (show 1 < 8 by omega) (by decide) dX2_block_198 ?_
      refine lv_istore_n (lv' := [(3, .int (m1 5 1)), (2, .int (m1 5 0)), (0, .ref (om 0))]) hx hb dX2_block_199 rfl hl (by decide) rfl (fun ls hl => ?_)
      refine lv_aload_n hx hb dX2_block_200 rfl (lv_at hl 2 rfl) ?_
      refine va_get (D := D) (ci := 2) (v := .ref (am 5)) (C := RX2) (T := TX2) (N := 25) hx hb hW iMD hown hK hP 0 rfl rfl 16 (by decide) (hW _ tw_530) (fun _ h9 => h9) rfl dX2_block_201 ?_
      refine lv_iconst (v := nI 2) hx hb dX2_block_204 (by decide) ?_
      refine m_ld (X := wMx om am cZ th tp lv dy pv pm by_ pt wy gone oR) hx hb hK hP 0 5 2 rfl (by decide) (show 2 < 8 by omega) (by decide) dX2_block_205 ?_
      refine lv_istore (lv' := [(4, .int (m1 5 2)), (3, .int (m1 5 1)), (2, .int (m1 5 0)), (0, .ref (om 0))]) hx hb dX2_block_206 hl (by decide) rfl (fun ls hl => ?_)
      refine lv_aload_n hx hb dX2_block_208 rfl (lv_at hl 3 rfl) ?_
      refine va_get (D := D) (ci := 2) (v := .ref (am 5)) (C := RX2) (T := TX2) (N := 25) hx hb hW iMD hown hK hP 0 rfl rfl 16 (by decide) (hW _ tw_530) (fun _ h9 => h9) rfl dX2_block_209 ?_
      refine lv_iconst (v := nI 3) hx hb dX2_block_212 (by decide) ?_
      refine m_ld (X := wMx om am cZ th tp lv dy pv pm by_ pt wy gone oR) hx hb hK hP 0 5 3 rfl (by decide) (show 3 < 8 by omega) (by decide) dX2_block_213 ?_
      refine lv_istore (lv' := [(5, .int (m1 5 3)), (4, .int (m1 5 2)), (3, .int (m1 5 1)), (2, .int (m1 5 0)), (0, .ref (om 0))]) hx hb dX2_block_214 hl (by decide) rfl (fun ls hl => ?_)
      refine lv_aload_n hx hb dX2_block_216 rfl (lv_at hl 4 rfl) ?_
      refine va_get (D := D) (ci := 2) (v := .ref (am 5)) (C := RX2) (T := TX2) (N := 25) hx hb hW iMD hown hK hP 0 rfl rfl 16 (by decide) (hW _ tw_530) (fun _ h9 => h9) rfl dX2_block_217 ?_
      refine lv_iconst (v := nI 4) hx hb dX2_block_220 (by decide) ?_
      refine m_ld (X := wMx om am cZ th tp lv dy pv pm by_ pt wy gone oR) hx hb hK hP 0 5 4 rfl (by decide) (show 4 < 8 by omega) (by decide) dX2_block_221 ?_
      refine lv_istore (lv' := [(6, .int (m1 5 4)), (5, .int (m1 5 3)), (4, .int (m1 5 2)), (3, .int (m1 5 1)), (2, .int (m1 5 0)), (0, .ref (om 0))]) hx hb dX2_block_222 hl (by decide) rfl (fun ls hl => ?_)
      refine lv_aload_n hx hb dX2_block_224 rfl (lv_at hl 5 rfl) ?_
      refine va_get (D := D) (ci := 2) (v := .ref (am 5)) (C := RX2) (T := TX2) (N := 25) hx hb hW iMD hown hK hP 0 rfl rfl 16 (by decide) (hW _ tw_530) (fun _ h9 => h9) rfl dX2_block_225 ?_
      refine lv_iconst (v := nI 5) hx hb dX2_block_228 (by decide) ?_
      refine m_ld (X := wMx om am cZ th tp lv dy pv pm by_ pt wy gone oR) hx hb hK hP 0 5 5 rfl (by decide) (show 5 < 8 by omega) (by decide) dX2_block_229 ?_
      refine lv_istore (lv' := [(7, .int (m1 5 5)), (6, .int (m1 5 4)), (5, .int (m1 5 3)), (4, .int (m1 5 2)), (3, .int (m1 5 1)), (2, .int (m1 5 0)), (0, .ref (om 0))]) hx hb dX2_block_230 hl (by decide) rfl (fun ls hl => ?_)
      refine lv_aload_n hx hb dX2_block_232 rfl (lv_at hl 6 rfl) ?_
      refine va_get (D := D) (ci := 2) (v := .ref (am 5)) (C := RX2) (T := TX2) (N := 25) hx hb hW iMD hown hK hP 0 rfl rfl 16 (by decide) (hW _ tw_530) (fun _ h9 => h9) rfl dX2_block_233 ?_
      refine lv_bipush (v := nI 6) hx hb dX2_block_236 (by decide) ?_
      refine m_ld (X := wMx om am cZ th tp lv dy pv pm by_ pt wy gone oR) hx hb hK hP 0 5 6 rfl (by decide) (show 6 < 8 by omega) (by decide) dX2_block_238 ?_
      refine lv_istore (lv' := [(8, .int (m1 5 6)), (7, .int (m1 5 5)), (6, .int (m1 5 4)), (5, .int (m1 5 3)), (4, .int (m1 5 2)), (3, .int (m1 5 1)), (2, .int (m1 5 0)), (0, .ref (om 0))]) hx hb dX2_block_239 hl (by decide) rfl (fun ls hl => ?_)
      refine lv_aload_n hx hb dX2_block_241 rfl (lv_at hl 7 rfl) ?_
      refine va_get (D := D) (ci := 2) (v := .ref (am 5)) (C := RX2) (T := TX2) (N := 25) hx hb hW iMD hown hK hP 0 rfl rfl 16 (by decide) (hW _ tw_530) (fun _ h9 => h9) rfl dX2_block_242 ?_
      refine lv_bipush (v := nI 7) hx hb dX2_block_245 (by decide) ?_
      refine m_ld (X := wMx om am cZ th tp lv dy pv pm by_ pt wy gone oR) hx hb hK hP 0 5 7 rfl (by decide) (show 7 < 8 by omega) (by decide) dX2_block_247 ?_
      refine lv_istore (lv' := [(9, .int (m1 5 7)), (8, .int (m1 5 6)), (7, .int (m1 5 5)), (6, .int (m1 5 4)), (5, .int (m1 5 3)), (4, .int (m1 5 2)), (3, .int (m1 5 1)), (2, .int (m1 5 0)), (0, .ref (om 0))]) hx hb dX2_block_248 hl (by decide) rfl (fun ls hl => ?_)
      refine lv_iconst (v := nI 0) hx hb dX2_block_250 (by decide) ?_
      refine lv_istore (lv' := [(10, .int (nI 0)), (9, .int (m1 5 7)), (8, .int (m1 5 6)), (7, .int (m1 5 5)), (6, .int (m1 5 4)), (5, .int (m1 5 3)), (4, .int (m1 5 2)), (3, .int (m1 5 1)), (2, .int (m1 5 0)), (0, .ref (om 0))]) hx hb dX2_block_251 hl (by decide) rfl (fun ls hl => ?_)
      have hl := lv_sub hl [9, 8, 7, 6, 5, 4, 3, 2, 1, 0] rfl
      rw [← p_rnds_0 m1] at hl
      exact loop3 64 0 H locs ls (by omega) hP hD hS hl
    | succ k ih =>
      intro i H locs ls hk hP hD hS hl
      refine lv_iload_n hx hb dX2_block_81 rfl (lv_at hl 1 rfl) ?_
      refine lv_bipush (v := nI 64) hx hb dX2_block_82 (by decide) ?_
      refine lv_icmp_ge (tgt := 186) hx hb dX2_block_84 (by decide) (fun hq9 => absurd hq9 (nI_ge (by omega) (by decide))) (fun _ => ?_)
      refine lv_aload_n hx hb dX2_block_87 rfl (lv_at hl 0 rfl) ?_
      refine va_get (D := D) (ci := 2) (v := .ref (am 4)) (C := RX2) (T := TX2) (N := 25) hx hb hW iMD hown hK hP 0 rfl rfl 15 (by decide) (hW _ tw_529) (fun _ h9 => h9) rfl dX2_block_88 ?_
      refine lv_iload_n hx hb dX2_block_91 rfl (lv_at hl 1 rfl) ?_
      refine lv_bipush (v := nI 15) hx hb dX2_block_92 (by decide) ?_
      refine lv_isub hx hb dX2_block_94 ?_
      refine lv_eqi (v := nI (1 + i)) ((pk_sub (by omega)).trans (congrArg nI (by omega))) ?_
      refine m_ld (X := wMx om am cZ th tp lv dy pv pm by_ pt wy gone oR) hx hb hK hP 0 4 (1 + i) rfl (by decide) (show 1 + i < 64 by omega) (by decide) dX2_block_95 ?_
      refine lv_istore_n (lv' := [(3, .int ((itr p_w2 i (itr (p_w1 f) 16 mem)) 4 (1 + i))), (0, .ref (om 0)), (2, .int (nI (16 + i)))]) hx hb dX2_block_96 rfl hl (by decide) rfl (fun ls hl => ?_)
      refine lv_aload_n hx hb dX2_block_97 rfl (lv_at hl 1 rfl) ?_
      refine va_get (D := D) (ci := 2) (v := .ref (am 4)) (C := RX2) (T := TX2) (N := 25) hx hb hW iMD hown hK hP 0 rfl rfl 15 (by decide) (hW _ tw_529) (fun _ h9 => h9) rfl dX2_block_98 ?_
      refine lv_iload_n hx hb dX2_block_101 rfl (lv_at hl 2 rfl) ?_
      refine lv_iconst (v := nI 2) hx hb dX2_block_102 (by decide) ?_
      refine lv_isub hx hb dX2_block_103 ?_
      refine lv_eqi (v := nI (14 + i)) ((pk_sub (by omega)).trans (congrArg nI (by omega))) ?_
      refine m_ld (X := wMx om am cZ th tp lv dy pv pm by_ pt wy gone oR) hx hb hK hP 0 4 (14 + i) rfl (by decide) (show 14 + i < 64 by omega) (by decide) dX2_block_104 ?_
      refine lv_istore (lv' := [(4, .int ((itr p_w2 i (itr (p_w1 f) 16 mem)) 4 (14 + i))), (3, .int ((itr p_w2 i (itr (p_w1 f) 16 mem)) 4 (1 + i))), (0, .ref (om 0)), (2, .int (nI (16 + i)))]) hx hb dX2_block_105 hl (by decide) rfl (fun ls hl => ?_)
      refine lv_iload_n hx hb dX2_block_107 rfl (lv_at hl 1 rfl) ?_
      refine lv_bipush (v := nI 7) hx hb dX2_block_108 (by decide) ?_
      refine mi_callS (As := [.int ((itr p_w2 i (itr (p_w1 f) 16 mem)) 4 (1 + i)), .int (nI 7)]) (rest := []) ⟨hx, hb, hml, hown, hW⟩ (n_right _ ((itr p_w2 i (itr (p_w1 f) 16 mem)) 4 (1 + i)) (nI 7) (by decide)) nE_ok (va_cwS 2 hW (gS tw_638 tw_639 tw_3 tw_640) rfl rfl rfl (by decide +kernel) ⟨Nat.le_of_ble_eq_true rfl, Nat.le_of_ble_eq_true rfl⟩) hP hD hK hS hA hT rfl hl.1 rfl (Nat.le_of_ble_eq_true rfl) dX2_block_110 ⟨Nat.zero_le _, Nat.zero_le _⟩ (fun H locs hP hD hS => ?_)
      refine lv_iload_n hx hb dX2_block_113 rfl (lv_at hl 1 rfl) ?_
      refine lv_bipush (v := nI 18) hx hb dX2_block_114 (by decide) ?_
      refine mi_callS (As := [.int ((itr p_w2 i (itr (p_w1 f) 16 mem)) 4 (1 + i)), .int (nI 18)]) (rest := [.int (rotr ((itr p_w2 i (itr (p_w1 f) 16 mem)) 4 (1 + i)) (nI 7))]) ⟨hx, hb, hml, hown, hW⟩ (n_right _ ((itr p_w2 i (itr (p_w1 f) 16 mem)) 4 (1 + i)) (nI 18) (by decide)) nE_ok (va_cwS 2 hW (gS tw_638 tw_639 tw_3 tw_640) rfl rfl rfl (by decide +kernel) ⟨Nat.le_of_ble_eq_true rfl, Nat.le_of_ble_eq_true rfl⟩) hP hD hK hS hA hT rfl hl.1 rfl (Nat.le_of_ble_eq_true rfl) dX2_block_116 ⟨Nat.zero_le _, Nat.zero_le _⟩ (fun H locs hP hD hS => ?_)
      refine lv_ixor hx hb dX2_block_119 ?_
      refine lv_iload_n hx hb dX2_block_120 rfl (lv_at hl 1 rfl) ?_
      refine lv_iconst (v := nI 3) hx hb dX2_block_121 (by decide) ?_
      refine lv_iushr (v := ush ((itr p_w2 i (itr (p_w1 f) 16 mem)) 4 (1 + i)) (nI 3)) hx hb dX2_block_122 rfl ?_
      refine lv_ixor hx hb dX2_block_123 ?_
      refine lv_istore (lv' := [(5, .int (((rotr ((itr p_w2 i (itr (p_w1 f) 16 mem)) 4 (1 + i)) (nI 7)) ^^^ (rotr ((itr p_w2 i (itr (p_w1 f) 16 mem)) 4 (1 + i)) (nI 18))) ^^^ (ush ((itr p_w2 i (itr (p_w1 f) 16 mem)) 4 (1 + i)) (nI 3)))), (4, .int ((itr p_w2 i (itr (p_w1 f) 16 mem)) 4 (14 + i))), (3, .int ((itr p_w2 i (itr (p_w1 f) 16 mem)) 4 (1 + i))), (0, .ref (om 0)), (2, .int (nI (16 + i)))]) hx hb dX2_block_124 hl (by decide) rfl (fun ls hl => ?_)
      refine lv_iload hx hb dX2_block_126 (lv_at hl 1 rfl) ?_
      refine lv_bipush (v := nI 17) hx hb dX2_block_128 (by decide) ?_
      refine mi_callS (As := [.int ((itr p_w2 i (itr (p_w1 f) 16 mem)) 4 (14 + i)), .int (nI 17)]) (rest := []) ⟨hx, hb, hml, hown, hW⟩ (n_right _ ((itr p_w2 i (itr (p_w1 f) 16 mem)) 4 (14 + i)) (nI 17) (by decide)) nE_ok (va_cwS 2 hW (gS tw_638 tw_639 tw_3 tw_640) rfl rfl rfl (by decide +kernel) ⟨Nat.le_of_ble_eq_true rfl, Nat.le_of_ble_eq_true rfl⟩) hP hD hK hS hA hT rfl hl.1 rfl (Nat.le_of_ble_eq_true rfl) dX2_block_130 ⟨Nat.zero_le _, Nat.zero_le _⟩ (fun H locs hP hD hS => ?_)
      refine lv_iload hx hb dX2_block_133 (lv_at hl 1 rfl) ?_
      refine lv_bipush (v := nI 19) hx hb dX2_block_135 (by decide) ?_
      refine mi_callS (As := [.int ((itr p_w2 i (itr (p_w1 f) 16 mem)) 4 (14 + i)), .int (nI 19)]) (rest := [.int (rotr ((itr p_w2 i (itr (p_w1 f) 16 mem)) 4 (14 + i)) (nI 17))]) ⟨hx, hb, hml, hown, hW⟩ (n_right _ ((itr p_w2 i (itr (p_w1 f) 16 mem)) 4 (14 + i)) (nI 19) (by decide)) nE_ok (va_cwS 2 hW (gS tw_638 tw_639 tw_3 tw_640) rfl rfl rfl (by decide +kernel) ⟨Nat.le_of_ble_eq_true rfl, Nat.le_of_ble_eq_true rfl⟩) hP hD hK hS hA hT rfl hl.1 rfl (Nat.le_of_ble_eq_true rfl) dX2_block_137 ⟨Nat.zero_le _, Nat.zero_le _⟩ (fun H locs hP hD hS => ?_)
      refine lv_ixor hx hb dX2_block_140 ?_
      refine lv_iload hx hb dX2_block_141 (lv_at hl 1 rfl) ?_
      refine lv_bipush (v := nI 10) hx hb dX2_block_143 (by decide) ?_
      refine lv_iushr (v := ush ((itr p_w2 i (itr (p_w1 f) 16 mem)) 4 (14 + i)) (nI 10)) hx hb dX2_block_145 rfl ?_
      refine lv_ixor hx hb dX2_block_146 ?_
      refine lv_istore (lv' := [(6, .int (((rotr ((itr p_w2 i (itr (p_w1 f) 16 mem)) 4 (14 + i)) (nI 17)) ^^^ (rotr ((itr p_w2 i (itr (p_w1 f) 16 mem)) 4 (14 + i)) (nI 19))) ^^^ (ush ((itr p_w2 i (itr (p_w1 f) 16 mem)) 4 (14 + i)) (nI 10)))), (5, .int (((rotr ((itr p_w2 i (itr (p_w1 f) 16 mem)) 4 (1 + i)) (nI 7)) ^^^ (rotr ((itr p_w2 i (itr (p_w1 f) 16 mem)) 4 (1 + i)) (nI 18))) ^^^ (ush ((itr p_w2 i (itr (p_w1 f) 16 mem)) 4 (1 + i)) (nI 3)))), (4, .int ((itr p_w2 i (itr (p_w1 f) 16 mem)) 4 (14 + i))), (3, .int ((itr p_w2 i (itr (p_w1 f) 16 mem)) 4 (1 + i))), (0, .ref (om 0)), (2, .int (nI (16 + i)))]) hx hb dX2_block_147 hl (by decide) rfl (fun ls hl => ?_)
      refine lv_aload_n hx hb dX2_block_149 rfl (lv_at hl 4 rfl) ?_
      refine va_get (D := D) (ci := 2) (v := .ref (am 4)) (C := RX2) (T := TX2) (N := 25) hx hb hW iMD hown hK hP 0 rfl rfl 15 (by decide) (hW _ tw_529) (fun _ h9 => h9) rfl dX2_block_150 ?_
      refine lv_iload_n hx hb dX2_block_153 rfl (lv_at hl 5 rfl) ?_
      refine lv_aload_n hx hb dX2_block_154 rfl (lv_at hl 4 rfl) ?_
      refine va_get (D := D) (ci := 2) (v := .ref (am 4)) (C := RX2) (T := TX2) (N := 25) hx hb hW iMD hown hK hP 0 rfl rfl 15 (by decide) (hW _ tw_529) (fun _ h9 => h9) rfl dX2_block_155 ?_
      refine lv_iload_n hx hb dX2_block_158 rfl (lv_at hl 5 rfl) ?_
      refine lv_bipush (v := nI 16) hx hb dX2_block_159 (by decide) ?_
      refine lv_isub hx hb dX2_block_161 ?_
      refine lv_eqi (v := nI i) ((pk_sub (by omega)).trans (congrArg nI (by omega))) ?_
      refine m_ld (X := wMx om am cZ th tp lv dy pv pm by_ pt wy gone oR) hx hb hK hP 0 4 i rfl (by decide) (show i < 64 by omega) (by decide) dX2_block_162 ?_
      refine lv_iload hx hb dX2_block_163 (lv_at hl 1 rfl) ?_
      refine lv_iadd hx hb dX2_block_165 ?_
      refine lv_aload_n hx hb dX2_block_166 rfl (lv_at hl 4 rfl) ?_
      refine va_get (D := D) (ci := 2) (v := .ref (am 4)) (C := RX2) (T := TX2) (N := 25) hx hb hW iMD hown hK hP 0 rfl rfl 15 (by decide) (hW _ tw_529) (fun _ h9 => h9) rfl dX2_block_167 ?_
      refine lv_iload_n hx hb dX2_block_170 rfl (lv_at hl 5 rfl) ?_
      refine lv_bipush (v := nI 7) hx hb dX2_block_171 (by decide) ?_
      refine lv_isub hx hb dX2_block_173 ?_
      refine lv_eqi (v := nI (9 + i)) ((pk_sub (by omega)).trans (congrArg nI (by omega))) ?_
      refine m_ld (X := wMx om am cZ th tp lv dy pv pm by_ pt wy gone oR) hx hb hK hP 0 4 (9 + i) rfl (by decide) (show 9 + i < 64 by omega) (by decide) dX2_block_174 ?_
      refine lv_iadd hx hb dX2_block_175 ?_
      refine lv_iload hx hb dX2_block_176 (lv_at hl 0 rfl) ?_
      refine lv_iadd hx hb dX2_block_178 ?_
      refine lv_eqi (v := (((rotr ((itr p_w2 i (itr (p_w1 f) 16 mem)) 4 (14 + i)) (nI 17) ^^^ rotr ((itr p_w2 i (itr (p_w1 f) 16 mem)) 4 (14 + i)) (nI 19)) ^^^ ush ((itr p_w2 i (itr (p_w1 f) 16 mem)) 4 (14 + i)) (nI 10)) + (itr p_w2 i (itr (p_w1 f) 16 mem)) 4 (9 + i) + ((rotr ((itr p_w2 i (itr (p_w1 f) 16 mem)) 4 (1 + i)) (nI 7) ^^^ rotr ((itr p_w2 i (itr (p_w1 f) 16 mem)) 4 (1 + i)) (nI 18)) ^^^ ush ((itr p_w2 i (itr (p_w1 f) 16 mem)) 4 (1 + i)) (nI 3))) + (itr p_w2 i (itr (p_w1 f) 16 mem)) 4 i) (w2c _ _ _ _) ?_
      refine m_st (X := wMx om am cZ th tp lv dy pv pm by_ pt wy gone oR) hx hb hK hP hD hS 0 4 (16 + i) rfl (by decide) (show 16 + i < 64 by omega) (by decide) dX2_block_179 (fun H locs hP hD hS => ?_)
      have hP : va_P D vwCl (wM om am cI cZ th tp lv dy pv pm by_ pt wy gone oR (va_up (itr p_w2 i (itr (p_w1 f) 16 mem)) 4 (upd ((itr p_w2 i (itr (p_w1 f) 16 mem)) 4) (16 + i) ((((rotr ((itr p_w2 i (itr (p_w1 f) 16 mem)) 4 (14 + i)) (nI 17) ^^^ rotr ((itr p_w2 i (itr (p_w1 f) 16 mem)) 4 (14 + i)) (nI 19)) ^^^ ush ((itr p_w2 i (itr (p_w1 f) 16 mem)) 4 (14 + i)) (nI 10)) + (itr p_w2 i (itr (p_w1 f) 16 mem)) 4 (9 + i) + ((rotr ((itr p_w2 i (itr (p_w1 f) 16 mem)) 4 (1 + i)) (nI 7) ^^^ rotr ((itr p_w2 i (itr (p_w1 f) 16 mem)) 4 (1 + i)) (nI 18)) ^^^ ush ((itr p_w2 i (itr (p_w1 f) 16 mem)) 4 (1 + i)) (nI 3))) + (itr p_w2 i (itr (p_w1 f) 16 mem)) 4 i)))) H := hP
      have hD : va_D A (wM om am cI cZ th tp lv dy pv pm by_ pt wy gone oR (va_up (itr p_w2 i (itr (p_w1 f) 16 mem)) 4 (upd ((itr p_w2 i (itr (p_w1 f) 16 mem)) 4) (16 + i) ((((rotr ((itr p_w2 i (itr (p_w1 f) 16 mem)) 4 (14 + i)) (nI 17) ^^^ rotr ((itr p_w2 i (itr (p_w1 f) 16 mem)) 4 (14 + i)) (nI 19)) ^^^ ush ((itr p_w2 i (itr (p_w1 f) 16 mem)) 4 (14 + i)) (nI 10)) + (itr p_w2 i (itr (p_w1 f) 16 mem)) 4 (9 + i) + ((rotr ((itr p_w2 i (itr (p_w1 f) 16 mem)) 4 (1 + i)) (nI 7) ^^^ rotr ((itr p_w2 i (itr (p_w1 f) 16 mem)) 4 (1 + i)) (nI 18)) ^^^ ush ((itr p_w2 i (itr (p_w1 f) 16 mem)) 4 (1 + i)) (nI 3))) + (itr p_w2 i (itr (p_w1 f) 16 mem)) 4 i)))) := hD
      have hP : va_P D vwCl (wM om am cI cZ th tp lv dy pv pm by_ pt wy gone oR (itr p_w2 (i + 1) (itr (p_w1 f) 16 mem))) H := hP
      have hD : va_D A (wM om am cI cZ th tp lv dy pv pm by_ pt wy gone oR (itr p_w2 (i + 1) (itr (p_w1 f) 16 mem))) := hD
      refine lv_iinc (v := nI (16 + (i + 1))) (lv' := [(2, .int (nI (16 + (i + 1)))), (6, .int (((rotr ((itr p_w2 i (itr (p_w1 f) 16 mem)) 4 (14 + i)) (nI 17)) ^^^ (rotr ((itr p_w2 i (itr (p_w1 f) 16 mem)) 4 (14 + i)) (nI 19))) ^^^ (ush ((itr p_w2 i (itr (p_w1 f) 16 mem)) 4 (14 + i)) (nI 10)))), (5, .int (((rotr ((itr p_w2 i (itr (p_w1 f) 16 mem)) 4 (1 + i)) (nI 7)) ^^^ (rotr ((itr p_w2 i (itr (p_w1 f) 16 mem)) 4 (1 + i)) (nI 18))) ^^^ (ush ((itr p_w2 i (itr (p_w1 f) 16 mem)) 4 (1 + i)) (nI 3)))), (4, .int ((itr p_w2 i (itr (p_w1 f) 16 mem)) 4 (14 + i))), (3, .int ((itr p_w2 i (itr (p_w1 f) 16 mem)) 4 (1 + i))), (0, .ref (om 0))]) hx hb dX2_block_180 hl (k := 5) rfl (nI_1 (16 + i)) (by decide) rfl (fun ls hl => ?_)
      refine lv_goto (tgt := 81) hx hb dX2_block_183 (by decide) ?_
      exact ih (i + 1) H locs ls (by omega) hP hD hS (lv_sub hl [5, 0] rfl)
  have loop1 : ∀ (k i : Nat) (H : Heap) (locs : List Loc) (ls : Array Slot), i + k = 16 → va_P D vwCl (wM om am cI cZ th tp lv dy pv pm by_ pt wy gone oR (itr (p_w1 f) i mem)) H → va_D A (wM om am cI cZ th tp lv dy pv pm by_ pt wy gone oR (itr (p_w1 f) i mem)) → va_S A s.heap H locs → lv_has ls 13 [(0, .ref (om 0)), (1, .int (nI f)), (2, .int (nI i))] → W p l e ({ frames := 1, cells := 0, slots := 0, locals := 24 }) s m ([.ref (om 0), .int (nI f)] : List Value).toArray below meth c H locs 0 0 (MQ below (xQv D vwCl (wM om am cI cZ th tp lv dy pv pm by_ pt wy gone oR (p_stir m1)) A) ([.ref (om 0), .int (nI f)] : List Value).toArray s 0 0 A) (F0 m 2 ls []) := by
    intro k
    induction k with
    | zero =>
      intro i H locs ls hk hP hD hS hl
      have hk9 : i = 16 := by omega
      rw [hk9] at hP hD
      refine lv_iload_n hx hb dX2_block_2 rfl (lv_at hl 2 rfl) ?_
      refine lv_bipush (v := nI 16) hx hb dX2_block_3 (by decide) ?_
      refine lv_icmp_ge (tgt := 78) hx hb dX2_block_5 (by decide) (fun _ => ?_) (fun hq9 => absurd (nI_le (by omega) (by omega)) hq9)
      refine lv_bipush (v := nI 16) hx hb dX2_block_78 (by decide) ?_
      refine lv_istore_n (lv' := [(2, .int (nI 16)), (0, .ref (om 0)), (1, .int (nI f))]) hx hb dX2_block_80 rfl hl (by decide) rfl (fun ls hl => ?_)
      have hP : va_P D vwCl (wM om am cI cZ th tp lv dy pv pm by_ pt wy gone oR (itr p_w2 0 (itr (p_w1 f) 16 mem))) H := by rw [itr_0]; exact hP
      have hD : va_D A (wM om am cI cZ th tp lv dy pv pm by_ pt wy gone oR (itr p_w2 0 (itr (p_w1 f) 16 mem))) := by rw [itr_0]; exact hD
      exact loop2 48 0 H locs ls (by omega) hP hD hS (lv_sub hl [1, 0] rfl)
    | succ k ih =>
      intro i H locs ls hk hP hD hS hl
      refine lv_iload_n hx hb dX2_block_2 rfl (lv_at hl 2 rfl) ?_
      refine lv_bipush (v := nI 16) hx hb dX2_block_3 (by decide) ?_
      refine lv_icmp_ge (tgt := 78) hx hb dX2_block_5 (by decide) (fun hq9 => absurd hq9 (nI_ge (by omega) (by decide))) (fun _ => ?_)
      refine lv_aload_n hx hb dX2_block_8 rfl (lv_at hl 0 rfl) ?_
      refine va_get (D := D) (ci := 2) (v := .ref (am 4)) (C := RX2) (T := TX2) (N := 25) hx hb hW iMD hown hK hP 0 rfl rfl 15 (by decide) (hW _ tw_529) (fun _ h9 => h9) rfl dX2_block_9 ?_
      refine lv_iload_n hx hb dX2_block_12 rfl (lv_at hl 2 rfl) ?_
      refine lv_aload_n hx hb dX2_block_13 rfl (lv_at hl 0 rfl) ?_
      refine va_get (D := D) (ci := 2) (v := .ref (am 3)) (C := RX2) (T := TX2) (N := 25) hx hb hW iMD hown hK hP 0 rfl rfl 13 (by decide) (hW _ tw_527) (fun _ h9 => h9) rfl dX2_block_14 ?_
      refine lv_iload_n hx hb dX2_block_17 rfl (lv_at hl 1 rfl) ?_
      refine lv_iconst (v := nI 4) hx hb dX2_block_18 (by decide) ?_
      refine lv_iload_n hx hb dX2_block_19 rfl (lv_at hl 2 rfl) ?_
      refine lv_imul hx hb dX2_block_20 ?_
      refine lv_eqi (v := nI (4 * i)) (pk_mul _ _) ?_
      refine lv_iadd hx hb dX2_block_21 ?_
      refine lv_eqi (v := nI (f + 4 * i)) (nI_add _ _) ?_
      refine m_ld (X := wMx om am cZ th tp lv dy pv pm by_ pt wy gone oR) hx hb hK hP 0 3 (f + 4 * i) rfl (by decide) (show f + 4 * i < 256 by omega) (by decide) dX2_block_22 ?_
      refine lv_bipush (v := nI 24) hx hb dX2_block_23 (by decide) ?_
      refine lv_ishl hx hb dX2_block_25 ?_
      refine lv_aload_n hx hb dX2_block_26 rfl (lv_at hl 0 rfl) ?_
      refine va_get (D := D) (ci := 2) (v := .ref (am 3)) (C := RX2) (T := TX2) (N := 25) hx hb hW iMD hown hK hP 0 rfl rfl 13 (by decide) (hW _ tw_527) (fun _ h9 => h9) rfl dX2_block_27 ?_
      refine lv_iload_n hx hb dX2_block_30 rfl (lv_at hl 1 rfl) ?_
      refine lv_iconst (v := nI 4) hx hb dX2_block_31 (by decide) ?_
      refine lv_iload_n hx hb dX2_block_32 rfl (lv_at hl 2 rfl) ?_
      refine lv_imul hx hb dX2_block_33 ?_
      refine lv_eqi (v := nI (4 * i)) (pk_mul _ _) ?_
      refine lv_iadd hx hb dX2_block_34 ?_
      refine lv_eqi (v := nI (f + 4 * i)) (nI_add _ _) ?_
      refine lv_iconst (v := nI 1) hx hb dX2_block_35 (by decide) ?_
      refine lv_iadd hx hb dX2_block_36 ?_
      refine lv_eqi (v := nI (f + 4 * i + 1)) (nI_add _ _) ?_
      refine m_ld (X := wMx om am cZ th tp lv dy pv pm by_ pt wy gone oR) hx hb hK hP 0 3 (f + 4 * i + 1) rfl (by decide) (show f + 4 * i + 1 < 256 by omega) (by decide) dX2_block_37 ?_
      refine lv_bipush (v := nI 16) hx hb dX2_block_38 (by decide) ?_
      refine lv_ishl hx hb dX2_block_40 ?_
      refine lv_ior hx hb dX2_block_41 ?_
      refine lv_aload_n hx hb dX2_block_42 rfl (lv_at hl 0 rfl) ?_
      refine va_get (D := D) (ci := 2) (v := .ref (am 3)) (C := RX2) (T := TX2) (N := 25) hx hb hW iMD hown hK hP 0 rfl rfl 13 (by decide) (hW _ tw_527) (fun _ h9 => h9) rfl dX2_block_43 ?_
      refine lv_iload_n hx hb dX2_block_46 rfl (lv_at hl 1 rfl) ?_
      refine lv_iconst (v := nI 4) hx hb dX2_block_47 (by decide) ?_
      refine lv_iload_n hx hb dX2_block_48 rfl (lv_at hl 2 rfl) ?_
      refine lv_imul hx hb dX2_block_49 ?_
      refine lv_eqi (v := nI (4 * i)) (pk_mul _ _) ?_
      refine lv_iadd hx hb dX2_block_50 ?_
      refine lv_eqi (v := nI (f + 4 * i)) (nI_add _ _) ?_
      refine lv_iconst (v := nI 2) hx hb dX2_block_51 (by decide) ?_
      refine lv_iadd hx hb dX2_block_52 ?_
      refine lv_eqi (v := nI (f + 4 * i + 2)) (nI_add _ _) ?_
      refine m_ld (X := wMx om am cZ th tp lv dy pv pm by_ pt wy gone oR) hx hb hK hP 0 3 (f + 4 * i + 2) rfl (by decide) (show f + 4 * i + 2 < 256 by omega) (by decide) dX2_block_53 ?_
      refine lv_bipush (v := nI 8) hx hb dX2_block_54 (by decide) ?_
      refine lv_ishl hx hb dX2_block_56 ?_
      refine lv_ior hx hb dX2_block_57 ?_
      refine lv_aload_n hx hb dX2_block_58 rfl (lv_at hl 0 rfl) ?_
      refine va_get (D := D) (ci := 2) (v := .ref (am 3)) (C := RX2) (T := TX2) (N := 25) hx hb hW iMD hown hK hP 0 rfl rfl 13 (by decide) (hW _ tw_527) (fun _ h9 => h9) rfl dX2_block_59 ?_
      refine lv_iload_n hx hb dX2_block_62 rfl (lv_at hl 1 rfl) ?_
      refine lv_iconst (v := nI 4) hx hb dX2_block_63 (by decide) ?_
      refine lv_iload_n hx hb dX2_block_64 rfl (lv_at hl 2 rfl) ?_
      refine lv_imul hx hb dX2_block_65 ?_
      refine lv_eqi (v := nI (4 * i)) (pk_mul _ _) ?_
      refine lv_iadd hx hb dX2_block_66 ?_
      refine lv_eqi (v := nI (f + 4 * i)) (nI_add _ _) ?_
      refine lv_iconst (v := nI 3) hx hb dX2_block_67 (by decide) ?_
      refine lv_iadd hx hb dX2_block_68 ?_
      refine lv_eqi (v := nI (f + 4 * i + 3)) (nI_add _ _) ?_
      refine m_ld (X := wMx om am cZ th tp lv dy pv pm by_ pt wy gone oR) hx hb hK hP 0 3 (f + 4 * i + 3) rfl (by decide) (show f + 4 * i + 3 < 256 by omega) (by decide) dX2_block_69 ?_
      refine lv_ior hx hb dX2_block_70 ?_
      refine m_st (X := wMx om am cZ th tp lv dy pv pm by_ pt wy gone oR) hx hb hK hP hD hS 0 4 i rfl (by decide) (show i < 64 by omega) (by decide) dX2_block_71 (fun H locs hP hD hS => ?_)
      have hP : va_P D vwCl (wM om am cI cZ th tp lv dy pv pm by_ pt wy gone oR (va_up (itr (p_w1 f) i mem) 4 (upd ((itr (p_w1 f) i mem) 4) i ((((((itr (p_w1 f) i mem) 3 (f + 4 * i)) <<< ((nI 24) &&& 31)) ||| (((itr (p_w1 f) i mem) 3 (f + 4 * i + 1)) <<< ((nI 16) &&& 31))) ||| (((itr (p_w1 f) i mem) 3 (f + 4 * i + 2)) <<< ((nI 8) &&& 31))) ||| ((itr (p_w1 f) i mem) 3 (f + 4 * i + 3)))))) H := hP
      have hD : va_D A (wM om am cI cZ th tp lv dy pv pm by_ pt wy gone oR (va_up (itr (p_w1 f) i mem) 4 (upd ((itr (p_w1 f) i mem) 4) i ((((((itr (p_w1 f) i mem) 3 (f + 4 * i)) <<< ((nI 24) &&& 31)) ||| (((itr (p_w1 f) i mem) 3 (f + 4 * i + 1)) <<< ((nI 16) &&& 31))) ||| (((itr (p_w1 f) i mem) 3 (f + 4 * i + 2)) <<< ((nI 8) &&& 31))) ||| ((itr (p_w1 f) i mem) 3 (f + 4 * i + 3)))))) := hD
      have hP : va_P D vwCl (wM om am cI cZ th tp lv dy pv pm by_ pt wy gone oR (itr (p_w1 f) (i + 1) mem)) H := hP
      have hD : va_D A (wM om am cI cZ th tp lv dy pv pm by_ pt wy gone oR (itr (p_w1 f) (i + 1) mem)) := hD
      refine lv_iinc (v := nI (i + 1)) (lv' := [(2, .int (nI (i + 1))), (0, .ref (om 0)), (1, .int (nI f))]) hx hb dX2_block_72 hl (k := 2) rfl (nI_1 _) (by decide) rfl (fun ls hl => ?_)
      refine lv_goto (tgt := 2) hx hb dX2_block_75 (by decide) ?_
      exact ih (i + 1) H locs ls (by omega) hP hD hS (lv_sub hl [1, 2, 0] rfl)
  refine lv_iconst (v := nI 0) hx hb dX2_block_0 (by decide) ?_
  refine lv_istore_n (lv' := [(2, .int (nI 0)), (0, .ref (om 0)), (1, .int (nI f))]) hx hb dX2_block_1 rfl hl (by decide) rfl (fun ls hl => ?_)
  exact loop1 16 0 s.heap [] ls (by omega) hP hD hS (lv_sub hl [1, 2, 0] rfl)
end
section
set_option maxHeartbeats 4000000 in
set_option maxRecDepth 100000 in
theorem n_digest0 {l : Launch} {D : va_G} {om am : Nat → Nat} {cI cZ cG : ClassId} {th tp lv dy pv pm pt wy : Int32} {gone oR : Nat → Int32} (n : Nat) (hn : n ≤ 247) (mem : xMem) (hkc : ∀ i, i < 64 → mem 13 i = kc i) : MV l nE yX2_digest0 (.code yX2_digest0 cX2_digest0 3 none :: tW) ({ frames := 2, cells := 0, slots := 0, locals := 56 }) D vwCl (tC cI cZ cG) [.ref (om 0)] (wM om am cI cZ th tp lv dy pv pm (nI n) pt wy gone oR mem) (wM om am cI cZ th tp lv dy pv pm (nI (P_fin 2 (n, mem)).1) pt wy gone oR ((P_fin 2 (n, mem)).2)) := by
  refine MV.ofW (by decide +kernel) rfl (Nat.le_of_ble_eq_true rfl) ?_
  intro p e s m below meth c A ls hx hb hr hts hown hlk hml hA hP hK hD hT hl
  have hS : va_S A s.heap s.heap [] := va_S.rf
  have hown : s.vm.findClass RX2 = some m.cls := hown
  have hW : ∀ w ∈ tW, w.before _ s = true := fun w h => hts w (List.mem_cons_of_mem _ h)
  have hl : lv_has ls 3 [(0, .ref (om 0))] := hl
  have hz := zz_lt n
  have hzz : (311 - n) % 64 = zz n := rfl
  generalize hz0 : zz n = zn at hz hzz
  have hC : (pfC (n, mem)).1 = n + 9 + zn := (pfC_fst n mem hn).trans (by rw [hz0])
  have loop3 : ∀ (k i : Nat) (H : Heap) (locs : List Loc) (ls : Array Slot), i + k = 32 → va_P D vwCl (wM om am cI cZ th tp lv dy pv pm (nI (pfC (n, mem)).1) pt wy gone oR (pfF 2 (n, mem) i)) H → va_D A (wM om am cI cZ th tp lv dy pv pm (nI (pfC (n, mem)).1) pt wy gone oR (pfF 2 (n, mem) i)) → va_S A s.heap H locs → lv_has ls 3 [(0, .ref (om 0)), (2, .int (nI i))] → W p l e ({ frames := 2, cells := 0, slots := 0, locals := 56 }) s m ([.ref (om 0)] : List Value).toArray below meth c H locs 0 0 (MQ below (xQv D vwCl (wM om am cI cZ th tp lv dy pv pm (nI (P_fin 2 (n, mem)).1) pt wy gone oR ((P_fin 2 (n, mem)).2)) A) ([.ref (om 0)] : List Value).toArray s 0 0 A) (F0 m 131 ls []) := by
    intro k
    induction k with
    | zero =>
      intro i H locs ls hk hP hD hS hl
      have hk9 : i = 32 := by omega
      subst hk9
      refine lv_iload_n hx hb dX2_digest0_131 rfl (lv_at hl 1 rfl) ?_
      refine lv_bipush (v := nI 32) hx hb dX2_digest0_132 (by decide) ?_
      refine lv_icmp_ge (tgt := 171) hx hb dX2_digest0_134 (by decide) (fun _ => ?_) (fun hq9 => absurd (by decide) hq9)
      have hP : va_P D vwCl (wM om am cI cZ th tp lv dy pv pm (nI (P_fin 2 (n, mem)).1) pt wy gone oR ((P_fin 2 (n, mem)).2)) H := by rw [P_fin_e, p_finish_1, p_finish_2]; exact hP
      have hD : va_D A (wM om am cI cZ th tp lv dy pv pm (nI (P_fin 2 (n, mem)).1) pt wy gone oR ((P_fin 2 (n, mem)).2)) := by rw [P_fin_e, p_finish_1, p_finish_2]; exact hD
      exact mv_ret hx hb hr hlk hS hP hD dX2_digest0_171
    | succ k ih =>
      intro i H locs ls hk hP hD hS hl
      refine lv_iload_n hx hb dX2_digest0_131 rfl (lv_at hl 1 rfl) ?_
      refine lv_bipush (v := nI 32) hx hb dX2_digest0_132 (by decide) ?_
      refine lv_icmp_ge (tgt := 171) hx hb dX2_digest0_134 (by decide) (fun hq9 => absurd hq9 (nI_ge (by omega) (by decide))) (fun _ => ?_)
      refine lv_aload_n hx hb dX2_digest0_137 rfl (lv_at hl 0 rfl) ?_
      refine va_get (D := D) (ci := 2) (v := .ref (am 2)) (C := RX2) (T := TX2) (N := 25) hx hb hW iMD hown hK hP 0 rfl rfl 14 (by decide) (hW _ tw_528) (fun _ h9 => h9) rfl dX2_digest0_138 ?_
      refine lv_iload_n hx hb dX2_digest0_141 rfl (lv_at hl 1 rfl) ?_
      refine lv_aload_n hx hb dX2_digest0_142 rfl (lv_at hl 0 rfl) ?_
      refine va_get (D := D) (ci := 2) (v := .ref (am 5)) (C := RX2) (T := TX2) (N := 25) hx hb hW iMD hown hK hP 0 rfl rfl 16 (by decide) (hW _ tw_530) (fun _ h9 => h9) rfl dX2_digest0_143 ?_
      refine lv_iload_n hx hb dX2_digest0_146 rfl (lv_at hl 1 rfl) ?_
      refine lv_iconst (v := nI 4) hx hb dX2_digest0_147 (by decide) ?_
      refine lv_idiv hx hb dX2_digest0_148 (by decide) ?_
      refine lv_eqi (v := nI (i / 4)) (pk_div (by omega) (by decide) (by decide)) ?_
      refine m_ld (X := wMx om am cZ th tp lv dy pv pm (nI (pfC (n, mem)).1) pt wy gone oR) hx hb hK hP 0 5 (i / 4) rfl (by decide) (show i / 4 < 8 by omega) (by decide) dX2_digest0_149 ?_
      refine lv_bipush (v := nI 24) hx hb dX2_digest0_150 (by decide) ?_
      refine lv_bipush (v := nI 8) hx hb dX2_digest0_152 (by decide) ?_
      refine lv_iload_n hx hb dX2_digest0_154 rfl (lv_at hl 1 rfl) ?_
      refine lv_iconst (v := nI 4) hx hb dX2_digest0_155 (by decide) ?_
      refine lv_irem hx hb dX2_digest0_156 (by decide) ?_
      refine lv_eqi (v := nI (i % 4)) (pk_rem (by omega) (by decide) (by decide)) ?_
      refine lv_imul hx hb dX2_digest0_157 ?_
      refine lv_eqi (v := nI (8 * (i % 4))) (pk_mul _ _) ?_
      refine lv_isub hx hb dX2_digest0_158 ?_
      refine lv_eqi (v := nI (24 - (8 * (i % 4)))) (pk_sub (by omega)) ?_
      refine lv_iushr (v := ush ((pfF 2 (n, mem) i) 5 (i / 4)) (nI (24 - (8 * (i % 4))))) hx hb dX2_digest0_159 rfl ?_
      refine lv_sipush (v := nI 255) hx hb dX2_digest0_160 (by decide) ?_
      refine lv_iand hx hb dX2_digest0_163 ?_
      refine m_st (X := wMx om am cZ th tp lv dy pv pm (nI (pfC (n, mem)).1) pt wy gone oR) hx hb hK hP hD hS 0 2 i rfl (by decide) (show i < 32 by omega) (by decide) dX2_digest0_164 (fun H locs hP hD hS => ?_)
      have hP : va_P D vwCl (wM om am cI cZ th tp lv dy pv pm (nI (pfC (n, mem)).1) pt wy gone oR (pfF 2 (n, mem) (i + 1))) H := by rw [pfF_s]; exact hP
      have hD : va_D A (wM om am cI cZ th tp lv dy pv pm (nI (pfC (n, mem)).1) pt wy gone oR (pfF 2 (n, mem) (i + 1))) := by rw [pfF_s]; exact hD
      refine lv_iinc (v := nI (i + 1)) (lv' := [(2, .int (nI (i + 1))), (0, .ref (om 0))]) hx hb dX2_digest0_165 hl (k := 1) rfl (nI_1 _) (by decide) rfl (fun ls hl => ?_)
      refine lv_goto (tgt := 131) hx hb dX2_digest0_168 (by decide) ?_
      exact ih (i + 1) H locs ls (by omega) hP hD hS (lv_sub hl [1, 0] rfl)
  have loop2 : ∀ (k i : Nat) (H : Heap) (locs : List Loc) (ls : Array Slot), 64 * (i + k) = n + 9 + zn → va_P D vwCl (wM om am cI cZ th tp lv dy pv pm (nI (pfC (n, mem)).1) pt wy gone oR (pfE (n, mem) i)) H → va_D A (wM om am cI cZ th tp lv dy pv pm (nI (pfC (n, mem)).1) pt wy gone oR (pfE (n, mem) i)) → va_S A s.heap H locs → lv_has ls 3 [(0, .ref (om 0)), (2, .int (nI (64 * i)))] → W p l e ({ frames := 2, cells := 0, slots := 0, locals := 56 }) s m ([.ref (om 0)] : List Value).toArray below meth c H locs 0 0 (MQ below (xQv D vwCl (wM om am cI cZ th tp lv dy pv pm (nI (P_fin 2 (n, mem)).1) pt wy gone oR ((P_fin 2 (n, mem)).2)) A) ([.ref (om 0)] : List Value).toArray s 0 0 A) (F0 m 110 ls []) := by
    intro k
    induction k with
    | zero =>
      intro i H locs ls hk hP hD hS hl
      have hk9 : 64 * i = n + 9 + zn := by omega
      refine lv_iload_n hx hb dX2_digest0_110 rfl (lv_at hl 1 rfl) ?_
      refine lv_aload_n hx hb dX2_digest0_111 rfl (lv_at hl 0 rfl) ?_
      refine va_get (D := D) (ci := 2) (v := .int (nI (pfC (n, mem)).1)) (C := RX2) (T := TX2) (N := 25) hx hb hW iMD hown hK hP 0 rfl rfl 12 (by decide) (hW _ tw_526) (fun _ h9 => h9) rfl dX2_digest0_112 ?_
      refine lv_eqi (v := nI (n + 9 + zn)) (congrArg nI hC) ?_
      refine lv_icmp_ge (tgt := 129) hx hb dX2_digest0_115 (by decide) (fun _ => ?_) (fun hq9 => absurd (nI_le (by omega) (by omega)) hq9)
      have hk8 : i = (pfC (n, mem)).1 / 64 := by rw [hC]; omega
      have hP : va_P D vwCl (wM om am cI cZ th tp lv dy pv pm (nI (pfC (n, mem)).1) pt wy gone oR (pfF 2 (n, mem) 0)) H := by rw [pfF_0, ← hk8]; exact hP
      have hD : va_D A (wM om am cI cZ th tp lv dy pv pm (nI (pfC (n, mem)).1) pt wy gone oR (pfF 2 (n, mem) 0)) := by rw [pfF_0, ← hk8]; exact hD
      refine lv_iconst (v := nI 0) hx hb dX2_digest0_129 (by decide) ?_
      refine lv_istore_n (lv' := [(2, .int (nI 0)), (0, .ref (om 0))]) hx hb dX2_digest0_130 rfl hl (by decide) rfl (fun ls hl => ?_)
      exact loop3 32 0 H locs ls (by omega) hP hD hS (lv_sub hl [1, 0] rfl)
    | succ k ih =>
      intro i H locs ls hk hP hD hS hl
      refine lv_iload_n hx hb dX2_digest0_110 rfl (lv_at hl 1 rfl) ?_
      refine lv_aload_n hx hb dX2_digest0_111 rfl (lv_at hl 0 rfl) ?_
      refine va_get (D := D) (ci := 2) (v := .int (nI (pfC (n, mem)).1)) (C := RX2) (T := TX2) (N := 25) hx hb hW iMD hown hK hP 0 rfl rfl 12 (by decide) (hW _ tw_526) (fun _ h9 => h9) rfl dX2_digest0_112 ?_
      refine lv_eqi (v := nI (n + 9 + zn)) (congrArg nI hC) ?_
      refine lv_icmp_ge (tgt := 129) hx hb dX2_digest0_115 (by decide) (fun hq9 => absurd hq9 (nI_ge (by omega) (by omega))) (fun _ => ?_)
      refine lv_aload_n hx hb dX2_digest0_118 rfl (lv_at hl 0 rfl) ?_
      refine lv_iload_n hx hb dX2_digest0_119 rfl (lv_at hl 1 rfl) ?_
      refine mv_callV (C := RX2) (As := [.int (nI (64 * i))]) (rest := []) ⟨hx, hb, hml, hown, hW⟩ (n_block (64 * i) (by omega) (pfE (n, mem) i) (fun j hj => by rw [pfE_k (by decide) (by decide) (by decide)]; exact hkc j hj)) nE_ok (cwV 1 hW (gV tw_634 tw_636 tv_X2_block tw_3 tw_637) rfl rfl rfl (by decide +kernel) ⟨Nat.le_of_ble_eq_true rfl, Nat.le_of_ble_eq_true rfl⟩) (va_recv hK hP (ci := 2) (q0 := 0) rfl rfl) hP hD hK hS hA hT rfl hl.1 rfl (Nat.le_of_ble_eq_true rfl) dX2_digest0_120 ⟨Nat.zero_le _, Nat.zero_le _⟩ (fun H locs hP hD hS => ?_)
      have hP : va_P D vwCl (wM om am cI cZ th tp lv dy pv pm (nI (pfC (n, mem)).1) pt wy gone oR (p_stir (p_spread (64 * i) (pfE (n, mem) i)))) H := hP
      have hD : va_D A (wM om am cI cZ th tp lv dy pv pm (nI (pfC (n, mem)).1) pt wy gone oR (p_stir (p_spread (64 * i) (pfE (n, mem) i)))) := hD
      have hP : va_P D vwCl (wM om am cI cZ th tp lv dy pv pm (nI (pfC (n, mem)).1) pt wy gone oR (pfE (n, mem) (i + 1))) H := by rw [pfE_s]; exact hP
      have hD : va_D A (wM om am cI cZ th tp lv dy pv pm (nI (pfC (n, mem)).1) pt wy gone oR (pfE (n, mem) (i + 1))) := by rw [pfE_s]; exact hD
      refine lv_iinc (v := nI (64 * (i + 1))) (lv' := [(2, .int (nI (64 * (i + 1)))), (0, .ref (om 0))]) hx hb dX2_digest0_123 hl (k := 1) rfl (nI_add (64 * i) 64) (by decide) rfl (fun ls hl => ?_)
      refine lv_goto (tgt := 110) hx hb dX2_digest0_126 (by decide) ?_
      exact ih (i + 1) H locs ls (by omega) hP hD hS (lv_sub hl [1, 0] rfl)
  have loop1 : ∀ (k i : Nat) (H : Heap) (locs : List Loc) (ls : Array Slot), i + k = zn → va_P D vwCl (wM om am cI cZ th tp lv dy pv pm (nI (itr (fun _ => p_take (nI 0)) i (pfA (n, hS5 mem))).1) pt wy gone oR ((itr (fun _ => p_take (nI 0)) i (pfA (n, hS5 mem))).2)) H → va_D A (wM om am cI cZ th tp lv dy pv pm (nI (itr (fun _ => p_take (nI 0)) i (pfA (n, hS5 mem))).1) pt wy gone oR ((itr (fun _ => p_take (nI 0)) i (pfA (n, hS5 mem))).2)) → va_S A s.heap H locs → lv_has ls 3 [(0, .ref (om 0)), (1, .int (nI n))] → W p l e ({ frames := 2, cells := 0, slots := 0, locals := 56 }) s m ([.ref (om 0)] : List Value).toArray below meth c H locs 0 0 (MQ below (xQv D vwCl (wM om am cI cZ th tp lv dy pv pm (nI (P_fin 2 (n, mem)).1) pt wy gone oR ((P_fin 2 (n, mem)).2)) A) ([.ref (om 0)] : List Value).toArray s 0 0 A) (F0 m 78 ls []) := by
    intro k
    induction k with
    | zero =>
      intro i H locs ls hk hP hD hS hl
      have hk9 : i = zn := by omega
      have e0 : (itr (fun _ => p_take (nI 0)) i (pfA (n, hS5 mem))).1 = n + 1 + i := pfZ_fst n (hS5 mem) i (by omega)
      refine lv_aload_n hx hb dX2_digest0_78 rfl (lv_at hl 0 rfl) ?_
      refine va_get (D := D) (ci := 2) (v := .int (nI (itr (fun _ => p_take (nI 0)) i (pfA (n, hS5 mem))).1)) (C := RX2) (T := TX2) (N := 25) hx hb hW iMD hown hK hP 0 rfl rfl 12 (by decide) (hW _ tw_526) (fun _ h9 => h9) rfl dX2_digest0_79 ?_
      refine lv_eqi (v := nI (n + 1 + i)) (congrArg nI e0) ?_
      refine lv_bipush (v := nI 64) hx hb dX2_digest0_82 (by decide) ?_
      refine lv_irem hx hb dX2_digest0_84 (by decide) ?_
      refine lv_eqi (v := nI ((n + 1 + i) % 64)) (pk_rem (by omega) (by decide) (by decide)) ?_
      refine lv_bipush (v := nI 56) hx hb dX2_digest0_85 (by decide) ?_
      refine lv_icmp_eq (tgt := 98) hx hb dX2_digest0_87 (by decide) (fun _ => ?_) (fun hq9 => absurd ((nI_eq (by omega) (by decide)).mpr (by omega)) hq9)
      rw [hk9] at hP hD e0
      have hP : va_P D vwCl (wM om am cI cZ th tp lv dy pv pm (nI (pfB (n, hS5 mem)).1) pt wy gone oR ((pfB (n, hS5 mem)).2)) H := by rw [pfB_e, hz0]; exact hP
      have hD : va_D A (wM om am cI cZ th tp lv dy pv pm (nI (pfB (n, hS5 mem)).1) pt wy gone oR ((pfB (n, hS5 mem)).2)) := by rw [pfB_e, hz0]; exact hD
      have e1 : (pfB (n, hS5 mem)).1 = n + 1 + zn := by rw [pfB_e, hz0]; exact e0
      refine lv_aload_n hx hb dX2_digest0_98 rfl (lv_at hl 0 rfl) ?_
      refine lv_ldc2 (v := lN 8) hx hb hown (hW _ tw_629) dX2_digest0_99 ?_
      refine lv_iload_n hx hb dX2_digest0_102 rfl (lv_at hl 1 rfl) ?_
      refine lv_i2l (v := (nI n).toInt64) hx hb dX2_digest0_103 rfl ?_
      refine lv_lmul hx hb dX2_digest0_104 ?_
      refine mv_callV (C := RX2) (As := [.long ((lN 8) * ((nI n).toInt64))]) (rest := []) ⟨hx, hb, hml, hown, hW⟩ (n_addLong ((pfB (n, hS5 mem)).1) (by rw [e1]; omega) ((pfB (n, hS5 mem)).2) ((lN 8) * ((nI n).toInt64))) nE_ok (cwV 1 hW (gV tw_630 tw_632 tv_X2_addLong tw_3 tw_633) rfl rfl rfl (by decide +kernel) ⟨Nat.le_of_ble_eq_true rfl, Nat.le_of_ble_eq_true rfl⟩) (va_recv hK hP (ci := 2) (q0 := 0) rfl rfl) hP hD hK hS hA hT rfl hl.1 rfl (Nat.le_of_ble_eq_true rfl) dX2_digest0_105 ⟨Nat.zero_le _, Nat.zero_le _⟩ (fun H locs hP hD hS => ?_)
      have hP : va_P D vwCl (wM om am cI cZ th tp lv dy pv pm (nI (P_long ((lN 8) * ((nI n).toInt64)) (pfB (n, hS5 mem))).1) pt wy gone oR ((P_long ((lN 8) * ((nI n).toInt64)) (pfB (n, hS5 mem))).2)) H := hP
      have hD : va_D A (wM om am cI cZ th tp lv dy pv pm (nI (P_long ((lN 8) * ((nI n).toInt64)) (pfB (n, hS5 mem))).1) pt wy gone oR ((P_long ((lN 8) * ((nI n).toInt64)) (pfB (n, hS5 mem))).2)) := hD
      have e2 : P_long (lN 8 * (nI n).toInt64) (pfB (n, hS5 mem)) = pfC (n, hS5 mem) := by rw [P_long_e, pfC_e]
      have hP : va_P D vwCl (wM om am cI cZ th tp lv dy pv pm (nI (pfC (n, mem)).1) pt wy gone oR (pfE (n, mem) 0)) H := by rw [pfE_0, ← pfC_U, ← pfD_U, ← e2]; exact hP
      have hD : va_D A (wM om am cI cZ th tp lv dy pv pm (nI (pfC (n, mem)).1) pt wy gone oR (pfE (n, mem) 0)) := by rw [pfE_0, ← pfC_U, ← pfD_U, ← e2]; exact hD
      refine lv_iconst (v := nI 0) hx hb dX2_digest0_108 (by decide) ?_
      refine lv_istore_n (lv' := [(2, .int (nI 0)), (0, .ref (om 0)), (1, .int (nI n))]) hx hb dX2_digest0_109 rfl hl (by decide) rfl (fun ls hl => ?_)
      obtain ⟨kb, hkb⟩ : ∃ kb, 64 * kb = n + 9 + zn := ⟨(n + 9 + zn) / 64, by omega⟩
      exact loop2 kb 0 H locs ls (by omega) hP hD hS (lv_sub hl [1, 0] rfl)
    | succ k ih =>
      intro i H locs ls hk hP hD hS hl
      have e0 : (itr (fun _ => p_take (nI 0)) i (pfA (n, hS5 mem))).1 = n + 1 + i := pfZ_fst n (hS5 mem) i (by omega)
      refine lv_aload_n hx hb dX2_digest0_78 rfl (lv_at hl 0 rfl) ?_
      refine va_get (D := D) (ci := 2) (v := .int (nI (itr (fun _ => p_take (nI 0)) i (pfA (n, hS5 mem))).1)) (C := RX2) (T := TX2) (N := 25) hx hb hW iMD hown hK hP 0 rfl rfl 12 (by decide) (hW _ tw_526) (fun _ h9 => h9) rfl dX2_digest0_79 ?_
      refine lv_eqi (v := nI (n + 1 + i)) (congrArg nI e0) ?_
      refine lv_bipush (v := nI 64) hx hb dX2_digest0_82 (by decide) ?_
      refine lv_irem hx hb dX2_digest0_84 (by decide) ?_
      refine lv_eqi (v := nI ((n + 1 + i) % 64)) (pk_rem (by omega) (by decide) (by decide)) ?_
      refine lv_bipush (v := nI 56) hx hb dX2_digest0_85 (by decide) ?_
      refine lv_icmp_eq (tgt := 98) hx hb dX2_digest0_87 (by decide) (fun hq9 => absurd hq9 (fun h9 => absurd ((nI_eq (by omega) (by decide)).mp h9) (by omega))) (fun _ => ?_)
      refine lv_aload_n hx hb dX2_digest0_90 rfl (lv_at hl 0 rfl) ?_
      refine lv_iconst (v := nI 0) hx hb dX2_digest0_91 (by decide) ?_
      refine mv_callV (C := RX2) (As := [.int (nI 0)]) (rest := []) ⟨hx, hb, hml, hown, hW⟩ (n_add ((itr (fun _ => p_take (nI 0)) i (pfA (n, hS5 mem))).1) (by rw [e0]; omega) ((itr (fun _ => p_take (nI 0)) i (pfA (n, hS5 mem))).2) (nI 0)) nE_ok (cwV 1 hW (gV tw_613 tw_615 tv_X2_add tw_3 tw_616) rfl rfl rfl (by decide +kernel) ⟨Nat.le_of_ble_eq_true rfl, Nat.le_of_ble_eq_true rfl⟩) (va_recv hK hP (ci := 2) (q0 := 0) rfl rfl) hP hD hK hS hA hT rfl hl.1 rfl (Nat.le_of_ble_eq_true rfl) dX2_digest0_92 ⟨Nat.zero_le _, Nat.zero_le _⟩ (fun H locs hP hD hS => ?_)
      have hP : va_P D vwCl (wM om am cI cZ th tp lv dy pv pm (nI (P_take (nI 0) (itr (fun _ => p_take (nI 0)) i (pfA (n, hS5 mem)))).1) pt wy gone oR ((P_take (nI 0) (itr (fun _ => p_take (nI 0)) i (pfA (n, hS5 mem)))).2)) H := hP
      have hD : va_D A (wM om am cI cZ th tp lv dy pv pm (nI (P_take (nI 0) (itr (fun _ => p_take (nI 0)) i (pfA (n, hS5 mem)))).1) pt wy gone oR ((P_take (nI 0) (itr (fun _ => p_take (nI 0)) i (pfA (n, hS5 mem)))).2)) := hD
      have hP : va_P D vwCl (wM om am cI cZ th tp lv dy pv pm (nI (itr (fun _ => p_take (nI 0)) (i + 1) (pfA (n, hS5 mem))).1) pt wy gone oR ((itr (fun _ => p_take (nI 0)) (i + 1) (pfA (n, hS5 mem))).2)) H := by rw [pz_s]; exact hP
      have hD : va_D A (wM om am cI cZ th tp lv dy pv pm (nI (itr (fun _ => p_take (nI 0)) (i + 1) (pfA (n, hS5 mem))).1) pt wy gone oR ((itr (fun _ => p_take (nI 0)) (i + 1) (pfA (n, hS5 mem))).2)) := by rw [pz_s]; exact hD
      refine lv_goto (tgt := 78) hx hb dX2_digest0_95 (by decide) ?_
      exact ih (i + 1) H locs ls (by omega) hP hD hS (lv_sub hl [0, 1] rfl)
  refine lv_aload_n hx hb dX2_digest0_0 rfl (lv_at hl 0 rfl) ?_
  refine va_get (D := D) (ci := 2) (v := .ref (am 5)) (C := RX2) (T := TX2) (N := 25) hx hb hW iMD hown hK hP 0 rfl rfl 16 (by decide) (hW _ tw_530) (fun _ h9 => h9) rfl dX2_digest0_1 ?_
  refine lv_iconst (v := nI 0) hx hb dX2_digest0_4 (by decide) ?_
  refine lv_ldc (v := 1779033703) hx hb hown (hW _ tw_621) dX2_digest0_5 ?_
  refine m_st (X := wMx om am cZ th tp lv dy pv pm (nI n) pt wy gone oR) hx hb hK hP hD hS 0 5 0 rfl (by decide) (show 0 < 8 by omega) (by decide) dX2_digest0_7 (fun H locs hP hD hS => ?_)
  have hP : va_P D vwCl (wM om am cI cZ th tp lv dy pv pm (nI n) pt wy gone oR (st5 0 1779033703 mem)) H := hP
  have hD : va_D A (wM om am cI cZ th tp lv dy pv pm (nI n) pt wy gone oR (st5 0 1779033703 mem)) := hD
  refine lv_aload_n hx hb dX2_digest0_8 rfl (lv_at hl 0 rfl) ?_
  refine va_get (D := D) (ci := 2) (v := .ref (am 5)) (C := RX2) (T := TX2) (N := 25) hx hb hW iMD hown hK hP 0 rfl rfl 16 (by decide) (hW _ tw_530) (fun _ h9 => h9) rfl dX2_digest0_9 ?_
  refine lv_iconst (v := nI 1) hx hb dX2_digest0_12 (by decide) ?_
  refine lv_ldc (v := (-1150833019)) hx hb hown (hW _ tw_622) dX2_digest0_13 ?_
  refine m_st (X := wMx om am cZ th tp lv dy pv pm (nI n) pt wy gone oR) hx hb hK hP hD hS 0 5 1 rfl (by decide) (show 1 < 8 by omega) (by decide) dX2_digest0_15 (fun H locs hP hD hS => ?_)
  have hP : va_P D vwCl (wM om am cI cZ th tp lv dy pv pm (nI n) pt wy gone oR (st5 1 (-1150833019) (st5 0 1779033703 mem))) H := hP
  have hD : va_D A (wM om am cI cZ th tp lv dy pv pm (nI n) pt wy gone oR (st5 1 (-1150833019) (st5 0 1779033703 mem))) := hD
  refine lv_aload_n hx hb dX2_digest0_16 rfl (lv_at hl 0 rfl) ?_
  refine va_get (D := D) (ci := 2) (v := .ref (am 5)) (C := RX2) (T := TX2) (N := 25) hx hb hW iMD hown hK hP 0 rfl rfl 16 (by decide) (hW _ tw_530) (fun _ h9 => h9) rfl dX2_digest0_17 ?_
  refine lv_iconst (v := nI 2) hx hb dX2_digest0_20 (by decide) ?_
  refine lv_ldc (v := 1013904242) hx hb hown (hW _ tw_623) dX2_digest0_21 ?_
  refine m_st (X := wMx om am cZ th tp lv dy pv pm (nI n) pt wy gone oR) hx hb hK hP hD hS 0 5 2 rfl (by decide) (show 2 < 8 by omega) (by decide) dX2_digest0_23 (fun H locs hP hD hS => ?_)
  have hP : va_P D vwCl (wM om am cI cZ th tp lv dy pv pm (nI n) pt wy gone oR (st5 2 1013904242 (st5 1 (-1150833019) (st5 0 1779033703 mem)))) H := hP
  have hD : va_D A (wM om am cI cZ th tp lv dy pv pm (nI n) pt wy gone oR (st5 2 1013904242 (st5 1 (-1150833019) (st5 0 1779033703 mem)))) := hD
  refine lv_aload_n hx hb dX2_digest0_24 rfl (lv_at hl 0 rfl) ?_
  refine va_get (D := D) (ci := 2) (v := .ref (am 5)) (C := RX2) (T := TX2) (N := 25) hx hb hW iMD hown hK hP 0 rfl rfl 16 (by decide) (hW _ tw_530) (fun _ h9 => h9) rfl dX2_digest0_25 ?_
  refine lv_iconst (v := nI 3) hx hb dX2_digest0_28 (by decide) ?_
  refine lv_ldc (v := (-1521486534)) hx hb hown (hW _ tw_624) dX2_digest0_29 ?_
  refine m_st (X := wMx om am cZ th tp lv dy pv pm (nI n) pt wy gone oR) hx hb hK hP hD hS 0 5 3 rfl (by decide) (show 3 < 8 by omega) (by decide) dX2_digest0_31 (fun H locs hP hD hS => ?_)
  have hP : va_P D vwCl (wM om am cI cZ th tp lv dy pv pm (nI n) pt wy gone oR (st5 3 (-1521486534) (st5 2 1013904242 (st5 1 (-1150833019) (st5 0 1779033703 mem))))) H := hP
  have hD : va_D A (wM om am cI cZ th tp lv dy pv pm (nI n) pt wy gone oR (st5 3 (-1521486534) (st5 2 1013904242 (st5 1 (-1150833019) (st5 0 1779033703 mem))))) := hD
  refine lv_aload_n hx hb dX2_digest0_32 rfl (lv_at hl 0 rfl) ?_
  refine va_get (D := D) (ci := 2) (v := .ref (am 5)) (C := RX2) (T := TX2) (N := 25) hx hb hW iMD hown hK hP 0 rfl rfl 16 (by decide) (hW _ tw_530) (fun _ h9 => h9) rfl dX2_digest0_33 ?_
  refine lv_iconst (v := nI 4) hx hb dX2_digest0_36 (by decide) ?_
  refine lv_ldc (v := 1359893119) hx hb hown (hW _ tw_625) dX2_digest0_37 ?_
  refine m_st (X := wMx om am cZ th tp lv dy pv pm (nI n) pt wy gone oR) hx hb hK hP hD hS 0 5 4 rfl (by decide) (show 4 < 8 by omega) (by decide) dX2_digest0_39 (fun H locs hP hD hS => ?_)
  have hP : va_P D vwCl (wM om am cI cZ th tp lv dy pv pm (nI n) pt wy gone oR (st5 4 1359893119 (st5 3 (-1521486534) (st5 2 1013904242 (st5 1 (-1150833019) (st5 0 1779033703 mem)))))) H := hP
  have hD : va_D A (wM om am cI cZ th tp lv dy pv pm (nI n) pt wy gone oR (st5 4 1359893119 (st5 3 (-1521486534) (st5 2 1013904242 (st5 1 (-1150833019) (st5 0 1779033703 mem)))))) := hD
  refine lv_aload_n hx hb dX2_digest0_40 rfl (lv_at hl 0 rfl) ?_
  refine va_get (D := D) (ci := 2) (v := .ref (am 5)) (C := RX2) (T := TX2) (N := 25) hx hb hW iMD hown hK hP 0 rfl rfl 16 (by decide) (hW _ tw_530) (fun _ h9 => h9) rfl dX2_digest0_41 ?_
  refine lv_iconst (v := nI 5) hx hb dX2_digest0_44 (by decide) ?_
  refine lv_ldc (v := (-1694144372)) hx hb hown (hW _ tw_626) dX2_digest0_45 ?_
  refine m_st (X := wMx om am cZ th tp lv dy pv pm (nI n) pt wy gone oR) hx hb hK hP hD hS 0 5 5 rfl (by decide) (show 5 < 8 by omega) (by decide) dX2_digest0_47 (fun H locs hP hD hS => ?_)
  have hP : va_P D vwCl (wM om am cI cZ th tp lv dy pv pm (nI n) pt wy gone oR (st5 5 (-1694144372) (st5 4 1359893119 (st5 3 (-1521486534) (st5 2 1013904242 (st5 1 (-1150833019) (st5 0 1779033703 mem))))))) H := hP
  have hD : va_D A (wM om am cI cZ th tp lv dy pv pm (nI n) pt wy gone oR (st5 5 (-1694144372) (st5 4 1359893119 (st5 3 (-1521486534) (st5 2 1013904242 (st5 1 (-1150833019) (st5 0 1779033703 mem))))))) := hD
  refine lv_aload_n hx hb dX2_digest0_48 rfl (lv_at hl 0 rfl) ?_
  refine va_get (D := D) (ci := 2) (v := .ref (am 5)) (C := RX2) (T := TX2) (N := 25) hx hb hW iMD hown hK hP 0 rfl rfl 16 (by decide) (hW _ tw_530) (fun _ h9 => h9) rfl dX2_digest0_49 ?_
  refine lv_bipush (v := nI 6) hx hb dX2_digest0_52 (by decide) ?_
  refine lv_ldc (v := 528734635) hx hb hown (hW _ tw_627) dX2_digest0_54 ?_
  refine m_st (X := wMx om am cZ th tp lv dy pv pm (nI n) pt wy gone oR) hx hb hK hP hD hS 0 5 6 rfl (by decide) (show 6 < 8 by omega) (by decide) dX2_digest0_56 (fun H locs hP hD hS => ?_)
  have hP : va_P D vwCl (wM om am cI cZ th tp lv dy pv pm (nI n) pt wy gone oR (st5 6 528734635 (st5 5 (-1694144372) (st5 4 1359893119 (st5 3 (-1521486534) (st5 2 1013904242 (st5 1 (-1150833019) (st5 0 1779033703 mem)))))))) H := hP
  have hD : va_D A (wM om am cI cZ th tp lv dy pv pm (nI n) pt wy gone oR (st5 6 528734635 (st5 5 (-1694144372) (st5 4 1359893119 (st5 3 (-1521486534) (st5 2 1013904242 (st5 1 (-1150833019) (st5 0 1779033703 mem)))))))) := hD
  refine lv_aload_n hx hb dX2_digest0_57 rfl (lv_at hl 0 rfl) ?_
  refine va_get (D := D) (ci := 2) (v := .ref (am 5)) (C := RX2) (T := TX2) (N := 25) hx hb hW iMD hown hK hP 0 rfl rfl 16 (by decide) (hW _ tw_530) (fun _ h9 => h9) rfl dX2_digest0_58 ?_
  refine lv_bipush (v := nI 7) hx hb dX2_digest0_61 (by decide) ?_
  refine lv_ldc (v := 1541459225) hx hb hown (hW _ tw_628) dX2_digest0_63 ?_
  refine m_st (X := wMx om am cZ th tp lv dy pv pm (nI n) pt wy gone oR) hx hb hK hP hD hS 0 5 7 rfl (by decide) (show 7 < 8 by omega) (by decide) dX2_digest0_65 (fun H locs hP hD hS => ?_)
  have hP : va_P D vwCl (wM om am cI cZ th tp lv dy pv pm (nI n) pt wy gone oR (st5 7 1541459225 (st5 6 528734635 (st5 5 (-1694144372) (st5 4 1359893119 (st5 3 (-1521486534) (st5 2 1013904242 (st5 1 (-1150833019) (st5 0 1779033703 mem))))))))) H := hP
  have hD : va_D A (wM om am cI cZ th tp lv dy pv pm (nI n) pt wy gone oR (st5 7 1541459225 (st5 6 528734635 (st5 5 (-1694144372) (st5 4 1359893119 (st5 3 (-1521486534) (st5 2 1013904242 (st5 1 (-1150833019) (st5 0 1779033703 mem))))))))) := hD
  have hP : va_P D vwCl (wM om am cI cZ th tp lv dy pv pm (nI n) pt wy gone oR (hS5 mem)) H := by rw [← st8]; exact hP
  have hD : va_D A (wM om am cI cZ th tp lv dy pv pm (nI n) pt wy gone oR (hS5 mem)) := by rw [← st8]; exact hD
  refine lv_aload_n hx hb dX2_digest0_66 rfl (lv_at hl 0 rfl) ?_
  refine va_get (D := D) (ci := 2) (v := .int (nI n)) (C := RX2) (T := TX2) (N := 25) hx hb hW iMD hown hK hP 0 rfl rfl 12 (by decide) (hW _ tw_526) (fun _ h9 => h9) rfl dX2_digest0_67 ?_
  refine lv_istore_n (lv' := [(1, .int (nI n)), (0, .ref (om 0))]) hx hb dX2_digest0_70 rfl hl (by decide) rfl (fun ls hl => ?_)
  refine lv_aload_n hx hb dX2_digest0_71 rfl (lv_at hl 1 rfl) ?_
  refine lv_sipush (v := nI 128) hx hb dX2_digest0_72 (by decide) ?_
  refine mv_callV (C := RX2) (As := [.int (nI 128)]) (rest := []) ⟨hx, hb, hml, hown, hW⟩ (n_add n (show n < 256 by omega) (hS5 mem) (nI 128)) nE_ok (cwV 1 hW (gV tw_613 tw_615 tv_X2_add tw_3 tw_616) rfl rfl rfl (by decide +kernel) ⟨Nat.le_of_ble_eq_true rfl, Nat.le_of_ble_eq_true rfl⟩) (va_recv hK hP (ci := 2) (q0 := 0) rfl rfl) hP hD hK hS hA hT rfl hl.1 rfl (Nat.le_of_ble_eq_true rfl) dX2_digest0_75 ⟨Nat.zero_le _, Nat.zero_le _⟩ (fun H locs hP hD hS => ?_)
  have hP : va_P D vwCl (wM om am cI cZ th tp lv dy pv pm (nI (P_take (nI 128) (n, hS5 mem)).1) pt wy gone oR ((P_take (nI 128) (n, hS5 mem)).2)) H := hP
  have hD : va_D A (wM om am cI cZ th tp lv dy pv pm (nI (P_take (nI 128) (n, hS5 mem)).1) pt wy gone oR ((P_take (nI 128) (n, hS5 mem)).2)) := hD
  have hP : va_P D vwCl (wM om am cI cZ th tp lv dy pv pm (nI (itr (fun _ => p_take (nI 0)) 0 (pfA (n, hS5 mem))).1) pt wy gone oR ((itr (fun _ => p_take (nI 0)) 0 (pfA (n, hS5 mem))).2)) H := by rw [itr_0, pfA_e, ← P_take_e]; exact hP
  have hD : va_D A (wM om am cI cZ th tp lv dy pv pm (nI (itr (fun _ => p_take (nI 0)) 0 (pfA (n, hS5 mem))).1) pt wy gone oR ((itr (fun _ => p_take (nI 0)) 0 (pfA (n, hS5 mem))).2)) := by rw [itr_0, pfA_e, ← P_take_e]; exact hD
  exact loop1 zn 0 H locs ls (by omega) hP hD hS (lv_sub hl [1, 0] rfl)
set_option maxHeartbeats 4000000 in
set_option maxRecDepth 100000 in
theorem n_node {l : Launch} {D : va_G} {om am : Nat → Nat} {cI cZ cG : ClassId} {th tp lv dy pv pm by_ pt wy : Int32} {gone oR : Nat → Int32} (a x b y : Nat) (h : (a < 14 ∧ x + 32 ≤ lenM a) ∧ b < 14 ∧ y + 32 ≤ lenM b) (mem : xMem) (hkc : ∀ i, i < 64 → mem 13 i = kc i) : MV l nE yX2_node (.code yX2_node cX2_node 5 none :: tW) ({ frames := 3, cells := 0, slots := 0, locals := 88 }) D vwCl (tC cI cZ cG) [.ref (om 0), .ref (am a), .int (nI x), .ref (am b), .int (nI y)] (wM om am cI cZ th tp lv dy pv pm by_ pt wy gone oR mem) (wM om am cI cZ th tp lv dy pv pm (nI (mN a x b y mem).1) pt wy gone oR ((mN a x b y mem).2)) := by
  refine MV.ofW (by decide +kernel) rfl (Nat.le_of_ble_eq_true rfl) ?_
  intro p e s m below meth c A ls hx hb hr hts hown hlk hml hA hP hK hD hT hl
  have hS : va_S A s.heap s.heap [] := va_S.rf
  have hown : s.vm.findClass RX2 = some m.cls := hown
  have hW : ∀ w ∈ tW, w.before _ s = true := fun w h => hts w (List.mem_cons_of_mem _ h)
  have hl : lv_has ls 5 [(0, .ref (om 0)), (1, .ref (am a)), (2, .int (nI x)), (3, .ref (am b)), (4, .int (nI y))] := hl
  have e1 : (P_take (nI 1) (0, mem)).1 = 1 := P_take_fst _ _ (show 0 < 256 by decide)
  have e2 : (P_row a x 32 (P_take (nI 1) (0, mem))).1 = 33 := by rw [P_row_fst a x 32 _ (by omega), e1]
  have e3 : (P_row b y 32 (P_row a x 32 (P_take (nI 1) (0, mem)))).1 = 65 := by rw [P_row_fst b y 32 _ (by omega), e2]
  refine lv_aload_n hx hb dX2_node_0 rfl (lv_at hl 0 rfl) ?_
  refine mv_callV (C := RX2) (As := []) (rest := []) ⟨hx, hb, hml, hown, hW⟩ (n_begin mem) nE_ok (cwV 0 hW (gV tw_609 tw_611 tv_X2_begin tw_3 tw_612) rfl rfl rfl (by decide +kernel) ⟨Nat.le_of_ble_eq_true rfl, Nat.le_of_ble_eq_true rfl⟩) (va_recv hK hP (ci := 2) (q0 := 0) rfl rfl) hP hD hK hS hA hT rfl hl.1 rfl (Nat.le_of_ble_eq_true rfl) dX2_node_1 ⟨Nat.zero_le _, Nat.zero_le _⟩ (fun H locs hP hD hS => ?_)
  have hP : va_P D vwCl (wM om am cI cZ th tp lv dy pv pm (nI 0) pt wy gone oR mem) H := hP
  have hD : va_D A (wM om am cI cZ th tp lv dy pv pm (nI 0) pt wy gone oR mem) := hD
  refine lv_aload_n hx hb dX2_node_4 rfl (lv_at hl 0 rfl) ?_
  refine lv_iconst (v := nI 1) hx hb dX2_node_5 (by decide) ?_
  refine mv_callV (C := RX2) (As := [.int (nI 1)]) (rest := []) ⟨hx, hb, hml, hown, hW⟩ (n_add 0 (by decide) mem (nI 1)) nE_ok (cwV 1 hW (gV tw_613 tw_615 tv_X2_add tw_3 tw_616) rfl rfl rfl (by decide +kernel) ⟨Nat.le_of_ble_eq_true rfl, Nat.le_of_ble_eq_true rfl⟩) (va_recv hK hP (ci := 2) (q0 := 0) rfl rfl) hP hD hK hS hA hT rfl hl.1 rfl (Nat.le_of_ble_eq_true rfl) dX2_node_6 ⟨Nat.zero_le _, Nat.zero_le _⟩ (fun H locs hP hD hS => ?_)
  have hP : va_P D vwCl (wM om am cI cZ th tp lv dy pv pm (nI (P_take (nI 1) (0, mem)).1) pt wy gone oR ((P_take (nI 1) (0, mem)).2)) H := hP
  have hD : va_D A (wM om am cI cZ th tp lv dy pv pm (nI (P_take (nI 1) (0, mem)).1) pt wy gone oR ((P_take (nI 1) (0, mem)).2)) := hD
  refine lv_aload_n hx hb dX2_node_9 rfl (lv_at hl 0 rfl) ?_
  refine lv_aload_n hx hb dX2_node_10 rfl (lv_at hl 1 rfl) ?_
  refine lv_iload_n hx hb dX2_node_11 rfl (lv_at hl 2 rfl) ?_
  refine mv_callV (C := RX2) (As := [.ref (am a), .int (nI x)]) (rest := []) ⟨hx, hb, hml, hown, hW⟩ (n_addRow ((P_take (nI 1) (0, mem)).1) a x (by rw [e1]; decide) (h.1.1) (h.1.2) ((P_take (nI 1) (0, mem)).2)) nE_ok (cwV 2 hW (gV tw_657 tw_659 tv_X2_addRow tw_3 tw_660) rfl rfl rfl (by decide +kernel) ⟨Nat.le_of_ble_eq_true rfl, Nat.le_of_ble_eq_true rfl⟩) (va_recv hK hP (ci := 2) (q0 := 0) rfl rfl) hP hD hK hS hA hT rfl hl.1 rfl (Nat.le_of_ble_eq_true rfl) dX2_node_12 ⟨Nat.zero_le _, Nat.zero_le _⟩ (fun H locs hP hD hS => ?_)
  have hP : va_P D vwCl (wM om am cI cZ th tp lv dy pv pm (nI (P_row a x 32 (P_take (nI 1) (0, mem))).1) pt wy gone oR ((P_row a x 32 (P_take (nI 1) (0, mem))).2)) H := hP
  have hD : va_D A (wM om am cI cZ th tp lv dy pv pm (nI (P_row a x 32 (P_take (nI 1) (0, mem))).1) pt wy gone oR ((P_row a x 32 (P_take (nI 1) (0, mem))).2)) := hD
  refine lv_aload_n hx hb dX2_node_15 rfl (lv_at hl 0 rfl) ?_
  refine lv_aload_n hx hb dX2_node_16 rfl (lv_at hl 3 rfl) ?_
  refine lv_iload hx hb dX2_node_17 (lv_at hl 4 rfl) ?_
  refine mv_callV (C := RX2) (As := [.ref (am b), .int (nI y)]) (rest := []) ⟨hx, hb, hml, hown, hW⟩ (n_addRow ((P_row a x 32 (P_take (nI 1) (0, mem))).1) b y (by rw [e2]; decide) (h.2.1) (h.2.2) ((P_row a x 32 (P_take (nI 1) (0, mem))).2)) nE_ok (cwV 2 hW (gV tw_657 tw_659 tv_X2_addRow tw_3 tw_660) rfl rfl rfl (by decide +kernel) ⟨Nat.le_of_ble_eq_true rfl, Nat.le_of_ble_eq_true rfl⟩) (va_recv hK hP (ci := 2) (q0 := 0) rfl rfl) hP hD hK hS hA hT rfl hl.1 rfl (Nat.le_of_ble_eq_true rfl) dX2_node_19 ⟨Nat.zero_le _, Nat.zero_le _⟩ (fun H locs hP hD hS => ?_)
  have hP : va_P D vwCl (wM om am cI cZ th tp lv dy pv pm (nI (P_row b y 32 (P_row a x 32 (P_take (nI 1) (0, mem)))).1) pt wy gone oR ((P_row b y 32 (P_row a x 32 (P_take (nI 1) (0, mem)))).2)) H := hP
  have hD : va_D A (wM om am cI cZ th tp lv dy pv pm (nI (P_row b y 32 (P_row a x 32 (P_take (nI 1) (0, mem)))).1) pt wy gone oR ((P_row b y 32 (P_row a x 32 (P_take (nI 1) (0, mem)))).2)) := hD
  refine lv_aload_n hx hb dX2_node_22 rfl (lv_at hl 0 rfl) ?_
  refine mv_callV (C := RX2) (As := []) (rest := []) ⟨hx, hb, hml, hown, hW⟩ (n_digest0 ((P_row b y 32 (P_row a x 32 (P_take (nI 1) (0, mem)))).1) (by rw [e3]; decide) ((P_row b y 32 (P_row a x 32 (P_take (nI 1) (0, mem)))).2) (fun j hj => by rw [P_row_k (by decide), P_row_k (by decide), P_take_k (by decide)]; exact hkc j hj)) nE_ok (cwV 0 hW (gV tw_617 tw_619 tv_X2_digest0 tw_3 tw_620) rfl rfl rfl (by decide +kernel) ⟨Nat.le_of_ble_eq_true rfl, Nat.le_of_ble_eq_true rfl⟩) (va_recv hK hP (ci := 2) (q0 := 0) rfl rfl) hP hD hK hS hA hT rfl hl.1 rfl (Nat.le_of_ble_eq_true rfl) dX2_node_23 ⟨Nat.zero_le _, Nat.zero_le _⟩ (fun H locs hP hD hS => ?_)
  have hP : va_P D vwCl (wM om am cI cZ th tp lv dy pv pm (nI (P_fin 2 (P_row b y 32 (P_row a x 32 (P_take (nI 1) (0, mem))))).1) pt wy gone oR ((P_fin 2 (P_row b y 32 (P_row a x 32 (P_take (nI 1) (0, mem))))).2)) H := hP
  have hD : va_D A (wM om am cI cZ th tp lv dy pv pm (nI (P_fin 2 (P_row b y 32 (P_row a x 32 (P_take (nI 1) (0, mem))))).1) pt wy gone oR ((P_fin 2 (P_row b y 32 (P_row a x 32 (P_take (nI 1) (0, mem))))).2)) := hD
  have hP : va_P D vwCl (wM om am cI cZ th tp lv dy pv pm (nI (mN a x b y mem).1) pt wy gone oR ((mN a x b y mem).2)) H := by rw [mN_e]; exact hP
  have hD : va_D A (wM om am cI cZ th tp lv dy pv pm (nI (mN a x b y mem).1) pt wy gone oR ((mN a x b y mem).2)) := by rw [mN_e]; exact hD
  exact mv_ret hx hb hr hlk hS hP hD dX2_node_26
end
