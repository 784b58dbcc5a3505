section
-- ===== PART A: goes FIRST, ahead of the names: the tables' words, and 'selects' of the private methods out of them =====
/-- a private method of a class that the tables say can be made, by its rows of tables_1 -/
def lw_okq (q : MethodName × Nat) : Prop := (q.1.cls ≠ "java/lang/invoke/MethodHandle" ∧ q.1.cls ≠ "java/lang/invoke/VarHandle") ∧ Cond.instantiable q.1.cls q.2 ∈ tables_1 ∧ Cond.privateMethod q.1 ∈ tables_1 ∧ Cond.instanceMethod q.1 ∈ tables_1
theorem lw_p0 : lw_okq (⟨"java/util/ArrayList", "add", "(Ljava/lang/Object;[Ljava/lang/Object;I)V"⟩, 3) := ⟨⟨by decide +kernel, by decide +kernel⟩, List.mem_of_getElem? (i := 88) (by decide +kernel), List.mem_of_getElem? (i := 321) (by decide +kernel), List.mem_of_getElem? (i := 322) (by decide +kernel)⟩
theorem lw_p1 : lw_okq (⟨"java/util/ArrayList", "grow", "()[Ljava/lang/Object;"⟩, 3) := ⟨⟨by decide +kernel, by decide +kernel⟩, List.mem_of_getElem? (i := 88) (by decide +kernel), List.mem_of_getElem? (i := 325) (by decide +kernel), List.mem_of_getElem? (i := 326) (by decide +kernel)⟩
theorem lw_p2 : lw_okq (⟨"java/util/ArrayList", "grow", "(I)[Ljava/lang/Object;"⟩, 3) := ⟨⟨by decide +kernel, by decide +kernel⟩, List.mem_of_getElem? (i := 88) (by decide +kernel), List.mem_of_getElem? (i := 329) (by decide +kernel), List.mem_of_getElem? (i := 330) (by decide +kernel)⟩
theorem lw_p3 : lw_okq (⟨"ChunkCode$Reader", "block", "()V"⟩, 8) := ⟨⟨by decide +kernel, by decide +kernel⟩, List.mem_of_getElem? (i := 121) (by decide +kernel), List.mem_of_getElem? (i := 518) (by decide +kernel), List.mem_of_getElem? (i := 519) (by decide +kernel)⟩
theorem lw_p4 : lw_okq (⟨"java/lang/Throwable", "fillInStackTrace", "(I)Ljava/lang/Throwable;"⟩, 6) := ⟨⟨by decide +kernel, by decide +kernel⟩, List.mem_of_getElem? (i := 580) (by decide +kernel), List.mem_of_getElem? (i := 578) (by decide +kernel), List.mem_of_getElem? (i := 579) (by decide +kernel)⟩
theorem lw_p5 : lw_okq (⟨"ChunkCode$Reader", "assignOrCall", "()V"⟩, 8) := ⟨⟨by decide +kernel, by decide +kernel⟩, List.mem_of_getElem? (i := 121) (by decide +kernel), List.mem_of_getElem? (i := 605) (by decide +kernel), List.mem_of_getElem? (i := 606) (by decide +kernel)⟩
theorem lw_p6 : lw_okq (⟨"ChunkCode$Reader", "prefix", "()I"⟩, 8) := ⟨⟨by decide +kernel, by decide +kernel⟩, List.mem_of_getElem? (i := 121) (by decide +kernel), List.mem_of_getElem? (i := 609) (by decide +kernel), List.mem_of_getElem? (i := 610) (by decide +kernel)⟩
theorem lw_p7 : lw_okq (⟨"ChunkCode$Reader", "head", "()I"⟩, 8) := ⟨⟨by decide +kernel, by decide +kernel⟩, List.mem_of_getElem? (i := 121) (by decide +kernel), List.mem_of_getElem? (i := 613) (by decide +kernel), List.mem_of_getElem? (i := 614) (by decide +kernel)⟩
theorem lw_p8 : lw_okq (⟨"ChunkCode$Reader", "nameAlone", "()I"⟩, 8) := ⟨⟨by decide +kernel, by decide +kernel⟩, List.mem_of_getElem? (i := 121) (by decide +kernel), List.mem_of_getElem? (i := 617) (by decide +kernel), List.mem_of_getElem? (i := 618) (by decide +kernel)⟩
theorem lw_p9 : lw_okq (⟨"ChunkCode$Scope", "visibleLocal", "(I)I"⟩, 10) := ⟨⟨by decide +kernel, by decide +kernel⟩, List.mem_of_getElem? (i := 129) (by decide +kernel), List.mem_of_getElem? (i := 638) (by decide +kernel), List.mem_of_getElem? (i := 639) (by decide +kernel)⟩
theorem lw_p10 : lw_okq (⟨"ChunkCode$Scope", "bringIn", "(I)I"⟩, 10) := ⟨⟨by decide +kernel, by decide +kernel⟩, List.mem_of_getElem? (i := 129) (by decide +kernel), List.mem_of_getElem? (i := 643) (by decide +kernel), List.mem_of_getElem? (i := 644) (by decide +kernel)⟩
theorem lw_p11 : lw_okq (⟨"ChunkCode$Reader", "expression", "()V"⟩, 8) := ⟨⟨by decide +kernel, by decide +kernel⟩, List.mem_of_getElem? (i := 121) (by decide +kernel), List.mem_of_getElem? (i := 656) (by decide +kernel), List.mem_of_getElem? (i := 657) (by decide +kernel)⟩
theorem lw_p12 : lw_okq (⟨"ChunkCode$Reader", "unaryOperators", "()V"⟩, 8) := ⟨⟨by decide +kernel, by decide +kernel⟩, List.mem_of_getElem? (i := 121) (by decide +kernel), List.mem_of_getElem? (i := 661) (by decide +kernel), List.mem_of_getElem? (i := 662) (by decide +kernel)⟩
theorem lw_p13 : lw_okq (⟨"ChunkCode$Reader", "functionBody", "(IZ)V"⟩, 8) := ⟨⟨by decide +kernel, by decide +kernel⟩, List.mem_of_getElem? (i := 121) (by decide +kernel), List.mem_of_getElem? (i := 669) (by decide +kernel), List.mem_of_getElem? (i := 670) (by decide +kernel)⟩
theorem lw_p14 : lw_okq (⟨"ChunkCode$Reader", "bodyNames", "(LChunkCode$Body;)V"⟩, 8) := ⟨⟨by decide +kernel, by decide +kernel⟩, List.mem_of_getElem? (i := 121) (by decide +kernel), List.mem_of_getElem? (i := 686) (by decide +kernel), List.mem_of_getElem? (i := 687) (by decide +kernel)⟩
theorem lw_p15 : lw_okq (⟨"ChunkCode$Reader", "emit", "(IIII)I"⟩, 8) := ⟨⟨by decide +kernel, by decide +kernel⟩, List.mem_of_getElem? (i := 121) (by decide +kernel), List.mem_of_getElem? (i := 691) (by decide +kernel), List.mem_of_getElem? (i := 692) (by decide +kernel)⟩
def lw_privs_1 : List (MethodName × Nat) := [(⟨"java/util/ArrayList", "add", "(Ljava/lang/Object;[Ljava/lang/Object;I)V"⟩, 3), (⟨"java/util/ArrayList", "grow", "()[Ljava/lang/Object;"⟩, 3), (⟨"java/util/ArrayList", "grow", "(I)[Ljava/lang/Object;"⟩, 3), (⟨"ChunkCode$Reader", "block", "()V"⟩, 8), (⟨"java/lang/Throwable", "fillInStackTrace", "(I)Ljava/lang/Throwable;"⟩, 6), (⟨"ChunkCode$Reader", "assignOrCall", "()V"⟩, 8), (⟨"ChunkCode$Reader", "prefix", "()I"⟩, 8), (⟨"ChunkCode$Reader", "head", "()I"⟩, 8), (⟨"ChunkCode$Reader", "nameAlone", "()I"⟩, 8), (⟨"ChunkCode$Scope", "visibleLocal", "(I)I"⟩, 10), (⟨"ChunkCode$Scope", "bringIn", "(I)I"⟩, 10), (⟨"ChunkCode$Reader", "expression", "()V"⟩, 8), (⟨"ChunkCode$Reader", "unaryOperators", "()V"⟩, 8), (⟨"ChunkCode$Reader", "functionBody", "(IZ)V"⟩, 8), (⟨"ChunkCode$Reader", "bodyNames", "(LChunkCode$Body;)V"⟩, 8), (⟨"ChunkCode$Reader", "emit", "(IIII)I"⟩, 8)]
theorem lw_r1 : ∀ q ∈ lw_privs_1, lw_okq q := List.forall_mem_cons.mpr ⟨lw_p0, List.forall_mem_cons.mpr ⟨lw_p1, List.forall_mem_cons.mpr ⟨lw_p2, List.forall_mem_cons.mpr ⟨lw_p3, List.forall_mem_cons.mpr ⟨lw_p4, List.forall_mem_cons.mpr ⟨lw_p5, List.forall_mem_cons.mpr ⟨lw_p6, List.forall_mem_cons.mpr ⟨lw_p7, List.forall_mem_cons.mpr ⟨lw_p8, List.forall_mem_cons.mpr ⟨lw_p9, List.forall_mem_cons.mpr ⟨lw_p10, List.forall_mem_cons.mpr ⟨lw_p11, List.forall_mem_cons.mpr ⟨lw_p12, List.forall_mem_cons.mpr ⟨lw_p13, List.forall_mem_cons.mpr ⟨lw_p14, List.forall_mem_cons.mpr ⟨lw_p15, fun _ h => absurd h List.not_mem_nil⟩⟩⟩⟩⟩⟩⟩⟩⟩⟩⟩⟩⟩⟩⟩⟩
theorem lw_p16 : lw_okq (⟨"ChunkCode$Jumps", "lead", "(LChunkCode$Body;II)V"⟩, 5) := ⟨⟨by decide +kernel, by decide +kernel⟩, List.mem_of_getElem? (i := 216) (by decide +kernel), List.mem_of_getElem? (i := 720) (by decide +kernel), List.mem_of_getElem? (i := 721) (by decide +kernel)⟩
theorem lw_p17 : lw_okq (⟨"ChunkCode$Jumps", "keep", "(III)V"⟩, 5) := ⟨⟨by decide +kernel, by decide +kernel⟩, List.mem_of_getElem? (i := 216) (by decide +kernel), List.mem_of_getElem? (i := 729) (by decide +kernel), List.mem_of_getElem? (i := 730) (by decide +kernel)⟩
theorem lw_p18 : lw_okq (⟨"java/util/ArrayList", "fastRemove", "([Ljava/lang/Object;I)V"⟩, 3) := ⟨⟨by decide +kernel, by decide +kernel⟩, List.mem_of_getElem? (i := 88) (by decide +kernel), List.mem_of_getElem? (i := 742) (by decide +kernel), List.mem_of_getElem? (i := 743) (by decide +kernel)⟩
theorem lw_p19 : lw_okq (⟨"ChunkCode$Reader", "table", "()V"⟩, 8) := ⟨⟨by decide +kernel, by decide +kernel⟩, List.mem_of_getElem? (i := 121) (by decide +kernel), List.mem_of_getElem? (i := 747) (by decide +kernel), List.mem_of_getElem? (i := 748) (by decide +kernel)⟩
theorem lw_p20 : lw_okq (⟨"ChunkCode$Reader", "field", "(I)I"⟩, 8) := ⟨⟨by decide +kernel, by decide +kernel⟩, List.mem_of_getElem? (i := 121) (by decide +kernel), List.mem_of_getElem? (i := 751) (by decide +kernel), List.mem_of_getElem? (i := 752) (by decide +kernel)⟩
theorem lw_p21 : lw_okq (⟨"ChunkCode$Reader", "tableEnds", "()Z"⟩, 8) := ⟨⟨by decide +kernel, by decide +kernel⟩, List.mem_of_getElem? (i := 121) (by decide +kernel), List.mem_of_getElem? (i := 759) (by decide +kernel), List.mem_of_getElem? (i := 760) (by decide +kernel)⟩
theorem lw_p22 : lw_okq (⟨"ChunkCode$Reader", "widen", "()V"⟩, 8) := ⟨⟨by decide +kernel, by decide +kernel⟩, List.mem_of_getElem? (i := 121) (by decide +kernel), List.mem_of_getElem? (i := 766) (by decide +kernel), List.mem_of_getElem? (i := 767) (by decide +kernel)⟩
theorem lw_p23 : lw_okq (⟨"ChunkCode$Reader", "lastOp", "()I"⟩, 8) := ⟨⟨by decide +kernel, by decide +kernel⟩, List.mem_of_getElem? (i := 121) (by decide +kernel), List.mem_of_getElem? (i := 770) (by decide +kernel), List.mem_of_getElem? (i := 771) (by decide +kernel)⟩
theorem lw_p24 : lw_okq (⟨"ChunkCode$Reader", "here", "()I"⟩, 8) := ⟨⟨by decide +kernel, by decide +kernel⟩, List.mem_of_getElem? (i := 121) (by decide +kernel), List.mem_of_getElem? (i := 774) (by decide +kernel), List.mem_of_getElem? (i := 775) (by decide +kernel)⟩
theorem lw_p25 : lw_okq (⟨"ChunkCode$Reader", "keepCallFlags", "(II)V"⟩, 8) := ⟨⟨by decide +kernel, by decide +kernel⟩, List.mem_of_getElem? (i := 121) (by decide +kernel), List.mem_of_getElem? (i := 780) (by decide +kernel), List.mem_of_getElem? (i := 781) (by decide +kernel)⟩
theorem lw_p26 : lw_okq (⟨"ChunkCode$Reader", "settle", "(I)V"⟩, 8) := ⟨⟨by decide +kernel, by decide +kernel⟩, List.mem_of_getElem? (i := 121) (by decide +kernel), List.mem_of_getElem? (i := 784) (by decide +kernel), List.mem_of_getElem? (i := 785) (by decide +kernel)⟩
theorem lw_p27 : lw_okq (⟨"ChunkCode$Reader", "literal", "()Z"⟩, 8) := ⟨⟨by decide +kernel, by decide +kernel⟩, List.mem_of_getElem? (i := 121) (by decide +kernel), List.mem_of_getElem? (i := 796) (by decide +kernel), List.mem_of_getElem? (i := 797) (by decide +kernel)⟩
theorem lw_p28 : lw_okq (⟨"ChunkCode$Reader", "binaryOperator", "(I)Z"⟩, 8) := ⟨⟨by decide +kernel, by decide +kernel⟩, List.mem_of_getElem? (i := 121) (by decide +kernel), List.mem_of_getElem? (i := 806) (by decide +kernel), List.mem_of_getElem? (i := 807) (by decide +kernel)⟩
theorem lw_p29 : lw_okq (⟨"ChunkCode$Reader", "reduce", "(II)V"⟩, 8) := ⟨⟨by decide +kernel, by decide +kernel⟩, List.mem_of_getElem? (i := 121) (by decide +kernel), List.mem_of_getElem? (i := 816) (by decide +kernel), List.mem_of_getElem? (i := 817) (by decide +kernel)⟩
theorem lw_p30 : lw_okq (⟨"ChunkCode$Reader", "fieldStep", "()I"⟩, 8) := ⟨⟨by decide +kernel, by decide +kernel⟩, List.mem_of_getElem? (i := 121) (by decide +kernel), List.mem_of_getElem? (i := 825) (by decide +kernel), List.mem_of_getElem? (i := 826) (by decide +kernel)⟩
theorem lw_p31 : lw_okq (⟨"ChunkCode$Reader", "arguments", "(I)V"⟩, 8) := ⟨⟨by decide +kernel, by decide +kernel⟩, List.mem_of_getElem? (i := 121) (by decide +kernel), List.mem_of_getElem? (i := 829) (by decide +kernel), List.mem_of_getElem? (i := 830) (by decide +kernel)⟩
def lw_privs_2 : List (MethodName × Nat) := [(⟨"ChunkCode$Jumps", "lead", "(LChunkCode$Body;II)V"⟩, 5), (⟨"ChunkCode$Jumps", "keep", "(III)V"⟩, 5), (⟨"java/util/ArrayList", "fastRemove", "([Ljava/lang/Object;I)V"⟩, 3), (⟨"ChunkCode$Reader", "table", "()V"⟩, 8), (⟨"ChunkCode$Reader", "field", "(I)I"⟩, 8), (⟨"ChunkCode$Reader", "tableEnds", "()Z"⟩, 8), (⟨"ChunkCode$Reader", "widen", "()V"⟩, 8), (⟨"ChunkCode$Reader", "lastOp", "()I"⟩, 8), (⟨"ChunkCode$Reader", "here", "()I"⟩, 8), (⟨"ChunkCode$Reader", "keepCallFlags", "(II)V"⟩, 8), (⟨"ChunkCode$Reader", "settle", "(I)V"⟩, 8), (⟨"ChunkCode$Reader", "literal", "()Z"⟩, 8), (⟨"ChunkCode$Reader", "binaryOperator", "(I)Z"⟩, 8), (⟨"ChunkCode$Reader", "reduce", "(II)V"⟩, 8), (⟨"ChunkCode$Reader", "fieldStep", "()I"⟩, 8), (⟨"ChunkCode$Reader", "arguments", "(I)V"⟩, 8)]
theorem lw_r2 : ∀ q ∈ lw_privs_2, lw_okq q := List.forall_mem_cons.mpr ⟨lw_p16, List.forall_mem_cons.mpr ⟨lw_p17, List.forall_mem_cons.mpr ⟨lw_p18, List.forall_mem_cons.mpr ⟨lw_p19, List.forall_mem_cons.mpr ⟨lw_p20, List.forall_mem_cons.mpr ⟨lw_p21, List.forall_mem_cons.mpr ⟨lw_p22, List.forall_mem_cons.mpr ⟨lw_p23, List.forall_mem_cons.mpr ⟨lw_p24, List.forall_mem_cons.mpr ⟨lw_p25, List.forall_mem_cons.mpr ⟨lw_p26, List.forall_mem_cons.mpr ⟨lw_p27, List.forall_mem_cons.mpr ⟨lw_p28, List.forall_mem_cons.mpr ⟨lw_p29, List.forall_mem_cons.mpr ⟨lw_p30, List.forall_mem_cons.mpr ⟨lw_p31, fun _ h => absurd h List.not_mem_nil⟩⟩⟩⟩⟩⟩⟩⟩⟩⟩⟩⟩⟩⟩⟩⟩
theorem lw_p32 : lw_okq (⟨"ChunkCode$Reader", "list", "()I"⟩, 8) := ⟨⟨by decide +kernel, by decide +kernel⟩, List.mem_of_getElem? (i := 121) (by decide +kernel), List.mem_of_getElem? (i := 833) (by decide +kernel), List.mem_of_getElem? (i := 834) (by decide +kernel)⟩
theorem lw_p33 : lw_okq (⟨"ChunkCode$Reader", "addTarget", "(I)V"⟩, 8) := ⟨⟨by decide +kernel, by decide +kernel⟩, List.mem_of_getElem? (i := 121) (by decide +kernel), List.mem_of_getElem? (i := 837) (by decide +kernel), List.mem_of_getElem? (i := 838) (by decide +kernel)⟩
theorem lw_p34 : lw_okq (⟨"ChunkCode$Reader", "refuseConstant", "(I)V"⟩, 8) := ⟨⟨by decide +kernel, by decide +kernel⟩, List.mem_of_getElem? (i := 121) (by decide +kernel), List.mem_of_getElem? (i := 841) (by decide +kernel), List.mem_of_getElem? (i := 842) (by decide +kernel)⟩
theorem lw_p35 : lw_okq (⟨"ChunkCode$Reader", "fit", "(II)V"⟩, 8) := ⟨⟨by decide +kernel, by decide +kernel⟩, List.mem_of_getElem? (i := 121) (by decide +kernel), List.mem_of_getElem? (i := 852) (by decide +kernel), List.mem_of_getElem? (i := 853) (by decide +kernel)⟩
theorem lw_p36 : lw_okq (⟨"ChunkCode$Reader", "storeTargets", "(I)V"⟩, 8) := ⟨⟨by decide +kernel, by decide +kernel⟩, List.mem_of_getElem? (i := 121) (by decide +kernel), List.mem_of_getElem? (i := 856) (by decide +kernel), List.mem_of_getElem? (i := 857) (by decide +kernel)⟩
theorem lw_p37 : lw_okq (⟨"ChunkCode$Reader", "label", "()V"⟩, 8) := ⟨⟨by decide +kernel, by decide +kernel⟩, List.mem_of_getElem? (i := 121) (by decide +kernel), List.mem_of_getElem? (i := 860) (by decide +kernel), List.mem_of_getElem? (i := 861) (by decide +kernel)⟩
theorem lw_p38 : lw_okq (⟨"ChunkCode$Reader", "breakLoop", "()V"⟩, 8) := ⟨⟨by decide +kernel, by decide +kernel⟩, List.mem_of_getElem? (i := 121) (by decide +kernel), List.mem_of_getElem? (i := 878) (by decide +kernel), List.mem_of_getElem? (i := 879) (by decide +kernel)⟩
theorem lw_p39 : lw_okq (⟨"ChunkCode$Reader", "goTo", "()V"⟩, 8) := ⟨⟨by decide +kernel, by decide +kernel⟩, List.mem_of_getElem? (i := 121) (by decide +kernel), List.mem_of_getElem? (i := 891) (by decide +kernel), List.mem_of_getElem? (i := 892) (by decide +kernel)⟩
theorem lw_p40 : lw_okq (⟨"ChunkCode$Reader", "innerBlock", "()V"⟩, 8) := ⟨⟨by decide +kernel, by decide +kernel⟩, List.mem_of_getElem? (i := 121) (by decide +kernel), List.mem_of_getElem? (i := 899) (by decide +kernel), List.mem_of_getElem? (i := 900) (by decide +kernel)⟩
theorem lw_p41 : lw_okq (⟨"ChunkCode$Reader", "whileLoop", "()V"⟩, 8) := ⟨⟨by decide +kernel, by decide +kernel⟩, List.mem_of_getElem? (i := 121) (by decide +kernel), List.mem_of_getElem? (i := 910) (by decide +kernel), List.mem_of_getElem? (i := 911) (by decide +kernel)⟩
theorem lw_p42 : lw_okq (⟨"ChunkCode$Reader", "repeatLoop", "()V"⟩, 8) := ⟨⟨by decide +kernel, by decide +kernel⟩, List.mem_of_getElem? (i := 121) (by decide +kernel), List.mem_of_getElem? (i := 923) (by decide +kernel), List.mem_of_getElem? (i := 924) (by decide +kernel)⟩
theorem lw_p43 : lw_okq (⟨"ChunkCode$Reader", "choice", "()V"⟩, 8) := ⟨⟨by decide +kernel, by decide +kernel⟩, List.mem_of_getElem? (i := 121) (by decide +kernel), List.mem_of_getElem? (i := 927) (by decide +kernel), List.mem_of_getElem? (i := 928) (by decide +kernel)⟩
theorem lw_p44 : lw_okq (⟨"ChunkCode$Reader", "condition", "()I"⟩, 8) := ⟨⟨by decide +kernel, by decide +kernel⟩, List.mem_of_getElem? (i := 121) (by decide +kernel), List.mem_of_getElem? (i := 931) (by decide +kernel), List.mem_of_getElem? (i := 932) (by decide +kernel)⟩
theorem lw_p45 : lw_okq (⟨"ChunkCode$Reader", "nextPart", "(II)I"⟩, 8) := ⟨⟨by decide +kernel, by decide +kernel⟩, List.mem_of_getElem? (i := 121) (by decide +kernel), List.mem_of_getElem? (i := 935) (by decide +kernel), List.mem_of_getElem? (i := 936) (by decide +kernel)⟩
theorem lw_p46 : lw_okq (⟨"ChunkCode$Reader", "leadChainHere", "(I)V"⟩, 8) := ⟨⟨by decide +kernel, by decide +kernel⟩, List.mem_of_getElem? (i := 121) (by decide +kernel), List.mem_of_getElem? (i := 939) (by decide +kernel), List.mem_of_getElem? (i := 940) (by decide +kernel)⟩
theorem lw_p47 : lw_okq (⟨"ChunkCode$Reader", "numberLoop", "()V"⟩, 8) := ⟨⟨by decide +kernel, by decide +kernel⟩, List.mem_of_getElem? (i := 121) (by decide +kernel), List.mem_of_getElem? (i := 943) (by decide +kernel), List.mem_of_getElem? (i := 944) (by decide +kernel)⟩
def lw_privs_3 : List (MethodName × Nat) := [(⟨"ChunkCode$Reader", "list", "()I"⟩, 8), (⟨"ChunkCode$Reader", "addTarget", "(I)V"⟩, 8), (⟨"ChunkCode$Reader", "refuseConstant", "(I)V"⟩, 8), (⟨"ChunkCode$Reader", "fit", "(II)V"⟩, 8), (⟨"ChunkCode$Reader", "storeTargets", "(I)V"⟩, 8), (⟨"ChunkCode$Reader", "label", "()V"⟩, 8), (⟨"ChunkCode$Reader", "breakLoop", "()V"⟩, 8), (⟨"ChunkCode$Reader", "goTo", "()V"⟩, 8), (⟨"ChunkCode$Reader", "innerBlock", "()V"⟩, 8), (⟨"ChunkCode$Reader", "whileLoop", "()V"⟩, 8), (⟨"ChunkCode$Reader", "repeatLoop", "()V"⟩, 8), (⟨"ChunkCode$Reader", "choice", "()V"⟩, 8), (⟨"ChunkCode$Reader", "condition", "()I"⟩, 8), (⟨"ChunkCode$Reader", "nextPart", "(II)I"⟩, 8), (⟨"ChunkCode$Reader", "leadChainHere", "(I)V"⟩, 8), (⟨"ChunkCode$Reader", "numberLoop", "()V"⟩, 8)]
theorem lw_r3 : ∀ q ∈ lw_privs_3, lw_okq q := List.forall_mem_cons.mpr ⟨lw_p32, List.forall_mem_cons.mpr ⟨lw_p33, List.forall_mem_cons.mpr ⟨lw_p34, List.forall_mem_cons.mpr ⟨lw_p35, List.forall_mem_cons.mpr ⟨lw_p36, List.forall_mem_cons.mpr ⟨lw_p37, List.forall_mem_cons.mpr ⟨lw_p38, List.forall_mem_cons.mpr ⟨lw_p39, List.forall_mem_cons.mpr ⟨lw_p40, List.forall_mem_cons.mpr ⟨lw_p41, List.forall_mem_cons.mpr ⟨lw_p42, List.forall_mem_cons.mpr ⟨lw_p43, List.forall_mem_cons.mpr ⟨lw_p44, List.forall_mem_cons.mpr ⟨lw_p45, List.forall_mem_cons.mpr ⟨lw_p46, List.forall_mem_cons.mpr ⟨lw_p47, fun _ h => absurd h List.not_mem_nil⟩⟩⟩⟩⟩⟩⟩⟩⟩⟩⟩⟩⟩⟩⟩⟩
theorem lw_p48 : lw_okq (⟨"ChunkCode$Reader", "numberLoopValues", "()V"⟩, 8) := ⟨⟨by decide +kernel, by decide +kernel⟩, List.mem_of_getElem? (i := 121) (by decide +kernel), List.mem_of_getElem? (i := 947) (by decide +kernel), List.mem_of_getElem? (i := 948) (by decide +kernel)⟩
theorem lw_p49 : lw_okq (⟨"ChunkCode$Reader", "openHidden", "(III)I"⟩, 8) := ⟨⟨by decide +kernel, by decide +kernel⟩, List.mem_of_getElem? (i := 121) (by decide +kernel), List.mem_of_getElem? (i := 951) (by decide +kernel), List.mem_of_getElem? (i := 952) (by decide +kernel)⟩
theorem lw_p50 : lw_okq (⟨"ChunkCode$Reader", "loopBlock", "(II)V"⟩, 8) := ⟨⟨by decide +kernel, by decide +kernel⟩, List.mem_of_getElem? (i := 121) (by decide +kernel), List.mem_of_getElem? (i := 960) (by decide +kernel), List.mem_of_getElem? (i := 961) (by decide +kernel)⟩
theorem lw_p51 : lw_okq (⟨"ChunkCode$Reader", "closeHidden", "()V"⟩, 8) := ⟨⟨by decide +kernel, by decide +kernel⟩, List.mem_of_getElem? (i := 121) (by decide +kernel), List.mem_of_getElem? (i := 964) (by decide +kernel), List.mem_of_getElem? (i := 965) (by decide +kernel)⟩
theorem lw_p52 : lw_okq (⟨"ChunkCode$Reader", "listLoop", "()V"⟩, 8) := ⟨⟨by decide +kernel, by decide +kernel⟩, List.mem_of_getElem? (i := 121) (by decide +kernel), List.mem_of_getElem? (i := 968) (by decide +kernel), List.mem_of_getElem? (i := 969) (by decide +kernel)⟩
theorem lw_p53 : lw_okq (⟨"ChunkCode$Reader", "functionStatement", "()V"⟩, 8) := ⟨⟨by decide +kernel, by decide +kernel⟩, List.mem_of_getElem? (i := 121) (by decide +kernel), List.mem_of_getElem? (i := 972) (by decide +kernel), List.mem_of_getElem? (i := 973) (by decide +kernel)⟩
theorem lw_p54 : lw_okq (⟨"ChunkCode$Reader", "localFunction", "()V"⟩, 8) := ⟨⟨by decide +kernel, by decide +kernel⟩, List.mem_of_getElem? (i := 121) (by decide +kernel), List.mem_of_getElem? (i := 976) (by decide +kernel), List.mem_of_getElem? (i := 977) (by decide +kernel)⟩
theorem lw_p55 : lw_okq (⟨"ChunkCode$Reader", "localNames", "()V"⟩, 8) := ⟨⟨by decide +kernel, by decide +kernel⟩, List.mem_of_getElem? (i := 121) (by decide +kernel), List.mem_of_getElem? (i := 980) (by decide +kernel), List.mem_of_getElem? (i := 981) (by decide +kernel)⟩
theorem lw_p56 : lw_okq (⟨"ChunkCode$Reader", "attribute", "(Z)Z"⟩, 8) := ⟨⟨by decide +kernel, by decide +kernel⟩, List.mem_of_getElem? (i := 121) (by decide +kernel), List.mem_of_getElem? (i := 984) (by decide +kernel), List.mem_of_getElem? (i := 985) (by decide +kernel)⟩
theorem lw_p57 : lw_okq (⟨"ChunkCode$Reader", "returnValues", "()V"⟩, 8) := ⟨⟨by decide +kernel, by decide +kernel⟩, List.mem_of_getElem? (i := 121) (by decide +kernel), List.mem_of_getElem? (i := 992) (by decide +kernel), List.mem_of_getElem? (i := 993) (by decide +kernel)⟩
theorem lw_p58 : lw_okq (⟨"ChunkCode$Audit", "flawedOf", "(LChunkCode$Body;)I"⟩, 1) := ⟨⟨by decide +kernel, by decide +kernel⟩, List.mem_of_getElem? (i := 297) (by decide +kernel), List.mem_of_getElem? (i := 1074) (by decide +kernel), List.mem_of_getElem? (i := 1075) (by decide +kernel)⟩
theorem lw_p59 : lw_okq (⟨"ChunkCode$Audit", "meansNothing", "(LChunkCode$Body;I)Z"⟩, 1) := ⟨⟨by decide +kernel, by decide +kernel⟩, List.mem_of_getElem? (i := 297) (by decide +kernel), List.mem_of_getElem? (i := 1081) (by decide +kernel), List.mem_of_getElem? (i := 1082) (by decide +kernel)⟩
theorem lw_p60 : lw_okq (⟨"ChunkCode$Audit", "isNotIn", "(LChunkCode$Body;I)Z"⟩, 1) := ⟨⟨by decide +kernel, by decide +kernel⟩, List.mem_of_getElem? (i := 297) (by decide +kernel), List.mem_of_getElem? (i := 1089) (by decide +kernel), List.mem_of_getElem? (i := 1090) (by decide +kernel)⟩
theorem lw_p61 : lw_okq (⟨"ChunkCodeModel", "begin", "()V"⟩, 77) := ⟨⟨by decide +kernel, by decide +kernel⟩, List.mem_of_getElem? (i := 1093) (by decide +kernel), List.mem_of_getElem? (i := 1342) (by decide +kernel), List.mem_of_getElem? (i := 1343) (by decide +kernel)⟩
theorem lw_p62 : lw_okq (⟨"ChunkCodeModel", "beginBlock", "(Z)V"⟩, 77) := ⟨⟨by decide +kernel, by decide +kernel⟩, List.mem_of_getElem? (i := 1093) (by decide +kernel), List.mem_of_getElem? (i := 1346) (by decide +kernel), List.mem_of_getElem? (i := 1347) (by decide +kernel)⟩
theorem lw_p63 : lw_okq (⟨"ChunkCodeModel", "expectBlock", "()V"⟩, 77) := ⟨⟨by decide +kernel, by decide +kernel⟩, List.mem_of_getElem? (i := 1093) (by decide +kernel), List.mem_of_getElem? (i := 1350) (by decide +kernel), List.mem_of_getElem? (i := 1351) (by decide +kernel)⟩
def lw_privs_4 : List (MethodName × Nat) := [(⟨"ChunkCode$Reader", "numberLoopValues", "()V"⟩, 8), (⟨"ChunkCode$Reader", "openHidden", "(III)I"⟩, 8), (⟨"ChunkCode$Reader", "loopBlock", "(II)V"⟩, 8), (⟨"ChunkCode$Reader", "closeHidden", "()V"⟩, 8), (⟨"ChunkCode$Reader", "listLoop", "()V"⟩, 8), (⟨"ChunkCode$Reader", "functionStatement", "()V"⟩, 8), (⟨"ChunkCode$Reader", "localFunction", "()V"⟩, 8), (⟨"ChunkCode$Reader", "localNames", "()V"⟩, 8), (⟨"ChunkCode$Reader", "attribute", "(Z)Z"⟩, 8), (⟨"ChunkCode$Reader", "returnValues", "()V"⟩, 8), (⟨"ChunkCode$Audit", "flawedOf", "(LChunkCode$Body;)I"⟩, 1), (⟨"ChunkCode$Audit", "meansNothing", "(LChunkCode$Body;I)Z"⟩, 1), (⟨"ChunkCode$Audit", "isNotIn", "(LChunkCode$Body;I)Z"⟩, 1), (⟨"ChunkCodeModel", "begin", "()V"⟩, 77), (⟨"ChunkCodeModel", "beginBlock", "(Z)V"⟩, 77), (⟨"ChunkCodeModel", "expectBlock", "()V"⟩, 77)]
theorem lw_r4 : ∀ q ∈ lw_privs_4, lw_okq q := List.forall_mem_cons.mpr ⟨lw_p48, List.forall_mem_cons.mpr ⟨lw_p49, List.forall_mem_cons.mpr ⟨lw_p50, List.forall_mem_cons.mpr ⟨lw_p51, List.forall_mem_cons.mpr ⟨lw_p52, List.forall_mem_cons.mpr ⟨lw_p53, List.forall_mem_cons.mpr ⟨lw_p54, List.forall_mem_cons.mpr ⟨lw_p55, List.forall_mem_cons.mpr ⟨lw_p56, List.forall_mem_cons.mpr ⟨lw_p57, List.forall_mem_cons.mpr ⟨lw_p58, List.forall_mem_cons.mpr ⟨lw_p59, List.forall_mem_cons.mpr ⟨lw_p60, List.forall_mem_cons.mpr ⟨lw_p61, List.forall_mem_cons.mpr ⟨lw_p62, List.forall_mem_cons.mpr ⟨lw_p63, fun _ h => absurd h List.not_mem_nil⟩⟩⟩⟩⟩⟩⟩⟩⟩⟩⟩⟩⟩⟩⟩⟩
theorem lw_p64 : lw_okq (⟨"ChunkCodeModel", "pile", "(IIII)V"⟩, 77) := ⟨⟨by decide +kernel, by decide +kernel⟩, List.mem_of_getElem? (i := 1093) (by decide +kernel), List.mem_of_getElem? (i := 1354) (by decide +kernel), List.mem_of_getElem? (i := 1355) (by decide +kernel)⟩
theorem lw_p65 : lw_okq (⟨"ChunkCodeModel", "run", "(IIII)V"⟩, 77) := ⟨⟨by decide +kernel, by decide +kernel⟩, List.mem_of_getElem? (i := 1093) (by decide +kernel), List.mem_of_getElem? (i := 1358) (by decide +kernel), List.mem_of_getElem? (i := 1359) (by decide +kernel)⟩
theorem lw_p66 : lw_okq (⟨"ChunkCodeModel", "runValue", "(III)V"⟩, 77) := ⟨⟨by decide +kernel, by decide +kernel⟩, List.mem_of_getElem? (i := 1093) (by decide +kernel), List.mem_of_getElem? (i := 1362) (by decide +kernel), List.mem_of_getElem? (i := 1363) (by decide +kernel)⟩
theorem lw_p67 : lw_okq (⟨"ChunkCodeModel", "expression", "(I)V"⟩, 77) := ⟨⟨by decide +kernel, by decide +kernel⟩, List.mem_of_getElem? (i := 1093) (by decide +kernel), List.mem_of_getElem? (i := 1366) (by decide +kernel), List.mem_of_getElem? (i := 1367) (by decide +kernel)⟩
theorem lw_p68 : lw_okq (⟨"ChunkCodeModel", "next", "()I"⟩, 77) := ⟨⟨by decide +kernel, by decide +kernel⟩, List.mem_of_getElem? (i := 1093) (by decide +kernel), List.mem_of_getElem? (i := 1370) (by decide +kernel), List.mem_of_getElem? (i := 1371) (by decide +kernel)⟩
theorem lw_p69 : lw_okq (⟨"ChunkCodeModel", "kindAt", "(I)I"⟩, 77) := ⟨⟨by decide +kernel, by decide +kernel⟩, List.mem_of_getElem? (i := 1093) (by decide +kernel), List.mem_of_getElem? (i := 1374) (by decide +kernel), List.mem_of_getElem? (i := 1375) (by decide +kernel)⟩
theorem lw_p70 : lw_okq (⟨"ChunkCodeModel", "expect", "(I)V"⟩, 77) := ⟨⟨by decide +kernel, by decide +kernel⟩, List.mem_of_getElem? (i := 1093) (by decide +kernel), List.mem_of_getElem? (i := 1381) (by decide +kernel), List.mem_of_getElem? (i := 1382) (by decide +kernel)⟩
theorem lw_p71 : lw_okq (⟨"ChunkCodeModel", "simple", "(I)V"⟩, 77) := ⟨⟨by decide +kernel, by decide +kernel⟩, List.mem_of_getElem? (i := 1093) (by decide +kernel), List.mem_of_getElem? (i := 1385) (by decide +kernel), List.mem_of_getElem? (i := 1386) (by decide +kernel)⟩
theorem lw_p72 : lw_okq (⟨"ChunkCodeModel", "constant", "(II)V"⟩, 77) := ⟨⟨by decide +kernel, by decide +kernel⟩, List.mem_of_getElem? (i := 1093) (by decide +kernel), List.mem_of_getElem? (i := 1389) (by decide +kernel), List.mem_of_getElem? (i := 1390) (by decide +kernel)⟩
theorem lw_p73 : lw_okq (⟨"ChunkCodeModel", "put", "(IIII)I"⟩, 77) := ⟨⟨by decide +kernel, by decide +kernel⟩, List.mem_of_getElem? (i := 1093) (by decide +kernel), List.mem_of_getElem? (i := 1393) (by decide +kernel), List.mem_of_getElem? (i := 1394) (by decide +kernel)⟩
theorem lw_p74 : lw_okq (⟨"ChunkCodeModel", "value", "(III)V"⟩, 77) := ⟨⟨by decide +kernel, by decide +kernel⟩, List.mem_of_getElem? (i := 1093) (by decide +kernel), List.mem_of_getElem? (i := 1397) (by decide +kernel), List.mem_of_getElem? (i := 1398) (by decide +kernel)⟩
theorem lw_p75 : lw_okq (⟨"ChunkCodeModel", "failName", "(II)V"⟩, 77) := ⟨⟨by decide +kernel, by decide +kernel⟩, List.mem_of_getElem? (i := 1093) (by decide +kernel), List.mem_of_getElem? (i := 1401) (by decide +kernel), List.mem_of_getElem? (i := 1402) (by decide +kernel)⟩
theorem lw_p76 : lw_okq (⟨"ChunkCodeModel", "table", "()V"⟩, 77) := ⟨⟨by decide +kernel, by decide +kernel⟩, List.mem_of_getElem? (i := 1093) (by decide +kernel), List.mem_of_getElem? (i := 1405) (by decide +kernel), List.mem_of_getElem? (i := 1406) (by decide +kernel)⟩
theorem lw_p77 : lw_okq (⟨"ChunkCodeModel", "enter", "(I)Z"⟩, 77) := ⟨⟨by decide +kernel, by decide +kernel⟩, List.mem_of_getElem? (i := 1093) (by decide +kernel), List.mem_of_getElem? (i := 1409) (by decide +kernel), List.mem_of_getElem? (i := 1410) (by decide +kernel)⟩
theorem lw_p78 : lw_okq (⟨"ChunkCodeModel", "fail", "(I)Z"⟩, 77) := ⟨⟨by decide +kernel, by decide +kernel⟩, List.mem_of_getElem? (i := 1093) (by decide +kernel), List.mem_of_getElem? (i := 1413) (by decide +kernel), List.mem_of_getElem? (i := 1414) (by decide +kernel)⟩
theorem lw_p79 : lw_okq (⟨"ChunkCodeModel", "body", "(ZI)V"⟩, 77) := ⟨⟨by decide +kernel, by decide +kernel⟩, List.mem_of_getElem? (i := 1093) (by decide +kernel), List.mem_of_getElem? (i := 1417) (by decide +kernel), List.mem_of_getElem? (i := 1418) (by decide +kernel)⟩
def lw_privs_5 : List (MethodName × Nat) := [(⟨"ChunkCodeModel", "pile", "(IIII)V"⟩, 77), (⟨"ChunkCodeModel", "run", "(IIII)V"⟩, 77), (⟨"ChunkCodeModel", "runValue", "(III)V"⟩, 77), (⟨"ChunkCodeModel", "expression", "(I)V"⟩, 77), (⟨"ChunkCodeModel", "next", "()I"⟩, 77), (⟨"ChunkCodeModel", "kindAt", "(I)I"⟩, 77), (⟨"ChunkCodeModel", "expect", "(I)V"⟩, 77), (⟨"ChunkCodeModel", "simple", "(I)V"⟩, 77), (⟨"ChunkCodeModel", "constant", "(II)V"⟩, 77), (⟨"ChunkCodeModel", "put", "(IIII)I"⟩, 77), (⟨"ChunkCodeModel", "value", "(III)V"⟩, 77), (⟨"ChunkCodeModel", "failName", "(II)V"⟩, 77), (⟨"ChunkCodeModel", "table", "()V"⟩, 77), (⟨"ChunkCodeModel", "enter", "(I)Z"⟩, 77), (⟨"ChunkCodeModel", "fail", "(I)Z"⟩, 77), (⟨"ChunkCodeModel", "body", "(ZI)V"⟩, 77)]
theorem lw_r5 : ∀ q ∈ lw_privs_5, lw_okq q := List.forall_mem_cons.mpr ⟨lw_p64, List.forall_mem_cons.mpr ⟨lw_p65, List.forall_mem_cons.mpr ⟨lw_p66, List.forall_mem_cons.mpr ⟨lw_p67, List.forall_mem_cons.mpr ⟨lw_p68, List.forall_mem_cons.mpr ⟨lw_p69, List.forall_mem_cons.mpr ⟨lw_p70, List.forall_mem_cons.mpr ⟨lw_p71, List.forall_mem_cons.mpr ⟨lw_p72, List.forall_mem_cons.mpr ⟨lw_p73, List.forall_mem_cons.mpr ⟨lw_p74, List.forall_mem_cons.mpr ⟨lw_p75, List.forall_mem_cons.mpr ⟨lw_p76, List.forall_mem_cons.mpr ⟨lw_p77, List.forall_mem_cons.mpr ⟨lw_p78, List.forall_mem_cons.mpr ⟨lw_p79, fun _ h => absurd h List.not_mem_nil⟩⟩⟩⟩⟩⟩⟩⟩⟩⟩⟩⟩⟩⟩⟩⟩
theorem lw_p80 : lw_okq (⟨"ChunkCodeModel", "declare", "(IZZI)V"⟩, 77) := ⟨⟨by decide +kernel, by decide +kernel⟩, List.mem_of_getElem? (i := 1093) (by decide +kernel), List.mem_of_getElem? (i := 1421) (by decide +kernel), List.mem_of_getElem? (i := 1422) (by decide +kernel)⟩
theorem lw_p81 : lw_okq (⟨"ChunkCodeModel", "count", "()I"⟩, 77) := ⟨⟨by decide +kernel, by decide +kernel⟩, List.mem_of_getElem? (i := 1093) (by decide +kernel), List.mem_of_getElem? (i := 1425) (by decide +kernel), List.mem_of_getElem? (i := 1426) (by decide +kernel)⟩
theorem lw_p82 : lw_okq (⟨"ChunkCodeModel", "parameters", "(I)Z"⟩, 77) := ⟨⟨by decide +kernel, by decide +kernel⟩, List.mem_of_getElem? (i := 1093) (by decide +kernel), List.mem_of_getElem? (i := 1429) (by decide +kernel), List.mem_of_getElem? (i := 1430) (by decide +kernel)⟩
theorem lw_p83 : lw_okq (⟨"ChunkCodeModel", "leave", "(I)Z"⟩, 77) := ⟨⟨by decide +kernel, by decide +kernel⟩, List.mem_of_getElem? (i := 1093) (by decide +kernel), List.mem_of_getElem? (i := 1433) (by decide +kernel), List.mem_of_getElem? (i := 1434) (by decide +kernel)⟩
theorem lw_p84 : lw_okq (⟨"ChunkCodeModel", "take", "(I)Z"⟩, 77) := ⟨⟨by decide +kernel, by decide +kernel⟩, List.mem_of_getElem? (i := 1093) (by decide +kernel), List.mem_of_getElem? (i := 1437) (by decide +kernel), List.mem_of_getElem? (i := 1438) (by decide +kernel)⟩
theorem lw_p85 : lw_okq (⟨"ChunkCodeModel", "primary", "()V"⟩, 77) := ⟨⟨by decide +kernel, by decide +kernel⟩, List.mem_of_getElem? (i := 1093) (by decide +kernel), List.mem_of_getElem? (i := 1441) (by decide +kernel), List.mem_of_getElem? (i := 1442) (by decide +kernel)⟩
theorem lw_p86 : lw_okq (⟨"ChunkCodeModel", "binary", "(I)V"⟩, 77) := ⟨⟨by decide +kernel, by decide +kernel⟩, List.mem_of_getElem? (i := 1093) (by decide +kernel), List.mem_of_getElem? (i := 1445) (by decide +kernel), List.mem_of_getElem? (i := 1446) (by decide +kernel)⟩
theorem lw_p87 : lw_okq (⟨"ChunkCodeModel", "load", "()V"⟩, 77) := ⟨⟨by decide +kernel, by decide +kernel⟩, List.mem_of_getElem? (i := 1093) (by decide +kernel), List.mem_of_getElem? (i := 1452) (by decide +kernel), List.mem_of_getElem? (i := 1453) (by decide +kernel)⟩
theorem lw_p88 : lw_okq (⟨"ChunkCodeModel", "resolve", "(I)I"⟩, 77) := ⟨⟨by decide +kernel, by decide +kernel⟩, List.mem_of_getElem? (i := 1093) (by decide +kernel), List.mem_of_getElem? (i := 1456) (by decide +kernel), List.mem_of_getElem? (i := 1457) (by decide +kernel)⟩
theorem lw_p89 : lw_okq (⟨"ChunkCodeModel", "find", "(I)I"⟩, 77) := ⟨⟨by decide +kernel, by decide +kernel⟩, List.mem_of_getElem? (i := 1093) (by decide +kernel), List.mem_of_getElem? (i := 1460) (by decide +kernel), List.mem_of_getElem? (i := 1461) (by decide +kernel)⟩
theorem lw_p90 : lw_okq (⟨"ChunkCodeModel", "outerOf", "(IIII)I"⟩, 77) := ⟨⟨by decide +kernel, by decide +kernel⟩, List.mem_of_getElem? (i := 1093) (by decide +kernel), List.mem_of_getElem? (i := 1464) (by decide +kernel), List.mem_of_getElem? (i := 1465) (by decide +kernel)⟩
theorem lw_p91 : lw_okq (⟨"ChunkCodeModel", "loadAway", "()V"⟩, 77) := ⟨⟨by decide +kernel, by decide +kernel⟩, List.mem_of_getElem? (i := 1093) (by decide +kernel), List.mem_of_getElem? (i := 1471) (by decide +kernel), List.mem_of_getElem? (i := 1472) (by decide +kernel)⟩
theorem lw_p92 : lw_okq (⟨"ChunkCodeModel", "here", "()I"⟩, 77) := ⟨⟨by decide +kernel, by decide +kernel⟩, List.mem_of_getElem? (i := 1093) (by decide +kernel), List.mem_of_getElem? (i := 1475) (by decide +kernel), List.mem_of_getElem? (i := 1476) (by decide +kernel)⟩
theorem lw_p93 : lw_okq (⟨"ChunkCodeModel", "suffix", "()V"⟩, 77) := ⟨⟨by decide +kernel, by decide +kernel⟩, List.mem_of_getElem? (i := 1093) (by decide +kernel), List.mem_of_getElem? (i := 1479) (by decide +kernel), List.mem_of_getElem? (i := 1480) (by decide +kernel)⟩
theorem lw_p94 : lw_okq (⟨"ChunkCodeModel", "args", "(I)V"⟩, 77) := ⟨⟨by decide +kernel, by decide +kernel⟩, List.mem_of_getElem? (i := 1093) (by decide +kernel), List.mem_of_getElem? (i := 1483) (by decide +kernel), List.mem_of_getElem? (i := 1484) (by decide +kernel)⟩
theorem lw_p95 : lw_okq (⟨"ChunkCodeModel", "call", "(III)V"⟩, 77) := ⟨⟨by decide +kernel, by decide +kernel⟩, List.mem_of_getElem? (i := 1093) (by decide +kernel), List.mem_of_getElem? (i := 1487) (by decide +kernel), List.mem_of_getElem? (i := 1488) (by decide +kernel)⟩
def lw_privs_6 : List (MethodName × Nat) := [(⟨"ChunkCodeModel", "declare", "(IZZI)V"⟩, 77), (⟨"ChunkCodeModel", "count", "()I"⟩, 77), (⟨"ChunkCodeModel", "parameters", "(I)Z"⟩, 77), (⟨"ChunkCodeModel", "leave", "(I)Z"⟩, 77), (⟨"ChunkCodeModel", "take", "(I)Z"⟩, 77), (⟨"ChunkCodeModel", "primary", "()V"⟩, 77), (⟨"ChunkCodeModel", "binary", "(I)V"⟩, 77), (⟨"ChunkCodeModel", "load", "()V"⟩, 77), (⟨"ChunkCodeModel", "resolve", "(I)I"⟩, 77), (⟨"ChunkCodeModel", "find", "(I)I"⟩, 77), (⟨"ChunkCodeModel", "outerOf", "(IIII)I"⟩, 77), (⟨"ChunkCodeModel", "loadAway", "()V"⟩, 77), (⟨"ChunkCodeModel", "here", "()I"⟩, 77), (⟨"ChunkCodeModel", "suffix", "()V"⟩, 77), (⟨"ChunkCodeModel", "args", "(I)V"⟩, 77), (⟨"ChunkCodeModel", "call", "(III)V"⟩, 77)]
theorem lw_r6 : ∀ q ∈ lw_privs_6, lw_okq q := List.forall_mem_cons.mpr ⟨lw_p80, List.forall_mem_cons.mpr ⟨lw_p81, List.forall_mem_cons.mpr ⟨lw_p82, List.forall_mem_cons.mpr ⟨lw_p83, List.forall_mem_cons.mpr ⟨lw_p84, List.forall_mem_cons.mpr ⟨lw_p85, List.forall_mem_cons.mpr ⟨lw_p86, List.forall_mem_cons.mpr ⟨lw_p87, List.forall_mem_cons.mpr ⟨lw_p88, List.forall_mem_cons.mpr ⟨lw_p89, List.forall_mem_cons.mpr ⟨lw_p90, List.forall_mem_cons.mpr ⟨lw_p91, List.forall_mem_cons.mpr ⟨lw_p92, List.forall_mem_cons.mpr ⟨lw_p93, List.forall_mem_cons.mpr ⟨lw_p94, List.forall_mem_cons.mpr ⟨lw_p95, fun _ h => absurd h List.not_mem_nil⟩⟩⟩⟩⟩⟩⟩⟩⟩⟩⟩⟩⟩⟩⟩⟩
theorem lw_p96 : lw_okq (⟨"ChunkCodeModel", "expectList", "()V"⟩, 77) := ⟨⟨by decide +kernel, by decide +kernel⟩, List.mem_of_getElem? (i := 1093) (by decide +kernel), List.mem_of_getElem? (i := 1491) (by decide +kernel), List.mem_of_getElem? (i := 1492) (by decide +kernel)⟩
theorem lw_p97 : lw_okq (⟨"ChunkCodeModel", "argsEnd", "(II)V"⟩, 77) := ⟨⟨by decide +kernel, by decide +kernel⟩, List.mem_of_getElem? (i := 1093) (by decide +kernel), List.mem_of_getElem? (i := 1495) (by decide +kernel), List.mem_of_getElem? (i := 1496) (by decide +kernel)⟩
theorem lw_p98 : lw_okq (⟨"ChunkCodeModel", "isOpen", "()Z"⟩, 77) := ⟨⟨by decide +kernel, by decide +kernel⟩, List.mem_of_getElem? (i := 1093) (by decide +kernel), List.mem_of_getElem? (i := 1499) (by decide +kernel), List.mem_of_getElem? (i := 1500) (by decide +kernel)⟩
theorem lw_p99 : lw_okq (⟨"ChunkCodeModel", "openAway", "()V"⟩, 77) := ⟨⟨by decide +kernel, by decide +kernel⟩, List.mem_of_getElem? (i := 1093) (by decide +kernel), List.mem_of_getElem? (i := 1503) (by decide +kernel), List.mem_of_getElem? (i := 1504) (by decide +kernel)⟩
theorem lw_p100 : lw_okq (⟨"ChunkCodeModel", "listEnd", "(I)V"⟩, 77) := ⟨⟨by decide +kernel, by decide +kernel⟩, List.mem_of_getElem? (i := 1093) (by decide +kernel), List.mem_of_getElem? (i := 1507) (by decide +kernel), List.mem_of_getElem? (i := 1508) (by decide +kernel)⟩
theorem lw_p101 : lw_okq (⟨"ChunkCodeModel", "item", "(I)V"⟩, 77) := ⟨⟨by decide +kernel, by decide +kernel⟩, List.mem_of_getElem? (i := 1093) (by decide +kernel), List.mem_of_getElem? (i := 1511) (by decide +kernel), List.mem_of_getElem? (i := 1512) (by decide +kernel)⟩
theorem lw_p102 : lw_okq (⟨"ChunkCodeModel", "separator", "(I)V"⟩, 77) := ⟨⟨by decide +kernel, by decide +kernel⟩, List.mem_of_getElem? (i := 1093) (by decide +kernel), List.mem_of_getElem? (i := 1515) (by decide +kernel), List.mem_of_getElem? (i := 1516) (by decide +kernel)⟩
theorem lw_p103 : lw_okq (⟨"ChunkCodeModel", "placed", "(II)V"⟩, 77) := ⟨⟨by decide +kernel, by decide +kernel⟩, List.mem_of_getElem? (i := 1093) (by decide +kernel), List.mem_of_getElem? (i := 1519) (by decide +kernel), List.mem_of_getElem? (i := 1520) (by decide +kernel)⟩
theorem lw_p104 : lw_okq (⟨"ChunkCodeModel", "bodyEnd", "(I)V"⟩, 77) := ⟨⟨by decide +kernel, by decide +kernel⟩, List.mem_of_getElem? (i := 1093) (by decide +kernel), List.mem_of_getElem? (i := 1523) (by decide +kernel), List.mem_of_getElem? (i := 1524) (by decide +kernel)⟩
theorem lw_p105 : lw_okq (⟨"ChunkCodeModel", "lostGotos", "()V"⟩, 77) := ⟨⟨by decide +kernel, by decide +kernel⟩, List.mem_of_getElem? (i := 1093) (by decide +kernel), List.mem_of_getElem? (i := 1527) (by decide +kernel), List.mem_of_getElem? (i := 1528) (by decide +kernel)⟩
theorem lw_p106 : lw_okq (⟨"ChunkCodeModel", "dropBlock", "()V"⟩, 77) := ⟨⟨by decide +kernel, by decide +kernel⟩, List.mem_of_getElem? (i := 1093) (by decide +kernel), List.mem_of_getElem? (i := 1531) (by decide +kernel), List.mem_of_getElem? (i := 1532) (by decide +kernel)⟩
theorem lw_p107 : lw_okq (⟨"ChunkCodeModel", "statements", "()V"⟩, 77) := ⟨⟨by decide +kernel, by decide +kernel⟩, List.mem_of_getElem? (i := 1093) (by decide +kernel), List.mem_of_getElem? (i := 1535) (by decide +kernel), List.mem_of_getElem? (i := 1536) (by decide +kernel)⟩
theorem lw_p108 : lw_okq (⟨"ChunkCodeModel", "giveBack", "()V"⟩, 77) := ⟨⟨by decide +kernel, by decide +kernel⟩, List.mem_of_getElem? (i := 1093) (by decide +kernel), List.mem_of_getElem? (i := 1542) (by decide +kernel), List.mem_of_getElem? (i := 1543) (by decide +kernel)⟩
theorem lw_p109 : lw_okq (⟨"ChunkCodeModel", "statement", "(I)V"⟩, 77) := ⟨⟨by decide +kernel, by decide +kernel⟩, List.mem_of_getElem? (i := 1093) (by decide +kernel), List.mem_of_getElem? (i := 1546) (by decide +kernel), List.mem_of_getElem? (i := 1547) (by decide +kernel)⟩
theorem lw_p110 : lw_okq (⟨"ChunkCodeModel", "label", "(I)V"⟩, 77) := ⟨⟨by decide +kernel, by decide +kernel⟩, List.mem_of_getElem? (i := 1093) (by decide +kernel), List.mem_of_getElem? (i := 1550) (by decide +kernel), List.mem_of_getElem? (i := 1551) (by decide +kernel)⟩
theorem lw_p111 : lw_okq (⟨"ChunkCodeModel", "labelOf", "(I)I"⟩, 77) := ⟨⟨by decide +kernel, by decide +kernel⟩, List.mem_of_getElem? (i := 1093) (by decide +kernel), List.mem_of_getElem? (i := 1554) (by decide +kernel), List.mem_of_getElem? (i := 1555) (by decide +kernel)⟩
def lw_privs_7 : List (MethodName × Nat) := [(⟨"ChunkCodeModel", "expectList", "()V"⟩, 77), (⟨"ChunkCodeModel", "argsEnd", "(II)V"⟩, 77), (⟨"ChunkCodeModel", "isOpen", "()Z"⟩, 77), (⟨"ChunkCodeModel", "openAway", "()V"⟩, 77), (⟨"ChunkCodeModel", "listEnd", "(I)V"⟩, 77), (⟨"ChunkCodeModel", "item", "(I)V"⟩, 77), (⟨"ChunkCodeModel", "separator", "(I)V"⟩, 77), (⟨"ChunkCodeModel", "placed", "(II)V"⟩, 77), (⟨"ChunkCodeModel", "bodyEnd", "(I)V"⟩, 77), (⟨"ChunkCodeModel", "lostGotos", "()V"⟩, 77), (⟨"ChunkCodeModel", "dropBlock", "()V"⟩, 77), (⟨"ChunkCodeModel", "statements", "()V"⟩, 77), (⟨"ChunkCodeModel", "giveBack", "()V"⟩, 77), (⟨"ChunkCodeModel", "statement", "(I)V"⟩, 77), (⟨"ChunkCodeModel", "label", "(I)V"⟩, 77), (⟨"ChunkCodeModel", "labelOf", "(I)I"⟩, 77)]
theorem lw_r7 : ∀ q ∈ lw_privs_7, lw_okq q := List.forall_mem_cons.mpr ⟨lw_p96, List.forall_mem_cons.mpr ⟨lw_p97, List.forall_mem_cons.mpr ⟨lw_p98, List.forall_mem_cons.mpr ⟨lw_p99, List.forall_mem_cons.mpr ⟨lw_p100, List.forall_mem_cons.mpr ⟨lw_p101, List.forall_mem_cons.mpr ⟨lw_p102, List.forall_mem_cons.mpr ⟨lw_p103, List.forall_mem_cons.mpr ⟨lw_p104, List.forall_mem_cons.mpr ⟨lw_p105, List.forall_mem_cons.mpr ⟨lw_p106, List.forall_mem_cons.mpr ⟨lw_p107, List.forall_mem_cons.mpr ⟨lw_p108, List.forall_mem_cons.mpr ⟨lw_p109, List.forall_mem_cons.mpr ⟨lw_p110, List.forall_mem_cons.mpr ⟨lw_p111, fun _ h => absurd h List.not_mem_nil⟩⟩⟩⟩⟩⟩⟩⟩⟩⟩⟩⟩⟩⟩⟩⟩
theorem lw_p112 : lw_okq (⟨"ChunkCodeModel", "isAtEnd", "()Z"⟩, 77) := ⟨⟨by decide +kernel, by decide +kernel⟩, List.mem_of_getElem? (i := 1093) (by decide +kernel), List.mem_of_getElem? (i := 1558) (by decide +kernel), List.mem_of_getElem? (i := 1559) (by decide +kernel)⟩
theorem lw_p113 : lw_okq (⟨"ChunkCodeModel", "before", "()I"⟩, 77) := ⟨⟨by decide +kernel, by decide +kernel⟩, List.mem_of_getElem? (i := 1093) (by decide +kernel), List.mem_of_getElem? (i := 1562) (by decide +kernel), List.mem_of_getElem? (i := 1563) (by decide +kernel)⟩
theorem lw_p114 : lw_okq (⟨"ChunkCodeModel", "leaveLoop", "(I)V"⟩, 77) := ⟨⟨by decide +kernel, by decide +kernel⟩, List.mem_of_getElem? (i := 1093) (by decide +kernel), List.mem_of_getElem? (i := 1566) (by decide +kernel), List.mem_of_getElem? (i := 1567) (by decide +kernel)⟩
theorem lw_p115 : lw_okq (⟨"ChunkCodeModel", "go", "(II)V"⟩, 77) := ⟨⟨by decide +kernel, by decide +kernel⟩, List.mem_of_getElem? (i := 1093) (by decide +kernel), List.mem_of_getElem? (i := 1570) (by decide +kernel), List.mem_of_getElem? (i := 1571) (by decide +kernel)⟩
theorem lw_p116 : lw_okq (⟨"ChunkCodeModel", "loop", "(I)V"⟩, 77) := ⟨⟨by decide +kernel, by decide +kernel⟩, List.mem_of_getElem? (i := 1093) (by decide +kernel), List.mem_of_getElem? (i := 1574) (by decide +kernel), List.mem_of_getElem? (i := 1575) (by decide +kernel)⟩
theorem lw_p117 : lw_okq (⟨"ChunkCodeModel", "functionStatement", "(I)V"⟩, 77) := ⟨⟨by decide +kernel, by decide +kernel⟩, List.mem_of_getElem? (i := 1093) (by decide +kernel), List.mem_of_getElem? (i := 1578) (by decide +kernel), List.mem_of_getElem? (i := 1579) (by decide +kernel)⟩
theorem lw_p118 : lw_okq (⟨"ChunkCodeModel", "target", "(I)I"⟩, 77) := ⟨⟨by decide +kernel, by decide +kernel⟩, List.mem_of_getElem? (i := 1093) (by decide +kernel), List.mem_of_getElem? (i := 1582) (by decide +kernel), List.mem_of_getElem? (i := 1583) (by decide +kernel)⟩
theorem lw_p119 : lw_okq (⟨"ChunkCodeModel", "local", "(I)V"⟩, 77) := ⟨⟨by decide +kernel, by decide +kernel⟩, List.mem_of_getElem? (i := 1093) (by decide +kernel), List.mem_of_getElem? (i := 1586) (by decide +kernel), List.mem_of_getElem? (i := 1587) (by decide +kernel)⟩
theorem lw_p120 : lw_okq (⟨"ChunkCodeModel", "keep", "(III)V"⟩, 77) := ⟨⟨by decide +kernel, by decide +kernel⟩, List.mem_of_getElem? (i := 1093) (by decide +kernel), List.mem_of_getElem? (i := 1590) (by decide +kernel), List.mem_of_getElem? (i := 1591) (by decide +kernel)⟩
theorem lw_p121 : lw_okq (⟨"ChunkCodeModel", "nils", "(I)V"⟩, 77) := ⟨⟨by decide +kernel, by decide +kernel⟩, List.mem_of_getElem? (i := 1093) (by decide +kernel), List.mem_of_getElem? (i := 1594) (by decide +kernel), List.mem_of_getElem? (i := 1595) (by decide +kernel)⟩
theorem lw_p122 : lw_okq (⟨"ChunkCodeModel", "localEnd", "(II)V"⟩, 77) := ⟨⟨by decide +kernel, by decide +kernel⟩, List.mem_of_getElem? (i := 1093) (by decide +kernel), List.mem_of_getElem? (i := 1598) (by decide +kernel), List.mem_of_getElem? (i := 1599) (by decide +kernel)⟩
theorem lw_p123 : lw_okq (⟨"ChunkCodeModel", "endBlock", "()V"⟩, 77) := ⟨⟨by decide +kernel, by decide +kernel⟩, List.mem_of_getElem? (i := 1093) (by decide +kernel), List.mem_of_getElem? (i := 1602) (by decide +kernel), List.mem_of_getElem? (i := 1603) (by decide +kernel)⟩
theorem lw_p124 : lw_okq (⟨"ChunkCodeModel", "hasLocals", "()Z"⟩, 77) := ⟨⟨by decide +kernel, by decide +kernel⟩, List.mem_of_getElem? (i := 1093) (by decide +kernel), List.mem_of_getElem? (i := 1606) (by decide +kernel), List.mem_of_getElem? (i := 1607) (by decide +kernel)⟩
theorem lw_p125 : lw_okq (⟨"ChunkCodeModel", "whileDo", "(I)V"⟩, 77) := ⟨⟨by decide +kernel, by decide +kernel⟩, List.mem_of_getElem? (i := 1093) (by decide +kernel), List.mem_of_getElem? (i := 1610) (by decide +kernel), List.mem_of_getElem? (i := 1611) (by decide +kernel)⟩
theorem lw_p126 : lw_okq (⟨"ChunkCodeModel", "whileEnd", "(II)V"⟩, 77) := ⟨⟨by decide +kernel, by decide +kernel⟩, List.mem_of_getElem? (i := 1093) (by decide +kernel), List.mem_of_getElem? (i := 1614) (by decide +kernel), List.mem_of_getElem? (i := 1615) (by decide +kernel)⟩
theorem lw_p127 : lw_okq (⟨"ChunkCodeModel", "mendBreaks", "()V"⟩, 77) := ⟨⟨by decide +kernel, by decide +kernel⟩, List.mem_of_getElem? (i := 1093) (by decide +kernel), List.mem_of_getElem? (i := 1618) (by decide +kernel), List.mem_of_getElem? (i := 1619) (by decide +kernel)⟩
def lw_privs_8 : List (MethodName × Nat) := [(⟨"ChunkCodeModel", "isAtEnd", "()Z"⟩, 77), (⟨"ChunkCodeModel", "before", "()I"⟩, 77), (⟨"ChunkCodeModel", "leaveLoop", "(I)V"⟩, 77), (⟨"ChunkCodeModel", "go", "(II)V"⟩, 77), (⟨"ChunkCodeModel", "loop", "(I)V"⟩, 77), (⟨"ChunkCodeModel", "functionStatement", "(I)V"⟩, 77), (⟨"ChunkCodeModel", "target", "(I)I"⟩, 77), (⟨"ChunkCodeModel", "local", "(I)V"⟩, 77), (⟨"ChunkCodeModel", "keep", "(III)V"⟩, 77), (⟨"ChunkCodeModel", "nils", "(I)V"⟩, 77), (⟨"ChunkCodeModel", "localEnd", "(II)V"⟩, 77), (⟨"ChunkCodeModel", "endBlock", "()V"⟩, 77), (⟨"ChunkCodeModel", "hasLocals", "()Z"⟩, 77), (⟨"ChunkCodeModel", "whileDo", "(I)V"⟩, 77), (⟨"ChunkCodeModel", "whileEnd", "(II)V"⟩, 77), (⟨"ChunkCodeModel", "mendBreaks", "()V"⟩, 77)]
theorem lw_r8 : ∀ q ∈ lw_privs_8, lw_okq q := List.forall_mem_cons.mpr ⟨lw_p112, List.forall_mem_cons.mpr ⟨lw_p113, List.forall_mem_cons.mpr ⟨lw_p114, List.forall_mem_cons.mpr ⟨lw_p115, List.forall_mem_cons.mpr ⟨lw_p116, List.forall_mem_cons.mpr ⟨lw_p117, List.forall_mem_cons.mpr ⟨lw_p118, List.forall_mem_cons.mpr ⟨lw_p119, List.forall_mem_cons.mpr ⟨lw_p120, List.forall_mem_cons.mpr ⟨lw_p121, List.forall_mem_cons.mpr ⟨lw_p122, List.forall_mem_cons.mpr ⟨lw_p123, List.forall_mem_cons.mpr ⟨lw_p124, List.forall_mem_cons.mpr ⟨lw_p125, List.forall_mem_cons.mpr ⟨lw_p126, List.forall_mem_cons.mpr ⟨lw_p127, fun _ h => absurd h List.not_mem_nil⟩⟩⟩⟩⟩⟩⟩⟩⟩⟩⟩⟩⟩⟩⟩⟩
theorem lw_p128 : lw_okq (⟨"ChunkCodeModel", "repeatEnd", "(I)V"⟩, 77) := ⟨⟨by decide +kernel, by decide +kernel⟩, List.mem_of_getElem? (i := 1093) (by decide +kernel), List.mem_of_getElem? (i := 1622) (by decide +kernel), List.mem_of_getElem? (i := 1623) (by decide +kernel)⟩
theorem lw_p129 : lw_okq (⟨"ChunkCodeModel", "then", "(I)V"⟩, 77) := ⟨⟨by decide +kernel, by decide +kernel⟩, List.mem_of_getElem? (i := 1093) (by decide +kernel), List.mem_of_getElem? (i := 1626) (by decide +kernel), List.mem_of_getElem? (i := 1627) (by decide +kernel)⟩
theorem lw_p130 : lw_okq (⟨"ChunkCodeModel", "partEnd", "(II)V"⟩, 77) := ⟨⟨by decide +kernel, by decide +kernel⟩, List.mem_of_getElem? (i := 1093) (by decide +kernel), List.mem_of_getElem? (i := 1630) (by decide +kernel), List.mem_of_getElem? (i := 1631) (by decide +kernel)⟩
theorem lw_p131 : lw_okq (⟨"ChunkCodeModel", "mend", "(I)V"⟩, 77) := ⟨⟨by decide +kernel, by decide +kernel⟩, List.mem_of_getElem? (i := 1093) (by decide +kernel), List.mem_of_getElem? (i := 1634) (by decide +kernel), List.mem_of_getElem? (i := 1635) (by decide +kernel)⟩
theorem lw_p132 : lw_okq (⟨"ChunkCodeModel", "forSecond", "(I)V"⟩, 77) := ⟨⟨by decide +kernel, by decide +kernel⟩, List.mem_of_getElem? (i := 1093) (by decide +kernel), List.mem_of_getElem? (i := 1638) (by decide +kernel), List.mem_of_getElem? (i := 1639) (by decide +kernel)⟩
theorem lw_p133 : lw_okq (⟨"ChunkCodeModel", "forThird", "(I)V"⟩, 77) := ⟨⟨by decide +kernel, by decide +kernel⟩, List.mem_of_getElem? (i := 1093) (by decide +kernel), List.mem_of_getElem? (i := 1642) (by decide +kernel), List.mem_of_getElem? (i := 1643) (by decide +kernel)⟩
theorem lw_p134 : lw_okq (⟨"ChunkCodeModel", "forNumbers", "(I)V"⟩, 77) := ⟨⟨by decide +kernel, by decide +kernel⟩, List.mem_of_getElem? (i := 1093) (by decide +kernel), List.mem_of_getElem? (i := 1646) (by decide +kernel), List.mem_of_getElem? (i := 1647) (by decide +kernel)⟩
theorem lw_p135 : lw_okq (⟨"ChunkCodeModel", "hide", "(IZI)V"⟩, 77) := ⟨⟨by decide +kernel, by decide +kernel⟩, List.mem_of_getElem? (i := 1093) (by decide +kernel), List.mem_of_getElem? (i := 1650) (by decide +kernel), List.mem_of_getElem? (i := 1651) (by decide +kernel)⟩
theorem lw_p136 : lw_okq (⟨"ChunkCodeModel", "forNumbersEnd", "(III)V"⟩, 77) := ⟨⟨by decide +kernel, by decide +kernel⟩, List.mem_of_getElem? (i := 1093) (by decide +kernel), List.mem_of_getElem? (i := 1654) (by decide +kernel), List.mem_of_getElem? (i := 1655) (by decide +kernel)⟩
theorem lw_p137 : lw_okq (⟨"ChunkCodeModel", "unhide", "(I)V"⟩, 77) := ⟨⟨by decide +kernel, by decide +kernel⟩, List.mem_of_getElem? (i := 1093) (by decide +kernel), List.mem_of_getElem? (i := 1658) (by decide +kernel), List.mem_of_getElem? (i := 1659) (by decide +kernel)⟩
theorem lw_p138 : lw_okq (⟨"ChunkCodeModel", "each", "(III)V"⟩, 77) := ⟨⟨by decide +kernel, by decide +kernel⟩, List.mem_of_getElem? (i := 1093) (by decide +kernel), List.mem_of_getElem? (i := 1662) (by decide +kernel), List.mem_of_getElem? (i := 1663) (by decide +kernel)⟩
theorem lw_p139 : lw_okq (⟨"ChunkCodeModel", "adjust", "(II)V"⟩, 77) := ⟨⟨by decide +kernel, by decide +kernel⟩, List.mem_of_getElem? (i := 1093) (by decide +kernel), List.mem_of_getElem? (i := 1666) (by decide +kernel), List.mem_of_getElem? (i := 1667) (by decide +kernel)⟩
theorem lw_p140 : lw_okq (⟨"ChunkCodeModel", "eachEnd", "(III)V"⟩, 77) := ⟨⟨by decide +kernel, by decide +kernel⟩, List.mem_of_getElem? (i := 1093) (by decide +kernel), List.mem_of_getElem? (i := 1670) (by decide +kernel), List.mem_of_getElem? (i := 1671) (by decide +kernel)⟩
theorem lw_p141 : lw_okq (⟨"ChunkCodeModel", "functionEnd", "(III)V"⟩, 77) := ⟨⟨by decide +kernel, by decide +kernel⟩, List.mem_of_getElem? (i := 1093) (by decide +kernel), List.mem_of_getElem? (i := 1674) (by decide +kernel), List.mem_of_getElem? (i := 1675) (by decide +kernel)⟩
theorem lw_p142 : lw_okq (⟨"ChunkCodeModel", "given", "(I)V"⟩, 77) := ⟨⟨by decide +kernel, by decide +kernel⟩, List.mem_of_getElem? (i := 1093) (by decide +kernel), List.mem_of_getElem? (i := 1678) (by decide +kernel), List.mem_of_getElem? (i := 1679) (by decide +kernel)⟩
theorem lw_p143 : lw_okq (⟨"ChunkCodeModel", "mayTail", "()Z"⟩, 77) := ⟨⟨by decide +kernel, by decide +kernel⟩, List.mem_of_getElem? (i := 1093) (by decide +kernel), List.mem_of_getElem? (i := 1682) (by decide +kernel), List.mem_of_getElem? (i := 1683) (by decide +kernel)⟩
def lw_privs_9 : List (MethodName × Nat) := [(⟨"ChunkCodeModel", "repeatEnd", "(I)V"⟩, 77), (⟨"ChunkCodeModel", "then", "(I)V"⟩, 77), (⟨"ChunkCodeModel", "partEnd", "(II)V"⟩, 77), (⟨"ChunkCodeModel", "mend", "(I)V"⟩, 77), (⟨"ChunkCodeModel", "forSecond", "(I)V"⟩, 77), (⟨"ChunkCodeModel", "forThird", "(I)V"⟩, 77), (⟨"ChunkCodeModel", "forNumbers", "(I)V"⟩, 77), (⟨"ChunkCodeModel", "hide", "(IZI)V"⟩, 77), (⟨"ChunkCodeModel", "forNumbersEnd", "(III)V"⟩, 77), (⟨"ChunkCodeModel", "unhide", "(I)V"⟩, 77), (⟨"ChunkCodeModel", "each", "(III)V"⟩, 77), (⟨"ChunkCodeModel", "adjust", "(II)V"⟩, 77), (⟨"ChunkCodeModel", "eachEnd", "(III)V"⟩, 77), (⟨"ChunkCodeModel", "functionEnd", "(III)V"⟩, 77), (⟨"ChunkCodeModel", "given", "(I)V"⟩, 77), (⟨"ChunkCodeModel", "mayTail", "()Z"⟩, 77)]
theorem lw_r9 : ∀ q ∈ lw_privs_9, lw_okq q := List.forall_mem_cons.mpr ⟨lw_p128, List.forall_mem_cons.mpr ⟨lw_p129, List.forall_mem_cons.mpr ⟨lw_p130, List.forall_mem_cons.mpr ⟨lw_p131, List.forall_mem_cons.mpr ⟨lw_p132, List.forall_mem_cons.mpr ⟨lw_p133, List.forall_mem_cons.mpr ⟨lw_p134, List.forall_mem_cons.mpr ⟨lw_p135, List.forall_mem_cons.mpr ⟨lw_p136, List.forall_mem_cons.mpr ⟨lw_p137, List.forall_mem_cons.mpr ⟨lw_p138, List.forall_mem_cons.mpr ⟨lw_p139, List.forall_mem_cons.mpr ⟨lw_p140, List.forall_mem_cons.mpr ⟨lw_p141, List.forall_mem_cons.mpr ⟨lw_p142, List.forall_mem_cons.mpr ⟨lw_p143, fun _ h => absurd h List.not_mem_nil⟩⟩⟩⟩⟩⟩⟩⟩⟩⟩⟩⟩⟩⟩⟩⟩
theorem lw_p144 : lw_okq (⟨"ChunkCodeModel", "givenEnd", "()V"⟩, 77) := ⟨⟨by decide +kernel, by decide +kernel⟩, List.mem_of_getElem? (i := 1093) (by decide +kernel), List.mem_of_getElem? (i := 1686) (by decide +kernel), List.mem_of_getElem? (i := 1687) (by decide +kernel)⟩
theorem lw_p145 : lw_okq (⟨"ChunkCodeModel", "statementEnd", "(II)V"⟩, 77) := ⟨⟨by decide +kernel, by decide +kernel⟩, List.mem_of_getElem? (i := 1093) (by decide +kernel), List.mem_of_getElem? (i := 1690) (by decide +kernel), List.mem_of_getElem? (i := 1691) (by decide +kernel)⟩
theorem lw_p146 : lw_okq (⟨"ChunkCodeModel", "assign", "(II)V"⟩, 77) := ⟨⟨by decide +kernel, by decide +kernel⟩, List.mem_of_getElem? (i := 1093) (by decide +kernel), List.mem_of_getElem? (i := 1694) (by decide +kernel), List.mem_of_getElem? (i := 1695) (by decide +kernel)⟩
theorem lw_p147 : lw_okq (⟨"ChunkCodeModel", "sort", "()V"⟩, 77) := ⟨⟨by decide +kernel, by decide +kernel⟩, List.mem_of_getElem? (i := 1093) (by decide +kernel), List.mem_of_getElem? (i := 1698) (by decide +kernel), List.mem_of_getElem? (i := 1699) (by decide +kernel)⟩
theorem lw_p148 : lw_okq (⟨"ChunkCodeModel", "isFunction", "(I)Z"⟩, 77) := ⟨⟨by decide +kernel, by decide +kernel⟩, List.mem_of_getElem? (i := 1093) (by decide +kernel), List.mem_of_getElem? (i := 1714) (by decide +kernel), List.mem_of_getElem? (i := 1715) (by decide +kernel)⟩
theorem lw_p149 : lw_okq (⟨"ChunkCodeModel", "isRight", "(IIII)Z"⟩, 77) := ⟨⟨by decide +kernel, by decide +kernel⟩, List.mem_of_getElem? (i := 1093) (by decide +kernel), List.mem_of_getElem? (i := 1737) (by decide +kernel), List.mem_of_getElem? (i := 1738) (by decide +kernel)⟩
def lw_privs_10 : List (MethodName × Nat) := [(⟨"ChunkCodeModel", "givenEnd", "()V"⟩, 77), (⟨"ChunkCodeModel", "statementEnd", "(II)V"⟩, 77), (⟨"ChunkCodeModel", "assign", "(II)V"⟩, 77), (⟨"ChunkCodeModel", "sort", "()V"⟩, 77), (⟨"ChunkCodeModel", "isFunction", "(I)Z"⟩, 77), (⟨"ChunkCodeModel", "isRight", "(IIII)Z"⟩, 77)]
theorem lw_r10 : ∀ q ∈ lw_privs_10, lw_okq q := List.forall_mem_cons.mpr ⟨lw_p144, List.forall_mem_cons.mpr ⟨lw_p145, List.forall_mem_cons.mpr ⟨lw_p146, List.forall_mem_cons.mpr ⟨lw_p147, List.forall_mem_cons.mpr ⟨lw_p148, List.forall_mem_cons.mpr ⟨lw_p149, fun _ h => absurd h List.not_mem_nil⟩⟩⟩⟩⟩⟩
def lw_privs : List (MethodName × Nat) := lw_privs_1 ++ (lw_privs_2 ++ (lw_privs_3 ++ (lw_privs_4 ++ (lw_privs_5 ++ (lw_privs_6 ++ (lw_privs_7 ++ (lw_privs_8 ++ (lw_privs_9 ++ (lw_privs_10)))))))))
def lw_tbl : List Cond := k2_sels lw_privs ++ tables_1
theorem lw_privs_ok : ∀ q ∈ lw_privs, lw_okq q := by
  show ∀ q ∈ lw_privs_1 ++ (lw_privs_2 ++ (lw_privs_3 ++ (lw_privs_4 ++ (lw_privs_5 ++ (lw_privs_6 ++ (lw_privs_7 ++ (lw_privs_8 ++ (lw_privs_9 ++ (lw_privs_10))))))))), lw_okq q
  exact List.forall_mem_append.mpr ⟨lw_r1, List.forall_mem_append.mpr ⟨lw_r2, List.forall_mem_append.mpr ⟨lw_r3, List.forall_mem_append.mpr ⟨lw_r4, List.forall_mem_append.mpr ⟨lw_r5, List.forall_mem_append.mpr ⟨lw_r6, List.forall_mem_append.mpr ⟨lw_r7, List.forall_mem_append.mpr ⟨lw_r8, List.forall_mem_append.mpr ⟨lw_r9, lw_r10⟩⟩⟩⟩⟩⟩⟩⟩⟩
end
section
/-! THE ABSTRACT MACHINE: small instructions over a list of cells (a reference is a place in the list; .long z stands for a reference to a constant cell outside the list); n is fuel, d the frames that are left -/
abbrev am_C : Type := (Bool × Nat × (Nat → Int32)) ⊕ ((Nat × (Nat → Option Nat)) ⊕ (Nat × List Value))
abbrev am_S : Type := List am_C × Nat × Nat
abbrev am_I : Type := Nat × Nat × Nat × Nat × Int32 × Nat × List (Int32 × Nat)
abbrev am_V : Type := List (Option Value)
abbrev am_P : Type := (Nat → Nat → Option am_I) × (Nat → List Value) × (Nat → Nat) × (Nat → Nat → Option (Nat × Nat)) × (Nat × (Nat → Int32))
def am_cmp (k : Nat) (x y : Int32) : Bool := match k with
  | 0 => decide (x = y)
  | 1 => decide (¬ x = y)
  | 2 => decide (x < y)
  | 3 => decide (y ≤ x)
  | 4 => decide (y < x)
  | _ => decide (x ≤ y)
def am_bin (k : Nat) (x y : Int32) : Int32 := match k with
  | 0 => x + y
  | 1 => x - y
  | 2 => x * y
  | 3 => x &&& y
  | 4 => x ||| y
  | _ => x >>> (y &&& 31)
def am_sw (tab : List (Int32 × Nat)) (dflt : Nat) (x : Int32) : Nat := match tab with
  | [] => dflt
  | (k, t) :: r => if x = k then t else am_sw r dflt x
/-- may a field of this kind hold the value: 0 a number, 1 a reference, 2 a truth -/
def am_fit (k : Nat) (v : Value) : Bool := match k, v with
  | 0, .int _ => true
  | 1, .ref _ => true
  | 1, .null => true
  | 1, .long _ => true
  | 2, .int x => decide (x = 0 ∨ x = 1)
  | _, _ => false
/-- the instructions that neither call nor end -/
def am_do (nb : Nat → List Value) (sc : Nat × (Nat → Int32)) (op a b c : Nat) (x : Int32) (nx : Nat) (tab : List (Int32 × Nat)) (d : Nat) (ls : am_V) (st : List Value) (S : am_S) : Option (Nat × am_V × List Value × am_S) :=
  match op with
  | 0 => some (nx, ls, .int x :: st, S)
  | 1 => match ls[a]? with
    | some (some (.int v)) => some (nx, ls, .int v :: st, S)
    | _ => none
  | 2 => match ls[a]? with
    | some (some (.ref v)) => some (nx, ls, .ref v :: st, S)
    | some (some .null) => some (nx, ls, .null :: st, S)
    | some (some (.long v)) => some (nx, ls, .long v :: st, S)
    | _ => none
  | 3 => match st with
    | .int v :: r => if a < ls.length then some (nx, ls.set a (some (.int v)), r, S) else none
    | _ => none
  | 4 => match st with
    | .ref v :: r => if a < ls.length then some (nx, ls.set a (some (.ref v)), r, S) else none
    | .null :: r => if a < ls.length then some (nx, ls.set a (some .null), r, S) else none
    | .long v :: r => if a < ls.length then some (nx, ls.set a (some (.long v)), r, S) else none
    | _ => none
  | 5 => match ls[a]? with
    | some (some (.int v)) => some (nx, ls.set a (some (.int (v + x))), st, S)
    | _ => none
  | 6 => match st with
    | .int _ :: r => some (nx, ls, r, S)
    | .ref _ :: r => some (nx, ls, r, S)
    | .null :: r => some (nx, ls, r, S)
    | .long _ :: r => some (nx, ls, r, S)
    | _ => none
  | 7 => match st with
    | .int v :: r => some (nx, ls, .int v :: .int v :: r, S)
    | .ref v :: r => some (nx, ls, .ref v :: .ref v :: r, S)
    | _ => none
  | 8 => match st with
    | .int v :: .ref w :: r => some (nx, ls, .int v :: .ref w :: .int v :: .ref w :: r, S)
    | _ => none
  | 9 => match st with
    | v :: w :: r => some (nx, ls, v :: w :: v :: r, S)
    | _ => none
  | 10 => match st with
    | .int w :: .int v :: r => some (nx, ls, .int (am_bin a v w) :: r, S)
    | _ => none
  | 11 => match st with
    | .int v :: r => some (nx, ls, .int (-v) :: r, S)
    | _ => none
  | 12 => match st with
    | .int v :: r => some (if am_cmp a v 0 then b else nx, ls, r, S)
    | _ => none
  | 13 => match st with
    | .int w :: .int v :: r => some (if am_cmp a v w then b else nx, ls, r, S)
    | _ => none
  | 14 => match st with
    | .ref _ :: r => some (nx, ls, r, S)
    | .null :: r => some (b, ls, r, S)
    | _ => none
  | 15 => match st with
    | .ref _ :: r => some (b, ls, r, S)
    | .null :: r => some (nx, ls, r, S)
    | _ => none
  | 16 => match st with
    | .long z :: .long y :: r => if z = y then some (b, ls, r, S) else none
    | .long z :: .ref _ :: r => if z = 0 then some (nx, ls, r, S) else none
    | _ => none
  | 17 => match st with
    | .long z :: .long y :: r => if z = y then some (nx, ls, r, S) else none
    | _ => none
  | 18 => some (b, ls, st, S)
  | 19 => match st with
    | .int v :: r => some (am_sw tab b v, ls, r, S)
    | _ => none
  | 20 => match st with
    | .ref k :: r => match S.1[k]? with
      | some (.inr (.inr (ci, fs))) => if ci = a then match fs[b]? with
        | some v => some (nx, ls, v :: r, S)
        | none => none else none
      | _ => none
    | _ => none
  | 21 => match st with
    | v :: .ref k :: r => match S.1[k]? with
      | some (.inr (.inr (ci, fs))) => if ci = a ∧ b < fs.length ∧ am_fit (c % 4) v = true then
          some (nx, ls, r, (S.1.set k (.inr (.inr (ci, fs.set b v))), S.2.1, S.2.2)) else none
      | _ => none
    | _ => none
  | 22 => some (nx, ls, .ref S.1.length :: st, (S.1 ++ [.inr (.inr (a, nb a))], S.2.1 + 1, S.2.2 + (nb a).length))
  | 23 => match st with
    | .int v :: r => if ¬ v < 0 ∧ v.toNatClampNeg ≤ 16777216 then
        some (nx, ls, .ref S.1.length :: r, (S.1 ++ [.inl (decide (a = 1), v.toNatClampNeg, fun _ => 0)], S.2.1 + 1, S.2.2 + v.toNatClampNeg)) else none
    | _ => none
  | 24 => match st with
    | .ref k :: r => match S.1[k]? with
      | some (.inl (_, n, _)) => some (nx, ls, .int (Int32.ofNat n) :: r, S)
      | some (.inr (.inl (n, _))) => some (nx, ls, .int (Int32.ofNat n) :: r, S)
      | _ => none
    | .long z :: r => if z = 0 then some (nx, ls, .int 0 :: r, S) else if z = 2 ∧ sc.1 ≤ 2048 then some (nx, ls, .int (Int32.ofNat sc.1) :: r, S) else none
    | _ => none
  | 25 => match st with
    | .int i :: .ref k :: r => match S.1[k]? with
      | some (.inl (t, n, f)) => if decide (a = 1) = t ∧ ¬ i < 0 ∧ i.toNatClampNeg < n then some (nx, ls, .int (f i.toNatClampNeg) :: r, S) else none
      | _ => none
    | .int i :: .long z :: r => if z = 2 ∧ a = 0 ∧ ¬ i < 0 ∧ i.toNatClampNeg < sc.1 ∧ sc.1 ≤ 2048 then some (nx, ls, .int (sc.2 i.toNatClampNeg) :: r, S) else none
    | _ => none
  | 26 => match st with
    | .int v :: .int i :: .ref k :: r => match S.1[k]? with
      | some (.inl (t, n, f)) => if decide (a = 1) = t ∧ ¬ i < 0 ∧ i.toNatClampNeg < n ∧ (t = true → v = 0 ∨ v = 1) then
          some (nx, ls, r, (S.1.set k (.inl (t, n, upd f i.toNatClampNeg v)), S.2.1, S.2.2)) else none
      | _ => none
    | _ => none
  | 29 => some (nx, ls, .null :: st, S)
  | 30 => match st with
    | .ref k :: r => match S.1[k]? with
      | some (.inr (.inr (ci, _))) => if ci = a then some (nx, ls, .ref k :: r, S) else none
      | _ => none
    | _ => none
  | 31 => match st with
    | .ref _ :: r => if 1 ≤ d ∧ r.length ≤ 8 then some (nx, ls, r, S) else none
    | _ => none
  | 38 => match st with
    | .int v :: r => if ¬ v < 0 ∧ v.toNatClampNeg ≤ 16777216 then
        some (nx, ls, .ref S.1.length :: r, (S.1 ++ [.inr (.inl (v.toNatClampNeg, fun _ => none))], S.2.1 + 1, S.2.2 + v.toNatClampNeg)) else none
    | _ => none
  | 39 => match st with
    | .int i :: .ref k :: r => match S.1[k]? with
      | some (.inr (.inl (n, g))) => if ¬ i < 0 ∧ i.toNatClampNeg < n then some (nx, ls, va_rf (g i.toNatClampNeg) :: r, S) else none
      | _ => none
    | _ => none
  | 40 => match st with
    | .ref v :: .int i :: .ref k :: r => match S.1[v]?, S.1[k]? with
      | some (.inr (.inr (ci, _))), some (.inr (.inl (n, g))) => if ci = a ∧ ¬ i < 0 ∧ i.toNatClampNeg < n then
          some (nx, ls, r, (S.1.set k (.inr (.inl (n, va_up g i.toNatClampNeg (some v)))), S.2.1, S.2.2)) else none
      | _, _ => none
    | .null :: .int i :: .ref k :: r => match S.1[k]? with
      | some (.inr (.inl (n, g))) => if ¬ i < 0 ∧ i.toNatClampNeg < n then
          some (nx, ls, r, (S.1.set k (.inr (.inl (n, va_up g i.toNatClampNeg none))), S.2.1, S.2.2)) else none
      | _ => none
    | _ => none
  | 41 => match st with
    | .int n :: .int dp :: .ref k1 :: .int sp :: .ref k0 :: r => match S.1[k0]?, S.1[k1]? with
      | some (.inl (false, n0, f)), some (.inl (false, n1, g)) => if ¬ sp < 0 ∧ ¬ dp < 0 ∧ ¬ n < 0 ∧ sp.toNatClampNeg + n.toNatClampNeg ≤ n0 ∧ dp.toNatClampNeg + n.toNatClampNeg ≤ n1 ∧ 1 ≤ d ∧ r.length ≤ 8 then
          some (nx, ls, r, (S.1.set k1 (.inl (false, n1, va_cpy f g sp.toNatClampNeg dp.toNatClampNeg n.toNatClampNeg)), S.2.1, S.2.2)) else none
      | _, _ => none
    | _ => none
  | 42 => match st with
    | .int n :: .int dp :: .ref k1 :: .int sp :: .ref k0 :: r => match S.1[k0]?, S.1[k1]? with
      | some (.inr (.inl (n0, f))), some (.inr (.inl (n1, g))) => if ¬ sp < 0 ∧ ¬ dp < 0 ∧ ¬ n < 0 ∧ sp.toNatClampNeg + n.toNatClampNeg ≤ n0 ∧ dp.toNatClampNeg + n.toNatClampNeg ≤ n1 ∧ 1 ≤ d ∧ r.length ≤ 8 ∧
            (List.range n.toNatClampNeg).all (fun i => match f (sp.toNatClampNeg + i) with
              | none => true
              | some j => match S.1[j]? with
                | some (.inr (.inr (ci, _))) => decide (ci = a)
                | _ => false) = true then
          some (nx, ls, r, (S.1.set k1 (.inr (.inl (n1, va_cpy f g sp.toNatClampNeg dp.toNatClampNeg n.toNatClampNeg))), S.2.1, S.2.2)) else none
      | _, _ => none
    | _ => none
  | 43 => some (nx, ls, .long 0 :: st, S)
  | 44 => match st with
    | .ref k :: r => match S.1[k]? with
      | some (.inr (.inl _)) => if 1 ≤ d ∧ r.length ≤ 8 then some (nx, ls, .long 1 :: r, S) else none
      | _ => none
    | _ => none
  | 45 => some (nx, ls, .long 1 :: st, S)
  | _ => none
/-- what a method answers at its end: nothing, a number, a reference, a truth -/
def am_ret (op : Nat) (st : List Value) : Option (Option Value) := match op, st with
  | 33, [.int v] => some (some (.int v))
  | 34, [.ref k] => some (some (.ref k))
  | 34, [.null] => some (some .null)
  | 35, [] => some none
  | 36, [.int v] => if v = 0 ∨ v = 1 then some (some (.int v)) else none
  | _, _ => none
/-- may this be called upon: kc = 0: a static method; 1: any object; k + 2: an object of the class k -/
def am_recv (kc : Nat) (as : List Value) (S : am_S) : Bool := match kc, as with
  | 0, _ => true
  | 1, .ref _ :: _ => true
  | k + 2, .ref r :: _ => match S.1[r]? with
    | some (.inr (.inr (ci, _))) => decide (ci = k)
    | _ => false
  | _, _ => false
def am_in (as : List Value) (m : Nat) : am_V := as.map some ++ List.replicate (m - as.length) none
def am_run (P : am_P) : Nat → Nat → Nat → Nat → am_V → List Value → am_S → Option (Option (Option Value) × am_S)
  | 0, _, _, _, _, _, _ => none
  | n + 1, d, M, pc, ls, st, S => match P.1 M pc with
    | none => none
    | some (op, a, b, c, x, nx, tab) =>
      if op = 32 then
        if b ≤ st.length ∧ st.length ≤ b + 8 ∧ b ≤ P.2.2.1 a ∧ am_recv c (st.take b).reverse S = true then match d with
          | 0 => none
          | d' + 1 => match am_run P n d' a 0 (am_in (st.take b).reverse (P.2.2.1 a)) [] S with
            | none => none
            | some (some v, S') => am_run P n (d' + 1) M nx ls (v.toList ++ st.drop b) S'
            | some (none, S') => match P.2.2.2.1 M pc with
              | none => some (none, S')
              | some (h, j) => am_run P n (d' + 1) M h (ls.set j none) [] S'
        else none
      else if op = 37 then (if 12 ≤ d ∧ st.length ≤ 8 then some (none, (S.1, S.2.1 + 1, S.2.2 + 6)) else none)
      else if 33 ≤ op ∧ op ≤ 36 then match am_ret op st with
        | none => none
        | some v => some (some v, S)
      else match am_do P.2.1 P.2.2.2.2 op a b c x nx tab d ls st S with
        | none => none
        | some (pc', ls', st', S') => am_run P n d M pc' ls' st' S'
/-- more fuel, the same end -/
theorem am_more (P : am_P) : ∀ (n : Nat) (d M pc : Nat) (ls : am_V) (st : List Value) (S : am_S) (r : Option (Option Value) × am_S), am_run P n d M pc ls st S = some r → am_run P (n + 1) d M pc ls st S = some r := by
  intro n
  induction n with
  | zero => intro d M pc ls st S r h; simp [am_run] at h
  | succ n ih =>
    intro d M pc ls st S r h
    rw [am_run] at h ⊢
    cases hi : P.1 M pc with
    | none => rw [hi] at h; cases h
    | some i =>
      obtain ⟨op, a, b, c, x, nx, tab⟩ := i
      rw [hi] at h
      dsimp only at h ⊢
      by_cases h32 : op = 32
      · rw [if_pos h32] at h ⊢
        by_cases hb : b ≤ st.length ∧ st.length ≤ b + 8 ∧ b ≤ P.2.2.1 a ∧ am_recv c (st.take b).reverse S = true
        · rw [if_pos hb] at h ⊢
          cases d with
          | zero => cases h
          | succ d' =>
            dsimp only at h ⊢
            cases hc : am_run P n d' a 0 (am_in (st.take b).reverse (P.2.2.1 a)) [] S with
            | none => rw [hc] at h; cases h
            | some q =>
              rw [hc] at h
              rw [ih _ _ _ _ _ _ _ hc]
              obtain ⟨o, S'⟩ := q
              cases o with
              | some v => exact ih _ _ _ _ _ _ _ h
              | none =>
                dsimp only at h ⊢
                cases hh : P.2.2.2.1 M pc with
                | none => rw [hh] at h; exact h
                | some q => rw [hh] at h; exact ih _ _ _ _ _ _ _ h
        · rw [if_neg hb] at h; cases h
      · rw [if_neg h32] at h ⊢
        by_cases h37 : op = 37
        · rw [if_pos h37] at h ⊢; exact h
        · rw [if_neg h37] at h ⊢
          by_cases h33 : 33 ≤ op ∧ op ≤ 36
          · rw [if_pos h33] at h ⊢; exact h
          · rw [if_neg h33] at h ⊢
            cases hd : am_do P.2.1 P.2.2.2.2 op a b c x nx tab d ls st S with
            | none => rw [hd] at h; cases h
            | some q => rw [hd] at h; exact ih _ _ _ _ _ _ _ h
theorem am_le {P : am_P} {n k d M pc : Nat} {ls : am_V} {st : List Value} {S : am_S} {r : Option (Option Value) × am_S} (hk : n ≤ k) (h : am_run P n d M pc ls st S = some r) : am_run P k d M pc ls st S = some r := by
  induction hk with
  | refl => exact h
  | step _ ih => exact am_more P _ _ _ _ _ _ _ _ ih
/-- a run to its end, with fuel enough -/
def am_R (P : am_P) (d M pc : Nat) (ls : am_V) (st : List Value) (S : am_S) (o : Option (Option Value)) (S' : am_S) : Prop := ∃ n, am_run P n d M pc ls st S = some (o, S')
theorem am_R.go {P : am_P} {d M pc pc' : Nat} {ls ls' : am_V} {st st' : List Value} {S S1 S' : am_S} {o : Option (Option Value)} {op a b c nx : Nat} {x : Int32} {tab : List (Int32 × Nat)} (hi : P.1 M pc = some (op, a, b, c, x, nx, tab)) (h0 : ¬ op = 32 ∧ ¬ op = 37 ∧ ¬ (33 ≤ op ∧ op ≤ 36)) (hd : am_do P.2.1 P.2.2.2.2 op a b c x nx tab d ls st S = some (pc', ls', st', S1))
    (k : am_R P d M pc' ls' st' S1 o S') : am_R P d M pc ls st S o S' := by
  obtain ⟨n, k⟩ := k
  refine ⟨n + 1, ?_⟩
  rw [am_run, hi]
  dsimp only
  rw [if_neg h0.1, if_neg h0.2.1, if_neg h0.2.2, hd]
  exact k
theorem am_R.ret {P : am_P} {d M pc : Nat} {ls : am_V} {st : List Value} {S : am_S} {v : Option Value} {op a b c nx : Nat} {x : Int32} {tab : List (Int32 × Nat)} (hi : P.1 M pc = some (op, a, b, c, x, nx, tab)) (h0 : 33 ≤ op ∧ op ≤ 36) (hv : am_ret op st = some v) : am_R P d M pc ls st S (some v) S := by
  refine ⟨1, ?_⟩
  rw [am_run, hi]
  dsimp only
  rw [if_neg (by omega), if_neg (by omega), if_pos h0, hv]
theorem am_R.thr {P : am_P} {d M pc : Nat} {ls : am_V} {st : List Value} {S : am_S} {a b c nx : Nat} {x : Int32} {tab : List (Int32 × Nat)} (hi : P.1 M pc = some (37, a, b, c, x, nx, tab)) (h0 : 12 ≤ d ∧ st.length ≤ 8) : am_R P d M pc ls st S none (S.1, S.2.1 + 1, S.2.2 + 6) := by
  refine ⟨1, ?_⟩
  rw [am_run, hi]
  dsimp only
  rw [if_neg (by omega), if_pos rfl, if_pos h0]
/-- a call that comes back -/
theorem am_R.call {P : am_P} {d M pc : Nat} {ls : am_V} {st : List Value} {S S1 S' : am_S} {o : Option (Option Value)} {v : Option Value} {a b c nx : Nat} {x : Int32} {tab : List (Int32 × Nat)} (hi : P.1 M pc = some (32, a, b, c, x, nx, tab)) (h0 : b ≤ st.length ∧ st.length ≤ b + 8 ∧ b ≤ P.2.2.1 a ∧ am_recv c (st.take b).reverse S = true)
    (hc : am_R P d a 0 (am_in (st.take b).reverse (P.2.2.1 a)) [] S (some v) S1) (k : am_R P (d + 1) M nx ls (v.toList ++ st.drop b) S1 o S') : am_R P (d + 1) M pc ls st S o S' := by
  obtain ⟨n1, hc⟩ := hc
  obtain ⟨n2, k⟩ := k
  refine ⟨max n1 n2 + 1, ?_⟩
  rw [am_run, hi]
  dsimp only
  rw [if_pos rfl, if_pos h0, am_le (Nat.le_max_left n1 n2) hc]
  exact am_le (Nat.le_max_right n1 n2) k
/-- a call that throws, and nothing here catches it -/
theorem am_R.callX {P : am_P} {d M pc : Nat} {ls : am_V} {st : List Value} {S S1 : am_S} {a b c nx : Nat} {x : Int32} {tab : List (Int32 × Nat)} (hi : P.1 M pc = some (32, a, b, c, x, nx, tab)) (h0 : b ≤ st.length ∧ st.length ≤ b + 8 ∧ b ≤ P.2.2.1 a ∧ am_recv c (st.take b).reverse S = true)
    (hc : am_R P d a 0 (am_in (st.take b).reverse (P.2.2.1 a)) [] S none S1) (hh : P.2.2.2.1 M pc = none) : am_R P (d + 1) M pc ls st S none S1 := by
  obtain ⟨n1, hc⟩ := hc
  refine ⟨n1 + 1, ?_⟩
  rw [am_run, hi]
  dsimp only
  rw [if_pos rfl, if_pos h0, hc]
  dsimp only
  rw [hh]
/-- a call that throws, and it is caught -/
theorem am_R.callC {P : am_P} {d M pc h j : Nat} {ls : am_V} {st : List Value} {S S1 S' : am_S} {o : Option (Option Value)} {a b c nx : Nat} {x : Int32} {tab : List (Int32 × Nat)} (hi : P.1 M pc = some (32, a, b, c, x, nx, tab)) (h0 : b ≤ st.length ∧ st.length ≤ b + 8 ∧ b ≤ P.2.2.1 a ∧ am_recv c (st.take b).reverse S = true)
    (hc : am_R P d a 0 (am_in (st.take b).reverse (P.2.2.1 a)) [] S none S1) (hh : P.2.2.2.1 M pc = some (h, j)) (k : am_R P (d + 1) M h (ls.set j none) [] S1 o S') : am_R P (d + 1) M pc ls st S o S' := by
  obtain ⟨n1, hc⟩ := hc
  obtain ⟨n2, k⟩ := k
  refine ⟨max n1 n2 + 1, ?_⟩
  rw [am_run, hi]
  dsimp only
  rw [if_pos rfl, if_pos h0, am_le (Nat.le_max_left n1 n2) hc]
  dsimp only
  rw [hh]
  exact am_le (Nat.le_max_right n1 n2) k
end
section
/-! CALLS THAT MAY COME BACK OR THROW, over the library: a contract whose end may be either -/
/-- what has moved at a method's end, whichever it is -/
def am_End (first t : State) (L : List Loc) (k n : Nat) : Prop := first.WarmedH t.vm ∧ first.sameButNew ({ t with vm := first.vm } : State) L k n
def am_Q (Qc : Array Value → State → Outcome → State → Prop) (mc ms : Nat) (free : Addr → Prop) : Array Value → State → Outcome → State → Prop := fun a st o t =>
  Qc a st o t ∧ ∃ L, am_End st t L mc ms ∧ ∀ q ∈ L, free q.base
def am_Met (l : Launch) (y : MethodName) (ws : List Cond) (rm : Room) (Pc : Array Value → State → Prop) (Qc : Array Value → State → Outcome → State → Prop) (mc ms : Nat) (free : Addr → Prop) : Prop :=
  MetFree l y (headSpec ws rm) Pc (fun _ _ _ _ _ => True) (am_Q Qc mc ms free)
def am_MQ (below : List Frame) (Qc : Array Value → State → Outcome → State → Prop) (a : Array Value) (s : State) (mc ms : Nat) (free : Addr → Prop) : State → Prop := fun t =>
  ∃ o, t.status = .running ∧ Ended t below o ∧ am_Q Qc mc ms free a s o t
section AM1
variable {p : Program} {l : Launch} {e : Env} {R : Room} {s : State} {m : MethodId} {args : Array Value} {below : List Frame} {meth : Method} {c : Code} {H : Heap} {locs : List Loc} {cells slots : Nat} {Q : State → Prop}
variable {Qc : Array Value → State → Outcome → State → Prop} {mc ms : Nat} {free : Addr → Prop}
/-- an end by return is such an end -/
theorem am_MQ.of {g : JFrame} (k : W p l e R s m args below meth c H locs cells slots (MQ below Qc args s mc ms free) g) : W p l e R s m args below meth c H locs cells slots (am_MQ below Qc args s mc ms free) g := by
  intro T hT X
  obtain ⟨t, a1, o, b1, b2, b3, L, ⟨-, hW, hs⟩, hL⟩ := k T hT X
  exact ⟨t, a1, o, b1, b2, b3, L, ⟨hW, hs⟩, hL⟩
theorem am_ofW {y : MethodName} {ws ws' : List Cond} {rm : Room} {Pc : Array Value → State → Prop} {cc : ByteArray} {maxL : Nat} {ret : Option FieldType}
    (hy : plainFor y = true) (hw : ws = Cond.code y cc maxL ret :: ws')
    (body : ∀ p e s m args below meth c s₁, BodyLoose p l y (headSpec ws rm) cc maxL ret e s m args below meth c s₁ → c.maxLocals = maxL → Pc args s →
      W p l e (headSpec ws rm).room s m args below meth c s.heap [] 0 0 (am_MQ below Qc args s mc ms free) (entryFrame m args maxL)) : am_Met l y ws rm Pc Qc mc ms free := by
  refine MetFree.of_bodySF (code := cc) (maxLocals := maxL) (ret := ret) hy ?_ ?_
  · intro args s m h hn
    obtain ⟨meth, c, h1, h2, h3, h4, h5, h6, -, -⟩ := Cond.code_spec hn (atoms_spec (ws := ws) h _ (by rw [hw]; exact List.mem_cons_self))
    exact ⟨meth, c, h1, h2, h3, h4, h5, h6⟩
  · intro p e s m args below meth c s₁ B hml hP _
    have hh0 : s₁.heap = s.heap := by rw [B.state]; rfl
    obtain ⟨t, a1, o, b1, b2, b3⟩ := body p e s m args below meth c s₁ B hml hP s₁ hh0 (Stand.of_body B)
    exact ⟨t, o, a1, b1, b2, b3⟩
/-- the same of a method with handlers -/
theorem am_ofWW {y : MethodName} {ws ws' : List Cond} {rm : Room} {Pc : Array Value → State → Prop} {cc : ByteArray} {maxL : Nat} {ret : Option FieldType} {hh : List (Nat × Nat × Nat × Nat)}
    (hy : plainFor y = true) (hw : ws = Cond.codeWith y cc maxL ret hh :: ws')
    (body : ∀ p e s m args below meth c s₁, BodyLoose p l y (headSpec ws rm) cc maxL ret e s m args below meth c s₁ → c.maxLocals = maxL → Pc args s →
      W p l e (headSpec ws rm).room s m args below meth c s.heap [] 0 0 (am_MQ below Qc args s mc ms free) (entryFrame m args maxL)) : am_Met l y ws rm Pc Qc mc ms free := by
  refine MetFree.of_bodySF (code := cc) (maxLocals := maxL) (ret := ret) hy ?_ ?_
  · intro args s m h hn
    obtain ⟨m9, meth, c, hn9, h1, h2, h3, h4, -, h5, h6, -⟩ := Cond.codeWith_spec (atoms_spec (ws := ws) h _ (by rw [hw]; exact List.mem_cons_self))
    cases hn.symm.trans hn9
    exact ⟨meth, c, h1, h2, h3, h4, h5, h6⟩
  · intro p e s m args below meth c s₁ B hml hP _
    have hh0 : s₁.heap = s.heap := by rw [B.state]; rfl
    obtain ⟨t, a1, o, b1, b2, b3⟩ := body p e s m args below meth c s₁ B hml hP s₁ hh0 (Stand.of_body B)
    exact ⟨t, o, a1, b1, b2, b3⟩
end AM1
/-- what a callee that may throw gives its caller: the walk goes on behind the call, or stands with the note of what was thrown -/
def am_Bk (l : Launch) (R : Room) (p : Program) (e : Env) (below : List Frame) (s : State) (sargs : Array Value) (y : MethodName) (len W9 : Nat) (Pre : Pt → Array Value → Prop)
    (Qc : Array Value → State → Outcome → State → Prop) (mc ms : Nat) (free : Addr → Prop) : Prop :=
  ∀ (m : MethodId) (meth : Method) (c : Code) (A : Pt) (g : JFrame) (ig : Instr) (mk : MethodId) (a : Array Value),
    Stand p l e R s m sargs below meth c A.U A.locs A.cells A.slots → g.method = m → g.locals.size = c.maxLocals → decode c.code g.pc = .ok (ig, len) →
    2 * g.monitorRoom + (g.stack.map fun v => v.category).sum ≤ W9 → A.U.methodNamed? y = some mk → Pre A a →
    ∃ (o : Outcome) (t U' : State) (L : List Loc), Stand p l e R s m sargs below meth c U' (A.locs ++ L) (A.cells + mc) (A.slots + ms) ∧ U'.heap = t.heap ∧ U'.vm = t.vm ∧ (∀ q ∈ L, free q.base) ∧ Qc a (A.U.calling g mk a) o t ∧
      ((∃ v, o = .returned v ∧ Steps p.tables e below (doInvoke e (A.U.setTop g) [] mk a).1 (U'.setTop { g with pc := g.pc + len, stack := v.toList ++ g.stack })) ∨
       (∃ q, o = .threw q ∧ Steps p.tables e below (doInvoke e (A.U.setTop g) [] mk a).1 ((U'.setTop g).pushFrame (.throwing q))))
set_option maxHeartbeats 1000000 in
theorem am_back {l : Launch} {R : Room} {p : Program} {e : Env} {below : List Frame} {s : State} {sargs : Array Value} {y : MethodName} {len W9 : Nat} {ws : List Cond} {rm : Room} {Pc : Array Value → State → Prop} {Qc : Array Value → State → Outcome → State → Prop} {mc ms : Nat} {free : Addr → Prop} {maxL : Nat}
    (hM : am_Met l y ws rm Pc Qc mc ms free) (hblind : FrameBlind Pc) (hrc : rm.cells = mc) (hrs : rm.slots = ms)
    (hframes : rm.frames + 1 ≤ R.frames) (hlocals : W9 + (maxL + 11) + rm.locals ≤ R.locals)
    (hws : ∀ w ∈ ws, ∀ a' U, s.WarmedH U.vm → w.before a' U = true) (hcode : ∀ (U : State) (mk : MethodId), s.WarmedH U.vm → U.methodNamed? y = some mk → ∃ (methY : Method) (cY : Code), U.vm.method? mk = some methY ∧ methY.code = some cY ∧ cY.maxLocals = maxL) (hinit : ∀ a' U, s.WarmedH U.vm → (Cond.initialized y.cls).before a' U = true) :
    am_Bk l R p e below s sargs y len W9 (PreOf R mc ms Pc) Qc mc ms free := by
  intro m meth c A g ig mk a X hg hsize hdg hW hn hp
  obtain ⟨U, Ls, c0, s0⟩ := A
  obtain ⟨h4, h5, hPc⟩ := hp
  dsimp only [Pt.U, Pt.locs, Pt.cells, Pt.slots] at h4 h5 hPc X hn ⊢
  have h1 : (headSpec ws rm).pre.before a U = true := atoms_intro fun w hw => hws w hw _ _ X.warmed
  obtain ⟨methY, cY, hmY, hcY, hlY⟩ := hcode U mk X.warmed hn
  obtain ⟨kY, hkY, -⟩ := className_of_methodNamed hn
  have hinitY : kY.init = .initialized := Cond.initialized_spec (findClass_of_methodNamed hn) hkY (hinit a U X.warmed)
  have h : At U g.method c below := by rw [hg]; exact X.here
  have happ : (headSpec ws rm).appliesLoose y e.platform (U.calling g mk a) = true :=
    Spec.appliesLoose_calling (g := g) h hdg hn hkY hinitY
      (X.room_calling (g := g) (R' := rm) hsize hmY hcY hframes (by rw [hlY]; omega) (by rw [hrc]; exact h4) (by rw [hrs]; exact h5)) h1
  obtain ⟨mid, hmid⟩ := h.above
  have hfr : (U.setTop g).frames = (.java g :: mid) ++ below := by rw [State.frames_setTop' g h.top, hmid]; rfl
  obtain ⟨o, s₂, hsteps, -, hend, hq0⟩ := Steps.callFree hM p X.admits X.cas X.clock (acts := []) hfr happ (hblind _ _ g mk hPc) trivial
  have hq1 : am_Q Qc mc ms free a (U.calling g mk a) o s₂ := hq0
  obtain ⟨hq, L, ⟨hW₂, e2, q2, q3, q4, q5, q6⟩, hL⟩ := hq1
  rw [State.frames_setTop' g h.top] at hend
  have e3 : s₂ = ({ (U.calling g mk a).setFrames s₂.frames with heap := s₂.heap, slotsUsed := s₂.slotsUsed } : State).setVm s₂.vm := by
    have : s₂ = ({ s₂ with vm := (U.calling g mk a).vm } : State).setVm s₂.vm := rfl
    rw [e2] at this
    exact this
  have hW' : U.WarmedH s₂.vm := hW₂
  obtain ⟨g₀, hg0⟩ := Option.isSome_iff_exists.mp h.top
  obtain ⟨r, hr⟩ := State.topJava?_eq_some.mp hg0
  have hr' : (({ U with heap := s₂.heap, slotsUsed := s₂.slotsUsed } : State).setVm s₂.vm).frames = .java g₀ :: r := hr
  have hsame : U.sameButNew ({ U with heap := s₂.heap, slotsUsed := s₂.slotsUsed } : State) L mc ms := by
    refine ⟨?_, q2, q3, q4, q5, q6⟩
    obtain ⟨t, ht, -⟩ := State.frames_cons hr
    show ({ U with heap := s₂.heap, slotsUsed := s₂.slotsUsed } : State) = { U.setFrames U.frames with heap := s₂.heap, slotsUsed := s₂.slotsUsed }
    rw [State.setFrames_self ht]
  subst hg
  refine ⟨o, s₂, (({ U with heap := s₂.heap, slotsUsed := s₂.slotsUsed } : State).setVm s₂.vm), L,
    ⟨X.admits, X.cas, X.clock, X.frames, X.room, X.hears, X.method, X.code, (X.here.setHeapUsed s₂.heap s₂.slotsUsed).setVm hW'.alike, X.tail, State.WarmedH.trans X.warmed hW', X.limits, X.bytes, X.same.trans (hsame.setVm s.vm)⟩,
    rfl, rfl, hL, hq, ?_⟩
  cases o with
  | returned v =>
    obtain ⟨c₂, i₂, len₂, hc₂, hd₂, hf₂⟩ := hend
    have hcc : c₂ = c := by
      have h1 : s₂.code? g.method = U.code? g.method := by
        rw [State.code?_eq, State.code?_eq, hW'.alike.method?]
      exact Option.some.inj (hc₂.symm.trans (h1.trans h.code))
    subst hcc
    have hlen : len₂ = len := by rw [hdg] at hd₂; cases hd₂; rfl
    subst hlen
    have hs₂ : s₂ = (({ U with heap := s₂.heap, slotsUsed := s₂.slotsUsed } : State).setVm s₂.vm).setTop { g with pc := g.pc + len₂, stack := v.toList ++ g.stack } := by
      refine e3.trans ?_
      rw [hf₂, State.calling_eq h.top, State.setFrames_setFrames, State.setTop_of_frames _ hr', hr]
      rfl
    refine Or.inl ⟨v, rfl, ?_⟩
    rw [← hs₂]
    exact hsteps
  | threw q =>
    have hf₂ : s₂.frames = .throwing q :: .java g :: U.frames.tail := hend
    have hs₂ : s₂ = ((({ U with heap := s₂.heap, slotsUsed := s₂.slotsUsed } : State).setVm s₂.vm).setTop g).pushFrame (.throwing q) := by
      refine e3.trans ?_
      rw [hf₂, State.calling_eq h.top, State.setFrames_setFrames, State.pushFrame, State.frames_setTop _ hr', State.setTop_of_frames _ hr', State.setFrames_setFrames, hr]
      rfl
    refine Or.inr ⟨q, rfl, ?_⟩
    rw [← hs₂]
    exact hsteps
end
section
/-! A CALL, whichever instruction makes it -/
section AM2
variable {p : Program} {l : Launch} {e : Env} {R : Room} {s : State} {m : MethodId} {args : Array Value} {below : List Frame} {meth : Method} {c : Code} {H : Heap} {locs : List Loc} {cells slots : Nat} {Q : State → Prop}
/-- the walk stands with the note of what was thrown over its frame -/
def am_X (p : Program) (l : Launch) (e : Env) (R : Room) (s : State) (m : MethodId) (args : Array Value) (below : List Frame) (meth : Method) (c : Code) (H : Heap) (locs : List Loc) (cells slots : Nat) (Q : State → Prop) (g : JFrame) (q : Addr) : Prop :=
  ∀ T : State, T.heap = H → Stand p l e R s m args below meth c T locs cells slots → ∃ t, Steps p.tables e below ((T.setTop g).pushFrame (.throwing q)) t ∧ Q t
/-- an instruction at g calls y with the values A, and leaves 'rest' -/
def am_Inv (p : Program) (l : Launch) (e : Env) (R : Room) (s : State) (m : MethodId) (args : Array Value) (below : List Frame) (meth : Method) (c : Code) (H : Heap) (locs : List Loc) (cells slots : Nat) (g : JFrame) (rest : List Value) (y : MethodName) (A : Array Value) : Prop :=
  (∃ ig, decode c.code g.pc = .ok (ig, 3)) ∧ g.method = m ∧ ∀ T : State, T.heap = H → Stand p l e R s m args below meth c T locs cells slots → ∃ (vm₁ : Vm) (mk : MethodId), Stand p l e R s m args below meth c (T.setVm vm₁) locs cells slots ∧ (T.setVm vm₁).methodNamed? y = some mk ∧
    ∀ target, (∀ acts, Steps p.tables e below (doInvoke e ((T.setVm vm₁).setTop { g with stack := rest }) acts mk A).1 target) → Steps p.tables e below (T.setTop g) target
variable {y : MethodName} {bytes cc : ByteArray} {maxL index : Nat} {ret : Option FieldType} {own C host : String} {b : Addr} {As rest : List Value} {g : JFrame}
theorem am_invV (hexec : p.tables.exec = Jvm.exec) (hb : c.code = cc) (hown : s.vm.findClass own = some m.cls) (hlink : (Cond.methodLink own index y).before args s = true) (hinst : (Cond.instanceMethod y).before args s = true) (hsel : (Cond.selects C y y).before args s = true)
    (hsig : ∀ (mk : MethodId) (methM : Method), s.methodNamed? y = some mk → s.vm.method? mk = some methM → parseMethodDescriptor y.desc = some methM.sig) (hy : y.cls ≠ "java/lang/invoke/MethodHandle" ∧ y.cls ≠ "java/lang/invoke/VarHandle")
    (hrecv : ∃ cellB : Cell, H[b]? = some cellB ∧ cellB.vm.isStatics = false ∧ s.vm.findClass C = some cellB.cls) (hg : g.method = m) (hlen : ∀ sig, parseMethodDescriptor y.desc = some sig → As.length = sig.parameters.length)
    (hstack : g.stack = As.reverse ++ .ref b :: rest) (hdg : decode cc g.pc = .ok (.invokevirtual index, 3)) : am_Inv p l e R s m args below meth c H locs cells slots g rest y (Value.ref b :: As).toArray := by
  refine ⟨⟨_, by rw [hb]; exact hdg⟩, hg, fun T hT X => ?_⟩
  obtain ⟨cellB, hcell, hobj, hcls⟩ := hrecv
  obtain ⟨mk, methM, hnamed, hmethM, hstM, habM⟩ := Cond.instanceMethod_spec hinst
  have hsigM := hsig mk methM hnamed hmethM
  obtain ⟨c2, r2, m2, q1, q2, q3, q4, kP, hkP, hkPi⟩ := Cond.selects_spec hsel
  cases hcls.symm.trans q1
  cases (State.methodFound?_of_named hnamed hy).symm.trans q2
  cases hnamed.symm.trans q3
  have hselP : selectMethod e.platform s.vm cellB.cls mk = .method mk := by rw [Launch.admits_selectMethod X.admits]; exact q4
  obtain ⟨vm₁, X₁, hstep₁⟩ := X.invokevirtual hexec hown hlink hnamed hmethM hstM hkP hkPi hy (a := b) (cell := cellB) (by rw [hT]; exact hcell)
    (fun z h => by rw [h] at hobj; cases hobj) hselP hmethM habM hkP hkPi (g := g) hg (argsL := As) (rest := rest) (hlen _ hsigM) hstack (by rw [hb]; exact hdg)
  exact ⟨vm₁, mk, X₁, X₁.named hnamed, hstep₁⟩
theorem am_invS (hexec : p.tables.exec = Jvm.exec) (hb : c.code = cc) (hown : s.vm.findClass own = some m.cls) (hlink : (Cond.methodLink own index y).before args s = true) (hstat : (Cond.static y).before args s = true) (hinit : (Cond.initialized y.cls).before args s = true)
    (hcode : (Cond.code y bytes maxL ret).before args s = true) (hy : y.cls ≠ "java/lang/invoke/MethodHandle" ∧ y.cls ≠ "java/lang/invoke/VarHandle") (hg : g.method = m) (hlen : ∀ sig, parseMethodDescriptor y.desc = some sig → As.length = sig.parameters.length)
    (hstack : g.stack = As.reverse ++ rest) (hdg : decode cc g.pc = .ok (.invokestatic index, 3)) : am_Inv p l e R s m args below meth c H locs cells slots g rest y As.toArray := by
  refine ⟨⟨_, by rw [hb]; exact hdg⟩, hg, fun T hT X => ?_⟩
  obtain ⟨mk, hnamed⟩ := Cond.code_named hcode
  obtain ⟨methM, cM, hmethM, -, -, -, -, -, -, hsigM⟩ := Cond.code_spec hnamed hcode
  have hstatic : methM.isStatic = true := Cond.static_spec hnamed hmethM hstat
  obtain ⟨kP, hkP, -⟩ := className_of_methodNamed hnamed
  have hinitP : kP.init = .initialized := Cond.initialized_spec (findClass_of_methodNamed hnamed) hkP hinit
  obtain ⟨vm₁, X₁, hstep₁⟩ := X.invokestatic hexec hown hlink hnamed hmethM hstatic hkP hinitP hy (g := g) hg (argsL := As) (rest := rest) (hlen _ hsigM) hstack (by rw [hb]; exact hdg)
  exact ⟨vm₁, mk, X₁, X₁.named hnamed, hstep₁⟩
theorem am_invI (hexec : p.tables.exec = Jvm.exec) (hb : c.code = cc) (hown : s.vm.findClass own = some m.cls) (hy1 : y.name = "<init>") (hlink : (Cond.methodLink own index y).before args s = true) (hinst : (Cond.instanceMethod y).before args s = true)
    (hcode : (Cond.code y bytes maxL none).before args s = true) (hy : y.cls ≠ "java/lang/invoke/MethodHandle" ∧ y.cls ≠ "java/lang/invoke/VarHandle") (hg : g.method = m) (hlen : ∀ sig, parseMethodDescriptor y.desc = some sig → As.length = sig.parameters.length)
    (hstack : g.stack = As.reverse ++ .ref b :: rest) (hdg : decode cc g.pc = .ok (.invokespecial index, 3)) : am_Inv p l e R s m args below meth c H locs cells slots g rest y (Value.ref b :: As).toArray := by
  refine ⟨⟨_, by rw [hb]; exact hdg⟩, hg, fun T hT X => ?_⟩
  subst hg
  have hpl : e.platform.magicAccessors = ({} : Platform).magicAccessors := by rw [X.admits.platform]
  obtain ⟨mk, methM, cM, kP, vm₁, hnamed, -, -, -, -, -, -, -, hW₁, hstep₁⟩ := Steps.initColdArgs (e := e) X.here hexec X.warmed hpl hown hy1 hy hlink hinst hcode (f := g) rfl hlen hstack (by rw [hb]; exact hdg)
  have X₁ := X.noted hW₁
  exact ⟨vm₁, mk, X₁, X₁.named hnamed, hstep₁⟩
theorem am_invIN (hexec : p.tables.exec = Jvm.exec) (hb : c.code = cc) (hown : s.vm.findClass own = some m.cls) (hy1 : y.name = "<init>") (hlink : (Cond.methodLinkNest own index y host).before args s = true) (hinst : (Cond.instanceMethod y).before args s = true)
    (hcode : (Cond.code y bytes maxL none).before args s = true) (hy : y.cls ≠ "java/lang/invoke/MethodHandle" ∧ y.cls ≠ "java/lang/invoke/VarHandle") (hg : g.method = m) (hlen : ∀ sig, parseMethodDescriptor y.desc = some sig → As.length = sig.parameters.length)
    (hstack : g.stack = As.reverse ++ .ref b :: rest) (hdg : decode cc g.pc = .ok (.invokespecial index, 3)) : am_Inv p l e R s m args below meth c H locs cells slots g rest y (Value.ref b :: As).toArray := by
  refine ⟨⟨_, by rw [hb]; exact hdg⟩, hg, fun T hT X => ?_⟩
  subst hg
  have hpl : e.platform.magicAccessors = ({} : Platform).magicAccessors := by rw [X.admits.platform]
  obtain ⟨mk, methM, cM, kP, vm₁, hnamed, -, -, -, -, -, -, -, hW₁, hstep₁⟩ := Steps.initColdArgsNest (e := e) X.here hexec X.warmed hpl hown hy1 hy hlink hinst hcode (f := g) rfl hlen hstack (by rw [hb]; exact hdg)
  have X₁ := X.noted hW₁
  exact ⟨vm₁, mk, X₁, X₁.named hnamed, hstep₁⟩
variable {ws : List Cond} {rm : Room} {Pc : Array Value → State → Prop} {Qc : Array Value → State → Outcome → State → Prop} {mc ms : Nat} {free : Addr → Prop} {A : Array Value}
/-- the walk over a call -/
theorem am_callW (hi : am_Inv p l e R s m args below meth c H locs cells slots g rest y A) (hM : am_Met l y ws rm Pc Qc mc ms free) (hblind : FrameBlind Pc) (hrc : rm.cells = mc) (hrs : rm.slots = ms)
    (hR : rm.frames + 1 ≤ R.frames ∧ 8 + (maxL + 11) + rm.locals ≤ R.locals) (hws : ∀ w ∈ ws, ∀ a' U, s.WarmedH U.vm → w.before a' U = true) (hcode : ∀ (U : State) (mk : MethodId), s.WarmedH U.vm → U.methodNamed? y = some mk → ∃ (methY : Method) (cY : Code), U.vm.method? mk = some methY ∧ methY.code = some cY ∧ cY.maxLocals = maxL) (hinit : ∀ a' U, s.WarmedH U.vm → (Cond.initialized y.cls).before a' U = true)
    (hsize : g.locals.size = c.maxLocals) (hW : 2 * g.monitorRoom + (rest.map fun v => v.category).sum ≤ 8) (hf : cells + mc ≤ R.cells ∧ slots + ms ≤ R.slots) (hPc : ∀ U : State, U.heap = H → s.WarmedH U.vm → Pc A U)
    (kk : ∀ (v : Option Value) (st₀ t : State) (L : List Loc), st₀.heap = H → s.WarmedH t.vm → (∀ q ∈ L, free q.base) → Qc A st₀ (.returned v) t → W p l e R s m args below meth c t.heap (locs ++ L) (cells + mc) (slots + ms) Q { g with pc := g.pc + 3, stack := v.toList ++ rest })
    (kx : ∀ (q : Addr) (st₀ t : State) (L : List Loc), st₀.heap = H → s.WarmedH t.vm → (∀ q ∈ L, free q.base) → Qc A st₀ (.threw q) t → am_X p l e R s m args below meth c t.heap (locs ++ L) (cells + mc) (slots + ms) Q { g with stack := rest } q) :
    W p l e R s m args below meth c H locs cells slots Q g := by
  obtain ⟨⟨ig, hdg⟩, hg, hi⟩ := hi
  intro T hT X
  obtain ⟨vm₁, mk, X₁, hnamed, hstep⟩ := hi T hT X
  obtain ⟨o, t, U', L, X', e1, e2, hL, hq, hor⟩ := am_back (maxL := maxL) hM hblind hrc hrs hR.1 hR.2 hws hcode hinit m meth c ⟨T.setVm vm₁, locs, cells, slots⟩ { g with stack := rest } ig mk A X₁ hg hsize hdg hW hnamed ⟨hf.1, hf.2, hPc _ hT X₁.warmed⟩
  have hWt : s.WarmedH t.vm := by rw [← e2]; exact X'.warmed
  rcases hor with ⟨v, rfl, hs⟩ | ⟨q, rfl, hs⟩
  · obtain ⟨t2, a1, b1⟩ := kk v ((T.setVm vm₁).calling { g with stack := rest } mk A) t L hT hWt hL hq U' e1 X'
    exact ⟨t2, hstep _ fun acts => by rw [doInvoke_state]; exact hs.trans a1, b1⟩
  · obtain ⟨t2, a1, b1⟩ := kx q ((T.setVm vm₁).calling { g with stack := rest } mk A) t L hT hWt hL hq U' e1 X'
    exact ⟨t2, hstep _ fun acts => by rw [doInvoke_state]; exact hs.trans a1, b1⟩
/-- not caught here -/
theorem am_outX {q : Addr} (hg : g.method = m) (hl1 : g.locked = none) (hl2 : g.entered = []) (hout : ∀ x ∈ c.exceptionTable.toList, covers x g.pc = false) (hlocks : meth.locks = false) (hx : ∀ t : State, t.heap = H → s.WarmedH t.vm → Qc args s (.threw q) t) (hf : ∀ z ∈ locs, free z.base) (hc : cells ≤ mc) (hs : slots ≤ ms) :
    am_X p l e R s m args below meth c H locs cells slots (am_MQ below Qc args s mc ms free) g q := by
  intro T hT X
  obtain ⟨st1, hrun, hend, hW, hsm⟩ := X.leaveThrown q (g := g) hg hl1 hl2 hout hlocks
  exact ⟨_, st1, .threw q, hrun, hend, hx _ hT hW, locs, ⟨hW, hsm.mono hc hs⟩, hf⟩
end AM2
end
section
/-! ABSTRACT CELLS AND THE HEAP: ad gives each cell's address, ca an array's class -/
def am_v (em : Int64 → Nat) (ad : Nat → Nat) (v : Value) : Value := match v with
  | .ref k => .ref (ad k)
  | .long z => .ref (em z)
  | v => v
def am_ce (em : Int64 → Nat) (ad : Nat → Nat) (cA : ClassId) (c : am_C) : va_E := match c with
  | .inl (_, n, f) => .inl (cA, n, .inl f)
  | .inr (.inl (n, g)) => .inl (cA, n, .inr (.inr (.inr (.inr (fun i => (g i).map ad)))))
  | .inr (.inr (ci, fs)) => .inr (ci, fs.map (am_v em ad))
def am_w (em : Int64 → Nat) (ad : Nat → Nat) (ca : Nat → ClassId) (h : List am_C) : va_W := h.mapIdx (fun k c => (ad k, am_ce em ad (ca k) c))
/-- every reference is a place of the list; no number of two words -/
def am_okv (n : Nat) (v : Value) : Prop := match v with
  | .int _ => True
  | .null => True
  | .long _ => True
  | .ref k => k < n
  | _ => False
def am_okc (n : Nat) (c : am_C) : Prop := match c with
  | .inl _ => True
  | .inr (.inl (_, g)) => ∀ i j, g i = some j → j < n
  | .inr (.inr (_, fs)) => ∀ v ∈ fs, am_okv n v
def am_ty (tys : List (ClassId × FieldType)) (cA : ClassId) (c : am_C) : Prop := match c with
  | .inl (false, _) => ∃ t0 : Nat, tys[t0]? = some (cA, .int)
  | .inl (true, _) => ∃ t0 : Nat, tys[t0]? = some (cA, .boolean)
  | .inr (.inl _) => ∃ t0 : Nat, tys[t0]? = some (cA, .object "java/lang/Object")
  | .inr (.inr _) => True
theorem am_okv.mono {n k : Nat} {v : Value} (h : am_okv n v) (hk : n ≤ k) : am_okv k v := by
  cases v <;> simp only [am_okv] at h ⊢
  exact Nat.lt_of_lt_of_le h hk
theorem am_okc.mono {n k : Nat} {c : am_C} (h : am_okc n c) (hk : n ≤ k) : am_okc k c := by
  rcases c with c | ⟨_, g⟩ | ⟨_, fs⟩
  · trivial
  · intro i j hj; exact Nat.lt_of_lt_of_le (h i j hj) hk
  · intro v hv; exact (h v hv).mono hk
theorem am_ty.more {tys t2 : List (ClassId × FieldType)} {cA : ClassId} {c : am_C} (h : am_ty tys cA c) : am_ty (tys ++ t2) cA c := by
  have key : ∀ ty, (∃ t0 : Nat, tys[t0]? = some (cA, ty)) → ∃ t0 : Nat, (tys ++ t2)[t0]? = some (cA, ty) := fun ty ⟨t0, h0⟩ => ⟨t0, by rw [List.getElem?_append_left (List.getElem?_eq_some_iff.mp h0).1]; exact h0⟩
  rcases c with ⟨b, x⟩ | x | x
  · cases b
    · exact key _ h
    · exact key _ h
  · exact key _ h
  · trivial
theorem am_v_eq {em : Int64 → Nat} {ad ad' : Nat → Nat} {n : Nat} (ha : ∀ k, k < n → ad' k = ad k) {v : Value} (h : am_okv n v) : am_v em ad' v = am_v em ad v := by
  cases v <;> simp only [am_okv, am_v] at h ⊢
  rw [ha _ h]
theorem am_ce_eq {em : Int64 → Nat} {ad ad' : Nat → Nat} {n : Nat} {cA : ClassId} (ha : ∀ k, k < n → ad' k = ad k) {c : am_C} (h : am_okc n c) : am_ce em ad' cA c = am_ce em ad cA c := by
  rcases c with c | ⟨m, g⟩ | ⟨ci, fs⟩
  · rfl
  · simp only [am_ce]
    have : (fun i => (g i).map ad') = fun i => (g i).map ad := by
      funext i
      cases hg : g i with
      | none => rfl
      | some j => simp only [Option.map_some]; rw [ha _ (h i j hg)]
    rw [this]
  · simp only [am_ce]
    have : fs.map (am_v em ad') = fs.map (am_v em ad) := List.map_congr_left fun v hv => am_v_eq ha (h v hv)
    rw [this]
theorem am_cat {em : Int64 → Nat} {n : Nat} {v : Value} (ad : Nat → Nat) (h : am_okv n v) : (am_v em ad v).category = 1 := by
  cases v <;> simp only [am_okv] at h <;> rfl
theorem am_w_len {em : Int64 → Nat} {ad : Nat → Nat} {ca : Nat → ClassId} {h : List am_C} : (am_w em ad ca h).length = h.length := by simp [am_w]
theorem am_w_get {em : Int64 → Nat} {ad : Nat → Nat} {ca : Nat → ClassId} {h : List am_C} {k : Nat} {c : am_C} (hk : h[k]? = some c) : (am_w em ad ca h)[k]? = some (ad k, am_ce em ad (ca k) c) := by
  simp [am_w, List.getElem?_mapIdx, hk]
theorem am_w_inv {em : Int64 → Nat} {ad : Nat → Nat} {ca : Nat → ClassId} {h : List am_C} {k : Nat} {q : Nat × va_E} (hk : (am_w em ad ca h)[k]? = some q) : ∃ c, h[k]? = some c ∧ q = (ad k, am_ce em ad (ca k) c) := by
  simp only [am_w, List.getElem?_mapIdx, Option.map_eq_some_iff] at hk
  obtain ⟨c, h1, h2⟩ := hk
  exact ⟨c, h1, h2.symm⟩
theorem am_w_set {em : Int64 → Nat} {ad : Nat → Nat} {ca : Nat → ClassId} {h : List am_C} {k : Nat} {c : am_C} : (am_w em ad ca h).set k (ad k, am_ce em ad (ca k) c) = am_w em ad ca (h.set k c) := by
  apply List.ext_getElem?
  intro i
  simp only [am_w, List.getElem?_set, List.getElem?_mapIdx, List.length_mapIdx]
  by_cases hi : k = i
  · subst hi
    simp only [if_true]
    split <;> simp
  · simp [hi]
theorem am_w_app {em : Int64 → Nat} {ad : Nat → Nat} {ca : Nat → ClassId} {h : List am_C} {q : Nat} {cA : ClassId} {c : am_C} {E : va_E} (hw : ∀ (k : Nat) (c : am_C), h[k]? = some c → am_okc h.length c) (hE : E = am_ce em (va_up ad h.length q) cA c) :
    am_w em ad ca h ++ [(q, E)] = am_w em (va_up ad h.length q) (va_up ca h.length cA) (h ++ [c]) := by
  apply List.ext_getElem?
  intro i
  rcases Nat.lt_trichotomy i h.length with hi | hi | hi
  · rw [List.getElem?_append_left (by rw [am_w_len]; exact hi)]
    obtain ⟨c0, h0⟩ : ∃ c0, h[i]? = some c0 := ⟨_, List.getElem?_eq_getElem hi⟩
    rw [am_w_get h0, am_w_get (c := c0) (by rw [List.getElem?_append_left hi]; exact h0)]
    have e1 : va_up ad h.length q i = ad i := by simp [va_up, Nat.ne_of_lt hi]
    have e2 : va_up ca h.length cA i = ca i := by simp [va_up, Nat.ne_of_lt hi]
    rw [e1, e2, am_ce_eq (ad := ad) (ad' := va_up ad h.length q) (n := h.length) (fun k hk => if_neg (Nat.ne_of_lt hk)) (hw i c0 h0)]
  · subst hi
    have e1 : (am_w em ad ca h ++ [(q, E)])[h.length]? = some (q, E) := by
      rw [List.getElem?_append_right (by rw [am_w_len]; exact Nat.le_refl _), am_w_len]
      simp
    rw [e1, am_w_get (c := c) (by simp), hE]
    simp [va_up]
  · rw [List.getElem?_eq_none (by simp [am_w_len]; omega), List.getElem?_eq_none (by simp [am_w_len]; omega)]
/-- the heap holds the cells -/
def am_Rl (em : Int64 → Nat) (D : va_G) (cl : List vw_C) (A : Nat → Prop) (s : State) (ad : Nat → Nat) (ca : Nat → ClassId) (tys : List (ClassId × FieldType)) (h : List am_C) (H : Heap) : Prop :=
  va_P D cl (am_w em ad ca h) H ∧ va_D A (am_w em ad ca h) ∧ va_K D cl tys s ∧ (∀ (k : Nat) (c : am_C), h[k]? = some c → am_ty tys (ca k) c) ∧ ∀ (k : Nat) (c : am_C), h[k]? = some c → am_okc h.length c
theorem am_Rl.moved {em : Int64 → Nat} {D : va_G} {cl : List vw_C} {A : Nat → Prop} {u U : State} {ad : Nat → Nat} {ca : Nat → ClassId} {tys : List (ClassId × FieldType)} {h : List am_C} {H : Heap} (r : am_Rl em D cl A u ad ca tys h H) (hvm : u.vm.Alike U.vm) : am_Rl em D cl A U ad ca tys h H :=
  ⟨r.1, r.2.1, va_K.moved hvm r.2.2.1, r.2.2.2⟩
theorem am_Rl.weaken {em : Int64 → Nat} {D : va_G} {cl : List vw_C} {A B : Nat → Prop} {u : State} {ad : Nat → Nat} {ca : Nat → ClassId} {tys : List (ClassId × FieldType)} {h : List am_C} {H : Heap} (r : am_Rl em D cl A u ad ca tys h H) (hAB : ∀ q, A q → B q) : am_Rl em D cl B u ad ca tys h H :=
  ⟨r.1, r.2.1.weaken fun _ _ _ x => hAB _ x, r.2.2⟩
/-- the cells that a callee may change: all that are there, and those that it makes -/
def am_A (ad : Nat → Nat) (n sz : Nat) : Nat → Prop := fun q => (∃ k, k < n ∧ q = ad k) ∨ sz ≤ q
theorem am_Rl.own {em : Int64 → Nat} {D : va_G} {cl : List vw_C} {A : Nat → Prop} {u : State} {ad : Nat → Nat} {ca : Nat → ClassId} {tys : List (ClassId × FieldType)} {h : List am_C} {H : Heap} {sz : Nat} (r : am_Rl em D cl A u ad ca tys h H) : am_Rl em D cl (am_A ad h.length sz) u ad ca tys h H := by
  refine ⟨r.1, ⟨r.2.1.1, fun k q hk => ?_⟩, r.2.2⟩
  obtain ⟨c, h1, rfl⟩ := am_w_inv hk
  exact Or.inl ⟨k, (List.getElem?_eq_some_iff.mp h1).1, rfl⟩
theorem am_A.sub {em : Int64 → Nat} {D : va_G} {cl : List vw_C} {A : Nat → Prop} {u : State} {ad : Nat → Nat} {ca : Nat → ClassId} {tys : List (ClassId × FieldType)} {h : List am_C} {H H0 : Heap} {locs : List Loc} (r : am_Rl em D cl A u ad ca tys h H) (hS : va_S A H0 H locs) (hA : ∀ q, H0.size ≤ q → A q) : ∀ q, am_A ad h.length H.size q → A q := by
  rintro q (⟨k, hk, rfl⟩ | hq)
  · obtain ⟨c, hc⟩ : ∃ c, h[k]? = some c := ⟨_, List.getElem?_eq_getElem hk⟩
    exact r.2.1.2 k _ (am_w_get hc)
  · exact hA q (Nat.le_trans hS.1 hq)
/-- locals -/
def am_al (em : Int64 → Nat) (ad : Nat → Nat) (ls : am_V) : List (Nat × Value) := (ls.mapIdx (fun i o => o.map (fun v => (i, am_v em ad v)))).filterMap id
theorem am_al_mem {em : Int64 → Nat} {ad : Nat → Nat} {ls : am_V} {q : Nat × Value} : q ∈ am_al em ad ls ↔ ∃ v, ls[q.1]? = some (some v) ∧ q.2 = am_v em ad v := by
  simp only [am_al, List.mem_filterMap, id]
  constructor
  · rintro ⟨o, ho, rfl⟩
    obtain ⟨i, hi⟩ := List.getElem?_of_mem ho
    simp only [List.getElem?_mapIdx, Option.map_eq_some_iff] at hi
    obtain ⟨o', h1, h2⟩ := hi
    obtain ⟨v, rfl, rfl⟩ := h2
    exact ⟨v, h1, rfl⟩
  · rintro ⟨v, h1, h2⟩
    refine ⟨some (q.1, am_v em ad v), ?_, by rw [← h2]⟩
    have : (ls.mapIdx (fun i o => o.map (fun v => (i, am_v em ad v))))[q.1]? = some (some (q.1, am_v em ad v)) := by simp [List.getElem?_mapIdx, h1]
    exact List.mem_of_getElem? this
def am_lo (em : Int64 → Nat) (nL : Nat) (lsA : Array Slot) (ad : Nat → Nat) (ls : am_V) : Prop := lv_has lsA nL (am_al em ad ls) ∧ ls.length = nL
theorem am_lo.at {em : Int64 → Nat} {nL : Nat} {lsA : Array Slot} {ad : Nat → Nat} {ls : am_V} (h : am_lo em nL lsA ad ls) {i : Nat} {v : Value} (hi : ls[i]? = some (some v)) : lsA[i]? = some (.val (am_v em ad v)) :=
  h.1.2.2 (i, am_v em ad v) (am_al_mem.mpr ⟨v, hi, rfl⟩)
theorem am_lo.set {em : Int64 → Nat} {nL : Nat} {lsA lsA' : Array Slot} {ad : Nat → Nat} {ls : am_V} {i : Nat} {v : Value} (h : am_lo em nL lsA ad ls) (hc : ∀ w, ls[i - 1]? = some (some w) → (am_v em ad w).category = 1) (h' : lv_has lsA' nL ((i, am_v em ad v) :: (am_al em ad ls).filter (fun q => !(q.1 == i) && !(q.1 + 1 == i && q.2.category == 2)))) : am_lo em nL lsA' ad (ls.set i (some v)) := by
  refine ⟨⟨h'.1, h'.2.1, fun q hq => ?_⟩, by simp [h.2]⟩
  obtain ⟨w, hw, hq2⟩ := am_al_mem.mp hq
  rw [List.getElem?_set] at hw
  by_cases hi : i = q.1
  · rw [if_pos hi] at hw
    split at hw
    · cases hw
      exact h'.2.2 q (by rw [show q = (i, am_v em ad v) from Prod.ext hi.symm hq2]; exact List.mem_cons_self)
    · cases hw
  · rw [if_neg hi] at hw
    refine h'.2.2 q (List.mem_cons_of_mem _ (List.mem_filter.mpr ⟨am_al_mem.mpr ⟨w, hw, hq2⟩, ?_⟩))
    have hne : (q.1 == i) = false := by simp; exact fun z => hi z.symm
    rw [hne]
    by_cases h1 : q.1 + 1 = i
    · have : q.2.category = 1 := by rw [hq2]; exact hc w (by rw [← h1]; exact hw)
      simp [this]
    · simp [h1]
theorem am_lo.drop {em : Int64 → Nat} {nL : Nat} {lsA : Array Slot} {ad : Nat → Nat} {ls : am_V} (i : Nat) (h : am_lo em nL lsA ad ls) : am_lo em nL lsA ad (ls.set i none) := by
  refine ⟨⟨h.1.1, h.1.2.1, fun q hq => ?_⟩, by simp [h.2]⟩
  obtain ⟨w, hw, hq2⟩ := am_al_mem.mp hq
  rw [List.getElem?_set] at hw
  by_cases hi : i = q.1
  · rw [if_pos hi] at hw
    split at hw <;> cases hw
  · rw [if_neg hi] at hw
    exact h.1.2.2 q (am_al_mem.mpr ⟨w, hw, hq2⟩)
def am_okl (n : Nat) (ls : am_V) : Prop := ∀ (i : Nat) (v : Value), ls[i]? = some (some v) → am_okv n v
theorem am_okl.set {n : Nat} {ls : am_V} {i : Nat} {v : Value} (h : am_okl n ls) (hv : am_okv n v) : am_okl n (ls.set i (some v)) := by
  intro j w hw
  rw [List.getElem?_set] at hw
  split at hw
  · split at hw
    · cases hw; exact hv
    · cases hw
  · exact h j w hw
theorem am_okl.drop {n : Nat} {ls : am_V} (i : Nat) (h : am_okl n ls) : am_okl n (ls.set i none) := by
  intro j w hw
  rw [List.getElem?_set] at hw
  split at hw
  · split at hw <;> cases hw
  · exact h j w hw
theorem am_lo.agree {em : Int64 → Nat} {nL n : Nat} {lsA : Array Slot} {ad ad' : Nat → Nat} {ls : am_V} (h : am_lo em nL lsA ad ls) (ho : am_okl n ls) (ha : ∀ k, k < n → ad' k = ad k) : am_lo em nL lsA ad' ls := by
  refine ⟨⟨h.1.1, h.1.2.1, fun q hq => ?_⟩, h.2⟩
  obtain ⟨w, hw, hq2⟩ := am_al_mem.mp hq
  rw [am_v_eq ha (ho _ _ hw)] at hq2
  exact h.1.2.2 q (am_al_mem.mpr ⟨w, hw, hq2⟩)
theorem am_st_eq {em : Int64 → Nat} {ad ad' : Nat → Nat} {n : Nat} (ha : ∀ k, k < n → ad' k = ad k) {st : List Value} (h : ∀ v ∈ st, am_okv n v) : st.map (am_v em ad') = st.map (am_v em ad) :=
  List.map_congr_left fun v hv => am_v_eq ha (h v hv)
/-- the counts never fall, nor do the cells go -/
theorem am_do_up {nb : Nat → List Value} {sc : Nat × (Nat → Int32)} {op a b c d nx pc' : Nat} {x : Int32} {tab : List (Int32 × Nat)} {ls ls' : am_V} {st st' : List Value} {S S' : am_S} (h : am_do nb sc op a b c x nx tab d ls st S = some (pc', ls', st', S')) : S.2.1 ≤ S'.2.1 ∧ S.2.2 ≤ S'.2.2 ∧ S.1.length ≤ S'.1.length := by
  unfold am_do at h
  repeat' split at h
  all_goals first
    | (cases h; done)
    | (simp only [Option.some.injEq, Prod.mk.injEq] at h; obtain ⟨-, -, -, rfl⟩ := h; refine ⟨?_, ?_, ?_⟩ <;> simp <;> done)
theorem am_run_up (P : am_P) : ∀ (n d M pc : Nat) (ls : am_V) (st : List Value) (S : am_S) (o : Option (Option Value)) (S' : am_S), am_run P n d M pc ls st S = some (o, S') → S.2.1 ≤ S'.2.1 ∧ S.2.2 ≤ S'.2.2 ∧ S.1.length ≤ S'.1.length := by
  intro n
  induction n with
  | zero => intro d M pc ls st S o S' h; simp [am_run] at h
  | succ n ih =>
    intro d M pc ls st S o S' h
    have key : ∀ {S1 : am_S}, (S.2.1 ≤ S1.2.1 ∧ S.2.2 ≤ S1.2.2 ∧ S.1.length ≤ S1.1.length) → (S1.2.1 ≤ S'.2.1 ∧ S1.2.2 ≤ S'.2.2 ∧ S1.1.length ≤ S'.1.length) → S.2.1 ≤ S'.2.1 ∧ S.2.2 ≤ S'.2.2 ∧ S.1.length ≤ S'.1.length := fun a b => ⟨Nat.le_trans a.1 b.1, Nat.le_trans a.2.1 b.2.1, Nat.le_trans a.2.2 b.2.2⟩
    rw [am_run] at h
    cases hi : P.1 M pc with
    | none => rw [hi] at h; cases h
    | some i =>
      obtain ⟨op, a, b, c, x, nx, tab⟩ := i
      rw [hi] at h
      dsimp only at h
      by_cases h32 : op = 32
      · rw [if_pos h32] at h
        split at h
        · cases d with
          | zero => cases h
          | succ d' =>
            dsimp only at h
            cases hc : am_run P n d' a 0 (am_in (st.take b).reverse (P.2.2.1 a)) [] S with
            | none => rw [hc] at h; cases h
            | some q =>
              rw [hc] at h
              obtain ⟨o1, S1⟩ := q
              have u1 := ih _ _ _ _ _ _ _ _ hc
              cases o1 with
              | some v => exact key u1 (ih _ _ _ _ _ _ _ _ h)
              | none =>
                dsimp only at h
                cases hh : P.2.2.2.1 M pc with
                | none => rw [hh] at h; cases h; exact u1
                | some q => rw [hh] at h; exact key u1 (ih _ _ _ _ _ _ _ _ h)
        · cases h
      · rw [if_neg h32] at h
        by_cases h37 : op = 37
        · rw [if_pos h37] at h
          split at h
          · cases h; exact ⟨Nat.le_succ _, Nat.le_add_right _ _, Nat.le_refl _⟩
          · cases h
        · rw [if_neg h37] at h
          by_cases h33 : 33 ≤ op ∧ op ≤ 36
          · rw [if_pos h33] at h
            cases hr : am_ret op st with
            | none => rw [hr] at h; cases h
            | some v => rw [hr] at h; cases h; exact ⟨Nat.le_refl _, Nat.le_refl _, Nat.le_refl _⟩
          · rw [if_neg h33] at h
            cases hd : am_do P.2.1 P.2.2.2.2 op a b c x nx tab d ls st S with
            | none => rw [hd] at h; cases h
            | some q =>
              rw [hd] at h
              obtain ⟨pc', ls', st', S1⟩ := q
              exact key (am_do_up hd) (ih _ _ _ _ _ _ _ _ h)
end
section
/-! WHAT THE TABLES AND THE BYTES MUST SAY OF A SMALL INSTRUCTION -/
abbrev am_Y : Type := Nat → MethodName × ByteArray × Option FieldType
abbrev am_AL : String := "java/util/ArrayList"
abbrev am_EE : String := "DEFAULTCAPACITY_EMPTY_ELEMENTDATA"
abbrev am_ED : String := "[Ljava/lang/Object;"
abbrev am_gC : MethodName := ⟨"java/lang/Object", "getClass", "()Ljava/lang/Class;"⟩
def am_cd (k : Nat) : Jvm.ClassFile.Cond := match k with
  | 0 => .eq
  | 1 => .ne
  | 2 => .lt
  | 3 => .ge
  | 4 => .gt
  | _ => .le
/-- a field's place: the link, and the class that lays it -/
def am_okF (cl : List vw_C) (Ts : List Jvm.Cond) (own : String) (idx a b : Nat) : Prop :=
  ∃ (C : String) (T : u_T) (N : Nat) (ref : String), cl[a]? = some (C, T, N) ∧ b < N ∧ Jvm.Cond.fieldLink own idx ref (T b).2.1 (T b).2.2.1 ∈ Ts ∧ (ref = (T b).1 ∨ Jvm.Cond.sameField ref (T b).1 (T b).2.1 (T b).2.2.1 ∈ Ts)
/-- what a field of the kind k (0 number, 1 reference, 2 truth) is by its descriptor -/
def am_okT (k : Nat) (desc : String) : Prop := match k with
  | 0 => parseFieldDescriptor desc = some .int
  | 1 => (∃ n, parseFieldDescriptor desc = some (.object n)) ∨ ∃ t, parseFieldDescriptor desc = some (.array t)
  | 2 => parseFieldDescriptor desc = some .boolean
  | _ => False
def am_ise : String := "java/lang/IllegalStateException"
/-- the method's code: without handlers, or with one, as the program has it -/
def am_okCd (P : am_P) (Y : am_Y) (Ts : List Jvm.Cond) (a : Nat) : Prop :=
  (Jvm.Cond.code (Y a).1 (Y a).2.1 (P.2.2.1 a) (Y a).2.2 ∈ Ts ∧ ∀ pc, P.2.2.2.1 a pc = none) ∨
  ∃ q : Nat × Nat × Nat × Nat, Jvm.Cond.codeWith (Y a).1 (Y a).2.1 (P.2.2.1 a) (Y a).2.2 [q] ∈ Ts ∧ (∀ pc, P.2.2.2.1 a pc = none → ¬ (q.1 ≤ pc ∧ pc < q.2.1)) ∧ q.2.2.2 ≠ 0 ∧ Jvm.Cond.classLink (Y a).1.cls q.2.2.2 am_ise ∈ Ts ∧
    ∀ pc h j, P.2.2.2.1 a pc = some (h, j) → q.1 ≤ pc ∧ pc < q.2.1 ∧ (∃ k : Fin 4, decode (Y a).2.1 q.2.2.1 = .ok (.astore_n k, 1) ∧ (k : Nat) = j) ∧ h = q.2.2.1 + 1 ∧ j < P.2.2.1 a
def am_okM (P : am_P) (Y : am_Y) (Ts : List Jvm.Cond) (a : Nat) : Prop :=
  am_okCd P Y Ts a ∧ Jvm.Cond.initialized (Y a).1.cls ∈ Ts ∧ ((Y a).1.cls ≠ "java/lang/invoke/MethodHandle" ∧ (Y a).1.cls ≠ "java/lang/invoke/VarHandle") ∧ plainFor (Y a).1 = true ∧ P.2.2.1 a ≤ 22
def am_okI (P : am_P) (Y : am_Y) (cl : List vw_C) (Ts : List Jvm.Cond) (M pc op a b c : Nat) (x : Int32) (nx : Nat) (tab : List (Int32 × Nat)) : Prop :=
  match op with
  | 0 => (∃ n, decode (Y M).2.1 pc = .ok (.iconst n, 1) ∧ Int32.ofInt n = x ∧ nx = pc + 1) ∨ (∃ n, decode (Y M).2.1 pc = .ok (.bipush n, 2) ∧ (Int8.ofInt n).toInt32 = x ∧ nx = pc + 2) ∨
      (∃ n, decode (Y M).2.1 pc = .ok (.sipush n, 3) ∧ (Int16.ofInt n).toInt32 = x ∧ nx = pc + 3) ∨ ∃ k, decode (Y M).2.1 pc = .ok (.ldc k, 2) ∧ Jvm.Cond.constant (Y M).1.cls k x ∈ Ts ∧ nx = pc + 2
  | 1 => (∃ k : Fin 4, decode (Y M).2.1 pc = .ok (.iload_n k, 1) ∧ (k : Nat) = a ∧ nx = pc + 1) ∨ (decode (Y M).2.1 pc = .ok (.iload a, 2) ∧ nx = pc + 2)
  | 2 => (∃ k : Fin 4, decode (Y M).2.1 pc = .ok (.aload_n k, 1) ∧ (k : Nat) = a ∧ nx = pc + 1) ∨ (decode (Y M).2.1 pc = .ok (.aload a, 2) ∧ nx = pc + 2)
  | 3 => (∃ k : Fin 4, decode (Y M).2.1 pc = .ok (.istore_n k, 1) ∧ (k : Nat) = a ∧ nx = pc + 1) ∨ (decode (Y M).2.1 pc = .ok (.istore a, 2) ∧ nx = pc + 2)
  | 4 => (∃ k : Fin 4, decode (Y M).2.1 pc = .ok (.astore_n k, 1) ∧ (k : Nat) = a ∧ nx = pc + 1) ∨ (decode (Y M).2.1 pc = .ok (.astore a, 2) ∧ nx = pc + 2)
  | 5 => ∃ n, decode (Y M).2.1 pc = .ok (.iinc a n, 3) ∧ Int32.ofInt n = x ∧ nx = pc + 3
  | 6 => decode (Y M).2.1 pc = .ok (.pop, 1) ∧ nx = pc + 1
  | 7 => decode (Y M).2.1 pc = .ok (.dup, 1) ∧ nx = pc + 1
  | 8 => decode (Y M).2.1 pc = .ok (.dup2, 1) ∧ nx = pc + 1
  | 9 => decode (Y M).2.1 pc = .ok (.dup_x1, 1) ∧ nx = pc + 1
  | 10 => nx = pc + 1 ∧ match a with
    | 0 => decode (Y M).2.1 pc = .ok (.iadd, 1)
    | 1 => decode (Y M).2.1 pc = .ok (.isub, 1)
    | 2 => decode (Y M).2.1 pc = .ok (.imul, 1)
    | 3 => decode (Y M).2.1 pc = .ok (.iand, 1)
    | 4 => decode (Y M).2.1 pc = .ok (.ior, 1)
    | 5 => decode (Y M).2.1 pc = .ok (.ishr, 1)
    | _ => False
  | 11 => decode (Y M).2.1 pc = .ok (.ineg, 1) ∧ nx = pc + 1
  | 12 => ∃ off, decode (Y M).2.1 pc = .ok (.ifCond (am_cd a) off, 3) ∧ (pc : Int) + off = (b : Int) ∧ nx = pc + 3 ∧ a ≤ 5
  | 13 => ∃ off, decode (Y M).2.1 pc = .ok (.if_icmp (am_cd a) off, 3) ∧ (pc : Int) + off = (b : Int) ∧ nx = pc + 3 ∧ a ≤ 5
  | 14 => ∃ off, decode (Y M).2.1 pc = .ok (.ifnull off, 3) ∧ (pc : Int) + off = (b : Int) ∧ nx = pc + 3
  | 15 => ∃ off, decode (Y M).2.1 pc = .ok (.ifnonnull off, 3) ∧ (pc : Int) + off = (b : Int) ∧ nx = pc + 3
  | 16 => ∃ off, decode (Y M).2.1 pc = .ok (.if_acmp .eq off, 3) ∧ (pc : Int) + off = (b : Int) ∧ nx = pc + 3
  | 17 => ∃ off, decode (Y M).2.1 pc = .ok (.if_acmp .ne off, 3) ∧ (pc : Int) + off = (b : Int) ∧ nx = pc + 3
  | 18 => ∃ off, decode (Y M).2.1 pc = .ok (.goto off, 3) ∧ (pc : Int) + off = (b : Int)
  | 19 => (∃ dflt lo hi offs len, decode (Y M).2.1 pc = .ok (.tableswitch dflt lo hi offs, len) ∧ (pc : Int) + dflt = (b : Int) ∧ (∀ y : Int32, y.toInt < lo ∨ hi < y.toInt → am_sw tab b y = b) ∧ ∀ y : Int32, ¬ y.toInt < lo → ¬ hi < y.toInt → ∃ off, offs[(y.toInt - lo).toNat]? = some off ∧ (pc : Int) + off = (am_sw tab b y : Int)) ∨
      ∃ dflt ps len, decode (Y M).2.1 pc = .ok (.lookupswitch dflt ps, len) ∧ (ps.toList.zip (ps.toList.drop 1)).all (fun (a, next) => a.1 < next.1) = true ∧ ∀ y : Int32, (pc : Int) + Op.lookupswitch.offset ps.toList dflt y.toInt = (am_sw tab b y : Int)
  | 20 => ∃ idx, decode (Y M).2.1 pc = .ok (.getfield idx, 3) ∧ nx = pc + 3 ∧ am_okF cl Ts (Y M).1.cls idx a b
  | 21 => ∃ idx, decode (Y M).2.1 pc = .ok (.putfield idx, 3) ∧ nx = pc + 3 ∧ am_okF cl Ts (Y M).1.cls idx a b ∧ ∀ C T N, cl[a]? = some (C, T, N) → am_okT (c % 4) (T b).2.2.1 ∧ ((T b).2.2.2 = false ∨ ((T b).2.2.2 = true ∧ (Y M).1.name = "<init>" ∧ (T b).1 = (Y M).1.cls))
  | 22 => ∃ idx C T N, decode (Y M).2.1 pc = .ok (.new idx, 3) ∧ nx = pc + 3 ∧ cl[a]? = some (C, T, N) ∧ Jvm.Cond.classLink (Y M).1.cls idx C ∈ Ts ∧ Jvm.Cond.instantiable C N ∈ Ts ∧ Jvm.Cond.initialized C ∈ Ts
  | 23 => nx = pc + 2 ∧ ((a = 0 ∧ decode (Y M).2.1 pc = .ok (.newarray .int, 2) ∧ Jvm.Cond.arrayClass .int ∈ Ts) ∨ (a = 1 ∧ decode (Y M).2.1 pc = .ok (.newarray .boolean, 2) ∧ Jvm.Cond.arrayClass .boolean ∈ Ts))
  | 24 => decode (Y M).2.1 pc = .ok (.arraylength, 1) ∧ nx = pc + 1
  | 25 => nx = pc + 1 ∧ ((a = 0 ∧ decode (Y M).2.1 pc = .ok (.iaload, 1)) ∨ (a = 1 ∧ decode (Y M).2.1 pc = .ok (.baload, 1)))
  | 26 => nx = pc + 1 ∧ ((a = 0 ∧ decode (Y M).2.1 pc = .ok (.iastore, 1)) ∨ (a = 1 ∧ decode (Y M).2.1 pc = .ok (.bastore, 1)))
  | 29 => decode (Y M).2.1 pc = .ok (.aconst_null, 1) ∧ nx = pc + 1
  | 30 => ∃ idx C T N, decode (Y M).2.1 pc = .ok (.checkcast idx, 3) ∧ nx = pc + 3 ∧ cl[a]? = some (C, T, N) ∧ Jvm.Cond.classLink (Y M).1.cls idx C ∈ Ts
  | 31 => ∃ idx, decode (Y M).2.1 pc = .ok (.invokespecial idx, 3) ∧ nx = pc + 3 ∧ Jvm.Cond.methodLink (Y M).1.cls idx Lib.objectInit ∈ Ts ∧ Jvm.Cond.instanceMethod Lib.objectInit ∈ Ts ∧ Jvm.Cond.code Lib.objectInit ⟨#[0xb1]⟩ 1 none ∈ Ts
  | 32 => ∃ idx, nx = pc + 3 ∧ am_okM P Y Ts a ∧ match c with
    | 0 => decode (Y M).2.1 pc = .ok (.invokestatic idx, 3) ∧ Jvm.Cond.code (Y a).1 (Y a).2.1 (P.2.2.1 a) (Y a).2.2 ∈ Ts ∧ Jvm.Cond.methodLink (Y M).1.cls idx (Y a).1 ∈ Ts ∧ Jvm.Cond.static (Y a).1 ∈ Ts ∧ ∀ sig, parseMethodDescriptor (Y a).1.desc = some sig → b = sig.parameters.length
    | 1 => decode (Y M).2.1 pc = .ok (.invokespecial idx, 3) ∧ Jvm.Cond.code (Y a).1 (Y a).2.1 (P.2.2.1 a) (Y a).2.2 ∈ Ts ∧ (Jvm.Cond.methodLink (Y M).1.cls idx (Y a).1 ∈ Ts ∨ ∃ host, Jvm.Cond.methodLinkNest (Y M).1.cls idx (Y a).1 host ∈ Ts) ∧ Jvm.Cond.instanceMethod (Y a).1 ∈ Ts ∧ (Y a).1.name = "<init>" ∧ (Y a).2.2 = none ∧ ∀ sig, parseMethodDescriptor (Y a).1.desc = some sig → b = sig.parameters.length + 1
    | k + 2 => ∃ C T N, cl[k]? = some (C, T, N) ∧ decode (Y M).2.1 pc = .ok (.invokevirtual idx, 3) ∧ Jvm.Cond.methodLink (Y M).1.cls idx (Y a).1 ∈ Ts ∧ Jvm.Cond.instanceMethod (Y a).1 ∈ Ts ∧ Jvm.Cond.selects C (Y a).1 (Y a).1 ∈ Ts ∧ ∀ sig, parseMethodDescriptor (Y a).1.desc = some sig → b = sig.parameters.length + 1
  | 33 => decode (Y M).2.1 pc = .ok (.ireturn, 1) ∧ (Y M).2.2 = some .int
  | 34 => decode (Y M).2.1 pc = .ok (.areturn, 1) ∧ ((∃ n, (Y M).2.2 = some (.object n)) ∨ ∃ t, (Y M).2.2 = some (.array t))
  | 35 => decode (Y M).2.1 pc = .ok (.return_, 1) ∧ (Y M).2.2 = none
  | 36 => decode (Y M).2.1 pc = .ok (.ireturn, 1) ∧ (Y M).2.2 = some .boolean
  | 37 => True
  | 38 => ∃ idx, decode (Y M).2.1 pc = .ok (.anewarray idx, 3) ∧ nx = pc + 3 ∧ Jvm.Cond.classLink (Y M).1.cls idx "java/lang/Object" ∈ Ts ∧ Jvm.Cond.arrayOver (.object "java/lang/Object") ∈ Ts
  | 39 => decode (Y M).2.1 pc = .ok (.aaload, 1) ∧ nx = pc + 1
  | 40 => decode (Y M).2.1 pc = .ok (.aastore, 1) ∧ nx = pc + 1 ∧ ∃ C T N, cl[a]? = some (C, T, N) ∧ Jvm.Cond.castable C "java/lang/Object" ∈ Ts
  | 41 => ∃ idx, decode (Y M).2.1 pc = .ok (.invokestatic idx, 3) ∧ nx = pc + 3 ∧ Jvm.Cond.methodLink (Y M).1.cls idx arraycopyName ∈ Ts ∧ Jvm.Cond.native arraycopyName ∈ Ts ∧ Jvm.Cond.static arraycopyName ∈ Ts ∧ Jvm.Cond.initialized "java/lang/System" ∈ Ts
  | 42 => ∃ idx, decode (Y M).2.1 pc = .ok (.invokestatic idx, 3) ∧ nx = pc + 3 ∧ Jvm.Cond.methodLink (Y M).1.cls idx arraycopyName ∈ Ts ∧ Jvm.Cond.native arraycopyName ∈ Ts ∧ Jvm.Cond.static arraycopyName ∈ Ts ∧ Jvm.Cond.initialized "java/lang/System" ∈ Ts ∧ ∃ C T N, cl[a]? = some (C, T, N) ∧ Jvm.Cond.castable C "java/lang/Object" ∈ Ts
  | 43 => ∃ idx, decode (Y M).2.1 pc = .ok (.getstatic idx, 3) ∧ nx = pc + 3 ∧ Jvm.Cond.fieldLink (Y M).1.cls idx am_AL am_EE am_ED ∈ Ts
  | 44 => ∃ idx, decode (Y M).2.1 pc = .ok (.invokevirtual idx, 3) ∧ nx = pc + 3 ∧ Jvm.Cond.methodLink (Y M).1.cls idx am_gC ∈ Ts ∧ Jvm.Cond.declares am_gC ∈ Ts ∧ Jvm.Cond.selects am_ED am_gC am_gC ∈ Ts ∧ Jvm.Cond.instanceMethod am_gC ∈ Ts ∧ Jvm.Cond.native am_gC ∈ Ts
  | 45 => ∃ idx, decode (Y M).2.1 pc = .ok (.ldc idx, 2) ∧ nx = pc + 2 ∧ Jvm.Cond.classLink (Y M).1.cls idx am_ED ∈ Ts
  | _ => False
/-- what the tables must say of a class -/
def am_okC (nb : Nat → List Value) (cl : List vw_C) (Ts : List Jvm.Cond) : Prop := ∀ (ci : Nat) (C : String) (T : u_T) (N : Nat), cl[ci]? = some (C, T, N) →
  (∀ w ∈ u_ws C T N, w ∈ Ts) ∧ (nb ci).length = N ∧ (∀ a, a < N → ∀ b, b < N → a ≠ b → (T a).2.1 ≠ (T b).2.1) ∧ (∀ v ∈ nb ci, v = .int 0 ∨ v = .null) ∧ ∃ ty : Nat → FieldType, (∀ k, k < N → parseFieldDescriptor (T k).2.2.1 = some (ty k)) ∧ ∀ j, j < N → defaultValue (ty j) = vp_V (nb ci) j
/-- the one handler of a method: it covers the place; its first instruction puts the reference into the local j, and the next one is at h -/
def am_Hn (P : am_P) (Y : am_Y) (Ts : List Jvm.Cond) (c : Code) (M pc h j : Nat) : Prop := ∃ x : ExceptionTableEntry, c.exceptionTable.toList = [x] ∧ covers x pc = true ∧ x.catchType ≠ 0 ∧ Jvm.Cond.classLink (Y M).1.cls x.catchType am_ise ∈ Ts ∧ (∃ k : Fin 4, decode (Y M).2.1 x.handlerPc = .ok (.astore_n k, 1) ∧ (k : Nat) = j) ∧ h = x.handlerPc + 1 ∧ j < P.2.2.1 M
/-- the method M's own frame: the code, the words, the room (frames d, cells mc, slots ms) -/
def am_Act (P : am_P) (Y : am_Y) (Ts : List Jvm.Cond) (p : Program) (R : Room) (s : State) (m : MethodId) (args : Array Value) (meth : Method) (c : Code) (M d mc ms : Nat) : Prop :=
  p.tables.exec = Jvm.exec ∧ c.code = (Y M).2.1 ∧ c.maxLocals = P.2.2.1 M ∧ s.vm.findClass (Y M).1.cls = some m.cls ∧ (∀ w ∈ Ts, w.before args s = true) ∧ meth.sig.returnType = (Y M).2.2 ∧ meth.locks = false ∧ meth.name = (Y M).1.name ∧
  R.frames = d ∧ R.cells = mc ∧ R.slots = ms ∧ R.locals = 41 * d ∧ (∀ pc, P.2.2.2.1 M pc = none → ∀ x ∈ c.exceptionTable.toList, covers x pc = false) ∧ ∀ pc h j, P.2.2.2.1 M pc = some (h, j) → am_Hn P Y Ts c M pc h j
/-- where the walk of a method stands: heap and cells, locals, counts -/
def am_St (em : Int64 → Nat) (D : va_G) (cl : List vw_C) (Zs : (Nat → Prop) → State → Heap → Prop) (A : Nat → Prop) (s : State) (H : Heap) (locs : List Loc) (cells slots : Nat) (ad : Nat → Nat) (ca : Nat → ClassId) (tys : List (ClassId × FieldType)) (lsA : Array Slot) (nL : Nat) (ls : am_V) (st : List Value) (S : am_S) (c0 z0 : Nat) : Prop :=
  am_Rl em D cl A s ad ca tys S.1 H ∧ va_S A s.heap H locs ∧ Zs A s s.heap ∧ am_lo em nL lsA ad ls ∧ am_okl S.1.length ls ∧ (∀ v ∈ st, am_okv S.1.length v) ∧ c0 + cells = S.2.1 ∧ z0 + slots = S.2.2
end
section
/-! EACH SMALL INSTRUCTION IS WHAT THE MACHINE DOES (no call, no end) -/
/-- facts of the heap outside a method's own cells: kept by what it does there, carried along by warmer tables, and true of fewer cells -/
def am_Zp (Zs : (Nat → Prop) → State → Heap → Prop) : Prop := (∀ (A : Nat → Prop) (U : State) (H H1 : Heap), Zs A U H → (∀ q : Nat, q < H.size → ¬ A q → H1[q]? = H[q]?) → H.size ≤ H1.size → Zs A U H1) ∧ (∀ (A : Nat → Prop) (u U : State) (H : Heap), u.WarmedH U.vm → Zs A u H → Zs A U H) ∧ ∀ (A B : Nat → Prop) (U : State) (H : Heap), (∀ q, B q → A q) → Zs A U H → Zs B U H
theorem am_oc {n : Nat} {v : Value} {st : List Value} (hv : am_okv n v) (hs : ∀ w ∈ st, am_okv n w) : ∀ w ∈ v :: st, am_okv n w := List.forall_mem_cons.mpr ⟨hv, hs⟩
/-- the walk from the next place on -/
def am_K (p : Program) (l : Launch) (e : Env) (R : Room) (s : State) (m : MethodId) (args : Array Value) (below : List Frame) (meth : Method) (c : Code) (Q : State → Prop) (em : Int64 → Nat) (D : va_G) (cl : List vw_C) (Zs : (Nat → Prop) → State → Heap → Prop) (A : Nat → Prop) (nL c0 z0 : Nat) (ad : Nat → Nat) (n pc : Nat) (ls : am_V) (st : List Value) (S : am_S) : Prop :=
  ∀ (H : Heap) (locs : List Loc) (cells slots : Nat) (ad' : Nat → Nat) (ca : Nat → ClassId) (tys : List (ClassId × FieldType)) (lsA : Array Slot), (∀ k, k < n → ad' k = ad k) → am_St em D cl Zs A s H locs cells slots ad' ca tys lsA nL ls st S c0 z0 → W p l e R s m args below meth c H locs cells slots Q (F0 m pc lsA (st.map (am_v em ad')))
section AM3
variable {em : Int64 → Nat} {P : am_P} {Y : am_Y} {D : va_G} {cl : List vw_C} {Ts : List Jvm.Cond} {Zs : (Nat → Prop) → State → Heap → Prop}
variable {p : Program} {l : Launch} {e : Env} {R : Room} {s : State} {m : MethodId} {args : Array Value} {below : List Frame} {meth : Method} {c : Code} {H : Heap} {locs : List Loc} {cells slots : Nat} {Q : State → Prop}
variable {A : Nat → Prop} {ad : Nat → Nat} {ca : Nat → ClassId} {tys : List (ClassId × FieldType)} {lsA : Array Slot} {ls ls' : am_V} {st st' : List Value} {S S1 : am_S} {c0 z0 mc ms M d pc pc' nx a b k n0 : Nat} {x : Int32} {tab : List (Int32 × Nat)}
theorem am_s0 (act : am_Act P Y Ts p R s m args meth c M d mc ms) (hk : am_okI P Y cl Ts M pc 0 a b k x nx tab) (hd : am_do P.2.1 P.2.2.2.2 0 a b k x nx tab d ls st S = some (pc', ls', st', S1)) (h : am_St em D cl Zs A s H locs cells slots ad ca tys lsA (P.2.2.1 M) ls st S c0 z0)
    (kk : am_K p l e R s m args below meth c Q em D cl Zs A (P.2.2.1 M) c0 z0 ad S.1.length pc' ls' st' S1) : W p l e R s m args below meth c H locs cells slots Q (F0 m pc lsA (st.map (am_v em ad))) := by
  obtain ⟨hx, hb, hml, hown, hts, hr, hlk, hnm, hRf, hRc, hRs, hRl, hexc, hhn⟩ := id act
  obtain ⟨hRl0, hS, hZ, hlo, hol, hos, hc, hz⟩ := id h
  simp only [am_do] at hd
  simp only [am_okI] at hk
  cases hd
  have h1 : am_St em D cl Zs A s H locs cells slots ad ca tys lsA (P.2.2.1 M) ls (.int x :: st) S c0 z0 := ⟨hRl0, hS, hZ, hlo, hol, am_oc trivial hos, hc, hz⟩
  rcases hk with ⟨n, hdg, hv, rfl⟩ | ⟨n, hdg, hv, rfl⟩ | ⟨n, hdg, hv, rfl⟩ | ⟨n, hdg, hv, rfl⟩
  · exact lv_iconst hx hb hdg hv (kk _ _ _ _ _ _ _ _ (fun _ _ => rfl) h1)
  · exact lv_bipush hx hb hdg hv (kk _ _ _ _ _ _ _ _ (fun _ _ => rfl) h1)
  · exact lv_sipush hx hb hdg hv (kk _ _ _ _ _ _ _ _ (fun _ _ => rfl) h1)
  · exact lv_ldc hx hb hown (hts _ hv) hdg (kk _ _ _ _ _ _ _ _ (fun _ _ => rfl) h1)
theorem am_s1 (act : am_Act P Y Ts p R s m args meth c M d mc ms) (hk : am_okI P Y cl Ts M pc 1 a b k x nx tab) (hd : am_do P.2.1 P.2.2.2.2 1 a b k x nx tab d ls st S = some (pc', ls', st', S1)) (h : am_St em D cl Zs A s H locs cells slots ad ca tys lsA (P.2.2.1 M) ls st S c0 z0)
    (kk : am_K p l e R s m args below meth c Q em D cl Zs A (P.2.2.1 M) c0 z0 ad S.1.length pc' ls' st' S1) : W p l e R s m args below meth c H locs cells slots Q (F0 m pc lsA (st.map (am_v em ad))) := by
  obtain ⟨hx, hb, hml, hown, hts, hr, hlk, hnm, hRf, hRc, hRs, hRl, hexc, hhn⟩ := id act
  obtain ⟨hRl0, hS, hZ, hlo, hol, hos, hc, hz⟩ := id h
  simp only [am_do] at hd
  simp only [am_okI] at hk
  split at hd
  · rename_i v hv
    cases hd
    have h1 : am_St em D cl Zs A s H locs cells slots ad ca tys lsA (P.2.2.1 M) ls (.int v :: st) S c0 z0 := ⟨hRl0, hS, hZ, hlo, hol, am_oc trivial hos, hc, hz⟩
    rcases hk with ⟨n, hdg, hn, rfl⟩ | ⟨hdg, rfl⟩
    · exact lv_iload_n hx hb hdg hn (hlo.at hv) (kk _ _ _ _ _ _ _ _ (fun _ _ => rfl) h1)
    · exact lv_iload hx hb hdg (hlo.at hv) (kk _ _ _ _ _ _ _ _ (fun _ _ => rfl) h1)
  · cases hd
theorem am_s2 (act : am_Act P Y Ts p R s m args meth c M d mc ms) (hk : am_okI P Y cl Ts M pc 2 a b k x nx tab) (hd : am_do P.2.1 P.2.2.2.2 2 a b k x nx tab d ls st S = some (pc', ls', st', S1)) (h : am_St em D cl Zs A s H locs cells slots ad ca tys lsA (P.2.2.1 M) ls st S c0 z0)
    (kk : am_K p l e R s m args below meth c Q em D cl Zs A (P.2.2.1 M) c0 z0 ad S.1.length pc' ls' st' S1) : W p l e R s m args below meth c H locs cells slots Q (F0 m pc lsA (st.map (am_v em ad))) := by
  obtain ⟨hx, hb, hml, hown, hts, hr, hlk, hnm, hRf, hRc, hRs, hRl, hexc, hhn⟩ := id act
  obtain ⟨hRl0, hS, hZ, hlo, hol, hos, hc, hz⟩ := id h
  simp only [am_do] at hd
  simp only [am_okI] at hk
  split at hd
  · rename_i v hv
    cases hd
    have h1 : am_St em D cl Zs A s H locs cells slots ad ca tys lsA (P.2.2.1 M) ls (.ref v :: st) S c0 z0 := ⟨hRl0, hS, hZ, hlo, hol, am_oc (hol _ _ hv) hos, hc, hz⟩
    rcases hk with ⟨n, hdg, hn, rfl⟩ | ⟨hdg, rfl⟩
    · exact lv_aload_n hx hb hdg hn (hlo.at hv) (kk _ _ _ _ _ _ _ _ (fun _ _ => rfl) h1)
    · exact lv_aload hx hb hdg (hlo.at hv) (kk _ _ _ _ _ _ _ _ (fun _ _ => rfl) h1)
  · rename_i hv
    cases hd
    have h1 : am_St em D cl Zs A s H locs cells slots ad ca tys lsA (P.2.2.1 M) ls (.null :: st) S c0 z0 := ⟨hRl0, hS, hZ, hlo, hol, am_oc trivial hos, hc, hz⟩
    rcases hk with ⟨n, hdg, hn, rfl⟩ | ⟨hdg, rfl⟩
    · exact lv_aload_nN hx hb hdg hn (hlo.at hv) (kk _ _ _ _ _ _ _ _ (fun _ _ => rfl) h1)
    · exact lv_aloadN hx hb hdg (hlo.at hv) (kk _ _ _ _ _ _ _ _ (fun _ _ => rfl) h1)
  · rename_i v hv
    cases hd
    have h1 : am_St em D cl Zs A s H locs cells slots ad ca tys lsA (P.2.2.1 M) ls (.long v :: st) S c0 z0 := ⟨hRl0, hS, hZ, hlo, hol, am_oc (hol _ _ hv) hos, hc, hz⟩
    rcases hk with ⟨n, hdg, hn, rfl⟩ | ⟨hdg, rfl⟩
    · exact lv_aload_n hx hb hdg hn (hlo.at hv) (kk _ _ _ _ _ _ _ _ (fun _ _ => rfl) h1)
    · exact lv_aload hx hb hdg (hlo.at hv) (kk _ _ _ _ _ _ _ _ (fun _ _ => rfl) h1)
  · cases hd
theorem am_s3 (act : am_Act P Y Ts p R s m args meth c M d mc ms) (hk : am_okI P Y cl Ts M pc 3 a b k x nx tab) (hd : am_do P.2.1 P.2.2.2.2 3 a b k x nx tab d ls st S = some (pc', ls', st', S1)) (h : am_St em D cl Zs A s H locs cells slots ad ca tys lsA (P.2.2.1 M) ls st S c0 z0)
    (kk : am_K p l e R s m args below meth c Q em D cl Zs A (P.2.2.1 M) c0 z0 ad S.1.length pc' ls' st' S1) : W p l e R s m args below meth c H locs cells slots Q (F0 m pc lsA (st.map (am_v em ad))) := by
  obtain ⟨hx, hb, hml, hown, hts, hr, hlk, hnm, hRf, hRc, hRs, hRl, hexc, hhn⟩ := id act
  obtain ⟨hRl0, hS, hZ, hlo, hol, hos, hc, hz⟩ := id h
  simp only [am_do] at hd
  simp only [am_okI] at hk
  split at hd
  · rename_i v r
    split at hd
    · rename_i ha
      cases hd
      have hcat : ∀ w, ls[a - 1]? = some (some w) → (am_v em ad w).category = 1 := fun w hw => am_cat (em := em) ad (hol _ _ hw)
      have h1 : ∀ lsA', lv_has lsA' (P.2.2.1 M) ((a, .int v) :: (am_al em ad ls).filter (fun q => !(q.1 == a) && !(q.1 + 1 == a && q.2.category == 2))) → am_St em D cl Zs A s H locs cells slots ad ca tys lsA' (P.2.2.1 M) (ls.set a (some (.int v))) st' S c0 z0 := fun lsA' h' =>
        ⟨hRl0, hS, hZ, hlo.set (v := .int v) hcat h', hol.set trivial, fun w hw => hos w (List.mem_cons_of_mem _ hw), hc, hz⟩
      rcases hk with ⟨n, hdg, hn, rfl⟩ | ⟨hdg, rfl⟩
      · exact lv_istore_n hx hb hdg hn hlo.1 (by rw [← hlo.2]; exact ha) rfl (fun lsA' h' => kk _ _ _ _ _ _ _ _ (fun _ _ => rfl) (h1 lsA' h'))
      · exact lv_istore hx hb hdg hlo.1 (by rw [← hlo.2]; exact ha) rfl (fun lsA' h' => kk _ _ _ _ _ _ _ _ (fun _ _ => rfl) (h1 lsA' h'))
    · cases hd
  · cases hd
theorem am_s4 (act : am_Act P Y Ts p R s m args meth c M d mc ms) (hk : am_okI P Y cl Ts M pc 4 a b k x nx tab) (hd : am_do P.2.1 P.2.2.2.2 4 a b k x nx tab d ls st S = some (pc', ls', st', S1)) (h : am_St em D cl Zs A s H locs cells slots ad ca tys lsA (P.2.2.1 M) ls st S c0 z0)
    (kk : am_K p l e R s m args below meth c Q em D cl Zs A (P.2.2.1 M) c0 z0 ad S.1.length pc' ls' st' S1) : W p l e R s m args below meth c H locs cells slots Q (F0 m pc lsA (st.map (am_v em ad))) := by
  obtain ⟨hx, hb, hml, hown, hts, hr, hlk, hnm, hRf, hRc, hRs, hRl, hexc, hhn⟩ := id act
  obtain ⟨hRl0, hS, hZ, hlo, hol, hos, hc, hz⟩ := id h
  simp only [am_do] at hd
  simp only [am_okI] at hk
  split at hd
  · rename_i v r
    split at hd
    · rename_i ha
      cases hd
      have hcat : ∀ w, ls[a - 1]? = some (some w) → (am_v em ad w).category = 1 := fun w hw => am_cat (em := em) ad (hol _ _ hw)
      have h1 : ∀ lsA', lv_has lsA' (P.2.2.1 M) ((a, .ref (ad v)) :: (am_al em ad ls).filter (fun q => !(q.1 == a) && !(q.1 + 1 == a && q.2.category == 2))) → am_St em D cl Zs A s H locs cells slots ad ca tys lsA' (P.2.2.1 M) (ls.set a (some (.ref v))) st' S c0 z0 := fun lsA' h' =>
        ⟨hRl0, hS, hZ, hlo.set (v := .ref v) hcat h', hol.set (hos _ List.mem_cons_self), fun w hw => hos w (List.mem_cons_of_mem _ hw), hc, hz⟩
      rcases hk with ⟨n, hdg, hn, rfl⟩ | ⟨hdg, rfl⟩
      · exact lv_astore_n hx hb hdg hn hlo.1 (by rw [← hlo.2]; exact ha) rfl (fun lsA' h' => kk _ _ _ _ _ _ _ _ (fun _ _ => rfl) (h1 lsA' h'))
      · exact lv_astore hx hb hdg hlo.1 (by rw [← hlo.2]; exact ha) rfl (fun lsA' h' => kk _ _ _ _ _ _ _ _ (fun _ _ => rfl) (h1 lsA' h'))
    · cases hd
  · rename_i r
    split at hd
    · rename_i ha
      cases hd
      have hcat : ∀ w, ls[a - 1]? = some (some w) → (am_v em ad w).category = 1 := fun w hw => am_cat (em := em) ad (hol _ _ hw)
      have h1 : ∀ lsA', lv_has lsA' (P.2.2.1 M) ((a, .null) :: (am_al em ad ls).filter (fun q => !(q.1 == a) && !(q.1 + 1 == a && q.2.category == 2))) → am_St em D cl Zs A s H locs cells slots ad ca tys lsA' (P.2.2.1 M) (ls.set a (some .null)) st' S c0 z0 := fun lsA' h' =>
        ⟨hRl0, hS, hZ, hlo.set (v := .null) hcat h', hol.set trivial, fun w hw => hos w (List.mem_cons_of_mem _ hw), hc, hz⟩
      rcases hk with ⟨n, hdg, hn, rfl⟩ | ⟨hdg, rfl⟩
      · exact lv_astore_nN hx hb hdg hn hlo.1 (by rw [← hlo.2]; exact ha) rfl (fun lsA' h' => kk _ _ _ _ _ _ _ _ (fun _ _ => rfl) (h1 lsA' h'))
      · exact lv_astoreN hx hb hdg hlo.1 (by rw [← hlo.2]; exact ha) rfl (fun lsA' h' => kk _ _ _ _ _ _ _ _ (fun _ _ => rfl) (h1 lsA' h'))
    · cases hd
  · rename_i v r
    split at hd
    · rename_i ha
      cases hd
      have hcat : ∀ w, ls[a - 1]? = some (some w) → (am_v em ad w).category = 1 := fun w hw => am_cat (em := em) ad (hol _ _ hw)
      have h1 : ∀ lsA', lv_has lsA' (P.2.2.1 M) ((a, .ref (em v)) :: (am_al em ad ls).filter (fun q => !(q.1 == a) && !(q.1 + 1 == a && q.2.category == 2))) → am_St em D cl Zs A s H locs cells slots ad ca tys lsA' (P.2.2.1 M) (ls.set a (some (.long v))) st' S c0 z0 := fun lsA' h' =>
        ⟨hRl0, hS, hZ, hlo.set (v := .long v) hcat h', hol.set trivial, fun w hw => hos w (List.mem_cons_of_mem _ hw), hc, hz⟩
      rcases hk with ⟨n, hdg, hn, rfl⟩ | ⟨hdg, rfl⟩
      · exact lv_astore_n hx hb hdg hn hlo.1 (by rw [← hlo.2]; exact ha) rfl (fun lsA' h' => kk _ _ _ _ _ _ _ _ (fun _ _ => rfl) (h1 lsA' h'))
      · exact lv_astore hx hb hdg hlo.1 (by rw [← hlo.2]; exact ha) rfl (fun lsA' h' => kk _ _ _ _ _ _ _ _ (fun _ _ => rfl) (h1 lsA' h'))
    · cases hd
  · cases hd
theorem am_s5 (act : am_Act P Y Ts p R s m args meth c M d mc ms) (hk : am_okI P Y cl Ts M pc 5 a b k x nx tab) (hd : am_do P.2.1 P.2.2.2.2 5 a b k x nx tab d ls st S = some (pc', ls', st', S1)) (h : am_St em D cl Zs A s H locs cells slots ad ca tys lsA (P.2.2.1 M) ls st S c0 z0)
    (kk : am_K p l e R s m args below meth c Q em D cl Zs A (P.2.2.1 M) c0 z0 ad S.1.length pc' ls' st' S1) : W p l e R s m args below meth c H locs cells slots Q (F0 m pc lsA (st.map (am_v em ad))) := by
  obtain ⟨hx, hb, hml, hown, hts, hr, hlk, hnm, hRf, hRc, hRs, hRl, hexc, hhn⟩ := id act
  obtain ⟨hRl0, hS, hZ, hlo, hol, hos, hc, hz⟩ := id h
  simp only [am_do] at hd
  simp only [am_okI] at hk
  split at hd
  · rename_i v hv
    cases hd
    have ha : a < ls.length := (List.getElem?_eq_some_iff.mp hv).1
    have hcat : ∀ w, ls[a - 1]? = some (some w) → (am_v em ad w).category = 1 := fun w hw => am_cat (em := em) ad (hol _ _ hw)
    obtain ⟨n, hdg, rfl, rfl⟩ := hk
    obtain ⟨j, hj⟩ := List.getElem?_of_mem (am_al_mem (ad := ad) (q := (a, .int v)) |>.mpr ⟨.int v, hv, rfl⟩)
    exact lv_iinc hx hb hdg hlo.1 hj rfl (by rw [← hlo.2]; exact ha) rfl (fun lsA' h' => kk _ _ _ _ _ _ _ _ (fun _ _ => rfl) ⟨hRl0, hS, hZ, hlo.set (v := .int (v + Int32.ofInt n)) hcat h', hol.set trivial, hos, hc, hz⟩)
  · cases hd
theorem am_s6 (act : am_Act P Y Ts p R s m args meth c M d mc ms) (hk : am_okI P Y cl Ts M pc 6 a b k x nx tab) (hd : am_do P.2.1 P.2.2.2.2 6 a b k x nx tab d ls st S = some (pc', ls', st', S1)) (h : am_St em D cl Zs A s H locs cells slots ad ca tys lsA (P.2.2.1 M) ls st S c0 z0)
    (kk : am_K p l e R s m args below meth c Q em D cl Zs A (P.2.2.1 M) c0 z0 ad S.1.length pc' ls' st' S1) : W p l e R s m args below meth c H locs cells slots Q (F0 m pc lsA (st.map (am_v em ad))) := by
  obtain ⟨hx, hb, hml, hown, hts, hr, hlk, hnm, hRf, hRc, hRs, hRl, hexc, hhn⟩ := id act
  obtain ⟨hRl0, hS, hZ, hlo, hol, hos, hc, hz⟩ := id h
  simp only [am_do] at hd
  simp only [am_okI] at hk
  obtain ⟨hdg, rfl⟩ := hk
  have h1 : ∀ v r, st = v :: r → am_St em D cl Zs A s H locs cells slots ad ca tys lsA (P.2.2.1 M) ls r S c0 z0 := fun v r e => ⟨hRl0, hS, hZ, hlo, hol, fun w hw => hos w (by rw [e]; exact List.mem_cons_of_mem _ hw), hc, hz⟩
  split at hd
  · cases hd; exact lv_pop hx hb hdg rfl (kk _ _ _ _ _ _ _ _ (fun _ _ => rfl) (h1 _ _ rfl))
  · cases hd; exact lv_pop hx hb hdg rfl (kk _ _ _ _ _ _ _ _ (fun _ _ => rfl) (h1 _ _ rfl))
  · cases hd; exact lv_pop hx hb hdg rfl (kk _ _ _ _ _ _ _ _ (fun _ _ => rfl) (h1 _ _ rfl))
  · cases hd; exact lv_pop hx hb hdg rfl (kk _ _ _ _ _ _ _ _ (fun _ _ => rfl) (h1 _ _ rfl))
  · cases hd
theorem am_s7 (act : am_Act P Y Ts p R s m args meth c M d mc ms) (hk : am_okI P Y cl Ts M pc 7 a b k x nx tab) (hd : am_do P.2.1 P.2.2.2.2 7 a b k x nx tab d ls st S = some (pc', ls', st', S1)) (h : am_St em D cl Zs A s H locs cells slots ad ca tys lsA (P.2.2.1 M) ls st S c0 z0)
    (kk : am_K p l e R s m args below meth c Q em D cl Zs A (P.2.2.1 M) c0 z0 ad S.1.length pc' ls' st' S1) : W p l e R s m args below meth c H locs cells slots Q (F0 m pc lsA (st.map (am_v em ad))) := by
  obtain ⟨hx, hb, hml, hown, hts, hr, hlk, hnm, hRf, hRc, hRs, hRl, hexc, hhn⟩ := id act
  obtain ⟨hRl0, hS, hZ, hlo, hol, hos, hc, hz⟩ := id h
  simp only [am_do] at hd
  simp only [am_okI] at hk
  obtain ⟨hdg, rfl⟩ := hk
  have h1 : ∀ v r, st = v :: r → am_St em D cl Zs A s H locs cells slots ad ca tys lsA (P.2.2.1 M) ls (v :: v :: r) S c0 z0 := fun v r e => ⟨hRl0, hS, hZ, hlo, hol, fun w hw => by
    rcases List.mem_cons.mp hw with rfl | hw
    · exact hos _ (by rw [e]; exact List.mem_cons_self)
    · exact hos w (by rw [e]; exact hw), hc, hz⟩
  split at hd
  · cases hd; exact lv_dup hx hb hdg rfl (kk _ _ _ _ _ _ _ _ (fun _ _ => rfl) (h1 _ _ rfl))
  · cases hd; exact lv_dup hx hb hdg rfl (kk _ _ _ _ _ _ _ _ (fun _ _ => rfl) (h1 _ _ rfl))
  · cases hd
theorem am_s8 (act : am_Act P Y Ts p R s m args meth c M d mc ms) (hk : am_okI P Y cl Ts M pc 8 a b k x nx tab) (hd : am_do P.2.1 P.2.2.2.2 8 a b k x nx tab d ls st S = some (pc', ls', st', S1)) (h : am_St em D cl Zs A s H locs cells slots ad ca tys lsA (P.2.2.1 M) ls st S c0 z0)
    (kk : am_K p l e R s m args below meth c Q em D cl Zs A (P.2.2.1 M) c0 z0 ad S.1.length pc' ls' st' S1) : W p l e R s m args below meth c H locs cells slots Q (F0 m pc lsA (st.map (am_v em ad))) := by
  obtain ⟨hx, hb, hml, hown, hts, hr, hlk, hnm, hRf, hRc, hRs, hRl, hexc, hhn⟩ := id act
  obtain ⟨hRl0, hS, hZ, hlo, hol, hos, hc, hz⟩ := id h
  simp only [am_do] at hd
  simp only [am_okI] at hk
  obtain ⟨hdg, rfl⟩ := hk
  split at hd
  · rename_i v w r
    cases hd
    refine lv_dup2_11 hx hb hdg rfl rfl (kk _ _ _ _ _ _ _ _ (fun _ _ => rfl) ⟨hRl0, hS, hZ, hlo, hol, fun u hu => ?_, hc, hz⟩)
    rcases List.mem_cons.mp hu with rfl | hu
    · trivial
    · rcases List.mem_cons.mp hu with rfl | hu
      · exact hos _ (List.mem_cons_of_mem _ List.mem_cons_self)
      · exact hos u hu
  · cases hd
theorem am_s9 (act : am_Act P Y Ts p R s m args meth c M d mc ms) (hk : am_okI P Y cl Ts M pc 9 a b k x nx tab) (hd : am_do P.2.1 P.2.2.2.2 9 a b k x nx tab d ls st S = some (pc', ls', st', S1)) (h : am_St em D cl Zs A s H locs cells slots ad ca tys lsA (P.2.2.1 M) ls st S c0 z0)
    (kk : am_K p l e R s m args below meth c Q em D cl Zs A (P.2.2.1 M) c0 z0 ad S.1.length pc' ls' st' S1) : W p l e R s m args below meth c H locs cells slots Q (F0 m pc lsA (st.map (am_v em ad))) := by
  obtain ⟨hx, hb, hml, hown, hts, hr, hlk, hnm, hRf, hRc, hRs, hRl, hexc, hhn⟩ := id act
  obtain ⟨hRl0, hS, hZ, hlo, hol, hos, hc, hz⟩ := id h
  simp only [am_do] at hd
  simp only [am_okI] at hk
  obtain ⟨hdg, rfl⟩ := hk
  split at hd
  · rename_i v w r
    cases hd
    refine lv_dup_x1 hx hb hdg (am_cat (em := em) ad (hos v List.mem_cons_self)) (am_cat (em := em) ad (hos w (List.mem_cons_of_mem _ List.mem_cons_self))) (kk _ _ _ _ _ _ _ _ (fun _ _ => rfl) ⟨hRl0, hS, hZ, hlo, hol, fun u hu => ?_, hc, hz⟩)
    rcases List.mem_cons.mp hu with rfl | hu
    · exact hos _ List.mem_cons_self
    · rcases List.mem_cons.mp hu with rfl | hu
      · exact hos _ (List.mem_cons_of_mem _ List.mem_cons_self)
      · rcases List.mem_cons.mp hu with rfl | hu
        · exact hos _ List.mem_cons_self
        · exact hos u (List.mem_cons_of_mem _ (List.mem_cons_of_mem _ hu))
  · cases hd
theorem am_s10 (act : am_Act P Y Ts p R s m args meth c M d mc ms) (hk : am_okI P Y cl Ts M pc 10 a b k x nx tab) (hd : am_do P.2.1 P.2.2.2.2 10 a b k x nx tab d ls st S = some (pc', ls', st', S1)) (h : am_St em D cl Zs A s H locs cells slots ad ca tys lsA (P.2.2.1 M) ls st S c0 z0)
    (kk : am_K p l e R s m args below meth c Q em D cl Zs A (P.2.2.1 M) c0 z0 ad S.1.length pc' ls' st' S1) : W p l e R s m args below meth c H locs cells slots Q (F0 m pc lsA (st.map (am_v em ad))) := by
  obtain ⟨hx, hb, hml, hown, hts, hr, hlk, hnm, hRf, hRc, hRs, hRl, hexc, hhn⟩ := id act
  obtain ⟨hRl0, hS, hZ, hlo, hol, hos, hc, hz⟩ := id h
  simp only [am_do] at hd
  simp only [am_okI] at hk
  obtain ⟨rfl, hk⟩ := hk
  split at hd
  · rename_i w v r
    cases hd
    have h1 : am_St em D cl Zs A s H locs cells slots ad ca tys lsA (P.2.2.1 M) ls (.int (am_bin a v w) :: r) S c0 z0 := ⟨hRl0, hS, hZ, hlo, hol, fun u hu => by
      rcases List.mem_cons.mp hu with rfl | hu
      · trivial
      · exact hos u (List.mem_cons_of_mem _ (List.mem_cons_of_mem _ hu)), hc, hz⟩
    have kk1 := kk _ _ _ _ _ _ _ _ (fun _ _ => rfl) h1
    match a, hk, kk1 with
    | 0, hdg, kk1 => exact lv_iadd hx hb hdg kk1
    | 1, hdg, kk1 => exact lv_isub hx hb hdg kk1
    | 2, hdg, kk1 => exact lv_imul hx hb hdg kk1
    | 3, hdg, kk1 => exact lv_iand hx hb hdg kk1
    | 4, hdg, kk1 => exact lv_ior hx hb hdg kk1
    | 5, hdg, kk1 => exact lv_ishr hx hb hdg kk1
    | n + 6, hdg, _ => exact hdg.elim
  · cases hd
theorem am_s11 (act : am_Act P Y Ts p R s m args meth c M d mc ms) (hk : am_okI P Y cl Ts M pc 11 a b k x nx tab) (hd : am_do P.2.1 P.2.2.2.2 11 a b k x nx tab d ls st S = some (pc', ls', st', S1)) (h : am_St em D cl Zs A s H locs cells slots ad ca tys lsA (P.2.2.1 M) ls st S c0 z0)
    (kk : am_K p l e R s m args below meth c Q em D cl Zs A (P.2.2.1 M) c0 z0 ad S.1.length pc' ls' st' S1) : W p l e R s m args below meth c H locs cells slots Q (F0 m pc lsA (st.map (am_v em ad))) := by
  obtain ⟨hx, hb, hml, hown, hts, hr, hlk, hnm, hRf, hRc, hRs, hRl, hexc, hhn⟩ := id act
  obtain ⟨hRl0, hS, hZ, hlo, hol, hos, hc, hz⟩ := id h
  simp only [am_do] at hd
  simp only [am_okI] at hk
  obtain ⟨hdg, rfl⟩ := hk
  split at hd
  · rename_i v r
    cases hd
    exact lv_ineg hx hb hdg (kk _ _ _ _ _ _ _ _ (fun _ _ => rfl) ⟨hRl0, hS, hZ, hlo, hol, fun u hu => by
      rcases List.mem_cons.mp hu with rfl | hu
      · trivial
      · exact hos u (List.mem_cons_of_mem _ hu), hc, hz⟩)
  · cases hd
theorem am_s12 (act : am_Act P Y Ts p R s m args meth c M d mc ms) (hk : am_okI P Y cl Ts M pc 12 a b k x nx tab) (hd : am_do P.2.1 P.2.2.2.2 12 a b k x nx tab d ls st S = some (pc', ls', st', S1)) (h : am_St em D cl Zs A s H locs cells slots ad ca tys lsA (P.2.2.1 M) ls st S c0 z0)
    (kk : am_K p l e R s m args below meth c Q em D cl Zs A (P.2.2.1 M) c0 z0 ad S.1.length pc' ls' st' S1) : W p l e R s m args below meth c H locs cells slots Q (F0 m pc lsA (st.map (am_v em ad))) := by
  obtain ⟨hx, hb, hml, hown, hts, hr, hlk, hnm, hRf, hRc, hRs, hRl, hexc, hhn⟩ := id act
  obtain ⟨hRl0, hS, hZ, hlo, hol, hos, hc, hz⟩ := id h
  simp only [am_do] at hd
  simp only [am_okI] at hk
  obtain ⟨off, hdg, ht, rfl, ha⟩ := hk
  split at hd
  · rename_i v r
    cases hd
    have h1 : am_St em D cl Zs A s H locs cells slots ad ca tys lsA (P.2.2.1 M) ls st' S c0 z0 := ⟨hRl0, hS, hZ, hlo, hol, fun w hw => hos w (List.mem_cons_of_mem _ hw), hc, hz⟩
    have kk1 := kk _ _ _ _ _ _ _ _ (fun _ _ => rfl) h1
    match a, ha, hdg, kk1 with
    | 0, _, hdg, kk1 => exact lv_if_eq hx hb hdg ht (fun q => by rwa [if_pos (by simp [am_cmp, q])] at kk1) (fun q => by rwa [if_neg (by simp [am_cmp, q])] at kk1)
    | 1, _, hdg, kk1 => exact lv_if_ne hx hb hdg ht (fun q => by rwa [if_pos (by simp [am_cmp, q])] at kk1) (fun q => by rwa [if_neg (by simp [am_cmp, q])] at kk1)
    | 2, _, hdg, kk1 => exact lv_if_lt hx hb hdg ht (fun q => by rwa [if_pos (show am_cmp 2 v 0 = true from decide_eq_true q)] at kk1) (fun q => by rwa [if_neg (show ¬ am_cmp 2 v 0 = true from fun z => q (of_decide_eq_true z))] at kk1)
    | 3, _, hdg, kk1 => exact lv_if_ge hx hb hdg ht (fun q => by rwa [if_pos (show am_cmp 3 v 0 = true from decide_eq_true q)] at kk1) (fun q => by rwa [if_neg (show ¬ am_cmp 3 v 0 = true from fun z => q (of_decide_eq_true z))] at kk1)
    | 4, _, hdg, kk1 => exact lv_if_gt hx hb hdg ht (fun q => by rwa [if_pos (show am_cmp 4 v 0 = true from decide_eq_true q)] at kk1) (fun q => by rwa [if_neg (show ¬ am_cmp 4 v 0 = true from fun z => q (of_decide_eq_true z))] at kk1)
    | 5, _, hdg, kk1 => exact lv_if_le hx hb hdg ht (fun q => by rwa [if_pos (show am_cmp 5 v 0 = true from decide_eq_true q)] at kk1) (fun q => by rwa [if_neg (show ¬ am_cmp 5 v 0 = true from fun z => q (of_decide_eq_true z))] at kk1)
    | n + 6, ha, _, _ => exact absurd ha (by omega)
  · cases hd
theorem am_s13 (act : am_Act P Y Ts p R s m args meth c M d mc ms) (hk : am_okI P Y cl Ts M pc 13 a b k x nx tab) (hd : am_do P.2.1 P.2.2.2.2 13 a b k x nx tab d ls st S = some (pc', ls', st', S1)) (h : am_St em D cl Zs A s H locs cells slots ad ca tys lsA (P.2.2.1 M) ls st S c0 z0)
    (kk : am_K p l e R s m args below meth c Q em D cl Zs A (P.2.2.1 M) c0 z0 ad S.1.length pc' ls' st' S1) : W p l e R s m args below meth c H locs cells slots Q (F0 m pc lsA (st.map (am_v em ad))) := by
  obtain ⟨hx, hb, hml, hown, hts, hr, hlk, hnm, hRf, hRc, hRs, hRl, hexc, hhn⟩ := id act
  obtain ⟨hRl0, hS, hZ, hlo, hol, hos, hc, hz⟩ := id h
  simp only [am_do] at hd
  simp only [am_okI] at hk
  obtain ⟨off, hdg, ht, rfl, ha⟩ := hk
  split at hd
  · rename_i w v r
    cases hd
    have h1 : am_St em D cl Zs A s H locs cells slots ad ca tys lsA (P.2.2.1 M) ls st' S c0 z0 := ⟨hRl0, hS, hZ, hlo, hol, fun w hw => hos w (List.mem_cons_of_mem _ (List.mem_cons_of_mem _ hw)), hc, hz⟩
    have kk1 := kk _ _ _ _ _ _ _ _ (fun _ _ => rfl) h1
    match a, ha, hdg, kk1 with
    | 0, _, hdg, kk1 => exact lv_icmp_eq hx hb hdg ht (fun q => by rwa [if_pos (by simp [am_cmp, q])] at kk1) (fun q => by rwa [if_neg (by simp [am_cmp, q])] at kk1)
    | 1, _, hdg, kk1 => exact lv_icmp_ne hx hb hdg ht (fun q => by rwa [if_pos (by simp [am_cmp, q])] at kk1) (fun q => by rwa [if_neg (by simp [am_cmp, q])] at kk1)
    | 2, _, hdg, kk1 => exact lv_icmp_lt hx hb hdg ht (fun q => by rwa [if_pos (show am_cmp 2 v w = true from decide_eq_true q)] at kk1) (fun q => by rwa [if_neg (show ¬ am_cmp 2 v w = true from fun z => q (of_decide_eq_true z))] at kk1)
    | 3, _, hdg, kk1 => exact lv_icmp_ge hx hb hdg ht (fun q => by rwa [if_pos (show am_cmp 3 v w = true from decide_eq_true q)] at kk1) (fun q => by rwa [if_neg (show ¬ am_cmp 3 v w = true from fun z => q (of_decide_eq_true z))] at kk1)
    | 4, _, hdg, kk1 => exact lv_icmp_gt hx hb hdg ht (fun q => by rwa [if_pos (show am_cmp 4 v w = true from decide_eq_true q)] at kk1) (fun q => by rwa [if_neg (show ¬ am_cmp 4 v w = true from fun z => q (of_decide_eq_true z))] at kk1)
    | 5, _, hdg, kk1 => exact lv_icmp_le hx hb hdg ht (fun q => by rwa [if_pos (show am_cmp 5 v w = true from decide_eq_true q)] at kk1) (fun q => by rwa [if_neg (show ¬ am_cmp 5 v w = true from fun z => q (of_decide_eq_true z))] at kk1)
    | n + 6, ha, _, _ => exact absurd ha (by omega)
  · cases hd
theorem am_s14 (act : am_Act P Y Ts p R s m args meth c M d mc ms) (hk : am_okI P Y cl Ts M pc 14 a b k x nx tab) (hd : am_do P.2.1 P.2.2.2.2 14 a b k x nx tab d ls st S = some (pc', ls', st', S1)) (h : am_St em D cl Zs A s H locs cells slots ad ca tys lsA (P.2.2.1 M) ls st S c0 z0)
    (kk : am_K p l e R s m args below meth c Q em D cl Zs A (P.2.2.1 M) c0 z0 ad S.1.length pc' ls' st' S1) : W p l e R s m args below meth c H locs cells slots Q (F0 m pc lsA (st.map (am_v em ad))) := by
  obtain ⟨hx, hb, hml, hown, hts, hr, hlk, hnm, hRf, hRc, hRs, hRl, hexc, hhn⟩ := id act
  obtain ⟨hRl0, hS, hZ, hlo, hol, hos, hc, hz⟩ := id h
  simp only [am_do] at hd
  simp only [am_okI] at hk
  obtain ⟨off, hdg, ht, rfl⟩ := hk
  have h1 : ∀ v r, st = v :: r → am_St em D cl Zs A s H locs cells slots ad ca tys lsA (P.2.2.1 M) ls r S c0 z0 := fun v r e => ⟨hRl0, hS, hZ, hlo, hol, fun w hw => hos w (by rw [e]; exact List.mem_cons_of_mem _ hw), hc, hz⟩
  split at hd
  · cases hd; exact lv_ifnull hx hb hdg (kk _ _ _ _ _ _ _ _ (fun _ _ => rfl) (h1 _ _ rfl))
  · cases hd; exact lv_ifnullN hx hb hdg ht (kk _ _ _ _ _ _ _ _ (fun _ _ => rfl) (h1 _ _ rfl))
  · cases hd
theorem am_s15 (act : am_Act P Y Ts p R s m args meth c M d mc ms) (hk : am_okI P Y cl Ts M pc 15 a b k x nx tab) (hd : am_do P.2.1 P.2.2.2.2 15 a b k x nx tab d ls st S = some (pc', ls', st', S1)) (h : am_St em D cl Zs A s H locs cells slots ad ca tys lsA (P.2.2.1 M) ls st S c0 z0)
    (kk : am_K p l e R s m args below meth c Q em D cl Zs A (P.2.2.1 M) c0 z0 ad S.1.length pc' ls' st' S1) : W p l e R s m args below meth c H locs cells slots Q (F0 m pc lsA (st.map (am_v em ad))) := by
  obtain ⟨hx, hb, hml, hown, hts, hr, hlk, hnm, hRf, hRc, hRs, hRl, hexc, hhn⟩ := id act
  obtain ⟨hRl0, hS, hZ, hlo, hol, hos, hc, hz⟩ := id h
  simp only [am_do] at hd
  simp only [am_okI] at hk
  obtain ⟨off, hdg, ht, rfl⟩ := hk
  have h1 : ∀ v r, st = v :: r → am_St em D cl Zs A s H locs cells slots ad ca tys lsA (P.2.2.1 M) ls r S c0 z0 := fun v r e => ⟨hRl0, hS, hZ, hlo, hol, fun w hw => hos w (by rw [e]; exact List.mem_cons_of_mem _ hw), hc, hz⟩
  split at hd
  · cases hd; exact lv_ifnonnull hx hb hdg ht (kk _ _ _ _ _ _ _ _ (fun _ _ => rfl) (h1 _ _ rfl))
  · cases hd; exact lv_ifnonnullN hx hb hdg (kk _ _ _ _ _ _ _ _ (fun _ _ => rfl) (h1 _ _ rfl))
  · cases hd
theorem am_s18 (act : am_Act P Y Ts p R s m args meth c M d mc ms) (hk : am_okI P Y cl Ts M pc 18 a b k x nx tab) (hd : am_do P.2.1 P.2.2.2.2 18 a b k x nx tab d ls st S = some (pc', ls', st', S1)) (h : am_St em D cl Zs A s H locs cells slots ad ca tys lsA (P.2.2.1 M) ls st S c0 z0)
    (kk : am_K p l e R s m args below meth c Q em D cl Zs A (P.2.2.1 M) c0 z0 ad S.1.length pc' ls' st' S1) : W p l e R s m args below meth c H locs cells slots Q (F0 m pc lsA (st.map (am_v em ad))) := by
  obtain ⟨hx, hb, hml, hown, hts, hr, hlk, hnm, hRf, hRc, hRs, hRl, hexc, hhn⟩ := id act
  obtain ⟨hRl0, hS, hZ, hlo, hol, hos, hc, hz⟩ := id h
  simp only [am_do] at hd
  simp only [am_okI] at hk
  cases hd
  obtain ⟨off, hdg, ht⟩ := hk
  exact lv_goto hx hb hdg ht (kk _ _ _ _ _ _ _ _ (fun _ _ => rfl) h)
theorem am_s19 (act : am_Act P Y Ts p R s m args meth c M d mc ms) (hk : am_okI P Y cl Ts M pc 19 a b k x nx tab) (hd : am_do P.2.1 P.2.2.2.2 19 a b k x nx tab d ls st S = some (pc', ls', st', S1)) (h : am_St em D cl Zs A s H locs cells slots ad ca tys lsA (P.2.2.1 M) ls st S c0 z0)
    (kk : am_K p l e R s m args below meth c Q em D cl Zs A (P.2.2.1 M) c0 z0 ad S.1.length pc' ls' st' S1) : W p l e R s m args below meth c H locs cells slots Q (F0 m pc lsA (st.map (am_v em ad))) := by
  obtain ⟨hx, hb, hml, hown, hts, hr, hlk, hnm, hRf, hRc, hRs, hRl, hexc, hhn⟩ := id act
  obtain ⟨hRl0, hS, hZ, hlo, hol, hos, hc, hz⟩ := id h
  simp only [am_do] at hd
  simp only [am_okI] at hk
  split at hd
  · rename_i v r
    cases hd
    have h1 : am_St em D cl Zs A s H locs cells slots ad ca tys lsA (P.2.2.1 M) ls st' S c0 z0 := ⟨hRl0, hS, hZ, hlo, hol, fun w hw => hos w (List.mem_cons_of_mem _ hw), hc, hz⟩
    have kk1 := kk _ _ _ _ _ _ _ _ (fun _ _ => rfl) h1
    rcases hk with ⟨dflt, lo, hi, offs, len, hdg, hdf, h2, h3⟩ | ⟨dflt, ps, len, hdg, hso, h2⟩
    · by_cases q1 : v.toInt < lo ∨ hi < v.toInt
      · rw [h2 v q1] at kk1
        exact lv_tableOut hx hb hdg q1 hdf kk1
      · obtain ⟨off, ho, ht⟩ := h3 v (fun z => q1 (Or.inl z)) (fun z => q1 (Or.inr z))
        exact lv_tableIn hx hb hdg (fun z => q1 (Or.inl z)) (fun z => q1 (Or.inr z)) ho ht kk1
    · exact lv_lookup hx hb hdg hso rfl (h2 v) kk1
  · cases hd
theorem am_s29 (act : am_Act P Y Ts p R s m args meth c M d mc ms) (hk : am_okI P Y cl Ts M pc 29 a b k x nx tab) (hd : am_do P.2.1 P.2.2.2.2 29 a b k x nx tab d ls st S = some (pc', ls', st', S1)) (h : am_St em D cl Zs A s H locs cells slots ad ca tys lsA (P.2.2.1 M) ls st S c0 z0)
    (kk : am_K p l e R s m args below meth c Q em D cl Zs A (P.2.2.1 M) c0 z0 ad S.1.length pc' ls' st' S1) : W p l e R s m args below meth c H locs cells slots Q (F0 m pc lsA (st.map (am_v em ad))) := by
  obtain ⟨hx, hb, hml, hown, hts, hr, hlk, hnm, hRf, hRc, hRs, hRl, hexc, hhn⟩ := id act
  obtain ⟨hRl0, hS, hZ, hlo, hol, hos, hc, hz⟩ := id h
  simp only [am_do] at hd
  simp only [am_okI] at hk
  cases hd
  obtain ⟨hdg, rfl⟩ := hk
  exact lv_null hx hb hdg (kk _ _ _ _ _ _ _ _ (fun _ _ => rfl) ⟨hRl0, hS, hZ, hlo, hol, am_oc trivial hos, hc, hz⟩)
theorem am_s31 (act : am_Act P Y Ts p R s m args meth c M d mc ms) (hk : am_okI P Y cl Ts M pc 31 a b k x nx tab) (hd : am_do P.2.1 P.2.2.2.2 31 a b k x nx tab d ls st S = some (pc', ls', st', S1)) (h : am_St em D cl Zs A s H locs cells slots ad ca tys lsA (P.2.2.1 M) ls st S c0 z0)
    (kk : am_K p l e R s m args below meth c Q em D cl Zs A (P.2.2.1 M) c0 z0 ad S.1.length pc' ls' st' S1) : W p l e R s m args below meth c H locs cells slots Q (F0 m pc lsA (st.map (am_v em ad))) := by
  obtain ⟨hx, hb, hml, hown, hts, hr, hlk, hnm, hRf, hRc, hRs, hRl, hexc, hhn⟩ := id act
  obtain ⟨hRl0, hS, hZ, hlo, hol, hos, hc, hz⟩ := id h
  simp only [am_do] at hd
  simp only [am_okI] at hk
  obtain ⟨idx, hdg, rfl, h2, h3, h4⟩ := hk
  split at hd
  · rename_i v r
    split at hd
    · rename_i hdr
      cases hd
      have hr1 : ∀ w ∈ st', am_okv S.1.length w := fun w hw => hos w (List.mem_cons_of_mem _ hw)
      have hcs : ∀ q : List Value, (∀ w ∈ q, am_okv S.1.length w) → ((q.map (am_v em ad)).map fun v => v.category).sum = q.length := by
        intro q
        induction q with
        | nil => intro _; rfl
        | cons w q ih => intro hq; simp only [List.map_cons, List.sum_cons, List.length_cons]; rw [ih fun u hu => hq u (List.mem_cons_of_mem _ hu), am_cat (em := em) ad (hq w List.mem_cons_self)]; omega
      have hsz : (F0 m pc lsA (((Value.ref v) :: st').map (am_v em ad))).locals.size = c.maxLocals := by rw [hml]; exact hlo.1.1
      exact W.eq (g2 := F0 m pc lsA (.ref (ad v) :: st'.map (am_v em ad))) rfl (W.objInit hx hb hown (hts _ h2) (hts _ h3) (hts _ h4) rfl hsz rfl hdg (by rw [hRf]; exact hdr.1) (by
        show 2 * 0 + ((st'.map (am_v em ad)).map fun v => v.category).sum + 12 ≤ R.locals
        rw [hcs st' hr1, hRl]; omega) (kk _ _ _ _ _ _ _ _ (fun _ _ => rfl) ⟨hRl0, hS, hZ, hlo, hol, hr1, hc, hz⟩))
    · cases hd
  · cases hd
end AM3
end
section
/-! SMALL INSTRUCTIONS OVER CELLS -/
theorem am_fitv {k : Nat} {desc : String} {v : Value} {ty : FieldType} (hk : am_okT k desc) (hf : am_fit k v = true) (em : Int64 → Nat) (ad : Nat → Nat) (hd : parseFieldDescriptor desc = some ty) : narrow ty (am_v em ad v) = am_v em ad v ∧ fits ty (am_v em ad v) = true := by
  match k, hk with
  | 0, hk =>
    simp only [am_okT] at hk
    cases hk.symm.trans hd
    cases v <;> simp [am_fit] at hf
    exact ⟨rfl, rfl⟩
  | 1, hk =>
    simp only [am_okT] at hk
    rcases hk with ⟨n, hk⟩ | ⟨n, hk⟩
    · cases hk.symm.trans hd
      cases v <;> simp [am_fit] at hf <;> exact ⟨rfl, rfl⟩
    · cases hk.symm.trans hd
      cases v <;> simp [am_fit] at hf <;> exact ⟨rfl, rfl⟩
  | 2, hk =>
    simp only [am_okT] at hk
    cases hk.symm.trans hd
    cases v <;> simp [am_fit] at hf
    rcases hf with rfl | rfl
    · show narrow .boolean (.int 0) = .int 0 ∧ fits .boolean (.int 0) = true
      exact ⟨by decide, by decide⟩
    · show narrow .boolean (.int 1) = .int 1 ∧ fits .boolean (.int 1) = true
      exact ⟨by decide, by decide⟩
  | n + 3, hk => exact hk.elim
theorem am_tyA {tys : List (ClassId × FieldType)} {cA : ClassId} {b : Bool} {q : Nat × (Nat → Int32)} (h : am_ty tys cA (.inl (b, q))) : ∃ t0 : Nat, tys[t0]? = some (cA, if b then .boolean else .int) := by
  cases b <;> exact h
/-- the constant cells outside the list: 0 the empty array of ArrayList, 1 the Class object of Object[] -/
def am_ZE (em : Int64 → Nat) (sc : Nat × (Nat → Int32)) (Zs : (Nat → Prop) → State → Heap → Prop) : Prop := ∀ (A : Nat → Prop) (s : State), Zs A s s.heap → va_Z am_AL am_EE am_ED (.ref (em 0)) A s s.heap ∧ va_T (.object "java/lang/Object") (em 0) 0 (fun _ => .null) A s s.heap ∧ va_Mi am_ED (em 1) s ∧ va_X (em 2) sc.1 sc.2 s s.heap ∧ ¬ A (em 2)
theorem am_va_rf {em : Int64 → Nat} {ad : Nat → Nat} (g : Option Nat) : am_v em ad (va_rf g) = va_rf (g.map ad) := by cases g <;> rfl
theorem am_catl {em : Int64 → Nat} {ad : Nat → Nat} {n : Nat} : ∀ q : List Value, (∀ w ∈ q, am_okv n w) → ((q.map (am_v em ad)).map fun v => v.category).sum = q.length := by
  intro q
  induction q with
  | nil => intro _; rfl
  | cons w q ih => intro hq; simp only [List.map_cons, List.sum_cons, List.length_cons]; rw [ih fun u hu => hq u (List.mem_cons_of_mem _ hu), am_cat (em := em) ad (hq w List.mem_cons_self)]; omega
section AM4
variable {em : Int64 → Nat} {P : am_P} {Y : am_Y} {D : va_G} {cl : List vw_C} {Ts : List Jvm.Cond} {Zs : (Nat → Prop) → State → Heap → Prop}
variable {p : Program} {l : Launch} {e : Env} {R : Room} {s : State} {m : MethodId} {args : Array Value} {below : List Frame} {meth : Method} {c : Code} {H : Heap} {locs : List Loc} {cells slots : Nat} {Q : State → Prop}
variable {A : Nat → Prop} {ad : Nat → Nat} {ca : Nat → ClassId} {tys : List (ClassId × FieldType)} {lsA : Array Slot} {ls ls' : am_V} {st st' : List Value} {S S1 : am_S} {c0 z0 mc ms M d pc pc' nx a b k n0 : Nat} {x : Int32} {tab : List (Int32 × Nat)}
set_option maxHeartbeats 1000000 in
theorem am_s20 (act : am_Act P Y Ts p R s m args meth c M d mc ms) (hk : am_okI P Y cl Ts M pc 20 a b k x nx tab) (hd : am_do P.2.1 P.2.2.2.2 20 a b k x nx tab d ls st S = some (pc', ls', st', S1)) (h : am_St em D cl Zs A s H locs cells slots ad ca tys lsA (P.2.2.1 M) ls st S c0 z0) (hC : am_okC P.2.1 cl Ts) (hA : ∀ q, s.heap.size ≤ q → A q) (hup : S1.2.1 ≤ c0 + mc ∧ S1.2.2 ≤ z0 + ms) (hE : am_ZE em P.2.2.2.2 Zs)
    (kk : am_K p l e R s m args below meth c Q em D cl Zs A (P.2.2.1 M) c0 z0 ad S.1.length pc' ls' st' S1) : W p l e R s m args below meth c H locs cells slots Q (F0 m pc lsA (st.map (am_v em ad))) := by
  obtain ⟨hx, hb, hml, hown, hts, hr, hlk, hnm, hRf, hRc, hRs, hRl, hexc, hhn⟩ := id act
  obtain ⟨hRl0, hS, hZ, hlo, hol, hos, hc, hz⟩ := id h
  obtain ⟨hP, hD, hK, hT, hW⟩ := id hRl0
  simp only [am_do] at hd
  simp only [am_okI] at hk
  obtain ⟨idx, hdg, rfl, C, T, N, ref, hcl, hbN, hfl, hsame⟩ := hk
  split at hd
  · rename_i k0 r
    split at hd
    · rename_i ci fs hcell
      split at hd
      · rename_i hci
        subst hci
        split at hd
        · rename_i v hv
          cases hd
          refine va_get (D := D) (ci := ci) (C := C) (T := T) (N := N) hx hb hts (hC ci C T N hcl).1 hown hK hP k0 (am_w_get hcell) hcl b hbN (hts _ hfl) (fun q hq => ?_) (v := am_v em ad v) (by rw [List.getElem?_map, hv]; rfl) hdg ?_
          · rcases hsame with rfl | hsame
            · exact hq
            · exact u_same (hts _ hsame) q hq
          · have hok : am_okv S.1.length v := hW k0 _ hcell v (List.mem_of_getElem? hv)
            exact kk _ _ _ _ _ _ _ _ (fun _ _ => rfl) ⟨hRl0, hS, hZ, hlo, hol, am_oc hok fun w hw => hos w (List.mem_cons_of_mem _ hw), hc, hz⟩
        · cases hd
      · cases hd
    · cases hd
  · cases hd
set_option maxHeartbeats 1000000 in
theorem am_s21 (act : am_Act P Y Ts p R s m args meth c M d mc ms) (hk : am_okI P Y cl Ts M pc 21 a b k x nx tab) (hd : am_do P.2.1 P.2.2.2.2 21 a b k x nx tab d ls st S = some (pc', ls', st', S1)) (h : am_St em D cl Zs A s H locs cells slots ad ca tys lsA (P.2.2.1 M) ls st S c0 z0) (hC : am_okC P.2.1 cl Ts) (hA : ∀ q, s.heap.size ≤ q → A q) (hup : S1.2.1 ≤ c0 + mc ∧ S1.2.2 ≤ z0 + ms) (hE : am_ZE em P.2.2.2.2 Zs)
    (kk : am_K p l e R s m args below meth c Q em D cl Zs A (P.2.2.1 M) c0 z0 ad S.1.length pc' ls' st' S1) : W p l e R s m args below meth c H locs cells slots Q (F0 m pc lsA (st.map (am_v em ad))) := by
  obtain ⟨hx, hb, hml, hown, hts, hr, hlk, hnm, hRf, hRc, hRs, hRl, hexc, hhn⟩ := id act
  obtain ⟨hRl0, hS, hZ, hlo, hol, hos, hc, hz⟩ := id h
  obtain ⟨hP, hD, hK, hT, hW⟩ := id hRl0
  simp only [am_do] at hd
  simp only [am_okI] at hk
  obtain ⟨idx, hdg, rfl, ⟨C, T, N, ref, hcl, hbN, hfl, hsame⟩, hkind⟩ := hk
  obtain ⟨hkT, hfin⟩ := hkind C T N hcl
  split at hd
  · rename_i v k0 r
    split at hd
    · rename_i ci fs hcell
      split at hd
      · rename_i hcond
        obtain ⟨rfl, hbl, hfit⟩ := hcond
        cases hd
        obtain ⟨hin, hnb, hdis, hnb0, ty, hty, hdef⟩ := hC ci C T N hcl
        obtain ⟨hn, hf⟩ := am_fitv hkT hfit em ad (hty b hbN)
        have hokv : am_okv S.1.length v := hos v List.mem_cons_self
        have hwset : (am_w em ad ca S.1).set k0 (ad k0, .inr (ci, (fs.map (am_v em ad)).set b (am_v em ad v))) = am_w em ad ca (S.1.set k0 (.inr (.inr (ci, fs.set b v)))) := by
          rw [← am_w_set]
          simp only [am_ce, List.map_set]
        have hnew : ∀ (H1 : Heap) (locs1 : List Loc), va_P D cl ((am_w em ad ca S.1).set k0 (ad k0, .inr (ci, (fs.map (am_v em ad)).set b (am_v em ad v)))) H1 → va_D A ((am_w em ad ca S.1).set k0 (ad k0, .inr (ci, (fs.map (am_v em ad)).set b (am_v em ad v)))) → va_S A s.heap H1 locs1 →
            W p l e R s m args below meth c H1 locs1 cells slots Q (F0 m (pc + 3) lsA (st'.map (am_v em ad))) := by
          intro H1 locs1 hP1 hD1 hS1
          rw [hwset] at hP1 hD1
          refine kk _ _ _ _ _ ca tys _ (fun _ _ => rfl) ⟨⟨hP1, hD1, hK, fun j q hj => ?_, fun j q hj => ?_⟩, hS1, hZ, hlo, by rw [List.length_set]; exact hol, by rw [List.length_set]; exact fun w hw => hos w (List.mem_cons_of_mem _ (List.mem_cons_of_mem _ hw)), hc, hz⟩
          · rw [List.getElem?_set] at hj
            split at hj
            · split at hj
              · cases hj; trivial
              · cases hj
            · exact hT j q hj
          · rw [List.length_set]
            rw [List.getElem?_set] at hj
            split at hj
            · split at hj
              · cases hj
                intro w hw
                rcases List.mem_or_eq_of_mem_set hw with hw | rfl
                · exact hW k0 _ hcell w hw
                · exact hokv
              · cases hj
            · exact hW j q hj
        have hsm : ∀ q, s.fieldFound? (T b).1 (T b).2.1 (T b).2.2.1 = some q → s.fieldFound? ref (T b).2.1 (T b).2.2.1 = some q := fun q hq => by
          rcases hsame with rfl | hsame
          · exact hq
          · exact u_same (hts _ hsame) q hq
        rcases hfin with hfin | ⟨hfin, hini, hdecl⟩
        · exact va_put (D := D) (ci := ci) (v := am_v em ad v) (ty := ty b) (C := C) (T := T) (N := N) hx hb hts hin ty hty hdis hown hK hP hD hS k0 (am_w_get hcell) hcl b hbN (hts _ hfl) hsm hfin (hty b hbN) hn hf (by rw [List.length_map]; exact hbl) hdg hnew
        · exact va_putF (D := D) (ci := ci) (v := am_v em ad v) (ty := ty b) (C := C) (T := T) (N := N) hx hb hts hin ty hty hdis hown hK hP hD hS k0 (am_w_get hcell) hcl b hbN (hts _ hfl) hsm hfin (by rw [hnm]; exact hini) hdecl (hty b hbN) hn hf (by rw [List.length_map]; exact hbl) hdg hnew
      · cases hd
    · cases hd
  · cases hd
set_option maxHeartbeats 1000000 in
theorem am_s22 (act : am_Act P Y Ts p R s m args meth c M d mc ms) (hk : am_okI P Y cl Ts M pc 22 a b k x nx tab) (hd : am_do P.2.1 P.2.2.2.2 22 a b k x nx tab d ls st S = some (pc', ls', st', S1)) (h : am_St em D cl Zs A s H locs cells slots ad ca tys lsA (P.2.2.1 M) ls st S c0 z0) (hC : am_okC P.2.1 cl Ts) (hA : ∀ q, s.heap.size ≤ q → A q) (hup : S1.2.1 ≤ c0 + mc ∧ S1.2.2 ≤ z0 + ms) (hE : am_ZE em P.2.2.2.2 Zs)
    (kk : am_K p l e R s m args below meth c Q em D cl Zs A (P.2.2.1 M) c0 z0 ad S.1.length pc' ls' st' S1) : W p l e R s m args below meth c H locs cells slots Q (F0 m pc lsA (st.map (am_v em ad))) := by
  obtain ⟨hx, hb, hml, hown, hts, hr, hlk, hnm, hRf, hRc, hRs, hRl, hexc, hhn⟩ := id act
  obtain ⟨hRl0, hS, hZ, hlo, hol, hos, hc, hz⟩ := id h
  obtain ⟨hP, hD, hK, hT, hW⟩ := id hRl0
  simp only [am_do] at hd
  simp only [am_okI] at hk
  obtain ⟨idx, C, T, N, hdg, rfl, hcl, h1, h2, h3⟩ := hk
  cases hd
  obtain ⟨hin, hnb, hdis, hnb0, ty, hty, hdef⟩ := hC a C T N hcl
  have hmap : ∀ ad' : Nat → Nat, (P.2.1 a).map (am_v em ad') = P.2.1 a := fun ad' => by
    conv => rhs; rw [← List.map_id (P.2.1 a)]
    exact List.map_congr_left fun v hv => by rcases hnb0 v hv with rfl | rfl <;> rfl
  have hR1 : cells + 1 ≤ R.cells := by rw [hRc]; have := hup.1; simp only at this; omega
  have hR2 : slots + N ≤ R.slots := by rw [hRs]; have := hup.2; simp only [hnb] at this; omega
  refine va_new (ci := a) (fs := P.2.1 a) (C := C) (T := T) (N := N) hx hb hts hin ty hty hown (hts _ h1) (hts _ h2) (hts _ h3) hK hP hD hS hA hcl hdef hR1 hR2 hdg (fun q H1 hP1 hD1 hS1 => ?_)
  rw [am_w_app (cA := 0) (c := .inr (.inr (a, P.2.1 a))) hW (by simp only [am_ce]; rw [hmap])] at hP1 hD1
  have hag : ∀ j, j < S.1.length → va_up ad S.1.length q j = ad j := fun j hj => if_neg (Nat.ne_of_lt hj)
  have e1 : st.map (am_v em ad) = st.map (am_v em (va_up ad S.1.length q)) := (am_st_eq hag hos).symm
  have e2 : va_up ad S.1.length q S.1.length = q := if_pos rfl
  rw [e1]
  have key := kk H1 locs (cells + 1) (slots + N) (va_up ad S.1.length q) (va_up ca S.1.length 0) tys lsA hag ⟨⟨hP1, hD1, hK, fun j w hj => ?_, fun j w hj => ?_⟩, hS1, hZ, hlo.agree hol hag, fun i v hv => (hol i v hv).mono (by simp), am_oc (by simp [am_okv]) (fun w hw => (hos w hw).mono (by simp)), by simp only; omega, by simp only [hnb]; omega⟩
  · rw [show (Value.ref S.1.length :: st).map (am_v em (va_up ad S.1.length q)) = .ref q :: st.map (am_v em (va_up ad S.1.length q)) by simp only [List.map_cons, am_v, e2]] at key
    exact key
  · rcases Nat.lt_or_ge j S.1.length with hj2 | hj2
    · rw [List.getElem?_append_left hj2] at hj
      rw [show va_up ca S.1.length 0 j = ca j from if_neg (Nat.ne_of_lt hj2)]
      exact hT j w hj
    · rw [List.getElem?_append_right hj2] at hj
      cases hq : j - S.1.length with
      | zero => rw [hq] at hj; cases hj; trivial
      | succ n => rw [hq] at hj; simp at hj
  · rcases Nat.lt_or_ge j S.1.length with hj2 | hj2
    · rw [List.getElem?_append_left hj2] at hj
      exact (hW j w hj).mono (by simp)
    · rw [List.getElem?_append_right hj2] at hj
      cases hq : j - S.1.length with
      | zero =>
        rw [hq] at hj; cases hj
        intro v hv
        rcases hnb0 v hv with rfl | rfl <;> trivial
      | succ n => rw [hq] at hj; simp at hj
set_option maxHeartbeats 1000000 in
theorem am_s23 (act : am_Act P Y Ts p R s m args meth c M d mc ms) (hk : am_okI P Y cl Ts M pc 23 a b k x nx tab) (hd : am_do P.2.1 P.2.2.2.2 23 a b k x nx tab d ls st S = some (pc', ls', st', S1)) (h : am_St em D cl Zs A s H locs cells slots ad ca tys lsA (P.2.2.1 M) ls st S c0 z0) (hC : am_okC P.2.1 cl Ts) (hA : ∀ q, s.heap.size ≤ q → A q) (hup : S1.2.1 ≤ c0 + mc ∧ S1.2.2 ≤ z0 + ms) (hE : am_ZE em P.2.2.2.2 Zs)
    (kk : am_K p l e R s m args below meth c Q em D cl Zs A (P.2.2.1 M) c0 z0 ad S.1.length pc' ls' st' S1) : W p l e R s m args below meth c H locs cells slots Q (F0 m pc lsA (st.map (am_v em ad))) := by
  obtain ⟨hx, hb, hml, hown, hts, hr, hlk, hnm, hRf, hRc, hRs, hRl, hexc, hhn⟩ := id act
  obtain ⟨hRl0, hS, hZ, hlo, hol, hos, hc, hz⟩ := id h
  obtain ⟨hP, hD, hK, hT, hW⟩ := id hRl0
  simp only [am_do] at hd
  simp only [am_okI] at hk
  obtain ⟨rfl, hk⟩ := hk
  split at hd
  · rename_i v r
    split at hd
    · rename_i hv
      cases hd
      have hR1 : cells + 1 ≤ R.cells := by rw [hRc]; have := hup.1; simp only at this; omega
      have hR2 : slots + v.toNatClampNeg ≤ R.slots := by rw [hRs]; have := hup.2; simp only at this; omega
      have hosr : ∀ w ∈ r, am_okv S.1.length w := fun w hw => hos w (List.mem_cons_of_mem _ hw)
      have fin : ∀ (ty : FieldType), am_ty [(0, ty)] 0 (.inl (decide (a = 1), v.toNatClampNeg, fun _ => 0)) → ∀ (q : Nat) (cA : ClassId) (H1 : Heap), va_K D cl (tys ++ [(cA, ty)]) s → va_P D cl (am_w em ad ca S.1 ++ [(q, .inl (cA, v.toNatClampNeg, .inl (fun _ => 0)))]) H1 → va_D A (am_w em ad ca S.1 ++ [(q, .inl (cA, v.toNatClampNeg, .inl (fun _ => 0)))]) → va_S A s.heap H1 locs →
          W p l e R s m args below meth c H1 locs (cells + 1) (slots + v.toNatClampNeg) Q (F0 m (pc + 2) lsA (.ref q :: r.map (am_v em ad))) := by
        intro ty hty q cA H1 hK1 hP1 hD1 hS1
        rw [am_w_app (cA := cA) (c := .inl (decide (a = 1), v.toNatClampNeg, fun _ => 0)) (E := .inl (cA, v.toNatClampNeg, .inl (fun _ => 0))) hW rfl] at hP1 hD1
        have hag : ∀ j, j < S.1.length → va_up ad S.1.length q j = ad j := fun j hj => if_neg (Nat.ne_of_lt hj)
        have e1 : r.map (am_v em ad) = r.map (am_v em (va_up ad S.1.length q)) := (am_st_eq hag hosr).symm
        have e2 : va_up ad S.1.length q S.1.length = q := if_pos rfl
        rw [e1]
        have key := kk H1 locs (cells + 1) (slots + v.toNatClampNeg) (va_up ad S.1.length q) (va_up ca S.1.length cA) (tys ++ [(cA, ty)]) lsA hag ⟨⟨hP1, hD1, hK1, fun j w hj => ?_, fun j w hj => ?_⟩, hS1, hZ, hlo.agree hol hag, fun i v hv => (hol i v hv).mono (by simp), am_oc (by simp [am_okv]) (fun w hw => (hosr w hw).mono (by simp)), by simp only; omega, by simp only; omega⟩
        · rw [show (Value.ref S.1.length :: r).map (am_v em (va_up ad S.1.length q)) = .ref q :: r.map (am_v em (va_up ad S.1.length q)) by simp only [List.map_cons, am_v, e2]] at key
          exact key
        · rcases Nat.lt_or_ge j S.1.length with hj2 | hj2
          · rw [List.getElem?_append_left hj2] at hj
            rw [show va_up ca S.1.length cA j = ca j from if_neg (Nat.ne_of_lt hj2)]
            exact (hT j w hj).more
          · rw [List.getElem?_append_right hj2] at hj
            cases hq : j - S.1.length with
            | zero =>
              have hj3 : j = S.1.length := by omega
              rw [hq] at hj; cases hj
              subst hj3
              rw [show va_up ca S.1.length cA S.1.length = cA from if_pos rfl]
              have hlast : (tys ++ [(cA, ty)])[tys.length]? = some (cA, ty) := by simp
              have h0 : ∀ (t0 : Nat) (ty0 : FieldType), ([(0, ty)] : List (ClassId × FieldType))[t0]? = some (0, ty0) → ty0 = ty := fun t0 ty0 q => by
                cases t0 with
                | zero => simp at q; exact q.symm
                | succ n => simp at q
              cases hbb : decide (a = 1) with
              | false => rw [hbb] at hty; obtain ⟨t0, h1⟩ := hty; exact ⟨tys.length, by rw [h0 _ _ h1]; exact hlast⟩
              | true => rw [hbb] at hty; obtain ⟨t0, h1⟩ := hty; exact ⟨tys.length, by rw [h0 _ _ h1]; exact hlast⟩
            | succ n => rw [hq] at hj; simp at hj
        · rcases Nat.lt_or_ge j S.1.length with hj2 | hj2
          · rw [List.getElem?_append_left hj2] at hj
            exact (hW j w hj).mono (by simp)
          · rw [List.getElem?_append_right hj2] at hj
            cases hq : j - S.1.length with
            | zero => rw [hq] at hj; cases hj; trivial
            | succ n => rw [hq] at hj; simp at hj
      rcases hk with ⟨rfl, hdg, harr⟩ | ⟨rfl, hdg, harr⟩
      · exact va_newa (atype := .int) (ty := .int) (a0 := (v.toNatClampNeg, .inl (fun _ => 0))) hx hb (hts _ harr) rfl hK hP hD hS hA (fun _ => rfl) hv.1 rfl (by show v.toNatClampNeg * 4 ≤ 536870912; have := hv.2; omega) hR1 hR2 hdg (fin .int ⟨0, rfl⟩)
      · exact va_newa (atype := .boolean) (ty := .boolean) (a0 := (v.toNatClampNeg, .inl (fun _ => 0))) hx hb (hts _ harr) rfl hK hP hD hS hA (fun _ => rfl) hv.1 rfl (by show v.toNatClampNeg * 1 ≤ 536870912; have := hv.2; omega) hR1 hR2 hdg (fin .boolean ⟨0, rfl⟩)
    · cases hd
  · cases hd
set_option maxHeartbeats 1000000 in
theorem am_s24 (act : am_Act P Y Ts p R s m args meth c M d mc ms) (hk : am_okI P Y cl Ts M pc 24 a b k x nx tab) (hd : am_do P.2.1 P.2.2.2.2 24 a b k x nx tab d ls st S = some (pc', ls', st', S1)) (h : am_St em D cl Zs A s H locs cells slots ad ca tys lsA (P.2.2.1 M) ls st S c0 z0) (hC : am_okC P.2.1 cl Ts) (hA : ∀ q, s.heap.size ≤ q → A q) (hup : S1.2.1 ≤ c0 + mc ∧ S1.2.2 ≤ z0 + ms) (hE : am_ZE em P.2.2.2.2 Zs)
    (kk : am_K p l e R s m args below meth c Q em D cl Zs A (P.2.2.1 M) c0 z0 ad S.1.length pc' ls' st' S1) : W p l e R s m args below meth c H locs cells slots Q (F0 m pc lsA (st.map (am_v em ad))) := by
  obtain ⟨hx, hb, hml, hown, hts, hr, hlk, hnm, hRf, hRc, hRs, hRl, hexc, hhn⟩ := id act
  obtain ⟨hRl0, hS, hZ, hlo, hol, hos, hc, hz⟩ := id h
  obtain ⟨hP, hD, hK, hT, hW⟩ := id hRl0
  simp only [am_do] at hd
  simp only [am_okI] at hk
  obtain ⟨hdg, rfl⟩ := hk
  split at hd
  · rename_i k0 r
    split at hd
    · rename_i bb n f hcell
      cases hd
      obtain ⟨t0, ht0⟩ := am_tyA (hT k0 _ hcell)
      exact va_alen hx hb hK hP k0 t0 (am_w_get hcell) ht0 rfl hdg (kk _ _ _ _ _ _ _ _ (fun _ _ => rfl) ⟨hRl0, hS, hZ, hlo, hol, am_oc trivial fun w hw => hos w (List.mem_cons_of_mem _ hw), hc, hz⟩)
    · rename_i n f hcell
      cases hd
      obtain ⟨t0, ht0⟩ := hT k0 _ hcell
      exact va_alen hx hb hK hP k0 t0 (am_w_get hcell) ht0 rfl hdg (kk _ _ _ _ _ _ _ _ (fun _ _ => rfl) ⟨hRl0, hS, hZ, hlo, hol, am_oc trivial fun w hw => hos w (List.mem_cons_of_mem _ hw), hc, hz⟩)
    · cases hd
  · rename_i z r
    split at hd
    · rename_i hz0
      subst hz0
      cases hd
      exact va_tlen hx hb (hE A s hZ).2.1 hS rfl hdg (kk _ _ _ _ _ _ _ _ (fun _ _ => rfl) ⟨hRl0, hS, hZ, hlo, hol, am_oc trivial fun w hw => hos w (List.mem_cons_of_mem _ hw), hc, hz⟩)
    · split at hd
      · rename_i hz2
        obtain ⟨hz2, -⟩ := hz2
        subst hz2
        cases hd
        obtain ⟨-, -, -, hX, hbA⟩ := hE A s hZ
        obtain ⟨scr, hscr, -⟩ := id hX
        exact va_slen hx hb hX (Array.getElem?_eq_some_iff.mp hscr).1 hbA hS hdg (kk _ _ _ _ _ _ _ _ (fun _ _ => rfl) ⟨hRl0, hS, hZ, hlo, hol, am_oc trivial fun w hw => hos w (List.mem_cons_of_mem _ hw), hc, hz⟩)
      · cases hd
  · cases hd
set_option maxHeartbeats 1000000 in
theorem am_s25 (act : am_Act P Y Ts p R s m args meth c M d mc ms) (hk : am_okI P Y cl Ts M pc 25 a b k x nx tab) (hd : am_do P.2.1 P.2.2.2.2 25 a b k x nx tab d ls st S = some (pc', ls', st', S1)) (h : am_St em D cl Zs A s H locs cells slots ad ca tys lsA (P.2.2.1 M) ls st S c0 z0) (hC : am_okC P.2.1 cl Ts) (hA : ∀ q, s.heap.size ≤ q → A q) (hup : S1.2.1 ≤ c0 + mc ∧ S1.2.2 ≤ z0 + ms) (hE : am_ZE em P.2.2.2.2 Zs)
    (kk : am_K p l e R s m args below meth c Q em D cl Zs A (P.2.2.1 M) c0 z0 ad S.1.length pc' ls' st' S1) : W p l e R s m args below meth c H locs cells slots Q (F0 m pc lsA (st.map (am_v em ad))) := by
  obtain ⟨hx, hb, hml, hown, hts, hr, hlk, hnm, hRf, hRc, hRs, hRl, hexc, hhn⟩ := id act
  obtain ⟨hRl0, hS, hZ, hlo, hol, hos, hc, hz⟩ := id h
  obtain ⟨hP, hD, hK, hT, hW⟩ := id hRl0
  simp only [am_do] at hd
  simp only [am_okI] at hk
  obtain ⟨rfl, hk⟩ := hk
  split at hd
  · rename_i i k0 r
    split at hd
    · rename_i bb n f hcell
      split at hd
      · rename_i hin
        cases hd
        obtain ⟨hbb, hi0, hin⟩ := hin
        have hi : vp_in i n := fun q => q.elim hi0 (fun q => by omega)
        obtain ⟨t0, ht0⟩ := am_tyA (hT k0 _ hcell)
        have kk1 := kk _ _ _ _ _ _ _ _ (fun _ _ => rfl) ⟨hRl0, hS, hZ, hlo, hol, am_oc (v := .int (f i.toNatClampNeg)) trivial fun w hw => hos w (List.mem_cons_of_mem _ (List.mem_cons_of_mem _ hw)), hc, hz⟩
        rcases hk with ⟨rfl, hdg⟩ | ⟨rfl, hdg⟩
        · rw [← hbb] at ht0
          exact va_iald hx hb hK hP k0 t0 (am_w_get hcell) ht0 hi hdg kk1
        · rw [← hbb] at ht0
          exact va_zald hx hb hK hP k0 t0 (am_w_get hcell) ht0 hi hdg kk1
      · cases hd
    · cases hd
  · rename_i i z r
    split at hd
    · rename_i hin
      obtain ⟨rfl, rfl, hi0, hin, -⟩ := hin
      cases hd
      have hi : vp_in i P.2.2.2.2.1 := fun q => q.elim hi0 (fun q => by omega)
      obtain ⟨-, -, -, hX, hbA⟩ := hE A s hZ
      obtain ⟨scr, hscr, -⟩ := id hX
      rcases hk with ⟨-, hdg⟩ | ⟨h01, hdg⟩
      · exact va_sld hx hb hX (Array.getElem?_eq_some_iff.mp hscr).1 hbA hS hi hdg (kk _ _ _ _ _ _ _ _ (fun _ _ => rfl) ⟨hRl0, hS, hZ, hlo, hol, am_oc trivial fun w hw => hos w (List.mem_cons_of_mem _ (List.mem_cons_of_mem _ hw)), hc, hz⟩)
      · cases h01
    · cases hd
  · cases hd
set_option maxHeartbeats 1000000 in
theorem am_s26 (act : am_Act P Y Ts p R s m args meth c M d mc ms) (hk : am_okI P Y cl Ts M pc 26 a b k x nx tab) (hd : am_do P.2.1 P.2.2.2.2 26 a b k x nx tab d ls st S = some (pc', ls', st', S1)) (h : am_St em D cl Zs A s H locs cells slots ad ca tys lsA (P.2.2.1 M) ls st S c0 z0) (hC : am_okC P.2.1 cl Ts) (hA : ∀ q, s.heap.size ≤ q → A q) (hup : S1.2.1 ≤ c0 + mc ∧ S1.2.2 ≤ z0 + ms) (hE : am_ZE em P.2.2.2.2 Zs)
    (kk : am_K p l e R s m args below meth c Q em D cl Zs A (P.2.2.1 M) c0 z0 ad S.1.length pc' ls' st' S1) : W p l e R s m args below meth c H locs cells slots Q (F0 m pc lsA (st.map (am_v em ad))) := by
  obtain ⟨hx, hb, hml, hown, hts, hr, hlk, hnm, hRf, hRc, hRs, hRl, hexc, hhn⟩ := id act
  obtain ⟨hRl0, hS, hZ, hlo, hol, hos, hc, hz⟩ := id h
  obtain ⟨hP, hD, hK, hT, hW⟩ := id hRl0
  simp only [am_do] at hd
  simp only [am_okI] at hk
  obtain ⟨rfl, hk⟩ := hk
  split at hd
  · rename_i v i k0 r
    split at hd
    · rename_i bb n f hcell
      split at hd
      · rename_i hin
        cases hd
        obtain ⟨hbb, hi0, hin, hbit⟩ := hin
        have hi : vp_in i n := fun q => q.elim hi0 (fun q => by omega)
        obtain ⟨t0, ht0⟩ := am_tyA (hT k0 _ hcell)
        have hwset : (am_w em ad ca S.1).set k0 (ad k0, .inl (ca k0, n, .inl (upd f i.toNatClampNeg v))) = am_w em ad ca (S.1.set k0 (.inl (bb, n, upd f i.toNatClampNeg v))) := by
          rw [← am_w_set]
          simp only [am_ce]
        have hnew : ∀ (H1 : Heap) (locs1 : List Loc), va_P D cl ((am_w em ad ca S.1).set k0 (ad k0, .inl (ca k0, n, .inl (upd f i.toNatClampNeg v)))) H1 → va_D A ((am_w em ad ca S.1).set k0 (ad k0, .inl (ca k0, n, .inl (upd f i.toNatClampNeg v)))) → va_S A s.heap H1 locs1 →
            W p l e R s m args below meth c H1 locs1 cells slots Q (F0 m (pc + 1) lsA (st'.map (am_v em ad))) := by
          intro H1 locs1 hP1 hD1 hS1
          rw [hwset] at hP1 hD1
          refine kk _ _ _ _ _ ca tys _ (fun _ _ => rfl) ⟨⟨hP1, hD1, hK, fun j q hj => ?_, fun j q hj => ?_⟩, hS1, hZ, hlo, by rw [List.length_set]; exact hol, by rw [List.length_set]; exact fun w hw => hos w (List.mem_cons_of_mem _ (List.mem_cons_of_mem _ (List.mem_cons_of_mem _ hw))), hc, hz⟩
          · rw [List.getElem?_set] at hj
            split at hj
            · split at hj
              · rename_i hjj _
                cases hj
                subst hjj
                have h9 := hT k0 _ hcell
                cases bb <;> exact h9
              · cases hj
            · exact hT j q hj
          · rw [List.length_set]
            rw [List.getElem?_set] at hj
            split at hj
            · split at hj
              · cases hj; trivial
              · cases hj
            · exact hW j q hj
        rcases hk with ⟨rfl, hdg⟩ | ⟨rfl, hdg⟩
        · rw [← hbb] at ht0
          exact va_iast hx hb hK hP hD hS k0 t0 (am_w_get hcell) ht0 hi hdg hnew
        · rw [← hbb] at ht0
          have hv : vp_nar .boolean v = v := by rcases hbit hbb.symm with rfl | rfl <;> decide
          refine va_zast hx hb hK hP hD hS k0 t0 (am_w_get hcell) ht0 hi hdg ?_
          rw [hv]
          exact hnew
      · cases hd
    · cases hd
  · cases hd
set_option maxHeartbeats 1000000 in
theorem am_s30 (act : am_Act P Y Ts p R s m args meth c M d mc ms) (hk : am_okI P Y cl Ts M pc 30 a b k x nx tab) (hd : am_do P.2.1 P.2.2.2.2 30 a b k x nx tab d ls st S = some (pc', ls', st', S1)) (h : am_St em D cl Zs A s H locs cells slots ad ca tys lsA (P.2.2.1 M) ls st S c0 z0) (hC : am_okC P.2.1 cl Ts) (hA : ∀ q, s.heap.size ≤ q → A q) (hup : S1.2.1 ≤ c0 + mc ∧ S1.2.2 ≤ z0 + ms) (hE : am_ZE em P.2.2.2.2 Zs)
    (kk : am_K p l e R s m args below meth c Q em D cl Zs A (P.2.2.1 M) c0 z0 ad S.1.length pc' ls' st' S1) : W p l e R s m args below meth c H locs cells slots Q (F0 m pc lsA (st.map (am_v em ad))) := by
  obtain ⟨hx, hb, hml, hown, hts, hr, hlk, hnm, hRf, hRc, hRs, hRl, hexc, hhn⟩ := id act
  obtain ⟨hRl0, hS, hZ, hlo, hol, hos, hc, hz⟩ := id h
  obtain ⟨hP, hD, hK, hT, hW⟩ := id hRl0
  simp only [am_do] at hd
  simp only [am_okI] at hk
  obtain ⟨idx, C, T, N, hdg, rfl, hcl, h1⟩ := hk
  split at hd
  · rename_i k0 r
    split at hd
    · rename_i ci fs hcell
      split at hd
      · rename_i hci
        subst hci
        cases hd
        exact va_castS hx hb hown (hts _ h1) (hK.1 ci _ hcl).2 (va_recv hK hP hcl (am_w_get hcell)) hdg (kk _ _ _ _ _ _ _ _ (fun _ _ => rfl) h)
      · cases hd
    · cases hd
  · cases hd
set_option maxHeartbeats 1000000 in
theorem am_s16 (act : am_Act P Y Ts p R s m args meth c M d mc ms) (hk : am_okI P Y cl Ts M pc 16 a b k x nx tab) (hd : am_do P.2.1 P.2.2.2.2 16 a b k x nx tab d ls st S = some (pc', ls', st', S1)) (h : am_St em D cl Zs A s H locs cells slots ad ca tys lsA (P.2.2.1 M) ls st S c0 z0) (hC : am_okC P.2.1 cl Ts) (hA : ∀ q, s.heap.size ≤ q → A q) (hup : S1.2.1 ≤ c0 + mc ∧ S1.2.2 ≤ z0 + ms) (hE : am_ZE em P.2.2.2.2 Zs)
    (kk : am_K p l e R s m args below meth c Q em D cl Zs A (P.2.2.1 M) c0 z0 ad S.1.length pc' ls' st' S1) : W p l e R s m args below meth c H locs cells slots Q (F0 m pc lsA (st.map (am_v em ad))) := by
  obtain ⟨hx, hb, hml, hown, hts, hr, hlk, hnm, hRf, hRc, hRs, hRl, hexc, hhn⟩ := id act
  obtain ⟨hRl0, hS, hZ, hlo, hol, hos, hc, hz⟩ := id h
  obtain ⟨hP, hD, hK, hT, hW⟩ := id hRl0
  simp only [am_do] at hd
  simp only [am_okI] at hk
  obtain ⟨off, hdg, ht, rfl⟩ := hk
  split at hd
  · rename_i z y r
    split at hd
    · rename_i hzy
      subst hzy
      cases hd
      exact lv_acmp_eq (rx := some (em z)) (ry := some (em z)) hx hb hdg ht (fun _ => kk _ _ _ _ _ _ _ _ (fun _ _ => rfl) ⟨hRl0, hS, hZ, hlo, hol, fun w hw => hos w (List.mem_cons_of_mem _ (List.mem_cons_of_mem _ hw)), hc, hz⟩) (fun q => absurd rfl q)
    · cases hd
  · rename_i z k0 r
    split at hd
    · rename_i hz0
      subst hz0
      cases hd
      have hk0 : k0 < S.1.length := hos (.ref k0) (List.mem_cons_of_mem _ List.mem_cons_self)
      obtain ⟨c9, hc9⟩ : ∃ c9, S.1[k0]? = some c9 := ⟨_, List.getElem?_eq_getElem hk0⟩
      exact lv_acmp_eq (rx := some (ad k0)) (ry := some (em 0)) hx hb hdg ht (fun q => absurd (show A (ad k0) from hD.2 k0 _ (am_w_get hc9)) (by rw [Option.some.inj q]; exact (hE A s hZ).2.1.out)) (fun _ => kk _ _ _ _ _ _ _ _ (fun _ _ => rfl) ⟨hRl0, hS, hZ, hlo, hol, fun w hw => hos w (List.mem_cons_of_mem _ (List.mem_cons_of_mem _ hw)), hc, hz⟩)
    · cases hd
  · cases hd
set_option maxHeartbeats 1000000 in
theorem am_s17 (act : am_Act P Y Ts p R s m args meth c M d mc ms) (hk : am_okI P Y cl Ts M pc 17 a b k x nx tab) (hd : am_do P.2.1 P.2.2.2.2 17 a b k x nx tab d ls st S = some (pc', ls', st', S1)) (h : am_St em D cl Zs A s H locs cells slots ad ca tys lsA (P.2.2.1 M) ls st S c0 z0) (hC : am_okC P.2.1 cl Ts) (hA : ∀ q, s.heap.size ≤ q → A q) (hup : S1.2.1 ≤ c0 + mc ∧ S1.2.2 ≤ z0 + ms) (hE : am_ZE em P.2.2.2.2 Zs)
    (kk : am_K p l e R s m args below meth c Q em D cl Zs A (P.2.2.1 M) c0 z0 ad S.1.length pc' ls' st' S1) : W p l e R s m args below meth c H locs cells slots Q (F0 m pc lsA (st.map (am_v em ad))) := by
  obtain ⟨hx, hb, hml, hown, hts, hr, hlk, hnm, hRf, hRc, hRs, hRl, hexc, hhn⟩ := id act
  obtain ⟨hRl0, hS, hZ, hlo, hol, hos, hc, hz⟩ := id h
  obtain ⟨hP, hD, hK, hT, hW⟩ := id hRl0
  simp only [am_do] at hd
  simp only [am_okI] at hk
  obtain ⟨off, hdg, ht, rfl⟩ := hk
  split at hd
  · rename_i z y r
    split at hd
    · rename_i hzy
      subst hzy
      cases hd
      exact lv_acmp_ne (rx := some (em z)) (ry := some (em z)) hx hb hdg ht (fun q => absurd rfl q) (fun _ => kk _ _ _ _ _ _ _ _ (fun _ _ => rfl) ⟨hRl0, hS, hZ, hlo, hol, fun w hw => hos w (List.mem_cons_of_mem _ (List.mem_cons_of_mem _ hw)), hc, hz⟩)
    · cases hd
  · cases hd
set_option maxHeartbeats 1000000 in
theorem am_s38 (act : am_Act P Y Ts p R s m args meth c M d mc ms) (hk : am_okI P Y cl Ts M pc 38 a b k x nx tab) (hd : am_do P.2.1 P.2.2.2.2 38 a b k x nx tab d ls st S = some (pc', ls', st', S1)) (h : am_St em D cl Zs A s H locs cells slots ad ca tys lsA (P.2.2.1 M) ls st S c0 z0) (hC : am_okC P.2.1 cl Ts) (hA : ∀ q, s.heap.size ≤ q → A q) (hup : S1.2.1 ≤ c0 + mc ∧ S1.2.2 ≤ z0 + ms) (hE : am_ZE em P.2.2.2.2 Zs)
    (kk : am_K p l e R s m args below meth c Q em D cl Zs A (P.2.2.1 M) c0 z0 ad S.1.length pc' ls' st' S1) : W p l e R s m args below meth c H locs cells slots Q (F0 m pc lsA (st.map (am_v em ad))) := by
  obtain ⟨hx, hb, hml, hown, hts, hr, hlk, hnm, hRf, hRc, hRs, hRl, hexc, hhn⟩ := id act
  obtain ⟨hRl0, hS, hZ, hlo, hol, hos, hc, hz⟩ := id h
  obtain ⟨hP, hD, hK, hT, hW⟩ := id hRl0
  simp only [am_do] at hd
  simp only [am_okI] at hk
  obtain ⟨idx, hdg, rfl, h1, h2⟩ := hk
  split at hd
  · rename_i v r
    split at hd
    · rename_i hv
      cases hd
      have hR1 : cells + 1 ≤ R.cells := by rw [hRc]; have := hup.1; simp only at this; omega
      have hR2 : slots + v.toNatClampNeg ≤ R.slots := by rw [hRs]; have := hup.2; simp only at this; omega
      have hosr : ∀ w ∈ r, am_okv S.1.length w := fun w hw => hos w (List.mem_cons_of_mem _ hw)
      have hAO : va_AO "java/lang/Object" s := by
        have := hts _ h2
        unfold va_AO
        exact this
      refine va_newq hx hb hown (hts _ h1) hAO hK hP hD hS hA hv.1 rfl (by have := hv.2; omega) hR1 hR2 hdg (fun q cA H1 hK1 hP1 hD1 hS1 => ?_)
      rw [am_w_app (em := em) (cA := cA) (c := .inr (.inl (v.toNatClampNeg, fun _ => none))) (E := .inl (cA, v.toNatClampNeg, .inr (.inr (.inr (.inr (fun _ => none)))))) hW rfl] at hP1 hD1
      have hag : ∀ j, j < S.1.length → va_up ad S.1.length q j = ad j := fun j hj => if_neg (Nat.ne_of_lt hj)
      have e1 : r.map (am_v em ad) = r.map (am_v em (va_up ad S.1.length q)) := (am_st_eq hag hosr).symm
      have e2 : va_up ad S.1.length q S.1.length = q := if_pos rfl
      rw [e1]
      have key := kk H1 locs (cells + 1) (slots + v.toNatClampNeg) (va_up ad S.1.length q) (va_up ca S.1.length cA) (tys ++ [(cA, .object "java/lang/Object")]) lsA hag ⟨⟨hP1, hD1, hK1, fun j w hj => ?_, fun j w hj => ?_⟩, hS1, hZ, hlo.agree hol hag, fun i v hv => (hol i v hv).mono (by simp), am_oc (by simp [am_okv]) (fun w hw => (hosr w hw).mono (by simp)), by simp only; omega, by simp only; omega⟩
      · rw [show (Value.ref S.1.length :: r).map (am_v em (va_up ad S.1.length q)) = .ref q :: r.map (am_v em (va_up ad S.1.length q)) by simp only [List.map_cons, am_v, e2]] at key
        exact key
      · rcases Nat.lt_or_ge j S.1.length with hj2 | hj2
        · rw [List.getElem?_append_left hj2] at hj
          rw [show va_up ca S.1.length cA j = ca j from if_neg (Nat.ne_of_lt hj2)]
          exact (hT j w hj).more
        · rw [List.getElem?_append_right hj2] at hj
          cases hq : j - S.1.length with
          | zero =>
            have hj3 : j = S.1.length := by omega
            rw [hq] at hj; cases hj
            subst hj3
            rw [show va_up ca S.1.length cA S.1.length = cA from if_pos rfl]
            exact ⟨tys.length, by simp⟩
          | succ n => rw [hq] at hj; simp at hj
      · rcases Nat.lt_or_ge j S.1.length with hj2 | hj2
        · rw [List.getElem?_append_left hj2] at hj
          exact (hW j w hj).mono (by simp)
        · rw [List.getElem?_append_right hj2] at hj
          cases hq : j - S.1.length with
          | zero => rw [hq] at hj; cases hj; intro i j2 hj2; cases hj2
          | succ n => rw [hq] at hj; simp at hj
    · cases hd
  · cases hd
set_option maxHeartbeats 1000000 in
theorem am_s39 (act : am_Act P Y Ts p R s m args meth c M d mc ms) (hk : am_okI P Y cl Ts M pc 39 a b k x nx tab) (hd : am_do P.2.1 P.2.2.2.2 39 a b k x nx tab d ls st S = some (pc', ls', st', S1)) (h : am_St em D cl Zs A s H locs cells slots ad ca tys lsA (P.2.2.1 M) ls st S c0 z0) (hC : am_okC P.2.1 cl Ts) (hA : ∀ q, s.heap.size ≤ q → A q) (hup : S1.2.1 ≤ c0 + mc ∧ S1.2.2 ≤ z0 + ms) (hE : am_ZE em P.2.2.2.2 Zs)
    (kk : am_K p l e R s m args below meth c Q em D cl Zs A (P.2.2.1 M) c0 z0 ad S.1.length pc' ls' st' S1) : W p l e R s m args below meth c H locs cells slots Q (F0 m pc lsA (st.map (am_v em ad))) := by
  obtain ⟨hx, hb, hml, hown, hts, hr, hlk, hnm, hRf, hRc, hRs, hRl, hexc, hhn⟩ := id act
  obtain ⟨hRl0, hS, hZ, hlo, hol, hos, hc, hz⟩ := id h
  obtain ⟨hP, hD, hK, hT, hW⟩ := id hRl0
  simp only [am_do] at hd
  simp only [am_okI] at hk
  obtain ⟨hdg, rfl⟩ := hk
  split at hd
  · rename_i i k0 r
    split at hd
    · rename_i n g hcell
      split at hd
      · rename_i hin
        cases hd
        obtain ⟨hi0, hin⟩ := hin
        have hi : vp_in i n := fun q => q.elim hi0 (fun q => by omega)
        obtain ⟨t0, ht0⟩ := hT k0 _ hcell
        have hok : am_okv S.1.length (va_rf (g i.toNatClampNeg)) := by
          cases hg : g i.toNatClampNeg with
          | none => trivial
          | some j => exact hW k0 _ hcell _ j hg
        have kk1 := kk _ _ _ _ _ _ _ _ (fun _ _ => rfl) ⟨hRl0, hS, hZ, hlo, hol, am_oc hok fun w hw => hos w (List.mem_cons_of_mem _ (List.mem_cons_of_mem _ hw)), hc, hz⟩
        simp only [List.map_cons, am_va_rf] at kk1
        exact va_aldq hx hb hK hP k0 t0 (am_w_get hcell) ht0 hi hdg kk1
      · cases hd
    · cases hd
  · cases hd
set_option maxHeartbeats 1000000 in
theorem am_s40 (act : am_Act P Y Ts p R s m args meth c M d mc ms) (hk : am_okI P Y cl Ts M pc 40 a b k x nx tab) (hd : am_do P.2.1 P.2.2.2.2 40 a b k x nx tab d ls st S = some (pc', ls', st', S1)) (h : am_St em D cl Zs A s H locs cells slots ad ca tys lsA (P.2.2.1 M) ls st S c0 z0) (hC : am_okC P.2.1 cl Ts) (hA : ∀ q, s.heap.size ≤ q → A q) (hup : S1.2.1 ≤ c0 + mc ∧ S1.2.2 ≤ z0 + ms) (hE : am_ZE em P.2.2.2.2 Zs)
    (kk : am_K p l e R s m args below meth c Q em D cl Zs A (P.2.2.1 M) c0 z0 ad S.1.length pc' ls' st' S1) : W p l e R s m args below meth c H locs cells slots Q (F0 m pc lsA (st.map (am_v em ad))) := by
  obtain ⟨hx, hb, hml, hown, hts, hr, hlk, hnm, hRf, hRc, hRs, hRl, hexc, hhn⟩ := id act
  obtain ⟨hRl0, hS, hZ, hlo, hol, hos, hc, hz⟩ := id h
  obtain ⟨hP, hD, hK, hT, hW⟩ := id hRl0
  simp only [am_do] at hd
  simp only [am_okI] at hk
  obtain ⟨hdg, rfl, C, T, N, hcl, hca⟩ := hk
  have hset : ∀ (k0 n : Nat) (g : Nat → Option Nat) (i : Int32) (v : Option Nat) (st9 : List Value), S.1[k0]? = some (.inr (.inl (n, g))) → (∀ w ∈ st9, am_okv S.1.length w) → (∀ j, v = some j → j < S.1.length) → am_K p l e R s m args below meth c Q em D cl Zs A (P.2.2.1 M) c0 z0 ad S.1.length (pc + 1) ls st9 (S.1.set k0 (.inr (.inl (n, va_up g i.toNatClampNeg v))), S.2.1, S.2.2) →
      ∀ (H1 : Heap) (locs1 : List Loc), va_P D cl ((am_w em ad ca S.1).set k0 (ad k0, .inl (ca k0, n, .inr (.inr (.inr (.inr (va_up (fun i => (g i).map ad) i.toNatClampNeg (v.map ad)))))))) H1 → va_D A ((am_w em ad ca S.1).set k0 (ad k0, .inl (ca k0, n, .inr (.inr (.inr (.inr (va_up (fun i => (g i).map ad) i.toNatClampNeg (v.map ad)))))))) → va_S A s.heap H1 locs1 →
        W p l e R s m args below meth c H1 locs1 cells slots Q (F0 m (pc + 1) lsA (st9.map (am_v em ad))) := by
    intro k0 n g i v st9 hcell hst9 hv kk H1 locs1 hP1 hD1 hS1
    have hwset : (am_w em ad ca S.1).set k0 (ad k0, .inl (ca k0, n, .inr (.inr (.inr (.inr (va_up (fun i => (g i).map ad) i.toNatClampNeg (v.map ad))))))) = am_w em ad ca (S.1.set k0 (.inr (.inl (n, va_up g i.toNatClampNeg v)))) := by
      rw [← am_w_set]
      have : (fun i_1 => (va_up g i.toNatClampNeg v i_1).map ad) = va_up (fun i => (g i).map ad) i.toNatClampNeg (v.map ad) := by
        funext j; unfold va_up; split <;> rfl
      simp only [am_ce, this]
    rw [hwset] at hP1 hD1
    refine kk _ _ _ _ _ ca tys _ (fun _ _ => rfl) ⟨⟨hP1, hD1, hK, fun j q hj => ?_, fun j q hj => ?_⟩, hS1, hZ, hlo, by rw [List.length_set]; exact hol, by rw [List.length_set]; exact hst9, hc, hz⟩
    · rw [List.getElem?_set] at hj
      split at hj
      · split at hj
        · rename_i hjj _
          cases hj
          subst hjj
          have h9 : am_ty tys (ca k0) (.inr (.inl (n, g))) := hT k0 _ hcell
          exact h9
        · cases hj
      · exact hT j q hj
    · rw [List.length_set]
      rw [List.getElem?_set] at hj
      split at hj
      · split at hj
        · cases hj
          intro i2 j2 hj2
          unfold va_up at hj2
          split at hj2
          · exact hv j2 hj2
          · exact hW k0 _ hcell i2 j2 hj2
        · cases hj
      · exact hW j q hj
  split at hd
  · rename_i v i k0 r
    split at hd
    · rename_i ci fs n g hcv hcell
      split at hd
      · rename_i hin
        obtain ⟨rfl, hi0, hin⟩ := hin
        cases hd
        have hi : vp_in i n := fun q => q.elim hi0 (fun q => by omega)
        obtain ⟨t0, ht0⟩ := hT k0 _ hcell
        have hvl : v < S.1.length := (List.getElem?_eq_some_iff.mp hcv).1
        exact va_astqO (E := "java/lang/Object") (r := (C, T, N)) hx hb hK hP hD hS k0 t0 v ci (am_w_get hcell) ht0 (by have h9 := hts _ hca; unfold va_Nw; exact h9) (am_w_get hcv) hcl hi hdg (hset k0 n g i (some v) _ hcell (fun w hw => hos w (List.mem_cons_of_mem _ (List.mem_cons_of_mem _ (List.mem_cons_of_mem _ hw)))) (fun j hj => by cases hj; exact hvl) kk)
      · cases hd
    · cases hd
  · rename_i i k0 r
    split at hd
    · rename_i n g hcell
      split at hd
      · rename_i hin
        obtain ⟨hi0, hin⟩ := hin
        cases hd
        have hi : vp_in i n := fun q => q.elim hi0 (fun q => by omega)
        obtain ⟨t0, ht0⟩ := hT k0 _ hcell
        exact va_astqN hx hb hK hP hD hS k0 t0 (am_w_get hcell) ht0 hi hdg (hset k0 n g i none _ hcell (fun w hw => hos w (List.mem_cons_of_mem _ (List.mem_cons_of_mem _ (List.mem_cons_of_mem _ hw)))) (fun j hj => by cases hj) kk)
      · cases hd
    · cases hd
  · cases hd
set_option maxHeartbeats 1000000 in
theorem am_s41 (act : am_Act P Y Ts p R s m args meth c M d mc ms) (hk : am_okI P Y cl Ts M pc 41 a b k x nx tab) (hd : am_do P.2.1 P.2.2.2.2 41 a b k x nx tab d ls st S = some (pc', ls', st', S1)) (h : am_St em D cl Zs A s H locs cells slots ad ca tys lsA (P.2.2.1 M) ls st S c0 z0) (hC : am_okC P.2.1 cl Ts) (hA : ∀ q, s.heap.size ≤ q → A q) (hup : S1.2.1 ≤ c0 + mc ∧ S1.2.2 ≤ z0 + ms) (hE : am_ZE em P.2.2.2.2 Zs)
    (kk : am_K p l e R s m args below meth c Q em D cl Zs A (P.2.2.1 M) c0 z0 ad S.1.length pc' ls' st' S1) : W p l e R s m args below meth c H locs cells slots Q (F0 m pc lsA (st.map (am_v em ad))) := by
  obtain ⟨hx, hb, hml, hown, hts, hr, hlk, hnm, hRf, hRc, hRs, hRl, hexc, hhn⟩ := id act
  obtain ⟨hRl0, hS, hZ, hlo, hol, hos, hc, hz⟩ := id h
  obtain ⟨hP, hD, hK, hT, hW⟩ := id hRl0
  simp only [am_do] at hd
  simp only [am_okI] at hk
  obtain ⟨idx, hdg, rfl, h1, h2, h3, h4⟩ := hk
  split at hd
  · rename_i n dp k1 sp k0 r
    split at hd
    · rename_i n0 f n1 g hc0 hc1
      split at hd
      · rename_i hin
        cases hd
        obtain ⟨q1, q2, q3, q4, q5, q6, q7⟩ := hin
        obtain ⟨t0, ht0⟩ := hT k0 _ hc0
        obtain ⟨t1, ht1⟩ := hT k1 _ hc1
        have hosr : ∀ w ∈ st', am_okv S.1.length w := fun w hw => hos w (List.mem_cons_of_mem _ (List.mem_cons_of_mem _ (List.mem_cons_of_mem _ (List.mem_cons_of_mem _ (List.mem_cons_of_mem _ hw)))))
        have hloc : ((st'.map (am_v em ad)).map fun v => v.category).sum + (nativeFrameWords "java/lang/System" "arraycopy" 5 + 11) ≤ R.locals := by
          rw [am_catl st' hosr, hRl, show nativeFrameWords "java/lang/System" "arraycopy" 5 = 7 by decide]; omega
        refine va_copyi (ty := .int) hx hb (hml.trans hlo.1.1.symm) hown (hts _ h1) (hts _ h2) (hts _ h3) (hts _ h4) hK hP hD hS k0 k1 t0 t1 (am_w_get hc0) (am_w_get hc1) ht0 ht1 rfl q1 q2 q3 q4 q5 (fun _ _ => rfl) (by rw [hRf]; exact q6) hloc hdg (fun H1 locs1 hP1 hD1 hS1 => ?_)
        have hwset : (am_w em ad ca S.1).set k1 (ad k1, .inl (ca k1, n1, .inl (va_cpy f g sp.toNatClampNeg dp.toNatClampNeg n.toNatClampNeg))) = am_w em ad ca (S.1.set k1 (.inl (false, n1, va_cpy f g sp.toNatClampNeg dp.toNatClampNeg n.toNatClampNeg))) := by
          rw [← am_w_set]
          simp only [am_ce]
        rw [hwset] at hP1 hD1
        refine kk _ _ _ _ _ ca tys _ (fun _ _ => rfl) ⟨⟨hP1, hD1, hK, fun j q hj => ?_, fun j q hj => ?_⟩, hS1, hZ, hlo, by rw [List.length_set]; exact hol, by rw [List.length_set]; exact hosr, hc, hz⟩
        · rw [List.getElem?_set] at hj
          split at hj
          · split at hj
            · rename_i hjj _
              cases hj
              subst hjj
              exact ⟨t1, ht1⟩
            · cases hj
          · exact hT j q hj
        · rw [List.length_set]
          rw [List.getElem?_set] at hj
          split at hj
          · split at hj
            · cases hj; trivial
            · cases hj
          · exact hW j q hj
      · cases hd
    · cases hd
  · cases hd
set_option maxHeartbeats 1000000 in
theorem am_s42 (act : am_Act P Y Ts p R s m args meth c M d mc ms) (hk : am_okI P Y cl Ts M pc 42 a b k x nx tab) (hd : am_do P.2.1 P.2.2.2.2 42 a b k x nx tab d ls st S = some (pc', ls', st', S1)) (h : am_St em D cl Zs A s H locs cells slots ad ca tys lsA (P.2.2.1 M) ls st S c0 z0) (hC : am_okC P.2.1 cl Ts) (hA : ∀ q, s.heap.size ≤ q → A q) (hup : S1.2.1 ≤ c0 + mc ∧ S1.2.2 ≤ z0 + ms) (hE : am_ZE em P.2.2.2.2 Zs)
    (kk : am_K p l e R s m args below meth c Q em D cl Zs A (P.2.2.1 M) c0 z0 ad S.1.length pc' ls' st' S1) : W p l e R s m args below meth c H locs cells slots Q (F0 m pc lsA (st.map (am_v em ad))) := by
  obtain ⟨hx, hb, hml, hown, hts, hr, hlk, hnm, hRf, hRc, hRs, hRl, hexc, hhn⟩ := id act
  obtain ⟨hRl0, hS, hZ, hlo, hol, hos, hc, hz⟩ := id h
  obtain ⟨hP, hD, hK, hT, hW⟩ := id hRl0
  simp only [am_do] at hd
  simp only [am_okI] at hk
  obtain ⟨idx, hdg, rfl, h1, h2, h3, h4, C, T, N, hcl, hca⟩ := hk
  split at hd
  · rename_i n dp k1 sp k0 r
    split at hd
    · rename_i n0 f n1 g hc0 hc1
      split at hd
      · rename_i hin
        cases hd
        obtain ⟨q1, q2, q3, q4, q5, q6, q7, q8⟩ := hin
        obtain ⟨t0, ht0⟩ := hT k0 _ hc0
        obtain ⟨t1, ht1⟩ := hT k1 _ hc1
        have hosr : ∀ w ∈ st', am_okv S.1.length w := fun w hw => hos w (List.mem_cons_of_mem _ (List.mem_cons_of_mem _ (List.mem_cons_of_mem _ (List.mem_cons_of_mem _ (List.mem_cons_of_mem _ hw)))))
        have hloc : ((st'.map (am_v em ad)).map fun v => v.category).sum + (nativeFrameWords "java/lang/System" "arraycopy" 5 + 11) ≤ R.locals := by
          rw [am_catl st' hosr, hRl, show nativeFrameWords "java/lang/System" "arraycopy" 5 = 7 by decide]; omega
        refine va_copyq (C := C) hx hb (hml.trans hlo.1.1.symm) hown (hts _ h1) (hts _ h2) (hts _ h3) (hts _ h4) hK hP hD hS k0 k1 t0 t1 (am_w_get hc0) (am_w_get hc1) ht0 ht1 q1 q2 q3 q4 q5 (fun i hi y hy => ?_) (fun comp c9 hcomp hc9 => ?_) (by rw [hRf]; exact q6) hloc hdg (fun H1 locs1 hP1 hD1 hS1 => ?_)
        · have q9 := List.all_eq_true.mp q8 i (List.mem_range.mpr hi)
          cases hfi : f (sp.toNatClampNeg + i) with
          | none => rw [hfi] at hy; cases hy
          | some j =>
            rw [hfi] at hy q9
            cases hy
            dsimp only at q9
            split at q9
            · rename_i ci fs hcj
              obtain rfl : ci = a := of_decide_eq_true q9
              exact va_recv hK hP hcl (am_w_get hcj)
            · cases q9
        · obtain ⟨c3, c4, hc3, hc4, hasg⟩ := Cond.castable_spec (hts _ hca)
          cases hc3.symm.trans hc9
          cases hc4.symm.trans hcomp
          exact hasg
        · have hwset : (am_w em ad ca S.1).set k1 (ad k1, .inl (ca k1, n1, .inr (.inr (.inr (.inr (va_cpy (fun i => (f i).map ad) (fun i => (g i).map ad) sp.toNatClampNeg dp.toNatClampNeg n.toNatClampNeg)))))) = am_w em ad ca (S.1.set k1 (.inr (.inl (n1, va_cpy f g sp.toNatClampNeg dp.toNatClampNeg n.toNatClampNeg)))) := by
            rw [← am_w_set]
            have : (fun i => (va_cpy f g sp.toNatClampNeg dp.toNatClampNeg n.toNatClampNeg i).map ad) = va_cpy (fun i => (f i).map ad) (fun i => (g i).map ad) sp.toNatClampNeg dp.toNatClampNeg n.toNatClampNeg := by
              funext j; unfold va_cpy; split <;> rfl
            simp only [am_ce, this]
          rw [hwset] at hP1 hD1
          refine kk _ _ _ _ _ ca tys _ (fun _ _ => rfl) ⟨⟨hP1, hD1, hK, fun j q hj => ?_, fun j q hj => ?_⟩, hS1, hZ, hlo, by rw [List.length_set]; exact hol, by rw [List.length_set]; exact hosr, hc, hz⟩
          · rw [List.getElem?_set] at hj
            split at hj
            · split at hj
              · rename_i hjj _
                cases hj
                subst hjj
                exact ⟨t1, ht1⟩
              · cases hj
            · exact hT j q hj
          · rw [List.length_set]
            rw [List.getElem?_set] at hj
            split at hj
            · split at hj
              · cases hj
                intro i2 j2 hj2
                unfold va_cpy at hj2
                split at hj2
                · exact hW k0 _ hc0 _ j2 hj2
                · exact hW k1 _ hc1 i2 j2 hj2
              · cases hj
            · exact hW j q hj
      · cases hd
    · cases hd
  · cases hd
set_option maxHeartbeats 1000000 in
theorem am_s44 (act : am_Act P Y Ts p R s m args meth c M d mc ms) (hk : am_okI P Y cl Ts M pc 44 a b k x nx tab) (hd : am_do P.2.1 P.2.2.2.2 44 a b k x nx tab d ls st S = some (pc', ls', st', S1)) (h : am_St em D cl Zs A s H locs cells slots ad ca tys lsA (P.2.2.1 M) ls st S c0 z0) (hC : am_okC P.2.1 cl Ts) (hA : ∀ q, s.heap.size ≤ q → A q) (hup : S1.2.1 ≤ c0 + mc ∧ S1.2.2 ≤ z0 + ms) (hE : am_ZE em P.2.2.2.2 Zs)
    (kk : am_K p l e R s m args below meth c Q em D cl Zs A (P.2.2.1 M) c0 z0 ad S.1.length pc' ls' st' S1) : W p l e R s m args below meth c H locs cells slots Q (F0 m pc lsA (st.map (am_v em ad))) := by
  obtain ⟨hx, hb, hml, hown, hts, hr, hlk, hnm, hRf, hRc, hRs, hRl, hexc, hhn⟩ := id act
  obtain ⟨hRl0, hS, hZ, hlo, hol, hos, hc, hz⟩ := id h
  obtain ⟨hP, hD, hK, hT, hW⟩ := id hRl0
  simp only [am_do] at hd
  simp only [am_okI] at hk
  obtain ⟨idx, hdg, rfl, h1, h2, h3, h4, h5⟩ := hk
  split at hd
  · rename_i k0 r
    split at hd
    · rename_i ng hcell
      split at hd
      · rename_i hin
        cases hd
        obtain ⟨t0, ht0⟩ := hT k0 _ hcell
        have hosr : ∀ w ∈ r, am_okv S.1.length w := fun w hw => hos w (List.mem_cons_of_mem _ hw)
        obtain ⟨kA, comp, -, -, -, hfc⟩ := (hK.2 t0 _ ht0).2
        have hat := hP k0 _ (am_w_get hcell)
        exact va_getC (C := am_ED) hx hb (hml.trans hlo.1.1.symm) hown (hts _ h1) (hts _ h2) (hts _ h3) (hts _ h4) (hts _ h5) (hE A s hZ).2.2.1 ⟨_, hat, rfl, hfc⟩ (by rw [hRf]; exact hin.1) (by
          show ((r.map (am_v em ad)).map fun v => v.category).sum + 14 ≤ R.locals
          rw [am_catl r hosr, hRl]; omega) hdg (kk _ _ _ _ _ _ _ _ (fun _ _ => rfl) ⟨hRl0, hS, hZ, hlo, hol, am_oc trivial hosr, hc, hz⟩)
      · cases hd
    · cases hd
  · cases hd
set_option maxHeartbeats 1000000 in
theorem am_s43 (act : am_Act P Y Ts p R s m args meth c M d mc ms) (hk : am_okI P Y cl Ts M pc 43 a b k x nx tab) (hd : am_do P.2.1 P.2.2.2.2 43 a b k x nx tab d ls st S = some (pc', ls', st', S1)) (h : am_St em D cl Zs A s H locs cells slots ad ca tys lsA (P.2.2.1 M) ls st S c0 z0) (hC : am_okC P.2.1 cl Ts) (hA : ∀ q, s.heap.size ≤ q → A q) (hup : S1.2.1 ≤ c0 + mc ∧ S1.2.2 ≤ z0 + ms) (hE : am_ZE em P.2.2.2.2 Zs)
    (kk : am_K p l e R s m args below meth c Q em D cl Zs A (P.2.2.1 M) c0 z0 ad S.1.length pc' ls' st' S1) : W p l e R s m args below meth c H locs cells slots Q (F0 m pc lsA (st.map (am_v em ad))) := by
  obtain ⟨hx, hb, hml, hown, hts, hr, hlk, hnm, hRf, hRc, hRs, hRl, hexc, hhn⟩ := id act
  obtain ⟨hRl0, hS, hZ, hlo, hol, hos, hc, hz⟩ := id h
  obtain ⟨hP, hD, hK, hT, hW⟩ := id hRl0
  simp only [am_do] at hd
  simp only [am_okI] at hk
  obtain ⟨idx, hdg, rfl, h1⟩ := hk
  cases hd
  exact va_gets hx hb (hE A s hZ).1 hS hown (hts _ h1) (fun _ q => q) hdg (kk _ _ _ _ _ _ _ _ (fun _ _ => rfl) ⟨hRl0, hS, hZ, hlo, hol, am_oc trivial hos, hc, hz⟩)
set_option maxHeartbeats 1000000 in
theorem am_s45 (act : am_Act P Y Ts p R s m args meth c M d mc ms) (hk : am_okI P Y cl Ts M pc 45 a b k x nx tab) (hd : am_do P.2.1 P.2.2.2.2 45 a b k x nx tab d ls st S = some (pc', ls', st', S1)) (h : am_St em D cl Zs A s H locs cells slots ad ca tys lsA (P.2.2.1 M) ls st S c0 z0) (hC : am_okC P.2.1 cl Ts) (hA : ∀ q, s.heap.size ≤ q → A q) (hup : S1.2.1 ≤ c0 + mc ∧ S1.2.2 ≤ z0 + ms) (hE : am_ZE em P.2.2.2.2 Zs)
    (kk : am_K p l e R s m args below meth c Q em D cl Zs A (P.2.2.1 M) c0 z0 ad S.1.length pc' ls' st' S1) : W p l e R s m args below meth c H locs cells slots Q (F0 m pc lsA (st.map (am_v em ad))) := by
  obtain ⟨hx, hb, hml, hown, hts, hr, hlk, hnm, hRf, hRc, hRs, hRl, hexc, hhn⟩ := id act
  obtain ⟨hRl0, hS, hZ, hlo, hol, hos, hc, hz⟩ := id h
  obtain ⟨hP, hD, hK, hT, hW⟩ := id hRl0
  simp only [am_do] at hd
  simp only [am_okI] at hk
  obtain ⟨idx, hdg, rfl, h1⟩ := hk
  cases hd
  exact va_ldcM hx hb hown (hts _ h1) (hE A s hZ).2.2.1 hdg (kk _ _ _ _ _ _ _ _ (fun _ _ => rfl) ⟨hRl0, hS, hZ, hlo, hol, am_oc trivial hos, hc, hz⟩)
end AM4
end
section
/-! A RUN OF THE ABSTRACT MACHINE IS A RUN OF THE MACHINE -/
/-- a word that stays true while the tables grow warmer -/
def am_Ps (w : Jvm.Cond) : Prop := ∀ (s U : State) (args a' : Array Value), s.WarmedH U.vm → w.before args s = true → w.before a' U = true
/-- a method's end: the answer by its addresses, the heap holds the cells; or it threw -/
def am_Qc (em : Int64 → Nat) (D : va_G) (cl : List vw_C) (A : Nat → Prop) (n0 : Nat) (ad0 : Nat → Nat) (o : Option (Option Value)) (S : am_S) : Array Value → State → Outcome → State → Prop := fun _ st oc t =>
  (∃ (ad : Nat → Nat) (ca : Nat → ClassId) (tys : List (ClassId × FieldType)), (∀ k, k < n0 → ad k = ad0 k) ∧ am_Rl em D cl A t ad ca tys S.1 t.heap ∧ match o with
    | some v => oc = .returned (v.map (am_v em ad)) ∧ ∀ x, v = some x → am_okv S.1.length x
    | none => ∃ (q : Addr) (ce : Cell), oc = .threw q ∧ t.heap[q]? = some ce ∧ ce.vm = .none ∧ t.vm.findClass am_ise = some ce.cls) ∧ va_F A st t
/-- 'throw new ..' where the program has it -/
def am_Thr (P : am_P) (Y : am_Y) (Ts : List Jvm.Cond) (Zs : (Nat → Prop) → State → Heap → Prop) (l : Launch) : Prop :=
  ∀ (M pc a b k : Nat) (x : Int32) (nx : Nat) (tab : List (Int32 × Nat)), P.1 M pc = some (37, a, b, k, x, nx, tab) →
  ∀ (p : Program) (e : Env) (R : Room) (s : State) (m : MethodId) (args : Array Value) (below : List Frame) (meth : Method) (c : Code) (H : Heap) (locs : List Loc) (cells slots d mc ms : Nat) (A : Nat → Prop) (lsA : Array Slot) (rest : List Value) (Qc : Array Value → State → Outcome → State → Prop),
    am_Act P Y Ts p R s m args meth c M d mc ms → va_S A s.heap H locs → Zs A s s.heap → (∀ q, s.heap.size ≤ q → A q) → lsA.size = P.2.2.1 M → 12 ≤ d → (rest.map fun v => v.category).sum ≤ 8 → cells + 1 ≤ mc → slots + 6 ≤ ms →
    (∀ (q : Addr) (ce : Cell) (t : State), s.WarmedH t.vm → H.size ≤ t.heap.size → (∀ z : Nat, z < H.size → t.heap[z]? = H[z]?) → t.heap[q]? = some ce → ce.vm = .none → t.vm.findClass am_ise = some ce.cls → Qc args s (.threw q) t) →
    W p l e R s m args below meth c H locs cells slots (am_MQ below Qc args s mc ms A) (F0 m pc lsA rest)
theorem am_cats {em : Int64 → Nat} {ad : Nat → Nat} {n : Nat} : ∀ q : List Value, (∀ w ∈ q, am_okv n w) → ((q.map (am_v em ad)).map fun v => v.category).sum = q.length := by
  intro q
  induction q with
  | nil => intro _; rfl
  | cons w q ih => intro hq; simp only [List.map_cons, List.sum_cons, List.length_cons]; rw [ih fun u hu => hq u (List.mem_cons_of_mem _ hu), am_cat (em := em) ad (hq w List.mem_cons_self)]; omega
theorem am_lgsl {em : Int64 → Nat} {ad : Nat → Nat} {n : Nat} : ∀ q : List Value, (∀ w ∈ q, am_okv n w) → lg_sl (q.map (am_v em ad)) = q.map (fun v => Slot.val (am_v em ad v)) := by
  intro q
  induction q with
  | nil => intro _; rfl
  | cons w q ih =>
    intro hq
    have h1 := ih fun u hu => hq u (List.mem_cons_of_mem _ hu)
    have h2 := am_cat (em := em) ad (hq w List.mem_cons_self)
    simp only [List.map_cons]
    rw [← h1]
    simp [lg_sl, h2]
theorem am_args {em : Int64 → Nat} {ad : Nat → Nat} {n : Nat} : ∀ (q : List Value) (i j : Nat) (v : Value), (∀ w ∈ q, am_okv n w) → q[j]? = some v → (i + j, am_v em ad v) ∈ lv_args i (q.map (am_v em ad)) := by
  intro q
  induction q with
  | nil => intro i j v _ h; simp at h
  | cons w q ih =>
    intro i j v hq h
    have hc := am_cat (em := em) ad (hq w List.mem_cons_self)
    simp only [List.map_cons, lv_args, hc]
    cases j with
    | zero =>
      simp at h
      subst h
      exact List.mem_cons_self
    | succ j =>
      have h1 := ih (i + 1) j v (fun u hu => hq u (List.mem_cons_of_mem _ hu)) (by simpa using h)
      refine List.mem_cons_of_mem _ ?_
      rw [if_neg (by decide), show i + (j + 1) = i + 1 + j by omega]
      exact h1
/-- a method's locals at its entry -/
theorem am_entry {em : Int64 → Nat} {ad : Nat → Nat} {n nL : Nat} {as : List Value} (ho : ∀ w ∈ as, am_okv n w) (hn : as.length ≤ nL) : am_lo em nL ((lg_sl (as.map (am_v em ad)) ++ List.replicate (nL - (lg_sl (as.map (am_v em ad))).length) Slot.unset).toArray) ad (am_in as nL) ∧ am_okl n (am_in as nL) := by
  have hlen : (lg_sl (as.map (am_v em ad))).length = as.length := by rw [am_lgsl as ho, List.length_map]
  have h1 := lv_entry (as.map (am_v em ad)) (n := nL) (by rw [hlen]; exact hn)
  have hg : ∀ (i : Nat) (v : Value), (am_in as nL)[i]? = some (some v) → as[i]? = some v := by
    intro i v hv
    unfold am_in at hv
    rcases Nat.lt_or_ge i as.length with hi | hi
    · rw [List.getElem?_append_left (by rw [List.length_map]; exact hi), List.getElem?_map] at hv
      cases hq : as[i]? with
      | none => rw [hq] at hv; cases hv
      | some w => rw [hq] at hv; simp at hv; rw [hv]
    · rw [List.getElem?_append_right (by rw [List.length_map]; exact hi), List.getElem?_replicate] at hv
      split at hv <;> cases hv
  refine ⟨⟨⟨h1.1, h1.2.1, fun q hq => ?_⟩, by simp [am_in]; omega⟩, fun i v hv => ho v (List.mem_of_getElem? (hg i v hv))⟩
  obtain ⟨v, hv, hq2⟩ := am_al_mem.mp hq
  have h2 := am_args (em := em) (ad := ad) as 0 q.1 v ho (hg _ _ hv)
  rw [Nat.zero_add] at h2
  exact h1.2.2 q (by rw [show q = (q.1, am_v em ad v) from Prod.ext rfl hq2]; exact h2)
/-- the frame that the callee leaves, seen by the caller -/
theorem am_Sjoin {A B : Nat → Prop} {H0 H : Heap} {locs L : List Loc} {st t : State} (hS : va_S A H0 H locs) (hst : st.heap = H) (hF : va_F B st t) (hAB : ∀ q, B q → A q) (hL : ∀ q ∈ L, B q.base) : va_S A H0 t.heap (locs ++ L) := by
  refine ⟨Nat.le_trans hS.1 (by rw [← hst]; exact hF.1), fun q hq hA => ?_, fun q hq => ?_⟩
  · rw [hF.2 q (by rw [hst]; exact Nat.lt_of_lt_of_le hq hS.1) (fun z => hA (hAB q z)), hst]
    exact hS.2.1 q hq hA
  · rcases List.mem_append.mp hq with hq | hq
    · exact hS.2.2 q hq
    · exact hAB _ (hL q hq)
section AM5
variable {em : Int64 → Nat} {P : am_P} {Y : am_Y} {D : va_G} {cl : List vw_C} {Ts : List Jvm.Cond} {Zs : (Nat → Prop) → State → Heap → Prop} {l : Launch}
/-- what is said of all runs with fuel n -/
def am_Snd (em : Int64 → Nat) (P : am_P) (Y : am_Y) (D : va_G) (cl : List vw_C) (Ts : List Jvm.Cond) (Zs : (Nat → Prop) → State → Heap → Prop) (l : Launch) (n : Nat) : Prop :=
  ∀ (d M pc : Nat) (ls : am_V) (st : List Value) (S : am_S) (o : Option (Option Value)) (S' : am_S), am_run P n d M pc ls st S = some (o, S') →
  ∀ (p : Program) (e : Env) (R : Room) (s : State) (m : MethodId) (args : Array Value) (below : List Frame) (meth : Method) (c : Code) (H : Heap) (locs : List Loc) (cells slots mc ms c0 z0 n0 : Nat) (A : Nat → Prop) (ad ad0 : Nat → Nat) (ca : Nat → ClassId) (tys : List (ClassId × FieldType)) (lsA : Array Slot),
    am_Act P Y Ts p R s m args meth c M d mc ms → am_St em D cl Zs A s H locs cells slots ad ca tys lsA (P.2.2.1 M) ls st S c0 z0 → (∀ q, s.heap.size ≤ q → A q) → c0 + mc = S'.2.1 → z0 + ms = S'.2.2 → n0 ≤ S.1.length → (∀ k, k < n0 → ad k = ad0 k) →
    W p l e R s m args below meth c H locs cells slots (am_MQ below (am_Qc em D cl A n0 ad0 o S') args s mc ms A) (F0 m pc lsA (st.map (am_v em ad)))
/-- a method's contract out of its run -/
theorem am_met {n : Nat} (ih : am_Snd em P Y D cl Ts Zs l n) {a d : Nat} {as : List Value} {S S1 : am_S} {o : Option (Option Value)} (hrun : am_run P n d a 0 (am_in as (P.2.2.1 a)) [] S = some (o, S1)) (hM : am_okM P Y Ts a)
    (has : ∀ w ∈ as, am_okv S.1.length w) (hlen : as.length ≤ P.2.2.1 a) (ad : Nat → Nat) (ca : Nat → ClassId) (tys : List (ClassId × FieldType)) (H : Heap) :
    ∃ ws : List Jvm.Cond, (∀ w ∈ ws, w ∈ Ts) ∧ am_Met l (Y a).1 ws { frames := d, cells := S1.2.1 - S.2.1, slots := S1.2.2 - S.2.2, locals := 41 * d }
      (fun v U => v = (as.map (am_v em ad)).toArray ∧ U.heap = H ∧ am_Rl em D cl (am_A ad S.1.length H.size) U ad ca tys S.1 H ∧ Zs (am_A ad S.1.length H.size) U H)
      (am_Qc em D cl (am_A ad S.1.length H.size) S.1.length ad o S1) (S1.2.1 - S.2.1) (S1.2.2 - S.2.2) (am_A ad S.1.length H.size) := by
  have hupS := am_run_up P _ _ _ _ _ _ _ _ _ hrun
  have hent := am_entry (em := em) (ad := ad) (nL := P.2.2.1 a) has hlen
  rcases hM.1 with ⟨hcd, hno⟩ | ⟨q, hcd, hq1, hq2, hq3, hq4⟩
  · refine ⟨Jvm.Cond.code (Y a).1 (Y a).2.1 (P.2.2.1 a) (Y a).2.2 :: Ts, fun w hw => (List.mem_cons.mp hw).elim (fun e => by rw [e]; exact hcd) id, am_ofW (cc := (Y a).2.1) (maxL := P.2.2.1 a) (ret := (Y a).2.2) hM.2.2.2.1 rfl ?_⟩
    intro p e s m args below meth c s₁ B hml hv
    obtain ⟨rfl, rfl, hRl, hZ⟩ := hv
    have hts := atoms_spec (ws := Jvm.Cond.code (Y a).1 (Y a).2.1 (P.2.2.1 a) (Y a).2.2 :: Ts) B.pre
    have hexc := BodyLoose.noHandlers B (hts _ List.mem_cons_self)
    have htab : c.exceptionTable.toList = [] := by
      have h9 : c.exceptionTable = #[] := Array.isEmpty_iff.mp hexc
      rw [h9]
    rw [lg_entry_eq]
    exact ih d a 0 (am_in as (P.2.2.1 a)) [] S o S1 hrun p e _ s m _ below meth c s.heap [] 0 0 _ _ S.2.1 S.2.2 S.1.length _ ad ad ca tys _
      ⟨B.exec, B.bytes, hml, findClass_of_methodNamed B.named, fun w hw => hts w (List.mem_cons_of_mem _ hw), B.returns, B.notSynchronized, (name_of_methodNamed B.named B.method).1, rfl, rfl, rfl, rfl, (fun pc _ x hx => by rw [htab] at hx; cases hx), fun pc h j hh => by rw [hno pc] at hh; cases hh⟩
      ⟨hRl, va_S.rf, hZ, hent.1, hent.2, (fun v hv => nomatch hv), rfl, rfl⟩ (fun q h => Or.inr h) (by omega) (by omega) (Nat.le_refl _) (fun _ _ => rfl)
  · refine ⟨Jvm.Cond.codeWith (Y a).1 (Y a).2.1 (P.2.2.1 a) (Y a).2.2 [q] :: Ts, fun w hw => (List.mem_cons.mp hw).elim (fun e => by rw [e]; exact hcd) id, am_ofWW (cc := (Y a).2.1) (maxL := P.2.2.1 a) (ret := (Y a).2.2) hM.2.2.2.1 rfl ?_⟩
    intro p e s m args below meth c s₁ B hml hv
    obtain ⟨rfl, rfl, hRl, hZ⟩ := hv
    have hts := atoms_spec (ws := Jvm.Cond.codeWith (Y a).1 (Y a).2.1 (P.2.2.1 a) (Y a).2.2 [q] :: Ts) B.pre
    obtain ⟨m9, meth9, c9, hn9, h1, h2, h3, h4, htb, h5, h6, -⟩ := Cond.codeWith_spec (hts _ List.mem_cons_self)
    cases B.named.symm.trans hn9
    cases B.method.symm.trans h1
    cases (Stand.of_body B).code.symm.trans h2
    obtain ⟨x, htab, hxq⟩ : ∃ x : ExceptionTableEntry, c.exceptionTable.toList = [x] ∧ (x.startPc, x.endPc, x.handlerPc, x.catchType) = q := by
      cases hl : c.exceptionTable.toList with
      | nil => rw [hl] at htb; cases htb
      | cons x r =>
        rw [hl] at htb
        simp only [List.map_cons, List.cons.injEq, List.map_eq_nil_iff] at htb
        exact ⟨x, by rw [htb.2], htb.1⟩
    subst hxq
    rw [lg_entry_eq]
    exact ih d a 0 (am_in as (P.2.2.1 a)) [] S o S1 hrun p e _ s m _ below meth c s.heap [] 0 0 _ _ S.2.1 S.2.2 S.1.length _ ad ad ca tys _
      ⟨B.exec, B.bytes, hml, findClass_of_methodNamed B.named, fun w hw => hts w (List.mem_cons_of_mem _ hw), B.returns, B.notSynchronized, (name_of_methodNamed B.named B.method).1, rfl, rfl, rfl, rfl, (fun pc hp z hz => by
        rw [htab, List.mem_singleton] at hz
        subst hz
        have := hq1 pc hp
        simp only [covers]
        simpa using this), fun pc h j hh => by
        obtain ⟨g1, g2, g3, g4, g5⟩ := hq4 pc h j hh
        exact ⟨x, htab, by simp only [covers]; simpa using ⟨g1, g2⟩, hq2, hq3, g3, g4, g5⟩⟩
      ⟨hRl, va_S.rf, hZ, hent.1, hent.2, (fun v hv => nomatch hv), rfl, rfl⟩ (fun q h => Or.inr h) (by omega) (by omega) (Nat.le_refl _) (fun _ _ => rfl)
/-- what a call needs of the callee's code -/
theorem am_cdS {a : Nat} {args : Array Value} {s : State} (hM : am_okCd P Y Ts a) (hts : ∀ w ∈ Ts, w.before args s = true) (mk : MethodId) (hn : s.methodNamed? (Y a).1 = some mk) : ∃ (methY : Method) (cY : Code), s.vm.method? mk = some methY ∧ methY.code = some cY ∧ cY.maxLocals = P.2.2.1 a ∧ parseMethodDescriptor (Y a).1.desc = some methY.sig := by
  rcases hM with ⟨hcd, -⟩ | ⟨q, hcd, -⟩
  · obtain ⟨methY, cY, h1, h2, -, h4, -, -, -, h8⟩ := Cond.code_spec hn (hts _ hcd)
    exact ⟨methY, cY, h1, h2, h4, h8⟩
  · obtain ⟨m9, methY, cY, hn9, h1, h2, -, h4, -, -, -, h8⟩ := Cond.codeWith_spec (hts _ hcd)
    cases hn.symm.trans hn9
    exact ⟨methY, cY, h1, h2, h4, h8⟩
end AM5
end
section
/-! 'throw new IllegalStateException()' -/
section AM7
variable {p : Program} {l : Launch} {e : Env} {R : Room} {s : State} {m : MethodId} {args : Array Value} {below : List Frame} {meth : Method} {c : Code} {T : State} {locs : List Loc} {cells slots : Nat}
/-- the walk as if it had just begun, in the heap that is there now -/
theorem am_again (X : Stand p l e R s m args below meth c T locs cells slots) {R' : Room} (h1 : R'.frames ≤ R.frames) (h2 : R'.locals ≤ R.locals) (h3 : cells + R'.cells ≤ R.cells) (h4 : slots + R'.slots ≤ R.slots) :
    Stand p l e R' ((T.setVm s.vm).setFrames (.invoking m args :: below)) m args below meth c T [] 0 0 := by
  obtain ⟨g₀, hfr⟩ := X.frames_eq
  have htop : (T.setVm s.vm).topJava?.isSome := X.here.top
  have hF : ((T.setVm s.vm).setFrames (.invoking m args :: below)).frames = .invoking m args :: below := State.frames_setFrames _ (State.cur_lt_of_top htop)
  have hloc : ((T.setVm s.vm).setFrames (.invoking m args :: below)).localsInUse = s.localsInUse := by
    rw [State.localsInUse_invoking hF (meth := meth) (c := c) X.method X.code, State.localsInUse_invoking X.frames X.method X.code]
  have hlim : e.platform.stackLimits (T.setVm s.vm).me = e.platform.stackLimits s.me := X.limits
  have hby : (T.setVm s.vm).me.stackBytes = s.me.stackBytes := X.bytes
  have hfr' : (T.setVm s.vm).frames = .java g₀ :: below := hfr
  refine ⟨X.admits, X.cas, X.clock, hF, ?_, X.hears, X.method, X.code, X.here, X.tail, X.warmed, by rw [State.stackLimits_setFrames]; rfl, by rw [State.stackBytes_setFrames]; rfl, ?_, Nat.le_refl _, Nat.le_refl _, ?_, ?_, fun a c9 h9 => ⟨c9, h9, rfl, rfl, fun _ _ => rfl⟩⟩
  · have h := X.room
    have q1 := X.heapSize
    have q2 := X.used
    have q3 := X.frames
    simp only [State.hasRoom, Bool.and_eq_true, decide_eq_true_eq] at h ⊢
    obtain ⟨⟨⟨⟨a1, a2, a3, a4, a5, a6⟩, a7⟩, a8⟩, a9⟩ := h
    rw [q3, List.length_cons] at a2 a3
    simp only [hF, hloc, List.length_cons, State.stackLimits_setFrames, State.stackBytes_setFrames, hlim, hby]
    refine ⟨⟨⟨⟨by omega, by omega, by omega, by omega, by omega, a6⟩, ?_⟩, ?_⟩, X.book⟩
    · show T.heap.size + R'.cells ≤ e.platform.maxCells
      omega
    · show T.slotsUsed + R'.slots ≤ e.platform.maxSlots
      omega
  · obtain ⟨t, ht, -⟩ := State.frames_cons hfr'
    show T.setVm s.vm = { ((T.setVm s.vm).setFrames (.invoking m args :: below)).setFrames (T.setVm s.vm).frames with heap := T.heap, slotsUsed := T.slotsUsed }
    rw [State.setFrames_setFrames, State.setFrames_self ht]
    rfl
  · show T.slotsUsed = T.slotsUsed + ((T.heap.toList.drop T.heap.size).map (·.slots.size)).sum
    rw [List.drop_eq_nil_of_le (Nat.le_of_eq Array.length_toList)]
    rfl
  · show ((T.heap.toList.drop T.heap.size).map (·.slots.size)).sum ≤ 0
    rw [List.drop_eq_nil_of_le (Nat.le_of_eq Array.length_toList)]
    exact Nat.le_refl _
end AM7
/-- the words that the throw needs, of the class that throws, with the number of the constructor's link -/
def am_thn : List String := ["java/lang/RuntimeException", "java/lang/Exception"]
def am_thw (own : String) (ic : Nat) : List Jvm.Cond := Bundle.ownAtoms0 own ic am_ise am_thn
/-- they hold now, and in every later heap that keeps what lies outside A -/
def am_ZT (own : String) (ic : Nat) (A : Nat → Prop) (U : State) (H : Heap) : Prop := ∀ (s' : State) (args : Array Value), U.WarmedH s'.vm → H.size ≤ s'.heap.size → (∀ q : Nat, q < H.size → ¬ A q → s'.heap[q]? = H[q]?) → ∀ w ∈ am_thw own ic, w.before args s' = true
theorem am_ZT.kept {own : String} {ic : Nat} {A : Nat → Prop} {U : State} {H H1 : Heap} (h : am_ZT own ic A U H) (hq : ∀ q : Nat, q < H.size → ¬ A q → H1[q]? = H[q]?) (hz : H.size ≤ H1.size) : am_ZT own ic A U H1 :=
  fun s' args hW h1 h2 => h s' args hW (Nat.le_trans hz h1) fun q hq1 hA => by rw [h2 q (Nat.lt_of_lt_of_le hq1 hz) hA]; exact hq q hq1 hA
theorem am_ZT.moved {own : String} {ic : Nat} {A : Nat → Prop} {u U : State} {H : Heap} (h : am_ZT own ic A u H) (hW : u.WarmedH U.vm) : am_ZT own ic A U H :=
  fun s' args hW' h1 h2 => h s' args (State.WarmedH.trans hW hW') h1 h2
theorem am_ZT.narrow {own : String} {ic : Nat} {A B : Nat → Prop} {U : State} {H : Heap} (h : am_ZT own ic A U H) (hAB : ∀ q, B q → A q) : am_ZT own ic B U H :=
  fun s' args hW h1 h2 => h s' args hW h1 fun q hq hA => h2 q hq fun hB => hA (hAB q hB)
set_option maxHeartbeats 2000000 in
/-- new; dup; invokespecial; athrow -/
theorem am_throw {p : Program} {l : Launch} {e : Env} {R : Room} {s : State} {m : MethodId} {args : Array Value} {below : List Frame} {meth : Method} {c : Code} {H : Heap} {locs : List Loc} {cells slots : Nat} {Qc : Array Value → State → Outcome → State → Prop} {mc ms ik ic : Nat} {free : Addr → Prop} {own : String} {cc : ByteArray} {pc : Nat} {ls : Array Slot} {rest : List Value} {A : Nat → Prop}
    (hexec : p.tables.exec = Jvm.exec) (hb : c.code = cc) (hl : l.stackTraces = false) (hown : s.vm.findClass own = some m.cls) (hk : (Jvm.Cond.classLink own ik am_ise).before args s = true) (hini : (Jvm.Cond.initialized am_ise).before args s = true) (hkp : am_Ps (Jvm.Cond.classLink own ik am_ise)) (hip : am_Ps (Jvm.Cond.initialized am_ise))
    (hZ : am_ZT own ic A s s.heap) (hS : va_S A s.heap H locs) (hsize : ls.size = c.maxLocals)
    (d0 : decode cc pc = .ok (.new ik, 3)) (d3 : decode cc (pc + 3) = .ok (.dup, 1)) (d4 : decode cc (pc + 4) = .ok (.invokespecial ic, 3)) (d7 : decode cc (pc + 7) = .ok (.athrow, 1))
    (hout : ∀ x ∈ c.exceptionTable.toList, covers x (pc + 7) = false) (hRf : 6 ≤ R.frames) (hRl : (rest.map fun v => v.category).sum + 90 ≤ R.locals) (hRc : cells + 1 ≤ R.cells) (hRs : slots + 6 ≤ R.slots) (hlocks : meth.locks = false)
    (hx : ∀ (q : Addr) (ce : Cell) (t : State), s.WarmedH t.vm → H.size ≤ t.heap.size → (∀ z : Nat, z < H.size → t.heap[z]? = H[z]?) → t.heap[q]? = some ce → ce.vm = .none → t.vm.findClass am_ise = some ce.cls → Qc args s (.threw q) t)
    (hf : ∀ z ∈ locs, free z.base) (hc : cells + 1 ≤ mc) (hs : slots + 6 ≤ ms) :
    W p l e R s m args below meth c H locs cells slots (am_MQ below Qc args s mc ms free) (F0 m pc ls rest) := by
  intro T hT X
  have htr : e.platform.stackTraces = false := (show e.platform.stackTraces = l.stackTraces by rw [X.admits.platform]).trans hl
  have Y := am_again X (R' := { frames := R.frames, locals := R.locals, cells := 1, slots := 6 }) (Nat.le_refl _) (Nat.le_refl _) hRc hRs
  generalize hs' : (T.setVm s.vm).setFrames (.invoking m args :: below) = s' at Y
  have hvm : s'.vm = s.vm := by rw [← hs']; rfl
  have hhp : s'.heap = H := by rw [← hs']; exact hT
  have hW0 : s.WarmedH s'.vm := by rw [hvm]; exact State.WarmedH.refl s
  have hw : ∀ w ∈ Bundle.ownAtoms0 own ic am_ise am_thn, w.before args s' = true := hZ s' args hW0 (by rw [hhp]; exact hS.1) (by rw [hhp]; exact hS.2.1)
  have hown' : s'.vm.findClass own = some m.cls := by rw [hvm]; exact hown
  have hins : (Jvm.Cond.instantiable am_ise 6).before args s' = true := hw _ (by simp [Bundle.ownAtoms0])
  obtain ⟨vm₁, cX, kX, hfX, hkX, -, -, X₁, st1⟩ := Y.newCold hexec (own := own) (C := am_ise) (index := ik) (n := 6) hown' (hkp _ _ _ _ hW0 hk) hins (hip _ _ _ _ hW0 hini)
    (g := F0 m pc ls rest) rfl (by rw [hb]; exact d0) (Nat.le_refl _) (Nat.le_refl _)
  generalize hT1 : (T.setVm vm₁).pushCell { cls := cX, slots := kX.instanceTypes.map defaultValue, vm := .none } = T1 at X₁ st1
  have hcat : (Value.ref T.heap.size).category = 1 := rfl
  have hcellA : T1.heap[T.heap.size]? = some (freshCell cX kX) := by rw [← hT1]; exact State.heap_pushCell_size _ _
  have d3' : decode c.code (pc + 3) = .ok (.dup, 1) := by rw [hb]; exact d3
  obtain ⟨U, hsteps, hrun, hend, hW, hsame, ce, hce, hO⟩ := X₁.ctorThrow0 hexec htr (own := own) (cls := am_ise) (names := am_thn) (ic := ic) hown' (by decide +kernel) (by decide +kernel) hw (fun x hx => nomatch hx) hfX hkX hcellA (by rw [hhp, hT]; exact Nat.le_refl _)
    (g := { method := m, pc := pc + 4, locals := ls, stack := .ref T.heap.size :: .ref T.heap.size :: rest, locked := none }) rfl hsize rfl rfl (rest := rest) rfl
    (by rw [hb]; exact d4) (by rw [hb]; exact d7) hout (by show 2 + 3 < R.frames; omega) (by
      show 2 * 0 + (((Value.ref T.heap.size) :: rest).map fun v => v.category).sum + (13 * (2 + 1) + 41) ≤ R.locals
      simp only [List.map_cons, List.sum_cons, hcat]; omega) hlocks
  have hsame2 := hsame
  obtain ⟨e1, f1, e2⟩ := hsame2
  have f2 : ∀ q : Nat, q < s'.heap.size → U.heap[q]? = s'.heap[q]? := by
    intro q hq
    obtain ⟨c9, k1, k2, k3, k4⟩ := e2.2.2.2 q _ (Array.getElem?_eq_getElem hq)
    have hsl : c9.slots = (s'.heap[q]).slots := Array.ext_getElem? fun i => k4 i fun hm => nomatch hm
    have h9 : c9 = s'.heap[q] := by
      rw [hsl] at k2
      exact k2
    have k5 : U.heap[q]? = some c9 := k1
    rw [k5, h9, Array.getElem?_eq_getElem hq]
  have f1' : s'.heap.size ≤ U.heap.size := f1
  rw [hhp] at f1' f2
  have hWs : s.WarmedH U.vm := State.WarmedH.trans hW0 hW
  have hcl : s.vm.findClass am_ise = some ce.cls := by
    have h9 := hO.cls
    rw [hvm] at h9
    exact h9
  have hall : s.sameButNew ({ U with vm := s.vm } : State) locs mc ms := by
    subst hs'
    rw [State.setFrames_setFrames] at e1
    have h2 : (T.setVm s.vm).sameButNew ({ U with vm := s.vm } : State) [] (0 + 1) (0 + 6) := ⟨e1, f1, e2⟩
    have h3 := X.same.trans h2
    rw [List.append_nil] at h3
    exact h3.mono hc hs
  refine ⟨U, ?_, .threw T.heap.size, hrun, hend, hx T.heap.size ce U hWs f1' (fun q hq => f2 q hq) hce hO.vm (by rw [hWs.alike.findClass]; exact hcl), locs, ⟨hWs, hall⟩, hf⟩
  refine st1 _ ?_
  show Steps p.tables e below (T1.setTop { method := m, pc := pc + 3, locals := ls, stack := .ref T.heap.size :: rest, locked := none }) _
  jvm_step X₁.here [X₁.here.top, hexec, d3', Value.category]
  exact hsteps
end
section
/-! 'catch (IllegalStateException ..)' in a method with one handler -/
section AM8
variable {p : Program} {l : Launch} {e : Env} {R : Room} {s : State} {m : MethodId} {args : Array Value} {below : List Frame} {meth : Method} {c : Code} {H : Heap} {locs : List Loc} {cells slots : Nat} {Q : State → Prop}
/-- the search for a handler, where the one row of the table covers the place and its class takes what was thrown; the link is noted by it -/
theorem am_search {S : State} {g : JFrame} {q : Addr} {x : ExceptionTableEntry} {cT : ClassId} {ce : Cell} (hm : S.vm.method? g.method = some meth) (hc : meth.code = some c) (htab : c.exceptionTable.toList = [x]) (hx : covers x g.pc = true) (h0 : x.catchType ≠ 0)
    (hl : S.vm.ClassLinks e.platform g.method.cls x.catchType cT) (hcell : S.heap[q]? = some ce) (hv : ce.vm = .none) (hk1 : ∃ k, S.vm.classes[ce.cls]? = some k) (hk2 : ∃ k, S.vm.classes[cT]? = some k) (hfit : S.vm.assignable ce.cls cT = true)
    (Qh : Handler → Pre) (E : CtlPost) (d : Bool) (acts : List Action) : wp (findHandler g q) Qh E e d acts S ↔ Qh (.found x.handlerPc) d acts (S.setVm (S.vm.noted g.method.cls x.catchType (.cls cT))) := by
  have hal : S.vm.Alike (S.vm.noted g.method.cls x.catchType (.cls cT)) := (Vm.Alike.refl S.vm).noted _ _ _
  obtain ⟨k1, hk1⟩ := hk1
  obtain ⟨k2, hk2⟩ := hk2
  obtain ⟨k1', hk1', -⟩ := hal.2.2 _ _ hk1
  obtain ⟨k2', hk2', -⟩ := hal.2.2 _ _ hk2
  have hfit' : (S.vm.noted g.method.cls x.catchType (.cls cT)).assignable ce.cls cT = true := by rw [hal.assignable]; exact hfit
  have hobj : ∀ k, ce.vm ≠ .statics k := fun k h => by rw [hv] at h; cases h
  obtain ⟨ha, ht⟩ := (resolveClass_links e.toSetting hl).op (op := VmOp.resolveClass g.method.cls x.catchType) rfl
  rw [W.findHandler_eq hm hc, htab]
  simp only [covers] at hx
  simp [findHandler.go, hx, h0, ha, ht, hcell, hobj, hk1', hk2', hfit', VmOp.dirties, VmOp.acts]
theorem am_sfv (u : State) (vm' : Vm) (F G : List Frame) : ((u.setFrames F).setVm vm').setFrames G = (u.setVm vm').setFrames G := by
  show ((u.setVm vm').setFrames F).setFrames G = _
  rw [State.setFrames_setFrames]
theorem am_catchX {own : String} {pc : Nat} {ls : Array Slot} {rest : List Value} {q : Addr} {ce : Cell} {x : ExceptionTableEntry} (hown : s.vm.findClass own = some m.cls) (htab : c.exceptionTable.toList = [x]) (hx : covers x pc = true) (h0 : x.catchType ≠ 0)
    (hlink : (Jvm.Cond.classLink own x.catchType am_ise).before args s = true) (hcast : (Jvm.Cond.castable am_ise am_ise).before args s = true) (hcell : H[q]? = some ce) (hv : ce.vm = .none) (hcl : s.vm.findClass am_ise = some ce.cls)
    (kk : W p l e R s m args below meth c H locs cells slots Q (F0 m x.handlerPc ls [.ref q])) : am_X p l e R s m args below meth c H locs cells slots Q (F0 m pc ls rest) q := by
  intro T hT X
  have hpl : e.platform.magicAccessors = ({} : Platform).magicAccessors := by rw [X.admits.platform]
  obtain ⟨c3, c4, hc3, hc4, hasg⟩ := Cond.castable_spec hcast
  cases Option.some.inj (hc3.symm.trans hcl)
  cases Option.some.inj (hc4.symm.trans hcl)
  obtain ⟨c5, hc5, hcl5⟩ := Cond.classLink_spec hown hlink e.platform hpl
  cases Option.some.inj (hc5.symm.trans hcl)
  obtain ⟨dk, _, _, kt, hd, _, _, _, _, hkt, _, hopen⟩ := hcl5.here
  obtain ⟨kt', hkt', -⟩ := X.warmed.alike.2.2 _ _ hkt
  have hl' := X.warmed.classLinks hcl5
  have hW' := X.warmed.noted hd hopen (State.rightAt_cls hcl5)
  obtain ⟨t, a1, b1⟩ := kk (T.setVm (T.vm.noted m.cls x.catchType (.cls ce.cls))) hT (X.noted hW')
  refine ⟨t, ?_, b1⟩
  have h : At T m c below := X.here
  obtain ⟨hgo, hw⟩ := At.throwing (g := F0 m pc ls rest) h q
  refine Steps.head hgo hw ?_
  have hfind := am_search (e := e) (S := (T.setTop (F0 m pc ls rest)).pushFrame (.throwing q)) (g := F0 m pc ls rest) (q := q) (meth := meth) (c := c) X.method' X.code htab hx h0 hl' (by rw [Stand.throwing_heap, hT]; exact hcell) hv ⟨kt', hkt'⟩ ⟨kt', hkt'⟩ (by rw [Stand.throwing_vm, X.warmed.alike.assignable]; exact hasg)
  have hstep : ∀ r, (stepThrowing e ((T.setTop (F0 m pc ls rest)).pushFrame (.throwing q)) q (.java (F0 m pc ls rest) :: r)).Is ((((T.setTop (F0 m pc ls rest)).pushFrame (.throwing q)).setVm (T.vm.noted m.cls x.catchType (.cls ce.cls))).setFrames (.java { (F0 m pc ls rest) with pc := x.handlerPc, stack := [.ref q] } :: r)) [] := by
    intro r
    simp only [stepThrowing, searchFrame, vmDo]
    generalize hr : Sem.go _ e false [] _ = res
    obtain ⟨as, rfl, ha⟩ := Sem.eq_ok_of hr (a := Handler.found x.handlerPc) (s' := ((T.setTop (F0 m pc ls rest)).pushFrame (.throwing q)).setVm (T.vm.noted m.cls x.catchType (.cls ce.cls))) (acts' := []) (by simp [hfind]; rfl)
    exact ⟨rfl, ha⟩
  rw [stepThread_throwing (frames_entered h.top _), (hstep _).1]
  obtain ⟨g₀, hg⟩ := Option.isSome_iff_exists.mp h.top
  obtain ⟨r, hr⟩ := State.topJava?_eq_some.mp hg
  have hr' : (T.setVm (T.vm.noted m.cls x.catchType (.cls ce.cls))).frames = .java g₀ :: r := hr
  rw [State.setTop_of_frames _ hr'] at a1
  rw [hr, List.tail_cons, State.pushFrame, am_sfv, State.setTop_of_frames _ hr, am_sfv]
  exact a1
end AM8
/-- caught where the program says so: of the local that takes the reference nothing is known then -/
theorem am_Cat {em : Int64 → Nat} {P : am_P} {Y : am_Y} {Ts : List Jvm.Cond} {p : Program} {l : Launch} {e : Env} {R : Room} {s : State} {m : MethodId} {args : Array Value} {below : List Frame} {meth : Method} {c : Code} {H : Heap} {locs : List Loc} {cells slots : Nat} {Q : State → Prop} {M pc h j d mc ms n : Nat} {lsA : Array Slot} {rest : List Value} {ad : Nat → Nat} {ls : am_V} {q : Addr} {ce : Cell} (hcast : Jvm.Cond.castable am_ise am_ise ∈ Ts) (hh : P.2.2.2.1 M pc = some (h, j))
    (act : am_Act P Y Ts p R s m args meth c M d mc ms) (hlo : am_lo em (P.2.2.1 M) lsA ad ls) (hol : am_okl n ls) (hcell : H[q]? = some ce) (hv : ce.vm = .none) (hcl : s.vm.findClass am_ise = some ce.cls)
    (kk : ∀ lsA', am_lo em (P.2.2.1 M) lsA' ad (ls.set j none) → W p l e R s m args below meth c H locs cells slots Q (F0 m h lsA' [])) : am_X p l e R s m args below meth c H locs cells slots Q (F0 m pc lsA rest) q := by
  obtain ⟨hx, hb, hml, hown, hts, hr, hlk, hnm, hRf, hRc, hRs, hRl, hexc, hhn⟩ := id act
  obtain ⟨x, htab, hcov, h0, hlink, ⟨k, hdg, hkj⟩, rfl, hj⟩ := hhn pc h j hh
  refine am_catchX hown htab hcov h0 (hts _ hlink) (hts _ hcast) hcell hv hcl ?_
  refine lv_astore_n hx hb hdg hkj hlo.1 hj rfl (fun lsA' h' => kk lsA' ?_)
  refine ⟨⟨h'.1, h'.2.1, fun z hz => ?_⟩, by rw [List.length_set]; exact hlo.2⟩
  obtain ⟨w, hw, hz2⟩ := am_al_mem.mp hz
  rw [List.getElem?_set] at hw
  by_cases hi : j = z.1
  · rw [if_pos hi] at hw
    split at hw <;> cases hw
  · rw [if_neg hi] at hw
    refine h'.2.2 z (List.mem_cons_of_mem _ (List.mem_filter.mpr ⟨am_al_mem.mpr ⟨w, hw, hz2⟩, ?_⟩))
    have hne : (z.1 == j) = false := by simp; exact fun y => hi y.symm
    have hcat : z.2.category = 1 := by rw [hz2]; exact am_cat (em := em) ad (hol _ _ hw)
    rw [hne, hcat]
    simp
end
section
/-! ONE STEP MORE: the induction -/
section AM6
variable {em : Int64 → Nat} {P : am_P} {Y : am_Y} {D : va_G} {cl : List vw_C} {Ts : List Jvm.Cond} {Zs : (Nat → Prop) → State → Heap → Prop} {l : Launch}
set_option maxHeartbeats 4000000 in
theorem am_callS (hC : am_okC P.2.1 cl Ts) (hTs : ∀ w ∈ Ts, am_Ps w) (hZp : am_Zp Zs) (hCat : Jvm.Cond.castable am_ise am_ise ∈ Ts) {n : Nat} (ih : am_Snd em P Y D cl Ts Zs l n)
    {M pc a b k nx d : Nat} {x : Int32} {tab : List (Int32 × Nat)} {ls : am_V} {st : List Value} {S S' : am_S} {o : Option (Option Value)} (hk : am_okI P Y cl Ts M pc 32 a b k x nx tab)
    (hb0 : b ≤ st.length ∧ st.length ≤ b + 8 ∧ b ≤ P.2.2.1 a ∧ am_recv k (st.take b).reverse S = true)
    (hrun : (match am_run P n d a 0 (am_in (st.take b).reverse (P.2.2.1 a)) [] S with
      | none => none
      | some (some v, S1) => am_run P n (d + 1) M nx ls (v.toList ++ st.drop b) S1
      | some (none, S1) => match P.2.2.2.1 M pc with
        | none => some (none, S1)
        | some (h, j) => am_run P n (d + 1) M h (ls.set j none) [] S1) = some (o, S'))
    {p : Program} {e : Env} {R : Room} {s : State} {m : MethodId} {args : Array Value} {below : List Frame} {meth : Method} {c : Code} {H : Heap} {locs : List Loc} {cells slots mc ms c0 z0 n0 : Nat} {A : Nat → Prop} {ad ad0 : Nat → Nat} {ca : Nat → ClassId} {tys : List (ClassId × FieldType)} {lsA : Array Slot}
    (act : am_Act P Y Ts p R s m args meth c M (d + 1) mc ms) (h : am_St em D cl Zs A s H locs cells slots ad ca tys lsA (P.2.2.1 M) ls st S c0 z0) (hA : ∀ q, s.heap.size ≤ q → A q) (hmc : c0 + mc = S'.2.1) (hms : z0 + ms = S'.2.2) (hn0 : n0 ≤ S.1.length) (hag : ∀ k, k < n0 → ad k = ad0 k) :
    W p l e R s m args below meth c H locs cells slots (am_MQ below (am_Qc em D cl A n0 ad0 o S') args s mc ms A) (F0 m pc lsA (st.map (am_v em ad))) := by
  obtain ⟨hx, hb, hml, hown, hts, hr, hlk, hnm, hRf, hRc, hRs, hRl, hexc, hhn⟩ := id act
  obtain ⟨hRl0, hS, hZ, hlo, hol, hos, hc, hz⟩ := id h
  obtain ⟨hP, hD, hK, hT, hW⟩ := id hRl0
  obtain ⟨idx, rfl, hokM, hk⟩ := hk
  cases hcall : am_run P n d a 0 (am_in (st.take b).reverse (P.2.2.1 a)) [] S with
  | none => rw [hcall] at hrun; cases hrun
  | some q0 =>
    obtain ⟨o1, S1⟩ := q0
    rw [hcall] at hrun
    have has : ∀ w ∈ (st.take b).reverse, am_okv S.1.length w := fun w hw => hos w (List.mem_of_mem_take (List.mem_reverse.mp hw))
    have hal : (st.take b).reverse.length = b := by rw [List.length_reverse, List.length_take]; omega
    have hup1 := am_run_up P _ _ _ _ _ _ _ _ _ hcall
    have hdrop : ∀ w ∈ st.drop b, am_okv S.1.length w := fun w hw => hos w (List.mem_of_mem_drop hw)
    have hup : S1.2.1 ≤ S'.2.1 ∧ S1.2.2 ≤ S'.2.2 := by
      cases o1 with
      | some v => have := am_run_up P _ _ _ _ _ _ _ _ _ hrun; exact ⟨this.1, this.2.1⟩
      | none =>
        dsimp only at hrun
        cases hh : P.2.2.2.1 M pc with
        | none => rw [hh] at hrun; cases hrun; exact ⟨Nat.le_refl _, Nat.le_refl _⟩
        | some q => rw [hh] at hrun; have := am_run_up P _ _ _ _ _ _ _ _ _ hrun; exact ⟨this.1, this.2.1⟩
    obtain ⟨wsM, hwsM, hMet⟩ := am_met ih hcall hokM has (by rw [hal]; exact hb0.2.2.1) ad ca tys H
    have hsub := am_A.sub hRl0 hS hA
    have hZH : Zs A s H := hZp.1 A s s.heap H hZ hS.2.1 hS.1
    have hsplit : st.map (am_v em ad) = (((st.take b).reverse).map (am_v em ad)).reverse ++ (st.drop b).map (am_v em ad) := by
      rw [← List.map_reverse, List.reverse_reverse, ← List.map_append, List.take_append_drop]
    have hinv : am_Inv p l e R s m args below meth c H locs cells slots (F0 m pc lsA (st.map (am_v em ad))) ((st.drop b).map (am_v em ad)) (Y a).1 (((st.take b).reverse).map (am_v em ad)).toArray := by
      match k, hk, hb0 with
      | 0, hk, _ =>
        obtain ⟨hdg, hcd, h1, h2, hlen⟩ := hk
        exact am_invS hx hb hown (hts _ h1) (hts _ h2) (hts _ hokM.2.1) (hts _ hcd) hokM.2.2.1 rfl (fun sig hs => by rw [List.length_map, hal]; exact hlen sig hs) hsplit hdg
      | 1, hk, hb0 =>
        obtain ⟨hdg, hcd0, h1, h2, hin, hret, hlen⟩ := hk
        cases hasl : (st.take b).reverse with
        | nil => rw [hasl] at hb0; simp [am_recv] at hb0
        | cons w as1 =>
          rw [hasl] at hb0 hsplit hal
          cases w <;> simp only [am_recv] at hb0 <;> try (exact absurd hb0.2.2.2 (by decide))
          rename_i r0
          have hst2 : st.map (am_v em ad) = (as1.map (am_v em ad)).reverse ++ .ref (ad r0) :: (st.drop b).map (am_v em ad) := by
            rw [hsplit]; simp [am_v]
          have hl2 : ∀ sig, parseMethodDescriptor (Y a).1.desc = some sig → (as1.map (am_v em ad)).length = sig.parameters.length := fun sig hs => by
            have := hlen sig hs
            rw [List.length_map]; simp at hal; omega
          have hcd := hts _ hcd0
          rw [hret] at hcd
          rcases h1 with h1 | ⟨host, h1⟩
          · exact am_invI (b := ad r0) (As := as1.map (am_v em ad)) hx hb hown hin (hts _ h1) (hts _ h2) hcd hokM.2.2.1 rfl hl2 hst2 hdg
          · exact am_invIN (b := ad r0) (As := as1.map (am_v em ad)) hx hb hown hin (hts _ h1) (hts _ h2) hcd hokM.2.2.1 rfl hl2 hst2 hdg
      | kc + 2, hk, hb0 =>
        obtain ⟨C, T, N, hcl, hdg, h1, h2, h3, hlen⟩ := hk
        cases hasl : (st.take b).reverse with
        | nil => rw [hasl] at hb0; simp [am_recv] at hb0
        | cons w as1 =>
          rw [hasl] at hb0 hsplit hal
          cases w <;> simp only [am_recv] at hb0 <;> try (exact absurd hb0.2.2.2 (by decide))
          rename_i r0
          have hst2 : st.map (am_v em ad) = (as1.map (am_v em ad)).reverse ++ .ref (ad r0) :: (st.drop b).map (am_v em ad) := by
            rw [hsplit]; simp [am_v]
          have hl2 : ∀ sig, parseMethodDescriptor (Y a).1.desc = some sig → (as1.map (am_v em ad)).length = sig.parameters.length := fun sig hs => by
            have := hlen sig hs
            rw [List.length_map]; simp at hal; omega
          have hrecv := hb0.2.2.2
          split at hrecv
          · rename_i ci fs hcell
            have hci : ci = kc := of_decide_eq_true hrecv
            subst hci
            exact am_invV (b := ad r0) (C := C) (As := as1.map (am_v em ad)) hx hb hown (hts _ h1) (hts _ h2) (hts _ h3) (fun mk9 meth9 hn9 hm9 => by
              obtain ⟨m8, -, k1, -, -, k4⟩ := am_cdS hokM.1 hts mk9 hn9
              cases hm9.symm.trans k1
              exact k4) hokM.2.2.1 (va_recv hK hP hcl (am_w_get hcell)) rfl hl2 hst2 hdg
          · cases hrecv
    have hgood : ∀ w ∈ Ts, ∀ (a' : Array Value) (U : State), s.WarmedH U.vm → w.before a' U = true := fun w hw a' U hWU => hTs w hw s U args a' hWU (hts w hw)
    refine am_callW (maxL := P.2.2.1 a) hinv hMet ?_ rfl rfl ?_ (fun w hw => hgood w (hwsM w hw)) (fun U9 mk9 hW9 hn9 => by
      obtain ⟨m8, c8, k1, k2, k3, -⟩ := am_cdS (args := #[]) hokM.1 (fun w hw => hgood w hw _ _ hW9) mk9 hn9
      exact ⟨m8, c8, k1, k2, k3⟩) (hgood _ hokM.2.1) ?_ ?_ ?_ ?_ ?_ ?_
    · rintro a9 U g9 mk ⟨q1, q2, q3, q4⟩
      exact ⟨q1, q2, q3.moved (Vm.Alike.refl U.vm), hZp.2.1 _ U _ _ (State.WarmedH.refl U) q4⟩
    · refine ⟨by rw [hRf]; exact Nat.le_refl _, ?_⟩
      have := hokM.2.2.2.2
      rw [hRl]
      show 8 + (P.2.2.1 a + 11) + 41 * d ≤ 41 * (d + 1)
      omega
    · show lsA.size = c.maxLocals
      rw [hml]; exact hlo.1.1
    · show 2 * 0 + (((st.drop b).map (am_v em ad)).map fun v => v.category).sum ≤ 8
      rw [am_cats _ hdrop, List.length_drop]
      omega
    · rw [hRc, hRs]; omega
    · intro U hU hWU
      exact ⟨rfl, hU, (hRl0.own).moved hWU.alike, hZp.2.1 _ s U _ hWU (hZp.2.2 _ _ _ _ hsub hZH)⟩
    · intro v st₀ t L h0 hWt hL hq
      obtain ⟨⟨ad', ca', tys', hag', hRl', hm⟩, hF⟩ := hq
      cases o1 with
      | none => obtain ⟨q9, ce, hq9, -⟩ := hm; cases hq9
      | some v1 =>
        obtain ⟨hv1, hok1⟩ := hm
        cases hv1
        have e1 : (st.drop b).map (am_v em ad) = (st.drop b).map (am_v em ad') := (am_st_eq hag' hdrop).symm
        refine W.eq (g2 := F0 m (pc + 3) lsA ((v1.toList ++ st.drop b).map (am_v em ad'))) ?_ ?_
        · rw [e1, List.map_append]
          cases v1 <;> rfl
        · refine ih (d + 1) M (pc + 3) ls (v1.toList ++ st.drop b) S1 o S' hrun p e R s m args below meth c t.heap (locs ++ L) _ _ mc ms c0 z0 n0 A ad' ad0 ca' tys' lsA act ⟨(hRl'.moved hWt.alike.symm).weaken hsub, am_Sjoin hS h0 hF hsub hL, hZ, hlo.agree hol hag', fun i w hw => (hol i w hw).mono hup1.2.2, fun w hw => ?_, by omega, by omega⟩ hA hmc hms (Nat.le_trans hn0 hup1.2.2) (fun j hj => (hag' j (Nat.lt_of_lt_of_le hj hn0)).trans (hag j hj))
          rcases List.mem_append.mp hw with hw | hw
          · cases v1 with
            | none => cases hw
            | some v2 =>
              simp at hw
              subst hw
              exact hok1 _ rfl
          · exact (hdrop w hw).mono hup1.2.2
    · intro q st₀ t L h0 hWt hL hq
      obtain ⟨⟨ad', ca', tys', hag', hRl', hm⟩, hF⟩ := hq
      cases o1 with
      | some v1 => obtain ⟨hv1, -⟩ := hm; cases hv1
      | none =>
        obtain ⟨q9, ce, hq9, hce, hcv, hcc⟩ := hm
        cases hq9
        dsimp only at hrun
        have hcc' : s.vm.findClass am_ise = some ce.cls := by rw [← hWt.alike.findClass]; exact hcc
        have hSj := am_Sjoin hS h0 hF hsub hL
        have hRj := (hRl'.moved hWt.alike.symm).weaken hsub
        cases hh : P.2.2.2.1 M pc with
        | none =>
          rw [hh] at hrun
          cases hrun
          refine am_outX rfl rfl rfl (hexc pc hh) hlk (fun t2 ht2 hW2 => ?_) hSj.2.2 (by omega) (by omega)
          refine ⟨⟨ad', ca', tys', fun j hj => (hag' j (Nat.lt_of_lt_of_le hj hn0)).trans (hag j hj), ?_, q, ce, rfl, by rw [ht2]; exact hce, hcv, by rw [hW2.alike.findClass]; exact hcc'⟩, hSj.F ht2⟩
          rw [ht2]
          exact hRj.moved hW2.alike
        | some hj =>
          obtain ⟨h9, j⟩ := hj
          rw [hh] at hrun
          refine am_Cat hCat hh act (hlo.agree hol hag') (n := S1.1.length) (fun i w hw => (hol i w hw).mono hup1.2.2) hce hcv hcc' (fun lsA' hlo' => ?_)
          exact ih (d + 1) M h9 (ls.set j none) [] S1 o S' hrun p e R s m args below meth c t.heap (locs ++ L) _ _ mc ms c0 z0 n0 A ad' ad0 ca' tys' lsA' act ⟨hRj, hSj, hZ, hlo', am_okl.drop j (fun i w hw => (hol i w hw).mono hup1.2.2), (fun v hv => nomatch hv), by omega, by omega⟩ hA hmc hms (Nat.le_trans hn0 hup1.2.2) (fun j hj => (hag' j (Nat.lt_of_lt_of_le hj hn0)).trans (hag j hj))
set_option maxHeartbeats 4000000 in
theorem am_snd (hok : ∀ M pc op a b c x nx tab, P.1 M pc = some (op, a, b, c, x, nx, tab) → am_okI P Y cl Ts M pc op a b c x nx tab) (hC : am_okC P.2.1 cl Ts) (hTs : ∀ w ∈ Ts, am_Ps w) (hZp : am_Zp Zs) (hE : am_ZE em P.2.2.2.2 Zs) (hThr : am_Thr P Y Ts Zs l) (hCat : Jvm.Cond.castable am_ise am_ise ∈ Ts) : ∀ n, am_Snd em P Y D cl Ts Zs l n := by
  intro n
  induction n with
  | zero => intro d M pc ls st S o S' hrun; simp [am_run] at hrun
  | succ n ih =>
    intro d M pc ls st S o S' hrun p e R s m args below meth c H locs cells slots mc ms c0 z0 n0 A ad ad0 ca tys lsA act h hA hmc hms hn0 hag
    rw [am_run] at hrun
    cases hi : P.1 M pc with
    | none => rw [hi] at hrun; cases hrun
    | some i =>
      obtain ⟨op, a, b, k, x, nx, tab⟩ := i
      rw [hi] at hrun
      dsimp only at hrun
      have hk := hok M pc op a b k x nx tab hi
      obtain ⟨hx, hb, hml, hown, hts, hr, hlk, hnm, hRf, hRc, hRs, hRl, hexc, hhn⟩ := id act
      obtain ⟨hRl0, hS, hZ, hlo, hol, hos, hc, hz⟩ := id h
      by_cases h32 : op = 32
      · rw [if_pos h32] at hrun
        subst h32
        split at hrun
        · rename_i hb0
          cases d with
          | zero => cases hrun
          | succ d' => exact am_callS hC hTs hZp hCat ih hk hb0 hrun act h hA hmc hms hn0 hag
        · cases hrun
      · rw [if_neg h32] at hrun
        by_cases h37 : op = 37
        · rw [if_pos h37] at hrun
          subst h37
          split at hrun
          · rename_i hd0
            cases hrun
            simp only at hmc hms
            refine hThr M pc a b k x nx tab hi p e R s m args below meth c H locs cells slots d mc ms A lsA _ _ act hS hZ hA hlo.1.1 hd0.1 (by rw [am_cats _ hos]; exact hd0.2) (by omega) (by omega) (fun q ce t hWt hsz hkp hce hcv hcc => ?_)
            have hkp' : va_P D cl (am_w em ad ca S.1) t.heap := hRl0.1.kept fun k q hk => hkp _ ((hRl0.1 k q hk).lt)
            exact ⟨⟨ad, ca, tys, hag, ⟨hkp', hRl0.2.1, va_K.moved hWt.alike hRl0.2.2.1, hRl0.2.2.2⟩, q, ce, rfl, hce, hcv, hcc⟩, ⟨Nat.le_trans hS.1 hsz, fun z hz hzA => by rw [hkp z (Nat.lt_of_lt_of_le hz hS.1)]; exact hS.2.1 z hz hzA⟩⟩
          · cases hrun
        · rw [if_neg h37] at hrun
          by_cases h33 : 33 ≤ op ∧ op ≤ 36
          · rw [if_pos h33] at hrun
            cases hret : am_ret op st with
            | none => rw [hret] at hrun; cases hrun
            | some v =>
              rw [hret] at hrun
              cases hrun
              obtain rfl : cells = mc := by omega
              obtain rfl : slots = ms := by omega
              have hq : ∀ v2 : Option Value, (∀ y, v2 = some y → am_okv S.1.length y) → ∀ t : State, t.heap = H → s.WarmedH t.vm → am_Qc em D cl A n0 ad0 (some v2) S args s (.returned (v2.map (am_v em ad))) t := fun v2 hv2 t ht hWt =>
                ⟨⟨ad, ca, tys, hag, by rw [ht]; exact hRl0.moved hWt.alike, rfl, hv2⟩, hS.F ht⟩
              have h4 : op = 33 ∨ op = 34 ∨ op = 35 ∨ op = 36 := by omega
              rcases h4 with rfl | rfl | rfl | rfl
              · simp only [am_okI] at hk
                obtain ⟨hdg, hret2⟩ := hk
                unfold am_ret at hret
                split at hret <;> try (cases hret; done)
                all_goals try contradiction
                all_goals try omega
                rename_i v2 _
                cases hret
                exact am_MQ.of (W.iret hx hb (by rw [hr]; exact hret2) (hq (some (.int v2)) (fun y hy => by cases hy; trivial)) hS.2.2 hdg hlk)
              · simp only [am_okI] at hk
                obtain ⟨hdg, hret2⟩ := hk
                have hrt : ∃ rt, meth.sig.returnType = some rt ∧ ((∃ n, rt = .object n) ∨ ∃ t, rt = .array t) := by
                  rcases hret2 with ⟨n9, h9⟩ | ⟨n9, h9⟩
                  · exact ⟨_, by rw [hr]; exact h9, Or.inl ⟨n9, rfl⟩⟩
                  · exact ⟨_, by rw [hr]; exact h9, Or.inr ⟨n9, rfl⟩⟩
                obtain ⟨rt, hrt1, hrt2⟩ := hrt
                unfold am_ret at hret
                split at hret <;> try (cases hret; done)
                all_goals try contradiction
                all_goals try omega
                · rename_i v2 _
                  cases hret
                  exact am_MQ.of (W.aret hx hb hrt1 hrt2 (Or.inr ⟨_, rfl⟩) (hq (some (.ref v2)) (fun y hy => by cases hy; exact hos _ List.mem_cons_self)) hS.2.2 hdg hlk)
                · cases hret
                  exact am_MQ.of (W.aret hx hb hrt1 hrt2 (Or.inl rfl) (hq (some .null) (fun y hy => by cases hy; trivial)) hS.2.2 hdg hlk)
              · simp only [am_okI] at hk
                obtain ⟨hdg, hret2⟩ := hk
                unfold am_ret at hret
                split at hret <;> try (cases hret; done)
                all_goals try contradiction
                all_goals try omega
                cases hret
                exact am_MQ.of (W.vret hx hb (by rw [hr]; exact hret2) (hq none (fun y hy => by cases hy)) hS.2.2 hdg hlk)
              · simp only [am_okI] at hk
                obtain ⟨hdg, hret2⟩ := hk
                unfold am_ret at hret
                split at hret <;> try (cases hret; done)
                all_goals try contradiction
                all_goals try omega
                rename_i v2 _
                split at hret
                · rename_i hv2
                  cases hret
                  exact am_MQ.of (W.zret hx hb (by rw [hr]; exact hret2) (by rcases hv2 with rfl | rfl <;> decide) (hq (some (.int v2)) (fun y hy => by cases hy; trivial)) hS.2.2 hdg hlk)
                · cases hret
          · rw [if_neg h33] at hrun
            cases hd : am_do P.2.1 P.2.2.2.2 op a b k x nx tab d ls st S with
            | none => rw [hd] at hrun; cases hrun
            | some q =>
              rw [hd] at hrun
              obtain ⟨pc', ls', st', S1⟩ := q
              have hup0 := am_do_up hd
              have hup2 := am_run_up P _ _ _ _ _ _ _ _ _ hrun
              have hup : S1.2.1 ≤ c0 + mc ∧ S1.2.2 ≤ z0 + ms := ⟨by rw [hmc]; exact hup2.1, by rw [hms]; exact hup2.2.1⟩
              have kk : am_K p l e R s m args below meth c (am_MQ below (am_Qc em D cl A n0 ad0 o S') args s mc ms A) em D cl Zs A (P.2.2.1 M) c0 z0 ad S.1.length pc' ls' st' S1 := fun H' locs' cells' slots' ad' ca' tys' lsA' hag' hst' =>
                ih d M pc' ls' st' S1 o S' hrun p e R s m args below meth c H' locs' cells' slots' mc ms c0 z0 n0 A ad' ad0 ca' tys' lsA' act hst' hA hmc hms (Nat.le_trans hn0 hup0.2.2) (fun j hj => (hag' j (Nat.lt_of_lt_of_le hj hn0)).trans (hag j hj))
              match op, hk, hd with
              | 0, hk, hd => exact am_s0 act hk hd h kk
              | 1, hk, hd => exact am_s1 act hk hd h kk
              | 2, hk, hd => exact am_s2 act hk hd h kk
              | 3, hk, hd => exact am_s3 act hk hd h kk
              | 4, hk, hd => exact am_s4 act hk hd h kk
              | 5, hk, hd => exact am_s5 act hk hd h kk
              | 6, hk, hd => exact am_s6 act hk hd h kk
              | 7, hk, hd => exact am_s7 act hk hd h kk
              | 8, hk, hd => exact am_s8 act hk hd h kk
              | 9, hk, hd => exact am_s9 act hk hd h kk
              | 10, hk, hd => exact am_s10 act hk hd h kk
              | 11, hk, hd => exact am_s11 act hk hd h kk
              | 12, hk, hd => exact am_s12 act hk hd h kk
              | 13, hk, hd => exact am_s13 act hk hd h kk
              | 14, hk, hd => exact am_s14 act hk hd h kk
              | 15, hk, hd => exact am_s15 act hk hd h kk
              | 16, hk, hd => exact am_s16 act hk hd h hC hA hup hE kk
              | 17, hk, hd => exact am_s17 act hk hd h hC hA hup hE kk
              | 18, hk, hd => exact am_s18 act hk hd h kk
              | 19, hk, hd => exact am_s19 act hk hd h kk
              | 20, hk, hd => exact am_s20 act hk hd h hC hA hup hE kk
              | 21, hk, hd => exact am_s21 act hk hd h hC hA hup hE kk
              | 22, hk, hd => exact am_s22 act hk hd h hC hA hup hE kk
              | 23, hk, hd => exact am_s23 act hk hd h hC hA hup hE kk
              | 24, hk, hd => exact am_s24 act hk hd h hC hA hup hE kk
              | 25, hk, hd => exact am_s25 act hk hd h hC hA hup hE kk
              | 26, hk, hd => exact am_s26 act hk hd h hC hA hup hE kk
              | 27, hk, _ => exact hk.elim
              | 28, hk, _ => exact hk.elim
              | 29, hk, hd => exact am_s29 act hk hd h kk
              | 30, hk, hd => exact am_s30 act hk hd h hC hA hup hE kk
              | 31, hk, hd => exact am_s31 act hk hd h kk
              | 32, _, _ => exact absurd rfl h32
              | 33, _, _ => exact absurd ⟨by decide, by decide⟩ h33
              | 34, _, _ => exact absurd ⟨by decide, by decide⟩ h33
              | 35, _, _ => exact absurd ⟨by decide, by decide⟩ h33
              | 36, _, _ => exact absurd ⟨by decide, by decide⟩ h33
              | 37, _, _ => exact absurd rfl h37
              | 38, hk, hd => exact am_s38 act hk hd h hC hA hup hE kk
              | 39, hk, hd => exact am_s39 act hk hd h hC hA hup hE kk
              | 40, hk, hd => exact am_s40 act hk hd h hC hA hup hE kk
              | 41, hk, hd => exact am_s41 act hk hd h hC hA hup hE kk
              | 42, hk, hd => exact am_s42 act hk hd h hC hA hup hE kk
              | 43, hk, hd => exact am_s43 act hk hd h hC hA hup hE kk
              | 44, hk, hd => exact am_s44 act hk hd h hC hA hup hE kk
              | 45, hk, hd => exact am_s45 act hk hd h hC hA hup hE kk
              | n9 + 46, hk, _ => exact hk.elim
end AM6
end
section
/-! A PROGRAM THAT HOLDS THE SMALL INSTRUCTIONS AGAINST THE BYTES -/
/-- what the tables say of a call by its link -/
def am_okK (P : am_P) (Y : am_Y) (cl : List vw_C) (Ts : List Jvm.Cond) (own : String) (idx a b c : Nat) : Prop := am_okM P Y Ts a ∧ match c with
    | 0 => Jvm.Cond.code (Y a).1 (Y a).2.1 (P.2.2.1 a) (Y a).2.2 ∈ Ts ∧ Jvm.Cond.methodLink own idx (Y a).1 ∈ Ts ∧ Jvm.Cond.static (Y a).1 ∈ Ts ∧ ∀ sig, parseMethodDescriptor (Y a).1.desc = some sig → b = sig.parameters.length
    | 1 => Jvm.Cond.code (Y a).1 (Y a).2.1 (P.2.2.1 a) (Y a).2.2 ∈ Ts ∧ (Jvm.Cond.methodLink own idx (Y a).1 ∈ Ts ∨ ∃ host, Jvm.Cond.methodLinkNest own idx (Y a).1 host ∈ Ts) ∧ Jvm.Cond.instanceMethod (Y a).1 ∈ Ts ∧ (Y a).1.name = "<init>" ∧ (Y a).2.2 = none ∧ ∀ sig, parseMethodDescriptor (Y a).1.desc = some sig → b = sig.parameters.length + 1
    | k + 2 => ∃ C T N, cl[k]? = some (C, T, N) ∧ Jvm.Cond.methodLink own idx (Y a).1 ∈ Ts ∧ Jvm.Cond.instanceMethod (Y a).1 ∈ Ts ∧ Jvm.Cond.selects C (Y a).1 (Y a).1 ∈ Ts ∧ ∀ sig, parseMethodDescriptor (Y a).1.desc = some sig → b = sig.parameters.length + 1
def am_tbT (pc : Nat) (lo : Int) (offs : List Int) : List (Int32 × Nat) := match offs with
  | [] => []
  | o :: r => (Int32.ofInt lo, ((pc : Int) + o).toNat) :: am_tbT pc (lo + 1) r
def am_tbL (pc : Nat) (ps : List (Int × Int)) : List (Int32 × Nat) := ps.map fun q => (Int32.ofInt q.1, ((pc : Int) + q.2).toNat)
theorem am_inj {x : Int32} {lo : Int} (h1 : -2147483648 ≤ lo) (h2 : lo ≤ 2147483647) : x = Int32.ofInt lo ↔ x.toInt = lo := by
  have h3 : (Int32.ofInt lo).toInt = lo := Int32.toInt_ofInt_of_le (by simpa using h1) (by simp; omega)
  constructor
  · rintro rfl; exact h3
  · intro h; exact Int32.toInt_inj.mp (by rw [h, h3])
theorem am_swT {pc b : Nat} {x : Int32} : ∀ (offs : List Int) (lo : Int), -2147483648 ≤ lo → lo + offs.length ≤ 2147483648 → (∀ o ∈ offs, 0 ≤ (pc : Int) + o) →
    (x.toInt < lo ∨ lo + offs.length ≤ x.toInt → am_sw (am_tbT pc lo offs) b x = b) ∧ (¬ x.toInt < lo → x.toInt < lo + offs.length → ∃ off, offs[(x.toInt - lo).toNat]? = some off ∧ (pc : Int) + off = (am_sw (am_tbT pc lo offs) b x : Int)) := by
  intro offs
  induction offs with
  | nil => intro lo h1 h2 h3; refine ⟨fun _ => rfl, fun a c => ?_⟩; simp at c; omega
  | cons o r ih =>
    intro lo h1 h2 h3
    simp only [List.length_cons, Int.natCast_add, Int.cast_ofNat_Int] at h2 ⊢
    obtain ⟨i1, i2⟩ := ih (lo + 1) (by omega) (by omega) (fun o ho => h3 o (List.mem_cons_of_mem _ ho))
    simp only [am_tbT, am_sw]
    by_cases hx : x.toInt = lo
    · rw [if_pos ((am_inj h1 (by omega)).mpr hx)]
      refine ⟨fun q => by omega, fun _ _ => ⟨o, ?_, ?_⟩⟩
      · rw [hx]; simp
      · have := h3 o List.mem_cons_self
        omega
    · rw [if_neg (fun q => hx ((am_inj h1 (by omega)).mp q))]
      refine ⟨fun q => i1 (by omega), fun q1 q2 => ?_⟩
      obtain ⟨off, j1, j2⟩ := i2 (by omega) (by omega)
      refine ⟨off, ?_, j2⟩
      rw [show (x.toInt - lo).toNat = (x.toInt - (lo + 1)).toNat + 1 by omega]
      exact j1
theorem am_swL {pc b : Nat} {x : Int32} {dflt : Int} (hd : (pc : Int) + dflt = (b : Int)) : ∀ (ps : List (Int × Int)), (∀ q ∈ ps, -2147483648 ≤ q.1 ∧ q.1 ≤ 2147483647 ∧ 0 ≤ (pc : Int) + q.2) → (pc : Int) + Op.lookupswitch.offset ps dflt x.toInt = (am_sw (am_tbL pc ps) b x : Int) := by
  intro ps
  induction ps with
  | nil => intro _; exact hd
  | cons q r ih =>
    intro h
    obtain ⟨a, o⟩ := q
    obtain ⟨h1, h2, h3⟩ := h (a, o) List.mem_cons_self
    simp only [am_tbL, List.map_cons, am_sw]
    by_cases hx : x.toInt = a
    · rw [if_pos ((am_inj h1 h2).mpr hx), Op.lookupswitch.offset_cons, if_pos (by first | exact hx.symm | exact hx | simp [hx])]
      simp only at h3
      omega
    · have hne : ¬ x = Int32.ofInt a := fun q => hx ((am_inj h1 h2).mp q)
      rw [if_neg hne, lv_osw hne ((am_inj h1 h2).mp rfl)]
      exact ih fun q hq => h q (List.mem_cons_of_mem _ hq)
def am_okTb (k : Nat) (desc : String) : Bool := match k, parseFieldDescriptor desc with
  | 0, some .int => true
  | 1, some (.object _) => true
  | 1, some (.array _) => true
  | 2, some .boolean => true
  | _, _ => false
theorem am_okTb_ok {k : Nat} {desc : String} (h : am_okTb k desc = true) : am_okT k desc := by
  unfold am_okTb at h
  split at h
  · rename_i q; exact q
  · rename_i n q; exact Or.inl ⟨n, q⟩
  · rename_i n q; exact Or.inr ⟨n, q⟩
  · rename_i q; exact q
  · cases h
/-- the pool's links that were looked up, by the number of the class that has them -/
abbrev am_Lk : Type := (Nat → List (Nat × Nat × Nat)) × List (Nat × Nat × Int32) × List (Nat × Nat × Nat) × List (Nat × Nat × Nat) × List (Nat × Nat) × (Nat → List (Nat × Nat × Nat × Nat)) × List (Nat × Nat) × List (Nat × Nat) × List (Nat × Nat) × List (Nat × Nat) × List (Nat × Nat)
def am_LkOk (P : am_P) (Y : am_Y) (cl : List vw_C) (Ts : List Jvm.Cond) (nm : Nat → String) (L : am_Lk) : Prop :=
  (∀ oc, ∀ q ∈ L.1 oc, am_okF cl Ts (nm oc) q.1 q.2.1 q.2.2) ∧
  (∀ q ∈ L.2.1, Jvm.Cond.constant (nm q.1) q.2.1 q.2.2 ∈ Ts) ∧
  (∀ q ∈ L.2.2.1, ∃ C T N, cl[q.2.2]? = some (C, T, N) ∧ Jvm.Cond.classLink (nm q.1) q.2.1 C ∈ Ts ∧ Jvm.Cond.instantiable C N ∈ Ts ∧ Jvm.Cond.initialized C ∈ Ts) ∧
  (∀ q ∈ L.2.2.2.1, ∃ C T N, cl[q.2.2]? = some (C, T, N) ∧ Jvm.Cond.classLink (nm q.1) q.2.1 C ∈ Ts) ∧
  (∀ q ∈ L.2.2.2.2.1, Jvm.Cond.methodLink (nm q.1) q.2 Lib.objectInit ∈ Ts) ∧
  (∀ oc, ∀ q ∈ L.2.2.2.2.2.1 oc, am_okK P Y cl Ts (nm oc) q.1 q.2.1 q.2.2.1 q.2.2.2) ∧
  (∀ q ∈ L.2.2.2.2.2.2.1, Jvm.Cond.classLink (nm q.1) q.2 "java/lang/Object" ∈ Ts) ∧
  (∀ q ∈ L.2.2.2.2.2.2.2.1, Jvm.Cond.methodLink (nm q.1) q.2 arraycopyName ∈ Ts) ∧
  (∀ q ∈ L.2.2.2.2.2.2.2.2.1, Jvm.Cond.fieldLink (nm q.1) q.2 am_AL am_EE am_ED ∈ Ts) ∧
  (∀ q ∈ L.2.2.2.2.2.2.2.2.2.1, Jvm.Cond.methodLink (nm q.1) q.2 am_gC ∈ Ts) ∧
  (∀ q ∈ L.2.2.2.2.2.2.2.2.2.2, Jvm.Cond.classLink (nm q.1) q.2 am_ED ∈ Ts)
/-- words without a link of a pool -/
def am_Gl (Ts : List Jvm.Cond) : Prop := Jvm.Cond.arrayClass .int ∈ Ts ∧ Jvm.Cond.arrayClass .boolean ∈ Ts ∧ Jvm.Cond.instanceMethod Lib.objectInit ∈ Ts ∧ Jvm.Cond.code Lib.objectInit ⟨#[0xb1]⟩ 1 none ∈ Ts ∧ Jvm.Cond.arrayOver (.object "java/lang/Object") ∈ Ts ∧ Jvm.Cond.native arraycopyName ∈ Ts ∧ Jvm.Cond.static arraycopyName ∈ Ts ∧ Jvm.Cond.initialized "java/lang/System" ∈ Ts ∧
  Jvm.Cond.declares am_gC ∈ Ts ∧ Jvm.Cond.selects am_ED am_gC am_gC ∈ Ts ∧ Jvm.Cond.instanceMethod am_gC ∈ Ts ∧ Jvm.Cond.native am_gC ∈ Ts ∧ Jvm.Cond.castable "ChunkCode$Body" "java/lang/Object" ∈ Ts
def am_m3 (l : List (Nat × Nat × Nat)) (i a b : Nat) : Bool := l.any fun q => Nat.beq q.1 i && Nat.beq q.2.1 a && Nat.beq q.2.2 b
def am_m4 (l : List (Nat × Nat × Nat × Nat)) (i a b c : Nat) : Bool := l.any fun q => Nat.beq q.1 i && Nat.beq q.2.1 a && Nat.beq q.2.2.1 b && Nat.beq q.2.2.2 c
theorem am_m3_ok {l : List (Nat × Nat × Nat)} {i a b : Nat} (h : am_m3 l i a b = true) : (i, a, b) ∈ l := by
  obtain ⟨q, hq, h⟩ := List.any_eq_true.mp h
  simp only [Bool.and_eq_true] at h
  obtain ⟨⟨h1, h2⟩, h3⟩ := h
  rw [← Nat.eq_of_beq_eq_true h1, ← Nat.eq_of_beq_eq_true h2, ← Nat.eq_of_beq_eq_true h3]
  exact hq
theorem am_m4_ok {l : List (Nat × Nat × Nat × Nat)} {i a b c : Nat} (h : am_m4 l i a b c = true) : (i, a, b, c) ∈ l := by
  obtain ⟨q, hq, h⟩ := List.any_eq_true.mp h
  simp only [Bool.and_eq_true] at h
  obtain ⟨⟨⟨h1, h2⟩, h3⟩, h4⟩ := h
  rw [← Nat.eq_of_beq_eq_true h1, ← Nat.eq_of_beq_eq_true h2, ← Nat.eq_of_beq_eq_true h3, ← Nat.eq_of_beq_eq_true h4]
  exact hq
def am_ck (L : am_Lk) (cl : List vw_C) (nm : Nat → String) (oc : Nat) (cc : ByteArray) (ret : Option FieldType) (ini : Bool) (pc op a b c : Nat) (x : Int32) (nx : Nat) (tab : List (Int32 × Nat)) : Bool :=
  match op with
  | 0 => match decode cc pc with
    | .ok (.iconst n, 1) => decide (Int32.ofInt n = x) && decide (nx = pc + 1)
    | .ok (.bipush n, 2) => decide ((Int8.ofInt n).toInt32 = x) && decide (nx = pc + 2)
    | .ok (.sipush n, 3) => decide ((Int16.ofInt n).toInt32 = x) && decide (nx = pc + 3)
    | .ok (.ldc k, 2) => decide ((oc, k, x) ∈ L.2.1) && decide (nx = pc + 2)
    | _ => false
  | 1 => match decode cc pc with
    | .ok (.iload_n k, 1) => decide ((k : Nat) = a) && decide (nx = pc + 1)
    | .ok (.iload k, 2) => decide (k = a) && decide (nx = pc + 2)
    | _ => false
  | 2 => match decode cc pc with
    | .ok (.aload_n k, 1) => decide ((k : Nat) = a) && decide (nx = pc + 1)
    | .ok (.aload k, 2) => decide (k = a) && decide (nx = pc + 2)
    | _ => false
  | 3 => match decode cc pc with
    | .ok (.istore_n k, 1) => decide ((k : Nat) = a) && decide (nx = pc + 1)
    | .ok (.istore k, 2) => decide (k = a) && decide (nx = pc + 2)
    | _ => false
  | 4 => match decode cc pc with
    | .ok (.astore_n k, 1) => decide ((k : Nat) = a) && decide (nx = pc + 1)
    | .ok (.astore k, 2) => decide (k = a) && decide (nx = pc + 2)
    | _ => false
  | 5 => match decode cc pc with
    | .ok (.iinc k n, 3) => decide (k = a) && decide (Int32.ofInt n = x) && decide (nx = pc + 3)
    | _ => false
  | 6 => decide (decode cc pc = .ok (.pop, 1)) && decide (nx = pc + 1)
  | 7 => decide (decode cc pc = .ok (.dup, 1)) && decide (nx = pc + 1)
  | 8 => decide (decode cc pc = .ok (.dup2, 1)) && decide (nx = pc + 1)
  | 9 => decide (decode cc pc = .ok (.dup_x1, 1)) && decide (nx = pc + 1)
  | 10 => decide (nx = pc + 1) && match a with
    | 0 => decide (decode cc pc = .ok (.iadd, 1))
    | 1 => decide (decode cc pc = .ok (.isub, 1))
    | 2 => decide (decode cc pc = .ok (.imul, 1))
    | 3 => decide (decode cc pc = .ok (.iand, 1))
    | 4 => decide (decode cc pc = .ok (.ior, 1))
    | 5 => decide (decode cc pc = .ok (.ishr, 1))
    | _ => false
  | 11 => decide (decode cc pc = .ok (.ineg, 1)) && decide (nx = pc + 1)
  | 12 => match decode cc pc with
    | .ok (.ifCond q off, 3) => decide (q = am_cd a) && decide ((pc : Int) + off = (b : Int)) && decide (nx = pc + 3) && decide (a ≤ 5)
    | _ => false
  | 13 => match decode cc pc with
    | .ok (.if_icmp q off, 3) => decide (q = am_cd a) && decide ((pc : Int) + off = (b : Int)) && decide (nx = pc + 3) && decide (a ≤ 5)
    | _ => false
  | 14 => match decode cc pc with
    | .ok (.ifnull off, 3) => decide ((pc : Int) + off = (b : Int)) && decide (nx = pc + 3)
    | _ => false
  | 15 => match decode cc pc with
    | .ok (.ifnonnull off, 3) => decide ((pc : Int) + off = (b : Int)) && decide (nx = pc + 3)
    | _ => false
  | 16 => match decode cc pc with
    | .ok (.if_acmp .eq off, 3) => decide ((pc : Int) + off = (b : Int)) && decide (nx = pc + 3)
    | _ => false
  | 17 => match decode cc pc with
    | .ok (.if_acmp .ne off, 3) => decide ((pc : Int) + off = (b : Int)) && decide (nx = pc + 3)
    | _ => false
  | 18 => match decode cc pc with
    | .ok (.goto off, 3) => decide ((pc : Int) + off = (b : Int))
    | _ => false
  | 19 => match decode cc pc with
    | .ok (.tableswitch dflt lo hi offs, _) => decide ((pc : Int) + dflt = (b : Int)) && decide (tab = am_tbT pc lo offs.toList) && decide (hi + 1 = lo + offs.toList.length) && decide (-2147483648 ≤ lo) && decide (hi ≤ 2147483647) && offs.toList.all (fun o => decide (0 ≤ (pc : Int) + o))
    | .ok (.lookupswitch dflt ps, _) => decide ((pc : Int) + dflt = (b : Int)) && decide (tab = am_tbL pc ps.toList) && (ps.toList.zip (ps.toList.drop 1)).all (fun (a, next) => a.1 < next.1) && ps.toList.all (fun q => decide (-2147483648 ≤ q.1) && decide (q.1 ≤ 2147483647) && decide (0 ≤ (pc : Int) + q.2))
    | _ => false
  | 20 => match decode cc pc with
    | .ok (.getfield idx, 3) => decide (nx = pc + 3) && am_m3 (L.1 oc) idx a b
    | _ => false
  | 21 => match decode cc pc with
    | .ok (.putfield idx, 3) => decide (nx = pc + 3) && am_m3 (L.1 oc) idx a b && match cl[a]? with
      | some q => am_okTb (c % 4) (q.2.1 b).2.2.1 && (!(q.2.1 b).2.2.2 || (ini && decide ((q.2.1 b).1 = nm oc)))
      | none => false
    | _ => false
  | 22 => match decode cc pc with
    | .ok (.new idx, 3) => decide (nx = pc + 3) && decide ((oc, idx, a) ∈ L.2.2.1)
    | _ => false
  | 23 => decide (nx = pc + 2) && match a with
    | 0 => decide (decode cc pc = .ok (.newarray .int, 2))
    | 1 => decide (decode cc pc = .ok (.newarray .boolean, 2))
    | _ => false
  | 24 => decide (decode cc pc = .ok (.arraylength, 1)) && decide (nx = pc + 1)
  | 25 => decide (nx = pc + 1) && match a with
    | 0 => decide (decode cc pc = .ok (.iaload, 1))
    | 1 => decide (decode cc pc = .ok (.baload, 1))
    | _ => false
  | 26 => decide (nx = pc + 1) && match a with
    | 0 => decide (decode cc pc = .ok (.iastore, 1))
    | 1 => decide (decode cc pc = .ok (.bastore, 1))
    | _ => false
  | 29 => decide (decode cc pc = .ok (.aconst_null, 1)) && decide (nx = pc + 1)
  | 30 => match decode cc pc with
    | .ok (.checkcast idx, 3) => decide (nx = pc + 3) && decide ((oc, idx, a) ∈ L.2.2.2.1)
    | _ => false
  | 31 => match decode cc pc with
    | .ok (.invokespecial idx, 3) => decide (nx = pc + 3) && decide ((oc, idx) ∈ L.2.2.2.2.1)
    | _ => false
  | 32 => decide (nx = pc + 3) && match c, decode cc pc with
    | 0, .ok (.invokestatic idx, 3) => am_m4 (L.2.2.2.2.2.1 oc) idx a b c
    | 1, .ok (.invokespecial idx, 3) => am_m4 (L.2.2.2.2.2.1 oc) idx a b c
    | _ + 2, .ok (.invokevirtual idx, 3) => am_m4 (L.2.2.2.2.2.1 oc) idx a b c
    | _, _ => false
  | 33 => decide (decode cc pc = .ok (.ireturn, 1)) && decide (ret = some .int)
  | 34 => decide (decode cc pc = .ok (.areturn, 1)) && match ret with
    | some (.object _) => true
    | some (.array _) => true
    | _ => false
  | 35 => decide (decode cc pc = .ok (.return_, 1)) && decide (ret = none)
  | 36 => decide (decode cc pc = .ok (.ireturn, 1)) && decide (ret = some .boolean)
  | 37 => true
  | 38 => match decode cc pc with
    | .ok (.anewarray idx, 3) => decide (nx = pc + 3) && decide ((oc, idx) ∈ L.2.2.2.2.2.2.1)
    | _ => false
  | 39 => decide (decode cc pc = .ok (.aaload, 1)) && decide (nx = pc + 1)
  | 40 => decide (decode cc pc = .ok (.aastore, 1)) && decide (nx = pc + 1) && match cl[a]? with
    | some q => decide (q.1 = "ChunkCode$Body")
    | none => false
  | 41 => match decode cc pc with
    | .ok (.invokestatic idx, 3) => decide (nx = pc + 3) && decide ((oc, idx) ∈ L.2.2.2.2.2.2.2.1)
    | _ => false
  | 42 => match decode cc pc with
    | .ok (.invokestatic idx, 3) => decide (nx = pc + 3) && decide ((oc, idx) ∈ L.2.2.2.2.2.2.2.1) && match cl[a]? with
      | some q => decide (q.1 = "ChunkCode$Body")
      | none => false
    | _ => false
  | 43 => match decode cc pc with
    | .ok (.getstatic idx, 3) => decide (nx = pc + 3) && decide ((oc, idx) ∈ L.2.2.2.2.2.2.2.2.1)
    | _ => false
  | 44 => match decode cc pc with
    | .ok (.invokevirtual idx, 3) => decide (nx = pc + 3) && decide ((oc, idx) ∈ L.2.2.2.2.2.2.2.2.2.1)
    | _ => false
  | 45 => match decode cc pc with
    | .ok (.ldc idx, 2) => decide (nx = pc + 2) && decide ((oc, idx) ∈ L.2.2.2.2.2.2.2.2.2.2)
    | _ => false
  | _ => false
end
section
/-! WHAT THE PROGRAM LETS PASS IS RIGHT -/
set_option maxHeartbeats 4000000 in
theorem am_ck_ok {P : am_P} {Y : am_Y} {cl : List vw_C} {Ts : List Jvm.Cond} {nm : Nat → String} {L : am_Lk} (hL : am_LkOk P Y cl Ts nm L) (hG : am_Gl Ts) {M oc pc op a b c nx : Nat} {x : Int32} {tab : List (Int32 × Nat)} {ini : Bool} (hoc : (Y M).1.cls = nm oc) (hini : ini = true → (Y M).1.name = "<init>")
    (h : am_ck L cl nm oc (Y M).2.1 (Y M).2.2 ini pc op a b c x nx tab = true) : am_okI P Y cl Ts M pc op a b c x nx tab := by
    match op, h with
    | 0, h =>
      simp only [am_ck] at h
      split at h
      · rename_i n hdg; simp only [Bool.and_eq_true, decide_eq_true_eq] at h; exact Or.inl ⟨n, hdg, h.1, h.2⟩
      · rename_i n hdg; simp only [Bool.and_eq_true, decide_eq_true_eq] at h; exact Or.inr (Or.inl ⟨n, hdg, h.1, h.2⟩)
      · rename_i n hdg; simp only [Bool.and_eq_true, decide_eq_true_eq] at h; exact Or.inr (Or.inr (Or.inl ⟨n, hdg, h.1, h.2⟩))
      · rename_i n hdg; simp only [Bool.and_eq_true, decide_eq_true_eq] at h; exact Or.inr (Or.inr (Or.inr ⟨n, hdg, by rw [hoc]; exact hL.2.1 _ h.1, h.2⟩))
      · cases h
    | 1, h =>
      simp only [am_ck] at h
      split at h
      · rename_i k hdg; simp only [Bool.and_eq_true, decide_eq_true_eq] at h; exact Or.inl ⟨k, hdg, h.1, h.2⟩
      · rename_i k hdg; simp only [Bool.and_eq_true, decide_eq_true_eq] at h; exact Or.inr ⟨by rw [← h.1]; exact hdg, h.2⟩
      · cases h
    | 2, h =>
      simp only [am_ck] at h
      split at h
      · rename_i k hdg; simp only [Bool.and_eq_true, decide_eq_true_eq] at h; exact Or.inl ⟨k, hdg, h.1, h.2⟩
      · rename_i k hdg; simp only [Bool.and_eq_true, decide_eq_true_eq] at h; exact Or.inr ⟨by rw [← h.1]; exact hdg, h.2⟩
      · cases h
    | 3, h =>
      simp only [am_ck] at h
      split at h
      · rename_i k hdg; simp only [Bool.and_eq_true, decide_eq_true_eq] at h; exact Or.inl ⟨k, hdg, h.1, h.2⟩
      · rename_i k hdg; simp only [Bool.and_eq_true, decide_eq_true_eq] at h; exact Or.inr ⟨by rw [← h.1]; exact hdg, h.2⟩
      · cases h
    | 4, h =>
      simp only [am_ck] at h
      split at h
      · rename_i k hdg; simp only [Bool.and_eq_true, decide_eq_true_eq] at h; exact Or.inl ⟨k, hdg, h.1, h.2⟩
      · rename_i k hdg; simp only [Bool.and_eq_true, decide_eq_true_eq] at h; exact Or.inr ⟨by rw [← h.1]; exact hdg, h.2⟩
      · cases h
    | 5, h =>
      simp only [am_ck] at h
      split at h
      · rename_i k n hdg; simp only [Bool.and_eq_true, decide_eq_true_eq] at h; exact ⟨n, by rw [← h.1.1]; exact hdg, h.1.2, h.2⟩
      · cases h
    | 6, h => simp only [am_ck, Bool.and_eq_true, decide_eq_true_eq] at h; exact h
    | 7, h => simp only [am_ck, Bool.and_eq_true, decide_eq_true_eq] at h; exact h
    | 8, h => simp only [am_ck, Bool.and_eq_true, decide_eq_true_eq] at h; exact h
    | 9, h => simp only [am_ck, Bool.and_eq_true, decide_eq_true_eq] at h; exact h
    | 11, h => simp only [am_ck, Bool.and_eq_true, decide_eq_true_eq] at h; exact h
    | 24, h => simp only [am_ck, Bool.and_eq_true, decide_eq_true_eq] at h; exact h
    | 29, h => simp only [am_ck, Bool.and_eq_true, decide_eq_true_eq] at h; exact h
    | 39, h => simp only [am_ck, Bool.and_eq_true, decide_eq_true_eq] at h; exact h
    | 10, h =>
      simp only [am_ck, Bool.and_eq_true, decide_eq_true_eq] at h
      refine ⟨h.1, ?_⟩
      match a, h.2 with
      | 0, h => exact of_decide_eq_true (p := decode (Y M).2.1 pc = .ok (.iadd, 1)) h
      | 1, h => exact of_decide_eq_true (p := decode (Y M).2.1 pc = .ok (.isub, 1)) h
      | 2, h => exact of_decide_eq_true (p := decode (Y M).2.1 pc = .ok (.imul, 1)) h
      | 3, h => exact of_decide_eq_true (p := decode (Y M).2.1 pc = .ok (.iand, 1)) h
      | 4, h => exact of_decide_eq_true (p := decode (Y M).2.1 pc = .ok (.ior, 1)) h
      | 5, h => exact of_decide_eq_true (p := decode (Y M).2.1 pc = .ok (.ishr, 1)) h
      | n + 6, h => cases h
    | 12, h =>
      simp only [am_ck] at h
      split at h
      · rename_i q off hdg; simp only [Bool.and_eq_true, decide_eq_true_eq] at h; exact ⟨off, by rw [← h.1.1.1]; exact hdg, h.1.1.2, h.1.2, h.2⟩
      · cases h
    | 13, h =>
      simp only [am_ck] at h
      split at h
      · rename_i q off hdg; simp only [Bool.and_eq_true, decide_eq_true_eq] at h; exact ⟨off, by rw [← h.1.1.1]; exact hdg, h.1.1.2, h.1.2, h.2⟩
      · cases h
    | 14, h =>
      simp only [am_ck] at h
      split at h
      · rename_i off hdg; simp only [Bool.and_eq_true, decide_eq_true_eq] at h; exact ⟨off, hdg, h.1, h.2⟩
      · cases h
    | 15, h =>
      simp only [am_ck] at h
      split at h
      · rename_i off hdg; simp only [Bool.and_eq_true, decide_eq_true_eq] at h; exact ⟨off, hdg, h.1, h.2⟩
      · cases h
    | 16, h =>
      simp only [am_ck] at h
      split at h
      · rename_i off hdg; simp only [Bool.and_eq_true, decide_eq_true_eq] at h; exact ⟨off, hdg, h.1, h.2⟩
      · cases h
    | 17, h =>
      simp only [am_ck] at h
      split at h
      · rename_i off hdg; simp only [Bool.and_eq_true, decide_eq_true_eq] at h; exact ⟨off, hdg, h.1, h.2⟩
      · cases h
    | 18, h =>
      simp only [am_ck] at h
      split at h
      · rename_i off hdg; exact ⟨off, hdg, of_decide_eq_true h⟩
      · cases h
    | 19, h =>
      simp only [am_ck] at h
      split at h
      · rename_i dflt lo hi offs len hdg
        simp only [Bool.and_eq_true, decide_eq_true_eq, List.all_eq_true] at h
        obtain ⟨⟨⟨⟨⟨h1, h2⟩, h3⟩, h4⟩, h5⟩, h6⟩ := h
        refine Or.inl ⟨dflt, lo, hi, offs, len, hdg, h1, fun y q => ?_, fun y q1 q2 => ?_⟩
        · rw [h2]; exact (am_swT offs.toList lo h4 (by omega) h6).1 (by omega)
        · rw [h2]
          obtain ⟨off, j1, j2⟩ := (am_swT (b := b) (x := y) offs.toList lo h4 (by omega) h6).2 q1 (by omega)
          exact ⟨off, by rw [← j1]; simp, j2⟩
      · rename_i dflt ps len hdg
        simp only [Bool.and_eq_true, decide_eq_true_eq, List.all_eq_true] at h
        obtain ⟨⟨⟨h1, h2⟩, h3⟩, h4⟩ := h
        refine Or.inr ⟨dflt, ps, len, hdg, ?_, fun y => ?_⟩
        · rw [List.all_eq_true]; intro q hq; have := h3 q hq; simpa using this
        · rw [h2]; exact am_swL h1 ps.toList (fun q hq => ⟨(h4 q hq).1.1, (h4 q hq).1.2, (h4 q hq).2⟩)
      · cases h
    | 20, h =>
      simp only [am_ck] at h
      split at h
      · rename_i idx hdg; simp only [Bool.and_eq_true, decide_eq_true_eq] at h; exact ⟨idx, hdg, h.1, by rw [hoc]; exact hL.1 oc _ (am_m3_ok h.2)⟩
      · cases h
    | 21, h =>
      simp only [am_ck] at h
      split at h
      · rename_i idx hdg
        simp only [Bool.and_eq_true, decide_eq_true_eq] at h
        obtain ⟨⟨h1, h2⟩, h3⟩ := h
        refine ⟨idx, hdg, h1, by rw [hoc]; exact hL.1 oc _ (am_m3_ok h2), fun C T N hcl => ?_⟩
        rw [hcl] at h3
        simp only [Bool.and_eq_true, Bool.or_eq_true, Bool.not_eq_true', decide_eq_true_eq] at h3
        refine ⟨am_okTb_ok h3.1, ?_⟩
        rcases h3.2 with q | ⟨q1, q2⟩
        · exact Or.inl q
        · cases hf : (T b).2.2.2 with
          | false => exact Or.inl rfl
          | true => exact Or.inr ⟨rfl, hini q1, by rw [hoc]; exact q2⟩
      · cases h
    | 22, h =>
      simp only [am_ck] at h
      split at h
      · rename_i idx hdg
        simp only [Bool.and_eq_true, decide_eq_true_eq] at h
        obtain ⟨C, T, N, q1, q2, q3, q4⟩ := hL.2.2.1 _ h.2
        exact ⟨idx, C, T, N, hdg, h.1, q1, by rw [hoc]; exact q2, q3, q4⟩
      · cases h
    | 23, h =>
      simp only [am_ck, Bool.and_eq_true, decide_eq_true_eq] at h
      refine ⟨h.1, ?_⟩
      match a, h.2 with
      | 0, h => exact Or.inl ⟨rfl, of_decide_eq_true h, hG.1⟩
      | 1, h => exact Or.inr ⟨rfl, of_decide_eq_true h, hG.2.1⟩
      | n + 2, h => cases h
    | 25, h =>
      simp only [am_ck, Bool.and_eq_true, decide_eq_true_eq] at h
      refine ⟨h.1, ?_⟩
      match a, h.2 with
      | 0, h => exact Or.inl ⟨rfl, of_decide_eq_true h⟩
      | 1, h => exact Or.inr ⟨rfl, of_decide_eq_true h⟩
      | n + 2, h => cases h
    | 26, h =>
      simp only [am_ck, Bool.and_eq_true, decide_eq_true_eq] at h
      refine ⟨h.1, ?_⟩
      match a, h.2 with
      | 0, h => exact Or.inl ⟨rfl, of_decide_eq_true h⟩
      | 1, h => exact Or.inr ⟨rfl, of_decide_eq_true h⟩
      | n + 2, h => cases h
    | 30, h =>
      simp only [am_ck] at h
      split at h
      · rename_i idx hdg
        simp only [Bool.and_eq_true, decide_eq_true_eq] at h
        obtain ⟨C, T, N, q1, q2⟩ := hL.2.2.2.1 _ h.2
        exact ⟨idx, C, T, N, hdg, h.1, q1, by rw [hoc]; exact q2⟩
      · cases h
    | 31, h =>
      simp only [am_ck] at h
      split at h
      · rename_i idx hdg
        simp only [Bool.and_eq_true, decide_eq_true_eq] at h
        exact ⟨idx, hdg, h.1, by rw [hoc]; exact hL.2.2.2.2.1 _ h.2, hG.2.2.1, hG.2.2.2.1⟩
      · cases h
    | 32, h =>
      simp only [am_ck, Bool.and_eq_true, decide_eq_true_eq] at h
      obtain ⟨h1, h⟩ := h
      split at h
      · rename_i idx hdg _
        obtain ⟨q1, q0, q2, q3, q4⟩ := hL.2.2.2.2.2.1 oc _ (am_m4_ok h)
        exact ⟨idx, h1, q1, hdg, q0, by rw [hoc]; exact q2, q3, q4⟩
      · rename_i idx hdg _
        obtain ⟨q1, q0, q2, q3, q4, q5, q6⟩ := hL.2.2.2.2.2.1 oc _ (am_m4_ok h)
        exact ⟨idx, h1, q1, hdg, q0, by rw [hoc]; exact q2, q3, q4, q5, q6⟩
      · rename_i idx hdg _
        obtain ⟨q1, C, T, N, q2, q3, q4, q5, q6⟩ := hL.2.2.2.2.2.1 oc _ (am_m4_ok h)
        exact ⟨idx, h1, q1, C, T, N, q2, hdg, by rw [hoc]; exact q3, q4, q5, q6⟩
      · cases h
    | 33, h => simp only [am_ck, Bool.and_eq_true, decide_eq_true_eq] at h; exact h
    | 34, h =>
      simp only [am_ck, Bool.and_eq_true, decide_eq_true_eq] at h
      refine ⟨h.1, ?_⟩
      have h2 := h.2
      split at h2
      · rename_i n q; exact Or.inl ⟨n, q⟩
      · rename_i n q; exact Or.inr ⟨n, q⟩
      · cases h2
    | 35, h => simp only [am_ck, Bool.and_eq_true, decide_eq_true_eq] at h; exact h
    | 36, h => simp only [am_ck, Bool.and_eq_true, decide_eq_true_eq] at h; exact h
    | 37, _ => trivial
    | 38, h =>
      simp only [am_ck] at h
      split at h
      · rename_i idx hdg
        simp only [Bool.and_eq_true, decide_eq_true_eq] at h
        exact ⟨idx, hdg, h.1, by rw [hoc]; exact hL.2.2.2.2.2.2.1 _ h.2, hG.2.2.2.2.1⟩
      · cases h
    | 40, h =>
      simp only [am_ck, Bool.and_eq_true, decide_eq_true_eq] at h
      obtain ⟨⟨h1, h2⟩, h3⟩ := h
      split at h3
      · rename_i q hq
        refine ⟨h1, h2, q.1, q.2.1, q.2.2, hq, ?_⟩
        rw [of_decide_eq_true h3]
        exact hG.2.2.2.2.2.2.2.2.2.2.2.2
      · cases h3
    | 41, h =>
      simp only [am_ck] at h
      split at h
      · rename_i idx hdg
        simp only [Bool.and_eq_true, decide_eq_true_eq] at h
        exact ⟨idx, hdg, h.1, by rw [hoc]; exact hL.2.2.2.2.2.2.2.1 _ h.2, hG.2.2.2.2.2.1, hG.2.2.2.2.2.2.1, hG.2.2.2.2.2.2.2.1⟩
      · cases h
    | 42, h =>
      simp only [am_ck] at h
      split at h
      · rename_i idx hdg
        simp only [Bool.and_eq_true, decide_eq_true_eq] at h
        obtain ⟨⟨h1, h2⟩, h3⟩ := h
        split at h3
        · rename_i q hq
          refine ⟨idx, hdg, h1, by rw [hoc]; exact hL.2.2.2.2.2.2.2.1 _ h2, hG.2.2.2.2.2.1, hG.2.2.2.2.2.2.1, hG.2.2.2.2.2.2.2.1, q.1, q.2.1, q.2.2, hq, ?_⟩
          rw [of_decide_eq_true h3]
          exact hG.2.2.2.2.2.2.2.2.2.2.2.2
        · cases h3
      · cases h
    | 43, h =>
      simp only [am_ck] at h
      split at h
      · rename_i idx hdg
        simp only [Bool.and_eq_true, decide_eq_true_eq] at h
        exact ⟨idx, hdg, h.1, by rw [hoc]; exact hL.2.2.2.2.2.2.2.2.1 _ h.2⟩
      · cases h
    | 44, h =>
      simp only [am_ck] at h
      split at h
      · rename_i idx hdg
        simp only [Bool.and_eq_true, decide_eq_true_eq] at h
        exact ⟨idx, hdg, h.1, by rw [hoc]; exact hL.2.2.2.2.2.2.2.2.2.1 _ h.2, hG.2.2.2.2.2.2.2.2.1, hG.2.2.2.2.2.2.2.2.2.1, hG.2.2.2.2.2.2.2.2.2.2.1, hG.2.2.2.2.2.2.2.2.2.2.2.1⟩
      · cases h
    | 45, h =>
      simp only [am_ck] at h
      split at h
      · rename_i idx hdg
        simp only [Bool.and_eq_true, decide_eq_true_eq] at h
        exact ⟨idx, hdg, h.1, by rw [hoc]; exact hL.2.2.2.2.2.2.2.2.2.2 _ h.2⟩
      · cases h
    | 27, h => cases h
    | 28, h => cases h
    | n9 + 46, h => cases h
end
section
/-! THE PROGRAM: small instructions of each method, out of its bytes (printed by wip/whole/gen13.py) -/
/-- 0: ChunkCode.<init>()V -/
def am_i0 : List (Nat × am_I) := [(0, 2, 0, 0, 0, 0, 1, []),
  (1, 31, 0, 0, 0, 0, 4, []),
  (4, 2, 0, 0, 0, 0, 5, []),
  (5, 22, 1, 0, 0, 0, 8, []),
  (8, 7, 0, 0, 0, 0, 9, []),
  (9, 32, 1, 1, 1, 0, 12, []),
  (12, 21, 0, 0, 5, 0, 15, []),
  (15, 2, 0, 0, 0, 0, 16, []),
  (16, 22, 2, 0, 0, 0, 19, []),
  (19, 7, 0, 0, 0, 0, 20, []),
  (20, 2, 0, 0, 0, 0, 21, []),
  (21, 20, 0, 0, 0, 0, 24, []),
  (24, 32, 2, 2, 1, 0, 27, []),
  (27, 21, 0, 1, 5, 0, 30, []),
  (30, 2, 0, 0, 0, 0, 31, []),
  (31, 22, 4, 0, 0, 0, 34, []),
  (34, 7, 0, 0, 0, 0, 35, []),
  (35, 32, 4, 1, 1, 0, 38, []),
  (38, 21, 0, 2, 5, 0, 41, []),
  (41, 2, 0, 0, 0, 0, 42, []),
  (42, 22, 6, 0, 0, 0, 45, []),
  (45, 7, 0, 0, 0, 0, 46, []),
  (46, 2, 0, 0, 0, 0, 47, []),
  (47, 20, 0, 1, 0, 0, 50, []),
  (50, 2, 0, 0, 0, 0, 51, []),
  (51, 20, 0, 0, 0, 0, 54, []),
  (54, 2, 0, 0, 0, 0, 55, []),
  (55, 20, 0, 2, 0, 0, 58, []),
  (58, 32, 8, 4, 1, 0, 61, []),
  (61, 21, 0, 3, 5, 0, 64, []),
  (64, 2, 0, 0, 0, 0, 65, []),
  (65, 22, 10, 0, 0, 0, 68, []),
  (68, 7, 0, 0, 0, 0, 69, []),
  (69, 2, 0, 0, 0, 0, 70, []),
  (70, 20, 0, 2, 0, 0, 73, []),
  (73, 32, 12, 2, 1, 0, 76, []),
  (76, 21, 0, 4, 5, 0, 79, []),
  (79, 2, 0, 0, 0, 0, 80, []),
  (80, 20, 0, 2, 0, 0, 83, []),
  (83, 32, 13, 1, 6, 0, 86, []),
  (86, 4, 1, 0, 0, 0, 87, []),
  (87, 2, 1, 0, 0, 0, 88, []),
  (88, 0, 0, 0, 0, 1, 89, []),
  (89, 21, 8, 5, 0, 0, 92, []),
  (92, 2, 1, 0, 0, 0, 93, []),
  (93, 20, 8, 0, 0, 0, 96, []),
  (96, 0, 0, 0, 0, 45, 98, []),
  (98, 0, 0, 0, 0, 0, 99, []),
  (99, 0, 0, 0, 0, 0, 100, []),
  (100, 0, 0, 0, 0, 0, 101, []),
  (101, 32, 31, 5, 5, 0, 104, []),
  (104, 6, 0, 0, 0, 0, 105, []),
  (105, 35, 0, 0, 0, 0, 106, [])]
/-- 1: ChunkCode$Faults.<init>()V -/
def am_i1 : List (Nat × am_I) := [(0, 2, 0, 0, 0, 0, 1, []),
  (1, 31, 0, 0, 0, 0, 4, []),
  (4, 35, 0, 0, 0, 0, 5, [])]
/-- 2: ChunkCode$Words.<init>(LChunkCode$Faults;)V -/
def am_i2 : List (Nat × am_I) := [(0, 2, 0, 0, 0, 0, 1, []),
  (1, 31, 0, 0, 0, 0, 4, []),
  (4, 2, 0, 0, 0, 0, 5, []),
  (5, 22, 3, 0, 0, 0, 8, []),
  (8, 7, 0, 0, 0, 0, 9, []),
  (9, 32, 3, 1, 1, 0, 12, []),
  (12, 21, 2, 1, 5, 0, 15, []),
  (15, 2, 0, 0, 0, 0, 16, []),
  (16, 2, 1, 0, 0, 0, 17, []),
  (17, 21, 2, 0, 5, 0, 20, []),
  (20, 35, 0, 0, 0, 0, 21, [])]
/-- 3: ChunkCode$Table.<init>()V -/
def am_i3 : List (Nat × am_I) := [(0, 2, 0, 0, 0, 0, 1, []),
  (1, 31, 0, 0, 0, 0, 4, []),
  (4, 2, 0, 0, 0, 0, 5, []),
  (5, 0, 0, 0, 0, 32, 7, []),
  (7, 23, 0, 0, 0, 0, 9, []),
  (9, 21, 3, 0, 1, 0, 12, []),
  (12, 35, 0, 0, 0, 0, 13, [])]
/-- 4: ChunkCode$Bodies.<init>()V -/
def am_i4 : List (Nat × am_I) := [(0, 2, 0, 0, 0, 0, 1, []),
  (1, 31, 0, 0, 0, 0, 4, []),
  (4, 2, 0, 0, 0, 0, 5, []),
  (5, 22, 5, 0, 0, 0, 8, []),
  (8, 7, 0, 0, 0, 0, 9, []),
  (9, 32, 5, 1, 1, 0, 12, []),
  (12, 21, 4, 0, 5, 0, 15, []),
  (15, 35, 0, 0, 0, 0, 16, [])]
/-- 5: java/util/ArrayList.<init>()V -/
def am_i5 : List (Nat × am_I) := [(0, 2, 0, 0, 0, 0, 1, []),
  (1, 32, 6, 1, 1, 0, 4, []),
  (4, 2, 0, 0, 0, 0, 5, []),
  (5, 43, 0, 0, 0, 0, 8, []),
  (8, 21, 5, 0, 1, 0, 11, []),
  (11, 35, 0, 0, 0, 0, 12, [])]
/-- 6: java/util/AbstractList.<init>()V -/
def am_i6 : List (Nat × am_I) := [(0, 2, 0, 0, 0, 0, 1, []),
  (1, 32, 7, 1, 1, 0, 4, []),
  (4, 2, 0, 0, 0, 0, 5, []),
  (5, 0, 0, 0, 0, 0, 6, []),
  (6, 21, 5, 2, 0, 0, 9, []),
  (9, 35, 0, 0, 0, 0, 10, [])]
/-- 7: java/util/AbstractCollection.<init>()V -/
def am_i7 : List (Nat × am_I) := [(0, 2, 0, 0, 0, 0, 1, []),
  (1, 31, 0, 0, 0, 0, 4, []),
  (4, 35, 0, 0, 0, 0, 5, [])]
/-- 8: ChunkCode$Reader.<init>(LChunkCode$Words;LChunkCode$Faults;LChunkCode$Bodies;)V -/
def am_i8 : List (Nat × am_I) := [(0, 2, 0, 0, 0, 0, 1, []),
  (1, 31, 0, 0, 0, 0, 4, []),
  (4, 2, 0, 0, 0, 0, 5, []),
  (5, 22, 3, 0, 0, 0, 8, []),
  (8, 7, 0, 0, 0, 0, 9, []),
  (9, 32, 3, 1, 1, 0, 12, []),
  (12, 21, 6, 3, 5, 0, 15, []),
  (15, 2, 0, 0, 0, 0, 16, []),
  (16, 22, 3, 0, 0, 0, 19, []),
  (19, 7, 0, 0, 0, 0, 20, []),
  (20, 32, 3, 1, 1, 0, 23, []),
  (23, 21, 6, 4, 5, 0, 26, []),
  (26, 2, 0, 0, 0, 0, 27, []),
  (27, 2, 1, 0, 0, 0, 28, []),
  (28, 21, 6, 0, 5, 0, 31, []),
  (31, 2, 0, 0, 0, 0, 32, []),
  (32, 2, 2, 0, 0, 0, 33, []),
  (33, 21, 6, 1, 5, 0, 36, []),
  (36, 2, 0, 0, 0, 0, 37, []),
  (37, 22, 7, 0, 0, 0, 40, []),
  (40, 7, 0, 0, 0, 0, 41, []),
  (41, 2, 2, 0, 0, 0, 42, []),
  (42, 2, 3, 0, 0, 0, 43, []),
  (43, 32, 9, 3, 1, 0, 46, []),
  (46, 21, 6, 2, 5, 0, 49, []),
  (49, 35, 0, 0, 0, 0, 50, [])]
/-- 9: ChunkCode$Scope.<init>(LChunkCode$Faults;LChunkCode$Bodies;)V -/
def am_i9 : List (Nat × am_I) := [(0, 2, 0, 0, 0, 0, 1, []),
  (1, 31, 0, 0, 0, 0, 4, []),
  (4, 2, 0, 0, 0, 0, 5, []),
  (5, 22, 5, 0, 0, 0, 8, []),
  (8, 7, 0, 0, 0, 0, 9, []),
  (9, 32, 5, 1, 1, 0, 12, []),
  (12, 21, 7, 3, 5, 0, 15, []),
  (15, 2, 0, 0, 0, 0, 16, []),
  (16, 22, 3, 0, 0, 0, 19, []),
  (19, 7, 0, 0, 0, 0, 20, []),
  (20, 32, 3, 1, 1, 0, 23, []),
  (23, 21, 7, 4, 5, 0, 26, []),
  (26, 2, 0, 0, 0, 0, 27, []),
  (27, 22, 3, 0, 0, 0, 30, []),
  (30, 7, 0, 0, 0, 0, 31, []),
  (31, 32, 3, 1, 1, 0, 34, []),
  (34, 21, 7, 5, 5, 0, 37, []),
  (37, 2, 0, 0, 0, 0, 38, []),
  (38, 22, 8, 0, 0, 0, 41, []),
  (41, 7, 0, 0, 0, 0, 42, []),
  (42, 32, 10, 1, 1, 0, 45, []),
  (45, 21, 7, 6, 1, 0, 48, []),
  (48, 2, 0, 0, 0, 0, 49, []),
  (49, 2, 1, 0, 0, 0, 50, []),
  (50, 21, 7, 1, 5, 0, 53, []),
  (53, 2, 0, 0, 0, 0, 54, []),
  (54, 2, 2, 0, 0, 0, 55, []),
  (55, 21, 7, 2, 5, 0, 58, []),
  (58, 2, 0, 0, 0, 0, 59, []),
  (59, 22, 9, 0, 0, 0, 62, []),
  (62, 7, 0, 0, 0, 0, 63, []),
  (63, 2, 1, 0, 0, 0, 64, []),
  (64, 32, 11, 2, 1, 0, 67, []),
  (67, 21, 7, 0, 5, 0, 70, []),
  (70, 35, 0, 0, 0, 0, 71, [])]
/-- 10: ChunkCode$Body.<init>()V -/
def am_i10 : List (Nat × am_I) := [(0, 2, 0, 0, 0, 0, 1, []),
  (1, 31, 0, 0, 0, 0, 4, []),
  (4, 2, 0, 0, 0, 0, 5, []),
  (5, 22, 3, 0, 0, 0, 8, []),
  (8, 7, 0, 0, 0, 0, 9, []),
  (9, 32, 3, 1, 1, 0, 12, []),
  (12, 21, 8, 0, 5, 0, 15, []),
  (15, 2, 0, 0, 0, 0, 16, []),
  (16, 22, 3, 0, 0, 0, 19, []),
  (19, 7, 0, 0, 0, 0, 20, []),
  (20, 32, 3, 1, 1, 0, 23, []),
  (23, 21, 8, 1, 5, 0, 26, []),
  (26, 35, 0, 0, 0, 0, 27, [])]
/-- 11: ChunkCode$Jumps.<init>(LChunkCode$Faults;)V -/
def am_i11 : List (Nat × am_I) := [(0, 2, 0, 0, 0, 0, 1, []),
  (1, 31, 0, 0, 0, 0, 4, []),
  (4, 2, 0, 0, 0, 0, 5, []),
  (5, 22, 3, 0, 0, 0, 8, []),
  (8, 7, 0, 0, 0, 0, 9, []),
  (9, 32, 3, 1, 1, 0, 12, []),
  (12, 21, 9, 1, 5, 0, 15, []),
  (15, 2, 0, 0, 0, 0, 16, []),
  (16, 22, 3, 0, 0, 0, 19, []),
  (19, 7, 0, 0, 0, 0, 20, []),
  (20, 32, 3, 1, 1, 0, 23, []),
  (23, 21, 9, 2, 5, 0, 26, []),
  (26, 2, 0, 0, 0, 0, 27, []),
  (27, 22, 3, 0, 0, 0, 30, []),
  (30, 7, 0, 0, 0, 0, 31, []),
  (31, 32, 3, 1, 1, 0, 34, []),
  (34, 21, 9, 3, 5, 0, 37, []),
  (37, 2, 0, 0, 0, 0, 38, []),
  (38, 22, 3, 0, 0, 0, 41, []),
  (41, 7, 0, 0, 0, 0, 42, []),
  (42, 32, 3, 1, 1, 0, 45, []),
  (45, 21, 9, 4, 5, 0, 48, []),
  (48, 2, 0, 0, 0, 0, 49, []),
  (49, 2, 1, 0, 0, 0, 50, []),
  (50, 21, 9, 0, 5, 0, 53, []),
  (53, 35, 0, 0, 0, 0, 54, [])]
/-- 12: ChunkCode$Audit.<init>(LChunkCode$Bodies;)V -/
def am_i12 : List (Nat × am_I) := [(0, 2, 0, 0, 0, 0, 1, []),
  (1, 31, 0, 0, 0, 0, 4, []),
  (4, 2, 0, 0, 0, 0, 5, []),
  (5, 2, 1, 0, 0, 0, 6, []),
  (6, 21, 10, 0, 5, 0, 9, []),
  (9, 35, 0, 0, 0, 0, 10, [])]
/-- 13: ChunkCode$Bodies.add()LChunkCode$Body; -/
def am_i13 : List (Nat × am_I) := [(0, 2, 0, 0, 0, 0, 1, []),
  (1, 20, 4, 1, 0, 0, 4, []),
  (4, 2, 0, 0, 0, 0, 5, []),
  (5, 20, 4, 0, 0, 0, 8, []),
  (8, 32, 14, 1, 7, 0, 11, []),
  (11, 13, 2, 29, 0, 0, 14, []),
  (14, 2, 0, 0, 0, 0, 15, []),
  (15, 20, 4, 0, 0, 0, 18, []),
  (18, 22, 8, 0, 0, 0, 21, []),
  (21, 7, 0, 0, 0, 0, 22, []),
  (22, 32, 10, 1, 1, 0, 25, []),
  (25, 32, 15, 2, 7, 0, 28, []),
  (28, 6, 0, 0, 0, 0, 29, []),
  (29, 2, 0, 0, 0, 0, 30, []),
  (30, 20, 4, 0, 0, 0, 33, []),
  (33, 2, 0, 0, 0, 0, 34, []),
  (34, 20, 4, 1, 0, 0, 37, []),
  (37, 32, 25, 2, 7, 0, 40, []),
  (40, 30, 8, 0, 0, 0, 43, []),
  (43, 4, 1, 0, 0, 0, 44, []),
  (44, 2, 1, 0, 0, 0, 45, []),
  (45, 2, 0, 0, 0, 0, 46, []),
  (46, 20, 4, 1, 0, 0, 49, []),
  (49, 32, 29, 2, 10, 0, 52, []),
  (52, 2, 0, 0, 0, 0, 53, []),
  (53, 7, 0, 0, 0, 0, 54, []),
  (54, 20, 4, 1, 0, 0, 57, []),
  (57, 0, 0, 0, 0, 1, 58, []),
  (58, 10, 0, 0, 0, 0, 59, []),
  (59, 21, 4, 1, 0, 0, 62, []),
  (62, 2, 1, 0, 0, 0, 63, []),
  (63, 34, 0, 0, 0, 0, 64, [])]
/-- 14: java/util/ArrayList.size()I -/
def am_i14 : List (Nat × am_I) := [(0, 2, 0, 0, 0, 0, 1, []),
  (1, 20, 5, 1, 0, 0, 4, []),
  (4, 33, 0, 0, 0, 0, 5, [])]
/-- 15: java/util/ArrayList.add(Ljava/lang/Object;)Z -/
def am_i15 : List (Nat × am_I) := [(0, 2, 0, 0, 0, 0, 1, []),
  (1, 7, 0, 0, 0, 0, 2, []),
  (2, 20, 5, 2, 0, 0, 5, []),
  (5, 0, 0, 0, 0, 1, 6, []),
  (6, 10, 0, 0, 0, 0, 7, []),
  (7, 21, 5, 2, 0, 0, 10, []),
  (10, 2, 0, 0, 0, 0, 11, []),
  (11, 2, 1, 0, 0, 0, 12, []),
  (12, 2, 0, 0, 0, 0, 13, []),
  (13, 20, 5, 0, 0, 0, 16, []),
  (16, 2, 0, 0, 0, 0, 17, []),
  (17, 20, 5, 1, 0, 0, 20, []),
  (20, 32, 16, 4, 7, 0, 23, []),
  (23, 0, 0, 0, 0, 1, 24, []),
  (24, 36, 0, 0, 0, 0, 25, [])]
/-- 16: java/util/ArrayList.add(Ljava/lang/Object;[Ljava/lang/Object;I)V -/
def am_i16 : List (Nat × am_I) := [(0, 1, 3, 0, 0, 0, 1, []),
  (1, 2, 2, 0, 0, 0, 2, []),
  (2, 24, 0, 0, 0, 0, 3, []),
  (3, 13, 1, 11, 0, 0, 6, []),
  (6, 2, 0, 0, 0, 0, 7, []),
  (7, 32, 17, 1, 7, 0, 10, []),
  (10, 4, 2, 0, 0, 0, 11, []),
  (11, 2, 2, 0, 0, 0, 12, []),
  (12, 1, 3, 0, 0, 0, 13, []),
  (13, 2, 1, 0, 0, 0, 14, []),
  (14, 40, 8, 0, 0, 0, 15, []),
  (15, 2, 0, 0, 0, 0, 16, []),
  (16, 1, 3, 0, 0, 0, 17, []),
  (17, 0, 0, 0, 0, 1, 18, []),
  (18, 10, 0, 0, 0, 0, 19, []),
  (19, 21, 5, 1, 0, 0, 22, []),
  (22, 35, 0, 0, 0, 0, 23, [])]
/-- 17: java/util/ArrayList.grow()[Ljava/lang/Object; -/
def am_i17 : List (Nat × am_I) := [(0, 2, 0, 0, 0, 0, 1, []),
  (1, 2, 0, 0, 0, 0, 2, []),
  (2, 20, 5, 1, 0, 0, 5, []),
  (5, 0, 0, 0, 0, 1, 6, []),
  (6, 10, 0, 0, 0, 0, 7, []),
  (7, 32, 18, 2, 7, 0, 10, []),
  (10, 34, 0, 0, 0, 0, 11, [])]
/-- 18: java/util/ArrayList.grow(I)[Ljava/lang/Object; -/
def am_i18 : List (Nat × am_I) := [(0, 2, 0, 0, 0, 0, 1, []),
  (1, 20, 5, 0, 0, 0, 4, []),
  (4, 24, 0, 0, 0, 0, 5, []),
  (5, 3, 2, 0, 0, 0, 6, []),
  (6, 1, 2, 0, 0, 0, 7, []),
  (7, 12, 4, 20, 0, 0, 10, []),
  (10, 2, 0, 0, 0, 0, 11, []),
  (11, 20, 5, 0, 0, 0, 14, []),
  (14, 43, 0, 0, 0, 0, 17, []),
  (17, 16, 0, 45, 0, 0, 20, []),
  (20, 1, 2, 0, 0, 0, 21, []),
  (21, 1, 1, 0, 0, 0, 22, []),
  (22, 1, 2, 0, 0, 0, 23, []),
  (23, 10, 1, 0, 0, 0, 24, []),
  (24, 1, 2, 0, 0, 0, 25, []),
  (25, 0, 0, 0, 0, 1, 26, []),
  (26, 10, 5, 0, 0, 0, 27, []),
  (27, 32, 19, 3, 0, 0, 30, []),
  (30, 3, 3, 0, 0, 0, 31, []),
  (31, 2, 0, 0, 0, 0, 32, []),
  (32, 2, 0, 0, 0, 0, 33, []),
  (33, 20, 5, 0, 0, 0, 36, []),
  (36, 1, 3, 0, 0, 0, 37, []),
  (37, 32, 22, 2, 0, 0, 40, []),
  (40, 9, 0, 0, 0, 0, 41, []),
  (41, 21, 5, 0, 1, 0, 44, []),
  (44, 34, 0, 0, 0, 0, 45, []),
  (45, 2, 0, 0, 0, 0, 46, []),
  (46, 0, 0, 0, 0, 10, 48, []),
  (48, 1, 1, 0, 0, 0, 49, []),
  (49, 32, 20, 2, 0, 0, 52, []),
  (52, 38, 0, 0, 0, 0, 55, []),
  (55, 9, 0, 0, 0, 0, 56, []),
  (56, 21, 5, 0, 1, 0, 59, []),
  (59, 34, 0, 0, 0, 0, 60, [])]
/-- 19: jdk/internal/util/ArraysSupport.newLength(III)I -/
def am_i19 : List (Nat × am_I) := [(0, 1, 0, 0, 0, 0, 1, []),
  (1, 1, 1, 0, 0, 0, 2, []),
  (2, 1, 2, 0, 0, 0, 3, []),
  (3, 32, 20, 2, 0, 0, 6, []),
  (6, 10, 0, 0, 0, 0, 7, []),
  (7, 3, 3, 0, 0, 0, 8, []),
  (8, 0, 0, 0, 0, 0, 9, []),
  (9, 1, 3, 0, 0, 0, 10, []),
  (10, 13, 3, 21, 0, 0, 13, []),
  (13, 1, 3, 0, 0, 0, 14, []),
  (14, 0, 0, 0, 0, 2147483639, 16, []),
  (16, 13, 4, 21, 0, 0, 19, []),
  (19, 1, 3, 0, 0, 0, 20, []),
  (20, 33, 0, 0, 0, 0, 21, []),
  (21, 1, 0, 0, 0, 0, 22, []),
  (22, 1, 1, 0, 0, 0, 23, []),
  (23, 32, 21, 2, 0, 0, 26, []),
  (26, 33, 0, 0, 0, 0, 27, [])]
/-- 20: java/lang/Math.max(II)I -/
def am_i20 : List (Nat × am_I) := [(0, 1, 0, 0, 0, 0, 1, []),
  (1, 1, 1, 0, 0, 0, 2, []),
  (2, 13, 2, 9, 0, 0, 5, []),
  (5, 1, 0, 0, 0, 0, 6, []),
  (6, 18, 0, 10, 0, 0, 9, []),
  (9, 1, 1, 0, 0, 0, 10, []),
  (10, 33, 0, 0, 0, 0, 11, [])]
/-- 21: jdk/internal/util/ArraysSupport.hugeLength(II)I -/
def am_i21 : List (Nat × am_I) := [(0, 1, 0, 0, 0, 0, 1, []),
  (1, 1, 1, 0, 0, 0, 2, []),
  (2, 10, 0, 0, 0, 0, 3, []),
  (3, 3, 2, 0, 0, 0, 4, []),
  (4, 1, 2, 0, 0, 0, 5, []),
  (5, 12, 3, 49, 0, 0, 8, []),
  (11, 7, 0, 0, 0, 0, 12, []),
  (15, 7, 0, 0, 0, 0, 16, []),
  (24, 1, 0, 0, 0, 0, 25, []),
  (33, 1, 1, 0, 0, 0, 34, []),
  (49, 1, 2, 0, 0, 0, 50, []),
  (50, 0, 0, 0, 0, 2147483639, 52, []),
  (52, 13, 4, 58, 0, 0, 55, []),
  (55, 0, 0, 0, 0, 2147483639, 57, []),
  (57, 33, 0, 0, 0, 0, 58, []),
  (58, 1, 2, 0, 0, 0, 59, []),
  (59, 33, 0, 0, 0, 0, 60, [])]
/-- 22: java/util/Arrays.copyOf([Ljava/lang/Object;I)[Ljava/lang/Object; -/
def am_i22 : List (Nat × am_I) := [(0, 2, 0, 0, 0, 0, 1, []),
  (1, 1, 1, 0, 0, 0, 2, []),
  (2, 2, 0, 0, 0, 0, 3, []),
  (3, 44, 0, 0, 0, 0, 6, []),
  (6, 32, 23, 3, 0, 0, 9, []),
  (9, 34, 0, 0, 0, 0, 10, [])]
/-- 23: java/util/Arrays.copyOf([Ljava/lang/Object;ILjava/lang/Class;)[Ljava/lang/Object; -/
def am_i23 : List (Nat × am_I) := [(0, 2, 2, 0, 0, 0, 1, []),
  (1, 45, 0, 0, 0, 0, 3, []),
  (3, 17, 0, 13, 0, 0, 6, []),
  (6, 1, 1, 0, 0, 0, 7, []),
  (7, 38, 0, 0, 0, 0, 10, []),
  (10, 18, 0, 24, 0, 0, 13, []),
  (13, 2, 2, 0, 0, 0, 14, []),
  (17, 1, 1, 0, 0, 0, 18, []),
  (24, 4, 3, 0, 0, 0, 25, []),
  (25, 2, 0, 0, 0, 0, 26, []),
  (26, 0, 0, 0, 0, 0, 27, []),
  (27, 2, 3, 0, 0, 0, 28, []),
  (28, 0, 0, 0, 0, 0, 29, []),
  (29, 2, 0, 0, 0, 0, 30, []),
  (30, 24, 0, 0, 0, 0, 31, []),
  (31, 1, 1, 0, 0, 0, 32, []),
  (32, 32, 24, 2, 0, 0, 35, []),
  (35, 42, 8, 0, 0, 0, 38, []),
  (38, 2, 3, 0, 0, 0, 39, []),
  (39, 34, 0, 0, 0, 0, 40, [])]
/-- 24: java/lang/Math.min(II)I -/
def am_i24 : List (Nat × am_I) := [(0, 1, 0, 0, 0, 0, 1, []),
  (1, 1, 1, 0, 0, 0, 2, []),
  (2, 13, 4, 9, 0, 0, 5, []),
  (5, 1, 0, 0, 0, 0, 6, []),
  (6, 18, 0, 10, 0, 0, 9, []),
  (9, 1, 1, 0, 0, 0, 10, []),
  (10, 33, 0, 0, 0, 0, 11, [])]
/-- 25: java/util/ArrayList.get(I)Ljava/lang/Object; -/
def am_i25 : List (Nat × am_I) := [(0, 1, 1, 0, 0, 0, 1, []),
  (1, 2, 0, 0, 0, 0, 2, []),
  (2, 20, 5, 1, 0, 0, 5, []),
  (5, 32, 26, 2, 0, 0, 8, []),
  (8, 6, 0, 0, 0, 0, 9, []),
  (9, 2, 0, 0, 0, 0, 10, []),
  (10, 1, 1, 0, 0, 0, 11, []),
  (11, 32, 28, 2, 7, 0, 14, []),
  (14, 34, 0, 0, 0, 0, 15, [])]
/-- 26: java/util/Objects.checkIndex(II)I -/
def am_i26 : List (Nat × am_I) := [(0, 1, 0, 0, 0, 0, 1, []),
  (1, 1, 1, 0, 0, 0, 2, []),
  (2, 29, 0, 0, 0, 0, 3, []),
  (3, 32, 27, 3, 0, 0, 6, []),
  (6, 33, 0, 0, 0, 0, 7, [])]
/-- 27: jdk/internal/util/Preconditions.checkIndex(IILjava/util/function/BiFunction;)I -/
def am_i27 : List (Nat × am_I) := [(0, 1, 0, 0, 0, 0, 1, []),
  (1, 12, 2, 9, 0, 0, 4, []),
  (4, 1, 0, 0, 0, 0, 5, []),
  (5, 1, 1, 0, 0, 0, 6, []),
  (6, 13, 2, 16, 0, 0, 9, []),
  (9, 2, 2, 0, 0, 0, 10, []),
  (10, 1, 0, 0, 0, 0, 11, []),
  (11, 1, 1, 0, 0, 0, 12, []),
  (16, 1, 0, 0, 0, 0, 17, []),
  (17, 33, 0, 0, 0, 0, 18, [])]
/-- 28: java/util/ArrayList.elementData(I)Ljava/lang/Object; -/
def am_i28 : List (Nat × am_I) := [(0, 2, 0, 0, 0, 0, 1, []),
  (1, 20, 5, 0, 0, 0, 4, []),
  (4, 1, 1, 0, 0, 0, 5, []),
  (5, 39, 0, 0, 0, 0, 6, []),
  (6, 34, 0, 0, 0, 0, 7, [])]
/-- 29: ChunkCode$Body.reset(I)V -/
def am_i29 : List (Nat × am_I) := [(0, 2, 0, 0, 0, 0, 1, []),
  (1, 1, 1, 0, 0, 0, 2, []),
  (2, 21, 8, 2, 0, 0, 5, []),
  (5, 2, 0, 0, 0, 0, 6, []),
  (6, 0, 0, 0, 0, (-1), 7, []),
  (7, 21, 8, 3, 0, 0, 10, []),
  (10, 2, 0, 0, 0, 0, 11, []),
  (11, 0, 0, 0, 0, (-1), 12, []),
  (12, 21, 8, 8, 0, 0, 15, []),
  (15, 2, 0, 0, 0, 0, 16, []),
  (16, 0, 0, 0, 0, 0, 17, []),
  (17, 21, 8, 4, 0, 0, 20, []),
  (20, 2, 0, 0, 0, 0, 21, []),
  (21, 0, 0, 0, 0, 0, 22, []),
  (22, 21, 8, 5, 0, 0, 25, []),
  (25, 2, 0, 0, 0, 0, 26, []),
  (26, 0, 0, 0, 0, 0, 27, []),
  (27, 21, 8, 6, 0, 0, 30, []),
  (30, 2, 0, 0, 0, 0, 31, []),
  (31, 0, 0, 0, 0, 0, 32, []),
  (32, 21, 8, 7, 0, 0, 35, []),
  (35, 2, 0, 0, 0, 0, 36, []),
  (36, 0, 0, 0, 0, 0, 37, []),
  (37, 21, 8, 9, 0, 0, 40, []),
  (40, 2, 0, 0, 0, 0, 41, []),
  (41, 0, 0, 0, 0, 0, 42, []),
  (42, 21, 8, 10, 0, 0, 45, []),
  (45, 2, 0, 0, 0, 0, 46, []),
  (46, 0, 0, 0, 0, 0, 47, []),
  (47, 21, 8, 11, 0, 0, 50, []),
  (50, 2, 0, 0, 0, 0, 51, []),
  (51, 0, 0, 0, 0, 0, 52, []),
  (52, 21, 8, 12, 0, 0, 55, []),
  (55, 2, 0, 0, 0, 0, 56, []),
  (56, 20, 8, 0, 0, 0, 59, []),
  (59, 0, 0, 0, 0, 0, 60, []),
  (60, 32, 30, 2, 5, 0, 63, []),
  (63, 2, 0, 0, 0, 0, 64, []),
  (64, 20, 8, 1, 0, 0, 67, []),
  (67, 0, 0, 0, 0, 0, 68, []),
  (68, 32, 30, 2, 5, 0, 71, []),
  (71, 35, 0, 0, 0, 0, 72, [])]
/-- 30: ChunkCode$Table.cut(I)V -/
def am_i30 : List (Nat × am_I) := [(0, 1, 1, 0, 0, 0, 1, []),
  (1, 12, 2, 17, 0, 0, 4, []),
  (4, 1, 1, 0, 0, 0, 5, []),
  (5, 2, 0, 0, 0, 0, 6, []),
  (6, 20, 3, 1, 0, 0, 9, []),
  (9, 13, 3, 17, 0, 0, 12, []),
  (12, 2, 0, 0, 0, 0, 13, []),
  (13, 1, 1, 0, 0, 0, 14, []),
  (14, 21, 3, 1, 0, 0, 17, []),
  (17, 35, 0, 0, 0, 0, 18, [])]
/-- 31: ChunkCode$Table.add(IIII)I -/
def am_i31 : List (Nat × am_I) := [(0, 2, 0, 0, 0, 0, 1, []),
  (1, 20, 3, 1, 0, 0, 4, []),
  (4, 0, 0, 0, 0, 4, 5, []),
  (5, 10, 2, 0, 0, 0, 6, []),
  (6, 3, 5, 0, 0, 0, 8, []),
  (8, 1, 5, 0, 0, 0, 10, []),
  (10, 0, 0, 0, 0, 4, 11, []),
  (11, 10, 0, 0, 0, 0, 12, []),
  (12, 2, 0, 0, 0, 0, 13, []),
  (13, 20, 3, 0, 0, 0, 16, []),
  (16, 24, 0, 0, 0, 0, 17, []),
  (17, 13, 5, 52, 0, 0, 20, []),
  (20, 2, 0, 0, 0, 0, 21, []),
  (21, 20, 3, 1, 0, 0, 24, []),
  (24, 0, 0, 0, 0, 1048576, 26, []),
  (26, 13, 2, 34, 0, 0, 29, []),
  (29, 2, 0, 0, 0, 0, 30, []),
  (30, 20, 3, 1, 0, 0, 33, []),
  (33, 33, 0, 0, 0, 0, 34, []),
  (34, 2, 0, 0, 0, 0, 35, []),
  (35, 2, 0, 0, 0, 0, 36, []),
  (36, 20, 3, 0, 0, 0, 39, []),
  (39, 2, 0, 0, 0, 0, 40, []),
  (40, 20, 3, 0, 0, 0, 43, []),
  (43, 24, 0, 0, 0, 0, 44, []),
  (44, 0, 0, 0, 0, 2, 45, []),
  (45, 10, 2, 0, 0, 0, 46, []),
  (46, 32, 32, 2, 0, 0, 49, []),
  (49, 21, 3, 0, 1, 0, 52, []),
  (52, 2, 0, 0, 0, 0, 53, []),
  (53, 20, 3, 0, 0, 0, 56, []),
  (56, 1, 5, 0, 0, 0, 58, []),
  (58, 1, 1, 0, 0, 0, 59, []),
  (59, 26, 0, 0, 0, 0, 60, []),
  (60, 2, 0, 0, 0, 0, 61, []),
  (61, 20, 3, 0, 0, 0, 64, []),
  (64, 1, 5, 0, 0, 0, 66, []),
  (66, 0, 0, 0, 0, 1, 67, []),
  (67, 10, 0, 0, 0, 0, 68, []),
  (68, 1, 2, 0, 0, 0, 69, []),
  (69, 26, 0, 0, 0, 0, 70, []),
  (70, 2, 0, 0, 0, 0, 71, []),
  (71, 20, 3, 0, 0, 0, 74, []),
  (74, 1, 5, 0, 0, 0, 76, []),
  (76, 0, 0, 0, 0, 2, 77, []),
  (77, 10, 0, 0, 0, 0, 78, []),
  (78, 1, 3, 0, 0, 0, 79, []),
  (79, 26, 0, 0, 0, 0, 80, []),
  (80, 2, 0, 0, 0, 0, 81, []),
  (81, 20, 3, 0, 0, 0, 84, []),
  (84, 1, 5, 0, 0, 0, 86, []),
  (86, 0, 0, 0, 0, 3, 87, []),
  (87, 10, 0, 0, 0, 0, 88, []),
  (88, 1, 4, 0, 0, 0, 90, []),
  (90, 26, 0, 0, 0, 0, 91, []),
  (91, 2, 0, 0, 0, 0, 92, []),
  (92, 7, 0, 0, 0, 0, 93, []),
  (93, 20, 3, 1, 0, 0, 96, []),
  (96, 0, 0, 0, 0, 1, 97, []),
  (97, 10, 0, 0, 0, 0, 98, []),
  (98, 21, 3, 1, 0, 0, 101, []),
  (101, 2, 0, 0, 0, 0, 102, []),
  (102, 20, 3, 1, 0, 0, 105, []),
  (105, 0, 0, 0, 0, 1, 106, []),
  (106, 10, 1, 0, 0, 0, 107, []),
  (107, 33, 0, 0, 0, 0, 108, [])]
/-- 32: java/util/Arrays.copyOf([II)[I -/
def am_i32 : List (Nat × am_I) := [(0, 1, 1, 0, 0, 0, 1, []),
  (1, 2, 0, 0, 0, 0, 2, []),
  (2, 24, 0, 0, 0, 0, 3, []),
  (3, 13, 1, 14, 0, 0, 6, []),
  (6, 2, 0, 0, 0, 0, 7, []),
  (13, 34, 0, 0, 0, 0, 14, []),
  (14, 1, 1, 0, 0, 0, 15, []),
  (15, 23, 0, 0, 0, 0, 17, []),
  (17, 4, 2, 0, 0, 0, 18, []),
  (18, 2, 0, 0, 0, 0, 19, []),
  (19, 0, 0, 0, 0, 0, 20, []),
  (20, 2, 2, 0, 0, 0, 21, []),
  (21, 0, 0, 0, 0, 0, 22, []),
  (22, 2, 0, 0, 0, 0, 23, []),
  (23, 24, 0, 0, 0, 0, 24, []),
  (24, 1, 1, 0, 0, 0, 25, []),
  (25, 32, 24, 2, 0, 0, 28, []),
  (28, 41, 0, 0, 0, 0, 31, []),
  (31, 2, 2, 0, 0, 0, 32, []),
  (32, 34, 0, 0, 0, 0, 33, [])]
/-- 33: ChunkCode.word(II)I -/
def am_i33 : List (Nat × am_I) := [(0, 1, 1, 0, 0, 0, 1, []),
  (1, 32, 34, 1, 0, 0, 4, []),
  (4, 12, 1, 9, 0, 0, 7, []),
  (7, 0, 0, 0, 0, (-1), 8, []),
  (8, 33, 0, 0, 0, 0, 9, []),
  (9, 2, 0, 0, 0, 0, 10, []),
  (10, 20, 0, 1, 0, 0, 13, []),
  (13, 32, 35, 1, 4, 0, 16, []),
  (16, 0, 0, 0, 0, 16384, 19, []),
  (19, 13, 2, 25, 0, 0, 22, []),
  (22, 0, 0, 0, 0, (-3), 24, []),
  (24, 33, 0, 0, 0, 0, 25, []),
  (25, 2, 0, 0, 0, 0, 26, []),
  (26, 20, 0, 1, 0, 0, 29, []),
  (29, 1, 1, 0, 0, 0, 30, []),
  (30, 1, 2, 0, 0, 0, 31, []),
  (31, 32, 37, 3, 4, 0, 34, []),
  (34, 33, 0, 0, 0, 0, 35, [])]
/-- 34: ChunkCode$Kind.isKnown(I)Z -/
def am_i34 : List (Nat × am_I) := [(0, 1, 0, 0, 0, 0, 1, []),
  (1, 0, 0, 0, 0, 1, 2, []),
  (2, 13, 2, 10, 0, 0, 5, []),
  (5, 1, 0, 0, 0, 0, 6, []),
  (6, 0, 0, 0, 0, 3, 7, []),
  (7, 13, 5, 34, 0, 0, 10, []),
  (10, 1, 0, 0, 0, 0, 11, []),
  (11, 0, 0, 0, 0, 10, 13, []),
  (13, 13, 2, 22, 0, 0, 16, []),
  (16, 1, 0, 0, 0, 0, 17, []),
  (17, 0, 0, 0, 0, 31, 19, []),
  (19, 13, 5, 34, 0, 0, 22, []),
  (22, 1, 0, 0, 0, 0, 23, []),
  (23, 0, 0, 0, 0, 40, 25, []),
  (25, 13, 2, 38, 0, 0, 28, []),
  (28, 1, 0, 0, 0, 0, 29, []),
  (29, 0, 0, 0, 0, 72, 31, []),
  (31, 13, 4, 38, 0, 0, 34, []),
  (34, 0, 0, 0, 0, 1, 35, []),
  (35, 18, 0, 39, 0, 0, 38, []),
  (38, 0, 0, 0, 0, 0, 39, []),
  (39, 36, 0, 0, 0, 0, 40, [])]
/-- 35: ChunkCode$Words.count()I -/
def am_i35 : List (Nat × am_I) := [(0, 2, 0, 0, 0, 0, 1, []),
  (1, 20, 2, 1, 0, 0, 4, []),
  (4, 32, 36, 1, 5, 0, 7, []),
  (7, 33, 0, 0, 0, 0, 8, [])]
/-- 36: ChunkCode$Table.rows()I -/
def am_i36 : List (Nat × am_I) := [(0, 2, 0, 0, 0, 0, 1, []),
  (1, 20, 3, 1, 0, 0, 4, []),
  (4, 33, 0, 0, 0, 0, 5, [])]
/-- 37: ChunkCode$Words.add(II)I -/
def am_i37 : List (Nat × am_I) := [(0, 2, 0, 0, 0, 0, 1, []),
  (1, 20, 2, 1, 0, 0, 4, []),
  (4, 1, 1, 0, 0, 0, 5, []),
  (5, 1, 2, 0, 0, 0, 6, []),
  (6, 0, 0, 0, 0, 0, 7, []),
  (7, 0, 0, 0, 0, 0, 8, []),
  (8, 32, 31, 5, 5, 0, 11, []),
  (11, 6, 0, 0, 0, 0, 12, []),
  (12, 2, 0, 0, 0, 0, 13, []),
  (13, 20, 2, 1, 0, 0, 16, []),
  (16, 32, 36, 1, 5, 0, 19, []),
  (19, 33, 0, 0, 0, 0, 20, [])]
/-- 38: ChunkCode.compile()I -/
def am_i38 : List (Nat × am_I) := [(0, 2, 0, 0, 0, 0, 1, []),
  (1, 20, 0, 0, 0, 0, 4, []),
  (4, 32, 39, 1, 3, 0, 7, []),
  (7, 2, 0, 0, 0, 0, 8, []),
  (8, 20, 0, 2, 0, 0, 11, []),
  (11, 32, 40, 1, 6, 0, 14, []),
  (14, 2, 0, 0, 0, 0, 15, []),
  (15, 20, 0, 3, 0, 0, 18, []),
  (18, 32, 41, 1, 8, 0, 21, []),
  (21, 18, 0, 32, 0, 0, 24, []),
  (24, 4, 1, 0, 0, 0, 25, []),
  (25, 2, 0, 0, 0, 0, 26, []),
  (26, 20, 0, 2, 0, 0, 29, []),
  (29, 32, 40, 1, 6, 0, 32, []),
  (32, 2, 0, 0, 0, 0, 33, []),
  (33, 20, 0, 0, 0, 0, 36, []),
  (36, 32, 152, 1, 3, 0, 39, []),
  (39, 3, 1, 0, 0, 0, 40, []),
  (40, 2, 0, 0, 0, 0, 41, []),
  (41, 1, 1, 0, 0, 0, 42, []),
  (42, 12, 1, 55, 0, 0, 45, []),
  (45, 2, 0, 0, 0, 0, 46, []),
  (46, 20, 0, 1, 0, 0, 49, []),
  (49, 32, 35, 1, 4, 0, 52, []),
  (52, 18, 0, 62, 0, 0, 55, []),
  (55, 2, 0, 0, 0, 0, 56, []),
  (56, 20, 0, 0, 0, 0, 59, []),
  (59, 32, 153, 1, 3, 0, 62, []),
  (62, 21, 0, 5, 0, 0, 65, []),
  (65, 2, 0, 0, 0, 0, 66, []),
  (66, 20, 0, 1, 0, 0, 69, []),
  (69, 32, 154, 1, 4, 0, 72, []),
  (72, 1, 1, 0, 0, 0, 73, []),
  (73, 12, 0, 86, 0, 0, 76, []),
  (76, 2, 0, 0, 0, 0, 77, []),
  (77, 20, 0, 2, 0, 0, 80, []),
  (80, 32, 40, 1, 6, 0, 83, []),
  (83, 1, 1, 0, 0, 0, 84, []),
  (84, 11, 0, 0, 0, 0, 85, []),
  (85, 33, 0, 0, 0, 0, 86, []),
  (86, 2, 0, 0, 0, 0, 87, []),
  (87, 20, 0, 2, 0, 0, 90, []),
  (90, 32, 155, 1, 6, 0, 93, []),
  (93, 33, 0, 0, 0, 0, 94, [])]
/-- 39: ChunkCode$Faults.clear()V -/
def am_i39 : List (Nat × am_I) := [(0, 2, 0, 0, 0, 0, 1, []),
  (1, 0, 0, 0, 0, 0, 2, []),
  (2, 21, 1, 0, 0, 0, 5, []),
  (5, 2, 0, 0, 0, 0, 6, []),
  (6, 0, 0, 0, 0, 0, 7, []),
  (7, 21, 1, 1, 0, 0, 10, []),
  (10, 35, 0, 0, 0, 0, 11, [])]
/-- 40: ChunkCode$Bodies.clear()V -/
def am_i40 : List (Nat × am_I) := [(0, 2, 0, 0, 0, 0, 1, []),
  (1, 0, 0, 0, 0, 0, 2, []),
  (2, 21, 4, 1, 0, 0, 5, []),
  (5, 35, 0, 0, 0, 0, 6, [])]
/-- 41: ChunkCode$Reader.chunk()V -/
def am_i41 : List (Nat × am_I) := [(0, 2, 0, 0, 0, 0, 1, []),
  (1, 20, 6, 0, 0, 0, 4, []),
  (4, 32, 42, 1, 4, 0, 7, []),
  (7, 2, 0, 0, 0, 0, 8, []),
  (8, 20, 6, 2, 0, 0, 11, []),
  (11, 32, 43, 1, 9, 0, 14, []),
  (14, 2, 0, 0, 0, 0, 15, []),
  (15, 20, 6, 3, 0, 0, 18, []),
  (18, 0, 0, 0, 0, 0, 19, []),
  (19, 32, 30, 2, 5, 0, 22, []),
  (22, 2, 0, 0, 0, 0, 23, []),
  (23, 20, 6, 4, 0, 0, 26, []),
  (26, 0, 0, 0, 0, 0, 27, []),
  (27, 32, 30, 2, 5, 0, 30, []),
  (30, 2, 0, 0, 0, 0, 31, []),
  (31, 20, 6, 2, 0, 0, 34, []),
  (34, 0, 0, 0, 0, (-1), 35, []),
  (35, 32, 46, 2, 9, 0, 38, []),
  (38, 4, 1, 0, 0, 0, 39, []),
  (39, 2, 1, 0, 0, 0, 40, []),
  (40, 0, 0, 0, 0, 1, 41, []),
  (41, 21, 8, 5, 0, 0, 44, []),
  (44, 2, 0, 0, 0, 0, 45, []),
  (45, 32, 52, 1, 8, 0, 48, []),
  (48, 2, 0, 0, 0, 0, 49, []),
  (49, 20, 6, 0, 0, 0, 52, []),
  (52, 0, 0, 0, 0, 0, 53, []),
  (53, 32, 65, 2, 4, 0, 56, []),
  (56, 2, 1, 0, 0, 0, 57, []),
  (57, 2, 0, 0, 0, 0, 58, []),
  (58, 20, 6, 0, 0, 0, 61, []),
  (61, 32, 35, 1, 4, 0, 64, []),
  (64, 21, 8, 6, 0, 0, 67, []),
  (67, 2, 0, 0, 0, 0, 68, []),
  (68, 0, 0, 0, 0, 45, 70, []),
  (70, 0, 0, 0, 0, 0, 71, []),
  (71, 0, 0, 0, 0, 0, 72, []),
  (72, 2, 0, 0, 0, 0, 73, []),
  (73, 20, 6, 0, 0, 0, 76, []),
  (76, 32, 35, 1, 4, 0, 79, []),
  (79, 32, 78, 5, 8, 0, 82, []),
  (82, 6, 0, 0, 0, 0, 83, []),
  (83, 2, 0, 0, 0, 0, 84, []),
  (84, 20, 6, 2, 0, 0, 87, []),
  (87, 32, 80, 1, 9, 0, 90, []),
  (90, 35, 0, 0, 0, 0, 91, [])]
/-- 42: ChunkCode$Words.rewind()V -/
def am_i42 : List (Nat × am_I) := [(0, 2, 0, 0, 0, 0, 1, []),
  (1, 0, 0, 0, 0, 0, 2, []),
  (2, 21, 2, 2, 0, 0, 5, []),
  (5, 2, 0, 0, 0, 0, 6, []),
  (6, 0, 0, 0, 0, 0, 7, []),
  (7, 21, 2, 3, 0, 0, 10, []),
  (10, 35, 0, 0, 0, 0, 11, [])]
/-- 43: ChunkCode$Scope.clear()V -/
def am_i43 : List (Nat × am_I) := [(0, 2, 0, 0, 0, 0, 1, []),
  (1, 20, 7, 0, 0, 0, 4, []),
  (4, 32, 44, 1, 11, 0, 7, []),
  (7, 2, 0, 0, 0, 0, 8, []),
  (8, 20, 7, 3, 0, 0, 11, []),
  (11, 32, 45, 1, 7, 0, 14, []),
  (14, 2, 0, 0, 0, 0, 15, []),
  (15, 20, 7, 4, 0, 0, 18, []),
  (18, 0, 0, 0, 0, 0, 19, []),
  (19, 32, 30, 2, 5, 0, 22, []),
  (22, 2, 0, 0, 0, 0, 23, []),
  (23, 20, 7, 5, 0, 0, 26, []),
  (26, 0, 0, 0, 0, 0, 27, []),
  (27, 32, 30, 2, 5, 0, 30, []),
  (30, 35, 0, 0, 0, 0, 31, [])]
/-- 44: ChunkCode$Jumps.clear()V -/
def am_i44 : List (Nat × am_I) := [(0, 2, 0, 0, 0, 0, 1, []),
  (1, 20, 9, 1, 0, 0, 4, []),
  (4, 0, 0, 0, 0, 0, 5, []),
  (5, 32, 30, 2, 5, 0, 8, []),
  (8, 2, 0, 0, 0, 0, 9, []),
  (9, 20, 9, 2, 0, 0, 12, []),
  (12, 0, 0, 0, 0, 0, 13, []),
  (13, 32, 30, 2, 5, 0, 16, []),
  (16, 2, 0, 0, 0, 0, 17, []),
  (17, 20, 9, 3, 0, 0, 20, []),
  (20, 0, 0, 0, 0, 0, 21, []),
  (21, 32, 30, 2, 5, 0, 24, []),
  (24, 2, 0, 0, 0, 0, 25, []),
  (25, 20, 9, 4, 0, 0, 28, []),
  (28, 0, 0, 0, 0, 0, 29, []),
  (29, 32, 30, 2, 5, 0, 32, []),
  (32, 35, 0, 0, 0, 0, 33, [])]
/-- 45: java/util/ArrayList.clear()V -/
def am_i45 : List (Nat × am_I) := [(0, 2, 0, 0, 0, 0, 1, []),
  (1, 7, 0, 0, 0, 0, 2, []),
  (2, 20, 5, 2, 0, 0, 5, []),
  (5, 0, 0, 0, 0, 1, 6, []),
  (6, 10, 0, 0, 0, 0, 7, []),
  (7, 21, 5, 2, 0, 0, 10, []),
  (10, 2, 0, 0, 0, 0, 11, []),
  (11, 20, 5, 0, 0, 0, 14, []),
  (14, 4, 1, 0, 0, 0, 15, []),
  (15, 2, 0, 0, 0, 0, 16, []),
  (16, 20, 5, 1, 0, 0, 19, []),
  (19, 3, 2, 0, 0, 0, 20, []),
  (20, 2, 0, 0, 0, 0, 21, []),
  (21, 0, 0, 0, 0, 0, 22, []),
  (22, 9, 0, 0, 0, 0, 23, []),
  (23, 21, 5, 1, 0, 0, 26, []),
  (26, 3, 3, 0, 0, 0, 27, []),
  (27, 1, 3, 0, 0, 0, 28, []),
  (28, 1, 2, 0, 0, 0, 29, []),
  (29, 13, 3, 42, 0, 0, 32, []),
  (32, 2, 1, 0, 0, 0, 33, []),
  (33, 1, 3, 0, 0, 0, 34, []),
  (34, 29, 0, 0, 0, 0, 35, []),
  (35, 40, 8, 0, 0, 0, 36, []),
  (36, 5, 3, 0, 0, 1, 39, []),
  (39, 18, 0, 27, 0, 0, 42, []),
  (42, 35, 0, 0, 0, 0, 43, [])]
/-- 46: ChunkCode$Scope.beginBody(I)LChunkCode$Body; -/
def am_i46 : List (Nat × am_I) := [(0, 2, 0, 0, 0, 0, 1, []),
  (1, 20, 7, 2, 0, 0, 4, []),
  (4, 32, 13, 1, 6, 0, 7, []),
  (7, 4, 2, 0, 0, 0, 8, []),
  (8, 2, 2, 0, 0, 0, 9, []),
  (9, 2, 0, 0, 0, 0, 10, []),
  (10, 20, 7, 3, 0, 0, 13, []),
  (13, 32, 47, 1, 7, 0, 16, []),
  (16, 12, 0, 23, 0, 0, 19, []),
  (19, 0, 0, 0, 0, (-1), 20, []),
  (20, 18, 0, 30, 0, 0, 23, []),
  (23, 2, 0, 0, 0, 0, 24, []),
  (24, 20, 7, 6, 0, 0, 27, []),
  (27, 20, 8, 2, 0, 0, 30, []),
  (30, 21, 8, 3, 0, 0, 33, []),
  (33, 2, 2, 0, 0, 0, 34, []),
  (34, 1, 1, 0, 0, 0, 35, []),
  (35, 21, 8, 8, 0, 0, 38, []),
  (38, 2, 2, 0, 0, 0, 39, []),
  (39, 2, 0, 0, 0, 0, 40, []),
  (40, 20, 7, 4, 0, 0, 43, []),
  (43, 32, 36, 1, 5, 0, 46, []),
  (46, 21, 8, 9, 0, 0, 49, []),
  (49, 2, 2, 0, 0, 0, 50, []),
  (50, 2, 0, 0, 0, 0, 51, []),
  (51, 20, 7, 0, 0, 0, 54, []),
  (54, 32, 48, 1, 11, 0, 57, []),
  (57, 21, 8, 10, 0, 0, 60, []),
  (60, 2, 2, 0, 0, 0, 61, []),
  (61, 2, 0, 0, 0, 0, 62, []),
  (62, 20, 7, 0, 0, 0, 65, []),
  (65, 32, 49, 1, 11, 0, 68, []),
  (68, 21, 8, 11, 0, 0, 71, []),
  (71, 2, 2, 0, 0, 0, 72, []),
  (72, 2, 0, 0, 0, 0, 73, []),
  (73, 20, 7, 0, 0, 0, 76, []),
  (76, 32, 50, 1, 11, 0, 79, []),
  (79, 21, 8, 12, 0, 0, 82, []),
  (82, 2, 0, 0, 0, 0, 83, []),
  (83, 20, 7, 3, 0, 0, 86, []),
  (86, 2, 2, 0, 0, 0, 87, []),
  (87, 32, 15, 2, 7, 0, 90, []),
  (90, 6, 0, 0, 0, 0, 91, []),
  (91, 2, 0, 0, 0, 0, 92, []),
  (92, 2, 2, 0, 0, 0, 93, []),
  (93, 21, 7, 6, 1, 0, 96, []),
  (96, 2, 0, 0, 0, 0, 97, []),
  (97, 32, 51, 1, 9, 0, 100, []),
  (100, 2, 2, 0, 0, 0, 101, []),
  (101, 34, 0, 0, 0, 0, 102, [])]
/-- 47: java/util/ArrayList.isEmpty()Z -/
def am_i47 : List (Nat × am_I) := [(0, 2, 0, 0, 0, 0, 1, []),
  (1, 20, 5, 1, 0, 0, 4, []),
  (4, 12, 1, 11, 0, 0, 7, []),
  (7, 0, 0, 0, 0, 1, 8, []),
  (8, 18, 0, 12, 0, 0, 11, []),
  (11, 0, 0, 0, 0, 0, 12, []),
  (12, 36, 0, 0, 0, 0, 13, [])]
/-- 48: ChunkCode$Jumps.labels()I -/
def am_i48 : List (Nat × am_I) := [(0, 2, 0, 0, 0, 0, 1, []),
  (1, 20, 9, 1, 0, 0, 4, []),
  (4, 32, 36, 1, 5, 0, 7, []),
  (7, 33, 0, 0, 0, 0, 8, [])]
/-- 49: ChunkCode$Jumps.gotos()I -/
def am_i49 : List (Nat × am_I) := [(0, 2, 0, 0, 0, 0, 1, []),
  (1, 20, 9, 2, 0, 0, 4, []),
  (4, 32, 36, 1, 5, 0, 7, []),
  (7, 33, 0, 0, 0, 0, 8, [])]
/-- 50: ChunkCode$Jumps.loops()I -/
def am_i50 : List (Nat × am_I) := [(0, 2, 0, 0, 0, 0, 1, []),
  (1, 20, 9, 3, 0, 0, 4, []),
  (4, 32, 36, 1, 5, 0, 7, []),
  (7, 33, 0, 0, 0, 0, 8, [])]
/-- 51: ChunkCode$Scope.openBlock()V -/
def am_i51 : List (Nat × am_I) := [(0, 2, 0, 0, 0, 0, 1, []),
  (1, 20, 7, 5, 0, 0, 4, []),
  (4, 2, 0, 0, 0, 0, 5, []),
  (5, 20, 7, 4, 0, 0, 8, []),
  (8, 32, 36, 1, 5, 0, 11, []),
  (11, 2, 0, 0, 0, 0, 12, []),
  (12, 20, 7, 0, 0, 0, 15, []),
  (15, 32, 48, 1, 11, 0, 18, []),
  (18, 2, 0, 0, 0, 0, 19, []),
  (19, 20, 7, 0, 0, 0, 22, []),
  (22, 32, 49, 1, 11, 0, 25, []),
  (25, 0, 0, 0, 0, 0, 26, []),
  (26, 32, 31, 5, 5, 0, 29, []),
  (29, 6, 0, 0, 0, 0, 30, []),
  (30, 35, 0, 0, 0, 0, 31, [])]
/-- 52: ChunkCode$Reader.block()V -/
def am_i52 : List (Nat × am_I) := [(0, 0, 0, 0, 0, 0, 1, []),
  (1, 3, 1, 0, 0, 0, 2, []),
  (2, 1, 1, 0, 0, 0, 3, []),
  (3, 0, 0, 0, 0, 16384, 6, []),
  (6, 13, 4, 314, 0, 0, 9, []),
  (9, 2, 0, 0, 0, 0, 10, []),
  (10, 20, 6, 0, 0, 0, 13, []),
  (13, 32, 53, 1, 4, 0, 16, []),
  (16, 19, 0, 307, 0, 0, 140, [(1, 151), (11, 165), (12, 179), (17, 225), (18, 260), (19, 172), (20, 218), (22, 267), (26, 211), (27, 302), (31, 204), (60, 151), (66, 158), (67, 140)]),
  (140, 2, 0, 0, 0, 0, 141, []),
  (141, 20, 6, 0, 0, 0, 144, []),
  (144, 32, 55, 1, 4, 0, 147, []),
  (147, 6, 0, 0, 0, 0, 148, []),
  (148, 18, 0, 308, 0, 0, 151, []),
  (151, 2, 0, 0, 0, 0, 152, []),
  (152, 32, 59, 1, 8, 0, 155, []),
  (155, 18, 0, 308, 0, 0, 158, []),
  (158, 2, 0, 0, 0, 0, 159, []),
  (159, 32, 119, 1, 8, 0, 162, []),
  (162, 18, 0, 308, 0, 0, 165, []),
  (165, 2, 0, 0, 0, 0, 166, []),
  (166, 32, 123, 1, 8, 0, 169, []),
  (169, 18, 0, 308, 0, 0, 172, []),
  (172, 2, 0, 0, 0, 0, 173, []),
  (173, 32, 126, 1, 8, 0, 176, []),
  (176, 18, 0, 308, 0, 0, 179, []),
  (179, 2, 0, 0, 0, 0, 180, []),
  (180, 20, 6, 0, 0, 0, 183, []),
  (183, 32, 55, 1, 4, 0, 186, []),
  (186, 6, 0, 0, 0, 0, 187, []),
  (187, 2, 0, 0, 0, 0, 188, []),
  (188, 32, 128, 1, 8, 0, 191, []),
  (191, 2, 0, 0, 0, 0, 192, []),
  (192, 20, 6, 0, 0, 0, 195, []),
  (195, 0, 0, 0, 0, 15, 197, []),
  (197, 32, 64, 2, 4, 0, 200, []),
  (200, 6, 0, 0, 0, 0, 201, []),
  (201, 18, 0, 308, 0, 0, 204, []),
  (204, 2, 0, 0, 0, 0, 205, []),
  (205, 32, 130, 1, 8, 0, 208, []),
  (208, 18, 0, 308, 0, 0, 211, []),
  (211, 2, 0, 0, 0, 0, 212, []),
  (212, 32, 133, 1, 8, 0, 215, []),
  (215, 18, 0, 308, 0, 0, 218, []),
  (218, 2, 0, 0, 0, 0, 219, []),
  (219, 32, 134, 1, 8, 0, 222, []),
  (222, 18, 0, 308, 0, 0, 225, []),
  (225, 2, 0, 0, 0, 0, 226, []),
  (226, 20, 6, 0, 0, 0, 229, []),
  (229, 2, 0, 0, 0, 0, 230, []),
  (230, 20, 6, 0, 0, 0, 233, []),
  (233, 32, 63, 1, 4, 0, 236, []),
  (236, 0, 0, 0, 0, 2, 237, []),
  (237, 10, 0, 0, 0, 0, 238, []),
  (238, 32, 93, 2, 4, 0, 241, []),
  (241, 0, 0, 0, 0, 59, 243, []),
  (243, 13, 1, 253, 0, 0, 246, []),
  (246, 2, 0, 0, 0, 0, 247, []),
  (247, 32, 138, 1, 8, 0, 250, []),
  (250, 18, 0, 308, 0, 0, 253, []),
  (253, 2, 0, 0, 0, 0, 254, []),
  (254, 32, 144, 1, 8, 0, 257, []),
  (257, 18, 0, 308, 0, 0, 260, []),
  (260, 2, 0, 0, 0, 0, 261, []),
  (261, 32, 145, 1, 8, 0, 264, []),
  (264, 18, 0, 308, 0, 0, 267, []),
  (267, 2, 0, 0, 0, 0, 268, []),
  (268, 20, 6, 0, 0, 0, 271, []),
  (271, 2, 0, 0, 0, 0, 272, []),
  (272, 20, 6, 0, 0, 0, 275, []),
  (275, 32, 63, 1, 4, 0, 278, []),
  (278, 0, 0, 0, 0, 1, 279, []),
  (279, 10, 0, 0, 0, 0, 280, []),
  (280, 32, 93, 2, 4, 0, 283, []),
  (283, 0, 0, 0, 0, 18, 285, []),
  (285, 13, 1, 295, 0, 0, 288, []),
  (288, 2, 0, 0, 0, 0, 289, []),
  (289, 32, 146, 1, 8, 0, 292, []),
  (292, 18, 0, 308, 0, 0, 295, []),
  (295, 2, 0, 0, 0, 0, 296, []),
  (296, 32, 147, 1, 8, 0, 299, []),
  (299, 18, 0, 308, 0, 0, 302, []),
  (302, 2, 0, 0, 0, 0, 303, []),
  (303, 32, 150, 1, 8, 0, 306, []),
  (306, 35, 0, 0, 0, 0, 307, []),
  (307, 35, 0, 0, 0, 0, 308, []),
  (308, 5, 1, 0, 0, 1, 311, []),
  (311, 18, 0, 2, 0, 0, 314, []),
  (314, 35, 0, 0, 0, 0, 315, [])]
/-- 53: ChunkCode$Words.kind()I -/
def am_i53 : List (Nat × am_I) := [(0, 2, 0, 0, 0, 0, 1, []),
  (1, 20, 2, 1, 0, 0, 4, []),
  (4, 2, 0, 0, 0, 0, 5, []),
  (5, 20, 2, 2, 0, 0, 8, []),
  (8, 0, 0, 0, 0, 0, 9, []),
  (9, 32, 54, 3, 5, 0, 12, []),
  (12, 33, 0, 0, 0, 0, 13, [])]
/-- 54: ChunkCode$Table.get(II)I -/
def am_i54 : List (Nat × am_I) := [(0, 1, 1, 0, 0, 0, 1, []),
  (1, 12, 2, 21, 0, 0, 4, []),
  (4, 1, 1, 0, 0, 0, 5, []),
  (5, 2, 0, 0, 0, 0, 6, []),
  (6, 20, 3, 1, 0, 0, 9, []),
  (9, 13, 3, 21, 0, 0, 12, []),
  (12, 1, 2, 0, 0, 0, 13, []),
  (13, 12, 2, 21, 0, 0, 16, []),
  (16, 1, 2, 0, 0, 0, 17, []),
  (17, 0, 0, 0, 0, 4, 18, []),
  (18, 13, 2, 23, 0, 0, 21, []),
  (21, 0, 0, 0, 0, 0, 22, []),
  (22, 33, 0, 0, 0, 0, 23, []),
  (23, 2, 0, 0, 0, 0, 24, []),
  (24, 20, 3, 0, 0, 0, 27, []),
  (27, 1, 1, 0, 0, 0, 28, []),
  (28, 0, 0, 0, 0, 4, 29, []),
  (29, 10, 2, 0, 0, 0, 30, []),
  (30, 1, 2, 0, 0, 0, 31, []),
  (31, 10, 0, 0, 0, 0, 32, []),
  (32, 25, 0, 0, 0, 0, 33, []),
  (33, 33, 0, 0, 0, 0, 34, [])]
/-- 55: ChunkCode$Words.skip()I -/
def am_i55 : List (Nat × am_I) := [(0, 2, 0, 0, 0, 0, 1, []),
  (1, 20, 2, 1, 0, 0, 4, []),
  (4, 2, 0, 0, 0, 0, 5, []),
  (5, 20, 2, 2, 0, 0, 8, []),
  (8, 0, 0, 0, 0, 0, 9, []),
  (9, 32, 54, 3, 5, 0, 12, []),
  (12, 3, 1, 0, 0, 0, 13, []),
  (13, 1, 1, 0, 0, 0, 14, []),
  (14, 32, 56, 1, 0, 0, 17, []),
  (17, 12, 0, 30, 0, 0, 20, []),
  (20, 2, 0, 0, 0, 0, 21, []),
  (21, 7, 0, 0, 0, 0, 22, []),
  (22, 20, 2, 3, 0, 0, 25, []),
  (25, 0, 0, 0, 0, 1, 26, []),
  (26, 10, 1, 0, 0, 0, 27, []),
  (27, 21, 2, 3, 0, 0, 30, []),
  (30, 1, 1, 0, 0, 0, 31, []),
  (31, 32, 57, 1, 0, 0, 34, []),
  (34, 12, 0, 69, 0, 0, 37, []),
  (37, 2, 0, 0, 0, 0, 38, []),
  (38, 20, 2, 3, 0, 0, 41, []),
  (41, 0, 0, 0, 0, 48, 43, []),
  (43, 13, 2, 59, 0, 0, 46, []),
  (46, 2, 0, 0, 0, 0, 47, []),
  (47, 20, 2, 0, 0, 0, 50, []),
  (50, 0, 0, 0, 0, 8, 52, []),
  (52, 2, 0, 0, 0, 0, 53, []),
  (53, 20, 2, 2, 0, 0, 56, []),
  (56, 32, 58, 3, 3, 0, 59, []),
  (59, 2, 0, 0, 0, 0, 60, []),
  (60, 7, 0, 0, 0, 0, 61, []),
  (61, 20, 2, 3, 0, 0, 64, []),
  (64, 0, 0, 0, 0, 1, 65, []),
  (65, 10, 0, 0, 0, 0, 66, []),
  (66, 21, 2, 3, 0, 0, 69, []),
  (69, 2, 0, 0, 0, 0, 70, []),
  (70, 7, 0, 0, 0, 0, 71, []),
  (71, 20, 2, 2, 0, 0, 74, []),
  (74, 0, 0, 0, 0, 1, 75, []),
  (75, 10, 0, 0, 0, 0, 76, []),
  (76, 21, 2, 2, 0, 0, 79, []),
  (79, 2, 0, 0, 0, 0, 80, []),
  (80, 20, 2, 1, 0, 0, 83, []),
  (83, 2, 0, 0, 0, 0, 84, []),
  (84, 20, 2, 2, 0, 0, 87, []),
  (87, 0, 0, 0, 0, 1, 88, []),
  (88, 10, 1, 0, 0, 0, 89, []),
  (89, 0, 0, 0, 0, 1, 90, []),
  (90, 32, 54, 3, 5, 0, 93, []),
  (93, 33, 0, 0, 0, 0, 94, [])]
/-- 56: ChunkCode$Kind.closesLevel(I)Z -/
def am_i56 : List (Nat × am_I) := [(0, 1, 0, 0, 0, 0, 1, []),
  (1, 0, 0, 0, 0, 61, 3, []),
  (3, 13, 0, 42, 0, 0, 6, []),
  (6, 1, 0, 0, 0, 0, 7, []),
  (7, 0, 0, 0, 0, 65, 9, []),
  (9, 13, 0, 42, 0, 0, 12, []),
  (12, 1, 0, 0, 0, 0, 13, []),
  (13, 0, 0, 0, 0, 63, 15, []),
  (15, 13, 0, 42, 0, 0, 18, []),
  (18, 1, 0, 0, 0, 0, 19, []),
  (19, 0, 0, 0, 0, 15, 21, []),
  (21, 13, 0, 42, 0, 0, 24, []),
  (24, 1, 0, 0, 0, 0, 25, []),
  (25, 0, 0, 0, 0, 30, 27, []),
  (27, 13, 0, 42, 0, 0, 30, []),
  (30, 1, 0, 0, 0, 0, 31, []),
  (31, 0, 0, 0, 0, 14, 33, []),
  (33, 13, 0, 42, 0, 0, 36, []),
  (36, 1, 0, 0, 0, 0, 37, []),
  (37, 0, 0, 0, 0, 13, 39, []),
  (39, 13, 1, 46, 0, 0, 42, []),
  (42, 0, 0, 0, 0, 1, 43, []),
  (43, 18, 0, 47, 0, 0, 46, []),
  (46, 0, 0, 0, 0, 0, 47, []),
  (47, 36, 0, 0, 0, 0, 48, [])]
/-- 57: ChunkCode$Kind.opensLevel(I)Z -/
def am_i57 : List (Nat × am_I) := [(0, 1, 0, 0, 0, 0, 1, []),
  (1, 0, 0, 0, 0, 60, 3, []),
  (3, 13, 0, 48, 0, 0, 6, []),
  (6, 1, 0, 0, 0, 0, 7, []),
  (7, 0, 0, 0, 0, 64, 9, []),
  (9, 13, 0, 48, 0, 0, 12, []),
  (12, 1, 0, 0, 0, 0, 13, []),
  (13, 0, 0, 0, 0, 62, 15, []),
  (15, 13, 0, 48, 0, 0, 18, []),
  (18, 1, 0, 0, 0, 0, 19, []),
  (19, 0, 0, 0, 0, 12, 21, []),
  (21, 13, 0, 48, 0, 0, 24, []),
  (24, 1, 0, 0, 0, 0, 25, []),
  (25, 0, 0, 0, 0, 28, 27, []),
  (27, 13, 0, 48, 0, 0, 30, []),
  (30, 1, 0, 0, 0, 0, 31, []),
  (31, 0, 0, 0, 0, 13, 33, []),
  (33, 13, 0, 48, 0, 0, 36, []),
  (36, 1, 0, 0, 0, 0, 37, []),
  (37, 0, 0, 0, 0, 26, 39, []),
  (39, 13, 0, 48, 0, 0, 42, []),
  (42, 1, 0, 0, 0, 0, 43, []),
  (43, 0, 0, 0, 0, 18, 45, []),
  (45, 13, 1, 52, 0, 0, 48, []),
  (48, 0, 0, 0, 0, 1, 49, []),
  (49, 18, 0, 53, 0, 0, 52, []),
  (52, 0, 0, 0, 0, 0, 53, []),
  (53, 36, 0, 0, 0, 0, 54, [])]
/-- 58: ChunkCode$Faults.refuse(II)V -/
def am_i58 : List (Nat × am_I) := [(0, 2, 0, 0, 0, 0, 1, []),
  (1, 1, 1, 0, 0, 0, 2, []),
  (2, 21, 1, 0, 0, 0, 5, []),
  (5, 2, 0, 0, 0, 0, 6, []),
  (6, 1, 2, 0, 0, 0, 7, []),
  (7, 21, 1, 1, 0, 0, 10, []),
  (10, 37, 0, 0, 0, 0, 18, [])]
/-- 59: ChunkCode$Reader.assignOrCall()V -/
def am_i59 : List (Nat × am_I) := [(0, 2, 0, 0, 0, 0, 1, []),
  (1, 32, 60, 1, 8, 0, 4, []),
  (4, 3, 1, 0, 0, 0, 5, []),
  (5, 1, 1, 0, 0, 0, 6, []),
  (6, 0, 0, 0, 0, 4, 7, []),
  (7, 13, 1, 17, 0, 0, 10, []),
  (10, 2, 0, 0, 0, 0, 11, []),
  (11, 0, 0, 0, 0, 1, 12, []),
  (12, 0, 0, 0, 0, 0, 13, []),
  (13, 32, 99, 3, 8, 0, 16, []),
  (16, 35, 0, 0, 0, 0, 17, []),
  (17, 2, 0, 0, 0, 0, 18, []),
  (18, 20, 6, 4, 0, 0, 21, []),
  (21, 32, 36, 1, 5, 0, 24, []),
  (24, 3, 2, 0, 0, 0, 25, []),
  (25, 2, 0, 0, 0, 0, 26, []),
  (26, 1, 1, 0, 0, 0, 27, []),
  (27, 32, 113, 2, 8, 0, 30, []),
  (30, 0, 0, 0, 0, 0, 31, []),
  (31, 3, 3, 0, 0, 0, 32, []),
  (32, 2, 0, 0, 0, 0, 33, []),
  (33, 20, 6, 0, 0, 0, 36, []),
  (36, 32, 53, 1, 4, 0, 39, []),
  (39, 0, 0, 0, 0, 69, 41, []),
  (41, 13, 1, 73, 0, 0, 44, []),
  (44, 1, 3, 0, 0, 0, 45, []),
  (45, 0, 0, 0, 0, 16384, 48, []),
  (48, 13, 4, 73, 0, 0, 51, []),
  (51, 2, 0, 0, 0, 0, 52, []),
  (52, 20, 6, 0, 0, 0, 55, []),
  (55, 32, 55, 1, 4, 0, 58, []),
  (58, 6, 0, 0, 0, 0, 59, []),
  (59, 2, 0, 0, 0, 0, 60, []),
  (60, 2, 0, 0, 0, 0, 61, []),
  (61, 32, 60, 1, 8, 0, 64, []),
  (64, 32, 113, 2, 8, 0, 67, []),
  (67, 5, 3, 0, 0, 1, 70, []),
  (70, 18, 0, 32, 0, 0, 73, []),
  (73, 2, 0, 0, 0, 0, 74, []),
  (74, 20, 6, 0, 0, 0, 77, []),
  (77, 0, 0, 0, 0, 59, 79, []),
  (79, 32, 64, 2, 4, 0, 82, []),
  (82, 6, 0, 0, 0, 0, 83, []),
  (83, 2, 0, 0, 0, 0, 84, []),
  (84, 2, 0, 0, 0, 0, 85, []),
  (85, 20, 6, 4, 0, 0, 88, []),
  (88, 32, 36, 1, 5, 0, 91, []),
  (91, 1, 2, 0, 0, 0, 92, []),
  (92, 10, 1, 0, 0, 0, 93, []),
  (93, 2, 0, 0, 0, 0, 94, []),
  (94, 32, 112, 1, 8, 0, 97, []),
  (97, 32, 117, 3, 8, 0, 100, []),
  (100, 2, 0, 0, 0, 0, 101, []),
  (101, 1, 2, 0, 0, 0, 102, []),
  (102, 32, 118, 2, 8, 0, 105, []),
  (105, 35, 0, 0, 0, 0, 106, [])]
/-- 60: ChunkCode$Reader.prefix()I -/
def am_i60 : List (Nat × am_I) := [(0, 2, 0, 0, 0, 0, 1, []),
  (1, 32, 61, 1, 8, 0, 4, []),
  (4, 3, 1, 0, 0, 0, 5, []),
  (5, 0, 0, 0, 0, 0, 6, []),
  (6, 3, 2, 0, 0, 0, 7, []),
  (7, 1, 2, 0, 0, 0, 8, []),
  (8, 0, 0, 0, 0, 16384, 11, []),
  (11, 13, 4, 201, 0, 0, 14, []),
  (14, 2, 0, 0, 0, 0, 15, []),
  (15, 20, 6, 0, 0, 0, 18, []),
  (18, 32, 63, 1, 4, 0, 21, []),
  (21, 3, 3, 0, 0, 0, 22, []),
  (22, 2, 0, 0, 0, 0, 23, []),
  (23, 20, 6, 0, 0, 0, 26, []),
  (26, 32, 53, 1, 4, 0, 29, []),
  (29, 19, 0, 193, 0, 0, 88, [(3, 178), (60, 178), (62, 178), (64, 101), (68, 138), (70, 88)]),
  (88, 2, 0, 0, 0, 0, 89, []),
  (89, 1, 1, 0, 0, 0, 90, []),
  (90, 32, 100, 2, 8, 0, 93, []),
  (93, 2, 0, 0, 0, 0, 94, []),
  (94, 32, 110, 1, 8, 0, 97, []),
  (97, 3, 1, 0, 0, 0, 98, []),
  (98, 18, 0, 195, 0, 0, 101, []),
  (101, 2, 0, 0, 0, 0, 102, []),
  (102, 1, 1, 0, 0, 0, 103, []),
  (103, 32, 100, 2, 8, 0, 106, []),
  (106, 2, 0, 0, 0, 0, 107, []),
  (107, 20, 6, 0, 0, 0, 110, []),
  (110, 32, 55, 1, 4, 0, 113, []),
  (113, 6, 0, 0, 0, 0, 114, []),
  (114, 2, 0, 0, 0, 0, 115, []),
  (115, 32, 70, 1, 8, 0, 118, []),
  (118, 2, 0, 0, 0, 0, 119, []),
  (119, 20, 6, 0, 0, 0, 122, []),
  (122, 0, 0, 0, 0, 65, 124, []),
  (124, 32, 64, 2, 4, 0, 127, []),
  (127, 6, 0, 0, 0, 0, 128, []),
  (128, 2, 0, 0, 0, 0, 129, []),
  (129, 1, 3, 0, 0, 0, 130, []),
  (130, 21, 6, 6, 0, 0, 133, []),
  (133, 0, 0, 0, 0, 3, 134, []),
  (134, 3, 1, 0, 0, 0, 135, []),
  (135, 18, 0, 195, 0, 0, 138, []),
  (138, 2, 0, 0, 0, 0, 139, []),
  (139, 1, 1, 0, 0, 0, 140, []),
  (140, 32, 100, 2, 8, 0, 143, []),
  (143, 2, 0, 0, 0, 0, 144, []),
  (144, 20, 6, 0, 0, 0, 147, []),
  (147, 32, 55, 1, 4, 0, 150, []),
  (150, 6, 0, 0, 0, 0, 151, []),
  (151, 2, 0, 0, 0, 0, 152, []),
  (152, 0, 0, 0, 0, 14, 154, []),
  (154, 2, 0, 0, 0, 0, 155, []),
  (155, 20, 6, 0, 0, 0, 158, []),
  (158, 0, 0, 0, 0, 1, 159, []),
  (159, 32, 64, 2, 4, 0, 162, []),
  (162, 0, 0, 0, 0, 0, 163, []),
  (163, 1, 3, 0, 0, 0, 164, []),
  (164, 32, 78, 5, 8, 0, 167, []),
  (167, 6, 0, 0, 0, 0, 168, []),
  (168, 2, 0, 0, 0, 0, 169, []),
  (169, 0, 0, 0, 0, 1, 170, []),
  (170, 32, 111, 2, 8, 0, 173, []),
  (173, 0, 0, 0, 0, 4, 174, []),
  (174, 3, 1, 0, 0, 0, 175, []),
  (175, 18, 0, 195, 0, 0, 178, []),
  (178, 2, 0, 0, 0, 0, 179, []),
  (179, 1, 1, 0, 0, 0, 180, []),
  (180, 32, 100, 2, 8, 0, 183, []),
  (183, 2, 0, 0, 0, 0, 184, []),
  (184, 0, 0, 0, 0, 0, 185, []),
  (185, 32, 111, 2, 8, 0, 188, []),
  (188, 0, 0, 0, 0, 4, 189, []),
  (189, 3, 1, 0, 0, 0, 190, []),
  (190, 18, 0, 195, 0, 0, 193, []),
  (193, 1, 1, 0, 0, 0, 194, []),
  (194, 33, 0, 0, 0, 0, 195, []),
  (195, 5, 2, 0, 0, 1, 198, []),
  (198, 18, 0, 7, 0, 0, 201, []),
  (201, 1, 1, 0, 0, 0, 202, []),
  (202, 33, 0, 0, 0, 0, 203, [])]
/-- 61: ChunkCode$Reader.head()I -/
def am_i61 : List (Nat × am_I) := [(0, 2, 0, 0, 0, 0, 1, []),
  (1, 20, 6, 0, 0, 0, 4, []),
  (4, 32, 53, 1, 4, 0, 7, []),
  (7, 0, 0, 0, 0, 1, 8, []),
  (8, 13, 1, 16, 0, 0, 11, []),
  (11, 2, 0, 0, 0, 0, 12, []),
  (12, 32, 62, 1, 8, 0, 15, []),
  (15, 33, 0, 0, 0, 0, 16, []),
  (16, 2, 0, 0, 0, 0, 17, []),
  (17, 20, 6, 0, 0, 0, 20, []),
  (20, 0, 0, 0, 0, 60, 22, []),
  (22, 32, 64, 2, 4, 0, 25, []),
  (25, 6, 0, 0, 0, 0, 26, []),
  (26, 2, 0, 0, 0, 0, 27, []),
  (27, 32, 70, 1, 8, 0, 30, []),
  (30, 2, 0, 0, 0, 0, 31, []),
  (31, 20, 6, 0, 0, 0, 34, []),
  (34, 0, 0, 0, 0, 61, 36, []),
  (36, 32, 64, 2, 4, 0, 39, []),
  (39, 6, 0, 0, 0, 0, 40, []),
  (40, 0, 0, 0, 0, 0, 41, []),
  (41, 33, 0, 0, 0, 0, 42, [])]
/-- 62: ChunkCode$Reader.nameAlone()I -/
def am_i62 : List (Nat × am_I) := [(0, 2, 0, 0, 0, 0, 1, []),
  (1, 2, 0, 0, 0, 0, 2, []),
  (2, 20, 6, 0, 0, 0, 5, []),
  (5, 32, 63, 1, 4, 0, 8, []),
  (8, 21, 6, 6, 0, 0, 11, []),
  (11, 2, 0, 0, 0, 0, 12, []),
  (12, 20, 6, 2, 0, 0, 15, []),
  (15, 2, 0, 0, 0, 0, 16, []),
  (16, 20, 6, 0, 0, 0, 19, []),
  (19, 0, 0, 0, 0, 1, 20, []),
  (20, 32, 64, 2, 4, 0, 23, []),
  (23, 32, 66, 2, 9, 0, 26, []),
  (26, 0, 0, 0, 0, 1, 27, []),
  (27, 33, 0, 0, 0, 0, 28, [])]
/-- 63: ChunkCode$Words.at()I -/
def am_i63 : List (Nat × am_I) := [(0, 2, 0, 0, 0, 0, 1, []),
  (1, 20, 2, 2, 0, 0, 4, []),
  (4, 33, 0, 0, 0, 0, 5, [])]
/-- 64: ChunkCode$Words.take(I)I -/
def am_i64 : List (Nat × am_I) := [(0, 2, 0, 0, 0, 0, 1, []),
  (1, 1, 1, 0, 0, 0, 2, []),
  (2, 32, 65, 2, 4, 0, 5, []),
  (5, 2, 0, 0, 0, 0, 6, []),
  (6, 32, 55, 1, 4, 0, 9, []),
  (9, 33, 0, 0, 0, 0, 10, [])]
/-- 65: ChunkCode$Words.need(I)V -/
def am_i65 : List (Nat × am_I) := [(0, 2, 0, 0, 0, 0, 1, []),
  (1, 20, 2, 1, 0, 0, 4, []),
  (4, 2, 0, 0, 0, 0, 5, []),
  (5, 20, 2, 2, 0, 0, 8, []),
  (8, 0, 0, 0, 0, 0, 9, []),
  (9, 32, 54, 3, 5, 0, 12, []),
  (12, 1, 1, 0, 0, 0, 13, []),
  (13, 13, 0, 29, 0, 0, 16, []),
  (16, 2, 0, 0, 0, 0, 17, []),
  (17, 20, 2, 0, 0, 0, 20, []),
  (20, 0, 0, 0, 0, 7, 22, []),
  (22, 2, 0, 0, 0, 0, 23, []),
  (23, 20, 2, 2, 0, 0, 26, []),
  (26, 32, 58, 3, 3, 0, 29, []),
  (29, 35, 0, 0, 0, 0, 30, [])]
/-- 66: ChunkCode$Scope.find(I)V -/
def am_i66 : List (Nat × am_I) := [(0, 2, 0, 0, 0, 0, 1, []),
  (1, 1, 1, 0, 0, 0, 2, []),
  (2, 32, 67, 2, 9, 0, 5, []),
  (5, 3, 2, 0, 0, 0, 6, []),
  (6, 2, 0, 0, 0, 0, 7, []),
  (7, 1, 2, 0, 0, 0, 8, []),
  (8, 12, 2, 29, 0, 0, 11, []),
  (11, 2, 0, 0, 0, 0, 12, []),
  (12, 20, 7, 4, 0, 0, 15, []),
  (15, 1, 2, 0, 0, 0, 16, []),
  (16, 0, 0, 0, 0, 1, 17, []),
  (17, 32, 54, 3, 5, 0, 20, []),
  (20, 0, 0, 0, 0, 2, 21, []),
  (21, 10, 3, 0, 0, 0, 22, []),
  (22, 12, 0, 29, 0, 0, 25, []),
  (25, 0, 0, 0, 0, 1, 26, []),
  (26, 18, 0, 30, 0, 0, 29, []),
  (29, 0, 0, 0, 0, 0, 30, []),
  (30, 21, 7, 9, 2, 0, 33, []),
  (33, 1, 2, 0, 0, 0, 34, []),
  (34, 12, 3, 51, 0, 0, 37, []),
  (37, 2, 0, 0, 0, 0, 38, []),
  (38, 0, 0, 0, 0, 10, 40, []),
  (40, 21, 7, 7, 0, 0, 43, []),
  (43, 2, 0, 0, 0, 0, 44, []),
  (44, 1, 1, 0, 0, 0, 45, []),
  (45, 21, 7, 8, 0, 0, 48, []),
  (48, 18, 0, 99, 0, 0, 51, []),
  (51, 1, 2, 0, 0, 0, 52, []),
  (52, 2, 0, 0, 0, 0, 53, []),
  (53, 20, 7, 6, 0, 0, 56, []),
  (56, 20, 8, 9, 0, 0, 59, []),
  (59, 13, 2, 84, 0, 0, 62, []),
  (62, 2, 0, 0, 0, 0, 63, []),
  (63, 0, 0, 0, 0, 8, 65, []),
  (65, 21, 7, 7, 0, 0, 68, []),
  (68, 2, 0, 0, 0, 0, 69, []),
  (69, 1, 2, 0, 0, 0, 70, []),
  (70, 2, 0, 0, 0, 0, 71, []),
  (71, 20, 7, 6, 0, 0, 74, []),
  (74, 20, 8, 9, 0, 0, 77, []),
  (77, 10, 1, 0, 0, 0, 78, []),
  (78, 21, 7, 8, 0, 0, 81, []),
  (81, 18, 0, 99, 0, 0, 84, []),
  (84, 2, 0, 0, 0, 0, 85, []),
  (85, 0, 0, 0, 0, 9, 87, []),
  (87, 21, 7, 7, 0, 0, 90, []),
  (90, 2, 0, 0, 0, 0, 91, []),
  (91, 2, 0, 0, 0, 0, 92, []),
  (92, 1, 2, 0, 0, 0, 93, []),
  (93, 32, 68, 2, 9, 0, 96, []),
  (96, 21, 7, 8, 0, 0, 99, []),
  (99, 35, 0, 0, 0, 0, 100, [])]
/-- 67: ChunkCode$Scope.visibleLocal(I)I -/
def am_i67 : List (Nat × am_I) := [(0, 2, 0, 0, 0, 0, 1, []),
  (1, 20, 7, 4, 0, 0, 4, []),
  (4, 32, 36, 1, 5, 0, 7, []),
  (7, 0, 0, 0, 0, 1, 8, []),
  (8, 10, 1, 0, 0, 0, 9, []),
  (9, 3, 2, 0, 0, 0, 10, []),
  (10, 1, 2, 0, 0, 0, 11, []),
  (11, 12, 2, 49, 0, 0, 14, []),
  (14, 2, 0, 0, 0, 0, 15, []),
  (15, 20, 7, 4, 0, 0, 18, []),
  (18, 1, 2, 0, 0, 0, 19, []),
  (19, 0, 0, 0, 0, 0, 20, []),
  (20, 32, 54, 3, 5, 0, 23, []),
  (23, 1, 1, 0, 0, 0, 24, []),
  (24, 13, 1, 43, 0, 0, 27, []),
  (27, 2, 0, 0, 0, 0, 28, []),
  (28, 20, 7, 4, 0, 0, 31, []),
  (31, 1, 2, 0, 0, 0, 32, []),
  (32, 0, 0, 0, 0, 1, 33, []),
  (33, 32, 54, 3, 5, 0, 36, []),
  (36, 0, 0, 0, 0, 1, 37, []),
  (37, 10, 3, 0, 0, 0, 38, []),
  (38, 12, 0, 43, 0, 0, 41, []),
  (41, 1, 2, 0, 0, 0, 42, []),
  (42, 33, 0, 0, 0, 0, 43, []),
  (43, 5, 2, 0, 0, (-1), 46, []),
  (46, 18, 0, 10, 0, 0, 49, []),
  (49, 0, 0, 0, 0, (-1), 50, []),
  (50, 33, 0, 0, 0, 0, 51, [])]
/-- 68: ChunkCode$Scope.bringIn(I)I -/
def am_i68 : List (Nat × am_I) := [(0, 0, 0, 0, 0, 1, 1, []),
  (1, 3, 2, 0, 0, 0, 2, []),
  (2, 1, 1, 0, 0, 0, 3, []),
  (3, 3, 3, 0, 0, 0, 4, []),
  (4, 0, 0, 0, 0, 0, 5, []),
  (5, 3, 4, 0, 0, 0, 7, []),
  (7, 1, 4, 0, 0, 0, 9, []),
  (9, 2, 0, 0, 0, 0, 10, []),
  (10, 20, 7, 3, 0, 0, 13, []),
  (13, 32, 14, 1, 7, 0, 16, []),
  (16, 13, 3, 69, 0, 0, 19, []),
  (19, 2, 0, 0, 0, 0, 20, []),
  (20, 20, 7, 3, 0, 0, 23, []),
  (23, 1, 4, 0, 0, 0, 25, []),
  (25, 32, 25, 2, 7, 0, 28, []),
  (28, 30, 8, 0, 0, 0, 31, []),
  (31, 4, 5, 0, 0, 0, 33, []),
  (33, 2, 5, 0, 0, 0, 35, []),
  (35, 20, 8, 9, 0, 0, 38, []),
  (38, 1, 1, 0, 0, 0, 39, []),
  (39, 13, 4, 53, 0, 0, 42, []),
  (42, 1, 1, 0, 0, 0, 43, []),
  (43, 2, 5, 0, 0, 0, 45, []),
  (45, 20, 8, 9, 0, 0, 48, []),
  (48, 10, 1, 0, 0, 0, 49, []),
  (49, 3, 3, 0, 0, 0, 50, []),
  (50, 18, 0, 63, 0, 0, 53, []),
  (53, 2, 5, 0, 0, 0, 55, []),
  (55, 1, 2, 0, 0, 0, 56, []),
  (56, 1, 3, 0, 0, 0, 57, []),
  (57, 32, 69, 3, 10, 0, 60, []),
  (60, 3, 3, 0, 0, 0, 61, []),
  (61, 0, 0, 0, 0, 0, 62, []),
  (62, 3, 2, 0, 0, 0, 63, []),
  (63, 5, 4, 0, 0, 1, 66, []),
  (66, 18, 0, 7, 0, 0, 69, []),
  (69, 1, 3, 0, 0, 0, 70, []),
  (70, 33, 0, 0, 0, 0, 71, [])]
/-- 69: ChunkCode$Body.outerNumber(II)I -/
def am_i69 : List (Nat × am_I) := [(0, 0, 0, 0, 0, 0, 1, []),
  (1, 3, 3, 0, 0, 0, 2, []),
  (2, 1, 3, 0, 0, 0, 3, []),
  (3, 2, 0, 0, 0, 0, 4, []),
  (4, 20, 8, 1, 0, 0, 7, []),
  (7, 32, 36, 1, 5, 0, 10, []),
  (10, 13, 3, 47, 0, 0, 13, []),
  (13, 2, 0, 0, 0, 0, 14, []),
  (14, 20, 8, 1, 0, 0, 17, []),
  (17, 1, 3, 0, 0, 0, 18, []),
  (18, 0, 0, 0, 0, 0, 19, []),
  (19, 32, 54, 3, 5, 0, 22, []),
  (22, 1, 1, 0, 0, 0, 23, []),
  (23, 13, 1, 41, 0, 0, 26, []),
  (26, 2, 0, 0, 0, 0, 27, []),
  (27, 20, 8, 1, 0, 0, 30, []),
  (30, 1, 3, 0, 0, 0, 31, []),
  (31, 0, 0, 0, 0, 1, 32, []),
  (32, 32, 54, 3, 5, 0, 35, []),
  (35, 1, 2, 0, 0, 0, 36, []),
  (36, 13, 1, 41, 0, 0, 39, []),
  (39, 1, 3, 0, 0, 0, 40, []),
  (40, 33, 0, 0, 0, 0, 41, []),
  (41, 5, 3, 0, 0, 1, 44, []),
  (44, 18, 0, 2, 0, 0, 47, []),
  (47, 2, 0, 0, 0, 0, 48, []),
  (48, 20, 8, 1, 0, 0, 51, []),
  (51, 1, 1, 0, 0, 0, 52, []),
  (52, 1, 2, 0, 0, 0, 53, []),
  (53, 0, 0, 0, 0, 0, 54, []),
  (54, 0, 0, 0, 0, 0, 55, []),
  (55, 32, 31, 5, 5, 0, 58, []),
  (58, 33, 0, 0, 0, 0, 59, [])]
/-- 70: ChunkCode$Reader.expression()V -/
def am_i70 : List (Nat × am_I) := [(0, 2, 0, 0, 0, 0, 1, []),
  (1, 20, 6, 3, 0, 0, 4, []),
  (4, 32, 36, 1, 5, 0, 7, []),
  (7, 3, 1, 0, 0, 0, 8, []),
  (8, 0, 0, 0, 0, 0, 9, []),
  (9, 3, 2, 0, 0, 0, 10, []),
  (10, 0, 0, 0, 0, 1, 11, []),
  (11, 3, 3, 0, 0, 0, 12, []),
  (12, 0, 0, 0, 0, 0, 13, []),
  (13, 3, 4, 0, 0, 0, 15, []),
  (15, 1, 3, 0, 0, 0, 16, []),
  (16, 12, 0, 181, 0, 0, 19, []),
  (19, 1, 4, 0, 0, 0, 21, []),
  (21, 0, 0, 0, 0, 16384, 24, []),
  (24, 13, 4, 181, 0, 0, 27, []),
  (27, 2, 0, 0, 0, 0, 28, []),
  (28, 32, 71, 1, 8, 0, 31, []),
  (31, 0, 0, 0, 0, 0, 32, []),
  (32, 3, 5, 0, 0, 0, 34, []),
  (34, 0, 0, 0, 0, 0, 35, []),
  (35, 3, 2, 0, 0, 0, 36, []),
  (36, 2, 0, 0, 0, 0, 37, []),
  (37, 20, 6, 0, 0, 0, 40, []),
  (40, 32, 53, 1, 4, 0, 43, []),
  (43, 19, 0, 143, 0, 0, 84, [(1, 116), (18, 84), (60, 116), (62, 109)]),
  (84, 2, 0, 0, 0, 0, 85, []),
  (85, 20, 6, 0, 0, 0, 88, []),
  (88, 32, 55, 1, 4, 0, 91, []),
  (91, 6, 0, 0, 0, 0, 92, []),
  (92, 2, 0, 0, 0, 0, 93, []),
  (93, 2, 0, 0, 0, 0, 94, []),
  (94, 20, 6, 0, 0, 0, 97, []),
  (97, 32, 63, 1, 4, 0, 100, []),
  (100, 0, 0, 0, 0, 1, 101, []),
  (101, 10, 1, 0, 0, 0, 102, []),
  (102, 0, 0, 0, 0, 0, 103, []),
  (103, 32, 73, 3, 8, 0, 106, []),
  (106, 18, 0, 148, 0, 0, 109, []),
  (109, 2, 0, 0, 0, 0, 110, []),
  (110, 32, 91, 1, 8, 0, 113, []),
  (113, 18, 0, 148, 0, 0, 116, []),
  (116, 2, 0, 0, 0, 0, 117, []),
  (117, 32, 60, 1, 8, 0, 120, []),
  (120, 3, 5, 0, 0, 0, 122, []),
  (122, 2, 0, 0, 0, 0, 123, []),
  (123, 1, 5, 0, 0, 0, 125, []),
  (125, 32, 100, 2, 8, 0, 128, []),
  (128, 1, 5, 0, 0, 0, 130, []),
  (130, 0, 0, 0, 0, 4, 131, []),
  (131, 13, 1, 138, 0, 0, 134, []),
  (134, 0, 0, 0, 0, 1, 135, []),
  (135, 18, 0, 139, 0, 0, 138, []),
  (138, 0, 0, 0, 0, 0, 139, []),
  (139, 3, 2, 0, 0, 0, 140, []),
  (140, 18, 0, 148, 0, 0, 143, []),
  (143, 2, 0, 0, 0, 0, 144, []),
  (144, 32, 103, 1, 8, 0, 147, []),
  (147, 3, 2, 0, 0, 0, 148, []),
  (148, 1, 2, 0, 0, 0, 149, []),
  (149, 12, 0, 167, 0, 0, 152, []),
  (152, 2, 0, 0, 0, 0, 153, []),
  (153, 20, 6, 3, 0, 0, 156, []),
  (156, 32, 36, 1, 5, 0, 159, []),
  (159, 1, 1, 0, 0, 0, 160, []),
  (160, 13, 1, 167, 0, 0, 163, []),
  (163, 0, 0, 0, 0, 1, 164, []),
  (164, 18, 0, 168, 0, 0, 167, []),
  (167, 0, 0, 0, 0, 0, 168, []),
  (168, 3, 2, 0, 0, 0, 169, []),
  (169, 2, 0, 0, 0, 0, 170, []),
  (170, 1, 1, 0, 0, 0, 171, []),
  (171, 32, 105, 2, 8, 0, 174, []),
  (174, 3, 3, 0, 0, 0, 175, []),
  (175, 5, 4, 0, 0, 1, 178, []),
  (178, 18, 0, 15, 0, 0, 181, []),
  (181, 2, 0, 0, 0, 0, 182, []),
  (182, 1, 1, 0, 0, 0, 183, []),
  (183, 0, 0, 0, 0, 0, 184, []),
  (184, 32, 108, 3, 8, 0, 187, []),
  (187, 2, 0, 0, 0, 0, 188, []),
  (188, 1, 2, 0, 0, 0, 189, []),
  (189, 21, 6, 5, 2, 0, 192, []),
  (192, 35, 0, 0, 0, 0, 193, [])]
/-- 71: ChunkCode$Reader.unaryOperators()V -/
def am_i71 : List (Nat × am_I) := [(0, 0, 0, 0, 0, 0, 1, []),
  (1, 3, 1, 0, 0, 0, 2, []),
  (2, 2, 0, 0, 0, 0, 3, []),
  (3, 20, 6, 0, 0, 0, 6, []),
  (6, 32, 53, 1, 4, 0, 9, []),
  (9, 32, 72, 1, 0, 0, 12, []),
  (12, 12, 0, 61, 0, 0, 15, []),
  (15, 1, 1, 0, 0, 0, 16, []),
  (16, 0, 0, 0, 0, 16384, 19, []),
  (19, 13, 4, 61, 0, 0, 22, []),
  (22, 2, 0, 0, 0, 0, 23, []),
  (23, 20, 6, 3, 0, 0, 26, []),
  (26, 0, 0, 0, 0, 11, 28, []),
  (28, 2, 0, 0, 0, 0, 29, []),
  (29, 20, 6, 0, 0, 0, 32, []),
  (32, 32, 53, 1, 4, 0, 35, []),
  (35, 2, 0, 0, 0, 0, 36, []),
  (36, 20, 6, 0, 0, 0, 39, []),
  (39, 32, 63, 1, 4, 0, 42, []),
  (42, 0, 0, 0, 0, 0, 43, []),
  (43, 32, 31, 5, 5, 0, 46, []),
  (46, 6, 0, 0, 0, 0, 47, []),
  (47, 2, 0, 0, 0, 0, 48, []),
  (48, 20, 6, 0, 0, 0, 51, []),
  (51, 32, 55, 1, 4, 0, 54, []),
  (54, 6, 0, 0, 0, 0, 55, []),
  (55, 5, 1, 0, 0, 1, 58, []),
  (58, 18, 0, 2, 0, 0, 61, []),
  (61, 35, 0, 0, 0, 0, 62, [])]
/-- 72: ChunkCode$Kind.isUnary(I)Z -/
def am_i72 : List (Nat × am_I) := [(0, 1, 0, 0, 0, 0, 1, []),
  (1, 0, 0, 0, 0, 24, 3, []),
  (3, 13, 0, 24, 0, 0, 6, []),
  (6, 1, 0, 0, 0, 0, 7, []),
  (7, 0, 0, 0, 0, 46, 9, []),
  (9, 13, 0, 24, 0, 0, 12, []),
  (12, 1, 0, 0, 0, 0, 13, []),
  (13, 0, 0, 0, 0, 41, 15, []),
  (15, 13, 0, 24, 0, 0, 18, []),
  (18, 1, 0, 0, 0, 0, 19, []),
  (19, 0, 0, 0, 0, 48, 21, []),
  (21, 13, 1, 28, 0, 0, 24, []),
  (24, 0, 0, 0, 0, 1, 25, []),
  (25, 18, 0, 29, 0, 0, 28, []),
  (28, 0, 0, 0, 0, 0, 29, []),
  (29, 36, 0, 0, 0, 0, 30, [])]
/-- 73: ChunkCode$Reader.functionBody(IZ)V -/
def am_i73 : List (Nat × am_I) := [(0, 2, 0, 0, 0, 0, 1, []),
  (1, 20, 6, 0, 0, 0, 4, []),
  (4, 32, 63, 1, 4, 0, 7, []),
  (7, 3, 3, 0, 0, 0, 8, []),
  (8, 2, 0, 0, 0, 0, 9, []),
  (9, 20, 6, 0, 0, 0, 12, []),
  (12, 0, 0, 0, 0, 60, 14, []),
  (14, 32, 64, 2, 4, 0, 17, []),
  (17, 6, 0, 0, 0, 0, 18, []),
  (18, 2, 0, 0, 0, 0, 19, []),
  (19, 20, 6, 2, 0, 0, 22, []),
  (22, 1, 1, 0, 0, 0, 23, []),
  (23, 32, 46, 2, 9, 0, 26, []),
  (26, 4, 4, 0, 0, 0, 28, []),
  (28, 1, 2, 0, 0, 0, 29, []),
  (29, 12, 0, 42, 0, 0, 32, []),
  (32, 2, 0, 0, 0, 0, 33, []),
  (33, 20, 6, 2, 0, 0, 36, []),
  (36, 0, 0, 0, 0, (-1), 37, []),
  (37, 0, 0, 0, 0, 1, 38, []),
  (38, 1, 3, 0, 0, 0, 39, []),
  (39, 32, 74, 4, 9, 0, 42, []),
  (42, 2, 0, 0, 0, 0, 43, []),
  (43, 2, 4, 0, 0, 0, 45, []),
  (45, 32, 77, 2, 8, 0, 48, []),
  (48, 2, 0, 0, 0, 0, 49, []),
  (49, 20, 6, 0, 0, 0, 52, []),
  (52, 0, 0, 0, 0, 61, 54, []),
  (54, 32, 64, 2, 4, 0, 57, []),
  (57, 6, 0, 0, 0, 0, 58, []),
  (58, 2, 0, 0, 0, 0, 59, []),
  (59, 32, 52, 1, 8, 0, 62, []),
  (62, 2, 0, 0, 0, 0, 63, []),
  (63, 20, 6, 0, 0, 0, 66, []),
  (66, 32, 63, 1, 4, 0, 69, []),
  (69, 3, 5, 0, 0, 0, 71, []),
  (71, 2, 0, 0, 0, 0, 72, []),
  (72, 20, 6, 0, 0, 0, 75, []),
  (75, 0, 0, 0, 0, 15, 77, []),
  (77, 32, 64, 2, 4, 0, 80, []),
  (80, 6, 0, 0, 0, 0, 81, []),
  (81, 2, 0, 0, 0, 0, 82, []),
  (82, 0, 0, 0, 0, 45, 84, []),
  (84, 0, 0, 0, 0, 0, 85, []),
  (85, 0, 0, 0, 0, 0, 86, []),
  (86, 1, 5, 0, 0, 0, 88, []),
  (88, 32, 78, 5, 8, 0, 91, []),
  (91, 6, 0, 0, 0, 0, 92, []),
  (92, 2, 4, 0, 0, 0, 94, []),
  (94, 1, 5, 0, 0, 0, 96, []),
  (96, 1, 3, 0, 0, 0, 97, []),
  (97, 10, 1, 0, 0, 0, 98, []),
  (98, 0, 0, 0, 0, 1, 99, []),
  (99, 10, 0, 0, 0, 0, 100, []),
  (100, 21, 8, 6, 0, 0, 103, []),
  (103, 2, 0, 0, 0, 0, 104, []),
  (104, 20, 6, 2, 0, 0, 107, []),
  (107, 32, 80, 1, 9, 0, 110, []),
  (110, 2, 0, 0, 0, 0, 111, []),
  (111, 0, 0, 0, 0, 7, 113, []),
  (113, 2, 4, 0, 0, 0, 115, []),
  (115, 20, 8, 2, 0, 0, 118, []),
  (118, 0, 0, 0, 0, 0, 119, []),
  (119, 1, 1, 0, 0, 0, 120, []),
  (120, 32, 78, 5, 8, 0, 123, []),
  (123, 6, 0, 0, 0, 0, 124, []),
  (124, 35, 0, 0, 0, 0, 125, [])]
/-- 74: ChunkCode$Scope.declare(III)V -/
def am_i74 : List (Nat × am_I) := [(0, 2, 0, 0, 0, 0, 1, []),
  (1, 32, 75, 1, 9, 0, 4, []),
  (4, 0, 0, 0, 0, 200, 7, []),
  (7, 13, 2, 20, 0, 0, 10, []),
  (10, 2, 0, 0, 0, 0, 11, []),
  (11, 20, 7, 1, 0, 0, 14, []),
  (14, 0, 0, 0, 0, 16, 16, []),
  (16, 1, 3, 0, 0, 0, 17, []),
  (17, 32, 76, 3, 3, 0, 20, []),
  (20, 2, 0, 0, 0, 0, 21, []),
  (21, 20, 7, 4, 0, 0, 24, []),
  (24, 1, 1, 0, 0, 0, 25, []),
  (25, 1, 2, 0, 0, 0, 26, []),
  (26, 0, 0, 0, 0, 0, 27, []),
  (27, 0, 0, 0, 0, 0, 28, []),
  (28, 32, 31, 5, 5, 0, 31, []),
  (31, 6, 0, 0, 0, 0, 32, []),
  (32, 2, 0, 0, 0, 0, 33, []),
  (33, 20, 7, 6, 0, 0, 36, []),
  (36, 2, 0, 0, 0, 0, 37, []),
  (37, 20, 7, 6, 0, 0, 40, []),
  (40, 20, 8, 7, 0, 0, 43, []),
  (43, 2, 0, 0, 0, 0, 44, []),
  (44, 32, 75, 1, 9, 0, 47, []),
  (47, 32, 20, 2, 0, 0, 50, []),
  (50, 21, 8, 7, 0, 0, 53, []),
  (53, 35, 0, 0, 0, 0, 54, [])]
/-- 75: ChunkCode$Scope.count()I -/
def am_i75 : List (Nat × am_I) := [(0, 2, 0, 0, 0, 0, 1, []),
  (1, 20, 7, 4, 0, 0, 4, []),
  (4, 32, 36, 1, 5, 0, 7, []),
  (7, 2, 0, 0, 0, 0, 8, []),
  (8, 20, 7, 6, 0, 0, 11, []),
  (11, 20, 8, 9, 0, 0, 14, []),
  (14, 10, 1, 0, 0, 0, 15, []),
  (15, 33, 0, 0, 0, 0, 16, [])]
/-- 76: ChunkCode$Faults.note(II)V -/
def am_i76 : List (Nat × am_I) := [(0, 2, 0, 0, 0, 0, 1, []),
  (1, 20, 1, 0, 0, 0, 4, []),
  (4, 12, 0, 15, 0, 0, 7, []),
  (7, 1, 2, 0, 0, 0, 8, []),
  (8, 2, 0, 0, 0, 0, 9, []),
  (9, 20, 1, 1, 0, 0, 12, []),
  (12, 13, 3, 25, 0, 0, 15, []),
  (15, 2, 0, 0, 0, 0, 16, []),
  (16, 1, 1, 0, 0, 0, 17, []),
  (17, 21, 1, 0, 0, 0, 20, []),
  (20, 2, 0, 0, 0, 0, 21, []),
  (21, 1, 2, 0, 0, 0, 22, []),
  (22, 21, 1, 1, 0, 0, 25, []),
  (25, 35, 0, 0, 0, 0, 26, [])]
/-- 77: ChunkCode$Reader.bodyNames(LChunkCode$Body;)V -/
def am_i77 : List (Nat × am_I) := [(0, 2, 0, 0, 0, 0, 1, []),
  (1, 20, 6, 0, 0, 0, 4, []),
  (4, 32, 53, 1, 4, 0, 7, []),
  (7, 0, 0, 0, 0, 61, 9, []),
  (9, 13, 0, 16, 0, 0, 12, []),
  (12, 0, 0, 0, 0, 1, 13, []),
  (13, 18, 0, 17, 0, 0, 16, []),
  (16, 0, 0, 0, 0, 0, 17, []),
  (17, 3, 2, 0, 0, 0, 18, []),
  (18, 0, 0, 0, 0, 0, 19, []),
  (19, 3, 3, 0, 0, 0, 20, []),
  (20, 1, 2, 0, 0, 0, 21, []),
  (21, 12, 0, 124, 0, 0, 24, []),
  (24, 1, 3, 0, 0, 0, 25, []),
  (25, 0, 0, 0, 0, 16384, 28, []),
  (28, 13, 4, 124, 0, 0, 31, []),
  (31, 0, 0, 0, 0, 0, 32, []),
  (32, 3, 2, 0, 0, 0, 33, []),
  (33, 2, 0, 0, 0, 0, 34, []),
  (34, 20, 6, 0, 0, 0, 37, []),
  (37, 32, 53, 1, 4, 0, 40, []),
  (40, 0, 0, 0, 0, 72, 42, []),
  (42, 13, 1, 61, 0, 0, 45, []),
  (45, 2, 0, 0, 0, 0, 46, []),
  (46, 20, 6, 0, 0, 0, 49, []),
  (49, 32, 55, 1, 4, 0, 52, []),
  (52, 6, 0, 0, 0, 0, 53, []),
  (53, 2, 1, 0, 0, 0, 54, []),
  (54, 0, 0, 0, 0, 1, 55, []),
  (55, 21, 8, 5, 0, 0, 58, []),
  (58, 18, 0, 106, 0, 0, 61, []),
  (61, 2, 0, 0, 0, 0, 62, []),
  (62, 20, 6, 0, 0, 0, 65, []),
  (65, 32, 63, 1, 4, 0, 68, []),
  (68, 3, 4, 0, 0, 0, 70, []),
  (70, 2, 0, 0, 0, 0, 71, []),
  (71, 20, 6, 2, 0, 0, 74, []),
  (74, 2, 0, 0, 0, 0, 75, []),
  (75, 20, 6, 0, 0, 0, 78, []),
  (78, 0, 0, 0, 0, 1, 79, []),
  (79, 32, 64, 2, 4, 0, 82, []),
  (82, 0, 0, 0, 0, 1, 83, []),
  (83, 1, 4, 0, 0, 0, 85, []),
  (85, 32, 74, 4, 9, 0, 88, []),
  (88, 2, 0, 0, 0, 0, 89, []),
  (89, 20, 6, 0, 0, 0, 92, []),
  (92, 32, 53, 1, 4, 0, 95, []),
  (95, 0, 0, 0, 0, 69, 97, []),
  (97, 13, 1, 104, 0, 0, 100, []),
  (100, 0, 0, 0, 0, 1, 101, []),
  (101, 18, 0, 105, 0, 0, 104, []),
  (104, 0, 0, 0, 0, 0, 105, []),
  (105, 3, 2, 0, 0, 0, 106, []),
  (106, 1, 2, 0, 0, 0, 107, []),
  (107, 12, 0, 118, 0, 0, 110, []),
  (110, 2, 0, 0, 0, 0, 111, []),
  (111, 20, 6, 0, 0, 0, 114, []),
  (114, 32, 55, 1, 4, 0, 117, []),
  (117, 6, 0, 0, 0, 0, 118, []),
  (118, 5, 3, 0, 0, 1, 121, []),
  (121, 18, 0, 20, 0, 0, 124, []),
  (124, 2, 1, 0, 0, 0, 125, []),
  (125, 2, 0, 0, 0, 0, 126, []),
  (126, 20, 6, 2, 0, 0, 129, []),
  (129, 32, 75, 1, 9, 0, 132, []),
  (132, 21, 8, 4, 0, 0, 135, []),
  (135, 35, 0, 0, 0, 0, 136, [])]
/-- 78: ChunkCode$Reader.emit(IIII)I -/
def am_i78 : List (Nat × am_I) := [(0, 2, 0, 0, 0, 0, 1, []),
  (1, 20, 6, 2, 0, 0, 4, []),
  (4, 32, 79, 1, 9, 0, 7, []),
  (7, 20, 8, 0, 0, 0, 10, []),
  (10, 1, 1, 0, 0, 0, 11, []),
  (11, 1, 2, 0, 0, 0, 12, []),
  (12, 1, 3, 0, 0, 0, 13, []),
  (13, 1, 4, 0, 0, 0, 15, []),
  (15, 32, 31, 5, 5, 0, 18, []),
  (18, 33, 0, 0, 0, 0, 19, [])]
/-- 79: ChunkCode$Scope.now()LChunkCode$Body; -/
def am_i79 : List (Nat × am_I) := [(0, 2, 0, 0, 0, 0, 1, []),
  (1, 20, 7, 6, 0, 0, 4, []),
  (4, 34, 0, 0, 0, 0, 5, [])]
/-- 80: ChunkCode$Scope.endBody()V -/
def am_i80 : List (Nat × am_I) := [(0, 2, 0, 0, 0, 0, 1, []),
  (1, 32, 81, 1, 9, 0, 4, []),
  (4, 2, 0, 0, 0, 0, 5, []),
  (5, 20, 7, 0, 0, 0, 8, []),
  (8, 2, 0, 0, 0, 0, 9, []),
  (9, 20, 7, 6, 0, 0, 12, []),
  (12, 20, 8, 11, 0, 0, 15, []),
  (15, 32, 88, 2, 11, 0, 18, []),
  (18, 2, 0, 0, 0, 0, 19, []),
  (19, 20, 7, 3, 0, 0, 22, []),
  (22, 32, 14, 1, 7, 0, 25, []),
  (25, 0, 0, 0, 0, 1, 26, []),
  (26, 13, 5, 69, 0, 0, 29, []),
  (29, 2, 0, 0, 0, 0, 30, []),
  (30, 20, 7, 3, 0, 0, 33, []),
  (33, 2, 0, 0, 0, 0, 34, []),
  (34, 20, 7, 3, 0, 0, 37, []),
  (37, 32, 14, 1, 7, 0, 40, []),
  (40, 0, 0, 0, 0, 1, 41, []),
  (41, 10, 1, 0, 0, 0, 42, []),
  (42, 32, 89, 2, 7, 0, 45, []),
  (45, 6, 0, 0, 0, 0, 46, []),
  (46, 2, 0, 0, 0, 0, 47, []),
  (47, 2, 0, 0, 0, 0, 48, []),
  (48, 20, 7, 3, 0, 0, 51, []),
  (51, 2, 0, 0, 0, 0, 52, []),
  (52, 20, 7, 3, 0, 0, 55, []),
  (55, 32, 14, 1, 7, 0, 58, []),
  (58, 0, 0, 0, 0, 1, 59, []),
  (59, 10, 1, 0, 0, 0, 60, []),
  (60, 32, 25, 2, 7, 0, 63, []),
  (63, 30, 8, 0, 0, 0, 66, []),
  (66, 21, 7, 6, 1, 0, 69, []),
  (69, 35, 0, 0, 0, 0, 70, [])]
/-- 81: ChunkCode$Scope.closeBlock()V -/
def am_i81 : List (Nat × am_I) := [(0, 2, 0, 0, 0, 0, 1, []),
  (1, 20, 7, 5, 0, 0, 4, []),
  (4, 32, 36, 1, 5, 0, 7, []),
  (7, 0, 0, 0, 0, 1, 8, []),
  (8, 10, 1, 0, 0, 0, 9, []),
  (9, 3, 1, 0, 0, 0, 10, []),
  (10, 2, 0, 0, 0, 0, 11, []),
  (11, 20, 7, 0, 0, 0, 14, []),
  (14, 2, 0, 0, 0, 0, 15, []),
  (15, 20, 7, 6, 0, 0, 18, []),
  (18, 2, 0, 0, 0, 0, 19, []),
  (19, 20, 7, 5, 0, 0, 22, []),
  (22, 1, 1, 0, 0, 0, 23, []),
  (23, 0, 0, 0, 0, 1, 24, []),
  (24, 32, 54, 3, 5, 0, 27, []),
  (27, 2, 0, 0, 0, 0, 28, []),
  (28, 20, 7, 5, 0, 0, 31, []),
  (31, 1, 1, 0, 0, 0, 32, []),
  (32, 0, 0, 0, 0, 2, 33, []),
  (33, 32, 54, 3, 5, 0, 36, []),
  (36, 2, 0, 0, 0, 0, 37, []),
  (37, 32, 82, 1, 9, 0, 40, []),
  (40, 32, 83, 5, 11, 0, 43, []),
  (43, 2, 0, 0, 0, 0, 44, []),
  (44, 20, 7, 4, 0, 0, 47, []),
  (47, 2, 0, 0, 0, 0, 48, []),
  (48, 20, 7, 5, 0, 0, 51, []),
  (51, 1, 1, 0, 0, 0, 52, []),
  (52, 0, 0, 0, 0, 0, 53, []),
  (53, 32, 54, 3, 5, 0, 56, []),
  (56, 32, 30, 2, 5, 0, 59, []),
  (59, 2, 0, 0, 0, 0, 60, []),
  (60, 20, 7, 5, 0, 0, 63, []),
  (63, 1, 1, 0, 0, 0, 64, []),
  (64, 32, 30, 2, 5, 0, 67, []),
  (67, 35, 0, 0, 0, 0, 68, [])]
/-- 82: ChunkCode$Scope.before()I -/
def am_i82 : List (Nat × am_I) := [(0, 2, 0, 0, 0, 0, 1, []),
  (1, 20, 7, 5, 0, 0, 4, []),
  (4, 2, 0, 0, 0, 0, 5, []),
  (5, 20, 7, 5, 0, 0, 8, []),
  (8, 32, 36, 1, 5, 0, 11, []),
  (11, 0, 0, 0, 0, 1, 12, []),
  (12, 10, 1, 0, 0, 0, 13, []),
  (13, 0, 0, 0, 0, 0, 14, []),
  (14, 32, 54, 3, 5, 0, 17, []),
  (17, 2, 0, 0, 0, 0, 18, []),
  (18, 20, 7, 6, 0, 0, 21, []),
  (21, 20, 8, 9, 0, 0, 24, []),
  (24, 10, 1, 0, 0, 0, 25, []),
  (25, 33, 0, 0, 0, 0, 26, [])]
/-- 83: ChunkCode$Jumps.closeBlock(LChunkCode$Body;III)V -/
def am_i83 : List (Nat × am_I) := [(0, 1, 3, 0, 0, 0, 1, []),
  (1, 3, 5, 0, 0, 0, 3, []),
  (3, 1, 3, 0, 0, 0, 4, []),
  (4, 3, 6, 0, 0, 0, 6, []),
  (6, 1, 6, 0, 0, 0, 8, []),
  (8, 2, 0, 0, 0, 0, 9, []),
  (9, 20, 9, 2, 0, 0, 12, []),
  (12, 32, 36, 1, 5, 0, 15, []),
  (15, 13, 3, 71, 0, 0, 18, []),
  (18, 2, 0, 0, 0, 0, 19, []),
  (19, 2, 0, 0, 0, 0, 20, []),
  (20, 20, 9, 2, 0, 0, 23, []),
  (23, 1, 6, 0, 0, 0, 25, []),
  (25, 0, 0, 0, 0, 0, 26, []),
  (26, 32, 54, 3, 5, 0, 29, []),
  (29, 1, 2, 0, 0, 0, 30, []),
  (30, 32, 84, 3, 11, 0, 33, []),
  (33, 3, 7, 0, 0, 0, 35, []),
  (35, 1, 7, 0, 0, 0, 37, []),
  (37, 12, 2, 52, 0, 0, 40, []),
  (40, 2, 0, 0, 0, 0, 41, []),
  (41, 2, 1, 0, 0, 0, 42, []),
  (42, 1, 6, 0, 0, 0, 44, []),
  (44, 1, 7, 0, 0, 0, 46, []),
  (46, 32, 85, 4, 11, 0, 49, []),
  (49, 18, 0, 65, 0, 0, 52, []),
  (52, 2, 0, 0, 0, 0, 53, []),
  (53, 1, 6, 0, 0, 0, 55, []),
  (55, 1, 5, 0, 0, 0, 57, []),
  (57, 1, 4, 0, 0, 0, 59, []),
  (59, 32, 87, 4, 11, 0, 62, []),
  (62, 5, 5, 0, 0, 1, 65, []),
  (65, 5, 6, 0, 0, 1, 68, []),
  (68, 18, 0, 6, 0, 0, 71, []),
  (71, 2, 0, 0, 0, 0, 72, []),
  (72, 20, 9, 2, 0, 0, 75, []),
  (75, 1, 5, 0, 0, 0, 77, []),
  (77, 32, 30, 2, 5, 0, 80, []),
  (80, 2, 0, 0, 0, 0, 81, []),
  (81, 20, 9, 1, 0, 0, 84, []),
  (84, 1, 2, 0, 0, 0, 85, []),
  (85, 32, 30, 2, 5, 0, 88, []),
  (88, 35, 0, 0, 0, 0, 89, [])]
/-- 84: ChunkCode$Jumps.labelOf(II)I -/
def am_i84 : List (Nat × am_I) := [(0, 1, 2, 0, 0, 0, 1, []),
  (1, 3, 3, 0, 0, 0, 2, []),
  (2, 1, 3, 0, 0, 0, 3, []),
  (3, 2, 0, 0, 0, 0, 4, []),
  (4, 20, 9, 1, 0, 0, 7, []),
  (7, 32, 36, 1, 5, 0, 10, []),
  (10, 13, 3, 34, 0, 0, 13, []),
  (13, 2, 0, 0, 0, 0, 14, []),
  (14, 20, 9, 1, 0, 0, 17, []),
  (17, 1, 3, 0, 0, 0, 18, []),
  (18, 0, 0, 0, 0, 0, 19, []),
  (19, 32, 54, 3, 5, 0, 22, []),
  (22, 1, 1, 0, 0, 0, 23, []),
  (23, 13, 1, 28, 0, 0, 26, []),
  (26, 1, 3, 0, 0, 0, 27, []),
  (27, 33, 0, 0, 0, 0, 28, []),
  (28, 5, 3, 0, 0, 1, 31, []),
  (31, 18, 0, 2, 0, 0, 34, []),
  (34, 0, 0, 0, 0, (-1), 35, []),
  (35, 33, 0, 0, 0, 0, 36, [])]
/-- 85: ChunkCode$Jumps.lead(LChunkCode$Body;II)V -/
def am_i85 : List (Nat × am_I) := [(0, 2, 0, 0, 0, 0, 1, []),
  (1, 20, 9, 2, 0, 0, 4, []),
  (4, 1, 2, 0, 0, 0, 5, []),
  (5, 0, 0, 0, 0, 2, 6, []),
  (6, 32, 54, 3, 5, 0, 9, []),
  (9, 3, 4, 0, 0, 0, 11, []),
  (11, 2, 1, 0, 0, 0, 12, []),
  (12, 20, 8, 0, 0, 0, 15, []),
  (15, 1, 4, 0, 0, 0, 17, []),
  (17, 0, 0, 0, 0, 1, 18, []),
  (18, 2, 0, 0, 0, 0, 19, []),
  (19, 20, 9, 1, 0, 0, 22, []),
  (22, 1, 3, 0, 0, 0, 23, []),
  (23, 0, 0, 0, 0, 2, 24, []),
  (24, 32, 54, 3, 5, 0, 27, []),
  (27, 32, 86, 4, 5, 0, 30, []),
  (30, 2, 1, 0, 0, 0, 31, []),
  (31, 20, 8, 0, 0, 0, 34, []),
  (34, 1, 4, 0, 0, 0, 36, []),
  (36, 0, 0, 0, 0, 1, 37, []),
  (37, 10, 0, 0, 0, 0, 38, []),
  (38, 0, 0, 0, 0, 1, 39, []),
  (39, 2, 0, 0, 0, 0, 40, []),
  (40, 20, 9, 1, 0, 0, 43, []),
  (43, 1, 3, 0, 0, 0, 44, []),
  (44, 0, 0, 0, 0, 1, 45, []),
  (45, 32, 54, 3, 5, 0, 48, []),
  (48, 32, 86, 4, 5, 0, 51, []),
  (51, 2, 0, 0, 0, 0, 52, []),
  (52, 20, 9, 1, 0, 0, 55, []),
  (55, 1, 3, 0, 0, 0, 56, []),
  (56, 0, 0, 0, 0, 2, 57, []),
  (57, 32, 54, 3, 5, 0, 60, []),
  (60, 2, 0, 0, 0, 0, 61, []),
  (61, 20, 9, 2, 0, 0, 64, []),
  (64, 1, 2, 0, 0, 0, 65, []),
  (65, 0, 0, 0, 0, 3, 66, []),
  (66, 32, 54, 3, 5, 0, 69, []),
  (69, 13, 5, 102, 0, 0, 72, []),
  (72, 2, 0, 0, 0, 0, 73, []),
  (73, 20, 9, 1, 0, 0, 76, []),
  (76, 1, 3, 0, 0, 0, 77, []),
  (77, 0, 0, 0, 0, 3, 78, []),
  (78, 32, 54, 3, 5, 0, 81, []),
  (81, 12, 1, 102, 0, 0, 84, []),
  (84, 2, 0, 0, 0, 0, 85, []),
  (85, 20, 9, 0, 0, 0, 88, []),
  (88, 0, 0, 0, 0, 14, 90, []),
  (90, 2, 0, 0, 0, 0, 91, []),
  (91, 20, 9, 2, 0, 0, 94, []),
  (94, 1, 2, 0, 0, 0, 95, []),
  (95, 0, 0, 0, 0, 1, 96, []),
  (96, 32, 54, 3, 5, 0, 99, []),
  (99, 32, 76, 3, 3, 0, 102, []),
  (102, 35, 0, 0, 0, 0, 103, [])]
/-- 86: ChunkCode$Table.set(III)V -/
def am_i86 : List (Nat × am_I) := [(0, 1, 1, 0, 0, 0, 1, []),
  (1, 12, 2, 32, 0, 0, 4, []),
  (4, 1, 1, 0, 0, 0, 5, []),
  (5, 2, 0, 0, 0, 0, 6, []),
  (6, 20, 3, 1, 0, 0, 9, []),
  (9, 13, 3, 32, 0, 0, 12, []),
  (12, 1, 2, 0, 0, 0, 13, []),
  (13, 12, 2, 32, 0, 0, 16, []),
  (16, 1, 2, 0, 0, 0, 17, []),
  (17, 0, 0, 0, 0, 4, 18, []),
  (18, 13, 3, 32, 0, 0, 21, []),
  (21, 2, 0, 0, 0, 0, 22, []),
  (22, 20, 3, 0, 0, 0, 25, []),
  (25, 1, 1, 0, 0, 0, 26, []),
  (26, 0, 0, 0, 0, 4, 27, []),
  (27, 10, 2, 0, 0, 0, 28, []),
  (28, 1, 2, 0, 0, 0, 29, []),
  (29, 10, 0, 0, 0, 0, 30, []),
  (30, 1, 3, 0, 0, 0, 31, []),
  (31, 26, 0, 0, 0, 0, 32, []),
  (32, 35, 0, 0, 0, 0, 33, [])]
/-- 87: ChunkCode$Jumps.keep(III)V -/
def am_i87 : List (Nat × am_I) := [(0, 2, 0, 0, 0, 0, 1, []),
  (1, 20, 9, 2, 0, 0, 4, []),
  (4, 1, 2, 0, 0, 0, 5, []),
  (5, 0, 0, 0, 0, 0, 6, []),
  (6, 2, 0, 0, 0, 0, 7, []),
  (7, 20, 9, 2, 0, 0, 10, []),
  (10, 1, 1, 0, 0, 0, 11, []),
  (11, 0, 0, 0, 0, 0, 12, []),
  (12, 32, 54, 3, 5, 0, 15, []),
  (15, 32, 86, 4, 5, 0, 18, []),
  (18, 2, 0, 0, 0, 0, 19, []),
  (19, 20, 9, 2, 0, 0, 22, []),
  (22, 1, 2, 0, 0, 0, 23, []),
  (23, 0, 0, 0, 0, 1, 24, []),
  (24, 2, 0, 0, 0, 0, 25, []),
  (25, 20, 9, 2, 0, 0, 28, []),
  (28, 1, 1, 0, 0, 0, 29, []),
  (29, 0, 0, 0, 0, 1, 30, []),
  (30, 32, 54, 3, 5, 0, 33, []),
  (33, 32, 86, 4, 5, 0, 36, []),
  (36, 2, 0, 0, 0, 0, 37, []),
  (37, 20, 9, 2, 0, 0, 40, []),
  (40, 1, 2, 0, 0, 0, 41, []),
  (41, 0, 0, 0, 0, 2, 42, []),
  (42, 2, 0, 0, 0, 0, 43, []),
  (43, 20, 9, 2, 0, 0, 46, []),
  (46, 1, 1, 0, 0, 0, 47, []),
  (47, 0, 0, 0, 0, 2, 48, []),
  (48, 32, 54, 3, 5, 0, 51, []),
  (51, 32, 86, 4, 5, 0, 54, []),
  (54, 2, 0, 0, 0, 0, 55, []),
  (55, 20, 9, 2, 0, 0, 58, []),
  (58, 1, 2, 0, 0, 0, 59, []),
  (59, 0, 0, 0, 0, 3, 60, []),
  (60, 2, 0, 0, 0, 0, 61, []),
  (61, 20, 9, 2, 0, 0, 64, []),
  (64, 1, 1, 0, 0, 0, 65, []),
  (65, 0, 0, 0, 0, 3, 66, []),
  (66, 32, 54, 3, 5, 0, 69, []),
  (69, 1, 3, 0, 0, 0, 70, []),
  (70, 32, 24, 2, 0, 0, 73, []),
  (73, 32, 86, 4, 5, 0, 76, []),
  (76, 35, 0, 0, 0, 0, 77, [])]
/-- 88: ChunkCode$Jumps.refuseGotos(I)V -/
def am_i88 : List (Nat × am_I) := [(0, 1, 1, 0, 0, 0, 1, []),
  (1, 3, 2, 0, 0, 0, 2, []),
  (2, 1, 2, 0, 0, 0, 3, []),
  (3, 2, 0, 0, 0, 0, 4, []),
  (4, 20, 9, 2, 0, 0, 7, []),
  (7, 32, 36, 1, 5, 0, 10, []),
  (10, 13, 3, 37, 0, 0, 13, []),
  (13, 2, 0, 0, 0, 0, 14, []),
  (14, 20, 9, 0, 0, 0, 17, []),
  (17, 0, 0, 0, 0, 12, 19, []),
  (19, 2, 0, 0, 0, 0, 20, []),
  (20, 20, 9, 2, 0, 0, 23, []),
  (23, 1, 2, 0, 0, 0, 24, []),
  (24, 0, 0, 0, 0, 1, 25, []),
  (25, 32, 54, 3, 5, 0, 28, []),
  (28, 32, 76, 3, 3, 0, 31, []),
  (31, 5, 2, 0, 0, 1, 34, []),
  (34, 18, 0, 2, 0, 0, 37, []),
  (37, 2, 0, 0, 0, 0, 38, []),
  (38, 20, 9, 2, 0, 0, 41, []),
  (41, 1, 1, 0, 0, 0, 42, []),
  (42, 32, 30, 2, 5, 0, 45, []),
  (45, 35, 0, 0, 0, 0, 46, [])]
/-- 89: java/util/ArrayList.remove(I)Ljava/lang/Object; -/
def am_i89 : List (Nat × am_I) := [(0, 1, 1, 0, 0, 0, 1, []),
  (1, 2, 0, 0, 0, 0, 2, []),
  (2, 20, 5, 1, 0, 0, 5, []),
  (5, 32, 26, 2, 0, 0, 8, []),
  (8, 6, 0, 0, 0, 0, 9, []),
  (9, 2, 0, 0, 0, 0, 10, []),
  (10, 20, 5, 0, 0, 0, 13, []),
  (13, 4, 2, 0, 0, 0, 14, []),
  (14, 2, 2, 0, 0, 0, 15, []),
  (15, 1, 1, 0, 0, 0, 16, []),
  (16, 39, 0, 0, 0, 0, 17, []),
  (17, 4, 3, 0, 0, 0, 18, []),
  (18, 2, 0, 0, 0, 0, 19, []),
  (19, 2, 2, 0, 0, 0, 20, []),
  (20, 1, 1, 0, 0, 0, 21, []),
  (21, 32, 90, 3, 7, 0, 24, []),
  (24, 2, 3, 0, 0, 0, 25, []),
  (25, 34, 0, 0, 0, 0, 26, [])]
/-- 90: java/util/ArrayList.fastRemove([Ljava/lang/Object;I)V -/
def am_i90 : List (Nat × am_I) := [(0, 2, 0, 0, 0, 0, 1, []),
  (1, 7, 0, 0, 0, 0, 2, []),
  (2, 20, 5, 2, 0, 0, 5, []),
  (5, 0, 0, 0, 0, 1, 6, []),
  (6, 10, 0, 0, 0, 0, 7, []),
  (7, 21, 5, 2, 0, 0, 10, []),
  (10, 2, 0, 0, 0, 0, 11, []),
  (11, 20, 5, 1, 0, 0, 14, []),
  (14, 0, 0, 0, 0, 1, 15, []),
  (15, 10, 1, 0, 0, 0, 16, []),
  (16, 7, 0, 0, 0, 0, 17, []),
  (17, 3, 3, 0, 0, 0, 18, []),
  (18, 1, 2, 0, 0, 0, 19, []),
  (19, 13, 5, 34, 0, 0, 22, []),
  (22, 2, 1, 0, 0, 0, 23, []),
  (23, 1, 2, 0, 0, 0, 24, []),
  (24, 0, 0, 0, 0, 1, 25, []),
  (25, 10, 0, 0, 0, 0, 26, []),
  (26, 2, 1, 0, 0, 0, 27, []),
  (27, 1, 2, 0, 0, 0, 28, []),
  (28, 1, 3, 0, 0, 0, 29, []),
  (29, 1, 2, 0, 0, 0, 30, []),
  (30, 10, 1, 0, 0, 0, 31, []),
  (31, 42, 8, 0, 0, 0, 34, []),
  (34, 2, 1, 0, 0, 0, 35, []),
  (35, 2, 0, 0, 0, 0, 36, []),
  (36, 1, 3, 0, 0, 0, 37, []),
  (37, 9, 0, 0, 0, 0, 38, []),
  (38, 21, 5, 1, 0, 0, 41, []),
  (41, 29, 0, 0, 0, 0, 42, []),
  (42, 40, 8, 0, 0, 0, 43, []),
  (43, 35, 0, 0, 0, 0, 44, [])]
/-- 91: ChunkCode$Reader.table()V -/
def am_i91 : List (Nat × am_I) := [(0, 2, 0, 0, 0, 0, 1, []),
  (1, 0, 0, 0, 0, 20, 3, []),
  (3, 0, 0, 0, 0, 0, 4, []),
  (4, 0, 0, 0, 0, 0, 5, []),
  (5, 2, 0, 0, 0, 0, 6, []),
  (6, 20, 6, 0, 0, 0, 9, []),
  (9, 32, 63, 1, 4, 0, 12, []),
  (12, 32, 78, 5, 8, 0, 15, []),
  (15, 6, 0, 0, 0, 0, 16, []),
  (16, 2, 0, 0, 0, 0, 17, []),
  (17, 20, 6, 0, 0, 0, 20, []),
  (20, 0, 0, 0, 0, 62, 22, []),
  (22, 32, 64, 2, 4, 0, 25, []),
  (25, 6, 0, 0, 0, 0, 26, []),
  (26, 0, 0, 0, 0, 0, 27, []),
  (27, 3, 1, 0, 0, 0, 28, []),
  (28, 0, 0, 0, 0, 1, 29, []),
  (29, 3, 2, 0, 0, 0, 30, []),
  (30, 0, 0, 0, 0, 0, 31, []),
  (31, 3, 3, 0, 0, 0, 32, []),
  (32, 1, 2, 0, 0, 0, 33, []),
  (33, 12, 0, 90, 0, 0, 36, []),
  (36, 2, 0, 0, 0, 0, 37, []),
  (37, 20, 6, 0, 0, 0, 40, []),
  (40, 32, 53, 1, 4, 0, 43, []),
  (43, 0, 0, 0, 0, 63, 45, []),
  (45, 13, 0, 90, 0, 0, 48, []),
  (48, 1, 3, 0, 0, 0, 49, []),
  (49, 0, 0, 0, 0, 16384, 52, []),
  (52, 13, 4, 90, 0, 0, 55, []),
  (55, 2, 0, 0, 0, 0, 56, []),
  (56, 1, 1, 0, 0, 0, 57, []),
  (57, 32, 92, 2, 8, 0, 60, []),
  (60, 3, 1, 0, 0, 0, 61, []),
  (61, 2, 0, 0, 0, 0, 62, []),
  (62, 20, 6, 0, 0, 0, 65, []),
  (65, 32, 53, 1, 4, 0, 68, []),
  (68, 32, 95, 1, 0, 0, 71, []),
  (71, 3, 2, 0, 0, 0, 72, []),
  (72, 1, 2, 0, 0, 0, 73, []),
  (73, 12, 0, 84, 0, 0, 76, []),
  (76, 2, 0, 0, 0, 0, 77, []),
  (77, 20, 6, 0, 0, 0, 80, []),
  (80, 32, 55, 1, 4, 0, 83, []),
  (83, 6, 0, 0, 0, 0, 84, []),
  (84, 5, 3, 0, 0, 1, 87, []),
  (87, 18, 0, 32, 0, 0, 90, []),
  (90, 2, 0, 0, 0, 0, 91, []),
  (91, 20, 6, 0, 0, 0, 94, []),
  (94, 0, 0, 0, 0, 63, 96, []),
  (96, 32, 64, 2, 4, 0, 99, []),
  (99, 6, 0, 0, 0, 0, 100, []),
  (100, 35, 0, 0, 0, 0, 101, [])]
/-- 92: ChunkCode$Reader.field(I)I -/
def am_i92 : List (Nat × am_I) := [(0, 2, 0, 0, 0, 0, 1, []),
  (1, 20, 6, 0, 0, 0, 4, []),
  (4, 32, 63, 1, 4, 0, 7, []),
  (7, 3, 2, 0, 0, 0, 8, []),
  (8, 2, 0, 0, 0, 0, 9, []),
  (9, 20, 6, 0, 0, 0, 12, []),
  (12, 32, 53, 1, 4, 0, 15, []),
  (15, 0, 0, 0, 0, 64, 17, []),
  (17, 13, 1, 68, 0, 0, 20, []),
  (20, 2, 0, 0, 0, 0, 21, []),
  (21, 20, 6, 0, 0, 0, 24, []),
  (24, 32, 55, 1, 4, 0, 27, []),
  (27, 6, 0, 0, 0, 0, 28, []),
  (28, 2, 0, 0, 0, 0, 29, []),
  (29, 32, 70, 1, 8, 0, 32, []),
  (32, 2, 0, 0, 0, 0, 33, []),
  (33, 20, 6, 0, 0, 0, 36, []),
  (36, 0, 0, 0, 0, 65, 38, []),
  (38, 32, 64, 2, 4, 0, 41, []),
  (41, 6, 0, 0, 0, 0, 42, []),
  (42, 2, 0, 0, 0, 0, 43, []),
  (43, 20, 6, 0, 0, 0, 46, []),
  (46, 0, 0, 0, 0, 59, 48, []),
  (48, 32, 64, 2, 4, 0, 51, []),
  (51, 6, 0, 0, 0, 0, 52, []),
  (52, 2, 0, 0, 0, 0, 53, []),
  (53, 32, 70, 1, 8, 0, 56, []),
  (56, 2, 0, 0, 0, 0, 57, []),
  (57, 0, 0, 0, 0, 21, 59, []),
  (59, 0, 0, 0, 0, 0, 60, []),
  (60, 0, 0, 0, 0, 0, 61, []),
  (61, 1, 2, 0, 0, 0, 62, []),
  (62, 32, 78, 5, 8, 0, 65, []),
  (65, 6, 0, 0, 0, 0, 66, []),
  (66, 1, 1, 0, 0, 0, 67, []),
  (67, 33, 0, 0, 0, 0, 68, []),
  (68, 2, 0, 0, 0, 0, 69, []),
  (69, 20, 6, 0, 0, 0, 72, []),
  (72, 32, 53, 1, 4, 0, 75, []),
  (75, 0, 0, 0, 0, 1, 76, []),
  (76, 13, 1, 126, 0, 0, 79, []),
  (79, 2, 0, 0, 0, 0, 80, []),
  (80, 20, 6, 0, 0, 0, 83, []),
  (83, 1, 2, 0, 0, 0, 84, []),
  (84, 0, 0, 0, 0, 1, 85, []),
  (85, 10, 0, 0, 0, 0, 86, []),
  (86, 32, 93, 2, 4, 0, 89, []),
  (89, 0, 0, 0, 0, 59, 91, []),
  (91, 13, 1, 126, 0, 0, 94, []),
  (94, 2, 0, 0, 0, 0, 95, []),
  (95, 20, 6, 0, 0, 0, 98, []),
  (98, 32, 55, 1, 4, 0, 101, []),
  (101, 3, 3, 0, 0, 0, 102, []),
  (102, 2, 0, 0, 0, 0, 103, []),
  (103, 20, 6, 0, 0, 0, 106, []),
  (106, 32, 55, 1, 4, 0, 109, []),
  (109, 6, 0, 0, 0, 0, 110, []),
  (110, 2, 0, 0, 0, 0, 111, []),
  (111, 32, 70, 1, 8, 0, 114, []),
  (114, 2, 0, 0, 0, 0, 115, []),
  (115, 0, 0, 0, 0, 22, 117, []),
  (117, 1, 3, 0, 0, 0, 118, []),
  (118, 0, 0, 0, 0, 0, 119, []),
  (119, 1, 2, 0, 0, 0, 120, []),
  (120, 32, 78, 5, 8, 0, 123, []),
  (123, 6, 0, 0, 0, 0, 124, []),
  (124, 1, 1, 0, 0, 0, 125, []),
  (125, 33, 0, 0, 0, 0, 126, []),
  (126, 2, 0, 0, 0, 0, 127, []),
  (127, 32, 70, 1, 8, 0, 130, []),
  (130, 2, 0, 0, 0, 0, 131, []),
  (131, 20, 6, 5, 0, 0, 134, []),
  (134, 12, 0, 163, 0, 0, 137, []),
  (137, 2, 0, 0, 0, 0, 138, []),
  (138, 32, 94, 1, 8, 0, 141, []),
  (141, 12, 0, 163, 0, 0, 144, []),
  (144, 2, 0, 0, 0, 0, 145, []),
  (145, 32, 96, 1, 8, 0, 148, []),
  (148, 2, 0, 0, 0, 0, 149, []),
  (149, 0, 0, 0, 0, 24, 151, []),
  (151, 1, 1, 0, 0, 0, 152, []),
  (152, 0, 0, 0, 0, 1, 153, []),
  (153, 10, 0, 0, 0, 0, 154, []),
  (154, 0, 0, 0, 0, 0, 155, []),
  (155, 1, 2, 0, 0, 0, 156, []),
  (156, 32, 78, 5, 8, 0, 159, []),
  (159, 6, 0, 0, 0, 0, 160, []),
  (160, 18, 0, 175, 0, 0, 163, []),
  (163, 2, 0, 0, 0, 0, 164, []),
  (164, 0, 0, 0, 0, 23, 166, []),
  (166, 1, 1, 0, 0, 0, 167, []),
  (167, 0, 0, 0, 0, 1, 168, []),
  (168, 10, 0, 0, 0, 0, 169, []),
  (169, 0, 0, 0, 0, 0, 170, []),
  (170, 1, 2, 0, 0, 0, 171, []),
  (171, 32, 78, 5, 8, 0, 174, []),
  (174, 6, 0, 0, 0, 0, 175, []),
  (175, 1, 1, 0, 0, 0, 176, []),
  (176, 0, 0, 0, 0, 1, 177, []),
  (177, 10, 0, 0, 0, 0, 178, []),
  (178, 33, 0, 0, 0, 0, 179, [])]
/-- 93: ChunkCode$Words.kindAt(I)I -/
def am_i93 : List (Nat × am_I) := [(0, 2, 0, 0, 0, 0, 1, []),
  (1, 20, 2, 1, 0, 0, 4, []),
  (4, 1, 1, 0, 0, 0, 5, []),
  (5, 0, 0, 0, 0, 0, 6, []),
  (6, 32, 54, 3, 5, 0, 9, []),
  (9, 33, 0, 0, 0, 0, 10, [])]
/-- 94: ChunkCode$Reader.tableEnds()Z -/
def am_i94 : List (Nat × am_I) := [(0, 2, 0, 0, 0, 0, 1, []),
  (1, 20, 6, 0, 0, 0, 4, []),
  (4, 32, 63, 1, 4, 0, 7, []),
  (7, 3, 1, 0, 0, 0, 8, []),
  (8, 2, 0, 0, 0, 0, 9, []),
  (9, 20, 6, 0, 0, 0, 12, []),
  (12, 1, 1, 0, 0, 0, 13, []),
  (13, 32, 93, 2, 4, 0, 16, []),
  (16, 32, 95, 1, 0, 0, 19, []),
  (19, 12, 0, 25, 0, 0, 22, []),
  (22, 5, 1, 0, 0, 1, 25, []),
  (25, 2, 0, 0, 0, 0, 26, []),
  (26, 20, 6, 0, 0, 0, 29, []),
  (29, 1, 1, 0, 0, 0, 30, []),
  (30, 32, 93, 2, 4, 0, 33, []),
  (33, 0, 0, 0, 0, 63, 35, []),
  (35, 13, 1, 42, 0, 0, 38, []),
  (38, 0, 0, 0, 0, 1, 39, []),
  (39, 18, 0, 43, 0, 0, 42, []),
  (42, 0, 0, 0, 0, 0, 43, []),
  (43, 36, 0, 0, 0, 0, 44, [])]
/-- 95: ChunkCode$Reader.isSeparator(I)Z -/
def am_i95 : List (Nat × am_I) := [(0, 1, 0, 0, 0, 0, 1, []),
  (1, 0, 0, 0, 0, 69, 3, []),
  (3, 13, 0, 12, 0, 0, 6, []),
  (6, 1, 0, 0, 0, 0, 7, []),
  (7, 0, 0, 0, 0, 67, 9, []),
  (9, 13, 1, 16, 0, 0, 12, []),
  (12, 0, 0, 0, 0, 1, 13, []),
  (13, 18, 0, 17, 0, 0, 16, []),
  (16, 0, 0, 0, 0, 0, 17, []),
  (17, 36, 0, 0, 0, 0, 18, [])]
/-- 96: ChunkCode$Reader.widen()V -/
def am_i96 : List (Nat × am_I) := [(0, 2, 0, 0, 0, 0, 1, []),
  (1, 32, 97, 1, 8, 0, 4, []),
  (4, 0, 0, 0, 0, 6, 6, []),
  (6, 13, 1, 33, 0, 0, 9, []),
  (9, 2, 0, 0, 0, 0, 10, []),
  (10, 20, 6, 2, 0, 0, 13, []),
  (13, 32, 79, 1, 9, 0, 16, []),
  (16, 20, 8, 0, 0, 0, 19, []),
  (19, 2, 0, 0, 0, 0, 20, []),
  (20, 32, 98, 1, 8, 0, 23, []),
  (23, 0, 0, 0, 0, 1, 24, []),
  (24, 10, 1, 0, 0, 0, 25, []),
  (25, 0, 0, 0, 0, 2, 26, []),
  (26, 0, 0, 0, 0, 0, 27, []),
  (27, 32, 86, 4, 5, 0, 30, []),
  (30, 18, 0, 39, 0, 0, 33, []),
  (33, 2, 0, 0, 0, 0, 34, []),
  (34, 0, 0, 0, 0, 1, 35, []),
  (35, 0, 0, 0, 0, 4, 36, []),
  (36, 32, 99, 3, 8, 0, 39, []),
  (39, 35, 0, 0, 0, 0, 40, [])]
/-- 97: ChunkCode$Reader.lastOp()I -/
def am_i97 : List (Nat × am_I) := [(0, 2, 0, 0, 0, 0, 1, []),
  (1, 20, 6, 2, 0, 0, 4, []),
  (4, 32, 79, 1, 9, 0, 7, []),
  (7, 20, 8, 0, 0, 0, 10, []),
  (10, 2, 0, 0, 0, 0, 11, []),
  (11, 32, 98, 1, 8, 0, 14, []),
  (14, 0, 0, 0, 0, 1, 15, []),
  (15, 10, 1, 0, 0, 0, 16, []),
  (16, 0, 0, 0, 0, 0, 17, []),
  (17, 32, 54, 3, 5, 0, 20, []),
  (20, 33, 0, 0, 0, 0, 21, [])]
/-- 98: ChunkCode$Reader.here()I -/
def am_i98 : List (Nat × am_I) := [(0, 2, 0, 0, 0, 0, 1, []),
  (1, 20, 6, 2, 0, 0, 4, []),
  (4, 32, 79, 1, 9, 0, 7, []),
  (7, 20, 8, 0, 0, 0, 10, []),
  (10, 32, 36, 1, 5, 0, 13, []),
  (13, 33, 0, 0, 0, 0, 14, [])]
/-- 99: ChunkCode$Reader.keepCallFlags(II)V -/
def am_i99 : List (Nat × am_I) := [(0, 2, 0, 0, 0, 0, 1, []),
  (1, 32, 98, 1, 8, 0, 4, []),
  (4, 0, 0, 0, 0, 1, 5, []),
  (5, 10, 1, 0, 0, 0, 6, []),
  (6, 3, 3, 0, 0, 0, 7, []),
  (7, 2, 0, 0, 0, 0, 8, []),
  (8, 20, 6, 2, 0, 0, 11, []),
  (11, 32, 79, 1, 9, 0, 14, []),
  (14, 20, 8, 0, 0, 0, 17, []),
  (17, 1, 3, 0, 0, 0, 18, []),
  (18, 0, 0, 0, 0, 2, 19, []),
  (19, 2, 0, 0, 0, 0, 20, []),
  (20, 20, 6, 2, 0, 0, 23, []),
  (23, 32, 79, 1, 9, 0, 26, []),
  (26, 20, 8, 0, 0, 0, 29, []),
  (29, 1, 3, 0, 0, 0, 30, []),
  (30, 0, 0, 0, 0, 2, 31, []),
  (31, 32, 54, 3, 5, 0, 34, []),
  (34, 1, 1, 0, 0, 0, 35, []),
  (35, 10, 3, 0, 0, 0, 36, []),
  (36, 1, 2, 0, 0, 0, 37, []),
  (37, 10, 4, 0, 0, 0, 38, []),
  (38, 32, 86, 4, 5, 0, 41, []),
  (41, 35, 0, 0, 0, 0, 42, [])]
/-- 100: ChunkCode$Reader.settle(I)V -/
def am_i100 : List (Nat × am_I) := [(0, 1, 1, 0, 0, 0, 1, []),
  (1, 0, 0, 0, 0, 1, 2, []),
  (2, 13, 1, 32, 0, 0, 5, []),
  (5, 2, 0, 0, 0, 0, 6, []),
  (6, 2, 0, 0, 0, 0, 7, []),
  (7, 20, 6, 2, 0, 0, 10, []),
  (10, 32, 101, 1, 9, 0, 13, []),
  (13, 2, 0, 0, 0, 0, 14, []),
  (14, 20, 6, 2, 0, 0, 17, []),
  (17, 32, 102, 1, 9, 0, 20, []),
  (20, 0, 0, 0, 0, 0, 21, []),
  (21, 2, 0, 0, 0, 0, 22, []),
  (22, 20, 6, 6, 0, 0, 25, []),
  (25, 32, 78, 5, 8, 0, 28, []),
  (28, 6, 0, 0, 0, 0, 29, []),
  (29, 18, 0, 74, 0, 0, 32, []),
  (32, 1, 1, 0, 0, 0, 33, []),
  (33, 0, 0, 0, 0, 2, 34, []),
  (34, 13, 1, 56, 0, 0, 37, []),
  (37, 2, 0, 0, 0, 0, 38, []),
  (38, 0, 0, 0, 0, 12, 40, []),
  (40, 2, 0, 0, 0, 0, 41, []),
  (41, 20, 6, 7, 0, 0, 44, []),
  (44, 0, 0, 0, 0, 0, 45, []),
  (45, 2, 0, 0, 0, 0, 46, []),
  (46, 20, 6, 6, 0, 0, 49, []),
  (49, 32, 78, 5, 8, 0, 52, []),
  (52, 6, 0, 0, 0, 0, 53, []),
  (53, 18, 0, 74, 0, 0, 56, []),
  (56, 1, 1, 0, 0, 0, 57, []),
  (57, 0, 0, 0, 0, 3, 58, []),
  (58, 13, 1, 74, 0, 0, 61, []),
  (61, 2, 0, 0, 0, 0, 62, []),
  (62, 0, 0, 0, 0, 11, 64, []),
  (64, 0, 0, 0, 0, 0, 65, []),
  (65, 0, 0, 0, 0, 0, 66, []),
  (66, 2, 0, 0, 0, 0, 67, []),
  (67, 20, 6, 6, 0, 0, 70, []),
  (70, 32, 78, 5, 8, 0, 73, []),
  (73, 6, 0, 0, 0, 0, 74, []),
  (74, 35, 0, 0, 0, 0, 75, [])]
/-- 101: ChunkCode$Scope.meaning()I -/
def am_i101 : List (Nat × am_I) := [(0, 2, 0, 0, 0, 0, 1, []),
  (1, 20, 7, 7, 0, 0, 4, []),
  (4, 33, 0, 0, 0, 0, 5, [])]
/-- 102: ChunkCode$Scope.meantNumber()I -/
def am_i102 : List (Nat × am_I) := [(0, 2, 0, 0, 0, 0, 1, []),
  (1, 20, 7, 8, 0, 0, 4, []),
  (4, 33, 0, 0, 0, 0, 5, [])]
/-- 103: ChunkCode$Reader.literal()Z -/
def am_i103 : List (Nat × am_I) := [(0, 2, 0, 0, 0, 0, 1, []),
  (1, 20, 6, 0, 0, 0, 4, []),
  (4, 32, 63, 1, 4, 0, 7, []),
  (7, 3, 1, 0, 0, 0, 8, []),
  (8, 2, 0, 0, 0, 0, 9, []),
  (9, 20, 6, 0, 0, 0, 12, []),
  (12, 32, 53, 1, 4, 0, 15, []),
  (15, 3, 2, 0, 0, 0, 16, []),
  (16, 1, 2, 0, 0, 0, 17, []),
  (17, 19, 0, 186, 0, 0, 76, [(2, 112), (3, 131), (16, 88), (23, 76), (29, 100), (72, 150)]),
  (76, 2, 0, 0, 0, 0, 77, []),
  (77, 0, 0, 0, 0, 1, 78, []),
  (78, 0, 0, 0, 0, 0, 79, []),
  (79, 0, 0, 0, 0, 0, 80, []),
  (80, 0, 0, 0, 0, 0, 81, []),
  (81, 32, 78, 5, 8, 0, 84, []),
  (84, 6, 0, 0, 0, 0, 85, []),
  (85, 18, 0, 196, 0, 0, 88, []),
  (88, 2, 0, 0, 0, 0, 89, []),
  (89, 0, 0, 0, 0, 2, 90, []),
  (90, 0, 0, 0, 0, 0, 91, []),
  (91, 0, 0, 0, 0, 0, 92, []),
  (92, 0, 0, 0, 0, 0, 93, []),
  (93, 32, 78, 5, 8, 0, 96, []),
  (96, 6, 0, 0, 0, 0, 97, []),
  (97, 18, 0, 196, 0, 0, 100, []),
  (100, 2, 0, 0, 0, 0, 101, []),
  (101, 0, 0, 0, 0, 3, 102, []),
  (102, 0, 0, 0, 0, 0, 103, []),
  (103, 0, 0, 0, 0, 0, 104, []),
  (104, 0, 0, 0, 0, 0, 105, []),
  (105, 32, 78, 5, 8, 0, 108, []),
  (108, 6, 0, 0, 0, 0, 109, []),
  (109, 18, 0, 196, 0, 0, 112, []),
  (112, 2, 0, 0, 0, 0, 113, []),
  (113, 0, 0, 0, 0, 4, 114, []),
  (114, 2, 0, 0, 0, 0, 115, []),
  (115, 20, 6, 0, 0, 0, 118, []),
  (118, 1, 1, 0, 0, 0, 119, []),
  (119, 32, 104, 2, 4, 0, 122, []),
  (122, 0, 0, 0, 0, 0, 123, []),
  (123, 0, 0, 0, 0, 0, 124, []),
  (124, 32, 78, 5, 8, 0, 127, []),
  (127, 6, 0, 0, 0, 0, 128, []),
  (128, 18, 0, 196, 0, 0, 131, []),
  (131, 2, 0, 0, 0, 0, 132, []),
  (132, 0, 0, 0, 0, 5, 133, []),
  (133, 2, 0, 0, 0, 0, 134, []),
  (134, 20, 6, 0, 0, 0, 137, []),
  (137, 1, 1, 0, 0, 0, 138, []),
  (138, 32, 104, 2, 4, 0, 141, []),
  (141, 0, 0, 0, 0, 0, 142, []),
  (142, 0, 0, 0, 0, 0, 143, []),
  (143, 32, 78, 5, 8, 0, 146, []),
  (146, 6, 0, 0, 0, 0, 147, []),
  (147, 18, 0, 196, 0, 0, 150, []),
  (150, 2, 0, 0, 0, 0, 151, []),
  (151, 20, 6, 2, 0, 0, 154, []),
  (154, 32, 79, 1, 9, 0, 157, []),
  (157, 20, 8, 5, 0, 0, 160, []),
  (160, 12, 1, 173, 0, 0, 163, []),
  (163, 2, 0, 0, 0, 0, 164, []),
  (164, 20, 6, 1, 0, 0, 167, []),
  (167, 0, 0, 0, 0, 15, 169, []),
  (169, 1, 1, 0, 0, 0, 170, []),
  (170, 32, 76, 3, 3, 0, 173, []),
  (173, 2, 0, 0, 0, 0, 174, []),
  (174, 0, 0, 0, 0, 6, 176, []),
  (176, 0, 0, 0, 0, 0, 177, []),
  (177, 0, 0, 0, 0, 1, 178, []),
  (178, 0, 0, 0, 0, 0, 179, []),
  (179, 32, 78, 5, 8, 0, 182, []),
  (182, 6, 0, 0, 0, 0, 183, []),
  (183, 18, 0, 196, 0, 0, 186, []),
  (186, 2, 0, 0, 0, 0, 187, []),
  (187, 20, 6, 1, 0, 0, 190, []),
  (190, 0, 0, 0, 0, 7, 192, []),
  (192, 1, 1, 0, 0, 0, 193, []),
  (193, 32, 58, 3, 3, 0, 196, []),
  (196, 2, 0, 0, 0, 0, 197, []),
  (197, 20, 6, 0, 0, 0, 200, []),
  (200, 32, 55, 1, 4, 0, 203, []),
  (203, 6, 0, 0, 0, 0, 204, []),
  (204, 1, 2, 0, 0, 0, 205, []),
  (205, 0, 0, 0, 0, 72, 207, []),
  (207, 13, 1, 214, 0, 0, 210, []),
  (210, 0, 0, 0, 0, 1, 211, []),
  (211, 18, 0, 215, 0, 0, 214, []),
  (214, 0, 0, 0, 0, 0, 215, []),
  (215, 36, 0, 0, 0, 0, 216, [])]
/-- 104: ChunkCode$Words.textAt(I)I -/
def am_i104 : List (Nat × am_I) := [(0, 2, 0, 0, 0, 0, 1, []),
  (1, 20, 2, 1, 0, 0, 4, []),
  (4, 1, 1, 0, 0, 0, 5, []),
  (5, 0, 0, 0, 0, 1, 6, []),
  (6, 32, 54, 3, 5, 0, 9, []),
  (9, 33, 0, 0, 0, 0, 10, [])]
/-- 105: ChunkCode$Reader.binaryOperator(I)Z -/
def am_i105 : List (Nat × am_I) := [(0, 2, 0, 0, 0, 0, 1, []),
  (1, 20, 6, 0, 0, 0, 4, []),
  (4, 32, 53, 1, 4, 0, 7, []),
  (7, 3, 2, 0, 0, 0, 8, []),
  (8, 1, 2, 0, 0, 0, 9, []),
  (9, 32, 106, 1, 0, 0, 12, []),
  (12, 3, 3, 0, 0, 0, 13, []),
  (13, 1, 3, 0, 0, 0, 14, []),
  (14, 12, 1, 19, 0, 0, 17, []),
  (17, 0, 0, 0, 0, 0, 18, []),
  (18, 36, 0, 0, 0, 0, 19, []),
  (19, 2, 0, 0, 0, 0, 20, []),
  (20, 1, 1, 0, 0, 0, 21, []),
  (21, 1, 2, 0, 0, 0, 22, []),
  (22, 32, 107, 1, 0, 0, 25, []),
  (25, 12, 0, 34, 0, 0, 28, []),
  (28, 1, 3, 0, 0, 0, 29, []),
  (29, 0, 0, 0, 0, 1, 30, []),
  (30, 10, 0, 0, 0, 0, 31, []),
  (31, 18, 0, 35, 0, 0, 34, []),
  (34, 1, 3, 0, 0, 0, 35, []),
  (35, 32, 108, 3, 8, 0, 38, []),
  (38, 0, 0, 0, 0, (-1), 39, []),
  (39, 3, 4, 0, 0, 0, 41, []),
  (41, 1, 2, 0, 0, 0, 42, []),
  (42, 0, 0, 0, 0, 10, 44, []),
  (44, 13, 1, 61, 0, 0, 47, []),
  (47, 2, 0, 0, 0, 0, 48, []),
  (48, 0, 0, 0, 0, 15, 50, []),
  (50, 0, 0, 0, 0, 0, 51, []),
  (51, 0, 0, 0, 0, 0, 52, []),
  (52, 0, 0, 0, 0, 0, 53, []),
  (53, 32, 78, 5, 8, 0, 56, []),
  (56, 3, 4, 0, 0, 0, 58, []),
  (58, 18, 0, 78, 0, 0, 61, []),
  (61, 1, 2, 0, 0, 0, 62, []),
  (62, 0, 0, 0, 0, 25, 64, []),
  (64, 13, 1, 78, 0, 0, 67, []),
  (67, 2, 0, 0, 0, 0, 68, []),
  (68, 0, 0, 0, 0, 16, 70, []),
  (70, 0, 0, 0, 0, 0, 71, []),
  (71, 0, 0, 0, 0, 0, 72, []),
  (72, 0, 0, 0, 0, 0, 73, []),
  (73, 32, 78, 5, 8, 0, 76, []),
  (76, 3, 4, 0, 0, 0, 78, []),
  (78, 2, 0, 0, 0, 0, 79, []),
  (79, 20, 6, 3, 0, 0, 82, []),
  (82, 1, 3, 0, 0, 0, 83, []),
  (83, 1, 2, 0, 0, 0, 84, []),
  (84, 2, 0, 0, 0, 0, 85, []),
  (85, 20, 6, 0, 0, 0, 88, []),
  (88, 32, 63, 1, 4, 0, 91, []),
  (91, 1, 4, 0, 0, 0, 93, []),
  (93, 32, 31, 5, 5, 0, 96, []),
  (96, 6, 0, 0, 0, 0, 97, []),
  (97, 2, 0, 0, 0, 0, 98, []),
  (98, 20, 6, 0, 0, 0, 101, []),
  (101, 32, 55, 1, 4, 0, 104, []),
  (104, 6, 0, 0, 0, 0, 105, []),
  (105, 0, 0, 0, 0, 1, 106, []),
  (106, 36, 0, 0, 0, 0, 107, [])]
/-- 106: ChunkCode$Kind.rank(I)I -/
def am_i106 : List (Nat × am_I) := [(0, 1, 0, 0, 0, 0, 1, []),
  (1, 19, 0, 292, 0, 0, 264, [(10, 266), (11, 292), (12, 292), (13, 292), (14, 292), (15, 292), (16, 292), (17, 292), (18, 292), (19, 292), (20, 292), (21, 292), (22, 292), (23, 292), (24, 292), (25, 264), (26, 292), (27, 292), (28, 292), (29, 292), (30, 292), (31, 292), (32, 292), (33, 292), (34, 292), (35, 292), (36, 292), (37, 292), (38, 292), (39, 292), (40, 283), (41, 283), (42, 286), (43, 286), (44, 286), (45, 289), (46, 292), (47, 274), (48, 272), (49, 270), (50, 277), (51, 277), (52, 286), (53, 268), (54, 268), (55, 268), (56, 268), (57, 268), (58, 268), (59, 292), (60, 292), (61, 292), (62, 292), (63, 292), (64, 292), (65, 292), (66, 292), (67, 292), (68, 292), (69, 292), (70, 292), (71, 280)]),
  (264, 0, 0, 0, 0, 1, 265, []),
  (265, 33, 0, 0, 0, 0, 266, []),
  (266, 0, 0, 0, 0, 2, 267, []),
  (267, 33, 0, 0, 0, 0, 268, []),
  (268, 0, 0, 0, 0, 3, 269, []),
  (269, 33, 0, 0, 0, 0, 270, []),
  (270, 0, 0, 0, 0, 4, 271, []),
  (271, 33, 0, 0, 0, 0, 272, []),
  (272, 0, 0, 0, 0, 5, 273, []),
  (273, 33, 0, 0, 0, 0, 274, []),
  (274, 0, 0, 0, 0, 6, 276, []),
  (276, 33, 0, 0, 0, 0, 277, []),
  (277, 0, 0, 0, 0, 7, 279, []),
  (279, 33, 0, 0, 0, 0, 280, []),
  (280, 0, 0, 0, 0, 8, 282, []),
  (282, 33, 0, 0, 0, 0, 283, []),
  (283, 0, 0, 0, 0, 9, 285, []),
  (285, 33, 0, 0, 0, 0, 286, []),
  (286, 0, 0, 0, 0, 10, 288, []),
  (288, 33, 0, 0, 0, 0, 289, []),
  (289, 0, 0, 0, 0, 12, 291, []),
  (291, 33, 0, 0, 0, 0, 292, []),
  (292, 0, 0, 0, 0, 0, 293, []),
  (293, 33, 0, 0, 0, 0, 294, [])]
/-- 107: ChunkCode$Kind.goesFromRight(I)Z -/
def am_i107 : List (Nat × am_I) := [(0, 1, 0, 0, 0, 0, 1, []),
  (1, 0, 0, 0, 0, 71, 3, []),
  (3, 13, 0, 12, 0, 0, 6, []),
  (6, 1, 0, 0, 0, 0, 7, []),
  (7, 0, 0, 0, 0, 45, 9, []),
  (9, 13, 1, 16, 0, 0, 12, []),
  (12, 0, 0, 0, 0, 1, 13, []),
  (13, 18, 0, 17, 0, 0, 16, []),
  (16, 0, 0, 0, 0, 0, 17, []),
  (17, 36, 0, 0, 0, 0, 18, [])]
/-- 108: ChunkCode$Reader.reduce(II)V -/
def am_i108 : List (Nat × am_I) := [(0, 2, 0, 0, 0, 0, 1, []),
  (1, 20, 6, 3, 0, 0, 4, []),
  (4, 32, 36, 1, 5, 0, 7, []),
  (7, 0, 0, 0, 0, 1, 8, []),
  (8, 10, 1, 0, 0, 0, 9, []),
  (9, 3, 3, 0, 0, 0, 10, []),
  (10, 1, 3, 0, 0, 0, 11, []),
  (11, 1, 1, 0, 0, 0, 12, []),
  (12, 13, 2, 163, 0, 0, 15, []),
  (15, 2, 0, 0, 0, 0, 16, []),
  (16, 20, 6, 3, 0, 0, 19, []),
  (19, 1, 3, 0, 0, 0, 20, []),
  (20, 0, 0, 0, 0, 0, 21, []),
  (21, 32, 54, 3, 5, 0, 24, []),
  (24, 1, 2, 0, 0, 0, 25, []),
  (25, 13, 2, 163, 0, 0, 28, []),
  (28, 2, 0, 0, 0, 0, 29, []),
  (29, 20, 6, 3, 0, 0, 32, []),
  (32, 1, 3, 0, 0, 0, 33, []),
  (33, 0, 0, 0, 0, 1, 34, []),
  (34, 32, 54, 3, 5, 0, 37, []),
  (37, 3, 4, 0, 0, 0, 39, []),
  (39, 2, 0, 0, 0, 0, 40, []),
  (40, 20, 6, 3, 0, 0, 43, []),
  (43, 1, 3, 0, 0, 0, 44, []),
  (44, 0, 0, 0, 0, 2, 45, []),
  (45, 32, 54, 3, 5, 0, 48, []),
  (48, 3, 5, 0, 0, 0, 50, []),
  (50, 1, 4, 0, 0, 0, 52, []),
  (52, 0, 0, 0, 0, 10, 54, []),
  (54, 13, 0, 64, 0, 0, 57, []),
  (57, 1, 4, 0, 0, 0, 59, []),
  (59, 0, 0, 0, 0, 25, 61, []),
  (61, 13, 1, 87, 0, 0, 64, []),
  (64, 2, 0, 0, 0, 0, 65, []),
  (65, 20, 6, 2, 0, 0, 68, []),
  (68, 32, 79, 1, 9, 0, 71, []),
  (71, 2, 0, 0, 0, 0, 72, []),
  (72, 20, 6, 3, 0, 0, 75, []),
  (75, 1, 3, 0, 0, 0, 76, []),
  (76, 0, 0, 0, 0, 3, 77, []),
  (77, 32, 54, 3, 5, 0, 80, []),
  (80, 0, 0, 0, 0, 1, 81, []),
  (81, 32, 109, 3, 10, 0, 84, []),
  (84, 18, 0, 149, 0, 0, 87, []),
  (87, 1, 4, 0, 0, 0, 89, []),
  (89, 0, 0, 0, 0, 24, 91, []),
  (91, 13, 1, 108, 0, 0, 94, []),
  (94, 2, 0, 0, 0, 0, 95, []),
  (95, 0, 0, 0, 0, 17, 97, []),
  (97, 0, 0, 0, 0, 0, 98, []),
  (98, 0, 0, 0, 0, 0, 99, []),
  (99, 1, 5, 0, 0, 0, 101, []),
  (101, 32, 78, 5, 8, 0, 104, []),
  (104, 6, 0, 0, 0, 0, 105, []),
  (105, 18, 0, 149, 0, 0, 108, []),
  (108, 2, 0, 0, 0, 0, 109, []),
  (109, 20, 6, 3, 0, 0, 112, []),
  (112, 1, 3, 0, 0, 0, 113, []),
  (113, 0, 0, 0, 0, 0, 114, []),
  (114, 32, 54, 3, 5, 0, 117, []),
  (117, 0, 0, 0, 0, 11, 119, []),
  (119, 13, 1, 137, 0, 0, 122, []),
  (122, 2, 0, 0, 0, 0, 123, []),
  (123, 0, 0, 0, 0, 18, 125, []),
  (125, 1, 4, 0, 0, 0, 127, []),
  (127, 0, 0, 0, 0, 0, 128, []),
  (128, 1, 5, 0, 0, 0, 130, []),
  (130, 32, 78, 5, 8, 0, 133, []),
  (133, 6, 0, 0, 0, 0, 134, []),
  (134, 18, 0, 149, 0, 0, 137, []),
  (137, 2, 0, 0, 0, 0, 138, []),
  (138, 0, 0, 0, 0, 19, 140, []),
  (140, 1, 4, 0, 0, 0, 142, []),
  (142, 0, 0, 0, 0, 0, 143, []),
  (143, 1, 5, 0, 0, 0, 145, []),
  (145, 32, 78, 5, 8, 0, 148, []),
  (148, 6, 0, 0, 0, 0, 149, []),
  (149, 2, 0, 0, 0, 0, 150, []),
  (150, 20, 6, 3, 0, 0, 153, []),
  (153, 1, 3, 0, 0, 0, 154, []),
  (154, 32, 30, 2, 5, 0, 157, []),
  (157, 5, 3, 0, 0, (-1), 160, []),
  (160, 18, 0, 10, 0, 0, 163, []),
  (163, 35, 0, 0, 0, 0, 164, [])]
/-- 109: ChunkCode$Body.leadHere(II)V -/
def am_i109 : List (Nat × am_I) := [(0, 2, 0, 0, 0, 0, 1, []),
  (1, 20, 8, 0, 0, 0, 4, []),
  (4, 1, 1, 0, 0, 0, 5, []),
  (5, 1, 2, 0, 0, 0, 6, []),
  (6, 2, 0, 0, 0, 0, 7, []),
  (7, 20, 8, 0, 0, 0, 10, []),
  (10, 32, 36, 1, 5, 0, 13, []),
  (13, 32, 86, 4, 5, 0, 16, []),
  (16, 35, 0, 0, 0, 0, 17, [])]
/-- 110: ChunkCode$Reader.fieldStep()I -/
def am_i110 : List (Nat × am_I) := [(0, 2, 0, 0, 0, 0, 1, []),
  (1, 20, 6, 0, 0, 0, 4, []),
  (4, 32, 63, 1, 4, 0, 7, []),
  (7, 3, 1, 0, 0, 0, 8, []),
  (8, 2, 0, 0, 0, 0, 9, []),
  (9, 20, 6, 0, 0, 0, 12, []),
  (12, 32, 55, 1, 4, 0, 15, []),
  (15, 6, 0, 0, 0, 0, 16, []),
  (16, 2, 0, 0, 0, 0, 17, []),
  (17, 2, 0, 0, 0, 0, 18, []),
  (18, 20, 6, 0, 0, 0, 21, []),
  (21, 0, 0, 0, 0, 1, 22, []),
  (22, 32, 64, 2, 4, 0, 25, []),
  (25, 21, 6, 7, 0, 0, 28, []),
  (28, 2, 0, 0, 0, 0, 29, []),
  (29, 1, 1, 0, 0, 0, 30, []),
  (30, 21, 6, 6, 0, 0, 33, []),
  (33, 0, 0, 0, 0, 2, 34, []),
  (34, 33, 0, 0, 0, 0, 35, [])]
/-- 111: ChunkCode$Reader.arguments(I)V -/
def am_i111 : List (Nat × am_I) := [(0, 2, 0, 0, 0, 0, 1, []),
  (1, 20, 6, 0, 0, 0, 4, []),
  (4, 32, 63, 1, 4, 0, 7, []),
  (7, 3, 2, 0, 0, 0, 8, []),
  (8, 0, 0, 0, 0, 1, 9, []),
  (9, 3, 3, 0, 0, 0, 10, []),
  (10, 0, 0, 0, 0, 0, 11, []),
  (11, 3, 4, 0, 0, 0, 13, []),
  (13, 2, 0, 0, 0, 0, 14, []),
  (14, 20, 6, 0, 0, 0, 17, []),
  (17, 32, 53, 1, 4, 0, 20, []),
  (20, 0, 0, 0, 0, 3, 21, []),
  (21, 13, 1, 42, 0, 0, 24, []),
  (24, 2, 0, 0, 0, 0, 25, []),
  (25, 0, 0, 0, 0, 5, 26, []),
  (26, 2, 0, 0, 0, 0, 27, []),
  (27, 20, 6, 0, 0, 0, 30, []),
  (30, 32, 55, 1, 4, 0, 33, []),
  (33, 0, 0, 0, 0, 0, 34, []),
  (34, 0, 0, 0, 0, 0, 35, []),
  (35, 32, 78, 5, 8, 0, 38, []),
  (38, 6, 0, 0, 0, 0, 39, []),
  (39, 18, 0, 114, 0, 0, 42, []),
  (42, 2, 0, 0, 0, 0, 43, []),
  (43, 20, 6, 0, 0, 0, 46, []),
  (46, 32, 53, 1, 4, 0, 49, []),
  (49, 0, 0, 0, 0, 62, 51, []),
  (51, 13, 1, 61, 0, 0, 54, []),
  (54, 2, 0, 0, 0, 0, 55, []),
  (55, 32, 91, 1, 8, 0, 58, []),
  (58, 18, 0, 114, 0, 0, 61, []),
  (61, 2, 0, 0, 0, 0, 62, []),
  (62, 20, 6, 0, 0, 0, 65, []),
  (65, 0, 0, 0, 0, 60, 67, []),
  (67, 32, 64, 2, 4, 0, 70, []),
  (70, 6, 0, 0, 0, 0, 71, []),
  (71, 0, 0, 0, 0, 0, 72, []),
  (72, 3, 3, 0, 0, 0, 73, []),
  (73, 2, 0, 0, 0, 0, 74, []),
  (74, 20, 6, 0, 0, 0, 77, []),
  (77, 32, 53, 1, 4, 0, 80, []),
  (80, 0, 0, 0, 0, 61, 82, []),
  (82, 13, 0, 104, 0, 0, 85, []),
  (85, 2, 0, 0, 0, 0, 86, []),
  (86, 32, 112, 1, 8, 0, 89, []),
  (89, 3, 3, 0, 0, 0, 90, []),
  (90, 2, 0, 0, 0, 0, 91, []),
  (91, 20, 6, 5, 0, 0, 94, []),
  (94, 12, 0, 101, 0, 0, 97, []),
  (97, 0, 0, 0, 0, 1, 98, []),
  (98, 18, 0, 102, 0, 0, 101, []),
  (101, 0, 0, 0, 0, 0, 102, []),
  (102, 3, 4, 0, 0, 0, 104, []),
  (104, 2, 0, 0, 0, 0, 105, []),
  (105, 20, 6, 0, 0, 0, 108, []),
  (108, 0, 0, 0, 0, 61, 110, []),
  (110, 32, 64, 2, 4, 0, 113, []),
  (113, 6, 0, 0, 0, 0, 114, []),
  (114, 1, 4, 0, 0, 0, 116, []),
  (116, 0, 0, 0, 0, 1, 117, []),
  (117, 13, 1, 124, 0, 0, 120, []),
  (120, 2, 0, 0, 0, 0, 121, []),
  (121, 32, 96, 1, 8, 0, 124, []),
  (124, 2, 0, 0, 0, 0, 125, []),
  (125, 0, 0, 0, 0, 13, 127, []),
  (127, 1, 1, 0, 0, 0, 128, []),
  (128, 1, 3, 0, 0, 0, 129, []),
  (129, 10, 0, 0, 0, 0, 130, []),
  (130, 1, 4, 0, 0, 0, 132, []),
  (132, 10, 1, 0, 0, 0, 133, []),
  (133, 1, 4, 0, 0, 0, 135, []),
  (135, 0, 0, 0, 0, 2, 136, []),
  (136, 10, 0, 0, 0, 0, 137, []),
  (137, 1, 2, 0, 0, 0, 138, []),
  (138, 32, 78, 5, 8, 0, 141, []),
  (141, 6, 0, 0, 0, 0, 142, []),
  (142, 35, 0, 0, 0, 0, 143, [])]
/-- 112: ChunkCode$Reader.list()I -/
def am_i112 : List (Nat × am_I) := [(0, 0, 0, 0, 0, 0, 1, []),
  (1, 3, 1, 0, 0, 0, 2, []),
  (2, 0, 0, 0, 0, 1, 3, []),
  (3, 3, 2, 0, 0, 0, 4, []),
  (4, 0, 0, 0, 0, 0, 5, []),
  (5, 3, 3, 0, 0, 0, 6, []),
  (6, 1, 2, 0, 0, 0, 7, []),
  (7, 12, 0, 60, 0, 0, 10, []),
  (10, 1, 3, 0, 0, 0, 11, []),
  (11, 0, 0, 0, 0, 16384, 14, []),
  (14, 13, 4, 60, 0, 0, 17, []),
  (17, 2, 0, 0, 0, 0, 18, []),
  (18, 32, 70, 1, 8, 0, 21, []),
  (21, 5, 1, 0, 0, 1, 24, []),
  (24, 2, 0, 0, 0, 0, 25, []),
  (25, 20, 6, 0, 0, 0, 28, []),
  (28, 32, 53, 1, 4, 0, 31, []),
  (31, 0, 0, 0, 0, 69, 33, []),
  (33, 13, 1, 40, 0, 0, 36, []),
  (36, 0, 0, 0, 0, 1, 37, []),
  (37, 18, 0, 41, 0, 0, 40, []),
  (40, 0, 0, 0, 0, 0, 41, []),
  (41, 3, 2, 0, 0, 0, 42, []),
  (42, 1, 2, 0, 0, 0, 43, []),
  (43, 12, 0, 54, 0, 0, 46, []),
  (46, 2, 0, 0, 0, 0, 47, []),
  (47, 20, 6, 0, 0, 0, 50, []),
  (50, 32, 55, 1, 4, 0, 53, []),
  (53, 6, 0, 0, 0, 0, 54, []),
  (54, 5, 3, 0, 0, 1, 57, []),
  (57, 18, 0, 6, 0, 0, 60, []),
  (60, 1, 1, 0, 0, 0, 61, []),
  (61, 33, 0, 0, 0, 0, 62, [])]
/-- 113: ChunkCode$Reader.addTarget(I)V -/
def am_i113 : List (Nat × am_I) := [(0, 1, 1, 0, 0, 0, 1, []),
  (1, 19, 0, 119, 0, 0, 28, [(1, 28), (2, 69), (3, 100)]),
  (28, 2, 0, 0, 0, 0, 29, []),
  (29, 2, 0, 0, 0, 0, 30, []),
  (30, 20, 6, 6, 0, 0, 33, []),
  (33, 32, 114, 2, 8, 0, 36, []),
  (36, 2, 0, 0, 0, 0, 37, []),
  (37, 20, 6, 4, 0, 0, 40, []),
  (40, 2, 0, 0, 0, 0, 41, []),
  (41, 20, 6, 2, 0, 0, 44, []),
  (44, 32, 101, 1, 9, 0, 47, []),
  (47, 32, 116, 1, 0, 0, 50, []),
  (50, 2, 0, 0, 0, 0, 51, []),
  (51, 20, 6, 2, 0, 0, 54, []),
  (54, 32, 102, 1, 9, 0, 57, []),
  (57, 2, 0, 0, 0, 0, 58, []),
  (58, 20, 6, 6, 0, 0, 61, []),
  (61, 0, 0, 0, 0, 0, 62, []),
  (62, 32, 31, 5, 5, 0, 65, []),
  (65, 6, 0, 0, 0, 0, 66, []),
  (66, 18, 0, 135, 0, 0, 69, []),
  (69, 2, 0, 0, 0, 0, 70, []),
  (70, 0, 0, 0, 0, 5, 71, []),
  (71, 2, 0, 0, 0, 0, 72, []),
  (72, 20, 6, 7, 0, 0, 75, []),
  (75, 0, 0, 0, 0, 0, 76, []),
  (76, 0, 0, 0, 0, 0, 77, []),
  (77, 32, 78, 5, 8, 0, 80, []),
  (80, 6, 0, 0, 0, 0, 81, []),
  (81, 2, 0, 0, 0, 0, 82, []),
  (82, 20, 6, 4, 0, 0, 85, []),
  (85, 0, 0, 0, 0, 32, 87, []),
  (87, 0, 0, 0, 0, 0, 88, []),
  (88, 2, 0, 0, 0, 0, 89, []),
  (89, 20, 6, 6, 0, 0, 92, []),
  (92, 0, 0, 0, 0, 0, 93, []),
  (93, 32, 31, 5, 5, 0, 96, []),
  (96, 6, 0, 0, 0, 0, 97, []),
  (97, 18, 0, 135, 0, 0, 100, []),
  (100, 2, 0, 0, 0, 0, 101, []),
  (101, 20, 6, 4, 0, 0, 104, []),
  (104, 0, 0, 0, 0, 32, 106, []),
  (106, 0, 0, 0, 0, 0, 107, []),
  (107, 2, 0, 0, 0, 0, 108, []),
  (108, 20, 6, 6, 0, 0, 111, []),
  (111, 0, 0, 0, 0, 0, 112, []),
  (112, 32, 31, 5, 5, 0, 115, []),
  (115, 6, 0, 0, 0, 0, 116, []),
  (116, 18, 0, 135, 0, 0, 119, []),
  (119, 2, 0, 0, 0, 0, 120, []),
  (120, 20, 6, 1, 0, 0, 123, []),
  (123, 0, 0, 0, 0, 7, 125, []),
  (125, 2, 0, 0, 0, 0, 126, []),
  (126, 20, 6, 0, 0, 0, 129, []),
  (129, 32, 63, 1, 4, 0, 132, []),
  (132, 32, 58, 3, 3, 0, 135, []),
  (135, 35, 0, 0, 0, 0, 136, [])]
/-- 114: ChunkCode$Reader.refuseConstant(I)V -/
def am_i114 : List (Nat × am_I) := [(0, 2, 0, 0, 0, 0, 1, []),
  (1, 20, 6, 2, 0, 0, 4, []),
  (4, 32, 115, 1, 9, 0, 7, []),
  (7, 12, 0, 20, 0, 0, 10, []),
  (10, 2, 0, 0, 0, 0, 11, []),
  (11, 20, 6, 1, 0, 0, 14, []),
  (14, 0, 0, 0, 0, 10, 16, []),
  (16, 1, 1, 0, 0, 0, 17, []),
  (17, 32, 76, 3, 3, 0, 20, []),
  (20, 35, 0, 0, 0, 0, 21, [])]
/-- 115: ChunkCode$Scope.meantConstant()Z -/
def am_i115 : List (Nat × am_I) := [(0, 2, 0, 0, 0, 0, 1, []),
  (1, 20, 7, 9, 0, 0, 4, []),
  (4, 36, 0, 0, 0, 0, 5, [])]
/-- 116: ChunkCode$Op.setting(I)I -/
def am_i116 : List (Nat × am_I) := [(0, 1, 0, 0, 0, 0, 1, []),
  (1, 0, 0, 0, 0, 8, 3, []),
  (3, 10, 1, 0, 0, 0, 4, []),
  (4, 0, 0, 0, 0, 29, 6, []),
  (6, 10, 0, 0, 0, 0, 7, []),
  (7, 33, 0, 0, 0, 0, 8, [])]
/-- 117: ChunkCode$Reader.fit(II)V -/
def am_i117 : List (Nat × am_I) := [(0, 1, 2, 0, 0, 0, 1, []),
  (1, 12, 5, 35, 0, 0, 4, []),
  (4, 1, 2, 0, 0, 0, 5, []),
  (5, 1, 1, 0, 0, 0, 6, []),
  (6, 13, 4, 35, 0, 0, 9, []),
  (9, 2, 0, 0, 0, 0, 10, []),
  (10, 20, 6, 5, 0, 0, 13, []),
  (13, 12, 0, 35, 0, 0, 16, []),
  (16, 2, 0, 0, 0, 0, 17, []),
  (17, 32, 96, 1, 8, 0, 20, []),
  (20, 2, 0, 0, 0, 0, 21, []),
  (21, 0, 0, 0, 0, 25, 23, []),
  (23, 1, 1, 0, 0, 0, 24, []),
  (24, 1, 2, 0, 0, 0, 25, []),
  (25, 10, 1, 0, 0, 0, 26, []),
  (26, 0, 0, 0, 0, 1, 27, []),
  (27, 10, 0, 0, 0, 0, 28, []),
  (28, 0, 0, 0, 0, 0, 29, []),
  (29, 0, 0, 0, 0, 0, 30, []),
  (30, 32, 78, 5, 8, 0, 33, []),
  (33, 6, 0, 0, 0, 0, 34, []),
  (34, 35, 0, 0, 0, 0, 35, []),
  (35, 1, 2, 0, 0, 0, 36, []),
  (36, 3, 3, 0, 0, 0, 37, []),
  (37, 1, 3, 0, 0, 0, 38, []),
  (38, 1, 1, 0, 0, 0, 39, []),
  (39, 13, 3, 57, 0, 0, 42, []),
  (42, 2, 0, 0, 0, 0, 43, []),
  (43, 0, 0, 0, 0, 1, 44, []),
  (44, 0, 0, 0, 0, 0, 45, []),
  (45, 0, 0, 0, 0, 0, 46, []),
  (46, 0, 0, 0, 0, 0, 47, []),
  (47, 32, 78, 5, 8, 0, 50, []),
  (50, 6, 0, 0, 0, 0, 51, []),
  (51, 5, 3, 0, 0, 1, 54, []),
  (54, 18, 0, 37, 0, 0, 57, []),
  (57, 1, 2, 0, 0, 0, 58, []),
  (58, 1, 1, 0, 0, 0, 59, []),
  (59, 13, 5, 74, 0, 0, 62, []),
  (62, 2, 0, 0, 0, 0, 63, []),
  (63, 0, 0, 0, 0, 26, 65, []),
  (65, 1, 2, 0, 0, 0, 66, []),
  (66, 1, 1, 0, 0, 0, 67, []),
  (67, 10, 1, 0, 0, 0, 68, []),
  (68, 0, 0, 0, 0, 0, 69, []),
  (69, 0, 0, 0, 0, 0, 70, []),
  (70, 32, 78, 5, 8, 0, 73, []),
  (73, 6, 0, 0, 0, 0, 74, []),
  (74, 35, 0, 0, 0, 0, 75, [])]
/-- 118: ChunkCode$Reader.storeTargets(I)V -/
def am_i118 : List (Nat × am_I) := [(0, 0, 0, 0, 0, 0, 1, []),
  (1, 3, 2, 0, 0, 0, 2, []),
  (2, 2, 0, 0, 0, 0, 3, []),
  (3, 20, 6, 4, 0, 0, 6, []),
  (6, 32, 36, 1, 5, 0, 9, []),
  (9, 0, 0, 0, 0, 1, 10, []),
  (10, 10, 1, 0, 0, 0, 11, []),
  (11, 3, 3, 0, 0, 0, 12, []),
  (12, 1, 3, 0, 0, 0, 13, []),
  (13, 1, 1, 0, 0, 0, 14, []),
  (14, 13, 2, 86, 0, 0, 17, []),
  (17, 2, 0, 0, 0, 0, 18, []),
  (18, 20, 6, 4, 0, 0, 21, []),
  (21, 1, 3, 0, 0, 0, 22, []),
  (22, 0, 0, 0, 0, 1, 23, []),
  (23, 32, 54, 3, 5, 0, 26, []),
  (26, 3, 4, 0, 0, 0, 28, []),
  (28, 2, 0, 0, 0, 0, 29, []),
  (29, 20, 6, 4, 0, 0, 32, []),
  (32, 1, 3, 0, 0, 0, 33, []),
  (33, 0, 0, 0, 0, 0, 34, []),
  (34, 32, 54, 3, 5, 0, 37, []),
  (37, 0, 0, 0, 0, 32, 39, []),
  (39, 13, 1, 54, 0, 0, 42, []),
  (42, 0, 0, 0, 0, 2, 43, []),
  (43, 1, 2, 0, 0, 0, 44, []),
  (44, 10, 2, 0, 0, 0, 45, []),
  (45, 1, 3, 0, 0, 0, 46, []),
  (46, 10, 0, 0, 0, 0, 47, []),
  (47, 1, 1, 0, 0, 0, 48, []),
  (48, 10, 1, 0, 0, 0, 49, []),
  (49, 3, 4, 0, 0, 0, 51, []),
  (51, 5, 2, 0, 0, 1, 54, []),
  (54, 2, 0, 0, 0, 0, 55, []),
  (55, 2, 0, 0, 0, 0, 56, []),
  (56, 20, 6, 4, 0, 0, 59, []),
  (59, 1, 3, 0, 0, 0, 60, []),
  (60, 0, 0, 0, 0, 0, 61, []),
  (61, 32, 54, 3, 5, 0, 64, []),
  (64, 1, 4, 0, 0, 0, 66, []),
  (66, 0, 0, 0, 0, 0, 67, []),
  (67, 2, 0, 0, 0, 0, 68, []),
  (68, 20, 6, 4, 0, 0, 71, []),
  (71, 1, 3, 0, 0, 0, 72, []),
  (72, 0, 0, 0, 0, 2, 73, []),
  (73, 32, 54, 3, 5, 0, 76, []),
  (76, 32, 78, 5, 8, 0, 79, []),
  (79, 6, 0, 0, 0, 0, 80, []),
  (80, 5, 3, 0, 0, (-1), 83, []),
  (83, 18, 0, 12, 0, 0, 86, []),
  (86, 1, 2, 0, 0, 0, 87, []),
  (87, 12, 5, 102, 0, 0, 90, []),
  (90, 2, 0, 0, 0, 0, 91, []),
  (91, 0, 0, 0, 0, 26, 93, []),
  (93, 0, 0, 0, 0, 2, 94, []),
  (94, 1, 2, 0, 0, 0, 95, []),
  (95, 10, 2, 0, 0, 0, 96, []),
  (96, 0, 0, 0, 0, 0, 97, []),
  (97, 0, 0, 0, 0, 0, 98, []),
  (98, 32, 78, 5, 8, 0, 101, []),
  (101, 6, 0, 0, 0, 0, 102, []),
  (102, 2, 0, 0, 0, 0, 103, []),
  (103, 20, 6, 4, 0, 0, 106, []),
  (106, 1, 1, 0, 0, 0, 107, []),
  (107, 32, 30, 2, 5, 0, 110, []),
  (110, 35, 0, 0, 0, 0, 111, [])]
/-- 119: ChunkCode$Reader.label()V -/
def am_i119 : List (Nat × am_I) := [(0, 2, 0, 0, 0, 0, 1, []),
  (1, 20, 6, 0, 0, 0, 4, []),
  (4, 32, 55, 1, 4, 0, 7, []),
  (7, 6, 0, 0, 0, 0, 8, []),
  (8, 2, 0, 0, 0, 0, 9, []),
  (9, 20, 6, 0, 0, 0, 12, []),
  (12, 32, 63, 1, 4, 0, 15, []),
  (15, 3, 1, 0, 0, 0, 16, []),
  (16, 2, 0, 0, 0, 0, 17, []),
  (17, 20, 6, 0, 0, 0, 20, []),
  (20, 0, 0, 0, 0, 1, 21, []),
  (21, 32, 64, 2, 4, 0, 24, []),
  (24, 3, 2, 0, 0, 0, 25, []),
  (25, 2, 0, 0, 0, 0, 26, []),
  (26, 20, 6, 0, 0, 0, 29, []),
  (29, 0, 0, 0, 0, 66, 31, []),
  (31, 32, 64, 2, 4, 0, 34, []),
  (34, 6, 0, 0, 0, 0, 35, []),
  (35, 2, 0, 0, 0, 0, 36, []),
  (36, 20, 6, 2, 0, 0, 39, []),
  (39, 20, 7, 0, 0, 0, 42, []),
  (42, 1, 2, 0, 0, 0, 43, []),
  (43, 2, 0, 0, 0, 0, 44, []),
  (44, 20, 6, 2, 0, 0, 47, []),
  (47, 32, 79, 1, 9, 0, 50, []),
  (50, 20, 8, 10, 0, 0, 53, []),
  (53, 32, 84, 3, 11, 0, 56, []),
  (56, 12, 2, 69, 0, 0, 59, []),
  (59, 2, 0, 0, 0, 0, 60, []),
  (60, 20, 6, 1, 0, 0, 63, []),
  (63, 0, 0, 0, 0, 13, 65, []),
  (65, 1, 1, 0, 0, 0, 66, []),
  (66, 32, 76, 3, 3, 0, 69, []),
  (69, 2, 0, 0, 0, 0, 70, []),
  (70, 20, 6, 2, 0, 0, 73, []),
  (73, 20, 7, 0, 0, 0, 76, []),
  (76, 1, 2, 0, 0, 0, 77, []),
  (77, 2, 0, 0, 0, 0, 78, []),
  (78, 32, 98, 1, 8, 0, 81, []),
  (81, 2, 0, 0, 0, 0, 82, []),
  (82, 20, 6, 2, 0, 0, 85, []),
  (85, 32, 75, 1, 9, 0, 88, []),
  (88, 2, 0, 0, 0, 0, 89, []),
  (89, 20, 6, 0, 0, 0, 92, []),
  (92, 32, 120, 1, 4, 0, 95, []),
  (95, 32, 122, 5, 11, 0, 98, []),
  (98, 35, 0, 0, 0, 0, 99, [])]
/-- 120: ChunkCode$Words.atBlockEnd()Z -/
def am_i120 : List (Nat × am_I) := [(0, 2, 0, 0, 0, 0, 1, []),
  (1, 20, 2, 2, 0, 0, 4, []),
  (4, 3, 1, 0, 0, 0, 5, []),
  (5, 0, 0, 0, 0, 1, 6, []),
  (6, 3, 2, 0, 0, 0, 7, []),
  (7, 0, 0, 0, 0, 0, 8, []),
  (8, 3, 3, 0, 0, 0, 9, []),
  (9, 1, 2, 0, 0, 0, 10, []),
  (10, 12, 0, 60, 0, 0, 13, []),
  (13, 1, 3, 0, 0, 0, 14, []),
  (14, 0, 0, 0, 0, 16384, 17, []),
  (17, 13, 4, 60, 0, 0, 20, []),
  (20, 2, 0, 0, 0, 0, 21, []),
  (21, 1, 1, 0, 0, 0, 22, []),
  (22, 32, 93, 2, 4, 0, 25, []),
  (25, 0, 0, 0, 0, 67, 27, []),
  (27, 13, 1, 36, 0, 0, 30, []),
  (30, 5, 1, 0, 0, 1, 33, []),
  (33, 18, 0, 54, 0, 0, 36, []),
  (36, 2, 0, 0, 0, 0, 37, []),
  (37, 1, 1, 0, 0, 0, 38, []),
  (38, 32, 93, 2, 4, 0, 41, []),
  (41, 0, 0, 0, 0, 66, 43, []),
  (43, 13, 1, 52, 0, 0, 46, []),
  (46, 5, 1, 0, 0, 3, 49, []),
  (49, 18, 0, 54, 0, 0, 52, []),
  (52, 0, 0, 0, 0, 0, 53, []),
  (53, 3, 2, 0, 0, 0, 54, []),
  (54, 5, 3, 0, 0, 1, 57, []),
  (57, 18, 0, 9, 0, 0, 60, []),
  (60, 2, 0, 0, 0, 0, 61, []),
  (61, 1, 1, 0, 0, 0, 62, []),
  (62, 32, 93, 2, 4, 0, 65, []),
  (65, 32, 121, 1, 0, 0, 68, []),
  (68, 12, 0, 85, 0, 0, 71, []),
  (71, 2, 0, 0, 0, 0, 72, []),
  (72, 1, 1, 0, 0, 0, 73, []),
  (73, 32, 93, 2, 4, 0, 76, []),
  (76, 0, 0, 0, 0, 30, 78, []),
  (78, 13, 0, 85, 0, 0, 81, []),
  (81, 0, 0, 0, 0, 1, 82, []),
  (82, 18, 0, 86, 0, 0, 85, []),
  (85, 0, 0, 0, 0, 0, 86, []),
  (86, 36, 0, 0, 0, 0, 87, [])]
/-- 121: ChunkCode$Kind.endsBlock(I)Z -/
def am_i121 : List (Nat × am_I) := [(0, 1, 0, 0, 0, 0, 1, []),
  (1, 12, 0, 28, 0, 0, 4, []),
  (4, 1, 0, 0, 0, 0, 5, []),
  (5, 0, 0, 0, 0, 15, 7, []),
  (7, 13, 0, 28, 0, 0, 10, []),
  (10, 1, 0, 0, 0, 0, 11, []),
  (11, 0, 0, 0, 0, 13, 13, []),
  (13, 13, 0, 28, 0, 0, 16, []),
  (16, 1, 0, 0, 0, 0, 17, []),
  (17, 0, 0, 0, 0, 14, 19, []),
  (19, 13, 0, 28, 0, 0, 22, []),
  (22, 1, 0, 0, 0, 0, 23, []),
  (23, 0, 0, 0, 0, 30, 25, []),
  (25, 13, 1, 32, 0, 0, 28, []),
  (28, 0, 0, 0, 0, 1, 29, []),
  (29, 18, 0, 33, 0, 0, 32, []),
  (32, 0, 0, 0, 0, 0, 33, []),
  (33, 36, 0, 0, 0, 0, 34, [])]
/-- 122: ChunkCode$Jumps.addLabel(IIIZ)V -/
def am_i122 : List (Nat × am_I) := [(0, 2, 0, 0, 0, 0, 1, []),
  (1, 20, 9, 1, 0, 0, 4, []),
  (4, 1, 1, 0, 0, 0, 5, []),
  (5, 1, 2, 0, 0, 0, 6, []),
  (6, 1, 3, 0, 0, 0, 7, []),
  (7, 1, 4, 0, 0, 0, 9, []),
  (9, 12, 0, 16, 0, 0, 12, []),
  (12, 0, 0, 0, 0, 1, 13, []),
  (13, 18, 0, 17, 0, 0, 16, []),
  (16, 0, 0, 0, 0, 0, 17, []),
  (17, 32, 31, 5, 5, 0, 20, []),
  (20, 6, 0, 0, 0, 0, 21, []),
  (21, 35, 0, 0, 0, 0, 22, [])]
/-- 123: ChunkCode$Reader.breakLoop()V -/
def am_i123 : List (Nat × am_I) := [(0, 2, 0, 0, 0, 0, 1, []),
  (1, 20, 6, 0, 0, 0, 4, []),
  (4, 32, 63, 1, 4, 0, 7, []),
  (7, 3, 1, 0, 0, 0, 8, []),
  (8, 2, 0, 0, 0, 0, 9, []),
  (9, 20, 6, 0, 0, 0, 12, []),
  (12, 32, 55, 1, 4, 0, 15, []),
  (15, 6, 0, 0, 0, 0, 16, []),
  (16, 2, 0, 0, 0, 0, 17, []),
  (17, 20, 6, 2, 0, 0, 20, []),
  (20, 20, 7, 0, 0, 0, 23, []),
  (23, 32, 50, 1, 11, 0, 26, []),
  (26, 2, 0, 0, 0, 0, 27, []),
  (27, 20, 6, 2, 0, 0, 30, []),
  (30, 32, 79, 1, 9, 0, 33, []),
  (33, 20, 8, 12, 0, 0, 36, []),
  (36, 13, 1, 50, 0, 0, 39, []),
  (39, 2, 0, 0, 0, 0, 40, []),
  (40, 20, 6, 1, 0, 0, 43, []),
  (43, 0, 0, 0, 0, 11, 45, []),
  (45, 1, 1, 0, 0, 0, 46, []),
  (46, 32, 76, 3, 3, 0, 49, []),
  (49, 35, 0, 0, 0, 0, 50, []),
  (50, 2, 0, 0, 0, 0, 51, []),
  (51, 20, 6, 2, 0, 0, 54, []),
  (54, 20, 7, 0, 0, 0, 57, []),
  (57, 32, 124, 1, 11, 0, 60, []),
  (60, 3, 2, 0, 0, 0, 61, []),
  (61, 2, 0, 0, 0, 0, 62, []),
  (62, 20, 6, 2, 0, 0, 65, []),
  (65, 32, 75, 1, 9, 0, 68, []),
  (68, 1, 2, 0, 0, 0, 69, []),
  (69, 13, 5, 82, 0, 0, 72, []),
  (72, 2, 0, 0, 0, 0, 73, []),
  (73, 0, 0, 0, 0, 33, 75, []),
  (75, 1, 2, 0, 0, 0, 76, []),
  (76, 0, 0, 0, 0, 0, 77, []),
  (77, 0, 0, 0, 0, 0, 78, []),
  (78, 32, 78, 5, 8, 0, 81, []),
  (81, 6, 0, 0, 0, 0, 82, []),
  (82, 2, 0, 0, 0, 0, 83, []),
  (83, 20, 6, 2, 0, 0, 86, []),
  (86, 20, 7, 0, 0, 0, 89, []),
  (89, 2, 0, 0, 0, 0, 90, []),
  (90, 0, 0, 0, 0, 36, 92, []),
  (92, 0, 0, 0, 0, 0, 93, []),
  (93, 0, 0, 0, 0, 0, 94, []),
  (94, 0, 0, 0, 0, 0, 95, []),
  (95, 32, 78, 5, 8, 0, 98, []),
  (98, 32, 125, 2, 11, 0, 101, []),
  (101, 35, 0, 0, 0, 0, 102, [])]
/-- 124: ChunkCode$Jumps.loopLocals()I -/
def am_i124 : List (Nat × am_I) := [(0, 2, 0, 0, 0, 0, 1, []),
  (1, 20, 9, 3, 0, 0, 4, []),
  (4, 2, 0, 0, 0, 0, 5, []),
  (5, 20, 9, 3, 0, 0, 8, []),
  (8, 32, 36, 1, 5, 0, 11, []),
  (11, 0, 0, 0, 0, 1, 12, []),
  (12, 10, 1, 0, 0, 0, 13, []),
  (13, 0, 0, 0, 0, 0, 14, []),
  (14, 32, 54, 3, 5, 0, 17, []),
  (17, 33, 0, 0, 0, 0, 18, [])]
/-- 125: ChunkCode$Jumps.addBreak(I)V -/
def am_i125 : List (Nat × am_I) := [(0, 2, 0, 0, 0, 0, 1, []),
  (1, 20, 9, 4, 0, 0, 4, []),
  (4, 1, 1, 0, 0, 0, 5, []),
  (5, 0, 0, 0, 0, 0, 6, []),
  (6, 0, 0, 0, 0, 0, 7, []),
  (7, 0, 0, 0, 0, 0, 8, []),
  (8, 32, 31, 5, 5, 0, 11, []),
  (11, 6, 0, 0, 0, 0, 12, []),
  (12, 35, 0, 0, 0, 0, 13, [])]
/-- 126: ChunkCode$Reader.goTo()V -/
def am_i126 : List (Nat × am_I) := [(0, 2, 0, 0, 0, 0, 1, []),
  (1, 20, 6, 0, 0, 0, 4, []),
  (4, 32, 63, 1, 4, 0, 7, []),
  (7, 3, 1, 0, 0, 0, 8, []),
  (8, 2, 0, 0, 0, 0, 9, []),
  (9, 20, 6, 0, 0, 0, 12, []),
  (12, 32, 55, 1, 4, 0, 15, []),
  (15, 6, 0, 0, 0, 0, 16, []),
  (16, 2, 0, 0, 0, 0, 17, []),
  (17, 20, 6, 0, 0, 0, 20, []),
  (20, 0, 0, 0, 0, 1, 21, []),
  (21, 32, 64, 2, 4, 0, 24, []),
  (24, 3, 2, 0, 0, 0, 25, []),
  (25, 2, 0, 0, 0, 0, 26, []),
  (26, 0, 0, 0, 0, 34, 28, []),
  (28, 0, 0, 0, 0, 0, 29, []),
  (29, 0, 0, 0, 0, 0, 30, []),
  (30, 1, 1, 0, 0, 0, 31, []),
  (31, 32, 78, 5, 8, 0, 34, []),
  (34, 6, 0, 0, 0, 0, 35, []),
  (35, 2, 0, 0, 0, 0, 36, []),
  (36, 0, 0, 0, 0, 33, 38, []),
  (38, 0, 0, 0, 0, 0, 39, []),
  (39, 0, 0, 0, 0, 0, 40, []),
  (40, 0, 0, 0, 0, 0, 41, []),
  (41, 32, 78, 5, 8, 0, 44, []),
  (44, 3, 3, 0, 0, 0, 45, []),
  (45, 2, 0, 0, 0, 0, 46, []),
  (46, 0, 0, 0, 0, 36, 48, []),
  (48, 0, 0, 0, 0, 0, 49, []),
  (49, 0, 0, 0, 0, 0, 50, []),
  (50, 0, 0, 0, 0, 0, 51, []),
  (51, 32, 78, 5, 8, 0, 54, []),
  (54, 6, 0, 0, 0, 0, 55, []),
  (55, 2, 0, 0, 0, 0, 56, []),
  (56, 20, 6, 2, 0, 0, 59, []),
  (59, 20, 7, 0, 0, 0, 62, []),
  (62, 1, 2, 0, 0, 0, 63, []),
  (63, 1, 1, 0, 0, 0, 64, []),
  (64, 1, 3, 0, 0, 0, 65, []),
  (65, 2, 0, 0, 0, 0, 66, []),
  (66, 20, 6, 2, 0, 0, 69, []),
  (69, 32, 75, 1, 9, 0, 72, []),
  (72, 32, 127, 5, 11, 0, 75, []),
  (75, 35, 0, 0, 0, 0, 76, [])]
/-- 127: ChunkCode$Jumps.addGoto(IIII)V -/
def am_i127 : List (Nat × am_I) := [(0, 2, 0, 0, 0, 0, 1, []),
  (1, 20, 9, 2, 0, 0, 4, []),
  (4, 1, 1, 0, 0, 0, 5, []),
  (5, 1, 2, 0, 0, 0, 6, []),
  (6, 1, 3, 0, 0, 0, 7, []),
  (7, 1, 4, 0, 0, 0, 9, []),
  (9, 32, 31, 5, 5, 0, 12, []),
  (12, 6, 0, 0, 0, 0, 13, []),
  (13, 35, 0, 0, 0, 0, 14, [])]
/-- 128: ChunkCode$Reader.innerBlock()V -/
def am_i128 : List (Nat × am_I) := [(0, 2, 0, 0, 0, 0, 1, []),
  (1, 20, 6, 2, 0, 0, 4, []),
  (4, 32, 51, 1, 9, 0, 7, []),
  (7, 2, 0, 0, 0, 0, 8, []),
  (8, 32, 52, 1, 8, 0, 11, []),
  (11, 2, 0, 0, 0, 0, 12, []),
  (12, 20, 6, 2, 0, 0, 15, []),
  (15, 32, 129, 1, 9, 0, 18, []),
  (18, 12, 0, 37, 0, 0, 21, []),
  (21, 2, 0, 0, 0, 0, 22, []),
  (22, 0, 0, 0, 0, 33, 24, []),
  (24, 2, 0, 0, 0, 0, 25, []),
  (25, 20, 6, 2, 0, 0, 28, []),
  (28, 32, 82, 1, 9, 0, 31, []),
  (31, 0, 0, 0, 0, 0, 32, []),
  (32, 0, 0, 0, 0, 0, 33, []),
  (33, 32, 78, 5, 8, 0, 36, []),
  (36, 6, 0, 0, 0, 0, 37, []),
  (37, 2, 0, 0, 0, 0, 38, []),
  (38, 20, 6, 2, 0, 0, 41, []),
  (41, 32, 81, 1, 9, 0, 44, []),
  (44, 35, 0, 0, 0, 0, 45, [])]
/-- 129: ChunkCode$Scope.blockHasLocals()Z -/
def am_i129 : List (Nat × am_I) := [(0, 2, 0, 0, 0, 0, 1, []),
  (1, 32, 75, 1, 9, 0, 4, []),
  (4, 2, 0, 0, 0, 0, 5, []),
  (5, 32, 82, 1, 9, 0, 8, []),
  (8, 13, 5, 15, 0, 0, 11, []),
  (11, 0, 0, 0, 0, 1, 12, []),
  (12, 18, 0, 16, 0, 0, 15, []),
  (15, 0, 0, 0, 0, 0, 16, []),
  (16, 36, 0, 0, 0, 0, 17, [])]
/-- 130: ChunkCode$Reader.whileLoop()V -/
def am_i130 : List (Nat × am_I) := [(0, 2, 0, 0, 0, 0, 1, []),
  (1, 32, 98, 1, 8, 0, 4, []),
  (4, 3, 1, 0, 0, 0, 5, []),
  (5, 2, 0, 0, 0, 0, 6, []),
  (6, 0, 0, 0, 0, 34, 8, []),
  (8, 0, 0, 0, 0, 0, 9, []),
  (9, 0, 0, 0, 0, 0, 10, []),
  (10, 2, 0, 0, 0, 0, 11, []),
  (11, 20, 6, 0, 0, 0, 14, []),
  (14, 32, 63, 1, 4, 0, 17, []),
  (17, 32, 78, 5, 8, 0, 20, []),
  (20, 6, 0, 0, 0, 0, 21, []),
  (21, 2, 0, 0, 0, 0, 22, []),
  (22, 20, 6, 0, 0, 0, 25, []),
  (25, 32, 55, 1, 4, 0, 28, []),
  (28, 6, 0, 0, 0, 0, 29, []),
  (29, 2, 0, 0, 0, 0, 30, []),
  (30, 32, 70, 1, 8, 0, 33, []),
  (33, 2, 0, 0, 0, 0, 34, []),
  (34, 0, 0, 0, 0, 35, 36, []),
  (36, 0, 0, 0, 0, 0, 37, []),
  (37, 0, 0, 0, 0, 0, 38, []),
  (38, 0, 0, 0, 0, 0, 39, []),
  (39, 32, 78, 5, 8, 0, 42, []),
  (42, 3, 2, 0, 0, 0, 43, []),
  (43, 2, 0, 0, 0, 0, 44, []),
  (44, 20, 6, 0, 0, 0, 47, []),
  (47, 0, 0, 0, 0, 12, 49, []),
  (49, 32, 64, 2, 4, 0, 52, []),
  (52, 6, 0, 0, 0, 0, 53, []),
  (53, 2, 0, 0, 0, 0, 54, []),
  (54, 20, 6, 2, 0, 0, 57, []),
  (57, 20, 7, 0, 0, 0, 60, []),
  (60, 2, 0, 0, 0, 0, 61, []),
  (61, 20, 6, 2, 0, 0, 64, []),
  (64, 32, 75, 1, 9, 0, 67, []),
  (67, 32, 131, 2, 11, 0, 70, []),
  (70, 2, 0, 0, 0, 0, 71, []),
  (71, 32, 128, 1, 8, 0, 74, []),
  (74, 2, 0, 0, 0, 0, 75, []),
  (75, 20, 6, 0, 0, 0, 78, []),
  (78, 0, 0, 0, 0, 15, 80, []),
  (80, 32, 64, 2, 4, 0, 83, []),
  (83, 6, 0, 0, 0, 0, 84, []),
  (84, 2, 0, 0, 0, 0, 85, []),
  (85, 0, 0, 0, 0, 36, 87, []),
  (87, 1, 1, 0, 0, 0, 88, []),
  (88, 0, 0, 0, 0, 0, 89, []),
  (89, 0, 0, 0, 0, 0, 90, []),
  (90, 32, 78, 5, 8, 0, 93, []),
  (93, 6, 0, 0, 0, 0, 94, []),
  (94, 2, 0, 0, 0, 0, 95, []),
  (95, 20, 6, 2, 0, 0, 98, []),
  (98, 32, 79, 1, 9, 0, 101, []),
  (101, 1, 2, 0, 0, 0, 102, []),
  (102, 0, 0, 0, 0, 1, 103, []),
  (103, 32, 109, 3, 10, 0, 106, []),
  (106, 2, 0, 0, 0, 0, 107, []),
  (107, 20, 6, 2, 0, 0, 110, []),
  (110, 20, 7, 0, 0, 0, 113, []),
  (113, 2, 0, 0, 0, 0, 114, []),
  (114, 20, 6, 2, 0, 0, 117, []),
  (117, 32, 79, 1, 9, 0, 120, []),
  (120, 32, 132, 2, 11, 0, 123, []),
  (123, 35, 0, 0, 0, 0, 124, [])]
/-- 131: ChunkCode$Jumps.openLoop(I)V -/
def am_i131 : List (Nat × am_I) := [(0, 2, 0, 0, 0, 0, 1, []),
  (1, 20, 9, 3, 0, 0, 4, []),
  (4, 1, 1, 0, 0, 0, 5, []),
  (5, 2, 0, 0, 0, 0, 6, []),
  (6, 20, 9, 4, 0, 0, 9, []),
  (9, 32, 36, 1, 5, 0, 12, []),
  (12, 0, 0, 0, 0, 0, 13, []),
  (13, 0, 0, 0, 0, 0, 14, []),
  (14, 32, 31, 5, 5, 0, 17, []),
  (17, 6, 0, 0, 0, 0, 18, []),
  (18, 35, 0, 0, 0, 0, 19, [])]
/-- 132: ChunkCode$Jumps.closeLoop(LChunkCode$Body;)V -/
def am_i132 : List (Nat × am_I) := [(0, 2, 0, 0, 0, 0, 1, []),
  (1, 20, 9, 3, 0, 0, 4, []),
  (4, 2, 0, 0, 0, 0, 5, []),
  (5, 20, 9, 3, 0, 0, 8, []),
  (8, 32, 36, 1, 5, 0, 11, []),
  (11, 0, 0, 0, 0, 1, 12, []),
  (12, 10, 1, 0, 0, 0, 13, []),
  (13, 0, 0, 0, 0, 1, 14, []),
  (14, 32, 54, 3, 5, 0, 17, []),
  (17, 3, 2, 0, 0, 0, 18, []),
  (18, 1, 2, 0, 0, 0, 19, []),
  (19, 3, 3, 0, 0, 0, 20, []),
  (20, 1, 3, 0, 0, 0, 21, []),
  (21, 2, 0, 0, 0, 0, 22, []),
  (22, 20, 9, 4, 0, 0, 25, []),
  (25, 32, 36, 1, 5, 0, 28, []),
  (28, 13, 3, 51, 0, 0, 31, []),
  (31, 2, 1, 0, 0, 0, 32, []),
  (32, 2, 0, 0, 0, 0, 33, []),
  (33, 20, 9, 4, 0, 0, 36, []),
  (36, 1, 3, 0, 0, 0, 37, []),
  (37, 0, 0, 0, 0, 0, 38, []),
  (38, 32, 54, 3, 5, 0, 41, []),
  (41, 0, 0, 0, 0, 1, 42, []),
  (42, 32, 109, 3, 10, 0, 45, []),
  (45, 5, 3, 0, 0, 1, 48, []),
  (48, 18, 0, 20, 0, 0, 51, []),
  (51, 2, 0, 0, 0, 0, 52, []),
  (52, 20, 9, 4, 0, 0, 55, []),
  (55, 1, 2, 0, 0, 0, 56, []),
  (56, 32, 30, 2, 5, 0, 59, []),
  (59, 2, 0, 0, 0, 0, 60, []),
  (60, 20, 9, 3, 0, 0, 63, []),
  (63, 2, 0, 0, 0, 0, 64, []),
  (64, 20, 9, 3, 0, 0, 67, []),
  (67, 32, 36, 1, 5, 0, 70, []),
  (70, 0, 0, 0, 0, 1, 71, []),
  (71, 10, 1, 0, 0, 0, 72, []),
  (72, 32, 30, 2, 5, 0, 75, []),
  (75, 35, 0, 0, 0, 0, 76, [])]
/-- 133: ChunkCode$Reader.repeatLoop()V -/
def am_i133 : List (Nat × am_I) := [(0, 2, 0, 0, 0, 0, 1, []),
  (1, 32, 98, 1, 8, 0, 4, []),
  (4, 3, 1, 0, 0, 0, 5, []),
  (5, 2, 0, 0, 0, 0, 6, []),
  (6, 0, 0, 0, 0, 34, 8, []),
  (8, 0, 0, 0, 0, 0, 9, []),
  (9, 0, 0, 0, 0, 0, 10, []),
  (10, 2, 0, 0, 0, 0, 11, []),
  (11, 20, 6, 0, 0, 0, 14, []),
  (14, 32, 63, 1, 4, 0, 17, []),
  (17, 32, 78, 5, 8, 0, 20, []),
  (20, 6, 0, 0, 0, 0, 21, []),
  (21, 2, 0, 0, 0, 0, 22, []),
  (22, 20, 6, 0, 0, 0, 25, []),
  (25, 32, 55, 1, 4, 0, 28, []),
  (28, 6, 0, 0, 0, 0, 29, []),
  (29, 2, 0, 0, 0, 0, 30, []),
  (30, 20, 6, 2, 0, 0, 33, []),
  (33, 20, 7, 0, 0, 0, 36, []),
  (36, 2, 0, 0, 0, 0, 37, []),
  (37, 20, 6, 2, 0, 0, 40, []),
  (40, 32, 75, 1, 9, 0, 43, []),
  (43, 32, 131, 2, 11, 0, 46, []),
  (46, 2, 0, 0, 0, 0, 47, []),
  (47, 20, 6, 2, 0, 0, 50, []),
  (50, 32, 51, 1, 9, 0, 53, []),
  (53, 2, 0, 0, 0, 0, 54, []),
  (54, 32, 52, 1, 8, 0, 57, []),
  (57, 2, 0, 0, 0, 0, 58, []),
  (58, 20, 6, 0, 0, 0, 61, []),
  (61, 0, 0, 0, 0, 30, 63, []),
  (63, 32, 64, 2, 4, 0, 66, []),
  (66, 6, 0, 0, 0, 0, 67, []),
  (67, 2, 0, 0, 0, 0, 68, []),
  (68, 32, 70, 1, 8, 0, 71, []),
  (71, 2, 0, 0, 0, 0, 72, []),
  (72, 20, 6, 2, 0, 0, 75, []),
  (75, 32, 129, 1, 9, 0, 78, []),
  (78, 12, 0, 148, 0, 0, 81, []),
  (81, 2, 0, 0, 0, 0, 82, []),
  (82, 0, 0, 0, 0, 37, 84, []),
  (84, 0, 0, 0, 0, 0, 85, []),
  (85, 0, 0, 0, 0, 0, 86, []),
  (86, 0, 0, 0, 0, 0, 87, []),
  (87, 32, 78, 5, 8, 0, 90, []),
  (90, 3, 2, 0, 0, 0, 91, []),
  (91, 2, 0, 0, 0, 0, 92, []),
  (92, 0, 0, 0, 0, 33, 94, []),
  (94, 2, 0, 0, 0, 0, 95, []),
  (95, 20, 6, 2, 0, 0, 98, []),
  (98, 32, 82, 1, 9, 0, 101, []),
  (101, 0, 0, 0, 0, 0, 102, []),
  (102, 0, 0, 0, 0, 0, 103, []),
  (103, 32, 78, 5, 8, 0, 106, []),
  (106, 6, 0, 0, 0, 0, 107, []),
  (107, 2, 0, 0, 0, 0, 108, []),
  (108, 0, 0, 0, 0, 36, 110, []),
  (110, 1, 1, 0, 0, 0, 111, []),
  (111, 0, 0, 0, 0, 0, 112, []),
  (112, 0, 0, 0, 0, 0, 113, []),
  (113, 32, 78, 5, 8, 0, 116, []),
  (116, 6, 0, 0, 0, 0, 117, []),
  (117, 2, 0, 0, 0, 0, 118, []),
  (118, 20, 6, 2, 0, 0, 121, []),
  (121, 32, 79, 1, 9, 0, 124, []),
  (124, 1, 2, 0, 0, 0, 125, []),
  (125, 0, 0, 0, 0, 1, 126, []),
  (126, 32, 109, 3, 10, 0, 129, []),
  (129, 2, 0, 0, 0, 0, 130, []),
  (130, 0, 0, 0, 0, 33, 132, []),
  (132, 2, 0, 0, 0, 0, 133, []),
  (133, 20, 6, 2, 0, 0, 136, []),
  (136, 32, 82, 1, 9, 0, 139, []),
  (139, 0, 0, 0, 0, 0, 140, []),
  (140, 0, 0, 0, 0, 0, 141, []),
  (141, 32, 78, 5, 8, 0, 144, []),
  (144, 6, 0, 0, 0, 0, 145, []),
  (145, 18, 0, 158, 0, 0, 148, []),
  (148, 2, 0, 0, 0, 0, 149, []),
  (149, 0, 0, 0, 0, 35, 151, []),
  (151, 1, 1, 0, 0, 0, 152, []),
  (152, 0, 0, 0, 0, 0, 153, []),
  (153, 0, 0, 0, 0, 0, 154, []),
  (154, 32, 78, 5, 8, 0, 157, []),
  (157, 6, 0, 0, 0, 0, 158, []),
  (158, 2, 0, 0, 0, 0, 159, []),
  (159, 20, 6, 2, 0, 0, 162, []),
  (162, 32, 81, 1, 9, 0, 165, []),
  (165, 2, 0, 0, 0, 0, 166, []),
  (166, 20, 6, 2, 0, 0, 169, []),
  (169, 20, 7, 0, 0, 0, 172, []),
  (172, 2, 0, 0, 0, 0, 173, []),
  (173, 20, 6, 2, 0, 0, 176, []),
  (176, 32, 79, 1, 9, 0, 179, []),
  (179, 32, 132, 2, 11, 0, 182, []),
  (182, 35, 0, 0, 0, 0, 183, [])]
/-- 134: ChunkCode$Reader.choice()V -/
def am_i134 : List (Nat × am_I) := [(0, 0, 0, 0, 0, (-1), 1, []),
  (1, 3, 1, 0, 0, 0, 2, []),
  (2, 2, 0, 0, 0, 0, 3, []),
  (3, 32, 135, 1, 8, 0, 6, []),
  (6, 3, 2, 0, 0, 0, 7, []),
  (7, 2, 0, 0, 0, 0, 8, []),
  (8, 32, 128, 1, 8, 0, 11, []),
  (11, 0, 0, 0, 0, 0, 12, []),
  (12, 3, 3, 0, 0, 0, 13, []),
  (13, 2, 0, 0, 0, 0, 14, []),
  (14, 20, 6, 0, 0, 0, 17, []),
  (17, 32, 53, 1, 4, 0, 20, []),
  (20, 0, 0, 0, 0, 14, 22, []),
  (22, 13, 1, 54, 0, 0, 25, []),
  (25, 1, 3, 0, 0, 0, 26, []),
  (26, 0, 0, 0, 0, 16384, 29, []),
  (29, 13, 4, 54, 0, 0, 32, []),
  (32, 2, 0, 0, 0, 0, 33, []),
  (33, 1, 2, 0, 0, 0, 34, []),
  (34, 1, 1, 0, 0, 0, 35, []),
  (35, 32, 136, 3, 8, 0, 38, []),
  (38, 3, 1, 0, 0, 0, 39, []),
  (39, 2, 0, 0, 0, 0, 40, []),
  (40, 32, 135, 1, 8, 0, 43, []),
  (43, 3, 2, 0, 0, 0, 44, []),
  (44, 2, 0, 0, 0, 0, 45, []),
  (45, 32, 128, 1, 8, 0, 48, []),
  (48, 5, 3, 0, 0, 1, 51, []),
  (51, 18, 0, 13, 0, 0, 54, []),
  (54, 2, 0, 0, 0, 0, 55, []),
  (55, 20, 6, 0, 0, 0, 58, []),
  (58, 32, 53, 1, 4, 0, 61, []),
  (61, 0, 0, 0, 0, 13, 63, []),
  (63, 13, 1, 87, 0, 0, 66, []),
  (66, 2, 0, 0, 0, 0, 67, []),
  (67, 1, 2, 0, 0, 0, 68, []),
  (68, 1, 1, 0, 0, 0, 69, []),
  (69, 32, 136, 3, 8, 0, 72, []),
  (72, 3, 1, 0, 0, 0, 73, []),
  (73, 0, 0, 0, 0, (-1), 74, []),
  (74, 3, 2, 0, 0, 0, 75, []),
  (75, 2, 0, 0, 0, 0, 76, []),
  (76, 20, 6, 0, 0, 0, 79, []),
  (79, 32, 55, 1, 4, 0, 82, []),
  (82, 6, 0, 0, 0, 0, 83, []),
  (83, 2, 0, 0, 0, 0, 84, []),
  (84, 32, 128, 1, 8, 0, 87, []),
  (87, 2, 0, 0, 0, 0, 88, []),
  (88, 20, 6, 0, 0, 0, 91, []),
  (91, 0, 0, 0, 0, 15, 93, []),
  (93, 32, 64, 2, 4, 0, 96, []),
  (96, 6, 0, 0, 0, 0, 97, []),
  (97, 2, 0, 0, 0, 0, 98, []),
  (98, 20, 6, 2, 0, 0, 101, []),
  (101, 32, 79, 1, 9, 0, 104, []),
  (104, 1, 2, 0, 0, 0, 105, []),
  (105, 0, 0, 0, 0, 1, 106, []),
  (106, 32, 109, 3, 10, 0, 109, []),
  (109, 2, 0, 0, 0, 0, 110, []),
  (110, 1, 1, 0, 0, 0, 111, []),
  (111, 32, 137, 2, 8, 0, 114, []),
  (114, 35, 0, 0, 0, 0, 115, [])]
/-- 135: ChunkCode$Reader.condition()I -/
def am_i135 : List (Nat × am_I) := [(0, 2, 0, 0, 0, 0, 1, []),
  (1, 20, 6, 0, 0, 0, 4, []),
  (4, 32, 55, 1, 4, 0, 7, []),
  (7, 6, 0, 0, 0, 0, 8, []),
  (8, 2, 0, 0, 0, 0, 9, []),
  (9, 32, 70, 1, 8, 0, 12, []),
  (12, 2, 0, 0, 0, 0, 13, []),
  (13, 20, 6, 0, 0, 0, 16, []),
  (16, 0, 0, 0, 0, 28, 18, []),
  (18, 32, 64, 2, 4, 0, 21, []),
  (21, 6, 0, 0, 0, 0, 22, []),
  (22, 2, 0, 0, 0, 0, 23, []),
  (23, 0, 0, 0, 0, 35, 25, []),
  (25, 0, 0, 0, 0, 0, 26, []),
  (26, 0, 0, 0, 0, 0, 27, []),
  (27, 0, 0, 0, 0, 0, 28, []),
  (28, 32, 78, 5, 8, 0, 31, []),
  (31, 33, 0, 0, 0, 0, 32, [])]
/-- 136: ChunkCode$Reader.nextPart(II)I -/
def am_i136 : List (Nat × am_I) := [(0, 2, 0, 0, 0, 0, 1, []),
  (1, 0, 0, 0, 0, 36, 3, []),
  (3, 1, 2, 0, 0, 0, 4, []),
  (4, 0, 0, 0, 0, 0, 5, []),
  (5, 0, 0, 0, 0, 0, 6, []),
  (6, 32, 78, 5, 8, 0, 9, []),
  (9, 3, 3, 0, 0, 0, 10, []),
  (10, 2, 0, 0, 0, 0, 11, []),
  (11, 20, 6, 2, 0, 0, 14, []),
  (14, 32, 79, 1, 9, 0, 17, []),
  (17, 1, 1, 0, 0, 0, 18, []),
  (18, 0, 0, 0, 0, 1, 19, []),
  (19, 32, 109, 3, 10, 0, 22, []),
  (22, 1, 3, 0, 0, 0, 23, []),
  (23, 33, 0, 0, 0, 0, 24, [])]
/-- 137: ChunkCode$Reader.leadChainHere(I)V -/
def am_i137 : List (Nat × am_I) := [(0, 1, 1, 0, 0, 0, 1, []),
  (1, 3, 2, 0, 0, 0, 2, []),
  (2, 0, 0, 0, 0, 0, 3, []),
  (3, 3, 3, 0, 0, 0, 4, []),
  (4, 1, 2, 0, 0, 0, 5, []),
  (5, 12, 2, 53, 0, 0, 8, []),
  (8, 1, 3, 0, 0, 0, 9, []),
  (9, 0, 0, 0, 0, 16384, 12, []),
  (12, 13, 4, 53, 0, 0, 15, []),
  (15, 2, 0, 0, 0, 0, 16, []),
  (16, 20, 6, 2, 0, 0, 19, []),
  (19, 32, 79, 1, 9, 0, 22, []),
  (22, 20, 8, 0, 0, 0, 25, []),
  (25, 1, 2, 0, 0, 0, 26, []),
  (26, 0, 0, 0, 0, 1, 27, []),
  (27, 32, 54, 3, 5, 0, 30, []),
  (30, 3, 4, 0, 0, 0, 32, []),
  (32, 2, 0, 0, 0, 0, 33, []),
  (33, 20, 6, 2, 0, 0, 36, []),
  (36, 32, 79, 1, 9, 0, 39, []),
  (39, 1, 2, 0, 0, 0, 40, []),
  (40, 0, 0, 0, 0, 1, 41, []),
  (41, 32, 109, 3, 10, 0, 44, []),
  (44, 1, 4, 0, 0, 0, 46, []),
  (46, 3, 2, 0, 0, 0, 47, []),
  (47, 5, 3, 0, 0, 1, 50, []),
  (50, 18, 0, 4, 0, 0, 53, []),
  (53, 35, 0, 0, 0, 0, 54, [])]
/-- 138: ChunkCode$Reader.numberLoop()V -/
def am_i138 : List (Nat × am_I) := [(0, 2, 0, 0, 0, 0, 1, []),
  (1, 20, 6, 0, 0, 0, 4, []),
  (4, 32, 63, 1, 4, 0, 7, []),
  (7, 3, 1, 0, 0, 0, 8, []),
  (8, 2, 0, 0, 0, 0, 9, []),
  (9, 20, 6, 0, 0, 0, 12, []),
  (12, 32, 55, 1, 4, 0, 15, []),
  (15, 6, 0, 0, 0, 0, 16, []),
  (16, 2, 0, 0, 0, 0, 17, []),
  (17, 20, 6, 0, 0, 0, 20, []),
  (20, 32, 63, 1, 4, 0, 23, []),
  (23, 3, 2, 0, 0, 0, 24, []),
  (24, 2, 0, 0, 0, 0, 25, []),
  (25, 20, 6, 0, 0, 0, 28, []),
  (28, 0, 0, 0, 0, 1, 29, []),
  (29, 32, 64, 2, 4, 0, 32, []),
  (32, 6, 0, 0, 0, 0, 33, []),
  (33, 2, 0, 0, 0, 0, 34, []),
  (34, 20, 6, 0, 0, 0, 37, []),
  (37, 0, 0, 0, 0, 59, 39, []),
  (39, 32, 64, 2, 4, 0, 42, []),
  (42, 6, 0, 0, 0, 0, 43, []),
  (43, 2, 0, 0, 0, 0, 44, []),
  (44, 32, 139, 1, 8, 0, 47, []),
  (47, 2, 0, 0, 0, 0, 48, []),
  (48, 20, 6, 0, 0, 0, 51, []),
  (51, 0, 0, 0, 0, 12, 53, []),
  (53, 32, 64, 2, 4, 0, 56, []),
  (56, 6, 0, 0, 0, 0, 57, []),
  (57, 2, 0, 0, 0, 0, 58, []),
  (58, 0, 0, 0, 0, 3, 59, []),
  (59, 0, 0, 0, 0, 0, 60, []),
  (60, 1, 1, 0, 0, 0, 61, []),
  (61, 32, 140, 4, 8, 0, 64, []),
  (64, 3, 3, 0, 0, 0, 65, []),
  (65, 2, 0, 0, 0, 0, 66, []),
  (66, 0, 0, 0, 0, 38, 68, []),
  (68, 1, 3, 0, 0, 0, 69, []),
  (69, 0, 0, 0, 0, 0, 70, []),
  (70, 1, 1, 0, 0, 0, 71, []),
  (71, 32, 78, 5, 8, 0, 74, []),
  (74, 3, 4, 0, 0, 0, 76, []),
  (76, 2, 0, 0, 0, 0, 77, []),
  (77, 0, 0, 0, 0, 34, 79, []),
  (79, 0, 0, 0, 0, 0, 80, []),
  (80, 0, 0, 0, 0, 0, 81, []),
  (81, 1, 1, 0, 0, 0, 82, []),
  (82, 32, 78, 5, 8, 0, 85, []),
  (85, 3, 5, 0, 0, 0, 87, []),
  (87, 2, 0, 0, 0, 0, 88, []),
  (88, 0, 0, 0, 0, 39, 90, []),
  (90, 1, 3, 0, 0, 0, 91, []),
  (91, 0, 0, 0, 0, 0, 92, []),
  (92, 0, 0, 0, 0, 0, 93, []),
  (93, 32, 78, 5, 8, 0, 96, []),
  (96, 6, 0, 0, 0, 0, 97, []),
  (97, 2, 0, 0, 0, 0, 98, []),
  (98, 1, 2, 0, 0, 0, 99, []),
  (99, 0, 0, 0, 0, 1, 100, []),
  (100, 32, 142, 3, 8, 0, 103, []),
  (103, 2, 0, 0, 0, 0, 104, []),
  (104, 0, 0, 0, 0, 40, 106, []),
  (106, 1, 3, 0, 0, 0, 107, []),
  (107, 1, 5, 0, 0, 0, 109, []),
  (109, 0, 0, 0, 0, 0, 110, []),
  (110, 32, 78, 5, 8, 0, 113, []),
  (113, 6, 0, 0, 0, 0, 114, []),
  (114, 2, 0, 0, 0, 0, 115, []),
  (115, 20, 6, 2, 0, 0, 118, []),
  (118, 32, 79, 1, 9, 0, 121, []),
  (121, 1, 4, 0, 0, 0, 123, []),
  (123, 0, 0, 0, 0, 2, 124, []),
  (124, 32, 109, 3, 10, 0, 127, []),
  (127, 2, 0, 0, 0, 0, 128, []),
  (128, 32, 143, 1, 8, 0, 131, []),
  (131, 2, 0, 0, 0, 0, 132, []),
  (132, 0, 0, 0, 0, 41, 134, []),
  (134, 1, 3, 0, 0, 0, 135, []),
  (135, 0, 0, 0, 0, 0, 136, []),
  (136, 0, 0, 0, 0, 0, 137, []),
  (137, 32, 78, 5, 8, 0, 140, []),
  (140, 6, 0, 0, 0, 0, 141, []),
  (141, 35, 0, 0, 0, 0, 142, [])]
/-- 139: ChunkCode$Reader.numberLoopValues()V -/
def am_i139 : List (Nat × am_I) := [(0, 2, 0, 0, 0, 0, 1, []),
  (1, 32, 70, 1, 8, 0, 4, []),
  (4, 2, 0, 0, 0, 0, 5, []),
  (5, 20, 6, 0, 0, 0, 8, []),
  (8, 0, 0, 0, 0, 69, 10, []),
  (10, 32, 64, 2, 4, 0, 13, []),
  (13, 6, 0, 0, 0, 0, 14, []),
  (14, 2, 0, 0, 0, 0, 15, []),
  (15, 32, 70, 1, 8, 0, 18, []),
  (18, 2, 0, 0, 0, 0, 19, []),
  (19, 20, 6, 0, 0, 0, 22, []),
  (22, 32, 53, 1, 4, 0, 25, []),
  (25, 0, 0, 0, 0, 69, 27, []),
  (27, 13, 1, 45, 0, 0, 30, []),
  (30, 2, 0, 0, 0, 0, 31, []),
  (31, 20, 6, 0, 0, 0, 34, []),
  (34, 32, 55, 1, 4, 0, 37, []),
  (37, 6, 0, 0, 0, 0, 38, []),
  (38, 2, 0, 0, 0, 0, 39, []),
  (39, 32, 70, 1, 8, 0, 42, []),
  (42, 18, 0, 55, 0, 0, 45, []),
  (45, 2, 0, 0, 0, 0, 46, []),
  (46, 0, 0, 0, 0, 4, 47, []),
  (47, 0, 0, 0, 0, (-4), 49, []),
  (49, 0, 0, 0, 0, 0, 50, []),
  (50, 0, 0, 0, 0, 0, 51, []),
  (51, 32, 78, 5, 8, 0, 54, []),
  (54, 6, 0, 0, 0, 0, 55, []),
  (55, 35, 0, 0, 0, 0, 56, [])]
/-- 140: ChunkCode$Reader.openHidden(III)I -/
def am_i140 : List (Nat × am_I) := [(0, 2, 0, 0, 0, 0, 1, []),
  (1, 20, 6, 2, 0, 0, 4, []),
  (4, 32, 75, 1, 9, 0, 7, []),
  (7, 3, 4, 0, 0, 0, 9, []),
  (9, 2, 0, 0, 0, 0, 10, []),
  (10, 20, 6, 2, 0, 0, 13, []),
  (13, 32, 51, 1, 9, 0, 16, []),
  (16, 0, 0, 0, 0, 0, 17, []),
  (17, 3, 5, 0, 0, 0, 19, []),
  (19, 1, 5, 0, 0, 0, 21, []),
  (21, 1, 1, 0, 0, 0, 22, []),
  (22, 13, 3, 41, 0, 0, 25, []),
  (25, 2, 0, 0, 0, 0, 26, []),
  (26, 20, 6, 2, 0, 0, 29, []),
  (29, 0, 0, 0, 0, 0, 30, []),
  (30, 0, 0, 0, 0, 0, 31, []),
  (31, 1, 3, 0, 0, 0, 32, []),
  (32, 32, 74, 4, 9, 0, 35, []),
  (35, 5, 5, 0, 0, 1, 38, []),
  (38, 18, 0, 19, 0, 0, 41, []),
  (41, 2, 0, 0, 0, 0, 42, []),
  (42, 20, 6, 2, 0, 0, 45, []),
  (45, 1, 2, 0, 0, 0, 46, []),
  (46, 32, 141, 2, 9, 0, 49, []),
  (49, 2, 0, 0, 0, 0, 50, []),
  (50, 20, 6, 2, 0, 0, 53, []),
  (53, 20, 7, 0, 0, 0, 56, []),
  (56, 2, 0, 0, 0, 0, 57, []),
  (57, 20, 6, 2, 0, 0, 60, []),
  (60, 32, 75, 1, 9, 0, 63, []),
  (63, 32, 131, 2, 11, 0, 66, []),
  (66, 1, 4, 0, 0, 0, 68, []),
  (68, 33, 0, 0, 0, 0, 69, [])]
/-- 141: ChunkCode$Scope.markLatest(I)V -/
def am_i141 : List (Nat × am_I) := [(0, 2, 0, 0, 0, 0, 1, []),
  (1, 20, 7, 4, 0, 0, 4, []),
  (4, 32, 36, 1, 5, 0, 7, []),
  (7, 0, 0, 0, 0, 1, 8, []),
  (8, 10, 1, 0, 0, 0, 9, []),
  (9, 3, 2, 0, 0, 0, 10, []),
  (10, 2, 0, 0, 0, 0, 11, []),
  (11, 20, 7, 4, 0, 0, 14, []),
  (14, 1, 2, 0, 0, 0, 15, []),
  (15, 0, 0, 0, 0, 1, 16, []),
  (16, 2, 0, 0, 0, 0, 17, []),
  (17, 20, 7, 4, 0, 0, 20, []),
  (20, 1, 2, 0, 0, 0, 21, []),
  (21, 0, 0, 0, 0, 1, 22, []),
  (22, 32, 54, 3, 5, 0, 25, []),
  (25, 1, 1, 0, 0, 0, 26, []),
  (26, 10, 4, 0, 0, 0, 27, []),
  (27, 32, 86, 4, 5, 0, 30, []),
  (30, 35, 0, 0, 0, 0, 31, [])]
/-- 142: ChunkCode$Reader.loopBlock(II)V -/
def am_i142 : List (Nat × am_I) := [(0, 2, 0, 0, 0, 0, 1, []),
  (1, 20, 6, 2, 0, 0, 4, []),
  (4, 32, 51, 1, 9, 0, 7, []),
  (7, 0, 0, 0, 0, 0, 8, []),
  (8, 3, 3, 0, 0, 0, 9, []),
  (9, 1, 3, 0, 0, 0, 10, []),
  (10, 1, 2, 0, 0, 0, 11, []),
  (11, 13, 3, 53, 0, 0, 14, []),
  (14, 1, 3, 0, 0, 0, 15, []),
  (15, 0, 0, 0, 0, 16384, 18, []),
  (18, 13, 4, 53, 0, 0, 21, []),
  (21, 1, 1, 0, 0, 0, 22, []),
  (22, 0, 0, 0, 0, 2, 23, []),
  (23, 1, 3, 0, 0, 0, 24, []),
  (24, 10, 2, 0, 0, 0, 25, []),
  (25, 10, 0, 0, 0, 0, 26, []),
  (26, 3, 4, 0, 0, 0, 28, []),
  (28, 2, 0, 0, 0, 0, 29, []),
  (29, 20, 6, 2, 0, 0, 32, []),
  (32, 2, 0, 0, 0, 0, 33, []),
  (33, 20, 6, 0, 0, 0, 36, []),
  (36, 1, 4, 0, 0, 0, 38, []),
  (38, 32, 104, 2, 4, 0, 41, []),
  (41, 0, 0, 0, 0, 1, 42, []),
  (42, 1, 4, 0, 0, 0, 44, []),
  (44, 32, 74, 4, 9, 0, 47, []),
  (47, 5, 3, 0, 0, 1, 50, []),
  (50, 18, 0, 9, 0, 0, 53, []),
  (53, 2, 0, 0, 0, 0, 54, []),
  (54, 32, 52, 1, 8, 0, 57, []),
  (57, 2, 0, 0, 0, 0, 58, []),
  (58, 20, 6, 0, 0, 0, 61, []),
  (61, 0, 0, 0, 0, 15, 63, []),
  (63, 32, 64, 2, 4, 0, 66, []),
  (66, 6, 0, 0, 0, 0, 67, []),
  (67, 2, 0, 0, 0, 0, 68, []),
  (68, 0, 0, 0, 0, 33, 70, []),
  (70, 2, 0, 0, 0, 0, 71, []),
  (71, 20, 6, 2, 0, 0, 74, []),
  (74, 32, 82, 1, 9, 0, 77, []),
  (77, 0, 0, 0, 0, 0, 78, []),
  (78, 0, 0, 0, 0, 0, 79, []),
  (79, 32, 78, 5, 8, 0, 82, []),
  (82, 6, 0, 0, 0, 0, 83, []),
  (83, 2, 0, 0, 0, 0, 84, []),
  (84, 20, 6, 2, 0, 0, 87, []),
  (87, 32, 81, 1, 9, 0, 90, []),
  (90, 35, 0, 0, 0, 0, 91, [])]
/-- 143: ChunkCode$Reader.closeHidden()V -/
def am_i143 : List (Nat × am_I) := [(0, 2, 0, 0, 0, 0, 1, []),
  (1, 20, 6, 2, 0, 0, 4, []),
  (4, 32, 81, 1, 9, 0, 7, []),
  (7, 2, 0, 0, 0, 0, 8, []),
  (8, 20, 6, 2, 0, 0, 11, []),
  (11, 20, 7, 0, 0, 0, 14, []),
  (14, 2, 0, 0, 0, 0, 15, []),
  (15, 20, 6, 2, 0, 0, 18, []),
  (18, 32, 79, 1, 9, 0, 21, []),
  (21, 32, 132, 2, 11, 0, 24, []),
  (24, 35, 0, 0, 0, 0, 25, [])]
/-- 144: ChunkCode$Reader.listLoop()V -/
def am_i144 : List (Nat × am_I) := [(0, 2, 0, 0, 0, 0, 1, []),
  (1, 20, 6, 0, 0, 0, 4, []),
  (4, 32, 63, 1, 4, 0, 7, []),
  (7, 3, 1, 0, 0, 0, 8, []),
  (8, 2, 0, 0, 0, 0, 9, []),
  (9, 20, 6, 0, 0, 0, 12, []),
  (12, 32, 55, 1, 4, 0, 15, []),
  (15, 6, 0, 0, 0, 0, 16, []),
  (16, 2, 0, 0, 0, 0, 17, []),
  (17, 20, 6, 0, 0, 0, 20, []),
  (20, 32, 63, 1, 4, 0, 23, []),
  (23, 3, 2, 0, 0, 0, 24, []),
  (24, 0, 0, 0, 0, 1, 25, []),
  (25, 3, 3, 0, 0, 0, 26, []),
  (26, 2, 0, 0, 0, 0, 27, []),
  (27, 20, 6, 0, 0, 0, 30, []),
  (30, 0, 0, 0, 0, 1, 31, []),
  (31, 32, 64, 2, 4, 0, 34, []),
  (34, 6, 0, 0, 0, 0, 35, []),
  (35, 0, 0, 0, 0, 0, 36, []),
  (36, 3, 4, 0, 0, 0, 38, []),
  (38, 2, 0, 0, 0, 0, 39, []),
  (39, 20, 6, 0, 0, 0, 42, []),
  (42, 32, 53, 1, 4, 0, 45, []),
  (45, 0, 0, 0, 0, 69, 47, []),
  (47, 13, 1, 84, 0, 0, 50, []),
  (50, 1, 4, 0, 0, 0, 52, []),
  (52, 0, 0, 0, 0, 16384, 55, []),
  (55, 13, 4, 84, 0, 0, 58, []),
  (58, 2, 0, 0, 0, 0, 59, []),
  (59, 20, 6, 0, 0, 0, 62, []),
  (62, 32, 55, 1, 4, 0, 65, []),
  (65, 6, 0, 0, 0, 0, 66, []),
  (66, 2, 0, 0, 0, 0, 67, []),
  (67, 20, 6, 0, 0, 0, 70, []),
  (70, 0, 0, 0, 0, 1, 71, []),
  (71, 32, 64, 2, 4, 0, 74, []),
  (74, 6, 0, 0, 0, 0, 75, []),
  (75, 5, 3, 0, 0, 1, 78, []),
  (78, 5, 4, 0, 0, 1, 81, []),
  (81, 18, 0, 38, 0, 0, 84, []),
  (84, 2, 0, 0, 0, 0, 85, []),
  (85, 20, 6, 0, 0, 0, 88, []),
  (88, 32, 63, 1, 4, 0, 91, []),
  (91, 3, 4, 0, 0, 0, 93, []),
  (93, 2, 0, 0, 0, 0, 94, []),
  (94, 20, 6, 0, 0, 0, 97, []),
  (97, 0, 0, 0, 0, 21, 99, []),
  (99, 32, 64, 2, 4, 0, 102, []),
  (102, 6, 0, 0, 0, 0, 103, []),
  (103, 2, 0, 0, 0, 0, 104, []),
  (104, 0, 0, 0, 0, 4, 105, []),
  (105, 2, 0, 0, 0, 0, 106, []),
  (106, 32, 112, 1, 8, 0, 109, []),
  (109, 32, 117, 3, 8, 0, 112, []),
  (112, 2, 0, 0, 0, 0, 113, []),
  (113, 20, 6, 0, 0, 0, 116, []),
  (116, 0, 0, 0, 0, 12, 118, []),
  (118, 32, 64, 2, 4, 0, 121, []),
  (121, 6, 0, 0, 0, 0, 122, []),
  (122, 2, 0, 0, 0, 0, 123, []),
  (123, 0, 0, 0, 0, 4, 124, []),
  (124, 0, 0, 0, 0, 4, 125, []),
  (125, 1, 1, 0, 0, 0, 126, []),
  (126, 32, 140, 4, 8, 0, 129, []),
  (129, 3, 5, 0, 0, 0, 131, []),
  (131, 2, 0, 0, 0, 0, 132, []),
  (132, 0, 0, 0, 0, 42, 134, []),
  (134, 1, 5, 0, 0, 0, 136, []),
  (136, 0, 0, 0, 0, 0, 137, []),
  (137, 1, 1, 0, 0, 0, 138, []),
  (138, 32, 78, 5, 8, 0, 141, []),
  (141, 6, 0, 0, 0, 0, 142, []),
  (142, 2, 0, 0, 0, 0, 143, []),
  (143, 0, 0, 0, 0, 34, 145, []),
  (145, 0, 0, 0, 0, 0, 146, []),
  (146, 0, 0, 0, 0, 0, 147, []),
  (147, 1, 1, 0, 0, 0, 148, []),
  (148, 32, 78, 5, 8, 0, 151, []),
  (151, 3, 6, 0, 0, 0, 153, []),
  (153, 2, 0, 0, 0, 0, 154, []),
  (154, 0, 0, 0, 0, 43, 156, []),
  (156, 1, 5, 0, 0, 0, 158, []),
  (158, 1, 3, 0, 0, 0, 159, []),
  (159, 1, 4, 0, 0, 0, 161, []),
  (161, 32, 78, 5, 8, 0, 164, []),
  (164, 6, 0, 0, 0, 0, 165, []),
  (165, 2, 0, 0, 0, 0, 166, []),
  (166, 0, 0, 0, 0, 44, 168, []),
  (168, 1, 5, 0, 0, 0, 170, []),
  (170, 0, 0, 0, 0, 0, 171, []),
  (171, 0, 0, 0, 0, 0, 172, []),
  (172, 32, 78, 5, 8, 0, 175, []),
  (175, 3, 7, 0, 0, 0, 177, []),
  (177, 2, 0, 0, 0, 0, 178, []),
  (178, 1, 2, 0, 0, 0, 179, []),
  (179, 1, 3, 0, 0, 0, 180, []),
  (180, 32, 142, 3, 8, 0, 183, []),
  (183, 2, 0, 0, 0, 0, 184, []),
  (184, 0, 0, 0, 0, 36, 186, []),
  (186, 1, 6, 0, 0, 0, 188, []),
  (188, 0, 0, 0, 0, 0, 189, []),
  (189, 0, 0, 0, 0, 0, 190, []),
  (190, 32, 78, 5, 8, 0, 193, []),
  (193, 6, 0, 0, 0, 0, 194, []),
  (194, 2, 0, 0, 0, 0, 195, []),
  (195, 20, 6, 2, 0, 0, 198, []),
  (198, 32, 79, 1, 9, 0, 201, []),
  (201, 1, 7, 0, 0, 0, 203, []),
  (203, 0, 0, 0, 0, 2, 204, []),
  (204, 32, 109, 3, 10, 0, 207, []),
  (207, 2, 0, 0, 0, 0, 208, []),
  (208, 0, 0, 0, 0, 33, 210, []),
  (210, 1, 5, 0, 0, 0, 212, []),
  (212, 0, 0, 0, 0, 4, 213, []),
  (213, 10, 0, 0, 0, 0, 214, []),
  (214, 0, 0, 0, 0, 0, 215, []),
  (215, 0, 0, 0, 0, 0, 216, []),
  (216, 32, 78, 5, 8, 0, 219, []),
  (219, 6, 0, 0, 0, 0, 220, []),
  (220, 2, 0, 0, 0, 0, 221, []),
  (221, 32, 143, 1, 8, 0, 224, []),
  (224, 2, 0, 0, 0, 0, 225, []),
  (225, 0, 0, 0, 0, 41, 227, []),
  (227, 1, 5, 0, 0, 0, 229, []),
  (229, 0, 0, 0, 0, 0, 230, []),
  (230, 0, 0, 0, 0, 0, 231, []),
  (231, 32, 78, 5, 8, 0, 234, []),
  (234, 6, 0, 0, 0, 0, 235, []),
  (235, 35, 0, 0, 0, 0, 236, [])]
/-- 145: ChunkCode$Reader.functionStatement()V -/
def am_i145 : List (Nat × am_I) := [(0, 2, 0, 0, 0, 0, 1, []),
  (1, 20, 6, 0, 0, 0, 4, []),
  (4, 32, 63, 1, 4, 0, 7, []),
  (7, 3, 1, 0, 0, 0, 8, []),
  (8, 2, 0, 0, 0, 0, 9, []),
  (9, 20, 6, 0, 0, 0, 12, []),
  (12, 32, 55, 1, 4, 0, 15, []),
  (15, 6, 0, 0, 0, 0, 16, []),
  (16, 2, 0, 0, 0, 0, 17, []),
  (17, 32, 62, 1, 8, 0, 20, []),
  (20, 3, 2, 0, 0, 0, 21, []),
  (21, 0, 0, 0, 0, 0, 22, []),
  (22, 3, 3, 0, 0, 0, 23, []),
  (23, 2, 0, 0, 0, 0, 24, []),
  (24, 20, 6, 0, 0, 0, 27, []),
  (27, 32, 53, 1, 4, 0, 30, []),
  (30, 0, 0, 0, 0, 70, 32, []),
  (32, 13, 1, 58, 0, 0, 35, []),
  (35, 1, 3, 0, 0, 0, 36, []),
  (36, 0, 0, 0, 0, 16384, 39, []),
  (39, 13, 4, 58, 0, 0, 42, []),
  (42, 2, 0, 0, 0, 0, 43, []),
  (43, 1, 2, 0, 0, 0, 44, []),
  (44, 32, 100, 2, 8, 0, 47, []),
  (47, 2, 0, 0, 0, 0, 48, []),
  (48, 32, 110, 1, 8, 0, 51, []),
  (51, 3, 2, 0, 0, 0, 52, []),
  (52, 5, 3, 0, 0, 1, 55, []),
  (55, 18, 0, 23, 0, 0, 58, []),
  (58, 2, 0, 0, 0, 0, 59, []),
  (59, 20, 6, 0, 0, 0, 62, []),
  (62, 32, 53, 1, 4, 0, 65, []),
  (65, 0, 0, 0, 0, 68, 67, []),
  (67, 13, 1, 74, 0, 0, 70, []),
  (70, 0, 0, 0, 0, 1, 71, []),
  (71, 18, 0, 75, 0, 0, 74, []),
  (74, 0, 0, 0, 0, 0, 75, []),
  (75, 3, 3, 0, 0, 0, 76, []),
  (76, 1, 3, 0, 0, 0, 77, []),
  (77, 12, 0, 90, 0, 0, 80, []),
  (80, 2, 0, 0, 0, 0, 81, []),
  (81, 1, 2, 0, 0, 0, 82, []),
  (82, 32, 100, 2, 8, 0, 85, []),
  (85, 2, 0, 0, 0, 0, 86, []),
  (86, 32, 110, 1, 8, 0, 89, []),
  (89, 3, 2, 0, 0, 0, 90, []),
  (90, 2, 0, 0, 0, 0, 91, []),
  (91, 20, 6, 4, 0, 0, 94, []),
  (94, 32, 36, 1, 5, 0, 97, []),
  (97, 3, 4, 0, 0, 0, 99, []),
  (99, 2, 0, 0, 0, 0, 100, []),
  (100, 1, 2, 0, 0, 0, 101, []),
  (101, 32, 113, 2, 8, 0, 104, []),
  (104, 2, 0, 0, 0, 0, 105, []),
  (105, 1, 1, 0, 0, 0, 106, []),
  (106, 1, 3, 0, 0, 0, 107, []),
  (107, 32, 73, 3, 8, 0, 110, []),
  (110, 2, 0, 0, 0, 0, 111, []),
  (111, 1, 4, 0, 0, 0, 113, []),
  (113, 32, 118, 2, 8, 0, 116, []),
  (116, 35, 0, 0, 0, 0, 117, [])]
/-- 146: ChunkCode$Reader.localFunction()V -/
def am_i146 : List (Nat × am_I) := [(0, 2, 0, 0, 0, 0, 1, []),
  (1, 20, 6, 0, 0, 0, 4, []),
  (4, 32, 63, 1, 4, 0, 7, []),
  (7, 3, 1, 0, 0, 0, 8, []),
  (8, 2, 0, 0, 0, 0, 9, []),
  (9, 20, 6, 0, 0, 0, 12, []),
  (12, 32, 55, 1, 4, 0, 15, []),
  (15, 6, 0, 0, 0, 0, 16, []),
  (16, 2, 0, 0, 0, 0, 17, []),
  (17, 20, 6, 0, 0, 0, 20, []),
  (20, 32, 63, 1, 4, 0, 23, []),
  (23, 3, 2, 0, 0, 0, 24, []),
  (24, 2, 0, 0, 0, 0, 25, []),
  (25, 20, 6, 0, 0, 0, 28, []),
  (28, 32, 55, 1, 4, 0, 31, []),
  (31, 6, 0, 0, 0, 0, 32, []),
  (32, 2, 0, 0, 0, 0, 33, []),
  (33, 20, 6, 0, 0, 0, 36, []),
  (36, 32, 63, 1, 4, 0, 39, []),
  (39, 3, 3, 0, 0, 0, 40, []),
  (40, 2, 0, 0, 0, 0, 41, []),
  (41, 20, 6, 0, 0, 0, 44, []),
  (44, 0, 0, 0, 0, 1, 45, []),
  (45, 32, 64, 2, 4, 0, 48, []),
  (48, 3, 4, 0, 0, 0, 50, []),
  (50, 2, 0, 0, 0, 0, 51, []),
  (51, 20, 6, 2, 0, 0, 54, []),
  (54, 32, 75, 1, 9, 0, 57, []),
  (57, 3, 5, 0, 0, 0, 59, []),
  (59, 2, 0, 0, 0, 0, 60, []),
  (60, 20, 6, 2, 0, 0, 63, []),
  (63, 1, 4, 0, 0, 0, 65, []),
  (65, 0, 0, 0, 0, 1, 66, []),
  (66, 1, 3, 0, 0, 0, 67, []),
  (67, 32, 74, 4, 9, 0, 70, []),
  (70, 2, 0, 0, 0, 0, 71, []),
  (71, 0, 0, 0, 0, 1, 72, []),
  (72, 0, 0, 0, 0, 0, 73, []),
  (73, 0, 0, 0, 0, 0, 74, []),
  (74, 0, 0, 0, 0, 0, 75, []),
  (75, 32, 78, 5, 8, 0, 78, []),
  (78, 6, 0, 0, 0, 0, 79, []),
  (79, 2, 0, 0, 0, 0, 80, []),
  (80, 0, 0, 0, 0, 27, 82, []),
  (82, 1, 5, 0, 0, 0, 84, []),
  (84, 0, 0, 0, 0, 1, 85, []),
  (85, 1, 1, 0, 0, 0, 86, []),
  (86, 32, 78, 5, 8, 0, 89, []),
  (89, 6, 0, 0, 0, 0, 90, []),
  (90, 2, 0, 0, 0, 0, 91, []),
  (91, 1, 2, 0, 0, 0, 92, []),
  (92, 0, 0, 0, 0, 0, 93, []),
  (93, 32, 73, 3, 8, 0, 96, []),
  (96, 2, 0, 0, 0, 0, 97, []),
  (97, 0, 0, 0, 0, 29, 99, []),
  (99, 1, 5, 0, 0, 0, 101, []),
  (101, 0, 0, 0, 0, 0, 102, []),
  (102, 1, 3, 0, 0, 0, 103, []),
  (103, 32, 78, 5, 8, 0, 106, []),
  (106, 6, 0, 0, 0, 0, 107, []),
  (107, 35, 0, 0, 0, 0, 108, [])]
/-- 147: ChunkCode$Reader.localNames()V -/
def am_i147 : List (Nat × am_I) := [(0, 2, 0, 0, 0, 0, 1, []),
  (1, 20, 6, 0, 0, 0, 4, []),
  (4, 32, 63, 1, 4, 0, 7, []),
  (7, 3, 1, 0, 0, 0, 8, []),
  (8, 2, 0, 0, 0, 0, 9, []),
  (9, 20, 6, 2, 0, 0, 12, []),
  (12, 32, 75, 1, 9, 0, 15, []),
  (15, 3, 2, 0, 0, 0, 16, []),
  (16, 0, 0, 0, 0, (-1), 17, []),
  (17, 3, 3, 0, 0, 0, 18, []),
  (18, 0, 0, 0, 0, 0, 19, []),
  (19, 3, 4, 0, 0, 0, 21, []),
  (21, 0, 0, 0, 0, 1, 22, []),
  (22, 3, 5, 0, 0, 0, 24, []),
  (24, 0, 0, 0, 0, 0, 25, []),
  (25, 3, 6, 0, 0, 0, 27, []),
  (27, 1, 5, 0, 0, 0, 29, []),
  (29, 12, 0, 142, 0, 0, 32, []),
  (32, 1, 6, 0, 0, 0, 34, []),
  (34, 0, 0, 0, 0, 16384, 37, []),
  (37, 13, 4, 142, 0, 0, 40, []),
  (40, 2, 0, 0, 0, 0, 41, []),
  (41, 20, 6, 0, 0, 0, 44, []),
  (44, 32, 55, 1, 4, 0, 47, []),
  (47, 6, 0, 0, 0, 0, 48, []),
  (48, 2, 0, 0, 0, 0, 49, []),
  (49, 20, 6, 0, 0, 0, 52, []),
  (52, 32, 63, 1, 4, 0, 55, []),
  (55, 3, 7, 0, 0, 0, 57, []),
  (57, 2, 0, 0, 0, 0, 58, []),
  (58, 20, 6, 2, 0, 0, 61, []),
  (61, 2, 0, 0, 0, 0, 62, []),
  (62, 20, 6, 0, 0, 0, 65, []),
  (65, 0, 0, 0, 0, 1, 66, []),
  (66, 32, 64, 2, 4, 0, 69, []),
  (69, 0, 0, 0, 0, 0, 70, []),
  (70, 1, 7, 0, 0, 0, 72, []),
  (72, 32, 74, 4, 9, 0, 75, []),
  (75, 2, 0, 0, 0, 0, 76, []),
  (76, 20, 6, 0, 0, 0, 79, []),
  (79, 32, 53, 1, 4, 0, 82, []),
  (82, 0, 0, 0, 0, 57, 84, []),
  (84, 13, 1, 117, 0, 0, 87, []),
  (87, 2, 0, 0, 0, 0, 88, []),
  (88, 1, 3, 0, 0, 0, 89, []),
  (89, 12, 2, 96, 0, 0, 92, []),
  (92, 0, 0, 0, 0, 1, 93, []),
  (93, 18, 0, 97, 0, 0, 96, []),
  (96, 0, 0, 0, 0, 0, 97, []),
  (97, 32, 148, 2, 8, 0, 100, []),
  (100, 12, 0, 117, 0, 0, 103, []),
  (103, 1, 7, 0, 0, 0, 105, []),
  (105, 3, 3, 0, 0, 0, 106, []),
  (106, 2, 0, 0, 0, 0, 107, []),
  (107, 20, 6, 2, 0, 0, 110, []),
  (110, 32, 75, 1, 9, 0, 113, []),
  (113, 0, 0, 0, 0, 1, 114, []),
  (114, 10, 1, 0, 0, 0, 115, []),
  (115, 3, 4, 0, 0, 0, 117, []),
  (117, 2, 0, 0, 0, 0, 118, []),
  (118, 20, 6, 0, 0, 0, 121, []),
  (121, 32, 53, 1, 4, 0, 124, []),
  (124, 0, 0, 0, 0, 69, 126, []),
  (126, 13, 1, 133, 0, 0, 129, []),
  (129, 0, 0, 0, 0, 1, 130, []),
  (130, 18, 0, 134, 0, 0, 133, []),
  (133, 0, 0, 0, 0, 0, 134, []),
  (134, 3, 5, 0, 0, 0, 136, []),
  (136, 5, 6, 0, 0, 1, 139, []),
  (139, 18, 0, 27, 0, 0, 142, []),
  (142, 2, 0, 0, 0, 0, 143, []),
  (143, 20, 6, 2, 0, 0, 146, []),
  (146, 32, 75, 1, 9, 0, 149, []),
  (149, 1, 2, 0, 0, 0, 150, []),
  (150, 10, 1, 0, 0, 0, 151, []),
  (151, 3, 6, 0, 0, 0, 153, []),
  (153, 0, 0, 0, 0, 0, 154, []),
  (154, 3, 7, 0, 0, 0, 156, []),
  (156, 2, 0, 0, 0, 0, 157, []),
  (157, 20, 6, 0, 0, 0, 160, []),
  (160, 32, 53, 1, 4, 0, 163, []),
  (163, 0, 0, 0, 0, 59, 165, []),
  (165, 13, 1, 182, 0, 0, 168, []),
  (168, 2, 0, 0, 0, 0, 169, []),
  (169, 20, 6, 0, 0, 0, 172, []),
  (172, 32, 55, 1, 4, 0, 175, []),
  (175, 6, 0, 0, 0, 0, 176, []),
  (176, 2, 0, 0, 0, 0, 177, []),
  (177, 32, 112, 1, 8, 0, 180, []),
  (180, 3, 7, 0, 0, 0, 182, []),
  (182, 2, 0, 0, 0, 0, 183, []),
  (183, 1, 6, 0, 0, 0, 185, []),
  (185, 1, 7, 0, 0, 0, 187, []),
  (187, 32, 117, 3, 8, 0, 190, []),
  (190, 2, 0, 0, 0, 0, 191, []),
  (191, 0, 0, 0, 0, 27, 193, []),
  (193, 1, 2, 0, 0, 0, 194, []),
  (194, 1, 6, 0, 0, 0, 196, []),
  (196, 1, 1, 0, 0, 0, 197, []),
  (197, 32, 78, 5, 8, 0, 200, []),
  (200, 6, 0, 0, 0, 0, 201, []),
  (201, 2, 0, 0, 0, 0, 202, []),
  (202, 20, 6, 2, 0, 0, 205, []),
  (205, 1, 2, 0, 0, 0, 206, []),
  (206, 32, 149, 2, 9, 0, 209, []),
  (209, 1, 3, 0, 0, 0, 210, []),
  (210, 12, 2, 224, 0, 0, 213, []),
  (213, 2, 0, 0, 0, 0, 214, []),
  (214, 0, 0, 0, 0, 28, 216, []),
  (216, 1, 4, 0, 0, 0, 218, []),
  (218, 0, 0, 0, 0, 0, 219, []),
  (219, 1, 3, 0, 0, 0, 220, []),
  (220, 32, 78, 5, 8, 0, 223, []),
  (223, 6, 0, 0, 0, 0, 224, []),
  (224, 35, 0, 0, 0, 0, 225, [])]
/-- 148: ChunkCode$Reader.attribute(Z)Z -/
def am_i148 : List (Nat × am_I) := [(0, 2, 0, 0, 0, 0, 1, []),
  (1, 20, 6, 0, 0, 0, 4, []),
  (4, 32, 55, 1, 4, 0, 7, []),
  (7, 6, 0, 0, 0, 0, 8, []),
  (8, 2, 0, 0, 0, 0, 9, []),
  (9, 20, 6, 0, 0, 0, 12, []),
  (12, 32, 63, 1, 4, 0, 15, []),
  (15, 3, 2, 0, 0, 0, 16, []),
  (16, 2, 0, 0, 0, 0, 17, []),
  (17, 20, 6, 0, 0, 0, 20, []),
  (20, 0, 0, 0, 0, 1, 21, []),
  (21, 32, 64, 2, 4, 0, 24, []),
  (24, 3, 3, 0, 0, 0, 25, []),
  (25, 2, 0, 0, 0, 0, 26, []),
  (26, 20, 6, 0, 0, 0, 29, []),
  (29, 0, 0, 0, 0, 58, 31, []),
  (31, 32, 64, 2, 4, 0, 34, []),
  (34, 6, 0, 0, 0, 0, 35, []),
  (35, 1, 3, 0, 0, 0, 36, []),
  (36, 0, 0, 0, 0, (-3), 38, []),
  (38, 13, 1, 45, 0, 0, 41, []),
  (41, 0, 0, 0, 0, 1, 42, []),
  (42, 18, 0, 46, 0, 0, 45, []),
  (45, 0, 0, 0, 0, 0, 46, []),
  (46, 3, 4, 0, 0, 0, 48, []),
  (48, 1, 4, 0, 0, 0, 50, []),
  (50, 12, 0, 57, 0, 0, 53, []),
  (53, 1, 1, 0, 0, 0, 54, []),
  (54, 12, 1, 68, 0, 0, 57, []),
  (57, 1, 4, 0, 0, 0, 59, []),
  (59, 12, 1, 78, 0, 0, 62, []),
  (62, 1, 3, 0, 0, 0, 63, []),
  (63, 0, 0, 0, 0, (-2), 65, []),
  (65, 13, 0, 78, 0, 0, 68, []),
  (68, 2, 0, 0, 0, 0, 69, []),
  (69, 20, 6, 1, 0, 0, 72, []),
  (72, 0, 0, 0, 0, 9, 74, []),
  (74, 1, 2, 0, 0, 0, 75, []),
  (75, 32, 76, 3, 3, 0, 78, []),
  (78, 2, 0, 0, 0, 0, 79, []),
  (79, 20, 6, 2, 0, 0, 82, []),
  (82, 1, 4, 0, 0, 0, 84, []),
  (84, 12, 0, 92, 0, 0, 87, []),
  (87, 0, 0, 0, 0, 6, 89, []),
  (89, 18, 0, 93, 0, 0, 92, []),
  (92, 0, 0, 0, 0, 2, 93, []),
  (93, 32, 141, 2, 9, 0, 96, []),
  (96, 1, 4, 0, 0, 0, 98, []),
  (98, 36, 0, 0, 0, 0, 99, [])]
/-- 149: ChunkCode$Scope.reveal(I)V -/
def am_i149 : List (Nat × am_I) := [(0, 2, 0, 0, 0, 0, 1, []),
  (1, 20, 7, 6, 0, 0, 4, []),
  (4, 20, 8, 9, 0, 0, 7, []),
  (7, 1, 1, 0, 0, 0, 8, []),
  (8, 10, 0, 0, 0, 0, 9, []),
  (9, 3, 2, 0, 0, 0, 10, []),
  (10, 1, 2, 0, 0, 0, 11, []),
  (11, 2, 0, 0, 0, 0, 12, []),
  (12, 20, 7, 4, 0, 0, 15, []),
  (15, 32, 36, 1, 5, 0, 18, []),
  (18, 13, 3, 47, 0, 0, 21, []),
  (21, 2, 0, 0, 0, 0, 22, []),
  (22, 20, 7, 4, 0, 0, 25, []),
  (25, 1, 2, 0, 0, 0, 26, []),
  (26, 0, 0, 0, 0, 1, 27, []),
  (27, 2, 0, 0, 0, 0, 28, []),
  (28, 20, 7, 4, 0, 0, 31, []),
  (31, 1, 2, 0, 0, 0, 32, []),
  (32, 0, 0, 0, 0, 1, 33, []),
  (33, 32, 54, 3, 5, 0, 36, []),
  (36, 0, 0, 0, 0, 1, 37, []),
  (37, 10, 4, 0, 0, 0, 38, []),
  (38, 32, 86, 4, 5, 0, 41, []),
  (41, 5, 2, 0, 0, 1, 44, []),
  (44, 18, 0, 10, 0, 0, 47, []),
  (47, 35, 0, 0, 0, 0, 48, [])]
/-- 150: ChunkCode$Reader.returnValues()V -/
def am_i150 : List (Nat × am_I) := [(0, 2, 0, 0, 0, 0, 1, []),
  (1, 20, 6, 0, 0, 0, 4, []),
  (4, 32, 63, 1, 4, 0, 7, []),
  (7, 3, 1, 0, 0, 0, 8, []),
  (8, 2, 0, 0, 0, 0, 9, []),
  (9, 20, 6, 0, 0, 0, 12, []),
  (12, 32, 55, 1, 4, 0, 15, []),
  (15, 6, 0, 0, 0, 0, 16, []),
  (16, 0, 0, 0, 0, 0, 17, []),
  (17, 3, 2, 0, 0, 0, 18, []),
  (18, 2, 0, 0, 0, 0, 19, []),
  (19, 20, 6, 0, 0, 0, 22, []),
  (22, 32, 53, 1, 4, 0, 25, []),
  (25, 0, 0, 0, 0, 67, 27, []),
  (27, 13, 0, 48, 0, 0, 30, []),
  (30, 2, 0, 0, 0, 0, 31, []),
  (31, 20, 6, 0, 0, 0, 34, []),
  (34, 32, 53, 1, 4, 0, 37, []),
  (37, 32, 121, 1, 0, 0, 40, []),
  (40, 12, 1, 48, 0, 0, 43, []),
  (43, 2, 0, 0, 0, 0, 44, []),
  (44, 32, 112, 1, 8, 0, 47, []),
  (47, 3, 2, 0, 0, 0, 48, []),
  (48, 1, 2, 0, 0, 0, 49, []),
  (49, 12, 5, 63, 0, 0, 52, []),
  (52, 2, 0, 0, 0, 0, 53, []),
  (53, 20, 6, 5, 0, 0, 56, []),
  (56, 12, 0, 63, 0, 0, 59, []),
  (59, 0, 0, 0, 0, 1, 60, []),
  (60, 18, 0, 64, 0, 0, 63, []),
  (63, 0, 0, 0, 0, 0, 64, []),
  (64, 3, 3, 0, 0, 0, 65, []),
  (65, 1, 3, 0, 0, 0, 66, []),
  (66, 12, 0, 124, 0, 0, 69, []),
  (69, 1, 2, 0, 0, 0, 70, []),
  (70, 0, 0, 0, 0, 1, 71, []),
  (71, 13, 1, 124, 0, 0, 74, []),
  (74, 2, 0, 0, 0, 0, 75, []),
  (75, 32, 97, 1, 8, 0, 78, []),
  (78, 0, 0, 0, 0, 13, 80, []),
  (80, 13, 1, 124, 0, 0, 83, []),
  (83, 2, 0, 0, 0, 0, 84, []),
  (84, 20, 6, 2, 0, 0, 87, []),
  (87, 32, 151, 1, 9, 0, 90, []),
  (90, 12, 1, 124, 0, 0, 93, []),
  (93, 2, 0, 0, 0, 0, 94, []),
  (94, 0, 0, 0, 0, 1, 95, []),
  (95, 0, 0, 0, 0, 0, 96, []),
  (96, 32, 99, 3, 8, 0, 99, []),
  (99, 2, 0, 0, 0, 0, 100, []),
  (100, 20, 6, 2, 0, 0, 103, []),
  (103, 32, 79, 1, 9, 0, 106, []),
  (106, 20, 8, 0, 0, 0, 109, []),
  (109, 2, 0, 0, 0, 0, 110, []),
  (110, 32, 98, 1, 8, 0, 113, []),
  (113, 0, 0, 0, 0, 1, 114, []),
  (114, 10, 1, 0, 0, 0, 115, []),
  (115, 0, 0, 0, 0, 0, 116, []),
  (116, 0, 0, 0, 0, 46, 118, []),
  (118, 32, 86, 4, 5, 0, 121, []),
  (121, 18, 0, 157, 0, 0, 124, []),
  (124, 1, 3, 0, 0, 0, 125, []),
  (125, 12, 0, 147, 0, 0, 128, []),
  (128, 2, 0, 0, 0, 0, 129, []),
  (129, 32, 96, 1, 8, 0, 132, []),
  (132, 2, 0, 0, 0, 0, 133, []),
  (133, 0, 0, 0, 0, 45, 135, []),
  (135, 1, 2, 0, 0, 0, 136, []),
  (136, 0, 0, 0, 0, 1, 137, []),
  (137, 10, 1, 0, 0, 0, 138, []),
  (138, 0, 0, 0, 0, 1, 139, []),
  (139, 1, 1, 0, 0, 0, 140, []),
  (140, 32, 78, 5, 8, 0, 143, []),
  (143, 6, 0, 0, 0, 0, 144, []),
  (144, 18, 0, 157, 0, 0, 147, []),
  (147, 2, 0, 0, 0, 0, 148, []),
  (148, 0, 0, 0, 0, 45, 150, []),
  (150, 1, 2, 0, 0, 0, 151, []),
  (151, 0, 0, 0, 0, 0, 152, []),
  (152, 1, 1, 0, 0, 0, 153, []),
  (153, 32, 78, 5, 8, 0, 156, []),
  (156, 6, 0, 0, 0, 0, 157, []),
  (157, 2, 0, 0, 0, 0, 158, []),
  (158, 20, 6, 0, 0, 0, 161, []),
  (161, 32, 53, 1, 4, 0, 164, []),
  (164, 0, 0, 0, 0, 67, 166, []),
  (166, 13, 1, 177, 0, 0, 169, []),
  (169, 2, 0, 0, 0, 0, 170, []),
  (170, 20, 6, 0, 0, 0, 173, []),
  (173, 32, 55, 1, 4, 0, 176, []),
  (176, 6, 0, 0, 0, 0, 177, []),
  (177, 35, 0, 0, 0, 0, 178, [])]
/-- 151: ChunkCode$Scope.hasClosing()Z -/
def am_i151 : List (Nat × am_I) := [(0, 2, 0, 0, 0, 0, 1, []),
  (1, 20, 7, 6, 0, 0, 4, []),
  (4, 20, 8, 9, 0, 0, 7, []),
  (7, 3, 1, 0, 0, 0, 8, []),
  (8, 1, 1, 0, 0, 0, 9, []),
  (9, 2, 0, 0, 0, 0, 10, []),
  (10, 20, 7, 4, 0, 0, 13, []),
  (13, 32, 36, 1, 5, 0, 16, []),
  (16, 13, 3, 41, 0, 0, 19, []),
  (19, 2, 0, 0, 0, 0, 20, []),
  (20, 20, 7, 4, 0, 0, 23, []),
  (23, 1, 1, 0, 0, 0, 24, []),
  (24, 0, 0, 0, 0, 1, 25, []),
  (25, 32, 54, 3, 5, 0, 28, []),
  (28, 0, 0, 0, 0, 4, 29, []),
  (29, 10, 3, 0, 0, 0, 30, []),
  (30, 12, 0, 35, 0, 0, 33, []),
  (33, 0, 0, 0, 0, 1, 34, []),
  (34, 36, 0, 0, 0, 0, 35, []),
  (35, 5, 1, 0, 0, 1, 38, []),
  (38, 18, 0, 8, 0, 0, 41, []),
  (41, 0, 0, 0, 0, 0, 42, []),
  (42, 36, 0, 0, 0, 0, 43, [])]
/-- 152: ChunkCode$Faults.kind()I -/
def am_i152 : List (Nat × am_I) := [(0, 2, 0, 0, 0, 0, 1, []),
  (1, 20, 1, 0, 0, 0, 4, []),
  (4, 33, 0, 0, 0, 0, 5, [])]
/-- 153: ChunkCode$Faults.atWord()I -/
def am_i153 : List (Nat × am_I) := [(0, 2, 0, 0, 0, 0, 1, []),
  (1, 20, 1, 1, 0, 0, 4, []),
  (4, 33, 0, 0, 0, 0, 5, [])]
/-- 154: ChunkCode$Words.clear()V -/
def am_i154 : List (Nat × am_I) := [(0, 2, 0, 0, 0, 0, 1, []),
  (1, 20, 2, 1, 0, 0, 4, []),
  (4, 0, 0, 0, 0, 0, 5, []),
  (5, 32, 30, 2, 5, 0, 8, []),
  (8, 35, 0, 0, 0, 0, 9, [])]
/-- 155: ChunkCode$Bodies.count()I -/
def am_i155 : List (Nat × am_I) := [(0, 2, 0, 0, 0, 0, 1, []),
  (1, 20, 4, 1, 0, 0, 4, []),
  (4, 33, 0, 0, 0, 0, 5, [])]
/-- 156: ChunkCode.place()I -/
def am_i156 : List (Nat × am_I) := [(0, 2, 0, 0, 0, 0, 1, []),
  (1, 20, 0, 5, 0, 0, 4, []),
  (4, 33, 0, 0, 0, 0, 5, [])]
/-- 157: ChunkCode.functions()I -/
def am_i157 : List (Nat × am_I) := [(0, 2, 0, 0, 0, 0, 1, []),
  (1, 20, 0, 2, 0, 0, 4, []),
  (4, 32, 155, 1, 6, 0, 7, []),
  (7, 33, 0, 0, 0, 0, 8, [])]
/-- 158: ChunkCode.function(II)I -/
def am_i158 : List (Nat × am_I) := [(0, 2, 0, 0, 0, 0, 1, []),
  (1, 20, 0, 2, 0, 0, 4, []),
  (4, 1, 1, 0, 0, 0, 5, []),
  (5, 32, 159, 2, 6, 0, 8, []),
  (8, 4, 3, 0, 0, 0, 9, []),
  (9, 2, 3, 0, 0, 0, 10, []),
  (10, 15, 0, 15, 0, 0, 13, []),
  (13, 0, 0, 0, 0, (-1), 14, []),
  (14, 33, 0, 0, 0, 0, 15, []),
  (15, 1, 2, 0, 0, 0, 16, []),
  (16, 19, 0, 110, 0, 0, 64, [(0, 64), (1, 69), (2, 74), (3, 79), (4, 84), (5, 89), (6, 97), (7, 105)]),
  (64, 2, 3, 0, 0, 0, 65, []),
  (65, 20, 8, 3, 0, 0, 68, []),
  (68, 33, 0, 0, 0, 0, 69, []),
  (69, 2, 3, 0, 0, 0, 70, []),
  (70, 20, 8, 4, 0, 0, 73, []),
  (73, 33, 0, 0, 0, 0, 74, []),
  (74, 2, 3, 0, 0, 0, 75, []),
  (75, 20, 8, 5, 0, 0, 78, []),
  (78, 33, 0, 0, 0, 0, 79, []),
  (79, 2, 3, 0, 0, 0, 80, []),
  (80, 20, 8, 6, 0, 0, 83, []),
  (83, 33, 0, 0, 0, 0, 84, []),
  (84, 2, 3, 0, 0, 0, 85, []),
  (85, 20, 8, 7, 0, 0, 88, []),
  (88, 33, 0, 0, 0, 0, 89, []),
  (89, 2, 3, 0, 0, 0, 90, []),
  (90, 20, 8, 1, 0, 0, 93, []),
  (93, 32, 36, 1, 5, 0, 96, []),
  (96, 33, 0, 0, 0, 0, 97, []),
  (97, 2, 3, 0, 0, 0, 98, []),
  (98, 20, 8, 0, 0, 0, 101, []),
  (101, 32, 36, 1, 5, 0, 104, []),
  (104, 33, 0, 0, 0, 0, 105, []),
  (105, 2, 3, 0, 0, 0, 106, []),
  (106, 20, 8, 8, 0, 0, 109, []),
  (109, 33, 0, 0, 0, 0, 110, []),
  (110, 0, 0, 0, 0, (-1), 111, []),
  (111, 33, 0, 0, 0, 0, 112, [])]
/-- 159: ChunkCode$Bodies.at(I)LChunkCode$Body; -/
def am_i159 : List (Nat × am_I) := [(0, 1, 1, 0, 0, 0, 1, []),
  (1, 12, 2, 37, 0, 0, 4, []),
  (4, 1, 1, 0, 0, 0, 5, []),
  (5, 2, 0, 0, 0, 0, 6, []),
  (6, 20, 4, 1, 0, 0, 9, []),
  (9, 13, 3, 37, 0, 0, 12, []),
  (12, 1, 1, 0, 0, 0, 13, []),
  (13, 2, 0, 0, 0, 0, 14, []),
  (14, 20, 4, 0, 0, 0, 17, []),
  (17, 32, 14, 1, 7, 0, 20, []),
  (20, 13, 3, 37, 0, 0, 23, []),
  (23, 2, 0, 0, 0, 0, 24, []),
  (24, 20, 4, 0, 0, 0, 27, []),
  (27, 1, 1, 0, 0, 0, 28, []),
  (28, 32, 25, 2, 7, 0, 31, []),
  (31, 30, 8, 0, 0, 0, 34, []),
  (34, 18, 0, 38, 0, 0, 37, []),
  (37, 29, 0, 0, 0, 0, 38, []),
  (38, 34, 0, 0, 0, 0, 39, [])]
/-- 160: ChunkCode.outer(III)I -/
def am_i160 : List (Nat × am_I) := [(0, 2, 0, 0, 0, 0, 1, []),
  (1, 20, 0, 2, 0, 0, 4, []),
  (4, 1, 1, 0, 0, 0, 5, []),
  (5, 32, 159, 2, 6, 0, 8, []),
  (8, 4, 4, 0, 0, 0, 10, []),
  (10, 2, 4, 0, 0, 0, 12, []),
  (12, 14, 0, 36, 0, 0, 15, []),
  (15, 2, 4, 0, 0, 0, 17, []),
  (17, 20, 8, 1, 0, 0, 20, []),
  (20, 1, 2, 0, 0, 0, 21, []),
  (21, 32, 161, 2, 5, 0, 24, []),
  (24, 12, 0, 36, 0, 0, 27, []),
  (27, 1, 3, 0, 0, 0, 28, []),
  (28, 12, 2, 36, 0, 0, 31, []),
  (31, 1, 3, 0, 0, 0, 32, []),
  (32, 0, 0, 0, 0, 1, 33, []),
  (33, 13, 5, 38, 0, 0, 36, []),
  (36, 0, 0, 0, 0, (-1), 37, []),
  (37, 33, 0, 0, 0, 0, 38, []),
  (38, 2, 4, 0, 0, 0, 40, []),
  (40, 20, 8, 1, 0, 0, 43, []),
  (43, 1, 2, 0, 0, 0, 44, []),
  (44, 1, 3, 0, 0, 0, 45, []),
  (45, 32, 54, 3, 5, 0, 48, []),
  (48, 33, 0, 0, 0, 0, 49, [])]
/-- 161: ChunkCode$Table.has(I)Z -/
def am_i161 : List (Nat × am_I) := [(0, 1, 1, 0, 0, 0, 1, []),
  (1, 12, 2, 16, 0, 0, 4, []),
  (4, 1, 1, 0, 0, 0, 5, []),
  (5, 2, 0, 0, 0, 0, 6, []),
  (6, 20, 3, 1, 0, 0, 9, []),
  (9, 13, 3, 16, 0, 0, 12, []),
  (12, 0, 0, 0, 0, 1, 13, []),
  (13, 18, 0, 17, 0, 0, 16, []),
  (16, 0, 0, 0, 0, 0, 17, []),
  (17, 36, 0, 0, 0, 0, 18, [])]
/-- 162: ChunkCode.code(III)I -/
def am_i162 : List (Nat × am_I) := [(0, 2, 0, 0, 0, 0, 1, []),
  (1, 20, 0, 2, 0, 0, 4, []),
  (4, 1, 1, 0, 0, 0, 5, []),
  (5, 32, 159, 2, 6, 0, 8, []),
  (8, 4, 4, 0, 0, 0, 10, []),
  (10, 2, 4, 0, 0, 0, 12, []),
  (12, 14, 0, 36, 0, 0, 15, []),
  (15, 2, 4, 0, 0, 0, 17, []),
  (17, 20, 8, 0, 0, 0, 20, []),
  (20, 1, 2, 0, 0, 0, 21, []),
  (21, 32, 161, 2, 5, 0, 24, []),
  (24, 12, 0, 36, 0, 0, 27, []),
  (27, 1, 3, 0, 0, 0, 28, []),
  (28, 12, 2, 36, 0, 0, 31, []),
  (31, 1, 3, 0, 0, 0, 32, []),
  (32, 0, 0, 0, 0, 3, 33, []),
  (33, 13, 5, 38, 0, 0, 36, []),
  (36, 0, 0, 0, 0, (-1), 37, []),
  (37, 33, 0, 0, 0, 0, 38, []),
  (38, 2, 4, 0, 0, 0, 40, []),
  (40, 20, 8, 0, 0, 0, 43, []),
  (43, 1, 2, 0, 0, 0, 44, []),
  (44, 1, 3, 0, 0, 0, 45, []),
  (45, 32, 54, 3, 5, 0, 48, []),
  (48, 33, 0, 0, 0, 0, 49, [])]
/-- 163: ChunkCode.depth(I)I -/
def am_i163 : List (Nat × am_I) := [(0, 2, 0, 0, 0, 0, 1, []),
  (1, 20, 0, 2, 0, 0, 4, []),
  (4, 1, 1, 0, 0, 0, 5, []),
  (5, 32, 159, 2, 6, 0, 8, []),
  (8, 4, 2, 0, 0, 0, 9, []),
  (9, 2, 2, 0, 0, 0, 10, []),
  (10, 15, 0, 17, 0, 0, 13, []),
  (13, 0, 0, 0, 0, (-1), 14, []),
  (14, 18, 0, 25, 0, 0, 17, []),
  (17, 2, 0, 0, 0, 0, 18, []),
  (18, 20, 0, 4, 0, 0, 21, []),
  (21, 2, 2, 0, 0, 0, 22, []),
  (22, 32, 164, 2, 12, 0, 25, []),
  (25, 33, 0, 0, 0, 0, 26, [])]
/-- 164: ChunkCode$Audit.greatest(LChunkCode$Body;)I -/
def am_i164 : List (Nat × am_I) := [(0, 0, 0, 0, 0, 0, 1, []),
  (1, 3, 2, 0, 0, 0, 2, []),
  (2, 0, 0, 0, 0, 0, 3, []),
  (3, 3, 3, 0, 0, 0, 4, []),
  (4, 0, 0, 0, 0, 0, 5, []),
  (5, 3, 4, 0, 0, 0, 7, []),
  (7, 1, 4, 0, 0, 0, 9, []),
  (9, 2, 1, 0, 0, 0, 10, []),
  (10, 20, 8, 0, 0, 0, 13, []),
  (13, 32, 36, 1, 5, 0, 16, []),
  (16, 13, 3, 40, 0, 0, 19, []),
  (19, 1, 2, 0, 0, 0, 20, []),
  (20, 2, 1, 0, 0, 0, 21, []),
  (21, 1, 4, 0, 0, 0, 23, []),
  (23, 32, 165, 2, 0, 0, 26, []),
  (26, 10, 0, 0, 0, 0, 27, []),
  (27, 3, 2, 0, 0, 0, 28, []),
  (28, 1, 3, 0, 0, 0, 29, []),
  (29, 1, 2, 0, 0, 0, 30, []),
  (30, 32, 20, 2, 0, 0, 33, []),
  (33, 3, 3, 0, 0, 0, 34, []),
  (34, 5, 4, 0, 0, 1, 37, []),
  (37, 18, 0, 7, 0, 0, 40, []),
  (40, 1, 3, 0, 0, 0, 41, []),
  (41, 33, 0, 0, 0, 0, 42, [])]
/-- 165: ChunkCode$Audit.change(LChunkCode$Body;I)I -/
def am_i165 : List (Nat × am_I) := [(0, 2, 0, 0, 0, 0, 1, []),
  (1, 20, 8, 0, 0, 0, 4, []),
  (4, 1, 1, 0, 0, 0, 5, []),
  (5, 0, 0, 0, 0, 0, 6, []),
  (6, 32, 54, 3, 5, 0, 9, []),
  (9, 3, 2, 0, 0, 0, 10, []),
  (10, 2, 0, 0, 0, 0, 11, []),
  (11, 20, 8, 0, 0, 0, 14, []),
  (14, 1, 1, 0, 0, 0, 15, []),
  (15, 0, 0, 0, 0, 1, 16, []),
  (16, 32, 54, 3, 5, 0, 19, []),
  (19, 3, 3, 0, 0, 0, 20, []),
  (20, 2, 0, 0, 0, 0, 21, []),
  (21, 20, 8, 0, 0, 0, 24, []),
  (24, 1, 1, 0, 0, 0, 25, []),
  (25, 0, 0, 0, 0, 2, 26, []),
  (26, 32, 54, 3, 5, 0, 29, []),
  (29, 3, 4, 0, 0, 0, 31, []),
  (31, 1, 2, 0, 0, 0, 32, []),
  (32, 0, 0, 0, 0, 1, 33, []),
  (33, 13, 2, 44, 0, 0, 36, []),
  (36, 1, 2, 0, 0, 0, 37, []),
  (37, 0, 0, 0, 0, 10, 39, []),
  (39, 13, 4, 44, 0, 0, 42, []),
  (42, 0, 0, 0, 0, 1, 43, []),
  (43, 33, 0, 0, 0, 0, 44, []),
  (44, 1, 2, 0, 0, 0, 45, []),
  (45, 19, 0, 261, 0, 0, 200, [(12, 202), (13, 204), (14, 200), (15, 261), (16, 261), (17, 202), (18, 202), (19, 261), (20, 200), (21, 238), (22, 261), (23, 261), (24, 261), (25, 227), (26, 231), (27, 234), (28, 202), (29, 261), (30, 261), (31, 261), (32, 261), (33, 202), (34, 202), (35, 261), (36, 202), (37, 261), (38, 241), (39, 202), (40, 202), (41, 202), (42, 244), (43, 202), (44, 202), (45, 247), (46, 253)]),
  (200, 0, 0, 0, 0, 1, 201, []),
  (201, 33, 0, 0, 0, 0, 202, []),
  (202, 0, 0, 0, 0, 0, 203, []),
  (203, 33, 0, 0, 0, 0, 204, []),
  (204, 1, 4, 0, 0, 0, 206, []),
  (206, 0, 0, 0, 0, 6, 208, []),
  (208, 10, 3, 0, 0, 0, 209, []),
  (209, 12, 0, 216, 0, 0, 212, []),
  (212, 0, 0, 0, 0, 1, 213, []),
  (213, 18, 0, 217, 0, 0, 216, []),
  (216, 0, 0, 0, 0, 0, 217, []),
  (217, 1, 3, 0, 0, 0, 218, []),
  (218, 10, 1, 0, 0, 0, 219, []),
  (219, 0, 0, 0, 0, 1, 220, []),
  (220, 10, 1, 0, 0, 0, 221, []),
  (221, 1, 4, 0, 0, 0, 223, []),
  (223, 0, 0, 0, 0, 1, 224, []),
  (224, 10, 3, 0, 0, 0, 225, []),
  (225, 10, 1, 0, 0, 0, 226, []),
  (226, 33, 0, 0, 0, 0, 227, []),
  (227, 1, 3, 0, 0, 0, 228, []),
  (228, 0, 0, 0, 0, 1, 229, []),
  (229, 10, 1, 0, 0, 0, 230, []),
  (230, 33, 0, 0, 0, 0, 231, []),
  (231, 1, 3, 0, 0, 0, 232, []),
  (232, 11, 0, 0, 0, 0, 233, []),
  (233, 33, 0, 0, 0, 0, 234, []),
  (234, 1, 4, 0, 0, 0, 236, []),
  (236, 11, 0, 0, 0, 0, 237, []),
  (237, 33, 0, 0, 0, 0, 238, []),
  (238, 0, 0, 0, 0, (-2), 240, []),
  (240, 33, 0, 0, 0, 0, 241, []),
  (241, 0, 0, 0, 0, (-3), 243, []),
  (243, 33, 0, 0, 0, 0, 244, []),
  (244, 0, 0, 0, 0, (-4), 246, []),
  (246, 33, 0, 0, 0, 0, 247, []),
  (247, 1, 3, 0, 0, 0, 248, []),
  (248, 11, 0, 0, 0, 0, 249, []),
  (249, 1, 4, 0, 0, 0, 251, []),
  (251, 10, 1, 0, 0, 0, 252, []),
  (252, 33, 0, 0, 0, 0, 253, []),
  (253, 1, 3, 0, 0, 0, 254, []),
  (254, 11, 0, 0, 0, 0, 255, []),
  (255, 0, 0, 0, 0, 1, 256, []),
  (256, 10, 1, 0, 0, 0, 257, []),
  (257, 1, 4, 0, 0, 0, 259, []),
  (259, 10, 1, 0, 0, 0, 260, []),
  (260, 33, 0, 0, 0, 0, 261, []),
  (261, 0, 0, 0, 0, (-1), 262, []),
  (262, 33, 0, 0, 0, 0, 263, [])]
/-- 166: ChunkCode.flaws()I -/
def am_i166 : List (Nat × am_I) := [(0, 2, 0, 0, 0, 0, 1, []),
  (1, 20, 0, 4, 0, 0, 4, []),
  (4, 32, 167, 1, 12, 0, 7, []),
  (7, 33, 0, 0, 0, 0, 8, [])]
/-- 167: ChunkCode$Audit.flawedOfAll()I -/
def am_i167 : List (Nat × am_I) := [(0, 0, 0, 0, 0, 0, 1, []),
  (1, 3, 1, 0, 0, 0, 2, []),
  (2, 0, 0, 0, 0, 0, 3, []),
  (3, 3, 2, 0, 0, 0, 4, []),
  (4, 1, 2, 0, 0, 0, 5, []),
  (5, 2, 0, 0, 0, 0, 6, []),
  (6, 20, 10, 0, 0, 0, 9, []),
  (9, 32, 155, 1, 6, 0, 12, []),
  (12, 13, 3, 42, 0, 0, 15, []),
  (15, 2, 0, 0, 0, 0, 16, []),
  (16, 20, 10, 0, 0, 0, 19, []),
  (19, 1, 2, 0, 0, 0, 20, []),
  (20, 32, 159, 2, 6, 0, 23, []),
  (23, 4, 3, 0, 0, 0, 24, []),
  (24, 2, 3, 0, 0, 0, 25, []),
  (25, 14, 0, 36, 0, 0, 28, []),
  (28, 1, 1, 0, 0, 0, 29, []),
  (29, 2, 0, 0, 0, 0, 30, []),
  (30, 2, 3, 0, 0, 0, 31, []),
  (31, 32, 168, 2, 12, 0, 34, []),
  (34, 10, 0, 0, 0, 0, 35, []),
  (35, 3, 1, 0, 0, 0, 36, []),
  (36, 5, 2, 0, 0, 1, 39, []),
  (39, 18, 0, 4, 0, 0, 42, []),
  (42, 1, 1, 0, 0, 0, 43, []),
  (43, 33, 0, 0, 0, 0, 44, [])]
/-- 168: ChunkCode$Audit.flawedOf(LChunkCode$Body;)I -/
def am_i168 : List (Nat × am_I) := [(0, 0, 0, 0, 0, 0, 1, []),
  (1, 3, 2, 0, 0, 0, 2, []),
  (2, 0, 0, 0, 0, 0, 3, []),
  (3, 3, 3, 0, 0, 0, 4, []),
  (4, 0, 0, 0, 0, 0, 5, []),
  (5, 3, 4, 0, 0, 0, 7, []),
  (7, 1, 4, 0, 0, 0, 9, []),
  (9, 2, 1, 0, 0, 0, 10, []),
  (10, 20, 8, 0, 0, 0, 13, []),
  (13, 32, 36, 1, 5, 0, 16, []),
  (16, 13, 3, 116, 0, 0, 19, []),
  (19, 2, 1, 0, 0, 0, 20, []),
  (20, 20, 8, 0, 0, 0, 23, []),
  (23, 1, 4, 0, 0, 0, 25, []),
  (25, 0, 0, 0, 0, 0, 26, []),
  (26, 32, 54, 3, 5, 0, 29, []),
  (29, 3, 5, 0, 0, 0, 31, []),
  (31, 1, 5, 0, 0, 0, 33, []),
  (33, 0, 0, 0, 0, 34, 35, []),
  (35, 13, 1, 42, 0, 0, 38, []),
  (38, 1, 2, 0, 0, 0, 39, []),
  (39, 12, 1, 63, 0, 0, 42, []),
  (42, 1, 4, 0, 0, 0, 44, []),
  (44, 2, 1, 0, 0, 0, 45, []),
  (45, 20, 8, 0, 0, 0, 48, []),
  (48, 32, 36, 1, 5, 0, 51, []),
  (51, 0, 0, 0, 0, 1, 52, []),
  (52, 10, 1, 0, 0, 0, 53, []),
  (53, 13, 1, 67, 0, 0, 56, []),
  (56, 1, 5, 0, 0, 0, 58, []),
  (58, 0, 0, 0, 0, 45, 60, []),
  (60, 13, 0, 67, 0, 0, 63, []),
  (63, 0, 0, 0, 0, 1, 64, []),
  (64, 18, 0, 68, 0, 0, 67, []),
  (67, 0, 0, 0, 0, 0, 68, []),
  (68, 3, 6, 0, 0, 0, 70, []),
  (70, 1, 2, 0, 0, 0, 71, []),
  (71, 2, 1, 0, 0, 0, 72, []),
  (72, 1, 4, 0, 0, 0, 74, []),
  (74, 32, 165, 2, 0, 0, 77, []),
  (77, 10, 0, 0, 0, 0, 78, []),
  (78, 3, 2, 0, 0, 0, 79, []),
  (79, 1, 6, 0, 0, 0, 81, []),
  (81, 12, 1, 107, 0, 0, 84, []),
  (84, 1, 2, 0, 0, 0, 85, []),
  (85, 12, 2, 107, 0, 0, 88, []),
  (88, 2, 1, 0, 0, 0, 89, []),
  (89, 1, 4, 0, 0, 0, 91, []),
  (91, 32, 169, 2, 0, 0, 94, []),
  (94, 12, 1, 107, 0, 0, 97, []),
  (97, 2, 0, 0, 0, 0, 98, []),
  (98, 2, 1, 0, 0, 0, 99, []),
  (99, 1, 4, 0, 0, 0, 101, []),
  (101, 32, 170, 3, 12, 0, 104, []),
  (104, 12, 0, 110, 0, 0, 107, []),
  (107, 5, 3, 0, 0, 1, 110, []),
  (110, 5, 4, 0, 0, 1, 113, []),
  (113, 18, 0, 7, 0, 0, 116, []),
  (116, 1, 3, 0, 0, 0, 117, []),
  (117, 33, 0, 0, 0, 0, 118, [])]
/-- 169: ChunkCode$Audit.leadsNowhere(LChunkCode$Body;I)Z -/
def am_i169 : List (Nat × am_I) := [(0, 2, 0, 0, 0, 0, 1, []),
  (1, 20, 8, 0, 0, 0, 4, []),
  (4, 1, 1, 0, 0, 0, 5, []),
  (5, 0, 0, 0, 0, 0, 6, []),
  (6, 32, 54, 3, 5, 0, 9, []),
  (9, 19, 0, 170, 0, 0, 144, [(15, 144), (16, 144), (17, 170), (18, 170), (19, 170), (20, 170), (21, 170), (22, 170), (23, 170), (24, 170), (25, 170), (26, 170), (27, 170), (28, 170), (29, 170), (30, 170), (31, 170), (32, 170), (33, 170), (34, 170), (35, 144), (36, 144), (37, 144), (38, 157), (39, 170), (40, 157), (41, 170), (42, 170), (43, 170), (44, 157)]),
  (144, 2, 0, 0, 0, 0, 145, []),
  (145, 20, 8, 0, 0, 0, 148, []),
  (148, 1, 1, 0, 0, 0, 149, []),
  (149, 0, 0, 0, 0, 1, 150, []),
  (150, 32, 54, 3, 5, 0, 153, []),
  (153, 3, 2, 0, 0, 0, 154, []),
  (154, 18, 0, 172, 0, 0, 157, []),
  (157, 2, 0, 0, 0, 0, 158, []),
  (158, 20, 8, 0, 0, 0, 161, []),
  (161, 1, 1, 0, 0, 0, 162, []),
  (162, 0, 0, 0, 0, 2, 163, []),
  (163, 32, 54, 3, 5, 0, 166, []),
  (166, 3, 2, 0, 0, 0, 167, []),
  (167, 18, 0, 172, 0, 0, 170, []),
  (170, 0, 0, 0, 0, 0, 171, []),
  (171, 36, 0, 0, 0, 0, 172, []),
  (172, 1, 2, 0, 0, 0, 173, []),
  (173, 12, 2, 187, 0, 0, 176, []),
  (176, 1, 2, 0, 0, 0, 177, []),
  (177, 2, 0, 0, 0, 0, 178, []),
  (178, 20, 8, 0, 0, 0, 181, []),
  (181, 32, 36, 1, 5, 0, 184, []),
  (184, 13, 2, 191, 0, 0, 187, []),
  (187, 0, 0, 0, 0, 1, 188, []),
  (188, 18, 0, 192, 0, 0, 191, []),
  (191, 0, 0, 0, 0, 0, 192, []),
  (192, 36, 0, 0, 0, 0, 193, [])]
/-- 170: ChunkCode$Audit.meansNothing(LChunkCode$Body;I)Z -/
def am_i170 : List (Nat × am_I) := [(0, 2, 1, 0, 0, 0, 1, []),
  (1, 20, 8, 0, 0, 0, 4, []),
  (4, 1, 2, 0, 0, 0, 5, []),
  (5, 0, 0, 0, 0, 1, 6, []),
  (6, 32, 54, 3, 5, 0, 9, []),
  (9, 3, 3, 0, 0, 0, 10, []),
  (10, 2, 1, 0, 0, 0, 11, []),
  (11, 20, 8, 0, 0, 0, 14, []),
  (14, 1, 2, 0, 0, 0, 15, []),
  (15, 0, 0, 0, 0, 0, 16, []),
  (16, 32, 54, 3, 5, 0, 19, []),
  (19, 19, 0, 289, 0, 0, 184, [(7, 282), (8, 184), (9, 265), (10, 289), (11, 289), (12, 289), (13, 289), (14, 289), (15, 289), (16, 289), (17, 289), (18, 289), (19, 289), (20, 289), (21, 289), (22, 289), (23, 289), (24, 289), (25, 289), (26, 289), (27, 191), (28, 184), (29, 184), (30, 265), (31, 289), (32, 289), (33, 247), (34, 289), (35, 289), (36, 289), (37, 289), (38, 184), (39, 210), (40, 184), (41, 184), (42, 210), (43, 219), (44, 238)]),
  (184, 2, 1, 0, 0, 0, 185, []),
  (185, 1, 3, 0, 0, 0, 186, []),
  (186, 1, 3, 0, 0, 0, 187, []),
  (187, 32, 171, 3, 0, 0, 190, []),
  (190, 36, 0, 0, 0, 0, 191, []),
  (191, 2, 1, 0, 0, 0, 192, []),
  (192, 1, 3, 0, 0, 0, 193, []),
  (193, 1, 3, 0, 0, 0, 194, []),
  (194, 2, 1, 0, 0, 0, 195, []),
  (195, 20, 8, 0, 0, 0, 198, []),
  (198, 1, 2, 0, 0, 0, 199, []),
  (199, 0, 0, 0, 0, 2, 200, []),
  (200, 32, 54, 3, 5, 0, 203, []),
  (203, 10, 0, 0, 0, 0, 204, []),
  (204, 0, 0, 0, 0, 1, 205, []),
  (205, 10, 1, 0, 0, 0, 206, []),
  (206, 32, 171, 3, 0, 0, 209, []),
  (209, 36, 0, 0, 0, 0, 210, []),
  (210, 2, 1, 0, 0, 0, 211, []),
  (211, 1, 3, 0, 0, 0, 212, []),
  (212, 1, 3, 0, 0, 0, 213, []),
  (213, 0, 0, 0, 0, 3, 214, []),
  (214, 10, 0, 0, 0, 0, 215, []),
  (215, 32, 171, 3, 0, 0, 218, []),
  (218, 36, 0, 0, 0, 0, 219, []),
  (219, 2, 1, 0, 0, 0, 220, []),
  (220, 1, 3, 0, 0, 0, 221, []),
  (221, 1, 3, 0, 0, 0, 222, []),
  (222, 0, 0, 0, 0, 3, 223, []),
  (223, 10, 0, 0, 0, 0, 224, []),
  (224, 2, 1, 0, 0, 0, 225, []),
  (225, 20, 8, 0, 0, 0, 228, []),
  (228, 1, 2, 0, 0, 0, 229, []),
  (229, 0, 0, 0, 0, 2, 230, []),
  (230, 32, 54, 3, 5, 0, 233, []),
  (233, 10, 0, 0, 0, 0, 234, []),
  (234, 32, 171, 3, 0, 0, 237, []),
  (237, 36, 0, 0, 0, 0, 238, []),
  (238, 2, 1, 0, 0, 0, 239, []),
  (239, 1, 3, 0, 0, 0, 240, []),
  (240, 1, 3, 0, 0, 0, 241, []),
  (241, 0, 0, 0, 0, 4, 242, []),
  (242, 10, 0, 0, 0, 0, 243, []),
  (243, 32, 171, 3, 0, 0, 246, []),
  (246, 36, 0, 0, 0, 0, 247, []),
  (247, 1, 3, 0, 0, 0, 248, []),
  (248, 12, 2, 259, 0, 0, 251, []),
  (251, 1, 3, 0, 0, 0, 252, []),
  (252, 2, 1, 0, 0, 0, 253, []),
  (253, 20, 8, 7, 0, 0, 256, []),
  (256, 13, 5, 263, 0, 0, 259, []),
  (259, 0, 0, 0, 0, 1, 260, []),
  (260, 18, 0, 264, 0, 0, 263, []),
  (263, 0, 0, 0, 0, 0, 264, []),
  (264, 36, 0, 0, 0, 0, 265, []),
  (265, 2, 1, 0, 0, 0, 266, []),
  (266, 20, 8, 1, 0, 0, 269, []),
  (269, 1, 3, 0, 0, 0, 270, []),
  (270, 32, 161, 2, 5, 0, 273, []),
  (273, 12, 1, 280, 0, 0, 276, []),
  (276, 0, 0, 0, 0, 1, 277, []),
  (277, 18, 0, 281, 0, 0, 280, []),
  (280, 0, 0, 0, 0, 0, 281, []),
  (281, 36, 0, 0, 0, 0, 282, []),
  (282, 2, 0, 0, 0, 0, 283, []),
  (283, 2, 1, 0, 0, 0, 284, []),
  (284, 1, 3, 0, 0, 0, 285, []),
  (285, 32, 172, 3, 12, 0, 288, []),
  (288, 36, 0, 0, 0, 0, 289, []),
  (289, 0, 0, 0, 0, 0, 290, []),
  (290, 36, 0, 0, 0, 0, 291, [])]
/-- 171: ChunkCode$Audit.isNoSlot(LChunkCode$Body;II)Z -/
def am_i171 : List (Nat × am_I) := [(0, 1, 1, 0, 0, 0, 1, []),
  (1, 12, 2, 12, 0, 0, 4, []),
  (4, 1, 2, 0, 0, 0, 5, []),
  (5, 2, 0, 0, 0, 0, 6, []),
  (6, 20, 8, 7, 0, 0, 9, []),
  (9, 13, 2, 16, 0, 0, 12, []),
  (12, 0, 0, 0, 0, 1, 13, []),
  (13, 18, 0, 17, 0, 0, 16, []),
  (16, 0, 0, 0, 0, 0, 17, []),
  (17, 36, 0, 0, 0, 0, 18, [])]
/-- 172: ChunkCode$Audit.isNotIn(LChunkCode$Body;I)Z -/
def am_i172 : List (Nat × am_I) := [(0, 2, 0, 0, 0, 0, 1, []),
  (1, 20, 10, 0, 0, 0, 4, []),
  (4, 1, 2, 0, 0, 0, 5, []),
  (5, 32, 159, 2, 6, 0, 8, []),
  (8, 4, 3, 0, 0, 0, 9, []),
  (9, 2, 3, 0, 0, 0, 10, []),
  (10, 14, 0, 24, 0, 0, 13, []),
  (13, 2, 3, 0, 0, 0, 14, []),
  (14, 20, 8, 3, 0, 0, 17, []),
  (17, 2, 1, 0, 0, 0, 18, []),
  (18, 20, 8, 2, 0, 0, 21, []),
  (21, 13, 0, 28, 0, 0, 24, []),
  (24, 0, 0, 0, 0, 1, 25, []),
  (25, 18, 0, 29, 0, 0, 28, []),
  (28, 0, 0, 0, 0, 0, 29, []),
  (29, 36, 0, 0, 0, 0, 30, [])]
/-- 278: ChunkCodeLaw.law([I)Z -/
def am_i278 : List (Nat × am_I) := [(0, 22, 0, 0, 0, 0, 3, []),
  (3, 7, 0, 0, 0, 0, 4, []),
  (4, 32, 0, 1, 1, 0, 7, []),
  (7, 4, 1, 0, 0, 0, 8, []),
  (8, 22, 11, 0, 0, 0, 11, []),
  (11, 7, 0, 0, 0, 0, 12, []),
  (12, 32, 173, 1, 1, 0, 15, []),
  (15, 4, 2, 0, 0, 0, 16, []),
  (16, 0, 0, 0, 0, 0, 17, []),
  (17, 3, 3, 0, 0, 0, 18, []),
  (18, 1, 3, 0, 0, 0, 19, []),
  (19, 2, 0, 0, 0, 0, 20, []),
  (20, 24, 0, 0, 0, 0, 21, []),
  (21, 0, 0, 0, 0, 4, 22, []),
  (22, 10, 1, 0, 0, 0, 23, []),
  (23, 13, 4, 317, 0, 0, 26, []),
  (26, 2, 0, 0, 0, 0, 27, []),
  (27, 1, 3, 0, 0, 0, 28, []),
  (28, 25, 0, 0, 0, 0, 29, []),
  (29, 0, 0, 0, 0, 15, 31, []),
  (31, 10, 3, 0, 0, 0, 32, []),
  (32, 19, 0, 311, 0, 0, 84, [(0, 84), (1, 117), (2, 130), (3, 143), (4, 156), (5, 189), (6, 232), (7, 275), (8, 298)]),
  (84, 2, 1, 0, 0, 0, 85, []),
  (85, 2, 0, 0, 0, 0, 86, []),
  (86, 1, 3, 0, 0, 0, 87, []),
  (87, 0, 0, 0, 0, 1, 88, []),
  (88, 10, 0, 0, 0, 0, 89, []),
  (89, 25, 0, 0, 0, 0, 90, []),
  (90, 2, 0, 0, 0, 0, 91, []),
  (91, 1, 3, 0, 0, 0, 92, []),
  (92, 0, 0, 0, 0, 2, 93, []),
  (93, 10, 0, 0, 0, 0, 94, []),
  (94, 25, 0, 0, 0, 0, 95, []),
  (95, 32, 33, 3, 2, 0, 98, []),
  (98, 2, 2, 0, 0, 0, 99, []),
  (99, 2, 0, 0, 0, 0, 100, []),
  (100, 1, 3, 0, 0, 0, 101, []),
  (101, 0, 0, 0, 0, 1, 102, []),
  (102, 10, 0, 0, 0, 0, 103, []),
  (103, 25, 0, 0, 0, 0, 104, []),
  (104, 2, 0, 0, 0, 0, 105, []),
  (105, 1, 3, 0, 0, 0, 106, []),
  (106, 0, 0, 0, 0, 2, 107, []),
  (107, 10, 0, 0, 0, 0, 108, []),
  (108, 25, 0, 0, 0, 0, 109, []),
  (109, 32, 174, 3, 13, 0, 112, []),
  (112, 13, 0, 311, 0, 0, 115, []),
  (115, 0, 0, 0, 0, 0, 116, []),
  (116, 36, 0, 0, 0, 0, 117, []),
  (117, 2, 1, 0, 0, 0, 118, []),
  (118, 32, 38, 1, 2, 0, 121, []),
  (121, 2, 2, 0, 0, 0, 122, []),
  (122, 32, 175, 1, 13, 0, 125, []),
  (125, 13, 0, 311, 0, 0, 128, []),
  (128, 0, 0, 0, 0, 0, 129, []),
  (129, 36, 0, 0, 0, 0, 130, []),
  (130, 2, 1, 0, 0, 0, 131, []),
  (131, 32, 156, 1, 2, 0, 134, []),
  (134, 2, 2, 0, 0, 0, 135, []),
  (135, 32, 267, 1, 13, 0, 138, []),
  (138, 13, 0, 311, 0, 0, 141, []),
  (141, 0, 0, 0, 0, 0, 142, []),
  (142, 36, 0, 0, 0, 0, 143, []),
  (143, 2, 1, 0, 0, 0, 144, []),
  (144, 32, 157, 1, 2, 0, 147, []),
  (147, 2, 2, 0, 0, 0, 148, []),
  (148, 32, 268, 1, 13, 0, 151, []),
  (151, 13, 0, 311, 0, 0, 154, []),
  (154, 0, 0, 0, 0, 0, 155, []),
  (155, 36, 0, 0, 0, 0, 156, []),
  (156, 2, 1, 0, 0, 0, 157, []),
  (157, 2, 0, 0, 0, 0, 158, []),
  (158, 1, 3, 0, 0, 0, 159, []),
  (159, 0, 0, 0, 0, 1, 160, []),
  (160, 10, 0, 0, 0, 0, 161, []),
  (161, 25, 0, 0, 0, 0, 162, []),
  (162, 2, 0, 0, 0, 0, 163, []),
  (163, 1, 3, 0, 0, 0, 164, []),
  (164, 0, 0, 0, 0, 2, 165, []),
  (165, 10, 0, 0, 0, 0, 166, []),
  (166, 25, 0, 0, 0, 0, 167, []),
  (167, 32, 158, 3, 2, 0, 170, []),
  (170, 2, 2, 0, 0, 0, 171, []),
  (171, 2, 0, 0, 0, 0, 172, []),
  (172, 1, 3, 0, 0, 0, 173, []),
  (173, 0, 0, 0, 0, 1, 174, []),
  (174, 10, 0, 0, 0, 0, 175, []),
  (175, 25, 0, 0, 0, 0, 176, []),
  (176, 2, 0, 0, 0, 0, 177, []),
  (177, 1, 3, 0, 0, 0, 178, []),
  (178, 0, 0, 0, 0, 2, 179, []),
  (179, 10, 0, 0, 0, 0, 180, []),
  (180, 25, 0, 0, 0, 0, 181, []),
  (181, 32, 269, 3, 13, 0, 184, []),
  (184, 13, 0, 311, 0, 0, 187, []),
  (187, 0, 0, 0, 0, 0, 188, []),
  (188, 36, 0, 0, 0, 0, 189, []),
  (189, 2, 1, 0, 0, 0, 190, []),
  (190, 2, 0, 0, 0, 0, 191, []),
  (191, 1, 3, 0, 0, 0, 192, []),
  (192, 0, 0, 0, 0, 1, 193, []),
  (193, 10, 0, 0, 0, 0, 194, []),
  (194, 25, 0, 0, 0, 0, 195, []),
  (195, 2, 0, 0, 0, 0, 196, []),
  (196, 1, 3, 0, 0, 0, 197, []),
  (197, 0, 0, 0, 0, 2, 198, []),
  (198, 10, 0, 0, 0, 0, 199, []),
  (199, 25, 0, 0, 0, 0, 200, []),
  (200, 2, 0, 0, 0, 0, 201, []),
  (201, 1, 3, 0, 0, 0, 202, []),
  (202, 0, 0, 0, 0, 3, 203, []),
  (203, 10, 0, 0, 0, 0, 204, []),
  (204, 25, 0, 0, 0, 0, 205, []),
  (205, 32, 160, 4, 2, 0, 208, []),
  (208, 2, 2, 0, 0, 0, 209, []),
  (209, 2, 0, 0, 0, 0, 210, []),
  (210, 1, 3, 0, 0, 0, 211, []),
  (211, 0, 0, 0, 0, 1, 212, []),
  (212, 10, 0, 0, 0, 0, 213, []),
  (213, 25, 0, 0, 0, 0, 214, []),
  (214, 2, 0, 0, 0, 0, 215, []),
  (215, 1, 3, 0, 0, 0, 216, []),
  (216, 0, 0, 0, 0, 2, 217, []),
  (217, 10, 0, 0, 0, 0, 218, []),
  (218, 25, 0, 0, 0, 0, 219, []),
  (219, 2, 0, 0, 0, 0, 220, []),
  (220, 1, 3, 0, 0, 0, 221, []),
  (221, 0, 0, 0, 0, 3, 222, []),
  (222, 10, 0, 0, 0, 0, 223, []),
  (223, 25, 0, 0, 0, 0, 224, []),
  (224, 32, 271, 4, 13, 0, 227, []),
  (227, 13, 0, 311, 0, 0, 230, []),
  (230, 0, 0, 0, 0, 0, 231, []),
  (231, 36, 0, 0, 0, 0, 232, []),
  (232, 2, 1, 0, 0, 0, 233, []),
  (233, 2, 0, 0, 0, 0, 234, []),
  (234, 1, 3, 0, 0, 0, 235, []),
  (235, 0, 0, 0, 0, 1, 236, []),
  (236, 10, 0, 0, 0, 0, 237, []),
  (237, 25, 0, 0, 0, 0, 238, []),
  (238, 2, 0, 0, 0, 0, 239, []),
  (239, 1, 3, 0, 0, 0, 240, []),
  (240, 0, 0, 0, 0, 2, 241, []),
  (241, 10, 0, 0, 0, 0, 242, []),
  (242, 25, 0, 0, 0, 0, 243, []),
  (243, 2, 0, 0, 0, 0, 244, []),
  (244, 1, 3, 0, 0, 0, 245, []),
  (245, 0, 0, 0, 0, 3, 246, []),
  (246, 10, 0, 0, 0, 0, 247, []),
  (247, 25, 0, 0, 0, 0, 248, []),
  (248, 32, 162, 4, 2, 0, 251, []),
  (251, 2, 2, 0, 0, 0, 252, []),
  (252, 2, 0, 0, 0, 0, 253, []),
  (253, 1, 3, 0, 0, 0, 254, []),
  (254, 0, 0, 0, 0, 1, 255, []),
  (255, 10, 0, 0, 0, 0, 256, []),
  (256, 25, 0, 0, 0, 0, 257, []),
  (257, 2, 0, 0, 0, 0, 258, []),
  (258, 1, 3, 0, 0, 0, 259, []),
  (259, 0, 0, 0, 0, 2, 260, []),
  (260, 10, 0, 0, 0, 0, 261, []),
  (261, 25, 0, 0, 0, 0, 262, []),
  (262, 2, 0, 0, 0, 0, 263, []),
  (263, 1, 3, 0, 0, 0, 264, []),
  (264, 0, 0, 0, 0, 3, 265, []),
  (265, 10, 0, 0, 0, 0, 266, []),
  (266, 25, 0, 0, 0, 0, 267, []),
  (267, 32, 272, 4, 13, 0, 270, []),
  (270, 13, 0, 311, 0, 0, 273, []),
  (273, 0, 0, 0, 0, 0, 274, []),
  (274, 36, 0, 0, 0, 0, 275, []),
  (275, 2, 1, 0, 0, 0, 276, []),
  (276, 2, 0, 0, 0, 0, 277, []),
  (277, 1, 3, 0, 0, 0, 278, []),
  (278, 0, 0, 0, 0, 1, 279, []),
  (279, 10, 0, 0, 0, 0, 280, []),
  (280, 25, 0, 0, 0, 0, 281, []),
  (281, 32, 163, 2, 2, 0, 284, []),
  (284, 2, 2, 0, 0, 0, 285, []),
  (285, 2, 0, 0, 0, 0, 286, []),
  (286, 1, 3, 0, 0, 0, 287, []),
  (287, 0, 0, 0, 0, 1, 288, []),
  (288, 10, 0, 0, 0, 0, 289, []),
  (289, 25, 0, 0, 0, 0, 290, []),
  (290, 32, 273, 2, 13, 0, 293, []),
  (293, 13, 0, 311, 0, 0, 296, []),
  (296, 0, 0, 0, 0, 0, 297, []),
  (297, 36, 0, 0, 0, 0, 298, []),
  (298, 2, 1, 0, 0, 0, 299, []),
  (299, 32, 166, 1, 2, 0, 302, []),
  (302, 2, 2, 0, 0, 0, 303, []),
  (303, 32, 275, 1, 13, 0, 306, []),
  (306, 13, 0, 311, 0, 0, 309, []),
  (309, 0, 0, 0, 0, 0, 310, []),
  (310, 36, 0, 0, 0, 0, 311, []),
  (311, 5, 3, 0, 0, 4, 314, []),
  (314, 18, 0, 18, 0, 0, 317, []),
  (317, 0, 0, 0, 0, 1, 318, []),
  (318, 36, 0, 0, 0, 0, 319, [])]
end
section
/-! THE PROGRAM: small instructions of each method, out of its bytes (printed by wip/whole/gen13.py) -/
/-- 173: ChunkCodeModel.<init>()V -/
def am_i173 : List (Nat × am_I) := [(0, 2, 0, 0, 0, 0, 1, []),
  (1, 31, 0, 0, 0, 0, 4, []),
  (4, 2, 0, 0, 0, 0, 5, []),
  (5, 0, 0, 0, 0, 16384, 8, []),
  (8, 23, 0, 0, 0, 0, 10, []),
  (10, 21, 11, 1, 5, 0, 13, []),
  (13, 2, 0, 0, 0, 0, 14, []),
  (14, 0, 0, 0, 0, 16384, 17, []),
  (17, 23, 0, 0, 0, 0, 19, []),
  (19, 21, 11, 2, 5, 0, 22, []),
  (22, 2, 0, 0, 0, 0, 23, []),
  (23, 0, 0, 0, 0, 65536, 25, []),
  (25, 23, 0, 0, 0, 0, 27, []),
  (27, 21, 11, 11, 5, 0, 30, []),
  (30, 2, 0, 0, 0, 0, 31, []),
  (31, 0, 0, 0, 0, 65536, 33, []),
  (33, 23, 0, 0, 0, 0, 35, []),
  (35, 21, 11, 12, 5, 0, 38, []),
  (38, 2, 0, 0, 0, 0, 39, []),
  (39, 0, 0, 0, 0, 65536, 41, []),
  (41, 23, 0, 0, 0, 0, 43, []),
  (43, 21, 11, 13, 5, 0, 46, []),
  (46, 2, 0, 0, 0, 0, 47, []),
  (47, 0, 0, 0, 0, 65536, 49, []),
  (49, 23, 0, 0, 0, 0, 51, []),
  (51, 21, 11, 14, 5, 0, 54, []),
  (54, 2, 0, 0, 0, 0, 55, []),
  (55, 0, 0, 0, 0, 32768, 57, []),
  (57, 23, 0, 0, 0, 0, 59, []),
  (59, 21, 11, 16, 5, 0, 62, []),
  (62, 2, 0, 0, 0, 0, 63, []),
  (63, 0, 0, 0, 0, 32768, 65, []),
  (65, 23, 0, 0, 0, 0, 67, []),
  (67, 21, 11, 17, 5, 0, 70, []),
  (70, 2, 0, 0, 0, 0, 71, []),
  (71, 0, 0, 0, 0, 32768, 73, []),
  (73, 23, 0, 0, 0, 0, 75, []),
  (75, 21, 11, 18, 5, 0, 78, []),
  (78, 2, 0, 0, 0, 0, 79, []),
  (79, 0, 0, 0, 0, 16384, 82, []),
  (82, 23, 0, 0, 0, 0, 84, []),
  (84, 21, 11, 21, 5, 0, 87, []),
  (87, 2, 0, 0, 0, 0, 88, []),
  (88, 0, 0, 0, 0, 16384, 91, []),
  (91, 23, 0, 0, 0, 0, 93, []),
  (93, 21, 11, 22, 5, 0, 96, []),
  (96, 2, 0, 0, 0, 0, 97, []),
  (97, 0, 0, 0, 0, 16384, 100, []),
  (100, 23, 0, 0, 0, 0, 102, []),
  (102, 21, 11, 23, 5, 0, 105, []),
  (105, 2, 0, 0, 0, 0, 106, []),
  (106, 0, 0, 0, 0, 16384, 109, []),
  (109, 23, 0, 0, 0, 0, 111, []),
  (111, 21, 11, 25, 5, 0, 114, []),
  (114, 2, 0, 0, 0, 0, 115, []),
  (115, 0, 0, 0, 0, 16384, 118, []),
  (118, 23, 0, 0, 0, 0, 120, []),
  (120, 21, 11, 26, 5, 0, 123, []),
  (123, 2, 0, 0, 0, 0, 124, []),
  (124, 0, 0, 0, 0, 16384, 127, []),
  (127, 23, 0, 0, 0, 0, 129, []),
  (129, 21, 11, 27, 5, 0, 132, []),
  (132, 2, 0, 0, 0, 0, 133, []),
  (133, 0, 0, 0, 0, 16384, 136, []),
  (136, 23, 1, 0, 0, 0, 138, []),
  (138, 21, 11, 28, 5, 0, 141, []),
  (141, 2, 0, 0, 0, 0, 142, []),
  (142, 0, 0, 0, 0, 16384, 145, []),
  (145, 23, 1, 0, 0, 0, 147, []),
  (147, 21, 11, 29, 5, 0, 150, []),
  (150, 2, 0, 0, 0, 0, 151, []),
  (151, 0, 0, 0, 0, 16384, 154, []),
  (154, 23, 1, 0, 0, 0, 156, []),
  (156, 21, 11, 30, 5, 0, 159, []),
  (159, 2, 0, 0, 0, 0, 160, []),
  (160, 0, 0, 0, 0, 64, 162, []),
  (162, 23, 0, 0, 0, 0, 164, []),
  (164, 21, 11, 33, 5, 0, 167, []),
  (167, 2, 0, 0, 0, 0, 168, []),
  (168, 0, 0, 0, 0, 64, 170, []),
  (170, 23, 0, 0, 0, 0, 172, []),
  (172, 21, 11, 34, 5, 0, 175, []),
  (175, 2, 0, 0, 0, 0, 176, []),
  (176, 0, 0, 0, 0, 64, 178, []),
  (178, 23, 0, 0, 0, 0, 180, []),
  (180, 21, 11, 35, 5, 0, 183, []),
  (183, 2, 0, 0, 0, 0, 184, []),
  (184, 0, 0, 0, 0, 64, 186, []),
  (186, 23, 0, 0, 0, 0, 188, []),
  (188, 21, 11, 36, 5, 0, 191, []),
  (191, 2, 0, 0, 0, 0, 192, []),
  (192, 0, 0, 0, 0, 128, 195, []),
  (195, 23, 0, 0, 0, 0, 197, []),
  (197, 21, 11, 38, 5, 0, 200, []),
  (200, 2, 0, 0, 0, 0, 201, []),
  (201, 0, 0, 0, 0, 128, 204, []),
  (204, 23, 0, 0, 0, 0, 206, []),
  (206, 21, 11, 39, 5, 0, 209, []),
  (209, 2, 0, 0, 0, 0, 210, []),
  (210, 0, 0, 0, 0, 128, 213, []),
  (213, 23, 0, 0, 0, 0, 215, []),
  (215, 21, 11, 40, 5, 0, 218, []),
  (218, 2, 0, 0, 0, 0, 219, []),
  (219, 0, 0, 0, 0, 128, 222, []),
  (222, 23, 0, 0, 0, 0, 224, []),
  (224, 21, 11, 41, 5, 0, 227, []),
  (227, 2, 0, 0, 0, 0, 228, []),
  (228, 0, 0, 0, 0, 128, 231, []),
  (231, 23, 1, 0, 0, 0, 233, []),
  (233, 21, 11, 42, 5, 0, 236, []),
  (236, 2, 0, 0, 0, 0, 237, []),
  (237, 0, 0, 0, 0, 128, 240, []),
  (240, 23, 0, 0, 0, 0, 242, []),
  (242, 21, 11, 43, 5, 0, 245, []),
  (245, 2, 0, 0, 0, 0, 246, []),
  (246, 0, 0, 0, 0, 8192, 249, []),
  (249, 23, 0, 0, 0, 0, 251, []),
  (251, 21, 11, 45, 5, 0, 254, []),
  (254, 2, 0, 0, 0, 0, 255, []),
  (255, 0, 0, 0, 0, 8192, 258, []),
  (258, 23, 0, 0, 0, 0, 260, []),
  (260, 21, 11, 46, 5, 0, 263, []),
  (263, 2, 0, 0, 0, 0, 264, []),
  (264, 0, 0, 0, 0, 8192, 267, []),
  (267, 23, 0, 0, 0, 0, 269, []),
  (269, 21, 11, 47, 5, 0, 272, []),
  (272, 2, 0, 0, 0, 0, 273, []),
  (273, 0, 0, 0, 0, 8192, 276, []),
  (276, 23, 0, 0, 0, 0, 278, []),
  (278, 21, 11, 49, 5, 0, 281, []),
  (281, 2, 0, 0, 0, 0, 282, []),
  (282, 0, 0, 0, 0, 8192, 285, []),
  (285, 23, 0, 0, 0, 0, 287, []),
  (287, 21, 11, 50, 5, 0, 290, []),
  (290, 2, 0, 0, 0, 0, 291, []),
  (291, 0, 0, 0, 0, 8192, 294, []),
  (294, 23, 0, 0, 0, 0, 296, []),
  (296, 21, 11, 51, 5, 0, 299, []),
  (299, 2, 0, 0, 0, 0, 300, []),
  (300, 0, 0, 0, 0, 8192, 303, []),
  (303, 23, 0, 0, 0, 0, 305, []),
  (305, 21, 11, 52, 5, 0, 308, []),
  (308, 2, 0, 0, 0, 0, 309, []),
  (309, 0, 0, 0, 0, 1, 310, []),
  (310, 21, 11, 53, 0, 0, 313, []),
  (313, 2, 0, 0, 0, 0, 314, []),
  (314, 0, 0, 0, 0, 4096, 317, []),
  (317, 23, 0, 0, 0, 0, 319, []),
  (319, 21, 11, 54, 5, 0, 322, []),
  (322, 2, 0, 0, 0, 0, 323, []),
  (323, 0, 0, 0, 0, 4096, 326, []),
  (326, 23, 0, 0, 0, 0, 328, []),
  (328, 21, 11, 55, 5, 0, 331, []),
  (331, 2, 0, 0, 0, 0, 332, []),
  (332, 0, 0, 0, 0, 4096, 335, []),
  (335, 23, 0, 0, 0, 0, 337, []),
  (337, 21, 11, 56, 5, 0, 340, []),
  (340, 2, 0, 0, 0, 0, 341, []),
  (341, 0, 0, 0, 0, 4096, 344, []),
  (344, 23, 0, 0, 0, 0, 346, []),
  (346, 21, 11, 57, 5, 0, 349, []),
  (349, 2, 0, 0, 0, 0, 350, []),
  (350, 0, 0, 0, 0, 4096, 353, []),
  (353, 23, 0, 0, 0, 0, 355, []),
  (355, 21, 11, 58, 5, 0, 358, []),
  (358, 2, 0, 0, 0, 0, 359, []),
  (359, 0, 0, 0, 0, 4096, 362, []),
  (362, 23, 0, 0, 0, 0, 364, []),
  (364, 21, 11, 59, 5, 0, 367, []),
  (367, 2, 0, 0, 0, 0, 368, []),
  (368, 0, 0, 0, 0, 4096, 371, []),
  (371, 23, 0, 0, 0, 0, 373, []),
  (373, 21, 11, 60, 5, 0, 376, []),
  (376, 2, 0, 0, 0, 0, 377, []),
  (377, 0, 0, 0, 0, 4097, 380, []),
  (380, 23, 0, 0, 0, 0, 382, []),
  (382, 21, 11, 61, 5, 0, 385, []),
  (385, 2, 0, 0, 0, 0, 386, []),
  (386, 0, 0, 0, 0, 65536, 388, []),
  (388, 23, 0, 0, 0, 0, 390, []),
  (390, 21, 11, 63, 5, 0, 393, []),
  (393, 2, 0, 0, 0, 0, 394, []),
  (394, 0, 0, 0, 0, 65536, 396, []),
  (396, 23, 0, 0, 0, 0, 398, []),
  (398, 21, 11, 64, 5, 0, 401, []),
  (401, 2, 0, 0, 0, 0, 402, []),
  (402, 0, 0, 0, 0, 65536, 404, []),
  (404, 23, 0, 0, 0, 0, 406, []),
  (406, 21, 11, 65, 5, 0, 409, []),
  (409, 2, 0, 0, 0, 0, 410, []),
  (410, 0, 0, 0, 0, 65536, 412, []),
  (412, 23, 0, 0, 0, 0, 414, []),
  (414, 21, 11, 66, 5, 0, 417, []),
  (417, 2, 0, 0, 0, 0, 418, []),
  (418, 0, 0, 0, 0, 4096, 421, []),
  (421, 23, 0, 0, 0, 0, 423, []),
  (423, 21, 11, 67, 5, 0, 426, []),
  (426, 2, 0, 0, 0, 0, 427, []),
  (427, 0, 0, 0, 0, 1, 428, []),
  (428, 21, 11, 68, 0, 0, 431, []),
  (431, 2, 0, 0, 0, 0, 432, []),
  (432, 0, 0, 0, 0, 65536, 434, []),
  (434, 23, 0, 0, 0, 0, 436, []),
  (436, 21, 11, 69, 5, 0, 439, []),
  (439, 2, 0, 0, 0, 0, 440, []),
  (440, 0, 0, 0, 0, 65536, 442, []),
  (442, 23, 0, 0, 0, 0, 444, []),
  (444, 21, 11, 70, 5, 0, 447, []),
  (447, 2, 0, 0, 0, 0, 448, []),
  (448, 0, 0, 0, 0, 65536, 450, []),
  (450, 23, 0, 0, 0, 0, 452, []),
  (452, 21, 11, 71, 5, 0, 455, []),
  (455, 2, 0, 0, 0, 0, 456, []),
  (456, 0, 0, 0, 0, 65536, 458, []),
  (458, 23, 0, 0, 0, 0, 460, []),
  (460, 21, 11, 72, 5, 0, 463, []),
  (463, 2, 0, 0, 0, 0, 464, []),
  (464, 0, 0, 0, 0, 65536, 466, []),
  (466, 23, 0, 0, 0, 0, 468, []),
  (468, 21, 11, 73, 5, 0, 471, []),
  (471, 2, 0, 0, 0, 0, 472, []),
  (472, 0, 0, 0, 0, 65536, 474, []),
  (474, 23, 0, 0, 0, 0, 476, []),
  (476, 21, 11, 74, 5, 0, 479, []),
  (479, 2, 0, 0, 0, 0, 480, []),
  (480, 20, 11, 70, 0, 0, 483, []),
  (483, 0, 0, 0, 0, 0, 484, []),
  (484, 0, 0, 0, 0, 45, 486, []),
  (486, 26, 0, 0, 0, 0, 487, []),
  (487, 2, 0, 0, 0, 0, 488, []),
  (488, 20, 11, 54, 0, 0, 491, []),
  (491, 0, 0, 0, 0, 0, 492, []),
  (492, 0, 0, 0, 0, (-1), 493, []),
  (493, 26, 0, 0, 0, 0, 494, []),
  (494, 2, 0, 0, 0, 0, 495, []),
  (495, 20, 11, 59, 0, 0, 498, []),
  (498, 0, 0, 0, 0, 0, 499, []),
  (499, 0, 0, 0, 0, (-1), 500, []),
  (500, 26, 0, 0, 0, 0, 501, []),
  (501, 2, 0, 0, 0, 0, 502, []),
  (502, 20, 11, 56, 0, 0, 505, []),
  (505, 0, 0, 0, 0, 0, 506, []),
  (506, 0, 0, 0, 0, 1, 507, []),
  (507, 26, 0, 0, 0, 0, 508, []),
  (508, 2, 0, 0, 0, 0, 509, []),
  (509, 20, 11, 60, 0, 0, 512, []),
  (512, 0, 0, 0, 0, 0, 513, []),
  (513, 0, 0, 0, 0, 1, 514, []),
  (514, 26, 0, 0, 0, 0, 515, []),
  (515, 2, 0, 0, 0, 0, 516, []),
  (516, 20, 11, 61, 0, 0, 519, []),
  (519, 0, 0, 0, 0, 1, 520, []),
  (520, 0, 0, 0, 0, 1, 521, []),
  (521, 26, 0, 0, 0, 0, 522, []),
  (522, 35, 0, 0, 0, 0, 523, [])]
/-- 174: ChunkCodeModel.word(II)I -/
def am_i174 : List (Nat × am_I) := [(0, 1, 1, 0, 0, 0, 1, []),
  (1, 0, 0, 0, 0, 1, 2, []),
  (2, 13, 2, 10, 0, 0, 5, []),
  (5, 1, 1, 0, 0, 0, 6, []),
  (6, 0, 0, 0, 0, 3, 7, []),
  (7, 13, 5, 34, 0, 0, 10, []),
  (10, 1, 1, 0, 0, 0, 11, []),
  (11, 0, 0, 0, 0, 10, 13, []),
  (13, 13, 2, 22, 0, 0, 16, []),
  (16, 1, 1, 0, 0, 0, 17, []),
  (17, 0, 0, 0, 0, 31, 19, []),
  (19, 13, 5, 34, 0, 0, 22, []),
  (22, 1, 1, 0, 0, 0, 23, []),
  (23, 0, 0, 0, 0, 40, 25, []),
  (25, 13, 2, 38, 0, 0, 28, []),
  (28, 1, 1, 0, 0, 0, 29, []),
  (29, 0, 0, 0, 0, 72, 31, []),
  (31, 13, 4, 38, 0, 0, 34, []),
  (34, 0, 0, 0, 0, 1, 35, []),
  (35, 18, 0, 39, 0, 0, 38, []),
  (38, 0, 0, 0, 0, 0, 39, []),
  (39, 3, 3, 0, 0, 0, 40, []),
  (40, 1, 3, 0, 0, 0, 41, []),
  (41, 12, 1, 46, 0, 0, 44, []),
  (44, 0, 0, 0, 0, (-1), 45, []),
  (45, 33, 0, 0, 0, 0, 46, []),
  (46, 2, 0, 0, 0, 0, 47, []),
  (47, 20, 11, 0, 0, 0, 50, []),
  (50, 0, 0, 0, 0, 16384, 53, []),
  (53, 13, 1, 59, 0, 0, 56, []),
  (56, 0, 0, 0, 0, (-3), 58, []),
  (58, 33, 0, 0, 0, 0, 59, []),
  (59, 2, 0, 0, 0, 0, 60, []),
  (60, 20, 11, 1, 0, 0, 63, []),
  (63, 2, 0, 0, 0, 0, 64, []),
  (64, 20, 11, 0, 0, 0, 67, []),
  (67, 1, 1, 0, 0, 0, 68, []),
  (68, 26, 0, 0, 0, 0, 69, []),
  (69, 2, 0, 0, 0, 0, 70, []),
  (70, 20, 11, 2, 0, 0, 73, []),
  (73, 2, 0, 0, 0, 0, 74, []),
  (74, 20, 11, 0, 0, 0, 77, []),
  (77, 1, 2, 0, 0, 0, 78, []),
  (78, 26, 0, 0, 0, 0, 79, []),
  (79, 2, 0, 0, 0, 0, 80, []),
  (80, 7, 0, 0, 0, 0, 81, []),
  (81, 20, 11, 0, 0, 0, 84, []),
  (84, 0, 0, 0, 0, 1, 85, []),
  (85, 10, 0, 0, 0, 0, 86, []),
  (86, 21, 11, 0, 0, 0, 89, []),
  (89, 2, 0, 0, 0, 0, 90, []),
  (90, 20, 11, 0, 0, 0, 93, []),
  (93, 33, 0, 0, 0, 0, 94, [])]
/-- 175: ChunkCodeModel.compile()I -/
def am_i175 : List (Nat × am_I) := [(0, 2, 0, 0, 0, 0, 1, []),
  (1, 32, 176, 1, 13, 0, 4, []),
  (4, 2, 0, 0, 0, 0, 5, []),
  (5, 0, 0, 0, 0, 0, 6, []),
  (6, 32, 177, 2, 13, 0, 9, []),
  (9, 2, 0, 0, 0, 0, 10, []),
  (10, 32, 178, 1, 13, 0, 13, []),
  (13, 2, 0, 0, 0, 0, 14, []),
  (14, 20, 11, 10, 0, 0, 17, []),
  (17, 12, 5, 73, 0, 0, 20, []),
  (20, 2, 0, 0, 0, 0, 21, []),
  (21, 7, 0, 0, 0, 0, 22, []),
  (22, 20, 11, 10, 0, 0, 25, []),
  (25, 0, 0, 0, 0, 1, 26, []),
  (26, 10, 1, 0, 0, 0, 27, []),
  (27, 21, 11, 10, 0, 0, 30, []),
  (30, 2, 0, 0, 0, 0, 31, []),
  (31, 2, 0, 0, 0, 0, 32, []),
  (32, 20, 11, 11, 0, 0, 35, []),
  (35, 2, 0, 0, 0, 0, 36, []),
  (36, 20, 11, 10, 0, 0, 39, []),
  (39, 25, 0, 0, 0, 0, 40, []),
  (40, 2, 0, 0, 0, 0, 41, []),
  (41, 20, 11, 12, 0, 0, 44, []),
  (44, 2, 0, 0, 0, 0, 45, []),
  (45, 20, 11, 10, 0, 0, 48, []),
  (48, 25, 0, 0, 0, 0, 49, []),
  (49, 2, 0, 0, 0, 0, 50, []),
  (50, 20, 11, 13, 0, 0, 53, []),
  (53, 2, 0, 0, 0, 0, 54, []),
  (54, 20, 11, 10, 0, 0, 57, []),
  (57, 25, 0, 0, 0, 0, 58, []),
  (58, 2, 0, 0, 0, 0, 59, []),
  (59, 20, 11, 14, 0, 0, 62, []),
  (62, 2, 0, 0, 0, 0, 63, []),
  (63, 20, 11, 10, 0, 0, 66, []),
  (66, 25, 0, 0, 0, 0, 67, []),
  (67, 32, 180, 5, 13, 0, 70, []),
  (70, 18, 0, 13, 0, 0, 73, []),
  (73, 2, 0, 0, 0, 0, 74, []),
  (74, 20, 11, 6, 0, 0, 77, []),
  (77, 12, 1, 98, 0, 0, 80, []),
  (80, 2, 0, 0, 0, 0, 81, []),
  (81, 20, 11, 4, 0, 0, 84, []),
  (84, 2, 0, 0, 0, 0, 85, []),
  (85, 20, 11, 0, 0, 0, 88, []),
  (88, 13, 3, 98, 0, 0, 91, []),
  (91, 2, 0, 0, 0, 0, 92, []),
  (92, 0, 0, 0, 0, 7, 94, []),
  (94, 32, 194, 2, 13, 0, 97, []),
  (97, 6, 0, 0, 0, 0, 98, []),
  (98, 2, 0, 0, 0, 0, 99, []),
  (99, 20, 11, 6, 0, 0, 102, []),
  (102, 12, 1, 122, 0, 0, 105, []),
  (105, 2, 0, 0, 0, 0, 106, []),
  (106, 0, 0, 0, 0, 45, 108, []),
  (108, 0, 0, 0, 0, 0, 109, []),
  (109, 0, 0, 0, 0, 0, 110, []),
  (110, 2, 0, 0, 0, 0, 111, []),
  (111, 20, 11, 0, 0, 0, 114, []),
  (114, 32, 189, 5, 13, 0, 117, []),
  (117, 6, 0, 0, 0, 0, 118, []),
  (118, 2, 0, 0, 0, 0, 119, []),
  (119, 32, 223, 1, 13, 0, 122, []),
  (122, 2, 0, 0, 0, 0, 123, []),
  (123, 20, 11, 6, 0, 0, 126, []),
  (126, 12, 5, 136, 0, 0, 129, []),
  (129, 2, 0, 0, 0, 0, 130, []),
  (130, 20, 11, 6, 0, 0, 133, []),
  (133, 18, 0, 140, 0, 0, 136, []),
  (136, 2, 0, 0, 0, 0, 137, []),
  (137, 20, 11, 8, 0, 0, 140, []),
  (140, 3, 1, 0, 0, 0, 141, []),
  (141, 2, 0, 0, 0, 0, 142, []),
  (142, 2, 0, 0, 0, 0, 143, []),
  (143, 20, 11, 6, 0, 0, 146, []),
  (146, 12, 5, 156, 0, 0, 149, []),
  (149, 2, 0, 0, 0, 0, 150, []),
  (150, 20, 11, 7, 0, 0, 153, []),
  (153, 18, 0, 174, 0, 0, 156, []),
  (156, 2, 0, 0, 0, 0, 157, []),
  (157, 20, 11, 8, 0, 0, 160, []),
  (160, 12, 5, 170, 0, 0, 163, []),
  (163, 2, 0, 0, 0, 0, 164, []),
  (164, 20, 11, 9, 0, 0, 167, []),
  (167, 18, 0, 174, 0, 0, 170, []),
  (170, 2, 0, 0, 0, 0, 171, []),
  (171, 20, 11, 0, 0, 0, 174, []),
  (174, 21, 11, 3, 0, 0, 177, []),
  (177, 2, 0, 0, 0, 0, 178, []),
  (178, 20, 11, 57, 0, 0, 181, []),
  (181, 0, 0, 0, 0, 0, 182, []),
  (182, 2, 0, 0, 0, 0, 183, []),
  (183, 20, 11, 0, 0, 0, 186, []),
  (186, 26, 0, 0, 0, 0, 187, []),
  (187, 2, 0, 0, 0, 0, 188, []),
  (188, 0, 0, 0, 0, 0, 189, []),
  (189, 21, 11, 0, 0, 0, 192, []),
  (192, 2, 0, 0, 0, 0, 193, []),
  (193, 1, 1, 0, 0, 0, 194, []),
  (194, 12, 5, 201, 0, 0, 197, []),
  (197, 0, 0, 0, 0, 0, 198, []),
  (198, 18, 0, 205, 0, 0, 201, []),
  (201, 2, 0, 0, 0, 0, 202, []),
  (202, 20, 11, 53, 0, 0, 205, []),
  (205, 21, 11, 53, 0, 0, 208, []),
  (208, 1, 1, 0, 0, 0, 209, []),
  (209, 12, 1, 216, 0, 0, 212, []),
  (212, 2, 0, 0, 0, 0, 213, []),
  (213, 32, 266, 1, 13, 0, 216, []),
  (216, 1, 1, 0, 0, 0, 217, []),
  (217, 12, 5, 225, 0, 0, 220, []),
  (220, 1, 1, 0, 0, 0, 221, []),
  (221, 11, 0, 0, 0, 0, 222, []),
  (222, 18, 0, 229, 0, 0, 225, []),
  (225, 2, 0, 0, 0, 0, 226, []),
  (226, 20, 11, 53, 0, 0, 229, []),
  (229, 33, 0, 0, 0, 0, 230, [])]
/-- 176: ChunkCodeModel.begin()V -/
def am_i176 : List (Nat × am_I) := [(0, 2, 0, 0, 0, 0, 1, []),
  (1, 0, 0, 0, 0, 0, 2, []),
  (2, 21, 11, 4, 0, 0, 5, []),
  (5, 2, 0, 0, 0, 0, 6, []),
  (6, 0, 0, 0, 0, 0, 7, []),
  (7, 21, 11, 5, 0, 0, 10, []),
  (10, 2, 0, 0, 0, 0, 11, []),
  (11, 0, 0, 0, 0, 0, 12, []),
  (12, 21, 11, 6, 0, 0, 15, []),
  (15, 2, 0, 0, 0, 0, 16, []),
  (16, 0, 0, 0, 0, 0, 17, []),
  (17, 21, 11, 8, 0, 0, 20, []),
  (20, 2, 0, 0, 0, 0, 21, []),
  (21, 0, 0, 0, 0, 0, 22, []),
  (22, 21, 11, 10, 0, 0, 25, []),
  (25, 2, 0, 0, 0, 0, 26, []),
  (26, 0, 0, 0, 0, 0, 27, []),
  (27, 21, 11, 15, 0, 0, 30, []),
  (30, 2, 0, 0, 0, 0, 31, []),
  (31, 0, 0, 0, 0, 0, 32, []),
  (32, 21, 11, 20, 0, 0, 35, []),
  (35, 2, 0, 0, 0, 0, 36, []),
  (36, 0, 0, 0, 0, 0, 37, []),
  (37, 21, 11, 24, 0, 0, 40, []),
  (40, 2, 0, 0, 0, 0, 41, []),
  (41, 0, 0, 0, 0, 0, 42, []),
  (42, 21, 11, 31, 0, 0, 45, []),
  (45, 2, 0, 0, 0, 0, 46, []),
  (46, 0, 0, 0, 0, 0, 47, []),
  (47, 21, 11, 32, 0, 0, 50, []),
  (50, 2, 0, 0, 0, 0, 51, []),
  (51, 20, 11, 33, 0, 0, 54, []),
  (54, 0, 0, 0, 0, 0, 55, []),
  (55, 0, 0, 0, 0, 0, 56, []),
  (56, 26, 0, 0, 0, 0, 57, []),
  (57, 2, 0, 0, 0, 0, 58, []),
  (58, 20, 11, 34, 0, 0, 61, []),
  (61, 0, 0, 0, 0, 0, 62, []),
  (62, 0, 0, 0, 0, 0, 63, []),
  (63, 26, 0, 0, 0, 0, 64, []),
  (64, 2, 0, 0, 0, 0, 65, []),
  (65, 20, 11, 35, 0, 0, 68, []),
  (68, 0, 0, 0, 0, 0, 69, []),
  (69, 0, 0, 0, 0, 0, 70, []),
  (70, 26, 0, 0, 0, 0, 71, []),
  (71, 2, 0, 0, 0, 0, 72, []),
  (72, 20, 11, 36, 0, 0, 75, []),
  (75, 0, 0, 0, 0, 0, 76, []),
  (76, 0, 0, 0, 0, 0, 77, []),
  (77, 26, 0, 0, 0, 0, 78, []),
  (78, 2, 0, 0, 0, 0, 79, []),
  (79, 0, 0, 0, 0, 0, 80, []),
  (80, 21, 11, 37, 0, 0, 83, []),
  (83, 2, 0, 0, 0, 0, 84, []),
  (84, 0, 0, 0, 0, 0, 85, []),
  (85, 21, 11, 44, 0, 0, 88, []),
  (88, 2, 0, 0, 0, 0, 89, []),
  (89, 0, 0, 0, 0, 0, 90, []),
  (90, 21, 11, 48, 0, 0, 93, []),
  (93, 2, 0, 0, 0, 0, 94, []),
  (94, 0, 0, 0, 0, 1, 95, []),
  (95, 21, 11, 53, 0, 0, 98, []),
  (98, 2, 0, 0, 0, 0, 99, []),
  (99, 20, 11, 54, 0, 0, 102, []),
  (102, 0, 0, 0, 0, 0, 103, []),
  (103, 0, 0, 0, 0, (-1), 104, []),
  (104, 26, 0, 0, 0, 0, 105, []),
  (105, 2, 0, 0, 0, 0, 106, []),
  (106, 20, 11, 59, 0, 0, 109, []),
  (109, 0, 0, 0, 0, 0, 110, []),
  (110, 0, 0, 0, 0, (-1), 111, []),
  (111, 26, 0, 0, 0, 0, 112, []),
  (112, 2, 0, 0, 0, 0, 113, []),
  (113, 20, 11, 55, 0, 0, 116, []),
  (116, 0, 0, 0, 0, 0, 117, []),
  (117, 0, 0, 0, 0, 0, 118, []),
  (118, 26, 0, 0, 0, 0, 119, []),
  (119, 2, 0, 0, 0, 0, 120, []),
  (120, 20, 11, 56, 0, 0, 123, []),
  (123, 0, 0, 0, 0, 0, 124, []),
  (124, 0, 0, 0, 0, 1, 125, []),
  (125, 26, 0, 0, 0, 0, 126, []),
  (126, 2, 0, 0, 0, 0, 127, []),
  (127, 20, 11, 58, 0, 0, 130, []),
  (130, 0, 0, 0, 0, 0, 131, []),
  (131, 0, 0, 0, 0, 0, 132, []),
  (132, 26, 0, 0, 0, 0, 133, []),
  (133, 2, 0, 0, 0, 0, 134, []),
  (134, 20, 11, 60, 0, 0, 137, []),
  (137, 0, 0, 0, 0, 0, 138, []),
  (138, 0, 0, 0, 0, 0, 139, []),
  (139, 26, 0, 0, 0, 0, 140, []),
  (140, 2, 0, 0, 0, 0, 141, []),
  (141, 20, 11, 67, 0, 0, 144, []),
  (144, 0, 0, 0, 0, 0, 145, []),
  (145, 0, 0, 0, 0, 0, 146, []),
  (146, 26, 0, 0, 0, 0, 147, []),
  (147, 2, 0, 0, 0, 0, 148, []),
  (148, 0, 0, 0, 0, 0, 149, []),
  (149, 21, 11, 62, 0, 0, 152, []),
  (152, 2, 0, 0, 0, 0, 153, []),
  (153, 0, 0, 0, 0, 0, 154, []),
  (154, 21, 11, 68, 0, 0, 157, []),
  (157, 35, 0, 0, 0, 0, 158, [])]
/-- 177: ChunkCodeModel.beginBlock(Z)V -/
def am_i177 : List (Nat × am_I) := [(0, 2, 0, 0, 0, 0, 1, []),
  (1, 20, 11, 38, 0, 0, 4, []),
  (4, 2, 0, 0, 0, 0, 5, []),
  (5, 20, 11, 37, 0, 0, 8, []),
  (8, 2, 0, 0, 0, 0, 9, []),
  (9, 20, 11, 24, 0, 0, 12, []),
  (12, 26, 0, 0, 0, 0, 13, []),
  (13, 2, 0, 0, 0, 0, 14, []),
  (14, 20, 11, 39, 0, 0, 17, []),
  (17, 2, 0, 0, 0, 0, 18, []),
  (18, 20, 11, 37, 0, 0, 21, []),
  (21, 2, 0, 0, 0, 0, 22, []),
  (22, 20, 11, 44, 0, 0, 25, []),
  (25, 26, 0, 0, 0, 0, 26, []),
  (26, 2, 0, 0, 0, 0, 27, []),
  (27, 20, 11, 40, 0, 0, 30, []),
  (30, 2, 0, 0, 0, 0, 31, []),
  (31, 20, 11, 37, 0, 0, 34, []),
  (34, 2, 0, 0, 0, 0, 35, []),
  (35, 20, 11, 48, 0, 0, 38, []),
  (38, 26, 0, 0, 0, 0, 39, []),
  (39, 2, 0, 0, 0, 0, 40, []),
  (40, 20, 11, 41, 0, 0, 43, []),
  (43, 2, 0, 0, 0, 0, 44, []),
  (44, 20, 11, 37, 0, 0, 47, []),
  (47, 2, 0, 0, 0, 0, 48, []),
  (48, 20, 11, 32, 0, 0, 51, []),
  (51, 26, 0, 0, 0, 0, 52, []),
  (52, 2, 0, 0, 0, 0, 53, []),
  (53, 20, 11, 42, 0, 0, 56, []),
  (56, 2, 0, 0, 0, 0, 57, []),
  (57, 20, 11, 37, 0, 0, 60, []),
  (60, 1, 1, 0, 0, 0, 61, []),
  (61, 26, 1, 0, 0, 0, 62, []),
  (62, 2, 0, 0, 0, 0, 63, []),
  (63, 20, 11, 43, 0, 0, 66, []),
  (66, 2, 0, 0, 0, 0, 67, []),
  (67, 20, 11, 37, 0, 0, 70, []),
  (70, 0, 0, 0, 0, 0, 71, []),
  (71, 26, 0, 0, 0, 0, 72, []),
  (72, 2, 0, 0, 0, 0, 73, []),
  (73, 7, 0, 0, 0, 0, 74, []),
  (74, 20, 11, 37, 0, 0, 77, []),
  (77, 0, 0, 0, 0, 1, 78, []),
  (78, 10, 0, 0, 0, 0, 79, []),
  (79, 21, 11, 37, 0, 0, 82, []),
  (82, 35, 0, 0, 0, 0, 83, [])]
/-- 178: ChunkCodeModel.expectBlock()V -/
def am_i178 : List (Nat × am_I) := [(0, 2, 0, 0, 0, 0, 1, []),
  (1, 0, 0, 0, 0, 1, 2, []),
  (2, 0, 0, 0, 0, 0, 3, []),
  (3, 0, 0, 0, 0, 0, 4, []),
  (4, 0, 0, 0, 0, 0, 5, []),
  (5, 32, 179, 5, 13, 0, 8, []),
  (8, 35, 0, 0, 0, 0, 9, [])]
/-- 179: ChunkCodeModel.pile(IIII)V -/
def am_i179 : List (Nat × am_I) := [(0, 2, 0, 0, 0, 0, 1, []),
  (1, 20, 11, 11, 0, 0, 4, []),
  (4, 2, 0, 0, 0, 0, 5, []),
  (5, 20, 11, 10, 0, 0, 8, []),
  (8, 1, 1, 0, 0, 0, 9, []),
  (9, 26, 0, 0, 0, 0, 10, []),
  (10, 2, 0, 0, 0, 0, 11, []),
  (11, 20, 11, 12, 0, 0, 14, []),
  (14, 2, 0, 0, 0, 0, 15, []),
  (15, 20, 11, 10, 0, 0, 18, []),
  (18, 1, 2, 0, 0, 0, 19, []),
  (19, 26, 0, 0, 0, 0, 20, []),
  (20, 2, 0, 0, 0, 0, 21, []),
  (21, 20, 11, 13, 0, 0, 24, []),
  (24, 2, 0, 0, 0, 0, 25, []),
  (25, 20, 11, 10, 0, 0, 28, []),
  (28, 1, 3, 0, 0, 0, 29, []),
  (29, 26, 0, 0, 0, 0, 30, []),
  (30, 2, 0, 0, 0, 0, 31, []),
  (31, 20, 11, 14, 0, 0, 34, []),
  (34, 2, 0, 0, 0, 0, 35, []),
  (35, 20, 11, 10, 0, 0, 38, []),
  (38, 1, 4, 0, 0, 0, 40, []),
  (40, 26, 0, 0, 0, 0, 41, []),
  (41, 2, 0, 0, 0, 0, 42, []),
  (42, 7, 0, 0, 0, 0, 43, []),
  (43, 20, 11, 10, 0, 0, 46, []),
  (46, 0, 0, 0, 0, 1, 47, []),
  (47, 10, 0, 0, 0, 0, 48, []),
  (48, 21, 11, 10, 0, 0, 51, []),
  (51, 35, 0, 0, 0, 0, 52, [])]
/-- 180: ChunkCodeModel.run(IIII)V -/
def am_i180 : List (Nat × am_I) := [(0, 1, 1, 0, 0, 0, 1, []),
  (1, 0, 0, 0, 0, 22, 3, []),
  (3, 13, 5, 14, 0, 0, 6, []),
  (6, 2, 0, 0, 0, 0, 7, []),
  (7, 1, 1, 0, 0, 0, 8, []),
  (8, 1, 2, 0, 0, 0, 9, []),
  (9, 1, 3, 0, 0, 0, 10, []),
  (10, 32, 181, 4, 13, 0, 13, []),
  (13, 35, 0, 0, 0, 0, 14, []),
  (14, 1, 1, 0, 0, 0, 15, []),
  (15, 19, 0, 365, 0, 0, 112, [(1, 112), (2, 119), (3, 133), (4, 141), (5, 150), (6, 179), (7, 187), (8, 195), (9, 204), (10, 223), (11, 231), (12, 239), (13, 251), (14, 262), (15, 273), (16, 284), (17, 295), (18, 318), (19, 341), (20, 349), (21, 356)]),
  (112, 2, 0, 0, 0, 0, 113, []),
  (113, 32, 225, 1, 13, 0, 116, []),
  (116, 18, 0, 371, 0, 0, 119, []),
  (119, 2, 0, 0, 0, 0, 120, []),
  (120, 32, 242, 1, 13, 0, 123, []),
  (123, 2, 0, 0, 0, 0, 124, []),
  (124, 0, 0, 0, 0, 15, 126, []),
  (126, 32, 199, 2, 13, 0, 129, []),
  (129, 6, 0, 0, 0, 0, 130, []),
  (130, 18, 0, 371, 0, 0, 133, []),
  (133, 2, 0, 0, 0, 0, 134, []),
  (134, 1, 2, 0, 0, 0, 135, []),
  (135, 32, 244, 2, 13, 0, 138, []),
  (138, 18, 0, 371, 0, 0, 141, []),
  (141, 2, 0, 0, 0, 0, 142, []),
  (142, 1, 2, 0, 0, 0, 143, []),
  (143, 1, 3, 0, 0, 0, 144, []),
  (144, 32, 245, 3, 13, 0, 147, []),
  (147, 18, 0, 371, 0, 0, 150, []),
  (150, 2, 0, 0, 0, 0, 151, []),
  (151, 0, 0, 0, 0, 30, 153, []),
  (153, 32, 199, 2, 13, 0, 156, []),
  (156, 12, 1, 162, 0, 0, 159, []),
  (159, 18, 0, 371, 0, 0, 162, []),
  (162, 2, 0, 0, 0, 0, 163, []),
  (163, 0, 0, 0, 0, 6, 165, []),
  (165, 1, 2, 0, 0, 0, 166, []),
  (166, 0, 0, 0, 0, 0, 167, []),
  (167, 0, 0, 0, 0, 0, 168, []),
  (168, 32, 179, 5, 13, 0, 171, []),
  (171, 2, 0, 0, 0, 0, 172, []),
  (172, 0, 0, 0, 0, 0, 173, []),
  (173, 32, 186, 2, 13, 0, 176, []),
  (176, 18, 0, 371, 0, 0, 179, []),
  (179, 2, 0, 0, 0, 0, 180, []),
  (180, 1, 2, 0, 0, 0, 181, []),
  (181, 32, 247, 2, 13, 0, 184, []),
  (184, 18, 0, 371, 0, 0, 187, []),
  (187, 2, 0, 0, 0, 0, 188, []),
  (188, 1, 2, 0, 0, 0, 189, []),
  (189, 32, 248, 2, 13, 0, 192, []),
  (192, 18, 0, 371, 0, 0, 195, []),
  (195, 2, 0, 0, 0, 0, 196, []),
  (196, 1, 2, 0, 0, 0, 197, []),
  (197, 1, 3, 0, 0, 0, 198, []),
  (198, 32, 249, 3, 13, 0, 201, []),
  (201, 18, 0, 371, 0, 0, 204, []),
  (204, 2, 0, 0, 0, 0, 205, []),
  (205, 32, 242, 1, 13, 0, 208, []),
  (208, 2, 0, 0, 0, 0, 209, []),
  (209, 1, 2, 0, 0, 0, 210, []),
  (210, 32, 250, 2, 13, 0, 213, []),
  (213, 2, 0, 0, 0, 0, 214, []),
  (214, 0, 0, 0, 0, 15, 216, []),
  (216, 32, 199, 2, 13, 0, 219, []),
  (219, 6, 0, 0, 0, 0, 220, []),
  (220, 18, 0, 371, 0, 0, 223, []),
  (223, 2, 0, 0, 0, 0, 224, []),
  (224, 1, 2, 0, 0, 0, 225, []),
  (225, 32, 251, 2, 13, 0, 228, []),
  (228, 18, 0, 371, 0, 0, 231, []),
  (231, 2, 0, 0, 0, 0, 232, []),
  (232, 1, 2, 0, 0, 0, 233, []),
  (233, 32, 252, 2, 13, 0, 236, []),
  (236, 18, 0, 371, 0, 0, 239, []),
  (239, 2, 0, 0, 0, 0, 240, []),
  (240, 32, 209, 1, 13, 0, 243, []),
  (243, 2, 0, 0, 0, 0, 244, []),
  (244, 1, 2, 0, 0, 0, 245, []),
  (245, 32, 253, 2, 13, 0, 248, []),
  (248, 18, 0, 371, 0, 0, 251, []),
  (251, 2, 0, 0, 0, 0, 252, []),
  (252, 1, 2, 0, 0, 0, 253, []),
  (253, 1, 3, 0, 0, 0, 254, []),
  (254, 1, 4, 0, 0, 0, 256, []),
  (256, 32, 255, 4, 13, 0, 259, []),
  (259, 18, 0, 371, 0, 0, 262, []),
  (262, 2, 0, 0, 0, 0, 263, []),
  (263, 1, 2, 0, 0, 0, 264, []),
  (264, 1, 3, 0, 0, 0, 265, []),
  (265, 1, 4, 0, 0, 0, 267, []),
  (267, 32, 257, 4, 13, 0, 270, []),
  (270, 18, 0, 371, 0, 0, 273, []),
  (273, 2, 0, 0, 0, 0, 274, []),
  (274, 1, 2, 0, 0, 0, 275, []),
  (275, 1, 3, 0, 0, 0, 276, []),
  (276, 1, 4, 0, 0, 0, 278, []),
  (278, 32, 259, 4, 13, 0, 281, []),
  (281, 18, 0, 371, 0, 0, 284, []),
  (284, 2, 0, 0, 0, 0, 285, []),
  (285, 1, 2, 0, 0, 0, 286, []),
  (286, 1, 3, 0, 0, 0, 287, []),
  (287, 1, 4, 0, 0, 0, 289, []),
  (289, 32, 260, 4, 13, 0, 292, []),
  (292, 18, 0, 371, 0, 0, 295, []),
  (295, 2, 0, 0, 0, 0, 296, []),
  (296, 7, 0, 0, 0, 0, 297, []),
  (297, 20, 11, 15, 0, 0, 300, []),
  (300, 0, 0, 0, 0, 1, 301, []),
  (301, 10, 1, 0, 0, 0, 302, []),
  (302, 21, 11, 15, 0, 0, 305, []),
  (305, 2, 0, 0, 0, 0, 306, []),
  (306, 0, 0, 0, 0, 29, 308, []),
  (308, 1, 2, 0, 0, 0, 309, []),
  (309, 0, 0, 0, 0, 0, 310, []),
  (310, 1, 3, 0, 0, 0, 311, []),
  (311, 32, 189, 5, 13, 0, 314, []),
  (314, 6, 0, 0, 0, 0, 315, []),
  (315, 18, 0, 371, 0, 0, 318, []),
  (318, 2, 0, 0, 0, 0, 319, []),
  (319, 2, 0, 0, 0, 0, 320, []),
  (320, 20, 11, 20, 0, 0, 323, []),
  (323, 1, 3, 0, 0, 0, 324, []),
  (324, 10, 1, 0, 0, 0, 325, []),
  (325, 2, 0, 0, 0, 0, 326, []),
  (326, 20, 11, 19, 0, 0, 329, []),
  (329, 32, 258, 3, 13, 0, 332, []),
  (332, 2, 0, 0, 0, 0, 333, []),
  (333, 1, 2, 0, 0, 0, 334, []),
  (334, 1, 3, 0, 0, 0, 335, []),
  (335, 32, 241, 3, 13, 0, 338, []),
  (338, 18, 0, 371, 0, 0, 341, []),
  (341, 2, 0, 0, 0, 0, 342, []),
  (342, 1, 2, 0, 0, 0, 343, []),
  (343, 32, 261, 2, 13, 0, 346, []),
  (346, 18, 0, 371, 0, 0, 349, []),
  (349, 2, 0, 0, 0, 0, 350, []),
  (350, 32, 263, 1, 13, 0, 353, []),
  (353, 18, 0, 371, 0, 0, 356, []),
  (356, 2, 0, 0, 0, 0, 357, []),
  (357, 1, 2, 0, 0, 0, 358, []),
  (358, 1, 3, 0, 0, 0, 359, []),
  (359, 32, 264, 3, 13, 0, 362, []),
  (362, 18, 0, 371, 0, 0, 365, []),
  (365, 2, 0, 0, 0, 0, 366, []),
  (366, 1, 2, 0, 0, 0, 367, []),
  (367, 1, 3, 0, 0, 0, 368, []),
  (368, 32, 265, 3, 13, 0, 371, []),
  (371, 35, 0, 0, 0, 0, 372, [])]
/-- 181: ChunkCodeModel.runValue(III)V -/
def am_i181 : List (Nat × am_I) := [(0, 1, 1, 0, 0, 0, 1, []),
  (1, 19, 0, 377, 0, 0, 88, [(23, 88), (24, 96), (25, 104), (26, 121), (27, 138), (28, 176), (29, 183), (30, 197), (31, 377), (32, 228), (33, 237), (34, 253), (35, 261), (36, 269), (37, 311), (38, 333), (39, 360), (40, 369)]),
  (88, 2, 0, 0, 0, 0, 89, []),
  (89, 1, 2, 0, 0, 0, 90, []),
  (90, 32, 182, 2, 13, 0, 93, []),
  (93, 18, 0, 397, 0, 0, 96, []),
  (96, 2, 0, 0, 0, 0, 97, []),
  (97, 1, 2, 0, 0, 0, 98, []),
  (98, 32, 202, 2, 13, 0, 101, []),
  (101, 18, 0, 397, 0, 0, 104, []),
  (104, 2, 0, 0, 0, 0, 105, []),
  (105, 32, 209, 1, 13, 0, 108, []),
  (108, 2, 0, 0, 0, 0, 109, []),
  (109, 0, 0, 0, 0, 19, 111, []),
  (111, 1, 2, 0, 0, 0, 112, []),
  (112, 0, 0, 0, 0, 0, 113, []),
  (113, 1, 3, 0, 0, 0, 114, []),
  (114, 32, 189, 5, 13, 0, 117, []),
  (117, 6, 0, 0, 0, 0, 118, []),
  (118, 18, 0, 397, 0, 0, 121, []),
  (121, 2, 0, 0, 0, 0, 122, []),
  (122, 32, 204, 1, 13, 0, 125, []),
  (125, 2, 0, 0, 0, 0, 126, []),
  (126, 20, 11, 71, 0, 0, 129, []),
  (129, 1, 2, 0, 0, 0, 130, []),
  (130, 2, 0, 0, 0, 0, 131, []),
  (131, 32, 210, 1, 13, 0, 134, []),
  (134, 26, 0, 0, 0, 0, 135, []),
  (135, 18, 0, 397, 0, 0, 138, []),
  (138, 2, 0, 0, 0, 0, 139, []),
  (139, 32, 204, 1, 13, 0, 142, []),
  (142, 2, 0, 0, 0, 0, 143, []),
  (143, 1, 2, 0, 0, 0, 144, []),
  (144, 0, 0, 0, 0, 24, 146, []),
  (146, 13, 1, 154, 0, 0, 149, []),
  (149, 0, 0, 0, 0, 17, 151, []),
  (151, 18, 0, 156, 0, 0, 154, []),
  (154, 0, 0, 0, 0, 18, 156, []),
  (156, 1, 2, 0, 0, 0, 157, []),
  (157, 0, 0, 0, 0, 24, 159, []),
  (159, 13, 1, 166, 0, 0, 162, []),
  (162, 0, 0, 0, 0, 0, 163, []),
  (163, 18, 0, 167, 0, 0, 166, []),
  (166, 1, 2, 0, 0, 0, 167, []),
  (167, 0, 0, 0, 0, 0, 168, []),
  (168, 1, 3, 0, 0, 0, 169, []),
  (169, 32, 189, 5, 13, 0, 172, []),
  (172, 6, 0, 0, 0, 0, 173, []),
  (173, 18, 0, 397, 0, 0, 176, []),
  (176, 2, 0, 0, 0, 0, 177, []),
  (177, 32, 211, 1, 13, 0, 180, []),
  (180, 18, 0, 397, 0, 0, 183, []),
  (183, 2, 0, 0, 0, 0, 184, []),
  (184, 32, 204, 1, 13, 0, 187, []),
  (187, 2, 0, 0, 0, 0, 188, []),
  (188, 0, 0, 0, 0, 61, 190, []),
  (190, 32, 199, 2, 13, 0, 193, []),
  (193, 6, 0, 0, 0, 0, 194, []),
  (194, 18, 0, 397, 0, 0, 197, []),
  (197, 2, 0, 0, 0, 0, 198, []),
  (198, 32, 209, 1, 13, 0, 201, []),
  (201, 2, 0, 0, 0, 0, 202, []),
  (202, 7, 0, 0, 0, 0, 203, []),
  (203, 20, 11, 15, 0, 0, 206, []),
  (206, 0, 0, 0, 0, 1, 207, []),
  (207, 10, 1, 0, 0, 0, 208, []),
  (208, 21, 11, 15, 0, 0, 211, []),
  (211, 2, 0, 0, 0, 0, 212, []),
  (212, 0, 0, 0, 0, 4, 213, []),
  (213, 0, 0, 0, 0, 0, 214, []),
  (214, 1, 2, 0, 0, 0, 215, []),
  (215, 32, 190, 4, 13, 0, 218, []),
  (218, 2, 0, 0, 0, 0, 219, []),
  (219, 0, 0, 0, 0, 65, 221, []),
  (221, 32, 199, 2, 13, 0, 224, []),
  (224, 6, 0, 0, 0, 0, 225, []),
  (225, 18, 0, 397, 0, 0, 228, []),
  (228, 2, 0, 0, 0, 0, 229, []),
  (229, 1, 2, 0, 0, 0, 230, []),
  (230, 1, 3, 0, 0, 0, 231, []),
  (231, 32, 215, 3, 13, 0, 234, []),
  (234, 18, 0, 397, 0, 0, 237, []),
  (237, 2, 0, 0, 0, 0, 238, []),
  (238, 32, 209, 1, 13, 0, 241, []),
  (241, 2, 0, 0, 0, 0, 242, []),
  (242, 0, 0, 0, 0, 1, 243, []),
  (243, 1, 2, 0, 0, 0, 244, []),
  (244, 10, 0, 0, 0, 0, 245, []),
  (245, 0, 0, 0, 0, 0, 246, []),
  (246, 1, 3, 0, 0, 0, 247, []),
  (247, 32, 213, 4, 13, 0, 250, []),
  (250, 18, 0, 397, 0, 0, 253, []),
  (253, 2, 0, 0, 0, 0, 254, []),
  (254, 1, 2, 0, 0, 0, 255, []),
  (255, 32, 218, 2, 13, 0, 258, []),
  (258, 18, 0, 397, 0, 0, 261, []),
  (261, 2, 0, 0, 0, 0, 262, []),
  (262, 1, 2, 0, 0, 0, 263, []),
  (263, 32, 219, 2, 13, 0, 266, []),
  (266, 18, 0, 397, 0, 0, 269, []),
  (269, 2, 0, 0, 0, 0, 270, []),
  (270, 32, 209, 1, 13, 0, 273, []),
  (273, 2, 0, 0, 0, 0, 274, []),
  (274, 0, 0, 0, 0, 65, 276, []),
  (276, 32, 199, 2, 13, 0, 279, []),
  (279, 12, 0, 397, 0, 0, 282, []),
  (282, 2, 0, 0, 0, 0, 283, []),
  (283, 0, 0, 0, 0, 59, 285, []),
  (285, 32, 200, 2, 13, 0, 288, []),
  (288, 12, 1, 294, 0, 0, 291, []),
  (291, 18, 0, 397, 0, 0, 294, []),
  (294, 2, 0, 0, 0, 0, 295, []),
  (295, 0, 0, 0, 0, 37, 297, []),
  (297, 1, 2, 0, 0, 0, 298, []),
  (298, 1, 3, 0, 0, 0, 299, []),
  (299, 0, 0, 0, 0, 0, 300, []),
  (300, 32, 179, 5, 13, 0, 303, []),
  (303, 2, 0, 0, 0, 0, 304, []),
  (304, 0, 0, 0, 0, 0, 305, []),
  (305, 32, 186, 2, 13, 0, 308, []),
  (308, 18, 0, 397, 0, 0, 311, []),
  (311, 2, 0, 0, 0, 0, 312, []),
  (312, 32, 209, 1, 13, 0, 315, []),
  (315, 2, 0, 0, 0, 0, 316, []),
  (316, 0, 0, 0, 0, 21, 318, []),
  (318, 0, 0, 0, 0, 0, 319, []),
  (319, 0, 0, 0, 0, 0, 320, []),
  (320, 1, 3, 0, 0, 0, 321, []),
  (321, 32, 189, 5, 13, 0, 324, []),
  (324, 6, 0, 0, 0, 0, 325, []),
  (325, 2, 0, 0, 0, 0, 326, []),
  (326, 1, 2, 0, 0, 0, 327, []),
  (327, 32, 220, 2, 13, 0, 330, []),
  (330, 18, 0, 397, 0, 0, 333, []),
  (333, 2, 0, 0, 0, 0, 334, []),
  (334, 32, 209, 1, 13, 0, 337, []),
  (337, 2, 0, 0, 0, 0, 338, []),
  (338, 0, 0, 0, 0, 22, 340, []),
  (340, 2, 0, 0, 0, 0, 341, []),
  (341, 20, 11, 2, 0, 0, 344, []),
  (344, 1, 3, 0, 0, 0, 345, []),
  (345, 25, 0, 0, 0, 0, 346, []),
  (346, 0, 0, 0, 0, 0, 347, []),
  (347, 1, 3, 0, 0, 0, 348, []),
  (348, 32, 189, 5, 13, 0, 351, []),
  (351, 6, 0, 0, 0, 0, 352, []),
  (352, 2, 0, 0, 0, 0, 353, []),
  (353, 1, 2, 0, 0, 0, 354, []),
  (354, 32, 220, 2, 13, 0, 357, []),
  (357, 18, 0, 397, 0, 0, 360, []),
  (360, 2, 0, 0, 0, 0, 361, []),
  (361, 1, 2, 0, 0, 0, 362, []),
  (362, 1, 3, 0, 0, 0, 363, []),
  (363, 32, 221, 3, 13, 0, 366, []),
  (366, 18, 0, 397, 0, 0, 369, []),
  (369, 2, 0, 0, 0, 0, 370, []),
  (370, 1, 2, 0, 0, 0, 371, []),
  (371, 32, 222, 2, 13, 0, 374, []),
  (374, 18, 0, 397, 0, 0, 377, []),
  (377, 2, 0, 0, 0, 0, 378, []),
  (378, 0, 0, 0, 0, 7, 380, []),
  (380, 2, 0, 0, 0, 0, 381, []),
  (381, 20, 11, 76, 0, 0, 384, []),
  (384, 0, 0, 0, 0, 0, 385, []),
  (385, 1, 2, 0, 0, 0, 386, []),
  (386, 32, 189, 5, 13, 0, 389, []),
  (389, 6, 0, 0, 0, 0, 390, []),
  (390, 2, 0, 0, 0, 0, 391, []),
  (391, 0, 0, 0, 0, 0, 392, []),
  (392, 0, 0, 0, 0, 0, 393, []),
  (393, 0, 0, 0, 0, 0, 394, []),
  (394, 32, 190, 4, 13, 0, 397, []),
  (397, 35, 0, 0, 0, 0, 398, [])]
/-- 182: ChunkCodeModel.expression(I)V -/
def am_i182 : List (Nat × am_I) := [(0, 2, 0, 0, 0, 0, 1, []),
  (1, 32, 183, 1, 13, 0, 4, []),
  (4, 3, 2, 0, 0, 0, 5, []),
  (5, 2, 0, 0, 0, 0, 6, []),
  (6, 0, 0, 0, 0, 24, 8, []),
  (8, 1, 1, 0, 0, 0, 9, []),
  (9, 0, 0, 0, 0, 0, 10, []),
  (10, 0, 0, 0, 0, 0, 11, []),
  (11, 32, 179, 5, 13, 0, 14, []),
  (14, 1, 2, 0, 0, 0, 15, []),
  (15, 32, 185, 1, 0, 0, 18, []),
  (18, 12, 0, 52, 0, 0, 21, []),
  (21, 2, 0, 0, 0, 0, 22, []),
  (22, 0, 0, 0, 0, 27, 24, []),
  (24, 1, 2, 0, 0, 0, 25, []),
  (25, 2, 0, 0, 0, 0, 26, []),
  (26, 20, 11, 4, 0, 0, 29, []),
  (29, 0, 0, 0, 0, 0, 30, []),
  (30, 32, 179, 5, 13, 0, 33, []),
  (33, 2, 0, 0, 0, 0, 34, []),
  (34, 7, 0, 0, 0, 0, 35, []),
  (35, 20, 11, 4, 0, 0, 38, []),
  (38, 0, 0, 0, 0, 1, 39, []),
  (39, 10, 0, 0, 0, 0, 40, []),
  (40, 21, 11, 4, 0, 0, 43, []),
  (43, 2, 0, 0, 0, 0, 44, []),
  (44, 0, 0, 0, 0, 12, 46, []),
  (46, 32, 186, 2, 13, 0, 49, []),
  (49, 18, 0, 57, 0, 0, 52, []),
  (52, 2, 0, 0, 0, 0, 53, []),
  (53, 1, 2, 0, 0, 0, 54, []),
  (54, 32, 187, 2, 13, 0, 57, []),
  (57, 35, 0, 0, 0, 0, 58, [])]
/-- 183: ChunkCodeModel.next()I -/
def am_i183 : List (Nat × am_I) := [(0, 2, 0, 0, 0, 0, 1, []),
  (1, 2, 0, 0, 0, 0, 2, []),
  (2, 20, 11, 4, 0, 0, 5, []),
  (5, 32, 184, 2, 13, 0, 8, []),
  (8, 33, 0, 0, 0, 0, 9, [])]
/-- 184: ChunkCodeModel.kindAt(I)I -/
def am_i184 : List (Nat × am_I) := [(0, 1, 1, 0, 0, 0, 1, []),
  (1, 2, 0, 0, 0, 0, 2, []),
  (2, 20, 11, 0, 0, 0, 5, []),
  (5, 13, 3, 17, 0, 0, 8, []),
  (8, 2, 0, 0, 0, 0, 9, []),
  (9, 20, 11, 1, 0, 0, 12, []),
  (12, 1, 1, 0, 0, 0, 13, []),
  (13, 25, 0, 0, 0, 0, 14, []),
  (14, 18, 0, 18, 0, 0, 17, []),
  (17, 0, 0, 0, 0, (-1), 18, []),
  (18, 33, 0, 0, 0, 0, 19, [])]
/-- 185: ChunkCodeModel.isUnary(I)Z -/
def am_i185 : List (Nat × am_I) := [(0, 1, 0, 0, 0, 0, 1, []),
  (1, 0, 0, 0, 0, 24, 3, []),
  (3, 13, 0, 24, 0, 0, 6, []),
  (6, 1, 0, 0, 0, 0, 7, []),
  (7, 0, 0, 0, 0, 46, 9, []),
  (9, 13, 0, 24, 0, 0, 12, []),
  (12, 1, 0, 0, 0, 0, 13, []),
  (13, 0, 0, 0, 0, 41, 15, []),
  (15, 13, 0, 24, 0, 0, 18, []),
  (18, 1, 0, 0, 0, 0, 19, []),
  (19, 0, 0, 0, 0, 48, 21, []),
  (21, 13, 1, 28, 0, 0, 24, []),
  (24, 0, 0, 0, 0, 1, 25, []),
  (25, 18, 0, 29, 0, 0, 28, []),
  (28, 0, 0, 0, 0, 0, 29, []),
  (29, 36, 0, 0, 0, 0, 30, [])]
/-- 186: ChunkCodeModel.expect(I)V -/
def am_i186 : List (Nat × am_I) := [(0, 2, 0, 0, 0, 0, 1, []),
  (1, 0, 0, 0, 0, 23, 3, []),
  (3, 1, 1, 0, 0, 0, 4, []),
  (4, 0, 0, 0, 0, 0, 5, []),
  (5, 0, 0, 0, 0, 0, 6, []),
  (6, 32, 179, 5, 13, 0, 9, []),
  (9, 35, 0, 0, 0, 0, 10, [])]
/-- 187: ChunkCodeModel.simple(I)V -/
def am_i187 : List (Nat × am_I) := [(0, 2, 0, 0, 0, 0, 1, []),
  (1, 20, 11, 4, 0, 0, 4, []),
  (4, 3, 2, 0, 0, 0, 5, []),
  (5, 1, 1, 0, 0, 0, 6, []),
  (6, 19, 0, 233, 0, 0, 80, [(2, 107), (3, 124), (16, 89), (18, 203), (23, 80), (29, 98), (62, 196), (72, 141)]),
  (80, 2, 0, 0, 0, 0, 81, []),
  (81, 0, 0, 0, 0, 1, 82, []),
  (82, 0, 0, 0, 0, 0, 83, []),
  (83, 32, 188, 3, 13, 0, 86, []),
  (86, 18, 0, 246, 0, 0, 89, []),
  (89, 2, 0, 0, 0, 0, 90, []),
  (90, 0, 0, 0, 0, 2, 91, []),
  (91, 0, 0, 0, 0, 0, 92, []),
  (92, 32, 188, 3, 13, 0, 95, []),
  (95, 18, 0, 246, 0, 0, 98, []),
  (98, 2, 0, 0, 0, 0, 99, []),
  (99, 0, 0, 0, 0, 3, 100, []),
  (100, 0, 0, 0, 0, 0, 101, []),
  (101, 32, 188, 3, 13, 0, 104, []),
  (104, 18, 0, 246, 0, 0, 107, []),
  (107, 2, 0, 0, 0, 0, 108, []),
  (108, 0, 0, 0, 0, 4, 109, []),
  (109, 2, 0, 0, 0, 0, 110, []),
  (110, 20, 11, 2, 0, 0, 113, []),
  (113, 2, 0, 0, 0, 0, 114, []),
  (114, 20, 11, 4, 0, 0, 117, []),
  (117, 25, 0, 0, 0, 0, 118, []),
  (118, 32, 188, 3, 13, 0, 121, []),
  (121, 18, 0, 246, 0, 0, 124, []),
  (124, 2, 0, 0, 0, 0, 125, []),
  (125, 0, 0, 0, 0, 5, 126, []),
  (126, 2, 0, 0, 0, 0, 127, []),
  (127, 20, 11, 2, 0, 0, 130, []),
  (130, 2, 0, 0, 0, 0, 131, []),
  (131, 20, 11, 4, 0, 0, 134, []),
  (134, 25, 0, 0, 0, 0, 135, []),
  (135, 32, 188, 3, 13, 0, 138, []),
  (138, 18, 0, 246, 0, 0, 141, []),
  (141, 2, 0, 0, 0, 0, 142, []),
  (142, 20, 11, 56, 0, 0, 145, []),
  (145, 2, 0, 0, 0, 0, 146, []),
  (146, 20, 11, 33, 0, 0, 149, []),
  (149, 2, 0, 0, 0, 0, 150, []),
  (150, 20, 11, 32, 0, 0, 153, []),
  (153, 25, 0, 0, 0, 0, 154, []),
  (154, 25, 0, 0, 0, 0, 155, []),
  (155, 12, 1, 168, 0, 0, 158, []),
  (158, 2, 0, 0, 0, 0, 159, []),
  (159, 0, 0, 0, 0, 15, 161, []),
  (161, 2, 0, 0, 0, 0, 162, []),
  (162, 20, 11, 4, 0, 0, 165, []),
  (165, 32, 191, 3, 13, 0, 168, []),
  (168, 2, 0, 0, 0, 0, 169, []),
  (169, 0, 0, 0, 0, 2, 170, []),
  (170, 2, 0, 0, 0, 0, 171, []),
  (171, 0, 0, 0, 0, 6, 173, []),
  (173, 0, 0, 0, 0, 0, 174, []),
  (174, 0, 0, 0, 0, 1, 175, []),
  (175, 0, 0, 0, 0, 0, 176, []),
  (176, 32, 189, 5, 13, 0, 179, []),
  (179, 0, 0, 0, 0, 0, 180, []),
  (180, 32, 190, 4, 13, 0, 183, []),
  (183, 2, 0, 0, 0, 0, 184, []),
  (184, 7, 0, 0, 0, 0, 185, []),
  (185, 20, 11, 4, 0, 0, 188, []),
  (188, 0, 0, 0, 0, 1, 189, []),
  (189, 10, 0, 0, 0, 0, 190, []),
  (190, 21, 11, 4, 0, 0, 193, []),
  (193, 18, 0, 246, 0, 0, 196, []),
  (196, 2, 0, 0, 0, 0, 197, []),
  (197, 32, 192, 1, 13, 0, 200, []),
  (200, 18, 0, 246, 0, 0, 203, []),
  (203, 2, 0, 0, 0, 0, 204, []),
  (204, 0, 0, 0, 0, 18, 206, []),
  (206, 32, 193, 2, 13, 0, 209, []),
  (209, 12, 1, 215, 0, 0, 212, []),
  (212, 18, 0, 246, 0, 0, 215, []),
  (215, 2, 0, 0, 0, 0, 216, []),
  (216, 0, 0, 0, 0, 41, 218, []),
  (218, 1, 2, 0, 0, 0, 219, []),
  (219, 0, 0, 0, 0, 0, 220, []),
  (220, 0, 0, 0, 0, 0, 221, []),
  (221, 32, 179, 5, 13, 0, 224, []),
  (224, 2, 0, 0, 0, 0, 225, []),
  (225, 0, 0, 0, 0, 0, 226, []),
  (226, 1, 2, 0, 0, 0, 227, []),
  (227, 32, 195, 3, 13, 0, 230, []),
  (230, 18, 0, 246, 0, 0, 233, []),
  (233, 2, 0, 0, 0, 0, 234, []),
  (234, 0, 0, 0, 0, 28, 236, []),
  (236, 0, 0, 0, 0, 0, 237, []),
  (237, 0, 0, 0, 0, 0, 238, []),
  (238, 0, 0, 0, 0, 0, 239, []),
  (239, 32, 179, 5, 13, 0, 242, []),
  (242, 2, 0, 0, 0, 0, 243, []),
  (243, 32, 201, 1, 13, 0, 246, []),
  (246, 35, 0, 0, 0, 0, 247, [])]
/-- 188: ChunkCodeModel.constant(II)V -/
def am_i188 : List (Nat × am_I) := [(0, 2, 0, 0, 0, 0, 1, []),
  (1, 1, 1, 0, 0, 0, 2, []),
  (2, 1, 2, 0, 0, 0, 3, []),
  (3, 0, 0, 0, 0, 0, 4, []),
  (4, 0, 0, 0, 0, 0, 5, []),
  (5, 32, 189, 5, 13, 0, 8, []),
  (8, 6, 0, 0, 0, 0, 9, []),
  (9, 2, 0, 0, 0, 0, 10, []),
  (10, 0, 0, 0, 0, 0, 11, []),
  (11, 0, 0, 0, 0, 0, 12, []),
  (12, 0, 0, 0, 0, 0, 13, []),
  (13, 32, 190, 4, 13, 0, 16, []),
  (16, 2, 0, 0, 0, 0, 17, []),
  (17, 7, 0, 0, 0, 0, 18, []),
  (18, 20, 11, 4, 0, 0, 21, []),
  (21, 0, 0, 0, 0, 1, 22, []),
  (22, 10, 0, 0, 0, 0, 23, []),
  (23, 21, 11, 4, 0, 0, 26, []),
  (26, 35, 0, 0, 0, 0, 27, [])]
/-- 189: ChunkCodeModel.put(IIII)I -/
def am_i189 : List (Nat × am_I) := [(0, 2, 0, 0, 0, 0, 1, []),
  (1, 20, 11, 68, 0, 0, 4, []),
  (4, 0, 0, 0, 0, 65536, 6, []),
  (6, 13, 3, 78, 0, 0, 9, []),
  (9, 2, 0, 0, 0, 0, 10, []),
  (10, 20, 11, 69, 0, 0, 13, []),
  (13, 2, 0, 0, 0, 0, 14, []),
  (14, 20, 11, 68, 0, 0, 17, []),
  (17, 2, 0, 0, 0, 0, 18, []),
  (18, 20, 11, 33, 0, 0, 21, []),
  (21, 2, 0, 0, 0, 0, 22, []),
  (22, 20, 11, 32, 0, 0, 25, []),
  (25, 25, 0, 0, 0, 0, 26, []),
  (26, 26, 0, 0, 0, 0, 27, []),
  (27, 2, 0, 0, 0, 0, 28, []),
  (28, 20, 11, 70, 0, 0, 31, []),
  (31, 2, 0, 0, 0, 0, 32, []),
  (32, 20, 11, 68, 0, 0, 35, []),
  (35, 1, 1, 0, 0, 0, 36, []),
  (36, 26, 0, 0, 0, 0, 37, []),
  (37, 2, 0, 0, 0, 0, 38, []),
  (38, 20, 11, 71, 0, 0, 41, []),
  (41, 2, 0, 0, 0, 0, 42, []),
  (42, 20, 11, 68, 0, 0, 45, []),
  (45, 1, 2, 0, 0, 0, 46, []),
  (46, 26, 0, 0, 0, 0, 47, []),
  (47, 2, 0, 0, 0, 0, 48, []),
  (48, 20, 11, 72, 0, 0, 51, []),
  (51, 2, 0, 0, 0, 0, 52, []),
  (52, 20, 11, 68, 0, 0, 55, []),
  (55, 1, 3, 0, 0, 0, 56, []),
  (56, 26, 0, 0, 0, 0, 57, []),
  (57, 2, 0, 0, 0, 0, 58, []),
  (58, 20, 11, 73, 0, 0, 61, []),
  (61, 2, 0, 0, 0, 0, 62, []),
  (62, 20, 11, 68, 0, 0, 65, []),
  (65, 1, 4, 0, 0, 0, 67, []),
  (67, 26, 0, 0, 0, 0, 68, []),
  (68, 2, 0, 0, 0, 0, 69, []),
  (69, 7, 0, 0, 0, 0, 70, []),
  (70, 20, 11, 68, 0, 0, 73, []),
  (73, 0, 0, 0, 0, 1, 74, []),
  (74, 10, 0, 0, 0, 0, 75, []),
  (75, 21, 11, 68, 0, 0, 78, []),
  (78, 2, 0, 0, 0, 0, 79, []),
  (79, 20, 11, 60, 0, 0, 82, []),
  (82, 2, 0, 0, 0, 0, 83, []),
  (83, 20, 11, 33, 0, 0, 86, []),
  (86, 2, 0, 0, 0, 0, 87, []),
  (87, 20, 11, 32, 0, 0, 90, []),
  (90, 25, 0, 0, 0, 0, 91, []),
  (91, 8, 0, 0, 0, 0, 92, []),
  (92, 25, 0, 0, 0, 0, 93, []),
  (93, 0, 0, 0, 0, 1, 94, []),
  (94, 10, 0, 0, 0, 0, 95, []),
  (95, 26, 0, 0, 0, 0, 96, []),
  (96, 2, 0, 0, 0, 0, 97, []),
  (97, 20, 11, 68, 0, 0, 100, []),
  (100, 0, 0, 0, 0, 1, 101, []),
  (101, 10, 1, 0, 0, 0, 102, []),
  (102, 33, 0, 0, 0, 0, 103, [])]
/-- 190: ChunkCodeModel.value(III)V -/
def am_i190 : List (Nat × am_I) := [(0, 2, 0, 0, 0, 0, 1, []),
  (1, 20, 11, 16, 0, 0, 4, []),
  (4, 2, 0, 0, 0, 0, 5, []),
  (5, 20, 11, 15, 0, 0, 8, []),
  (8, 1, 1, 0, 0, 0, 9, []),
  (9, 26, 0, 0, 0, 0, 10, []),
  (10, 2, 0, 0, 0, 0, 11, []),
  (11, 20, 11, 17, 0, 0, 14, []),
  (14, 2, 0, 0, 0, 0, 15, []),
  (15, 20, 11, 15, 0, 0, 18, []),
  (18, 1, 2, 0, 0, 0, 19, []),
  (19, 26, 0, 0, 0, 0, 20, []),
  (20, 2, 0, 0, 0, 0, 21, []),
  (21, 20, 11, 18, 0, 0, 24, []),
  (24, 2, 0, 0, 0, 0, 25, []),
  (25, 20, 11, 15, 0, 0, 28, []),
  (28, 1, 3, 0, 0, 0, 29, []),
  (29, 26, 0, 0, 0, 0, 30, []),
  (30, 2, 0, 0, 0, 0, 31, []),
  (31, 7, 0, 0, 0, 0, 32, []),
  (32, 20, 11, 15, 0, 0, 35, []),
  (35, 0, 0, 0, 0, 1, 36, []),
  (36, 10, 0, 0, 0, 0, 37, []),
  (37, 21, 11, 15, 0, 0, 40, []),
  (40, 35, 0, 0, 0, 0, 41, [])]
/-- 191: ChunkCodeModel.failName(II)V -/
def am_i191 : List (Nat × am_I) := [(0, 2, 0, 0, 0, 0, 1, []),
  (1, 20, 11, 8, 0, 0, 4, []),
  (4, 12, 0, 15, 0, 0, 7, []),
  (7, 1, 2, 0, 0, 0, 8, []),
  (8, 2, 0, 0, 0, 0, 9, []),
  (9, 20, 11, 9, 0, 0, 12, []),
  (12, 13, 3, 25, 0, 0, 15, []),
  (15, 2, 0, 0, 0, 0, 16, []),
  (16, 1, 1, 0, 0, 0, 17, []),
  (17, 21, 11, 8, 0, 0, 20, []),
  (20, 2, 0, 0, 0, 0, 21, []),
  (21, 1, 2, 0, 0, 0, 22, []),
  (22, 21, 11, 9, 0, 0, 25, []),
  (25, 35, 0, 0, 0, 0, 26, [])]
/-- 192: ChunkCodeModel.table()V -/
def am_i192 : List (Nat × am_I) := [(0, 2, 0, 0, 0, 0, 1, []),
  (1, 20, 11, 4, 0, 0, 4, []),
  (4, 3, 1, 0, 0, 0, 5, []),
  (5, 2, 0, 0, 0, 0, 6, []),
  (6, 0, 0, 0, 0, 62, 8, []),
  (8, 32, 193, 2, 13, 0, 11, []),
  (11, 12, 1, 15, 0, 0, 14, []),
  (14, 35, 0, 0, 0, 0, 15, []),
  (15, 2, 0, 0, 0, 0, 16, []),
  (16, 0, 0, 0, 0, 20, 18, []),
  (18, 0, 0, 0, 0, 0, 19, []),
  (19, 0, 0, 0, 0, 0, 20, []),
  (20, 1, 1, 0, 0, 0, 21, []),
  (21, 32, 189, 5, 13, 0, 24, []),
  (24, 6, 0, 0, 0, 0, 25, []),
  (25, 2, 0, 0, 0, 0, 26, []),
  (26, 0, 0, 0, 0, 0, 27, []),
  (27, 0, 0, 0, 0, 0, 28, []),
  (28, 0, 0, 0, 0, 0, 29, []),
  (29, 32, 190, 4, 13, 0, 32, []),
  (32, 2, 0, 0, 0, 0, 33, []),
  (33, 0, 0, 0, 0, 35, 35, []),
  (35, 0, 0, 0, 0, 0, 36, []),
  (36, 0, 0, 0, 0, 0, 37, []),
  (37, 0, 0, 0, 0, 0, 38, []),
  (38, 32, 179, 5, 13, 0, 41, []),
  (41, 35, 0, 0, 0, 0, 42, [])]
/-- 193: ChunkCodeModel.enter(I)Z -/
def am_i193 : List (Nat × am_I) := [(0, 2, 0, 0, 0, 0, 1, []),
  (1, 32, 183, 1, 13, 0, 4, []),
  (4, 1, 1, 0, 0, 0, 5, []),
  (5, 13, 0, 15, 0, 0, 8, []),
  (8, 2, 0, 0, 0, 0, 9, []),
  (9, 0, 0, 0, 0, 7, 11, []),
  (11, 32, 194, 2, 13, 0, 14, []),
  (14, 36, 0, 0, 0, 0, 15, []),
  (15, 2, 0, 0, 0, 0, 16, []),
  (16, 20, 11, 5, 0, 0, 19, []),
  (19, 0, 0, 0, 0, 48, 21, []),
  (21, 13, 1, 31, 0, 0, 24, []),
  (24, 2, 0, 0, 0, 0, 25, []),
  (25, 0, 0, 0, 0, 8, 27, []),
  (27, 32, 194, 2, 13, 0, 30, []),
  (30, 36, 0, 0, 0, 0, 31, []),
  (31, 2, 0, 0, 0, 0, 32, []),
  (32, 7, 0, 0, 0, 0, 33, []),
  (33, 20, 11, 5, 0, 0, 36, []),
  (36, 0, 0, 0, 0, 1, 37, []),
  (37, 10, 0, 0, 0, 0, 38, []),
  (38, 21, 11, 5, 0, 0, 41, []),
  (41, 2, 0, 0, 0, 0, 42, []),
  (42, 7, 0, 0, 0, 0, 43, []),
  (43, 20, 11, 4, 0, 0, 46, []),
  (46, 0, 0, 0, 0, 1, 47, []),
  (47, 10, 0, 0, 0, 0, 48, []),
  (48, 21, 11, 4, 0, 0, 51, []),
  (51, 0, 0, 0, 0, 1, 52, []),
  (52, 36, 0, 0, 0, 0, 53, [])]
/-- 194: ChunkCodeModel.fail(I)Z -/
def am_i194 : List (Nat × am_I) := [(0, 2, 0, 0, 0, 0, 1, []),
  (1, 20, 11, 6, 0, 0, 4, []),
  (4, 12, 1, 20, 0, 0, 7, []),
  (7, 2, 0, 0, 0, 0, 8, []),
  (8, 1, 1, 0, 0, 0, 9, []),
  (9, 21, 11, 6, 0, 0, 12, []),
  (12, 2, 0, 0, 0, 0, 13, []),
  (13, 2, 0, 0, 0, 0, 14, []),
  (14, 20, 11, 4, 0, 0, 17, []),
  (17, 21, 11, 7, 0, 0, 20, []),
  (20, 2, 0, 0, 0, 0, 21, []),
  (21, 0, 0, 0, 0, 0, 22, []),
  (22, 21, 11, 10, 0, 0, 25, []),
  (25, 0, 0, 0, 0, 0, 26, []),
  (26, 36, 0, 0, 0, 0, 27, [])]
/-- 195: ChunkCodeModel.body(ZI)V -/
def am_i195 : List (Nat × am_I) := [(0, 2, 0, 0, 0, 0, 1, []),
  (1, 20, 11, 4, 0, 0, 4, []),
  (4, 3, 3, 0, 0, 0, 5, []),
  (5, 2, 0, 0, 0, 0, 6, []),
  (6, 0, 0, 0, 0, 60, 8, []),
  (8, 32, 193, 2, 13, 0, 11, []),
  (11, 12, 1, 15, 0, 0, 14, []),
  (14, 35, 0, 0, 0, 0, 15, []),
  (15, 2, 0, 0, 0, 0, 16, []),
  (16, 20, 11, 53, 0, 0, 19, []),
  (19, 3, 4, 0, 0, 0, 21, []),
  (21, 2, 0, 0, 0, 0, 22, []),
  (22, 7, 0, 0, 0, 0, 23, []),
  (23, 20, 11, 53, 0, 0, 26, []),
  (26, 0, 0, 0, 0, 1, 27, []),
  (27, 10, 0, 0, 0, 0, 28, []),
  (28, 21, 11, 53, 0, 0, 31, []),
  (31, 2, 0, 0, 0, 0, 32, []),
  (32, 20, 11, 54, 0, 0, 35, []),
  (35, 1, 4, 0, 0, 0, 37, []),
  (37, 2, 0, 0, 0, 0, 38, []),
  (38, 20, 11, 33, 0, 0, 41, []),
  (41, 2, 0, 0, 0, 0, 42, []),
  (42, 20, 11, 32, 0, 0, 45, []),
  (45, 25, 0, 0, 0, 0, 46, []),
  (46, 26, 0, 0, 0, 0, 47, []),
  (47, 2, 0, 0, 0, 0, 48, []),
  (48, 20, 11, 59, 0, 0, 51, []),
  (51, 1, 4, 0, 0, 0, 53, []),
  (53, 1, 2, 0, 0, 0, 54, []),
  (54, 26, 0, 0, 0, 0, 55, []),
  (55, 2, 0, 0, 0, 0, 56, []),
  (56, 20, 11, 55, 0, 0, 59, []),
  (59, 1, 4, 0, 0, 0, 61, []),
  (61, 0, 0, 0, 0, 0, 62, []),
  (62, 26, 0, 0, 0, 0, 63, []),
  (63, 2, 0, 0, 0, 0, 64, []),
  (64, 20, 11, 56, 0, 0, 67, []),
  (67, 1, 4, 0, 0, 0, 69, []),
  (69, 0, 0, 0, 0, 0, 70, []),
  (70, 26, 0, 0, 0, 0, 71, []),
  (71, 2, 0, 0, 0, 0, 72, []),
  (72, 20, 11, 58, 0, 0, 75, []),
  (75, 1, 4, 0, 0, 0, 77, []),
  (77, 0, 0, 0, 0, 0, 78, []),
  (78, 26, 0, 0, 0, 0, 79, []),
  (79, 2, 0, 0, 0, 0, 80, []),
  (80, 20, 11, 60, 0, 0, 83, []),
  (83, 1, 4, 0, 0, 0, 85, []),
  (85, 0, 0, 0, 0, 0, 86, []),
  (86, 26, 0, 0, 0, 0, 87, []),
  (87, 2, 0, 0, 0, 0, 88, []),
  (88, 20, 11, 67, 0, 0, 91, []),
  (91, 1, 4, 0, 0, 0, 93, []),
  (93, 0, 0, 0, 0, 0, 94, []),
  (94, 26, 0, 0, 0, 0, 95, []),
  (95, 2, 0, 0, 0, 0, 96, []),
  (96, 7, 0, 0, 0, 0, 97, []),
  (97, 20, 11, 32, 0, 0, 100, []),
  (100, 0, 0, 0, 0, 1, 101, []),
  (101, 10, 0, 0, 0, 0, 102, []),
  (102, 21, 11, 32, 0, 0, 105, []),
  (105, 2, 0, 0, 0, 0, 106, []),
  (106, 20, 11, 33, 0, 0, 109, []),
  (109, 2, 0, 0, 0, 0, 110, []),
  (110, 20, 11, 32, 0, 0, 113, []),
  (113, 1, 4, 0, 0, 0, 115, []),
  (115, 26, 0, 0, 0, 0, 116, []),
  (116, 2, 0, 0, 0, 0, 117, []),
  (117, 20, 11, 34, 0, 0, 120, []),
  (120, 2, 0, 0, 0, 0, 121, []),
  (121, 20, 11, 32, 0, 0, 124, []),
  (124, 2, 0, 0, 0, 0, 125, []),
  (125, 20, 11, 24, 0, 0, 128, []),
  (128, 26, 0, 0, 0, 0, 129, []),
  (129, 2, 0, 0, 0, 0, 130, []),
  (130, 20, 11, 35, 0, 0, 133, []),
  (133, 2, 0, 0, 0, 0, 134, []),
  (134, 20, 11, 32, 0, 0, 137, []),
  (137, 2, 0, 0, 0, 0, 138, []),
  (138, 20, 11, 44, 0, 0, 141, []),
  (141, 26, 0, 0, 0, 0, 142, []),
  (142, 2, 0, 0, 0, 0, 143, []),
  (143, 20, 11, 36, 0, 0, 146, []),
  (146, 2, 0, 0, 0, 0, 147, []),
  (147, 20, 11, 32, 0, 0, 150, []),
  (150, 2, 0, 0, 0, 0, 151, []),
  (151, 20, 11, 48, 0, 0, 154, []),
  (154, 26, 0, 0, 0, 0, 155, []),
  (155, 2, 0, 0, 0, 0, 156, []),
  (156, 0, 0, 0, 0, 0, 157, []),
  (157, 32, 177, 2, 13, 0, 160, []),
  (160, 1, 1, 0, 0, 0, 161, []),
  (161, 12, 0, 183, 0, 0, 164, []),
  (164, 2, 0, 0, 0, 0, 165, []),
  (165, 20, 11, 55, 0, 0, 168, []),
  (168, 1, 4, 0, 0, 0, 170, []),
  (170, 8, 0, 0, 0, 0, 171, []),
  (171, 25, 0, 0, 0, 0, 172, []),
  (172, 0, 0, 0, 0, 1, 173, []),
  (173, 10, 0, 0, 0, 0, 174, []),
  (174, 26, 0, 0, 0, 0, 175, []),
  (175, 2, 0, 0, 0, 0, 176, []),
  (176, 0, 0, 0, 0, (-1), 177, []),
  (177, 0, 0, 0, 0, 0, 178, []),
  (178, 0, 0, 0, 0, 0, 179, []),
  (179, 1, 3, 0, 0, 0, 180, []),
  (180, 32, 196, 5, 13, 0, 183, []),
  (183, 2, 0, 0, 0, 0, 184, []),
  (184, 32, 183, 1, 13, 0, 187, []),
  (187, 0, 0, 0, 0, 61, 189, []),
  (189, 13, 0, 201, 0, 0, 192, []),
  (192, 2, 0, 0, 0, 0, 193, []),
  (193, 1, 4, 0, 0, 0, 195, []),
  (195, 32, 198, 2, 13, 0, 198, []),
  (198, 12, 0, 224, 0, 0, 201, []),
  (201, 2, 0, 0, 0, 0, 202, []),
  (202, 0, 0, 0, 0, 61, 204, []),
  (204, 32, 199, 2, 13, 0, 207, []),
  (207, 12, 1, 211, 0, 0, 210, []),
  (210, 35, 0, 0, 0, 0, 211, []),
  (211, 2, 0, 0, 0, 0, 212, []),
  (212, 0, 0, 0, 0, 40, 214, []),
  (214, 1, 3, 0, 0, 0, 215, []),
  (215, 0, 0, 0, 0, 0, 216, []),
  (216, 0, 0, 0, 0, 0, 217, []),
  (217, 32, 179, 5, 13, 0, 220, []),
  (220, 2, 0, 0, 0, 0, 221, []),
  (221, 32, 178, 1, 13, 0, 224, []),
  (224, 35, 0, 0, 0, 0, 225, [])]
/-- 196: ChunkCodeModel.declare(IZZI)V -/
def am_i196 : List (Nat × am_I) := [(0, 2, 0, 0, 0, 0, 1, []),
  (1, 32, 197, 1, 13, 0, 4, []),
  (4, 0, 0, 0, 0, 200, 7, []),
  (7, 13, 2, 18, 0, 0, 10, []),
  (10, 2, 0, 0, 0, 0, 11, []),
  (11, 0, 0, 0, 0, 16, 13, []),
  (13, 1, 4, 0, 0, 0, 15, []),
  (15, 32, 191, 3, 13, 0, 18, []),
  (18, 2, 0, 0, 0, 0, 19, []),
  (19, 20, 11, 25, 0, 0, 22, []),
  (22, 2, 0, 0, 0, 0, 23, []),
  (23, 20, 11, 24, 0, 0, 26, []),
  (26, 1, 1, 0, 0, 0, 27, []),
  (27, 26, 0, 0, 0, 0, 28, []),
  (28, 2, 0, 0, 0, 0, 29, []),
  (29, 20, 11, 28, 0, 0, 32, []),
  (32, 2, 0, 0, 0, 0, 33, []),
  (33, 20, 11, 24, 0, 0, 36, []),
  (36, 0, 0, 0, 0, 0, 37, []),
  (37, 26, 1, 0, 0, 0, 38, []),
  (38, 2, 0, 0, 0, 0, 39, []),
  (39, 20, 11, 26, 0, 0, 42, []),
  (42, 2, 0, 0, 0, 0, 43, []),
  (43, 20, 11, 24, 0, 0, 46, []),
  (46, 2, 0, 0, 0, 0, 47, []),
  (47, 20, 11, 32, 0, 0, 50, []),
  (50, 26, 0, 0, 0, 0, 51, []),
  (51, 2, 0, 0, 0, 0, 52, []),
  (52, 20, 11, 27, 0, 0, 55, []),
  (55, 2, 0, 0, 0, 0, 56, []),
  (56, 20, 11, 24, 0, 0, 59, []),
  (59, 2, 0, 0, 0, 0, 60, []),
  (60, 20, 11, 31, 0, 0, 63, []),
  (63, 26, 0, 0, 0, 0, 64, []),
  (64, 2, 0, 0, 0, 0, 65, []),
  (65, 20, 11, 29, 0, 0, 68, []),
  (68, 2, 0, 0, 0, 0, 69, []),
  (69, 20, 11, 24, 0, 0, 72, []),
  (72, 1, 2, 0, 0, 0, 73, []),
  (73, 26, 1, 0, 0, 0, 74, []),
  (74, 2, 0, 0, 0, 0, 75, []),
  (75, 20, 11, 30, 0, 0, 78, []),
  (78, 2, 0, 0, 0, 0, 79, []),
  (79, 20, 11, 24, 0, 0, 82, []),
  (82, 1, 3, 0, 0, 0, 83, []),
  (83, 26, 1, 0, 0, 0, 84, []),
  (84, 2, 0, 0, 0, 0, 85, []),
  (85, 7, 0, 0, 0, 0, 86, []),
  (86, 20, 11, 31, 0, 0, 89, []),
  (89, 0, 0, 0, 0, 1, 90, []),
  (90, 10, 0, 0, 0, 0, 91, []),
  (91, 21, 11, 31, 0, 0, 94, []),
  (94, 2, 0, 0, 0, 0, 95, []),
  (95, 7, 0, 0, 0, 0, 96, []),
  (96, 20, 11, 24, 0, 0, 99, []),
  (99, 0, 0, 0, 0, 1, 100, []),
  (100, 10, 0, 0, 0, 0, 101, []),
  (101, 21, 11, 24, 0, 0, 104, []),
  (104, 2, 0, 0, 0, 0, 105, []),
  (105, 20, 11, 33, 0, 0, 108, []),
  (108, 2, 0, 0, 0, 0, 109, []),
  (109, 20, 11, 32, 0, 0, 112, []),
  (112, 25, 0, 0, 0, 0, 113, []),
  (113, 3, 5, 0, 0, 0, 115, []),
  (115, 2, 0, 0, 0, 0, 116, []),
  (116, 20, 11, 58, 0, 0, 119, []),
  (119, 1, 5, 0, 0, 0, 121, []),
  (121, 2, 0, 0, 0, 0, 122, []),
  (122, 32, 197, 1, 13, 0, 125, []),
  (125, 2, 0, 0, 0, 0, 126, []),
  (126, 20, 11, 58, 0, 0, 129, []),
  (129, 1, 5, 0, 0, 0, 131, []),
  (131, 25, 0, 0, 0, 0, 132, []),
  (132, 13, 5, 142, 0, 0, 135, []),
  (135, 2, 0, 0, 0, 0, 136, []),
  (136, 32, 197, 1, 13, 0, 139, []),
  (139, 18, 0, 149, 0, 0, 142, []),
  (142, 2, 0, 0, 0, 0, 143, []),
  (143, 20, 11, 58, 0, 0, 146, []),
  (146, 1, 5, 0, 0, 0, 148, []),
  (148, 25, 0, 0, 0, 0, 149, []),
  (149, 26, 0, 0, 0, 0, 150, []),
  (150, 35, 0, 0, 0, 0, 151, [])]
/-- 197: ChunkCodeModel.count()I -/
def am_i197 : List (Nat × am_I) := [(0, 2, 0, 0, 0, 0, 1, []),
  (1, 20, 11, 24, 0, 0, 4, []),
  (4, 2, 0, 0, 0, 0, 5, []),
  (5, 20, 11, 34, 0, 0, 8, []),
  (8, 2, 0, 0, 0, 0, 9, []),
  (9, 20, 11, 32, 0, 0, 12, []),
  (12, 25, 0, 0, 0, 0, 13, []),
  (13, 10, 1, 0, 0, 0, 14, []),
  (14, 33, 0, 0, 0, 0, 15, [])]
/-- 198: ChunkCodeModel.parameters(I)Z -/
def am_i198 : List (Nat × am_I) := [(0, 0, 0, 0, 0, 1, 1, []),
  (1, 3, 2, 0, 0, 0, 2, []),
  (2, 1, 2, 0, 0, 0, 3, []),
  (3, 12, 0, 124, 0, 0, 6, []),
  (6, 2, 0, 0, 0, 0, 7, []),
  (7, 32, 183, 1, 13, 0, 10, []),
  (10, 0, 0, 0, 0, 72, 12, []),
  (12, 13, 1, 34, 0, 0, 15, []),
  (15, 2, 0, 0, 0, 0, 16, []),
  (16, 20, 11, 56, 0, 0, 19, []),
  (19, 1, 1, 0, 0, 0, 20, []),
  (20, 0, 0, 0, 0, 1, 21, []),
  (21, 26, 0, 0, 0, 0, 22, []),
  (22, 2, 0, 0, 0, 0, 23, []),
  (23, 7, 0, 0, 0, 0, 24, []),
  (24, 20, 11, 4, 0, 0, 27, []),
  (27, 0, 0, 0, 0, 1, 28, []),
  (28, 10, 0, 0, 0, 0, 29, []),
  (29, 21, 11, 4, 0, 0, 32, []),
  (32, 0, 0, 0, 0, 1, 33, []),
  (33, 36, 0, 0, 0, 0, 34, []),
  (34, 2, 0, 0, 0, 0, 35, []),
  (35, 32, 183, 1, 13, 0, 38, []),
  (38, 0, 0, 0, 0, 1, 39, []),
  (39, 13, 0, 49, 0, 0, 42, []),
  (42, 2, 0, 0, 0, 0, 43, []),
  (43, 0, 0, 0, 0, 7, 45, []),
  (45, 32, 194, 2, 13, 0, 48, []),
  (48, 36, 0, 0, 0, 0, 49, []),
  (49, 2, 0, 0, 0, 0, 50, []),
  (50, 20, 11, 55, 0, 0, 53, []),
  (53, 1, 1, 0, 0, 0, 54, []),
  (54, 8, 0, 0, 0, 0, 55, []),
  (55, 25, 0, 0, 0, 0, 56, []),
  (56, 0, 0, 0, 0, 1, 57, []),
  (57, 10, 0, 0, 0, 0, 58, []),
  (58, 26, 0, 0, 0, 0, 59, []),
  (59, 2, 0, 0, 0, 0, 60, []),
  (60, 2, 0, 0, 0, 0, 61, []),
  (61, 20, 11, 2, 0, 0, 64, []),
  (64, 2, 0, 0, 0, 0, 65, []),
  (65, 20, 11, 4, 0, 0, 68, []),
  (68, 25, 0, 0, 0, 0, 69, []),
  (69, 0, 0, 0, 0, 0, 70, []),
  (70, 0, 0, 0, 0, 0, 71, []),
  (71, 2, 0, 0, 0, 0, 72, []),
  (72, 20, 11, 4, 0, 0, 75, []),
  (75, 32, 196, 5, 13, 0, 78, []),
  (78, 2, 0, 0, 0, 0, 79, []),
  (79, 7, 0, 0, 0, 0, 80, []),
  (80, 20, 11, 4, 0, 0, 83, []),
  (83, 0, 0, 0, 0, 1, 84, []),
  (84, 10, 0, 0, 0, 0, 85, []),
  (85, 21, 11, 4, 0, 0, 88, []),
  (88, 2, 0, 0, 0, 0, 89, []),
  (89, 32, 183, 1, 13, 0, 92, []),
  (92, 0, 0, 0, 0, 69, 94, []),
  (94, 13, 1, 101, 0, 0, 97, []),
  (97, 0, 0, 0, 0, 1, 98, []),
  (98, 18, 0, 102, 0, 0, 101, []),
  (101, 0, 0, 0, 0, 0, 102, []),
  (102, 3, 2, 0, 0, 0, 103, []),
  (103, 2, 0, 0, 0, 0, 104, []),
  (104, 7, 0, 0, 0, 0, 105, []),
  (105, 20, 11, 4, 0, 0, 108, []),
  (108, 1, 2, 0, 0, 0, 109, []),
  (109, 12, 0, 116, 0, 0, 112, []),
  (112, 0, 0, 0, 0, 1, 113, []),
  (113, 18, 0, 117, 0, 0, 116, []),
  (116, 0, 0, 0, 0, 0, 117, []),
  (117, 10, 0, 0, 0, 0, 118, []),
  (118, 21, 11, 4, 0, 0, 121, []),
  (121, 18, 0, 2, 0, 0, 124, []),
  (124, 0, 0, 0, 0, 1, 125, []),
  (125, 36, 0, 0, 0, 0, 126, [])]
/-- 199: ChunkCodeModel.leave(I)Z -/
def am_i199 : List (Nat × am_I) := [(0, 2, 0, 0, 0, 0, 1, []),
  (1, 1, 1, 0, 0, 0, 2, []),
  (2, 32, 200, 2, 13, 0, 5, []),
  (5, 12, 1, 10, 0, 0, 8, []),
  (8, 0, 0, 0, 0, 0, 9, []),
  (9, 36, 0, 0, 0, 0, 10, []),
  (10, 2, 0, 0, 0, 0, 11, []),
  (11, 7, 0, 0, 0, 0, 12, []),
  (12, 20, 11, 5, 0, 0, 15, []),
  (15, 0, 0, 0, 0, 1, 16, []),
  (16, 10, 1, 0, 0, 0, 17, []),
  (17, 21, 11, 5, 0, 0, 20, []),
  (20, 0, 0, 0, 0, 1, 21, []),
  (21, 36, 0, 0, 0, 0, 22, [])]
/-- 200: ChunkCodeModel.take(I)Z -/
def am_i200 : List (Nat × am_I) := [(0, 2, 0, 0, 0, 0, 1, []),
  (1, 32, 183, 1, 13, 0, 4, []),
  (4, 1, 1, 0, 0, 0, 5, []),
  (5, 13, 0, 15, 0, 0, 8, []),
  (8, 2, 0, 0, 0, 0, 9, []),
  (9, 0, 0, 0, 0, 7, 11, []),
  (11, 32, 194, 2, 13, 0, 14, []),
  (14, 36, 0, 0, 0, 0, 15, []),
  (15, 2, 0, 0, 0, 0, 16, []),
  (16, 7, 0, 0, 0, 0, 17, []),
  (17, 20, 11, 4, 0, 0, 20, []),
  (20, 0, 0, 0, 0, 1, 21, []),
  (21, 10, 0, 0, 0, 0, 22, []),
  (22, 21, 11, 4, 0, 0, 25, []),
  (25, 0, 0, 0, 0, 1, 26, []),
  (26, 36, 0, 0, 0, 0, 27, [])]
/-- 201: ChunkCodeModel.primary()V -/
def am_i201 : List (Nat × am_I) := [(0, 2, 0, 0, 0, 0, 1, []),
  (1, 32, 183, 1, 13, 0, 4, []),
  (4, 0, 0, 0, 0, 1, 5, []),
  (5, 13, 1, 31, 0, 0, 8, []),
  (8, 2, 0, 0, 0, 0, 9, []),
  (9, 0, 0, 0, 0, 3, 10, []),
  (10, 0, 0, 0, 0, 0, 11, []),
  (11, 2, 0, 0, 0, 0, 12, []),
  (12, 20, 11, 4, 0, 0, 15, []),
  (15, 32, 190, 4, 13, 0, 18, []),
  (18, 2, 0, 0, 0, 0, 19, []),
  (19, 7, 0, 0, 0, 0, 20, []),
  (20, 20, 11, 4, 0, 0, 23, []),
  (23, 0, 0, 0, 0, 1, 24, []),
  (24, 10, 0, 0, 0, 0, 25, []),
  (25, 21, 11, 4, 0, 0, 28, []),
  (28, 18, 0, 54, 0, 0, 31, []),
  (31, 2, 0, 0, 0, 0, 32, []),
  (32, 0, 0, 0, 0, 60, 34, []),
  (34, 32, 193, 2, 13, 0, 37, []),
  (37, 12, 0, 54, 0, 0, 40, []),
  (40, 2, 0, 0, 0, 0, 41, []),
  (41, 0, 0, 0, 0, 29, 43, []),
  (43, 0, 0, 0, 0, 0, 44, []),
  (44, 0, 0, 0, 0, 0, 45, []),
  (45, 0, 0, 0, 0, 0, 46, []),
  (46, 32, 179, 5, 13, 0, 49, []),
  (49, 2, 0, 0, 0, 0, 50, []),
  (50, 0, 0, 0, 0, 0, 51, []),
  (51, 32, 186, 2, 13, 0, 54, []),
  (54, 35, 0, 0, 0, 0, 55, [])]
/-- 202: ChunkCodeModel.binary(I)V -/
def am_i202 : List (Nat × am_I) := [(0, 2, 0, 0, 0, 0, 1, []),
  (1, 32, 183, 1, 13, 0, 4, []),
  (4, 3, 2, 0, 0, 0, 5, []),
  (5, 1, 2, 0, 0, 0, 6, []),
  (6, 32, 203, 1, 0, 0, 9, []),
  (9, 1, 1, 0, 0, 0, 10, []),
  (10, 13, 4, 14, 0, 0, 13, []),
  (13, 35, 0, 0, 0, 0, 14, []),
  (14, 2, 0, 0, 0, 0, 15, []),
  (15, 20, 11, 4, 0, 0, 18, []),
  (18, 3, 3, 0, 0, 0, 19, []),
  (19, 2, 0, 0, 0, 0, 20, []),
  (20, 7, 0, 0, 0, 0, 21, []),
  (21, 20, 11, 4, 0, 0, 24, []),
  (24, 0, 0, 0, 0, 1, 25, []),
  (25, 10, 0, 0, 0, 0, 26, []),
  (26, 21, 11, 4, 0, 0, 29, []),
  (29, 2, 0, 0, 0, 0, 30, []),
  (30, 32, 204, 1, 13, 0, 33, []),
  (33, 2, 0, 0, 0, 0, 34, []),
  (34, 0, 0, 0, 0, 24, 36, []),
  (36, 1, 1, 0, 0, 0, 37, []),
  (37, 0, 0, 0, 0, 0, 38, []),
  (38, 0, 0, 0, 0, 0, 39, []),
  (39, 32, 179, 5, 13, 0, 42, []),
  (42, 1, 2, 0, 0, 0, 43, []),
  (43, 0, 0, 0, 0, 10, 45, []),
  (45, 13, 0, 54, 0, 0, 48, []),
  (48, 1, 2, 0, 0, 0, 49, []),
  (49, 0, 0, 0, 0, 25, 51, []),
  (51, 13, 1, 95, 0, 0, 54, []),
  (54, 2, 0, 0, 0, 0, 55, []),
  (55, 7, 0, 0, 0, 0, 56, []),
  (56, 20, 11, 15, 0, 0, 59, []),
  (59, 0, 0, 0, 0, 1, 60, []),
  (60, 10, 1, 0, 0, 0, 61, []),
  (61, 21, 11, 15, 0, 0, 64, []),
  (64, 2, 0, 0, 0, 0, 65, []),
  (65, 0, 0, 0, 0, 26, 67, []),
  (67, 2, 0, 0, 0, 0, 68, []),
  (68, 1, 2, 0, 0, 0, 69, []),
  (69, 0, 0, 0, 0, 10, 71, []),
  (71, 13, 1, 79, 0, 0, 74, []),
  (74, 0, 0, 0, 0, 15, 76, []),
  (76, 18, 0, 81, 0, 0, 79, []),
  (79, 0, 0, 0, 0, 16, 81, []),
  (81, 0, 0, 0, 0, 0, 82, []),
  (82, 0, 0, 0, 0, 0, 83, []),
  (83, 0, 0, 0, 0, 0, 84, []),
  (84, 32, 189, 5, 13, 0, 87, []),
  (87, 0, 0, 0, 0, 0, 88, []),
  (88, 0, 0, 0, 0, 0, 89, []),
  (89, 32, 179, 5, 13, 0, 92, []),
  (92, 18, 0, 104, 0, 0, 95, []),
  (95, 2, 0, 0, 0, 0, 96, []),
  (96, 0, 0, 0, 0, 25, 98, []),
  (98, 1, 2, 0, 0, 0, 99, []),
  (99, 1, 3, 0, 0, 0, 100, []),
  (100, 0, 0, 0, 0, 0, 101, []),
  (101, 32, 179, 5, 13, 0, 104, []),
  (104, 2, 0, 0, 0, 0, 105, []),
  (105, 1, 2, 0, 0, 0, 106, []),
  (106, 32, 208, 1, 0, 0, 109, []),
  (109, 32, 186, 2, 13, 0, 112, []),
  (112, 35, 0, 0, 0, 0, 113, [])]
/-- 203: ChunkCodeModel.left(I)I -/
def am_i203 : List (Nat × am_I) := [(0, 1, 0, 0, 0, 0, 1, []),
  (1, 19, 0, 292, 0, 0, 264, [(10, 266), (11, 292), (12, 292), (13, 292), (14, 292), (15, 292), (16, 292), (17, 292), (18, 292), (19, 292), (20, 292), (21, 292), (22, 292), (23, 292), (24, 292), (25, 264), (26, 292), (27, 292), (28, 292), (29, 292), (30, 292), (31, 292), (32, 292), (33, 292), (34, 292), (35, 292), (36, 292), (37, 292), (38, 292), (39, 292), (40, 283), (41, 283), (42, 286), (43, 286), (44, 286), (45, 289), (46, 292), (47, 274), (48, 272), (49, 270), (50, 277), (51, 277), (52, 286), (53, 268), (54, 268), (55, 268), (56, 268), (57, 268), (58, 268), (59, 292), (60, 292), (61, 292), (62, 292), (63, 292), (64, 292), (65, 292), (66, 292), (67, 292), (68, 292), (69, 292), (70, 292), (71, 280)]),
  (264, 0, 0, 0, 0, 1, 265, []),
  (265, 33, 0, 0, 0, 0, 266, []),
  (266, 0, 0, 0, 0, 2, 267, []),
  (267, 33, 0, 0, 0, 0, 268, []),
  (268, 0, 0, 0, 0, 3, 269, []),
  (269, 33, 0, 0, 0, 0, 270, []),
  (270, 0, 0, 0, 0, 4, 271, []),
  (271, 33, 0, 0, 0, 0, 272, []),
  (272, 0, 0, 0, 0, 5, 273, []),
  (273, 33, 0, 0, 0, 0, 274, []),
  (274, 0, 0, 0, 0, 6, 276, []),
  (276, 33, 0, 0, 0, 0, 277, []),
  (277, 0, 0, 0, 0, 7, 279, []),
  (279, 33, 0, 0, 0, 0, 280, []),
  (280, 0, 0, 0, 0, 9, 282, []),
  (282, 33, 0, 0, 0, 0, 283, []),
  (283, 0, 0, 0, 0, 10, 285, []),
  (285, 33, 0, 0, 0, 0, 286, []),
  (286, 0, 0, 0, 0, 11, 288, []),
  (288, 33, 0, 0, 0, 0, 289, []),
  (289, 0, 0, 0, 0, 14, 291, []),
  (291, 33, 0, 0, 0, 0, 292, []),
  (292, 0, 0, 0, 0, 0, 293, []),
  (293, 33, 0, 0, 0, 0, 294, [])]
/-- 204: ChunkCodeModel.load()V -/
def am_i204 : List (Nat × am_I) := [(0, 2, 0, 0, 0, 0, 1, []),
  (1, 20, 11, 15, 0, 0, 4, []),
  (4, 0, 0, 0, 0, 1, 5, []),
  (5, 10, 1, 0, 0, 0, 6, []),
  (6, 3, 1, 0, 0, 0, 7, []),
  (7, 2, 0, 0, 0, 0, 8, []),
  (8, 20, 11, 18, 0, 0, 11, []),
  (11, 1, 1, 0, 0, 0, 12, []),
  (12, 25, 0, 0, 0, 0, 13, []),
  (13, 3, 2, 0, 0, 0, 14, []),
  (14, 2, 0, 0, 0, 0, 15, []),
  (15, 20, 11, 16, 0, 0, 18, []),
  (18, 1, 1, 0, 0, 0, 19, []),
  (19, 25, 0, 0, 0, 0, 20, []),
  (20, 19, 0, 103, 0, 0, 48, [(3, 48), (4, 72), (5, 85)]),
  (48, 2, 0, 0, 0, 0, 49, []),
  (49, 1, 2, 0, 0, 0, 50, []),
  (50, 32, 205, 2, 13, 0, 53, []),
  (53, 3, 3, 0, 0, 0, 54, []),
  (54, 2, 0, 0, 0, 0, 55, []),
  (55, 0, 0, 0, 0, 8, 57, []),
  (57, 1, 3, 0, 0, 0, 58, []),
  (58, 10, 0, 0, 0, 0, 59, []),
  (59, 2, 0, 0, 0, 0, 60, []),
  (60, 20, 11, 75, 0, 0, 63, []),
  (63, 0, 0, 0, 0, 0, 64, []),
  (64, 1, 2, 0, 0, 0, 65, []),
  (65, 32, 189, 5, 13, 0, 68, []),
  (68, 6, 0, 0, 0, 0, 69, []),
  (69, 18, 0, 103, 0, 0, 72, []),
  (72, 2, 0, 0, 0, 0, 73, []),
  (73, 0, 0, 0, 0, 11, 75, []),
  (75, 0, 0, 0, 0, 0, 76, []),
  (76, 0, 0, 0, 0, 0, 77, []),
  (77, 1, 2, 0, 0, 0, 78, []),
  (78, 32, 189, 5, 13, 0, 81, []),
  (81, 6, 0, 0, 0, 0, 82, []),
  (82, 18, 0, 103, 0, 0, 85, []),
  (85, 2, 0, 0, 0, 0, 86, []),
  (86, 0, 0, 0, 0, 12, 88, []),
  (88, 2, 0, 0, 0, 0, 89, []),
  (89, 20, 11, 17, 0, 0, 92, []),
  (92, 1, 1, 0, 0, 0, 93, []),
  (93, 25, 0, 0, 0, 0, 94, []),
  (94, 0, 0, 0, 0, 0, 95, []),
  (95, 1, 2, 0, 0, 0, 96, []),
  (96, 32, 189, 5, 13, 0, 99, []),
  (99, 6, 0, 0, 0, 0, 100, []),
  (100, 18, 0, 103, 0, 0, 103, []),
  (103, 2, 0, 0, 0, 0, 104, []),
  (104, 20, 11, 16, 0, 0, 107, []),
  (107, 1, 1, 0, 0, 0, 108, []),
  (108, 0, 0, 0, 0, 0, 109, []),
  (109, 26, 0, 0, 0, 0, 110, []),
  (110, 35, 0, 0, 0, 0, 111, [])]
/-- 205: ChunkCodeModel.resolve(I)I -/
def am_i205 : List (Nat × am_I) := [(0, 2, 0, 0, 0, 0, 1, []),
  (1, 2, 0, 0, 0, 0, 2, []),
  (2, 20, 11, 2, 0, 0, 5, []),
  (5, 1, 1, 0, 0, 0, 6, []),
  (6, 25, 0, 0, 0, 0, 7, []),
  (7, 32, 206, 2, 13, 0, 10, []),
  (10, 3, 2, 0, 0, 0, 11, []),
  (11, 2, 0, 0, 0, 0, 12, []),
  (12, 2, 0, 0, 0, 0, 13, []),
  (13, 20, 11, 2, 0, 0, 16, []),
  (16, 1, 1, 0, 0, 0, 17, []),
  (17, 25, 0, 0, 0, 0, 18, []),
  (18, 21, 11, 75, 0, 0, 21, []),
  (21, 1, 2, 0, 0, 0, 22, []),
  (22, 12, 3, 27, 0, 0, 25, []),
  (25, 0, 0, 0, 0, 2, 26, []),
  (26, 33, 0, 0, 0, 0, 27, []),
  (27, 2, 0, 0, 0, 0, 28, []),
  (28, 20, 11, 26, 0, 0, 31, []),
  (31, 1, 2, 0, 0, 0, 32, []),
  (32, 25, 0, 0, 0, 0, 33, []),
  (33, 3, 3, 0, 0, 0, 34, []),
  (34, 2, 0, 0, 0, 0, 35, []),
  (35, 1, 2, 0, 0, 0, 36, []),
  (36, 2, 0, 0, 0, 0, 37, []),
  (37, 20, 11, 34, 0, 0, 40, []),
  (40, 1, 3, 0, 0, 0, 41, []),
  (41, 25, 0, 0, 0, 0, 42, []),
  (42, 10, 1, 0, 0, 0, 43, []),
  (43, 21, 11, 75, 0, 0, 46, []),
  (46, 1, 3, 0, 0, 0, 47, []),
  (47, 2, 0, 0, 0, 0, 48, []),
  (48, 20, 11, 32, 0, 0, 51, []),
  (51, 13, 1, 56, 0, 0, 54, []),
  (54, 0, 0, 0, 0, 0, 55, []),
  (55, 33, 0, 0, 0, 0, 56, []),
  (56, 1, 3, 0, 0, 0, 57, []),
  (57, 0, 0, 0, 0, 1, 58, []),
  (58, 10, 0, 0, 0, 0, 59, []),
  (59, 3, 4, 0, 0, 0, 61, []),
  (61, 1, 4, 0, 0, 0, 63, []),
  (63, 2, 0, 0, 0, 0, 64, []),
  (64, 20, 11, 32, 0, 0, 67, []),
  (67, 13, 4, 114, 0, 0, 70, []),
  (70, 2, 0, 0, 0, 0, 71, []),
  (71, 2, 0, 0, 0, 0, 72, []),
  (72, 2, 0, 0, 0, 0, 73, []),
  (73, 20, 11, 33, 0, 0, 76, []),
  (76, 1, 4, 0, 0, 0, 78, []),
  (78, 25, 0, 0, 0, 0, 79, []),
  (79, 2, 0, 0, 0, 0, 80, []),
  (80, 20, 11, 27, 0, 0, 83, []),
  (83, 1, 2, 0, 0, 0, 84, []),
  (84, 25, 0, 0, 0, 0, 85, []),
  (85, 1, 4, 0, 0, 0, 87, []),
  (87, 1, 3, 0, 0, 0, 88, []),
  (88, 0, 0, 0, 0, 1, 89, []),
  (89, 10, 0, 0, 0, 0, 90, []),
  (90, 13, 1, 97, 0, 0, 93, []),
  (93, 0, 0, 0, 0, 1, 94, []),
  (94, 18, 0, 98, 0, 0, 97, []),
  (97, 0, 0, 0, 0, 0, 98, []),
  (98, 2, 0, 0, 0, 0, 99, []),
  (99, 20, 11, 75, 0, 0, 102, []),
  (102, 32, 207, 5, 13, 0, 105, []),
  (105, 21, 11, 75, 0, 0, 108, []),
  (108, 5, 4, 0, 0, 1, 111, []),
  (111, 18, 0, 61, 0, 0, 114, []),
  (114, 0, 0, 0, 0, 1, 115, []),
  (115, 33, 0, 0, 0, 0, 116, [])]
/-- 206: ChunkCodeModel.find(I)I -/
def am_i206 : List (Nat × am_I) := [(0, 2, 0, 0, 0, 0, 1, []),
  (1, 20, 11, 24, 0, 0, 4, []),
  (4, 0, 0, 0, 0, 1, 5, []),
  (5, 10, 1, 0, 0, 0, 6, []),
  (6, 3, 2, 0, 0, 0, 7, []),
  (7, 1, 2, 0, 0, 0, 8, []),
  (8, 12, 2, 36, 0, 0, 11, []),
  (11, 2, 0, 0, 0, 0, 12, []),
  (12, 20, 11, 25, 0, 0, 15, []),
  (15, 1, 2, 0, 0, 0, 16, []),
  (16, 25, 0, 0, 0, 0, 17, []),
  (17, 1, 1, 0, 0, 0, 18, []),
  (18, 13, 1, 30, 0, 0, 21, []),
  (21, 2, 0, 0, 0, 0, 22, []),
  (22, 20, 11, 28, 0, 0, 25, []),
  (25, 1, 2, 0, 0, 0, 26, []),
  (26, 25, 1, 0, 0, 0, 27, []),
  (27, 12, 0, 36, 0, 0, 30, []),
  (30, 5, 2, 0, 0, (-1), 33, []),
  (33, 18, 0, 7, 0, 0, 36, []),
  (36, 1, 2, 0, 0, 0, 37, []),
  (37, 33, 0, 0, 0, 0, 38, [])]
/-- 207: ChunkCodeModel.outerOf(IIII)I -/
def am_i207 : List (Nat × am_I) := [(0, 0, 0, 0, 0, 0, 1, []),
  (1, 3, 5, 0, 0, 0, 3, []),
  (3, 0, 0, 0, 0, 0, 4, []),
  (4, 3, 6, 0, 0, 0, 6, []),
  (6, 1, 6, 0, 0, 0, 8, []),
  (8, 2, 0, 0, 0, 0, 9, []),
  (9, 20, 11, 62, 0, 0, 12, []),
  (12, 13, 3, 49, 0, 0, 15, []),
  (15, 2, 0, 0, 0, 0, 16, []),
  (16, 20, 11, 63, 0, 0, 19, []),
  (19, 1, 6, 0, 0, 0, 21, []),
  (21, 25, 0, 0, 0, 0, 22, []),
  (22, 1, 1, 0, 0, 0, 23, []),
  (23, 13, 1, 43, 0, 0, 26, []),
  (26, 2, 0, 0, 0, 0, 27, []),
  (27, 20, 11, 64, 0, 0, 30, []),
  (30, 1, 6, 0, 0, 0, 32, []),
  (32, 25, 0, 0, 0, 0, 33, []),
  (33, 1, 2, 0, 0, 0, 34, []),
  (34, 13, 1, 40, 0, 0, 37, []),
  (37, 1, 5, 0, 0, 0, 39, []),
  (39, 33, 0, 0, 0, 0, 40, []),
  (40, 5, 5, 0, 0, 1, 43, []),
  (43, 5, 6, 0, 0, 1, 46, []),
  (46, 18, 0, 6, 0, 0, 49, []),
  (49, 2, 0, 0, 0, 0, 50, []),
  (50, 20, 11, 63, 0, 0, 53, []),
  (53, 2, 0, 0, 0, 0, 54, []),
  (54, 20, 11, 62, 0, 0, 57, []),
  (57, 1, 1, 0, 0, 0, 58, []),
  (58, 26, 0, 0, 0, 0, 59, []),
  (59, 2, 0, 0, 0, 0, 60, []),
  (60, 20, 11, 64, 0, 0, 63, []),
  (63, 2, 0, 0, 0, 0, 64, []),
  (64, 20, 11, 62, 0, 0, 67, []),
  (67, 1, 2, 0, 0, 0, 68, []),
  (68, 26, 0, 0, 0, 0, 69, []),
  (69, 2, 0, 0, 0, 0, 70, []),
  (70, 20, 11, 65, 0, 0, 73, []),
  (73, 2, 0, 0, 0, 0, 74, []),
  (74, 20, 11, 62, 0, 0, 77, []),
  (77, 1, 3, 0, 0, 0, 78, []),
  (78, 26, 0, 0, 0, 0, 79, []),
  (79, 2, 0, 0, 0, 0, 80, []),
  (80, 20, 11, 66, 0, 0, 83, []),
  (83, 2, 0, 0, 0, 0, 84, []),
  (84, 20, 11, 62, 0, 0, 87, []),
  (87, 1, 4, 0, 0, 0, 89, []),
  (89, 26, 0, 0, 0, 0, 90, []),
  (90, 2, 0, 0, 0, 0, 91, []),
  (91, 7, 0, 0, 0, 0, 92, []),
  (92, 20, 11, 62, 0, 0, 95, []),
  (95, 0, 0, 0, 0, 1, 96, []),
  (96, 10, 0, 0, 0, 0, 97, []),
  (97, 21, 11, 62, 0, 0, 100, []),
  (100, 2, 0, 0, 0, 0, 101, []),
  (101, 20, 11, 67, 0, 0, 104, []),
  (104, 1, 1, 0, 0, 0, 105, []),
  (105, 8, 0, 0, 0, 0, 106, []),
  (106, 25, 0, 0, 0, 0, 107, []),
  (107, 0, 0, 0, 0, 1, 108, []),
  (108, 10, 0, 0, 0, 0, 109, []),
  (109, 26, 0, 0, 0, 0, 110, []),
  (110, 1, 5, 0, 0, 0, 112, []),
  (112, 33, 0, 0, 0, 0, 113, [])]
/-- 208: ChunkCodeModel.right(I)I -/
def am_i208 : List (Nat × am_I) := [(0, 1, 0, 0, 0, 0, 1, []),
  (1, 0, 0, 0, 0, 71, 3, []),
  (3, 13, 1, 11, 0, 0, 6, []),
  (6, 0, 0, 0, 0, 8, 8, []),
  (8, 18, 0, 26, 0, 0, 11, []),
  (11, 1, 0, 0, 0, 0, 12, []),
  (12, 0, 0, 0, 0, 45, 14, []),
  (14, 13, 1, 22, 0, 0, 17, []),
  (17, 0, 0, 0, 0, 13, 19, []),
  (19, 18, 0, 26, 0, 0, 22, []),
  (22, 1, 0, 0, 0, 0, 23, []),
  (23, 32, 203, 1, 0, 0, 26, []),
  (26, 33, 0, 0, 0, 0, 27, [])]
/-- 209: ChunkCodeModel.loadAway()V -/
def am_i209 : List (Nat × am_I) := [(0, 2, 0, 0, 0, 0, 1, []),
  (1, 32, 204, 1, 13, 0, 4, []),
  (4, 2, 0, 0, 0, 0, 5, []),
  (5, 7, 0, 0, 0, 0, 6, []),
  (6, 20, 11, 15, 0, 0, 9, []),
  (9, 0, 0, 0, 0, 1, 10, []),
  (10, 10, 1, 0, 0, 0, 11, []),
  (11, 21, 11, 15, 0, 0, 14, []),
  (14, 35, 0, 0, 0, 0, 15, [])]
/-- 210: ChunkCodeModel.here()I -/
def am_i210 : List (Nat × am_I) := [(0, 2, 0, 0, 0, 0, 1, []),
  (1, 20, 11, 60, 0, 0, 4, []),
  (4, 2, 0, 0, 0, 0, 5, []),
  (5, 20, 11, 33, 0, 0, 8, []),
  (8, 2, 0, 0, 0, 0, 9, []),
  (9, 20, 11, 32, 0, 0, 12, []),
  (12, 25, 0, 0, 0, 0, 13, []),
  (13, 25, 0, 0, 0, 0, 14, []),
  (14, 33, 0, 0, 0, 0, 15, [])]
/-- 211: ChunkCodeModel.suffix()V -/
def am_i211 : List (Nat × am_I) := [(0, 2, 0, 0, 0, 0, 1, []),
  (1, 32, 183, 1, 13, 0, 4, []),
  (4, 3, 1, 0, 0, 0, 5, []),
  (5, 2, 0, 0, 0, 0, 6, []),
  (6, 20, 11, 4, 0, 0, 9, []),
  (9, 3, 2, 0, 0, 0, 10, []),
  (10, 1, 1, 0, 0, 0, 11, []),
  (11, 0, 0, 0, 0, 70, 13, []),
  (13, 13, 1, 75, 0, 0, 16, []),
  (16, 2, 0, 0, 0, 0, 17, []),
  (17, 32, 204, 1, 13, 0, 20, []),
  (20, 2, 0, 0, 0, 0, 21, []),
  (21, 7, 0, 0, 0, 0, 22, []),
  (22, 20, 11, 4, 0, 0, 25, []),
  (25, 0, 0, 0, 0, 1, 26, []),
  (26, 10, 0, 0, 0, 0, 27, []),
  (27, 21, 11, 4, 0, 0, 30, []),
  (30, 2, 0, 0, 0, 0, 31, []),
  (31, 0, 0, 0, 0, 1, 32, []),
  (32, 32, 200, 2, 13, 0, 35, []),
  (35, 12, 1, 39, 0, 0, 38, []),
  (38, 35, 0, 0, 0, 0, 39, []),
  (39, 2, 0, 0, 0, 0, 40, []),
  (40, 7, 0, 0, 0, 0, 41, []),
  (41, 20, 11, 15, 0, 0, 44, []),
  (44, 0, 0, 0, 0, 1, 45, []),
  (45, 10, 1, 0, 0, 0, 46, []),
  (46, 21, 11, 15, 0, 0, 49, []),
  (49, 2, 0, 0, 0, 0, 50, []),
  (50, 0, 0, 0, 0, 5, 51, []),
  (51, 2, 0, 0, 0, 0, 52, []),
  (52, 20, 11, 2, 0, 0, 55, []),
  (55, 1, 2, 0, 0, 0, 56, []),
  (56, 0, 0, 0, 0, 1, 57, []),
  (57, 10, 0, 0, 0, 0, 58, []),
  (58, 25, 0, 0, 0, 0, 59, []),
  (59, 1, 2, 0, 0, 0, 60, []),
  (60, 32, 190, 4, 13, 0, 63, []),
  (63, 2, 0, 0, 0, 0, 64, []),
  (64, 0, 0, 0, 0, 28, 66, []),
  (66, 0, 0, 0, 0, 0, 67, []),
  (67, 0, 0, 0, 0, 0, 68, []),
  (68, 0, 0, 0, 0, 0, 69, []),
  (69, 32, 179, 5, 13, 0, 72, []),
  (72, 18, 0, 249, 0, 0, 75, []),
  (75, 1, 1, 0, 0, 0, 76, []),
  (76, 0, 0, 0, 0, 64, 78, []),
  (78, 13, 1, 121, 0, 0, 81, []),
  (81, 2, 0, 0, 0, 0, 82, []),
  (82, 32, 204, 1, 13, 0, 85, []),
  (85, 2, 0, 0, 0, 0, 86, []),
  (86, 0, 0, 0, 0, 64, 88, []),
  (88, 32, 193, 2, 13, 0, 91, []),
  (91, 12, 1, 95, 0, 0, 94, []),
  (94, 35, 0, 0, 0, 0, 95, []),
  (95, 2, 0, 0, 0, 0, 96, []),
  (96, 0, 0, 0, 0, 28, 98, []),
  (98, 0, 0, 0, 0, 0, 99, []),
  (99, 0, 0, 0, 0, 0, 100, []),
  (100, 0, 0, 0, 0, 0, 101, []),
  (101, 32, 179, 5, 13, 0, 104, []),
  (104, 2, 0, 0, 0, 0, 105, []),
  (105, 0, 0, 0, 0, 30, 107, []),
  (107, 1, 2, 0, 0, 0, 108, []),
  (108, 0, 0, 0, 0, 0, 109, []),
  (109, 0, 0, 0, 0, 0, 110, []),
  (110, 32, 179, 5, 13, 0, 113, []),
  (113, 2, 0, 0, 0, 0, 114, []),
  (114, 0, 0, 0, 0, 0, 115, []),
  (115, 32, 186, 2, 13, 0, 118, []),
  (118, 18, 0, 249, 0, 0, 121, []),
  (121, 1, 1, 0, 0, 0, 122, []),
  (122, 0, 0, 0, 0, 68, 124, []),
  (124, 13, 1, 214, 0, 0, 127, []),
  (127, 2, 0, 0, 0, 0, 128, []),
  (128, 32, 204, 1, 13, 0, 131, []),
  (131, 2, 0, 0, 0, 0, 132, []),
  (132, 7, 0, 0, 0, 0, 133, []),
  (133, 20, 11, 4, 0, 0, 136, []),
  (136, 0, 0, 0, 0, 1, 137, []),
  (137, 10, 0, 0, 0, 0, 138, []),
  (138, 21, 11, 4, 0, 0, 141, []),
  (141, 2, 0, 0, 0, 0, 142, []),
  (142, 0, 0, 0, 0, 1, 143, []),
  (143, 32, 200, 2, 13, 0, 146, []),
  (146, 12, 1, 150, 0, 0, 149, []),
  (149, 35, 0, 0, 0, 0, 150, []),
  (150, 2, 0, 0, 0, 0, 151, []),
  (151, 0, 0, 0, 0, 14, 153, []),
  (153, 2, 0, 0, 0, 0, 154, []),
  (154, 20, 11, 2, 0, 0, 157, []),
  (157, 1, 2, 0, 0, 0, 158, []),
  (158, 0, 0, 0, 0, 1, 159, []),
  (159, 10, 0, 0, 0, 0, 160, []),
  (160, 25, 0, 0, 0, 0, 161, []),
  (161, 0, 0, 0, 0, 0, 162, []),
  (162, 1, 2, 0, 0, 0, 163, []),
  (163, 32, 189, 5, 13, 0, 166, []),
  (166, 6, 0, 0, 0, 0, 167, []),
  (167, 2, 0, 0, 0, 0, 168, []),
  (168, 32, 183, 1, 13, 0, 171, []),
  (171, 3, 3, 0, 0, 0, 172, []),
  (172, 1, 3, 0, 0, 0, 173, []),
  (173, 0, 0, 0, 0, 60, 175, []),
  (175, 13, 0, 197, 0, 0, 178, []),
  (178, 1, 3, 0, 0, 0, 179, []),
  (179, 0, 0, 0, 0, 3, 180, []),
  (180, 13, 0, 197, 0, 0, 183, []),
  (183, 1, 3, 0, 0, 0, 184, []),
  (184, 0, 0, 0, 0, 62, 186, []),
  (186, 13, 0, 197, 0, 0, 189, []),
  (189, 2, 0, 0, 0, 0, 190, []),
  (190, 0, 0, 0, 0, 7, 192, []),
  (192, 32, 194, 2, 13, 0, 195, []),
  (195, 6, 0, 0, 0, 0, 196, []),
  (196, 35, 0, 0, 0, 0, 197, []),
  (197, 2, 0, 0, 0, 0, 198, []),
  (198, 0, 0, 0, 0, 28, 200, []),
  (200, 0, 0, 0, 0, 0, 201, []),
  (201, 0, 0, 0, 0, 0, 202, []),
  (202, 0, 0, 0, 0, 0, 203, []),
  (203, 32, 179, 5, 13, 0, 206, []),
  (206, 2, 0, 0, 0, 0, 207, []),
  (207, 0, 0, 0, 0, 1, 208, []),
  (208, 32, 212, 2, 13, 0, 211, []),
  (211, 18, 0, 249, 0, 0, 214, []),
  (214, 1, 1, 0, 0, 0, 215, []),
  (215, 0, 0, 0, 0, 60, 217, []),
  (217, 13, 0, 231, 0, 0, 220, []),
  (220, 1, 1, 0, 0, 0, 221, []),
  (221, 0, 0, 0, 0, 3, 222, []),
  (222, 13, 0, 231, 0, 0, 225, []),
  (225, 1, 1, 0, 0, 0, 226, []),
  (226, 0, 0, 0, 0, 62, 228, []),
  (228, 13, 1, 249, 0, 0, 231, []),
  (231, 2, 0, 0, 0, 0, 232, []),
  (232, 32, 204, 1, 13, 0, 235, []),
  (235, 2, 0, 0, 0, 0, 236, []),
  (236, 0, 0, 0, 0, 28, 238, []),
  (238, 0, 0, 0, 0, 0, 239, []),
  (239, 0, 0, 0, 0, 0, 240, []),
  (240, 0, 0, 0, 0, 0, 241, []),
  (241, 32, 179, 5, 13, 0, 244, []),
  (244, 2, 0, 0, 0, 0, 245, []),
  (245, 0, 0, 0, 0, 0, 246, []),
  (246, 32, 212, 2, 13, 0, 249, []),
  (249, 35, 0, 0, 0, 0, 250, [])]
/-- 212: ChunkCodeModel.args(I)V -/
def am_i212 : List (Nat × am_I) := [(0, 2, 0, 0, 0, 0, 1, []),
  (1, 20, 11, 4, 0, 0, 4, []),
  (4, 3, 2, 0, 0, 0, 5, []),
  (5, 2, 0, 0, 0, 0, 6, []),
  (6, 32, 183, 1, 13, 0, 9, []),
  (9, 0, 0, 0, 0, 3, 10, []),
  (10, 13, 1, 52, 0, 0, 13, []),
  (13, 2, 0, 0, 0, 0, 14, []),
  (14, 0, 0, 0, 0, 5, 15, []),
  (15, 2, 0, 0, 0, 0, 16, []),
  (16, 20, 11, 2, 0, 0, 19, []),
  (19, 2, 0, 0, 0, 0, 20, []),
  (20, 20, 11, 4, 0, 0, 23, []),
  (23, 25, 0, 0, 0, 0, 24, []),
  (24, 0, 0, 0, 0, 0, 25, []),
  (25, 0, 0, 0, 0, 0, 26, []),
  (26, 32, 189, 5, 13, 0, 29, []),
  (29, 6, 0, 0, 0, 0, 30, []),
  (30, 2, 0, 0, 0, 0, 31, []),
  (31, 7, 0, 0, 0, 0, 32, []),
  (32, 20, 11, 4, 0, 0, 35, []),
  (35, 0, 0, 0, 0, 1, 36, []),
  (36, 10, 0, 0, 0, 0, 37, []),
  (37, 21, 11, 4, 0, 0, 40, []),
  (40, 2, 0, 0, 0, 0, 41, []),
  (41, 0, 0, 0, 0, 1, 42, []),
  (42, 1, 1, 0, 0, 0, 43, []),
  (43, 10, 0, 0, 0, 0, 44, []),
  (44, 0, 0, 0, 0, 0, 45, []),
  (45, 1, 2, 0, 0, 0, 46, []),
  (46, 32, 213, 4, 13, 0, 49, []),
  (49, 18, 0, 125, 0, 0, 52, []),
  (52, 2, 0, 0, 0, 0, 53, []),
  (53, 32, 183, 1, 13, 0, 56, []),
  (56, 0, 0, 0, 0, 62, 58, []),
  (58, 13, 1, 77, 0, 0, 61, []),
  (61, 2, 0, 0, 0, 0, 62, []),
  (62, 0, 0, 0, 0, 33, 64, []),
  (64, 1, 1, 0, 0, 0, 65, []),
  (65, 1, 2, 0, 0, 0, 66, []),
  (66, 0, 0, 0, 0, 0, 67, []),
  (67, 32, 179, 5, 13, 0, 70, []),
  (70, 2, 0, 0, 0, 0, 71, []),
  (71, 32, 192, 1, 13, 0, 74, []),
  (74, 18, 0, 125, 0, 0, 77, []),
  (77, 2, 0, 0, 0, 0, 78, []),
  (78, 0, 0, 0, 0, 60, 80, []),
  (80, 32, 193, 2, 13, 0, 83, []),
  (83, 12, 0, 125, 0, 0, 86, []),
  (86, 2, 0, 0, 0, 0, 87, []),
  (87, 32, 183, 1, 13, 0, 90, []),
  (90, 0, 0, 0, 0, 61, 92, []),
  (92, 13, 1, 112, 0, 0, 95, []),
  (95, 2, 0, 0, 0, 0, 96, []),
  (96, 0, 0, 0, 0, 61, 98, []),
  (98, 32, 199, 2, 13, 0, 101, []),
  (101, 6, 0, 0, 0, 0, 102, []),
  (102, 2, 0, 0, 0, 0, 103, []),
  (103, 1, 1, 0, 0, 0, 104, []),
  (104, 0, 0, 0, 0, 0, 105, []),
  (105, 1, 2, 0, 0, 0, 106, []),
  (106, 32, 213, 4, 13, 0, 109, []),
  (109, 18, 0, 125, 0, 0, 112, []),
  (112, 2, 0, 0, 0, 0, 113, []),
  (113, 0, 0, 0, 0, 32, 115, []),
  (115, 1, 1, 0, 0, 0, 116, []),
  (116, 1, 2, 0, 0, 0, 117, []),
  (117, 0, 0, 0, 0, 0, 118, []),
  (118, 32, 179, 5, 13, 0, 121, []),
  (121, 2, 0, 0, 0, 0, 122, []),
  (122, 32, 214, 1, 13, 0, 125, []),
  (125, 35, 0, 0, 0, 0, 126, [])]
/-- 213: ChunkCodeModel.call(III)V -/
def am_i213 : List (Nat × am_I) := [(0, 2, 0, 0, 0, 0, 1, []),
  (1, 0, 0, 0, 0, 13, 3, []),
  (3, 1, 1, 0, 0, 0, 4, []),
  (4, 1, 2, 0, 0, 0, 5, []),
  (5, 0, 0, 0, 0, 2, 6, []),
  (6, 10, 4, 0, 0, 0, 7, []),
  (7, 1, 3, 0, 0, 0, 8, []),
  (8, 32, 189, 5, 13, 0, 11, []),
  (11, 3, 4, 0, 0, 0, 13, []),
  (13, 2, 0, 0, 0, 0, 14, []),
  (14, 7, 0, 0, 0, 0, 15, []),
  (15, 20, 11, 15, 0, 0, 18, []),
  (18, 0, 0, 0, 0, 1, 19, []),
  (19, 10, 1, 0, 0, 0, 20, []),
  (20, 21, 11, 15, 0, 0, 23, []),
  (23, 2, 0, 0, 0, 0, 24, []),
  (24, 0, 0, 0, 0, 1, 25, []),
  (25, 1, 4, 0, 0, 0, 27, []),
  (27, 1, 3, 0, 0, 0, 28, []),
  (28, 32, 190, 4, 13, 0, 31, []),
  (31, 35, 0, 0, 0, 0, 32, [])]
/-- 214: ChunkCodeModel.expectList()V -/
def am_i214 : List (Nat × am_I) := [(0, 2, 0, 0, 0, 0, 1, []),
  (1, 0, 0, 0, 0, 34, 3, []),
  (3, 0, 0, 0, 0, 1, 4, []),
  (4, 0, 0, 0, 0, 0, 5, []),
  (5, 0, 0, 0, 0, 0, 6, []),
  (6, 32, 179, 5, 13, 0, 9, []),
  (9, 2, 0, 0, 0, 0, 10, []),
  (10, 0, 0, 0, 0, 0, 11, []),
  (11, 32, 186, 2, 13, 0, 14, []),
  (14, 35, 0, 0, 0, 0, 15, [])]
/-- 215: ChunkCodeModel.argsEnd(II)V -/
def am_i215 : List (Nat × am_I) := [(0, 2, 0, 0, 0, 0, 1, []),
  (1, 20, 11, 19, 0, 0, 4, []),
  (4, 3, 3, 0, 0, 0, 5, []),
  (5, 2, 0, 0, 0, 0, 6, []),
  (6, 0, 0, 0, 0, 61, 8, []),
  (8, 32, 199, 2, 13, 0, 11, []),
  (11, 12, 1, 15, 0, 0, 14, []),
  (14, 35, 0, 0, 0, 0, 15, []),
  (15, 2, 0, 0, 0, 0, 16, []),
  (16, 32, 216, 1, 13, 0, 19, []),
  (19, 3, 4, 0, 0, 0, 21, []),
  (21, 1, 4, 0, 0, 0, 23, []),
  (23, 12, 0, 33, 0, 0, 26, []),
  (26, 2, 0, 0, 0, 0, 27, []),
  (27, 32, 217, 1, 13, 0, 30, []),
  (30, 18, 0, 37, 0, 0, 33, []),
  (33, 2, 0, 0, 0, 0, 34, []),
  (34, 32, 209, 1, 13, 0, 37, []),
  (37, 2, 0, 0, 0, 0, 38, []),
  (38, 1, 4, 0, 0, 0, 40, []),
  (40, 12, 0, 51, 0, 0, 43, []),
  (43, 1, 3, 0, 0, 0, 44, []),
  (44, 0, 0, 0, 0, 1, 45, []),
  (45, 10, 1, 0, 0, 0, 46, []),
  (46, 1, 1, 0, 0, 0, 47, []),
  (47, 10, 0, 0, 0, 0, 48, []),
  (48, 18, 0, 54, 0, 0, 51, []),
  (51, 1, 3, 0, 0, 0, 52, []),
  (52, 1, 1, 0, 0, 0, 53, []),
  (53, 10, 0, 0, 0, 0, 54, []),
  (54, 1, 4, 0, 0, 0, 56, []),
  (56, 12, 0, 63, 0, 0, 59, []),
  (59, 0, 0, 0, 0, 1, 60, []),
  (60, 18, 0, 64, 0, 0, 63, []),
  (63, 0, 0, 0, 0, 0, 64, []),
  (64, 1, 2, 0, 0, 0, 65, []),
  (65, 32, 213, 4, 13, 0, 68, []),
  (68, 35, 0, 0, 0, 0, 69, [])]
/-- 216: ChunkCodeModel.isOpen()Z -/
def am_i216 : List (Nat × am_I) := [(0, 2, 0, 0, 0, 0, 1, []),
  (1, 20, 11, 16, 0, 0, 4, []),
  (4, 2, 0, 0, 0, 0, 5, []),
  (5, 20, 11, 15, 0, 0, 8, []),
  (8, 0, 0, 0, 0, 1, 9, []),
  (9, 10, 1, 0, 0, 0, 10, []),
  (10, 25, 0, 0, 0, 0, 11, []),
  (11, 0, 0, 0, 0, 1, 12, []),
  (12, 13, 0, 30, 0, 0, 15, []),
  (15, 2, 0, 0, 0, 0, 16, []),
  (16, 20, 11, 16, 0, 0, 19, []),
  (19, 2, 0, 0, 0, 0, 20, []),
  (20, 20, 11, 15, 0, 0, 23, []),
  (23, 0, 0, 0, 0, 1, 24, []),
  (24, 10, 1, 0, 0, 0, 25, []),
  (25, 25, 0, 0, 0, 0, 26, []),
  (26, 0, 0, 0, 0, 2, 27, []),
  (27, 13, 1, 34, 0, 0, 30, []),
  (30, 0, 0, 0, 0, 1, 31, []),
  (31, 18, 0, 35, 0, 0, 34, []),
  (34, 0, 0, 0, 0, 0, 35, []),
  (35, 36, 0, 0, 0, 0, 36, [])]
/-- 217: ChunkCodeModel.openAway()V -/
def am_i217 : List (Nat × am_I) := [(0, 2, 0, 0, 0, 0, 1, []),
  (1, 20, 11, 17, 0, 0, 4, []),
  (4, 2, 0, 0, 0, 0, 5, []),
  (5, 20, 11, 15, 0, 0, 8, []),
  (8, 0, 0, 0, 0, 1, 9, []),
  (9, 10, 1, 0, 0, 0, 10, []),
  (10, 25, 0, 0, 0, 0, 11, []),
  (11, 3, 1, 0, 0, 0, 12, []),
  (12, 2, 0, 0, 0, 0, 13, []),
  (13, 20, 11, 72, 0, 0, 16, []),
  (16, 1, 1, 0, 0, 0, 17, []),
  (17, 2, 0, 0, 0, 0, 18, []),
  (18, 20, 11, 16, 0, 0, 21, []),
  (21, 2, 0, 0, 0, 0, 22, []),
  (22, 20, 11, 15, 0, 0, 25, []),
  (25, 0, 0, 0, 0, 1, 26, []),
  (26, 10, 1, 0, 0, 0, 27, []),
  (27, 25, 0, 0, 0, 0, 28, []),
  (28, 0, 0, 0, 0, 1, 29, []),
  (29, 13, 1, 45, 0, 0, 32, []),
  (32, 2, 0, 0, 0, 0, 33, []),
  (33, 20, 11, 72, 0, 0, 36, []),
  (36, 1, 1, 0, 0, 0, 37, []),
  (37, 25, 0, 0, 0, 0, 38, []),
  (38, 0, 0, 0, 0, 1, 39, []),
  (39, 10, 3, 0, 0, 0, 40, []),
  (40, 0, 0, 0, 0, 4, 41, []),
  (41, 10, 4, 0, 0, 0, 42, []),
  (42, 18, 0, 46, 0, 0, 45, []),
  (45, 0, 0, 0, 0, 0, 46, []),
  (46, 26, 0, 0, 0, 0, 47, []),
  (47, 2, 0, 0, 0, 0, 48, []),
  (48, 7, 0, 0, 0, 0, 49, []),
  (49, 20, 11, 15, 0, 0, 52, []),
  (52, 0, 0, 0, 0, 1, 53, []),
  (53, 10, 1, 0, 0, 0, 54, []),
  (54, 21, 11, 15, 0, 0, 57, []),
  (57, 35, 0, 0, 0, 0, 58, [])]
/-- 218: ChunkCodeModel.listEnd(I)V -/
def am_i218 : List (Nat × am_I) := [(0, 2, 0, 0, 0, 0, 1, []),
  (1, 32, 183, 1, 13, 0, 4, []),
  (4, 0, 0, 0, 0, 69, 6, []),
  (6, 13, 1, 42, 0, 0, 9, []),
  (9, 2, 0, 0, 0, 0, 10, []),
  (10, 32, 209, 1, 13, 0, 13, []),
  (13, 2, 0, 0, 0, 0, 14, []),
  (14, 7, 0, 0, 0, 0, 15, []),
  (15, 20, 11, 4, 0, 0, 18, []),
  (18, 0, 0, 0, 0, 1, 19, []),
  (19, 10, 0, 0, 0, 0, 20, []),
  (20, 21, 11, 4, 0, 0, 23, []),
  (23, 2, 0, 0, 0, 0, 24, []),
  (24, 0, 0, 0, 0, 34, 26, []),
  (26, 1, 1, 0, 0, 0, 27, []),
  (27, 0, 0, 0, 0, 1, 28, []),
  (28, 10, 0, 0, 0, 0, 29, []),
  (29, 0, 0, 0, 0, 0, 30, []),
  (30, 0, 0, 0, 0, 0, 31, []),
  (31, 32, 179, 5, 13, 0, 34, []),
  (34, 2, 0, 0, 0, 0, 35, []),
  (35, 0, 0, 0, 0, 0, 36, []),
  (36, 32, 186, 2, 13, 0, 39, []),
  (39, 18, 0, 47, 0, 0, 42, []),
  (42, 2, 0, 0, 0, 0, 43, []),
  (43, 1, 1, 0, 0, 0, 44, []),
  (44, 21, 11, 19, 0, 0, 47, []),
  (47, 35, 0, 0, 0, 0, 48, [])]
/-- 219: ChunkCodeModel.item(I)V -/
def am_i219 : List (Nat × am_I) := [(0, 2, 0, 0, 0, 0, 1, []),
  (1, 32, 183, 1, 13, 0, 4, []),
  (4, 3, 2, 0, 0, 0, 5, []),
  (5, 2, 0, 0, 0, 0, 6, []),
  (6, 20, 11, 4, 0, 0, 9, []),
  (9, 3, 3, 0, 0, 0, 10, []),
  (10, 1, 2, 0, 0, 0, 11, []),
  (11, 0, 0, 0, 0, 63, 13, []),
  (13, 13, 1, 26, 0, 0, 16, []),
  (16, 2, 0, 0, 0, 0, 17, []),
  (17, 0, 0, 0, 0, 63, 19, []),
  (19, 32, 199, 2, 13, 0, 22, []),
  (22, 6, 0, 0, 0, 0, 23, []),
  (23, 18, 0, 122, 0, 0, 26, []),
  (26, 1, 2, 0, 0, 0, 27, []),
  (27, 0, 0, 0, 0, 64, 29, []),
  (29, 13, 1, 59, 0, 0, 32, []),
  (32, 2, 0, 0, 0, 0, 33, []),
  (33, 0, 0, 0, 0, 64, 35, []),
  (35, 32, 193, 2, 13, 0, 38, []),
  (38, 12, 1, 42, 0, 0, 41, []),
  (41, 35, 0, 0, 0, 0, 42, []),
  (42, 2, 0, 0, 0, 0, 43, []),
  (43, 0, 0, 0, 0, 36, 45, []),
  (45, 1, 1, 0, 0, 0, 46, []),
  (46, 1, 3, 0, 0, 0, 47, []),
  (47, 0, 0, 0, 0, 0, 48, []),
  (48, 32, 179, 5, 13, 0, 51, []),
  (51, 2, 0, 0, 0, 0, 52, []),
  (52, 0, 0, 0, 0, 0, 53, []),
  (53, 32, 186, 2, 13, 0, 56, []),
  (56, 18, 0, 122, 0, 0, 59, []),
  (59, 1, 2, 0, 0, 0, 60, []),
  (60, 0, 0, 0, 0, 1, 61, []),
  (61, 13, 1, 106, 0, 0, 64, []),
  (64, 2, 0, 0, 0, 0, 65, []),
  (65, 2, 0, 0, 0, 0, 66, []),
  (66, 20, 11, 4, 0, 0, 69, []),
  (69, 0, 0, 0, 0, 1, 70, []),
  (70, 10, 0, 0, 0, 0, 71, []),
  (71, 32, 184, 2, 13, 0, 74, []),
  (74, 0, 0, 0, 0, 59, 76, []),
  (76, 13, 1, 106, 0, 0, 79, []),
  (79, 2, 0, 0, 0, 0, 80, []),
  (80, 7, 0, 0, 0, 0, 81, []),
  (81, 20, 11, 4, 0, 0, 84, []),
  (84, 0, 0, 0, 0, 2, 85, []),
  (85, 10, 0, 0, 0, 0, 86, []),
  (86, 21, 11, 4, 0, 0, 89, []),
  (89, 2, 0, 0, 0, 0, 90, []),
  (90, 0, 0, 0, 0, 38, 92, []),
  (92, 1, 1, 0, 0, 0, 93, []),
  (93, 1, 3, 0, 0, 0, 94, []),
  (94, 0, 0, 0, 0, 0, 95, []),
  (95, 32, 179, 5, 13, 0, 98, []),
  (98, 2, 0, 0, 0, 0, 99, []),
  (99, 0, 0, 0, 0, 0, 100, []),
  (100, 32, 186, 2, 13, 0, 103, []),
  (103, 18, 0, 122, 0, 0, 106, []),
  (106, 2, 0, 0, 0, 0, 107, []),
  (107, 0, 0, 0, 0, 39, 109, []),
  (109, 1, 1, 0, 0, 0, 110, []),
  (110, 0, 0, 0, 0, 1, 111, []),
  (111, 10, 0, 0, 0, 0, 112, []),
  (112, 1, 3, 0, 0, 0, 113, []),
  (113, 0, 0, 0, 0, 0, 114, []),
  (114, 32, 179, 5, 13, 0, 117, []),
  (117, 2, 0, 0, 0, 0, 118, []),
  (118, 0, 0, 0, 0, 0, 119, []),
  (119, 32, 186, 2, 13, 0, 122, []),
  (122, 35, 0, 0, 0, 0, 123, [])]
/-- 220: ChunkCodeModel.separator(I)V -/
def am_i220 : List (Nat × am_I) := [(0, 2, 0, 0, 0, 0, 1, []),
  (1, 32, 183, 1, 13, 0, 4, []),
  (4, 0, 0, 0, 0, 69, 6, []),
  (6, 13, 0, 18, 0, 0, 9, []),
  (9, 2, 0, 0, 0, 0, 10, []),
  (10, 32, 183, 1, 13, 0, 13, []),
  (13, 0, 0, 0, 0, 67, 15, []),
  (15, 13, 1, 40, 0, 0, 18, []),
  (18, 2, 0, 0, 0, 0, 19, []),
  (19, 7, 0, 0, 0, 0, 20, []),
  (20, 20, 11, 4, 0, 0, 23, []),
  (23, 0, 0, 0, 0, 1, 24, []),
  (24, 10, 0, 0, 0, 0, 25, []),
  (25, 21, 11, 4, 0, 0, 28, []),
  (28, 2, 0, 0, 0, 0, 29, []),
  (29, 0, 0, 0, 0, 35, 31, []),
  (31, 1, 1, 0, 0, 0, 32, []),
  (32, 0, 0, 0, 0, 0, 33, []),
  (33, 0, 0, 0, 0, 0, 34, []),
  (34, 32, 179, 5, 13, 0, 37, []),
  (37, 18, 0, 47, 0, 0, 40, []),
  (40, 2, 0, 0, 0, 0, 41, []),
  (41, 0, 0, 0, 0, 63, 43, []),
  (43, 32, 199, 2, 13, 0, 46, []),
  (46, 6, 0, 0, 0, 0, 47, []),
  (47, 35, 0, 0, 0, 0, 48, [])]
/-- 221: ChunkCodeModel.placed(II)V -/
def am_i221 : List (Nat × am_I) := [(0, 2, 0, 0, 0, 0, 1, []),
  (1, 32, 183, 1, 13, 0, 4, []),
  (4, 0, 0, 0, 0, 63, 6, []),
  (6, 13, 0, 42, 0, 0, 9, []),
  (9, 2, 0, 0, 0, 0, 10, []),
  (10, 32, 183, 1, 13, 0, 13, []),
  (13, 0, 0, 0, 0, 69, 15, []),
  (15, 13, 0, 27, 0, 0, 18, []),
  (18, 2, 0, 0, 0, 0, 19, []),
  (19, 32, 183, 1, 13, 0, 22, []),
  (22, 0, 0, 0, 0, 67, 24, []),
  (24, 13, 1, 46, 0, 0, 27, []),
  (27, 2, 0, 0, 0, 0, 28, []),
  (28, 2, 0, 0, 0, 0, 29, []),
  (29, 20, 11, 4, 0, 0, 32, []),
  (32, 0, 0, 0, 0, 1, 33, []),
  (33, 10, 0, 0, 0, 0, 34, []),
  (34, 32, 184, 2, 13, 0, 37, []),
  (37, 0, 0, 0, 0, 63, 39, []),
  (39, 13, 1, 46, 0, 0, 42, []),
  (42, 0, 0, 0, 0, 1, 43, []),
  (43, 18, 0, 47, 0, 0, 46, []),
  (46, 0, 0, 0, 0, 0, 47, []),
  (47, 3, 3, 0, 0, 0, 48, []),
  (48, 1, 3, 0, 0, 0, 49, []),
  (49, 12, 0, 76, 0, 0, 52, []),
  (52, 2, 0, 0, 0, 0, 53, []),
  (53, 32, 216, 1, 13, 0, 56, []),
  (56, 12, 0, 76, 0, 0, 59, []),
  (59, 2, 0, 0, 0, 0, 60, []),
  (60, 32, 217, 1, 13, 0, 63, []),
  (63, 2, 0, 0, 0, 0, 64, []),
  (64, 0, 0, 0, 0, 24, 66, []),
  (66, 1, 1, 0, 0, 0, 67, []),
  (67, 0, 0, 0, 0, 0, 68, []),
  (68, 1, 2, 0, 0, 0, 69, []),
  (69, 32, 189, 5, 13, 0, 72, []),
  (72, 6, 0, 0, 0, 0, 73, []),
  (73, 18, 0, 90, 0, 0, 76, []),
  (76, 2, 0, 0, 0, 0, 77, []),
  (77, 32, 209, 1, 13, 0, 80, []),
  (80, 2, 0, 0, 0, 0, 81, []),
  (81, 0, 0, 0, 0, 23, 83, []),
  (83, 1, 1, 0, 0, 0, 84, []),
  (84, 0, 0, 0, 0, 0, 85, []),
  (85, 1, 2, 0, 0, 0, 86, []),
  (86, 32, 189, 5, 13, 0, 89, []),
  (89, 6, 0, 0, 0, 0, 90, []),
  (90, 2, 0, 0, 0, 0, 91, []),
  (91, 1, 1, 0, 0, 0, 92, []),
  (92, 32, 220, 2, 13, 0, 95, []),
  (95, 35, 0, 0, 0, 0, 96, [])]
/-- 222: ChunkCodeModel.bodyEnd(I)V -/
def am_i222 : List (Nat × am_I) := [(0, 2, 0, 0, 0, 0, 1, []),
  (1, 20, 11, 4, 0, 0, 4, []),
  (4, 3, 2, 0, 0, 0, 5, []),
  (5, 2, 0, 0, 0, 0, 6, []),
  (6, 0, 0, 0, 0, 15, 8, []),
  (8, 32, 199, 2, 13, 0, 11, []),
  (11, 12, 1, 15, 0, 0, 14, []),
  (14, 35, 0, 0, 0, 0, 15, []),
  (15, 2, 0, 0, 0, 0, 16, []),
  (16, 20, 11, 33, 0, 0, 19, []),
  (19, 2, 0, 0, 0, 0, 20, []),
  (20, 20, 11, 32, 0, 0, 23, []),
  (23, 25, 0, 0, 0, 0, 24, []),
  (24, 3, 3, 0, 0, 0, 25, []),
  (25, 2, 0, 0, 0, 0, 26, []),
  (26, 0, 0, 0, 0, 45, 28, []),
  (28, 0, 0, 0, 0, 0, 29, []),
  (29, 0, 0, 0, 0, 0, 30, []),
  (30, 1, 2, 0, 0, 0, 31, []),
  (31, 32, 189, 5, 13, 0, 34, []),
  (34, 6, 0, 0, 0, 0, 35, []),
  (35, 2, 0, 0, 0, 0, 36, []),
  (36, 20, 11, 57, 0, 0, 39, []),
  (39, 1, 3, 0, 0, 0, 40, []),
  (40, 1, 2, 0, 0, 0, 41, []),
  (41, 1, 1, 0, 0, 0, 42, []),
  (42, 10, 1, 0, 0, 0, 43, []),
  (43, 0, 0, 0, 0, 1, 44, []),
  (44, 10, 0, 0, 0, 0, 45, []),
  (45, 26, 0, 0, 0, 0, 46, []),
  (46, 2, 0, 0, 0, 0, 47, []),
  (47, 32, 223, 1, 13, 0, 50, []),
  (50, 2, 0, 0, 0, 0, 51, []),
  (51, 32, 224, 1, 13, 0, 54, []),
  (54, 2, 0, 0, 0, 0, 55, []),
  (55, 7, 0, 0, 0, 0, 56, []),
  (56, 20, 11, 32, 0, 0, 59, []),
  (59, 0, 0, 0, 0, 1, 60, []),
  (60, 10, 1, 0, 0, 0, 61, []),
  (61, 21, 11, 32, 0, 0, 64, []),
  (64, 2, 0, 0, 0, 0, 65, []),
  (65, 1, 3, 0, 0, 0, 66, []),
  (66, 21, 11, 76, 0, 0, 69, []),
  (69, 35, 0, 0, 0, 0, 70, [])]
/-- 223: ChunkCodeModel.lostGotos()V -/
def am_i223 : List (Nat × am_I) := [(0, 2, 0, 0, 0, 0, 1, []),
  (1, 20, 11, 36, 0, 0, 4, []),
  (4, 2, 0, 0, 0, 0, 5, []),
  (5, 20, 11, 32, 0, 0, 8, []),
  (8, 25, 0, 0, 0, 0, 9, []),
  (9, 3, 1, 0, 0, 0, 10, []),
  (10, 1, 1, 0, 0, 0, 11, []),
  (11, 2, 0, 0, 0, 0, 12, []),
  (12, 20, 11, 48, 0, 0, 15, []),
  (15, 13, 3, 36, 0, 0, 18, []),
  (18, 2, 0, 0, 0, 0, 19, []),
  (19, 0, 0, 0, 0, 12, 21, []),
  (21, 2, 0, 0, 0, 0, 22, []),
  (22, 20, 11, 50, 0, 0, 25, []),
  (25, 1, 1, 0, 0, 0, 26, []),
  (26, 25, 0, 0, 0, 0, 27, []),
  (27, 32, 191, 3, 13, 0, 30, []),
  (30, 5, 1, 0, 0, 1, 33, []),
  (33, 18, 0, 10, 0, 0, 36, []),
  (36, 2, 0, 0, 0, 0, 37, []),
  (37, 2, 0, 0, 0, 0, 38, []),
  (38, 20, 11, 36, 0, 0, 41, []),
  (41, 2, 0, 0, 0, 0, 42, []),
  (42, 20, 11, 32, 0, 0, 45, []),
  (45, 25, 0, 0, 0, 0, 46, []),
  (46, 21, 11, 48, 0, 0, 49, []),
  (49, 35, 0, 0, 0, 0, 50, [])]
/-- 224: ChunkCodeModel.dropBlock()V -/
def am_i224 : List (Nat × am_I) := [(0, 2, 0, 0, 0, 0, 1, []),
  (1, 7, 0, 0, 0, 0, 2, []),
  (2, 20, 11, 37, 0, 0, 5, []),
  (5, 0, 0, 0, 0, 1, 6, []),
  (6, 10, 1, 0, 0, 0, 7, []),
  (7, 21, 11, 37, 0, 0, 10, []),
  (10, 2, 0, 0, 0, 0, 11, []),
  (11, 20, 11, 40, 0, 0, 14, []),
  (14, 2, 0, 0, 0, 0, 15, []),
  (15, 20, 11, 37, 0, 0, 18, []),
  (18, 25, 0, 0, 0, 0, 19, []),
  (19, 3, 1, 0, 0, 0, 20, []),
  (20, 1, 1, 0, 0, 0, 21, []),
  (21, 2, 0, 0, 0, 0, 22, []),
  (22, 20, 11, 48, 0, 0, 25, []),
  (25, 13, 3, 80, 0, 0, 28, []),
  (28, 2, 0, 0, 0, 0, 29, []),
  (29, 20, 11, 38, 0, 0, 32, []),
  (32, 2, 0, 0, 0, 0, 33, []),
  (33, 20, 11, 37, 0, 0, 36, []),
  (36, 25, 0, 0, 0, 0, 37, []),
  (37, 2, 0, 0, 0, 0, 38, []),
  (38, 20, 11, 34, 0, 0, 41, []),
  (41, 2, 0, 0, 0, 0, 42, []),
  (42, 20, 11, 32, 0, 0, 45, []),
  (45, 25, 0, 0, 0, 0, 46, []),
  (46, 10, 1, 0, 0, 0, 47, []),
  (47, 3, 2, 0, 0, 0, 48, []),
  (48, 2, 0, 0, 0, 0, 49, []),
  (49, 20, 11, 52, 0, 0, 52, []),
  (52, 1, 1, 0, 0, 0, 53, []),
  (53, 2, 0, 0, 0, 0, 54, []),
  (54, 20, 11, 52, 0, 0, 57, []),
  (57, 1, 1, 0, 0, 0, 58, []),
  (58, 25, 0, 0, 0, 0, 59, []),
  (59, 1, 2, 0, 0, 0, 60, []),
  (60, 13, 5, 67, 0, 0, 63, []),
  (63, 1, 2, 0, 0, 0, 64, []),
  (64, 18, 0, 73, 0, 0, 67, []),
  (67, 2, 0, 0, 0, 0, 68, []),
  (68, 20, 11, 52, 0, 0, 71, []),
  (71, 1, 1, 0, 0, 0, 72, []),
  (72, 25, 0, 0, 0, 0, 73, []),
  (73, 26, 0, 0, 0, 0, 74, []),
  (74, 5, 1, 0, 0, 1, 77, []),
  (77, 18, 0, 20, 0, 0, 80, []),
  (80, 2, 0, 0, 0, 0, 81, []),
  (81, 2, 0, 0, 0, 0, 82, []),
  (82, 20, 11, 38, 0, 0, 85, []),
  (85, 2, 0, 0, 0, 0, 86, []),
  (86, 20, 11, 37, 0, 0, 89, []),
  (89, 25, 0, 0, 0, 0, 90, []),
  (90, 21, 11, 24, 0, 0, 93, []),
  (93, 2, 0, 0, 0, 0, 94, []),
  (94, 2, 0, 0, 0, 0, 95, []),
  (95, 20, 11, 39, 0, 0, 98, []),
  (98, 2, 0, 0, 0, 0, 99, []),
  (99, 20, 11, 37, 0, 0, 102, []),
  (102, 25, 0, 0, 0, 0, 103, []),
  (103, 21, 11, 44, 0, 0, 106, []),
  (106, 35, 0, 0, 0, 0, 107, [])]
/-- 225: ChunkCodeModel.statements()V -/
def am_i225 : List (Nat × am_I) := [(0, 2, 0, 0, 0, 0, 1, []),
  (1, 32, 183, 1, 13, 0, 4, []),
  (4, 3, 1, 0, 0, 0, 5, []),
  (5, 1, 1, 0, 0, 0, 6, []),
  (6, 32, 226, 1, 0, 0, 9, []),
  (9, 12, 0, 13, 0, 0, 12, []),
  (12, 35, 0, 0, 0, 0, 13, []),
  (13, 1, 1, 0, 0, 0, 14, []),
  (14, 0, 0, 0, 0, 27, 16, []),
  (16, 13, 1, 24, 0, 0, 19, []),
  (19, 2, 0, 0, 0, 0, 20, []),
  (20, 32, 227, 1, 13, 0, 23, []),
  (23, 35, 0, 0, 0, 0, 24, []),
  (24, 2, 0, 0, 0, 0, 25, []),
  (25, 32, 178, 1, 13, 0, 28, []),
  (28, 2, 0, 0, 0, 0, 29, []),
  (29, 1, 1, 0, 0, 0, 30, []),
  (30, 32, 228, 2, 13, 0, 33, []),
  (33, 35, 0, 0, 0, 0, 34, [])]
/-- 226: ChunkCodeModel.isFollower(I)Z -/
def am_i226 : List (Nat × am_I) := [(0, 1, 0, 0, 0, 0, 1, []),
  (1, 0, 0, 0, 0, (-1), 2, []),
  (2, 13, 0, 29, 0, 0, 5, []),
  (5, 1, 0, 0, 0, 0, 6, []),
  (6, 0, 0, 0, 0, 15, 8, []),
  (8, 13, 0, 29, 0, 0, 11, []),
  (11, 1, 0, 0, 0, 0, 12, []),
  (12, 0, 0, 0, 0, 13, 14, []),
  (14, 13, 0, 29, 0, 0, 17, []),
  (17, 1, 0, 0, 0, 0, 18, []),
  (18, 0, 0, 0, 0, 14, 20, []),
  (20, 13, 0, 29, 0, 0, 23, []),
  (23, 1, 0, 0, 0, 0, 24, []),
  (24, 0, 0, 0, 0, 30, 26, []),
  (26, 13, 1, 33, 0, 0, 29, []),
  (29, 0, 0, 0, 0, 1, 30, []),
  (30, 18, 0, 34, 0, 0, 33, []),
  (33, 0, 0, 0, 0, 0, 34, []),
  (34, 36, 0, 0, 0, 0, 35, [])]
/-- 227: ChunkCodeModel.giveBack()V -/
def am_i227 : List (Nat × am_I) := [(0, 2, 0, 0, 0, 0, 1, []),
  (1, 20, 11, 4, 0, 0, 4, []),
  (4, 3, 1, 0, 0, 0, 5, []),
  (5, 2, 0, 0, 0, 0, 6, []),
  (6, 7, 0, 0, 0, 0, 7, []),
  (7, 20, 11, 4, 0, 0, 10, []),
  (10, 0, 0, 0, 0, 1, 11, []),
  (11, 10, 0, 0, 0, 0, 12, []),
  (12, 21, 11, 4, 0, 0, 15, []),
  (15, 2, 0, 0, 0, 0, 16, []),
  (16, 0, 0, 0, 0, 20, 18, []),
  (18, 0, 0, 0, 0, 0, 19, []),
  (19, 0, 0, 0, 0, 0, 20, []),
  (20, 0, 0, 0, 0, 0, 21, []),
  (21, 32, 179, 5, 13, 0, 24, []),
  (24, 2, 0, 0, 0, 0, 25, []),
  (25, 32, 183, 1, 13, 0, 28, []),
  (28, 32, 226, 1, 0, 0, 31, []),
  (31, 12, 1, 43, 0, 0, 34, []),
  (34, 2, 0, 0, 0, 0, 35, []),
  (35, 32, 183, 1, 13, 0, 38, []),
  (38, 0, 0, 0, 0, 67, 40, []),
  (40, 13, 1, 56, 0, 0, 43, []),
  (43, 2, 0, 0, 0, 0, 44, []),
  (44, 0, 0, 0, 0, 45, 46, []),
  (46, 0, 0, 0, 0, 0, 47, []),
  (47, 0, 0, 0, 0, 0, 48, []),
  (48, 1, 1, 0, 0, 0, 49, []),
  (49, 32, 189, 5, 13, 0, 52, []),
  (52, 6, 0, 0, 0, 0, 53, []),
  (53, 18, 0, 69, 0, 0, 56, []),
  (56, 2, 0, 0, 0, 0, 57, []),
  (57, 0, 0, 0, 0, 19, 59, []),
  (59, 1, 1, 0, 0, 0, 60, []),
  (60, 0, 0, 0, 0, 0, 61, []),
  (61, 0, 0, 0, 0, 0, 62, []),
  (62, 32, 179, 5, 13, 0, 65, []),
  (65, 2, 0, 0, 0, 0, 66, []),
  (66, 32, 214, 1, 13, 0, 69, []),
  (69, 35, 0, 0, 0, 0, 70, [])]
/-- 228: ChunkCodeModel.statement(I)V -/
def am_i228 : List (Nat × am_I) := [(0, 2, 0, 0, 0, 0, 1, []),
  (1, 20, 11, 4, 0, 0, 4, []),
  (4, 3, 2, 0, 0, 0, 5, []),
  (5, 1, 1, 0, 0, 0, 6, []),
  (6, 19, 0, 397, 0, 0, 104, [(11, 154), (12, 201), (17, 344), (18, 362), (19, 172), (20, 317), (22, 379), (26, 272), (31, 233), (66, 117), (67, 104)]),
  (104, 2, 0, 0, 0, 0, 105, []),
  (105, 7, 0, 0, 0, 0, 106, []),
  (106, 20, 11, 4, 0, 0, 109, []),
  (109, 0, 0, 0, 0, 1, 110, []),
  (110, 10, 0, 0, 0, 0, 111, []),
  (111, 21, 11, 4, 0, 0, 114, []),
  (114, 18, 0, 422, 0, 0, 117, []),
  (117, 2, 0, 0, 0, 0, 118, []),
  (118, 7, 0, 0, 0, 0, 119, []),
  (119, 20, 11, 4, 0, 0, 122, []),
  (122, 0, 0, 0, 0, 1, 123, []),
  (123, 10, 0, 0, 0, 0, 124, []),
  (124, 21, 11, 4, 0, 0, 127, []),
  (127, 2, 0, 0, 0, 0, 128, []),
  (128, 0, 0, 0, 0, 1, 129, []),
  (129, 32, 200, 2, 13, 0, 132, []),
  (132, 12, 0, 422, 0, 0, 135, []),
  (135, 2, 0, 0, 0, 0, 136, []),
  (136, 0, 0, 0, 0, 66, 138, []),
  (138, 32, 200, 2, 13, 0, 141, []),
  (141, 12, 0, 422, 0, 0, 144, []),
  (144, 2, 0, 0, 0, 0, 145, []),
  (145, 1, 2, 0, 0, 0, 146, []),
  (146, 0, 0, 0, 0, 1, 147, []),
  (147, 10, 0, 0, 0, 0, 148, []),
  (148, 32, 229, 2, 13, 0, 151, []),
  (151, 18, 0, 422, 0, 0, 154, []),
  (154, 2, 0, 0, 0, 0, 155, []),
  (155, 7, 0, 0, 0, 0, 156, []),
  (156, 20, 11, 4, 0, 0, 159, []),
  (159, 0, 0, 0, 0, 1, 160, []),
  (160, 10, 0, 0, 0, 0, 161, []),
  (161, 21, 11, 4, 0, 0, 164, []),
  (164, 2, 0, 0, 0, 0, 165, []),
  (165, 1, 2, 0, 0, 0, 166, []),
  (166, 32, 233, 2, 13, 0, 169, []),
  (169, 18, 0, 422, 0, 0, 172, []),
  (172, 2, 0, 0, 0, 0, 173, []),
  (173, 7, 0, 0, 0, 0, 174, []),
  (174, 20, 11, 4, 0, 0, 177, []),
  (177, 0, 0, 0, 0, 1, 178, []),
  (178, 10, 0, 0, 0, 0, 179, []),
  (179, 21, 11, 4, 0, 0, 182, []),
  (182, 2, 0, 0, 0, 0, 183, []),
  (183, 0, 0, 0, 0, 1, 184, []),
  (184, 32, 200, 2, 13, 0, 187, []),
  (187, 12, 0, 422, 0, 0, 190, []),
  (190, 2, 0, 0, 0, 0, 191, []),
  (191, 1, 2, 0, 0, 0, 192, []),
  (192, 1, 2, 0, 0, 0, 193, []),
  (193, 0, 0, 0, 0, 1, 194, []),
  (194, 10, 0, 0, 0, 0, 195, []),
  (195, 32, 234, 3, 13, 0, 198, []),
  (198, 18, 0, 422, 0, 0, 201, []),
  (201, 2, 0, 0, 0, 0, 202, []),
  (202, 0, 0, 0, 0, 12, 204, []),
  (204, 32, 193, 2, 13, 0, 207, []),
  (207, 12, 1, 213, 0, 0, 210, []),
  (210, 18, 0, 422, 0, 0, 213, []),
  (213, 2, 0, 0, 0, 0, 214, []),
  (214, 0, 0, 0, 0, 0, 215, []),
  (215, 32, 177, 2, 13, 0, 218, []),
  (218, 2, 0, 0, 0, 0, 219, []),
  (219, 0, 0, 0, 0, 2, 220, []),
  (220, 0, 0, 0, 0, 0, 221, []),
  (221, 0, 0, 0, 0, 0, 222, []),
  (222, 0, 0, 0, 0, 0, 223, []),
  (223, 32, 179, 5, 13, 0, 226, []),
  (226, 2, 0, 0, 0, 0, 227, []),
  (227, 32, 178, 1, 13, 0, 230, []),
  (230, 18, 0, 422, 0, 0, 233, []),
  (233, 2, 0, 0, 0, 0, 234, []),
  (234, 7, 0, 0, 0, 0, 235, []),
  (235, 20, 11, 4, 0, 0, 238, []),
  (238, 0, 0, 0, 0, 1, 239, []),
  (239, 10, 0, 0, 0, 0, 240, []),
  (240, 21, 11, 4, 0, 0, 243, []),
  (243, 2, 0, 0, 0, 0, 244, []),
  (244, 0, 0, 0, 0, 3, 245, []),
  (245, 2, 0, 0, 0, 0, 246, []),
  (246, 32, 210, 1, 13, 0, 249, []),
  (249, 0, 0, 0, 0, 0, 250, []),
  (250, 0, 0, 0, 0, 0, 251, []),
  (251, 32, 179, 5, 13, 0, 254, []),
  (254, 2, 0, 0, 0, 0, 255, []),
  (255, 0, 0, 0, 0, 34, 257, []),
  (257, 0, 0, 0, 0, 0, 258, []),
  (258, 0, 0, 0, 0, 0, 259, []),
  (259, 1, 2, 0, 0, 0, 260, []),
  (260, 32, 189, 5, 13, 0, 263, []),
  (263, 6, 0, 0, 0, 0, 264, []),
  (264, 2, 0, 0, 0, 0, 265, []),
  (265, 0, 0, 0, 0, 0, 266, []),
  (266, 32, 186, 2, 13, 0, 269, []),
  (269, 18, 0, 422, 0, 0, 272, []),
  (272, 2, 0, 0, 0, 0, 273, []),
  (273, 0, 0, 0, 0, 26, 275, []),
  (275, 32, 193, 2, 13, 0, 278, []),
  (278, 12, 1, 284, 0, 0, 281, []),
  (281, 18, 0, 422, 0, 0, 284, []),
  (284, 2, 0, 0, 0, 0, 285, []),
  (285, 0, 0, 0, 0, 5, 286, []),
  (286, 2, 0, 0, 0, 0, 287, []),
  (287, 32, 210, 1, 13, 0, 290, []),
  (290, 0, 0, 0, 0, 0, 291, []),
  (291, 0, 0, 0, 0, 0, 292, []),
  (292, 32, 179, 5, 13, 0, 295, []),
  (295, 2, 0, 0, 0, 0, 296, []),
  (296, 0, 0, 0, 0, 34, 298, []),
  (298, 0, 0, 0, 0, 0, 299, []),
  (299, 0, 0, 0, 0, 0, 300, []),
  (300, 1, 2, 0, 0, 0, 301, []),
  (301, 32, 189, 5, 13, 0, 304, []),
  (304, 6, 0, 0, 0, 0, 305, []),
  (305, 2, 0, 0, 0, 0, 306, []),
  (306, 0, 0, 0, 0, 1, 307, []),
  (307, 32, 177, 2, 13, 0, 310, []),
  (310, 2, 0, 0, 0, 0, 311, []),
  (311, 32, 178, 1, 13, 0, 314, []),
  (314, 18, 0, 422, 0, 0, 317, []),
  (317, 2, 0, 0, 0, 0, 318, []),
  (318, 7, 0, 0, 0, 0, 319, []),
  (319, 20, 11, 4, 0, 0, 322, []),
  (322, 0, 0, 0, 0, 1, 323, []),
  (323, 10, 0, 0, 0, 0, 324, []),
  (324, 21, 11, 4, 0, 0, 327, []),
  (327, 2, 0, 0, 0, 0, 328, []),
  (328, 0, 0, 0, 0, 7, 330, []),
  (330, 0, 0, 0, 0, 0, 331, []),
  (331, 0, 0, 0, 0, 0, 332, []),
  (332, 0, 0, 0, 0, 0, 333, []),
  (333, 32, 179, 5, 13, 0, 336, []),
  (336, 2, 0, 0, 0, 0, 337, []),
  (337, 0, 0, 0, 0, 0, 338, []),
  (338, 32, 186, 2, 13, 0, 341, []),
  (341, 18, 0, 422, 0, 0, 344, []),
  (344, 2, 0, 0, 0, 0, 345, []),
  (345, 7, 0, 0, 0, 0, 346, []),
  (346, 20, 11, 4, 0, 0, 349, []),
  (349, 0, 0, 0, 0, 1, 350, []),
  (350, 10, 0, 0, 0, 0, 351, []),
  (351, 21, 11, 4, 0, 0, 354, []),
  (354, 2, 0, 0, 0, 0, 355, []),
  (355, 1, 2, 0, 0, 0, 356, []),
  (356, 32, 235, 2, 13, 0, 359, []),
  (359, 18, 0, 422, 0, 0, 362, []),
  (362, 2, 0, 0, 0, 0, 363, []),
  (363, 0, 0, 0, 0, 18, 365, []),
  (365, 32, 193, 2, 13, 0, 368, []),
  (368, 12, 0, 422, 0, 0, 371, []),
  (371, 2, 0, 0, 0, 0, 372, []),
  (372, 1, 2, 0, 0, 0, 373, []),
  (373, 32, 236, 2, 13, 0, 376, []),
  (376, 18, 0, 422, 0, 0, 379, []),
  (379, 2, 0, 0, 0, 0, 380, []),
  (380, 7, 0, 0, 0, 0, 381, []),
  (381, 20, 11, 4, 0, 0, 384, []),
  (384, 0, 0, 0, 0, 1, 385, []),
  (385, 10, 0, 0, 0, 0, 386, []),
  (386, 21, 11, 4, 0, 0, 389, []),
  (389, 2, 0, 0, 0, 0, 390, []),
  (390, 1, 2, 0, 0, 0, 391, []),
  (391, 32, 238, 2, 13, 0, 394, []),
  (394, 18, 0, 422, 0, 0, 397, []),
  (397, 2, 0, 0, 0, 0, 398, []),
  (398, 0, 0, 0, 0, 21, 400, []),
  (400, 0, 0, 0, 0, 0, 401, []),
  (401, 2, 0, 0, 0, 0, 402, []),
  (402, 20, 11, 20, 0, 0, 405, []),
  (405, 0, 0, 0, 0, 0, 406, []),
  (406, 32, 179, 5, 13, 0, 409, []),
  (409, 2, 0, 0, 0, 0, 410, []),
  (410, 0, 0, 0, 0, 28, 412, []),
  (412, 0, 0, 0, 0, 0, 413, []),
  (413, 0, 0, 0, 0, 0, 414, []),
  (414, 0, 0, 0, 0, 0, 415, []),
  (415, 32, 179, 5, 13, 0, 418, []),
  (418, 2, 0, 0, 0, 0, 419, []),
  (419, 32, 201, 1, 13, 0, 422, []),
  (422, 35, 0, 0, 0, 0, 423, [])]
/-- 229: ChunkCodeModel.label(I)V -/
def am_i229 : List (Nat × am_I) := [(0, 2, 0, 0, 0, 0, 1, []),
  (1, 20, 11, 2, 0, 0, 4, []),
  (4, 1, 1, 0, 0, 0, 5, []),
  (5, 25, 0, 0, 0, 0, 6, []),
  (6, 3, 2, 0, 0, 0, 7, []),
  (7, 2, 0, 0, 0, 0, 8, []),
  (8, 1, 2, 0, 0, 0, 9, []),
  (9, 32, 230, 2, 13, 0, 12, []),
  (12, 12, 2, 22, 0, 0, 15, []),
  (15, 2, 0, 0, 0, 0, 16, []),
  (16, 0, 0, 0, 0, 13, 18, []),
  (18, 1, 1, 0, 0, 0, 19, []),
  (19, 32, 191, 3, 13, 0, 22, []),
  (22, 2, 0, 0, 0, 0, 23, []),
  (23, 32, 231, 1, 13, 0, 26, []),
  (26, 12, 0, 36, 0, 0, 29, []),
  (29, 2, 0, 0, 0, 0, 30, []),
  (30, 32, 232, 1, 13, 0, 33, []),
  (33, 18, 0, 40, 0, 0, 36, []),
  (36, 2, 0, 0, 0, 0, 37, []),
  (37, 32, 197, 1, 13, 0, 40, []),
  (40, 3, 3, 0, 0, 0, 41, []),
  (41, 2, 0, 0, 0, 0, 42, []),
  (42, 20, 11, 40, 0, 0, 45, []),
  (45, 2, 0, 0, 0, 0, 46, []),
  (46, 20, 11, 37, 0, 0, 49, []),
  (49, 0, 0, 0, 0, 1, 50, []),
  (50, 10, 1, 0, 0, 0, 51, []),
  (51, 25, 0, 0, 0, 0, 52, []),
  (52, 3, 4, 0, 0, 0, 54, []),
  (54, 1, 4, 0, 0, 0, 56, []),
  (56, 3, 5, 0, 0, 0, 58, []),
  (58, 1, 5, 0, 0, 0, 60, []),
  (60, 2, 0, 0, 0, 0, 61, []),
  (61, 20, 11, 48, 0, 0, 64, []),
  (64, 13, 3, 204, 0, 0, 67, []),
  (67, 2, 0, 0, 0, 0, 68, []),
  (68, 20, 11, 49, 0, 0, 71, []),
  (71, 1, 5, 0, 0, 0, 73, []),
  (73, 25, 0, 0, 0, 0, 74, []),
  (74, 1, 2, 0, 0, 0, 75, []),
  (75, 13, 1, 139, 0, 0, 78, []),
  (78, 2, 0, 0, 0, 0, 79, []),
  (79, 20, 11, 52, 0, 0, 82, []),
  (82, 1, 5, 0, 0, 0, 84, []),
  (84, 25, 0, 0, 0, 0, 85, []),
  (85, 1, 3, 0, 0, 0, 86, []),
  (86, 13, 3, 102, 0, 0, 89, []),
  (89, 2, 0, 0, 0, 0, 90, []),
  (90, 0, 0, 0, 0, 14, 92, []),
  (92, 2, 0, 0, 0, 0, 93, []),
  (93, 20, 11, 50, 0, 0, 96, []),
  (96, 1, 5, 0, 0, 0, 98, []),
  (98, 25, 0, 0, 0, 0, 99, []),
  (99, 32, 191, 3, 13, 0, 102, []),
  (102, 2, 0, 0, 0, 0, 103, []),
  (103, 20, 11, 71, 0, 0, 106, []),
  (106, 2, 0, 0, 0, 0, 107, []),
  (107, 20, 11, 51, 0, 0, 110, []),
  (110, 1, 5, 0, 0, 0, 112, []),
  (112, 25, 0, 0, 0, 0, 113, []),
  (113, 2, 0, 0, 0, 0, 114, []),
  (114, 32, 197, 1, 13, 0, 117, []),
  (117, 26, 0, 0, 0, 0, 118, []),
  (118, 2, 0, 0, 0, 0, 119, []),
  (119, 20, 11, 71, 0, 0, 122, []),
  (122, 2, 0, 0, 0, 0, 123, []),
  (123, 20, 11, 51, 0, 0, 126, []),
  (126, 1, 5, 0, 0, 0, 128, []),
  (128, 25, 0, 0, 0, 0, 129, []),
  (129, 0, 0, 0, 0, 1, 130, []),
  (130, 10, 0, 0, 0, 0, 131, []),
  (131, 2, 0, 0, 0, 0, 132, []),
  (132, 32, 210, 1, 13, 0, 135, []),
  (135, 26, 0, 0, 0, 0, 136, []),
  (136, 18, 0, 198, 0, 0, 139, []),
  (139, 2, 0, 0, 0, 0, 140, []),
  (140, 20, 11, 49, 0, 0, 143, []),
  (143, 1, 4, 0, 0, 0, 145, []),
  (145, 2, 0, 0, 0, 0, 146, []),
  (146, 20, 11, 49, 0, 0, 149, []),
  (149, 1, 5, 0, 0, 0, 151, []),
  (151, 25, 0, 0, 0, 0, 152, []),
  (152, 26, 0, 0, 0, 0, 153, []),
  (153, 2, 0, 0, 0, 0, 154, []),
  (154, 20, 11, 50, 0, 0, 157, []),
  (157, 1, 4, 0, 0, 0, 159, []),
  (159, 2, 0, 0, 0, 0, 160, []),
  (160, 20, 11, 50, 0, 0, 163, []),
  (163, 1, 5, 0, 0, 0, 165, []),
  (165, 25, 0, 0, 0, 0, 166, []),
  (166, 26, 0, 0, 0, 0, 167, []),
  (167, 2, 0, 0, 0, 0, 168, []),
  (168, 20, 11, 51, 0, 0, 171, []),
  (171, 1, 4, 0, 0, 0, 173, []),
  (173, 2, 0, 0, 0, 0, 174, []),
  (174, 20, 11, 51, 0, 0, 177, []),
  (177, 1, 5, 0, 0, 0, 179, []),
  (179, 25, 0, 0, 0, 0, 180, []),
  (180, 26, 0, 0, 0, 0, 181, []),
  (181, 2, 0, 0, 0, 0, 182, []),
  (182, 20, 11, 52, 0, 0, 185, []),
  (185, 1, 4, 0, 0, 0, 187, []),
  (187, 2, 0, 0, 0, 0, 188, []),
  (188, 20, 11, 52, 0, 0, 191, []),
  (191, 1, 5, 0, 0, 0, 193, []),
  (193, 25, 0, 0, 0, 0, 194, []),
  (194, 26, 0, 0, 0, 0, 195, []),
  (195, 5, 4, 0, 0, 1, 198, []),
  (198, 5, 5, 0, 0, 1, 201, []),
  (201, 18, 0, 58, 0, 0, 204, []),
  (204, 2, 0, 0, 0, 0, 205, []),
  (205, 1, 4, 0, 0, 0, 207, []),
  (207, 21, 11, 48, 0, 0, 210, []),
  (210, 2, 0, 0, 0, 0, 211, []),
  (211, 20, 11, 45, 0, 0, 214, []),
  (214, 2, 0, 0, 0, 0, 215, []),
  (215, 20, 11, 44, 0, 0, 218, []),
  (218, 1, 2, 0, 0, 0, 219, []),
  (219, 26, 0, 0, 0, 0, 220, []),
  (220, 2, 0, 0, 0, 0, 221, []),
  (221, 20, 11, 46, 0, 0, 224, []),
  (224, 2, 0, 0, 0, 0, 225, []),
  (225, 20, 11, 44, 0, 0, 228, []),
  (228, 2, 0, 0, 0, 0, 229, []),
  (229, 32, 210, 1, 13, 0, 232, []),
  (232, 26, 0, 0, 0, 0, 233, []),
  (233, 2, 0, 0, 0, 0, 234, []),
  (234, 20, 11, 47, 0, 0, 237, []),
  (237, 2, 0, 0, 0, 0, 238, []),
  (238, 20, 11, 44, 0, 0, 241, []),
  (241, 2, 0, 0, 0, 0, 242, []),
  (242, 32, 197, 1, 13, 0, 245, []),
  (245, 26, 0, 0, 0, 0, 246, []),
  (246, 2, 0, 0, 0, 0, 247, []),
  (247, 7, 0, 0, 0, 0, 248, []),
  (248, 20, 11, 44, 0, 0, 251, []),
  (251, 0, 0, 0, 0, 1, 252, []),
  (252, 10, 0, 0, 0, 0, 253, []),
  (253, 21, 11, 44, 0, 0, 256, []),
  (256, 35, 0, 0, 0, 0, 257, [])]
/-- 230: ChunkCodeModel.labelOf(I)I -/
def am_i230 : List (Nat × am_I) := [(0, 2, 0, 0, 0, 0, 1, []),
  (1, 20, 11, 44, 0, 0, 4, []),
  (4, 0, 0, 0, 0, 1, 5, []),
  (5, 10, 1, 0, 0, 0, 6, []),
  (6, 3, 2, 0, 0, 0, 7, []),
  (7, 1, 2, 0, 0, 0, 8, []),
  (8, 2, 0, 0, 0, 0, 9, []),
  (9, 20, 11, 35, 0, 0, 12, []),
  (12, 2, 0, 0, 0, 0, 13, []),
  (13, 20, 11, 32, 0, 0, 16, []),
  (16, 25, 0, 0, 0, 0, 17, []),
  (17, 13, 2, 36, 0, 0, 20, []),
  (20, 2, 0, 0, 0, 0, 21, []),
  (21, 20, 11, 45, 0, 0, 24, []),
  (24, 1, 2, 0, 0, 0, 25, []),
  (25, 25, 0, 0, 0, 0, 26, []),
  (26, 1, 1, 0, 0, 0, 27, []),
  (27, 13, 0, 36, 0, 0, 30, []),
  (30, 5, 2, 0, 0, (-1), 33, []),
  (33, 18, 0, 7, 0, 0, 36, []),
  (36, 1, 2, 0, 0, 0, 37, []),
  (37, 2, 0, 0, 0, 0, 38, []),
  (38, 20, 11, 35, 0, 0, 41, []),
  (41, 2, 0, 0, 0, 0, 42, []),
  (42, 20, 11, 32, 0, 0, 45, []),
  (45, 25, 0, 0, 0, 0, 46, []),
  (46, 13, 2, 53, 0, 0, 49, []),
  (49, 1, 2, 0, 0, 0, 50, []),
  (50, 18, 0, 54, 0, 0, 53, []),
  (53, 0, 0, 0, 0, (-1), 54, []),
  (54, 33, 0, 0, 0, 0, 55, [])]
/-- 231: ChunkCodeModel.isAtEnd()Z -/
def am_i231 : List (Nat × am_I) := [(0, 2, 0, 0, 0, 0, 1, []),
  (1, 20, 11, 4, 0, 0, 4, []),
  (4, 3, 1, 0, 0, 0, 5, []),
  (5, 0, 0, 0, 0, 1, 6, []),
  (6, 3, 2, 0, 0, 0, 7, []),
  (7, 1, 2, 0, 0, 0, 8, []),
  (8, 12, 0, 71, 0, 0, 11, []),
  (11, 2, 0, 0, 0, 0, 12, []),
  (12, 1, 1, 0, 0, 0, 13, []),
  (13, 32, 184, 2, 13, 0, 16, []),
  (16, 0, 0, 0, 0, 67, 18, []),
  (18, 13, 1, 27, 0, 0, 21, []),
  (21, 5, 1, 0, 0, 1, 24, []),
  (24, 18, 0, 7, 0, 0, 27, []),
  (27, 2, 0, 0, 0, 0, 28, []),
  (28, 1, 1, 0, 0, 0, 29, []),
  (29, 32, 184, 2, 13, 0, 32, []),
  (32, 0, 0, 0, 0, 66, 34, []),
  (34, 13, 1, 66, 0, 0, 37, []),
  (37, 2, 0, 0, 0, 0, 38, []),
  (38, 1, 1, 0, 0, 0, 39, []),
  (39, 0, 0, 0, 0, 1, 40, []),
  (40, 10, 0, 0, 0, 0, 41, []),
  (41, 32, 184, 2, 13, 0, 44, []),
  (44, 0, 0, 0, 0, 1, 45, []),
  (45, 13, 1, 66, 0, 0, 48, []),
  (48, 2, 0, 0, 0, 0, 49, []),
  (49, 1, 1, 0, 0, 0, 50, []),
  (50, 0, 0, 0, 0, 2, 51, []),
  (51, 10, 0, 0, 0, 0, 52, []),
  (52, 32, 184, 2, 13, 0, 55, []),
  (55, 0, 0, 0, 0, 66, 57, []),
  (57, 13, 1, 66, 0, 0, 60, []),
  (60, 5, 1, 0, 0, 3, 63, []),
  (63, 18, 0, 7, 0, 0, 66, []),
  (66, 0, 0, 0, 0, 0, 67, []),
  (67, 3, 2, 0, 0, 0, 68, []),
  (68, 18, 0, 7, 0, 0, 71, []),
  (71, 2, 0, 0, 0, 0, 72, []),
  (72, 1, 1, 0, 0, 0, 73, []),
  (73, 32, 184, 2, 13, 0, 76, []),
  (76, 3, 3, 0, 0, 0, 77, []),
  (77, 1, 3, 0, 0, 0, 78, []),
  (78, 0, 0, 0, 0, (-1), 79, []),
  (79, 13, 0, 100, 0, 0, 82, []),
  (82, 1, 3, 0, 0, 0, 83, []),
  (83, 0, 0, 0, 0, 15, 85, []),
  (85, 13, 0, 100, 0, 0, 88, []),
  (88, 1, 3, 0, 0, 0, 89, []),
  (89, 0, 0, 0, 0, 13, 91, []),
  (91, 13, 0, 100, 0, 0, 94, []),
  (94, 1, 3, 0, 0, 0, 95, []),
  (95, 0, 0, 0, 0, 14, 97, []),
  (97, 13, 1, 104, 0, 0, 100, []),
  (100, 0, 0, 0, 0, 1, 101, []),
  (101, 18, 0, 105, 0, 0, 104, []),
  (104, 0, 0, 0, 0, 0, 105, []),
  (105, 36, 0, 0, 0, 0, 106, [])]
/-- 232: ChunkCodeModel.before()I -/
def am_i232 : List (Nat × am_I) := [(0, 2, 0, 0, 0, 0, 1, []),
  (1, 20, 11, 38, 0, 0, 4, []),
  (4, 2, 0, 0, 0, 0, 5, []),
  (5, 20, 11, 37, 0, 0, 8, []),
  (8, 0, 0, 0, 0, 1, 9, []),
  (9, 10, 1, 0, 0, 0, 10, []),
  (10, 25, 0, 0, 0, 0, 11, []),
  (11, 2, 0, 0, 0, 0, 12, []),
  (12, 20, 11, 34, 0, 0, 15, []),
  (15, 2, 0, 0, 0, 0, 16, []),
  (16, 20, 11, 32, 0, 0, 19, []),
  (19, 25, 0, 0, 0, 0, 20, []),
  (20, 10, 1, 0, 0, 0, 21, []),
  (21, 33, 0, 0, 0, 0, 22, [])]
/-- 233: ChunkCodeModel.leaveLoop(I)V -/
def am_i233 : List (Nat × am_I) := [(0, 2, 0, 0, 0, 0, 1, []),
  (1, 20, 11, 37, 0, 0, 4, []),
  (4, 0, 0, 0, 0, 1, 5, []),
  (5, 10, 1, 0, 0, 0, 6, []),
  (6, 3, 2, 0, 0, 0, 7, []),
  (7, 1, 2, 0, 0, 0, 8, []),
  (8, 12, 2, 39, 0, 0, 11, []),
  (11, 2, 0, 0, 0, 0, 12, []),
  (12, 20, 11, 41, 0, 0, 15, []),
  (15, 1, 2, 0, 0, 0, 16, []),
  (16, 25, 0, 0, 0, 0, 17, []),
  (17, 2, 0, 0, 0, 0, 18, []),
  (18, 20, 11, 32, 0, 0, 21, []),
  (21, 13, 1, 39, 0, 0, 24, []),
  (24, 2, 0, 0, 0, 0, 25, []),
  (25, 20, 11, 42, 0, 0, 28, []),
  (28, 1, 2, 0, 0, 0, 29, []),
  (29, 25, 1, 0, 0, 0, 30, []),
  (30, 12, 1, 39, 0, 0, 33, []),
  (33, 5, 2, 0, 0, (-1), 36, []),
  (36, 18, 0, 7, 0, 0, 39, []),
  (39, 1, 2, 0, 0, 0, 40, []),
  (40, 12, 2, 56, 0, 0, 43, []),
  (43, 2, 0, 0, 0, 0, 44, []),
  (44, 20, 11, 41, 0, 0, 47, []),
  (47, 1, 2, 0, 0, 0, 48, []),
  (48, 25, 0, 0, 0, 0, 49, []),
  (49, 2, 0, 0, 0, 0, 50, []),
  (50, 20, 11, 32, 0, 0, 53, []),
  (53, 13, 0, 64, 0, 0, 56, []),
  (56, 2, 0, 0, 0, 0, 57, []),
  (57, 0, 0, 0, 0, 11, 59, []),
  (59, 1, 1, 0, 0, 0, 60, []),
  (60, 32, 191, 3, 13, 0, 63, []),
  (63, 35, 0, 0, 0, 0, 64, []),
  (64, 2, 0, 0, 0, 0, 65, []),
  (65, 20, 11, 24, 0, 0, 68, []),
  (68, 2, 0, 0, 0, 0, 69, []),
  (69, 20, 11, 38, 0, 0, 72, []),
  (72, 1, 2, 0, 0, 0, 73, []),
  (73, 25, 0, 0, 0, 0, 74, []),
  (74, 13, 5, 102, 0, 0, 77, []),
  (77, 2, 0, 0, 0, 0, 78, []),
  (78, 0, 0, 0, 0, 33, 80, []),
  (80, 2, 0, 0, 0, 0, 81, []),
  (81, 20, 11, 38, 0, 0, 84, []),
  (84, 1, 2, 0, 0, 0, 85, []),
  (85, 25, 0, 0, 0, 0, 86, []),
  (86, 2, 0, 0, 0, 0, 87, []),
  (87, 20, 11, 34, 0, 0, 90, []),
  (90, 2, 0, 0, 0, 0, 91, []),
  (91, 20, 11, 32, 0, 0, 94, []),
  (94, 25, 0, 0, 0, 0, 95, []),
  (95, 10, 1, 0, 0, 0, 96, []),
  (96, 0, 0, 0, 0, 0, 97, []),
  (97, 0, 0, 0, 0, 0, 98, []),
  (98, 32, 189, 5, 13, 0, 101, []),
  (101, 6, 0, 0, 0, 0, 102, []),
  (102, 2, 0, 0, 0, 0, 103, []),
  (103, 20, 11, 43, 0, 0, 106, []),
  (106, 1, 2, 0, 0, 0, 107, []),
  (107, 2, 0, 0, 0, 0, 108, []),
  (108, 0, 0, 0, 0, 36, 110, []),
  (110, 2, 0, 0, 0, 0, 111, []),
  (111, 20, 11, 43, 0, 0, 114, []),
  (114, 1, 2, 0, 0, 0, 115, []),
  (115, 25, 0, 0, 0, 0, 116, []),
  (116, 0, 0, 0, 0, 0, 117, []),
  (117, 0, 0, 0, 0, 0, 118, []),
  (118, 32, 189, 5, 13, 0, 121, []),
  (121, 0, 0, 0, 0, 1, 122, []),
  (122, 10, 0, 0, 0, 0, 123, []),
  (123, 26, 0, 0, 0, 0, 124, []),
  (124, 35, 0, 0, 0, 0, 125, [])]
/-- 234: ChunkCodeModel.go(II)V -/
def am_i234 : List (Nat × am_I) := [(0, 2, 0, 0, 0, 0, 1, []),
  (1, 0, 0, 0, 0, 34, 3, []),
  (3, 0, 0, 0, 0, 0, 4, []),
  (4, 0, 0, 0, 0, 0, 5, []),
  (5, 1, 1, 0, 0, 0, 6, []),
  (6, 32, 189, 5, 13, 0, 9, []),
  (9, 6, 0, 0, 0, 0, 10, []),
  (10, 2, 0, 0, 0, 0, 11, []),
  (11, 2, 0, 0, 0, 0, 12, []),
  (12, 20, 11, 2, 0, 0, 15, []),
  (15, 1, 2, 0, 0, 0, 16, []),
  (16, 25, 0, 0, 0, 0, 17, []),
  (17, 32, 230, 2, 13, 0, 20, []),
  (20, 3, 3, 0, 0, 0, 21, []),
  (21, 2, 0, 0, 0, 0, 22, []),
  (22, 0, 0, 0, 0, 33, 24, []),
  (24, 1, 3, 0, 0, 0, 25, []),
  (25, 12, 3, 32, 0, 0, 28, []),
  (28, 0, 0, 0, 0, 0, 29, []),
  (29, 18, 0, 38, 0, 0, 32, []),
  (32, 2, 0, 0, 0, 0, 33, []),
  (33, 20, 11, 47, 0, 0, 36, []),
  (36, 1, 3, 0, 0, 0, 37, []),
  (37, 25, 0, 0, 0, 0, 38, []),
  (38, 0, 0, 0, 0, 0, 39, []),
  (39, 0, 0, 0, 0, 0, 40, []),
  (40, 32, 189, 5, 13, 0, 43, []),
  (43, 3, 4, 0, 0, 0, 45, []),
  (45, 2, 0, 0, 0, 0, 46, []),
  (46, 0, 0, 0, 0, 36, 48, []),
  (48, 1, 3, 0, 0, 0, 49, []),
  (49, 12, 3, 56, 0, 0, 52, []),
  (52, 0, 0, 0, 0, 0, 53, []),
  (53, 18, 0, 62, 0, 0, 56, []),
  (56, 2, 0, 0, 0, 0, 57, []),
  (57, 20, 11, 46, 0, 0, 60, []),
  (60, 1, 3, 0, 0, 0, 61, []),
  (61, 25, 0, 0, 0, 0, 62, []),
  (62, 0, 0, 0, 0, 0, 63, []),
  (63, 0, 0, 0, 0, 0, 64, []),
  (64, 32, 189, 5, 13, 0, 67, []),
  (67, 6, 0, 0, 0, 0, 68, []),
  (68, 1, 3, 0, 0, 0, 69, []),
  (69, 12, 2, 73, 0, 0, 72, []),
  (72, 35, 0, 0, 0, 0, 73, []),
  (73, 2, 0, 0, 0, 0, 74, []),
  (74, 20, 11, 49, 0, 0, 77, []),
  (77, 2, 0, 0, 0, 0, 78, []),
  (78, 20, 11, 48, 0, 0, 81, []),
  (81, 2, 0, 0, 0, 0, 82, []),
  (82, 20, 11, 2, 0, 0, 85, []),
  (85, 1, 2, 0, 0, 0, 86, []),
  (86, 25, 0, 0, 0, 0, 87, []),
  (87, 26, 0, 0, 0, 0, 88, []),
  (88, 2, 0, 0, 0, 0, 89, []),
  (89, 20, 11, 50, 0, 0, 92, []),
  (92, 2, 0, 0, 0, 0, 93, []),
  (93, 20, 11, 48, 0, 0, 96, []),
  (96, 1, 1, 0, 0, 0, 97, []),
  (97, 26, 0, 0, 0, 0, 98, []),
  (98, 2, 0, 0, 0, 0, 99, []),
  (99, 20, 11, 51, 0, 0, 102, []),
  (102, 2, 0, 0, 0, 0, 103, []),
  (103, 20, 11, 48, 0, 0, 106, []),
  (106, 1, 4, 0, 0, 0, 108, []),
  (108, 26, 0, 0, 0, 0, 109, []),
  (109, 2, 0, 0, 0, 0, 110, []),
  (110, 20, 11, 52, 0, 0, 113, []),
  (113, 2, 0, 0, 0, 0, 114, []),
  (114, 20, 11, 48, 0, 0, 117, []),
  (117, 2, 0, 0, 0, 0, 118, []),
  (118, 32, 197, 1, 13, 0, 121, []),
  (121, 26, 0, 0, 0, 0, 122, []),
  (122, 2, 0, 0, 0, 0, 123, []),
  (123, 7, 0, 0, 0, 0, 124, []),
  (124, 20, 11, 48, 0, 0, 127, []),
  (127, 0, 0, 0, 0, 1, 128, []),
  (128, 10, 0, 0, 0, 0, 129, []),
  (129, 21, 11, 48, 0, 0, 132, []),
  (132, 35, 0, 0, 0, 0, 133, [])]
/-- 235: ChunkCodeModel.loop(I)V -/
def am_i235 : List (Nat × am_I) := [(0, 2, 0, 0, 0, 0, 1, []),
  (1, 0, 0, 0, 0, 1, 2, []),
  (2, 32, 200, 2, 13, 0, 5, []),
  (5, 12, 1, 9, 0, 0, 8, []),
  (8, 35, 0, 0, 0, 0, 9, []),
  (9, 2, 0, 0, 0, 0, 10, []),
  (10, 32, 183, 1, 13, 0, 13, []),
  (13, 0, 0, 0, 0, 59, 15, []),
  (15, 13, 1, 43, 0, 0, 18, []),
  (18, 2, 0, 0, 0, 0, 19, []),
  (19, 7, 0, 0, 0, 0, 20, []),
  (20, 20, 11, 4, 0, 0, 23, []),
  (23, 0, 0, 0, 0, 1, 24, []),
  (24, 10, 0, 0, 0, 0, 25, []),
  (25, 21, 11, 4, 0, 0, 28, []),
  (28, 2, 0, 0, 0, 0, 29, []),
  (29, 0, 0, 0, 0, 10, 31, []),
  (31, 1, 1, 0, 0, 0, 32, []),
  (32, 0, 0, 0, 0, 0, 33, []),
  (33, 0, 0, 0, 0, 0, 34, []),
  (34, 32, 179, 5, 13, 0, 37, []),
  (37, 2, 0, 0, 0, 0, 38, []),
  (38, 0, 0, 0, 0, 0, 39, []),
  (39, 32, 186, 2, 13, 0, 42, []),
  (42, 35, 0, 0, 0, 0, 43, []),
  (43, 0, 0, 0, 0, 1, 44, []),
  (44, 3, 2, 0, 0, 0, 45, []),
  (45, 2, 0, 0, 0, 0, 46, []),
  (46, 32, 183, 1, 13, 0, 49, []),
  (49, 0, 0, 0, 0, 69, 51, []),
  (51, 13, 1, 79, 0, 0, 54, []),
  (54, 2, 0, 0, 0, 0, 55, []),
  (55, 7, 0, 0, 0, 0, 56, []),
  (56, 20, 11, 4, 0, 0, 59, []),
  (59, 0, 0, 0, 0, 1, 60, []),
  (60, 10, 0, 0, 0, 0, 61, []),
  (61, 21, 11, 4, 0, 0, 64, []),
  (64, 2, 0, 0, 0, 0, 65, []),
  (65, 0, 0, 0, 0, 1, 66, []),
  (66, 32, 200, 2, 13, 0, 69, []),
  (69, 12, 1, 73, 0, 0, 72, []),
  (72, 35, 0, 0, 0, 0, 73, []),
  (73, 5, 2, 0, 0, 1, 76, []),
  (76, 18, 0, 45, 0, 0, 79, []),
  (79, 2, 0, 0, 0, 0, 80, []),
  (80, 20, 11, 4, 0, 0, 83, []),
  (83, 3, 3, 0, 0, 0, 84, []),
  (84, 2, 0, 0, 0, 0, 85, []),
  (85, 0, 0, 0, 0, 21, 87, []),
  (87, 32, 200, 2, 13, 0, 90, []),
  (90, 12, 1, 94, 0, 0, 93, []),
  (93, 35, 0, 0, 0, 0, 94, []),
  (94, 2, 0, 0, 0, 0, 95, []),
  (95, 0, 0, 0, 0, 14, 97, []),
  (97, 1, 1, 0, 0, 0, 98, []),
  (98, 1, 2, 0, 0, 0, 99, []),
  (99, 1, 3, 0, 0, 0, 100, []),
  (100, 32, 179, 5, 13, 0, 103, []),
  (103, 2, 0, 0, 0, 0, 104, []),
  (104, 32, 214, 1, 13, 0, 107, []),
  (107, 35, 0, 0, 0, 0, 108, [])]
/-- 236: ChunkCodeModel.functionStatement(I)V -/
def am_i236 : List (Nat × am_I) := [(0, 2, 0, 0, 0, 0, 1, []),
  (1, 20, 11, 4, 0, 0, 4, []),
  (4, 3, 2, 0, 0, 0, 5, []),
  (5, 2, 0, 0, 0, 0, 6, []),
  (6, 0, 0, 0, 0, 1, 7, []),
  (7, 32, 200, 2, 13, 0, 10, []),
  (10, 12, 1, 14, 0, 0, 13, []),
  (13, 35, 0, 0, 0, 0, 14, []),
  (14, 2, 0, 0, 0, 0, 15, []),
  (15, 32, 183, 1, 13, 0, 18, []),
  (18, 0, 0, 0, 0, 70, 20, []),
  (20, 13, 0, 66, 0, 0, 23, []),
  (23, 2, 0, 0, 0, 0, 24, []),
  (24, 32, 183, 1, 13, 0, 27, []),
  (27, 0, 0, 0, 0, 68, 29, []),
  (29, 13, 0, 66, 0, 0, 32, []),
  (32, 2, 0, 0, 0, 0, 33, []),
  (33, 1, 2, 0, 0, 0, 34, []),
  (34, 32, 237, 2, 13, 0, 37, []),
  (37, 3, 3, 0, 0, 0, 38, []),
  (38, 2, 0, 0, 0, 0, 39, []),
  (39, 0, 0, 0, 0, 16, 41, []),
  (41, 1, 3, 0, 0, 0, 42, []),
  (42, 2, 0, 0, 0, 0, 43, []),
  (43, 20, 11, 75, 0, 0, 46, []),
  (46, 1, 2, 0, 0, 0, 47, []),
  (47, 32, 179, 5, 13, 0, 50, []),
  (50, 2, 0, 0, 0, 0, 51, []),
  (51, 0, 0, 0, 0, 41, 53, []),
  (53, 1, 1, 0, 0, 0, 54, []),
  (54, 0, 0, 0, 0, 0, 55, []),
  (55, 0, 0, 0, 0, 0, 56, []),
  (56, 32, 179, 5, 13, 0, 59, []),
  (59, 2, 0, 0, 0, 0, 60, []),
  (60, 0, 0, 0, 0, 0, 61, []),
  (61, 1, 1, 0, 0, 0, 62, []),
  (62, 32, 195, 3, 13, 0, 65, []),
  (65, 35, 0, 0, 0, 0, 66, []),
  (66, 2, 0, 0, 0, 0, 67, []),
  (67, 0, 0, 0, 0, 3, 68, []),
  (68, 0, 0, 0, 0, 0, 69, []),
  (69, 1, 2, 0, 0, 0, 70, []),
  (70, 32, 190, 4, 13, 0, 73, []),
  (73, 2, 0, 0, 0, 0, 74, []),
  (74, 32, 209, 1, 13, 0, 77, []),
  (77, 0, 0, 0, 0, 0, 78, []),
  (78, 3, 3, 0, 0, 0, 79, []),
  (79, 2, 0, 0, 0, 0, 80, []),
  (80, 20, 11, 4, 0, 0, 83, []),
  (83, 3, 4, 0, 0, 0, 85, []),
  (85, 1, 3, 0, 0, 0, 86, []),
  (86, 12, 1, 218, 0, 0, 89, []),
  (89, 2, 0, 0, 0, 0, 90, []),
  (90, 32, 183, 1, 13, 0, 93, []),
  (93, 0, 0, 0, 0, 70, 95, []),
  (95, 13, 0, 107, 0, 0, 98, []),
  (98, 2, 0, 0, 0, 0, 99, []),
  (99, 32, 183, 1, 13, 0, 102, []),
  (102, 0, 0, 0, 0, 68, 104, []),
  (104, 13, 1, 218, 0, 0, 107, []),
  (107, 2, 0, 0, 0, 0, 108, []),
  (108, 32, 183, 1, 13, 0, 111, []),
  (111, 0, 0, 0, 0, 68, 113, []),
  (113, 13, 1, 120, 0, 0, 116, []),
  (116, 0, 0, 0, 0, 1, 117, []),
  (117, 18, 0, 121, 0, 0, 120, []),
  (120, 0, 0, 0, 0, 0, 121, []),
  (121, 3, 3, 0, 0, 0, 122, []),
  (122, 2, 0, 0, 0, 0, 123, []),
  (123, 20, 11, 4, 0, 0, 126, []),
  (126, 3, 4, 0, 0, 0, 128, []),
  (128, 2, 0, 0, 0, 0, 129, []),
  (129, 7, 0, 0, 0, 0, 130, []),
  (130, 20, 11, 4, 0, 0, 133, []),
  (133, 0, 0, 0, 0, 1, 134, []),
  (134, 10, 0, 0, 0, 0, 135, []),
  (135, 21, 11, 4, 0, 0, 138, []),
  (138, 2, 0, 0, 0, 0, 139, []),
  (139, 0, 0, 0, 0, 1, 140, []),
  (140, 32, 200, 2, 13, 0, 143, []),
  (143, 12, 1, 147, 0, 0, 146, []),
  (146, 35, 0, 0, 0, 0, 147, []),
  (147, 1, 3, 0, 0, 0, 148, []),
  (148, 12, 1, 169, 0, 0, 151, []),
  (151, 2, 0, 0, 0, 0, 152, []),
  (152, 32, 183, 1, 13, 0, 155, []),
  (155, 0, 0, 0, 0, 70, 157, []),
  (157, 13, 0, 173, 0, 0, 160, []),
  (160, 2, 0, 0, 0, 0, 161, []),
  (161, 32, 183, 1, 13, 0, 164, []),
  (164, 0, 0, 0, 0, 68, 166, []),
  (166, 13, 0, 173, 0, 0, 169, []),
  (169, 0, 0, 0, 0, 1, 170, []),
  (170, 18, 0, 174, 0, 0, 173, []),
  (173, 0, 0, 0, 0, 0, 174, []),
  (174, 3, 5, 0, 0, 0, 176, []),
  (176, 2, 0, 0, 0, 0, 177, []),
  (177, 1, 5, 0, 0, 0, 179, []),
  (179, 12, 0, 186, 0, 0, 182, []),
  (182, 0, 0, 0, 0, 5, 183, []),
  (183, 18, 0, 188, 0, 0, 186, []),
  (186, 0, 0, 0, 0, 12, 188, []),
  (188, 2, 0, 0, 0, 0, 189, []),
  (189, 20, 11, 2, 0, 0, 192, []),
  (192, 2, 0, 0, 0, 0, 193, []),
  (193, 20, 11, 4, 0, 0, 196, []),
  (196, 0, 0, 0, 0, 1, 197, []),
  (197, 10, 1, 0, 0, 0, 198, []),
  (198, 25, 0, 0, 0, 0, 199, []),
  (199, 0, 0, 0, 0, 0, 200, []),
  (200, 1, 5, 0, 0, 0, 202, []),
  (202, 12, 0, 209, 0, 0, 205, []),
  (205, 0, 0, 0, 0, 0, 206, []),
  (206, 18, 0, 211, 0, 0, 209, []),
  (209, 1, 4, 0, 0, 0, 211, []),
  (211, 32, 189, 5, 13, 0, 214, []),
  (214, 6, 0, 0, 0, 0, 215, []),
  (215, 18, 0, 85, 0, 0, 218, []),
  (218, 2, 0, 0, 0, 0, 219, []),
  (219, 0, 0, 0, 0, 16, 221, []),
  (221, 0, 0, 0, 0, 3, 222, []),
  (222, 0, 0, 0, 0, 0, 223, []),
  (223, 1, 4, 0, 0, 0, 225, []),
  (225, 32, 179, 5, 13, 0, 228, []),
  (228, 2, 0, 0, 0, 0, 229, []),
  (229, 0, 0, 0, 0, 41, 231, []),
  (231, 1, 1, 0, 0, 0, 232, []),
  (232, 0, 0, 0, 0, 0, 233, []),
  (233, 0, 0, 0, 0, 0, 234, []),
  (234, 32, 179, 5, 13, 0, 237, []),
  (237, 2, 0, 0, 0, 0, 238, []),
  (238, 1, 3, 0, 0, 0, 239, []),
  (239, 1, 1, 0, 0, 0, 240, []),
  (240, 32, 195, 3, 13, 0, 243, []),
  (243, 35, 0, 0, 0, 0, 244, [])]
/-- 237: ChunkCodeModel.target(I)I -/
def am_i237 : List (Nat × am_I) := [(0, 2, 0, 0, 0, 0, 1, []),
  (1, 2, 0, 0, 0, 0, 2, []),
  (2, 20, 11, 2, 0, 0, 5, []),
  (5, 1, 1, 0, 0, 0, 6, []),
  (6, 25, 0, 0, 0, 0, 7, []),
  (7, 32, 206, 2, 13, 0, 10, []),
  (10, 3, 2, 0, 0, 0, 11, []),
  (11, 1, 2, 0, 0, 0, 12, []),
  (12, 12, 2, 31, 0, 0, 15, []),
  (15, 2, 0, 0, 0, 0, 16, []),
  (16, 20, 11, 29, 0, 0, 19, []),
  (19, 1, 2, 0, 0, 0, 20, []),
  (20, 25, 1, 0, 0, 0, 21, []),
  (21, 12, 0, 31, 0, 0, 24, []),
  (24, 2, 0, 0, 0, 0, 25, []),
  (25, 0, 0, 0, 0, 10, 27, []),
  (27, 1, 1, 0, 0, 0, 28, []),
  (28, 32, 191, 3, 13, 0, 31, []),
  (31, 2, 0, 0, 0, 0, 32, []),
  (32, 1, 1, 0, 0, 0, 33, []),
  (33, 32, 205, 2, 13, 0, 36, []),
  (36, 33, 0, 0, 0, 0, 37, [])]
/-- 238: ChunkCodeModel.local(I)V -/
def am_i238 : List (Nat × am_I) := [(0, 2, 0, 0, 0, 0, 1, []),
  (1, 32, 183, 1, 13, 0, 4, []),
  (4, 0, 0, 0, 0, 18, 6, []),
  (6, 13, 1, 103, 0, 0, 9, []),
  (9, 2, 0, 0, 0, 0, 10, []),
  (10, 20, 11, 4, 0, 0, 13, []),
  (13, 3, 2, 0, 0, 0, 14, []),
  (14, 2, 0, 0, 0, 0, 15, []),
  (15, 0, 0, 0, 0, 18, 17, []),
  (17, 32, 193, 2, 13, 0, 20, []),
  (20, 12, 1, 24, 0, 0, 23, []),
  (23, 35, 0, 0, 0, 0, 24, []),
  (24, 2, 0, 0, 0, 0, 25, []),
  (25, 20, 11, 4, 0, 0, 28, []),
  (28, 3, 3, 0, 0, 0, 29, []),
  (29, 2, 0, 0, 0, 0, 30, []),
  (30, 0, 0, 0, 0, 1, 31, []),
  (31, 32, 200, 2, 13, 0, 34, []),
  (34, 12, 1, 38, 0, 0, 37, []),
  (37, 35, 0, 0, 0, 0, 38, []),
  (38, 2, 0, 0, 0, 0, 39, []),
  (39, 0, 0, 0, 0, 1, 40, []),
  (40, 0, 0, 0, 0, 0, 41, []),
  (41, 0, 0, 0, 0, 0, 42, []),
  (42, 0, 0, 0, 0, 0, 43, []),
  (43, 32, 189, 5, 13, 0, 46, []),
  (46, 6, 0, 0, 0, 0, 47, []),
  (47, 2, 0, 0, 0, 0, 48, []),
  (48, 32, 197, 1, 13, 0, 51, []),
  (51, 3, 4, 0, 0, 0, 53, []),
  (53, 2, 0, 0, 0, 0, 54, []),
  (54, 2, 0, 0, 0, 0, 55, []),
  (55, 20, 11, 2, 0, 0, 58, []),
  (58, 1, 3, 0, 0, 0, 59, []),
  (59, 25, 0, 0, 0, 0, 60, []),
  (60, 0, 0, 0, 0, 0, 61, []),
  (61, 0, 0, 0, 0, 0, 62, []),
  (62, 1, 3, 0, 0, 0, 63, []),
  (63, 32, 196, 5, 13, 0, 66, []),
  (66, 2, 0, 0, 0, 0, 67, []),
  (67, 0, 0, 0, 0, 27, 69, []),
  (69, 1, 4, 0, 0, 0, 71, []),
  (71, 0, 0, 0, 0, 1, 72, []),
  (72, 1, 1, 0, 0, 0, 73, []),
  (73, 32, 189, 5, 13, 0, 76, []),
  (76, 6, 0, 0, 0, 0, 77, []),
  (77, 2, 0, 0, 0, 0, 78, []),
  (78, 0, 0, 0, 0, 17, 80, []),
  (80, 1, 4, 0, 0, 0, 82, []),
  (82, 1, 3, 0, 0, 0, 83, []),
  (83, 0, 0, 0, 0, 0, 84, []),
  (84, 32, 179, 5, 13, 0, 87, []),
  (87, 2, 0, 0, 0, 0, 88, []),
  (88, 0, 0, 0, 0, 41, 90, []),
  (90, 1, 2, 0, 0, 0, 91, []),
  (91, 0, 0, 0, 0, 0, 92, []),
  (92, 0, 0, 0, 0, 0, 93, []),
  (93, 32, 179, 5, 13, 0, 96, []),
  (96, 2, 0, 0, 0, 0, 97, []),
  (97, 0, 0, 0, 0, 0, 98, []),
  (98, 1, 2, 0, 0, 0, 99, []),
  (99, 32, 195, 3, 13, 0, 102, []),
  (102, 35, 0, 0, 0, 0, 103, []),
  (103, 2, 0, 0, 0, 0, 104, []),
  (104, 20, 11, 20, 0, 0, 107, []),
  (107, 3, 2, 0, 0, 0, 108, []),
  (108, 0, 0, 0, 0, 1, 109, []),
  (109, 3, 3, 0, 0, 0, 110, []),
  (110, 0, 0, 0, 0, 0, 111, []),
  (111, 3, 4, 0, 0, 0, 113, []),
  (113, 1, 3, 0, 0, 0, 114, []),
  (114, 12, 0, 300, 0, 0, 117, []),
  (117, 2, 0, 0, 0, 0, 118, []),
  (118, 20, 11, 4, 0, 0, 121, []),
  (121, 3, 5, 0, 0, 0, 123, []),
  (123, 2, 0, 0, 0, 0, 124, []),
  (124, 0, 0, 0, 0, 1, 125, []),
  (125, 32, 200, 2, 13, 0, 128, []),
  (128, 12, 1, 132, 0, 0, 131, []),
  (131, 35, 0, 0, 0, 0, 132, []),
  (132, 0, 0, 0, 0, 0, 133, []),
  (133, 3, 6, 0, 0, 0, 135, []),
  (135, 2, 0, 0, 0, 0, 136, []),
  (136, 32, 183, 1, 13, 0, 139, []),
  (139, 0, 0, 0, 0, 57, 141, []),
  (141, 13, 1, 255, 0, 0, 144, []),
  (144, 2, 0, 0, 0, 0, 145, []),
  (145, 7, 0, 0, 0, 0, 146, []),
  (146, 20, 11, 4, 0, 0, 149, []),
  (149, 0, 0, 0, 0, 1, 150, []),
  (150, 10, 0, 0, 0, 0, 151, []),
  (151, 21, 11, 4, 0, 0, 154, []),
  (154, 2, 0, 0, 0, 0, 155, []),
  (155, 20, 11, 4, 0, 0, 158, []),
  (158, 3, 7, 0, 0, 0, 160, []),
  (160, 2, 0, 0, 0, 0, 161, []),
  (161, 0, 0, 0, 0, 1, 162, []),
  (162, 32, 200, 2, 13, 0, 165, []),
  (165, 12, 0, 177, 0, 0, 168, []),
  (168, 2, 0, 0, 0, 0, 169, []),
  (169, 0, 0, 0, 0, 58, 171, []),
  (171, 32, 200, 2, 13, 0, 174, []),
  (174, 12, 1, 178, 0, 0, 177, []),
  (177, 35, 0, 0, 0, 0, 178, []),
  (178, 2, 0, 0, 0, 0, 179, []),
  (179, 20, 11, 2, 0, 0, 182, []),
  (182, 1, 7, 0, 0, 0, 184, []),
  (184, 25, 0, 0, 0, 0, 185, []),
  (185, 0, 0, 0, 0, (-2), 187, []),
  (187, 13, 1, 194, 0, 0, 190, []),
  (190, 0, 0, 0, 0, 1, 191, []),
  (191, 18, 0, 211, 0, 0, 194, []),
  (194, 2, 0, 0, 0, 0, 195, []),
  (195, 20, 11, 2, 0, 0, 198, []),
  (198, 1, 7, 0, 0, 0, 200, []),
  (200, 25, 0, 0, 0, 0, 201, []),
  (201, 0, 0, 0, 0, (-3), 203, []),
  (203, 13, 1, 210, 0, 0, 206, []),
  (206, 0, 0, 0, 0, 2, 207, []),
  (207, 18, 0, 211, 0, 0, 210, []),
  (210, 0, 0, 0, 0, 0, 211, []),
  (211, 3, 6, 0, 0, 0, 213, []),
  (213, 1, 6, 0, 0, 0, 215, []),
  (215, 12, 0, 229, 0, 0, 218, []),
  (218, 1, 6, 0, 0, 0, 220, []),
  (220, 0, 0, 0, 0, 2, 221, []),
  (221, 13, 1, 237, 0, 0, 224, []),
  (224, 1, 4, 0, 0, 0, 226, []),
  (226, 12, 0, 237, 0, 0, 229, []),
  (229, 2, 0, 0, 0, 0, 230, []),
  (230, 0, 0, 0, 0, 9, 232, []),
  (232, 1, 7, 0, 0, 0, 234, []),
  (234, 32, 191, 3, 13, 0, 237, []),
  (237, 1, 4, 0, 0, 0, 239, []),
  (239, 12, 1, 248, 0, 0, 242, []),
  (242, 1, 6, 0, 0, 0, 244, []),
  (244, 0, 0, 0, 0, 2, 245, []),
  (245, 13, 1, 252, 0, 0, 248, []),
  (248, 0, 0, 0, 0, 1, 249, []),
  (249, 18, 0, 253, 0, 0, 252, []),
  (252, 0, 0, 0, 0, 0, 253, []),
  (253, 3, 4, 0, 0, 0, 255, []),
  (255, 2, 0, 0, 0, 0, 256, []),
  (256, 1, 6, 0, 0, 0, 258, []),
  (258, 0, 0, 0, 0, 0, 259, []),
  (259, 1, 5, 0, 0, 0, 261, []),
  (261, 32, 239, 4, 13, 0, 264, []),
  (264, 2, 0, 0, 0, 0, 265, []),
  (265, 32, 183, 1, 13, 0, 268, []),
  (268, 0, 0, 0, 0, 69, 270, []),
  (270, 13, 1, 277, 0, 0, 273, []),
  (273, 0, 0, 0, 0, 1, 274, []),
  (274, 18, 0, 278, 0, 0, 277, []),
  (277, 0, 0, 0, 0, 0, 278, []),
  (278, 3, 3, 0, 0, 0, 279, []),
  (279, 2, 0, 0, 0, 0, 280, []),
  (280, 7, 0, 0, 0, 0, 281, []),
  (281, 20, 11, 4, 0, 0, 284, []),
  (284, 1, 3, 0, 0, 0, 285, []),
  (285, 12, 0, 292, 0, 0, 288, []),
  (288, 0, 0, 0, 0, 1, 289, []),
  (289, 18, 0, 293, 0, 0, 292, []),
  (292, 0, 0, 0, 0, 0, 293, []),
  (293, 10, 0, 0, 0, 0, 294, []),
  (294, 21, 11, 4, 0, 0, 297, []),
  (297, 18, 0, 113, 0, 0, 300, []),
  (300, 2, 0, 0, 0, 0, 301, []),
  (301, 32, 183, 1, 13, 0, 304, []),
  (304, 0, 0, 0, 0, 59, 306, []),
  (306, 13, 1, 335, 0, 0, 309, []),
  (309, 2, 0, 0, 0, 0, 310, []),
  (310, 7, 0, 0, 0, 0, 311, []),
  (311, 20, 11, 4, 0, 0, 314, []),
  (314, 0, 0, 0, 0, 1, 315, []),
  (315, 10, 0, 0, 0, 0, 316, []),
  (316, 21, 11, 4, 0, 0, 319, []),
  (319, 2, 0, 0, 0, 0, 320, []),
  (320, 0, 0, 0, 0, 18, 322, []),
  (322, 1, 1, 0, 0, 0, 323, []),
  (323, 1, 2, 0, 0, 0, 324, []),
  (324, 0, 0, 0, 0, 0, 325, []),
  (325, 32, 179, 5, 13, 0, 328, []),
  (328, 2, 0, 0, 0, 0, 329, []),
  (329, 32, 214, 1, 13, 0, 332, []),
  (332, 18, 0, 351, 0, 0, 335, []),
  (335, 2, 0, 0, 0, 0, 336, []),
  (336, 2, 0, 0, 0, 0, 337, []),
  (337, 20, 11, 20, 0, 0, 340, []),
  (340, 1, 2, 0, 0, 0, 341, []),
  (341, 10, 1, 0, 0, 0, 342, []),
  (342, 32, 240, 2, 13, 0, 345, []),
  (345, 2, 0, 0, 0, 0, 346, []),
  (346, 1, 1, 0, 0, 0, 347, []),
  (347, 1, 2, 0, 0, 0, 348, []),
  (348, 32, 241, 3, 13, 0, 351, []),
  (351, 35, 0, 0, 0, 0, 352, [])]
/-- 239: ChunkCodeModel.keep(III)V -/
def am_i239 : List (Nat × am_I) := [(0, 2, 0, 0, 0, 0, 1, []),
  (1, 20, 11, 21, 0, 0, 4, []),
  (4, 2, 0, 0, 0, 0, 5, []),
  (5, 20, 11, 20, 0, 0, 8, []),
  (8, 1, 1, 0, 0, 0, 9, []),
  (9, 26, 0, 0, 0, 0, 10, []),
  (10, 2, 0, 0, 0, 0, 11, []),
  (11, 20, 11, 22, 0, 0, 14, []),
  (14, 2, 0, 0, 0, 0, 15, []),
  (15, 20, 11, 20, 0, 0, 18, []),
  (18, 1, 2, 0, 0, 0, 19, []),
  (19, 26, 0, 0, 0, 0, 20, []),
  (20, 2, 0, 0, 0, 0, 21, []),
  (21, 20, 11, 23, 0, 0, 24, []),
  (24, 2, 0, 0, 0, 0, 25, []),
  (25, 20, 11, 20, 0, 0, 28, []),
  (28, 1, 3, 0, 0, 0, 29, []),
  (29, 26, 0, 0, 0, 0, 30, []),
  (30, 2, 0, 0, 0, 0, 31, []),
  (31, 7, 0, 0, 0, 0, 32, []),
  (32, 20, 11, 20, 0, 0, 35, []),
  (35, 0, 0, 0, 0, 1, 36, []),
  (36, 10, 0, 0, 0, 0, 37, []),
  (37, 21, 11, 20, 0, 0, 40, []),
  (40, 35, 0, 0, 0, 0, 41, [])]
/-- 240: ChunkCodeModel.nils(I)V -/
def am_i240 : List (Nat × am_I) := [(0, 0, 0, 0, 0, 0, 1, []),
  (1, 3, 2, 0, 0, 0, 2, []),
  (2, 1, 2, 0, 0, 0, 3, []),
  (3, 1, 1, 0, 0, 0, 4, []),
  (4, 13, 3, 22, 0, 0, 7, []),
  (7, 2, 0, 0, 0, 0, 8, []),
  (8, 0, 0, 0, 0, 1, 9, []),
  (9, 0, 0, 0, 0, 0, 10, []),
  (10, 0, 0, 0, 0, 0, 11, []),
  (11, 0, 0, 0, 0, 0, 12, []),
  (12, 32, 189, 5, 13, 0, 15, []),
  (15, 6, 0, 0, 0, 0, 16, []),
  (16, 5, 2, 0, 0, 1, 19, []),
  (19, 18, 0, 2, 0, 0, 22, []),
  (22, 35, 0, 0, 0, 0, 23, [])]
/-- 241: ChunkCodeModel.localEnd(II)V -/
def am_i241 : List (Nat × am_I) := [(0, 2, 0, 0, 0, 0, 1, []),
  (1, 32, 197, 1, 13, 0, 4, []),
  (4, 3, 3, 0, 0, 0, 5, []),
  (5, 2, 0, 0, 0, 0, 6, []),
  (6, 20, 11, 20, 0, 0, 9, []),
  (9, 1, 2, 0, 0, 0, 10, []),
  (10, 10, 1, 0, 0, 0, 11, []),
  (11, 3, 4, 0, 0, 0, 13, []),
  (13, 1, 2, 0, 0, 0, 14, []),
  (14, 3, 5, 0, 0, 0, 16, []),
  (16, 1, 5, 0, 0, 0, 18, []),
  (18, 2, 0, 0, 0, 0, 19, []),
  (19, 20, 11, 20, 0, 0, 22, []),
  (22, 13, 3, 85, 0, 0, 25, []),
  (25, 2, 0, 0, 0, 0, 26, []),
  (26, 2, 0, 0, 0, 0, 27, []),
  (27, 20, 11, 2, 0, 0, 30, []),
  (30, 2, 0, 0, 0, 0, 31, []),
  (31, 20, 11, 23, 0, 0, 34, []),
  (34, 1, 5, 0, 0, 0, 36, []),
  (36, 25, 0, 0, 0, 0, 37, []),
  (37, 25, 0, 0, 0, 0, 38, []),
  (38, 2, 0, 0, 0, 0, 39, []),
  (39, 20, 11, 21, 0, 0, 42, []),
  (42, 1, 5, 0, 0, 0, 44, []),
  (44, 25, 0, 0, 0, 0, 45, []),
  (45, 12, 5, 52, 0, 0, 48, []),
  (48, 0, 0, 0, 0, 1, 49, []),
  (49, 18, 0, 53, 0, 0, 52, []),
  (52, 0, 0, 0, 0, 0, 53, []),
  (53, 2, 0, 0, 0, 0, 54, []),
  (54, 20, 11, 21, 0, 0, 57, []),
  (57, 1, 5, 0, 0, 0, 59, []),
  (59, 25, 0, 0, 0, 0, 60, []),
  (60, 0, 0, 0, 0, 2, 61, []),
  (61, 13, 1, 68, 0, 0, 64, []),
  (64, 0, 0, 0, 0, 1, 65, []),
  (65, 18, 0, 69, 0, 0, 68, []),
  (68, 0, 0, 0, 0, 0, 69, []),
  (69, 2, 0, 0, 0, 0, 70, []),
  (70, 20, 11, 23, 0, 0, 73, []),
  (73, 1, 5, 0, 0, 0, 75, []),
  (75, 25, 0, 0, 0, 0, 76, []),
  (76, 32, 196, 5, 13, 0, 79, []),
  (79, 5, 5, 0, 0, 1, 82, []),
  (82, 18, 0, 16, 0, 0, 85, []),
  (85, 2, 0, 0, 0, 0, 86, []),
  (86, 0, 0, 0, 0, 27, 88, []),
  (88, 1, 3, 0, 0, 0, 89, []),
  (89, 1, 4, 0, 0, 0, 91, []),
  (91, 1, 1, 0, 0, 0, 92, []),
  (92, 32, 189, 5, 13, 0, 95, []),
  (95, 6, 0, 0, 0, 0, 96, []),
  (96, 0, 0, 0, 0, 0, 97, []),
  (97, 3, 5, 0, 0, 0, 99, []),
  (99, 1, 5, 0, 0, 0, 101, []),
  (101, 1, 4, 0, 0, 0, 103, []),
  (103, 13, 3, 146, 0, 0, 106, []),
  (106, 2, 0, 0, 0, 0, 107, []),
  (107, 20, 11, 21, 0, 0, 110, []),
  (110, 1, 2, 0, 0, 0, 111, []),
  (111, 1, 5, 0, 0, 0, 113, []),
  (113, 10, 0, 0, 0, 0, 114, []),
  (114, 25, 0, 0, 0, 0, 115, []),
  (115, 0, 0, 0, 0, 2, 116, []),
  (116, 13, 1, 140, 0, 0, 119, []),
  (119, 2, 0, 0, 0, 0, 120, []),
  (120, 0, 0, 0, 0, 28, 122, []),
  (122, 1, 3, 0, 0, 0, 123, []),
  (123, 1, 5, 0, 0, 0, 125, []),
  (125, 10, 0, 0, 0, 0, 126, []),
  (126, 0, 0, 0, 0, 0, 127, []),
  (127, 2, 0, 0, 0, 0, 128, []),
  (128, 20, 11, 23, 0, 0, 131, []),
  (131, 1, 2, 0, 0, 0, 132, []),
  (132, 1, 5, 0, 0, 0, 134, []),
  (134, 10, 0, 0, 0, 0, 135, []),
  (135, 25, 0, 0, 0, 0, 136, []),
  (136, 32, 189, 5, 13, 0, 139, []),
  (139, 6, 0, 0, 0, 0, 140, []),
  (140, 5, 5, 0, 0, 1, 143, []),
  (143, 18, 0, 99, 0, 0, 146, []),
  (146, 2, 0, 0, 0, 0, 147, []),
  (147, 1, 2, 0, 0, 0, 148, []),
  (148, 21, 11, 20, 0, 0, 151, []),
  (151, 35, 0, 0, 0, 0, 152, [])]
/-- 242: ChunkCodeModel.endBlock()V -/
def am_i242 : List (Nat × am_I) := [(0, 2, 0, 0, 0, 0, 1, []),
  (1, 32, 243, 1, 13, 0, 4, []),
  (4, 12, 0, 20, 0, 0, 7, []),
  (7, 2, 0, 0, 0, 0, 8, []),
  (8, 0, 0, 0, 0, 33, 10, []),
  (10, 2, 0, 0, 0, 0, 11, []),
  (11, 32, 232, 1, 13, 0, 14, []),
  (14, 0, 0, 0, 0, 0, 15, []),
  (15, 0, 0, 0, 0, 0, 16, []),
  (16, 32, 189, 5, 13, 0, 19, []),
  (19, 6, 0, 0, 0, 0, 20, []),
  (20, 2, 0, 0, 0, 0, 21, []),
  (21, 32, 224, 1, 13, 0, 24, []),
  (24, 35, 0, 0, 0, 0, 25, [])]
/-- 243: ChunkCodeModel.hasLocals()Z -/
def am_i243 : List (Nat × am_I) := [(0, 2, 0, 0, 0, 0, 1, []),
  (1, 20, 11, 24, 0, 0, 4, []),
  (4, 2, 0, 0, 0, 0, 5, []),
  (5, 20, 11, 38, 0, 0, 8, []),
  (8, 2, 0, 0, 0, 0, 9, []),
  (9, 20, 11, 37, 0, 0, 12, []),
  (12, 0, 0, 0, 0, 1, 13, []),
  (13, 10, 1, 0, 0, 0, 14, []),
  (14, 25, 0, 0, 0, 0, 15, []),
  (15, 13, 5, 22, 0, 0, 18, []),
  (18, 0, 0, 0, 0, 1, 19, []),
  (19, 18, 0, 23, 0, 0, 22, []),
  (22, 0, 0, 0, 0, 0, 23, []),
  (23, 36, 0, 0, 0, 0, 24, [])]
/-- 244: ChunkCodeModel.whileDo(I)V -/
def am_i244 : List (Nat × am_I) := [(0, 2, 0, 0, 0, 0, 1, []),
  (1, 32, 209, 1, 13, 0, 4, []),
  (4, 2, 0, 0, 0, 0, 5, []),
  (5, 0, 0, 0, 0, 12, 7, []),
  (7, 32, 193, 2, 13, 0, 10, []),
  (10, 12, 1, 14, 0, 0, 13, []),
  (13, 35, 0, 0, 0, 0, 14, []),
  (14, 2, 0, 0, 0, 0, 15, []),
  (15, 0, 0, 0, 0, 35, 17, []),
  (17, 0, 0, 0, 0, 0, 18, []),
  (18, 0, 0, 0, 0, 0, 19, []),
  (19, 0, 0, 0, 0, 0, 20, []),
  (20, 32, 189, 5, 13, 0, 23, []),
  (23, 3, 2, 0, 0, 0, 24, []),
  (24, 2, 0, 0, 0, 0, 25, []),
  (25, 0, 0, 0, 0, 1, 26, []),
  (26, 32, 177, 2, 13, 0, 29, []),
  (29, 2, 0, 0, 0, 0, 30, []),
  (30, 0, 0, 0, 0, 4, 31, []),
  (31, 1, 2, 0, 0, 0, 32, []),
  (32, 1, 1, 0, 0, 0, 33, []),
  (33, 0, 0, 0, 0, 0, 34, []),
  (34, 32, 179, 5, 13, 0, 37, []),
  (37, 2, 0, 0, 0, 0, 38, []),
  (38, 32, 178, 1, 13, 0, 41, []),
  (41, 35, 0, 0, 0, 0, 42, [])]
/-- 245: ChunkCodeModel.whileEnd(II)V -/
def am_i245 : List (Nat × am_I) := [(0, 2, 0, 0, 0, 0, 1, []),
  (1, 32, 242, 1, 13, 0, 4, []),
  (4, 2, 0, 0, 0, 0, 5, []),
  (5, 0, 0, 0, 0, 36, 7, []),
  (7, 1, 2, 0, 0, 0, 8, []),
  (8, 0, 0, 0, 0, 0, 9, []),
  (9, 0, 0, 0, 0, 0, 10, []),
  (10, 32, 189, 5, 13, 0, 13, []),
  (13, 6, 0, 0, 0, 0, 14, []),
  (14, 2, 0, 0, 0, 0, 15, []),
  (15, 20, 11, 71, 0, 0, 18, []),
  (18, 1, 1, 0, 0, 0, 19, []),
  (19, 2, 0, 0, 0, 0, 20, []),
  (20, 32, 210, 1, 13, 0, 23, []),
  (23, 26, 0, 0, 0, 0, 24, []),
  (24, 2, 0, 0, 0, 0, 25, []),
  (25, 32, 246, 1, 13, 0, 28, []),
  (28, 2, 0, 0, 0, 0, 29, []),
  (29, 0, 0, 0, 0, 15, 31, []),
  (31, 32, 199, 2, 13, 0, 34, []),
  (34, 6, 0, 0, 0, 0, 35, []),
  (35, 35, 0, 0, 0, 0, 36, [])]
/-- 246: ChunkCodeModel.mendBreaks()V -/
def am_i246 : List (Nat × am_I) := [(0, 2, 0, 0, 0, 0, 1, []),
  (1, 20, 11, 43, 0, 0, 4, []),
  (4, 2, 0, 0, 0, 0, 5, []),
  (5, 20, 11, 37, 0, 0, 8, []),
  (8, 25, 0, 0, 0, 0, 9, []),
  (9, 3, 1, 0, 0, 0, 10, []),
  (10, 1, 1, 0, 0, 0, 11, []),
  (11, 12, 5, 40, 0, 0, 14, []),
  (14, 2, 0, 0, 0, 0, 15, []),
  (15, 20, 11, 71, 0, 0, 18, []),
  (18, 1, 1, 0, 0, 0, 19, []),
  (19, 0, 0, 0, 0, 1, 20, []),
  (20, 10, 1, 0, 0, 0, 21, []),
  (21, 25, 0, 0, 0, 0, 22, []),
  (22, 3, 2, 0, 0, 0, 23, []),
  (23, 2, 0, 0, 0, 0, 24, []),
  (24, 20, 11, 71, 0, 0, 27, []),
  (27, 1, 1, 0, 0, 0, 28, []),
  (28, 0, 0, 0, 0, 1, 29, []),
  (29, 10, 1, 0, 0, 0, 30, []),
  (30, 2, 0, 0, 0, 0, 31, []),
  (31, 32, 210, 1, 13, 0, 34, []),
  (34, 26, 0, 0, 0, 0, 35, []),
  (35, 1, 2, 0, 0, 0, 36, []),
  (36, 3, 1, 0, 0, 0, 37, []),
  (37, 18, 0, 10, 0, 0, 40, []),
  (40, 35, 0, 0, 0, 0, 41, [])]
/-- 247: ChunkCodeModel.repeatEnd(I)V -/
def am_i247 : List (Nat × am_I) := [(0, 2, 0, 0, 0, 0, 1, []),
  (1, 32, 209, 1, 13, 0, 4, []),
  (4, 2, 0, 0, 0, 0, 5, []),
  (5, 32, 243, 1, 13, 0, 8, []),
  (8, 12, 0, 70, 0, 0, 11, []),
  (11, 2, 0, 0, 0, 0, 12, []),
  (12, 0, 0, 0, 0, 37, 14, []),
  (14, 0, 0, 0, 0, 0, 15, []),
  (15, 0, 0, 0, 0, 0, 16, []),
  (16, 0, 0, 0, 0, 0, 17, []),
  (17, 32, 189, 5, 13, 0, 20, []),
  (20, 3, 2, 0, 0, 0, 21, []),
  (21, 2, 0, 0, 0, 0, 22, []),
  (22, 0, 0, 0, 0, 33, 24, []),
  (24, 2, 0, 0, 0, 0, 25, []),
  (25, 32, 232, 1, 13, 0, 28, []),
  (28, 0, 0, 0, 0, 0, 29, []),
  (29, 0, 0, 0, 0, 0, 30, []),
  (30, 32, 189, 5, 13, 0, 33, []),
  (33, 6, 0, 0, 0, 0, 34, []),
  (34, 2, 0, 0, 0, 0, 35, []),
  (35, 0, 0, 0, 0, 36, 37, []),
  (37, 1, 1, 0, 0, 0, 38, []),
  (38, 0, 0, 0, 0, 0, 39, []),
  (39, 0, 0, 0, 0, 0, 40, []),
  (40, 32, 189, 5, 13, 0, 43, []),
  (43, 6, 0, 0, 0, 0, 44, []),
  (44, 2, 0, 0, 0, 0, 45, []),
  (45, 20, 11, 71, 0, 0, 48, []),
  (48, 1, 2, 0, 0, 0, 49, []),
  (49, 2, 0, 0, 0, 0, 50, []),
  (50, 32, 210, 1, 13, 0, 53, []),
  (53, 26, 0, 0, 0, 0, 54, []),
  (54, 2, 0, 0, 0, 0, 55, []),
  (55, 0, 0, 0, 0, 33, 57, []),
  (57, 2, 0, 0, 0, 0, 58, []),
  (58, 32, 232, 1, 13, 0, 61, []),
  (61, 0, 0, 0, 0, 0, 62, []),
  (62, 0, 0, 0, 0, 0, 63, []),
  (63, 32, 189, 5, 13, 0, 66, []),
  (66, 6, 0, 0, 0, 0, 67, []),
  (67, 18, 0, 80, 0, 0, 70, []),
  (70, 2, 0, 0, 0, 0, 71, []),
  (71, 0, 0, 0, 0, 35, 73, []),
  (73, 1, 1, 0, 0, 0, 74, []),
  (74, 0, 0, 0, 0, 0, 75, []),
  (75, 0, 0, 0, 0, 0, 76, []),
  (76, 32, 189, 5, 13, 0, 79, []),
  (79, 6, 0, 0, 0, 0, 80, []),
  (80, 2, 0, 0, 0, 0, 81, []),
  (81, 32, 224, 1, 13, 0, 84, []),
  (84, 2, 0, 0, 0, 0, 85, []),
  (85, 32, 246, 1, 13, 0, 88, []),
  (88, 35, 0, 0, 0, 0, 89, [])]
/-- 248: ChunkCodeModel.then(I)V -/
def am_i248 : List (Nat × am_I) := [(0, 2, 0, 0, 0, 0, 1, []),
  (1, 32, 209, 1, 13, 0, 4, []),
  (4, 2, 0, 0, 0, 0, 5, []),
  (5, 0, 0, 0, 0, 28, 7, []),
  (7, 32, 193, 2, 13, 0, 10, []),
  (10, 12, 1, 14, 0, 0, 13, []),
  (13, 35, 0, 0, 0, 0, 14, []),
  (14, 2, 0, 0, 0, 0, 15, []),
  (15, 0, 0, 0, 0, 35, 17, []),
  (17, 0, 0, 0, 0, 0, 18, []),
  (18, 0, 0, 0, 0, 0, 19, []),
  (19, 0, 0, 0, 0, 0, 20, []),
  (20, 32, 189, 5, 13, 0, 23, []),
  (23, 3, 2, 0, 0, 0, 24, []),
  (24, 2, 0, 0, 0, 0, 25, []),
  (25, 0, 0, 0, 0, 0, 26, []),
  (26, 32, 177, 2, 13, 0, 29, []),
  (29, 2, 0, 0, 0, 0, 30, []),
  (30, 0, 0, 0, 0, 8, 32, []),
  (32, 1, 2, 0, 0, 0, 33, []),
  (33, 1, 1, 0, 0, 0, 34, []),
  (34, 0, 0, 0, 0, 0, 35, []),
  (35, 32, 179, 5, 13, 0, 38, []),
  (38, 2, 0, 0, 0, 0, 39, []),
  (39, 32, 178, 1, 13, 0, 42, []),
  (42, 35, 0, 0, 0, 0, 43, [])]
/-- 249: ChunkCodeModel.partEnd(II)V -/
def am_i249 : List (Nat × am_I) := [(0, 2, 0, 0, 0, 0, 1, []),
  (1, 32, 242, 1, 13, 0, 4, []),
  (4, 2, 0, 0, 0, 0, 5, []),
  (5, 32, 183, 1, 13, 0, 8, []),
  (8, 3, 3, 0, 0, 0, 9, []),
  (9, 1, 3, 0, 0, 0, 10, []),
  (10, 0, 0, 0, 0, 15, 12, []),
  (12, 13, 1, 40, 0, 0, 15, []),
  (15, 2, 0, 0, 0, 0, 16, []),
  (16, 0, 0, 0, 0, 15, 18, []),
  (18, 32, 199, 2, 13, 0, 21, []),
  (21, 6, 0, 0, 0, 0, 22, []),
  (22, 2, 0, 0, 0, 0, 23, []),
  (23, 20, 11, 71, 0, 0, 26, []),
  (26, 1, 1, 0, 0, 0, 27, []),
  (27, 2, 0, 0, 0, 0, 28, []),
  (28, 32, 210, 1, 13, 0, 31, []),
  (31, 26, 0, 0, 0, 0, 32, []),
  (32, 2, 0, 0, 0, 0, 33, []),
  (33, 1, 2, 0, 0, 0, 34, []),
  (34, 32, 250, 2, 13, 0, 37, []),
  (37, 18, 0, 148, 0, 0, 40, []),
  (40, 1, 3, 0, 0, 0, 41, []),
  (41, 0, 0, 0, 0, 14, 43, []),
  (43, 13, 0, 52, 0, 0, 46, []),
  (46, 1, 3, 0, 0, 0, 47, []),
  (47, 0, 0, 0, 0, 13, 49, []),
  (49, 13, 1, 141, 0, 0, 52, []),
  (52, 2, 0, 0, 0, 0, 53, []),
  (53, 0, 0, 0, 0, 36, 55, []),
  (55, 1, 2, 0, 0, 0, 56, []),
  (56, 0, 0, 0, 0, 0, 57, []),
  (57, 0, 0, 0, 0, 0, 58, []),
  (58, 32, 189, 5, 13, 0, 61, []),
  (61, 0, 0, 0, 0, 1, 62, []),
  (62, 10, 0, 0, 0, 0, 63, []),
  (63, 3, 4, 0, 0, 0, 65, []),
  (65, 2, 0, 0, 0, 0, 66, []),
  (66, 20, 11, 71, 0, 0, 69, []),
  (69, 1, 1, 0, 0, 0, 70, []),
  (70, 2, 0, 0, 0, 0, 71, []),
  (71, 32, 210, 1, 13, 0, 74, []),
  (74, 26, 0, 0, 0, 0, 75, []),
  (75, 2, 0, 0, 0, 0, 76, []),
  (76, 7, 0, 0, 0, 0, 77, []),
  (77, 20, 11, 4, 0, 0, 80, []),
  (80, 0, 0, 0, 0, 1, 81, []),
  (81, 10, 0, 0, 0, 0, 82, []),
  (82, 21, 11, 4, 0, 0, 85, []),
  (85, 1, 3, 0, 0, 0, 86, []),
  (86, 0, 0, 0, 0, 14, 88, []),
  (88, 13, 1, 119, 0, 0, 91, []),
  (91, 2, 0, 0, 0, 0, 92, []),
  (92, 7, 0, 0, 0, 0, 93, []),
  (93, 20, 11, 5, 0, 0, 96, []),
  (96, 0, 0, 0, 0, 1, 97, []),
  (97, 10, 1, 0, 0, 0, 98, []),
  (98, 21, 11, 5, 0, 0, 101, []),
  (101, 2, 0, 0, 0, 0, 102, []),
  (102, 0, 0, 0, 0, 7, 104, []),
  (104, 1, 4, 0, 0, 0, 106, []),
  (106, 0, 0, 0, 0, 0, 107, []),
  (107, 0, 0, 0, 0, 0, 108, []),
  (108, 32, 179, 5, 13, 0, 111, []),
  (111, 2, 0, 0, 0, 0, 112, []),
  (112, 0, 0, 0, 0, 0, 113, []),
  (113, 32, 186, 2, 13, 0, 116, []),
  (116, 18, 0, 138, 0, 0, 119, []),
  (119, 2, 0, 0, 0, 0, 120, []),
  (120, 0, 0, 0, 0, 0, 121, []),
  (121, 32, 177, 2, 13, 0, 124, []),
  (124, 2, 0, 0, 0, 0, 125, []),
  (125, 0, 0, 0, 0, 9, 127, []),
  (127, 1, 4, 0, 0, 0, 129, []),
  (129, 0, 0, 0, 0, 0, 130, []),
  (130, 0, 0, 0, 0, 0, 131, []),
  (131, 32, 179, 5, 13, 0, 134, []),
  (134, 2, 0, 0, 0, 0, 135, []),
  (135, 32, 178, 1, 13, 0, 138, []),
  (138, 18, 0, 148, 0, 0, 141, []),
  (141, 2, 0, 0, 0, 0, 142, []),
  (142, 0, 0, 0, 0, 7, 144, []),
  (144, 32, 194, 2, 13, 0, 147, []),
  (147, 6, 0, 0, 0, 0, 148, []),
  (148, 35, 0, 0, 0, 0, 149, [])]
/-- 250: ChunkCodeModel.mend(I)V -/
def am_i250 : List (Nat × am_I) := [(0, 1, 1, 0, 0, 0, 1, []),
  (1, 3, 2, 0, 0, 0, 2, []),
  (2, 1, 2, 0, 0, 0, 3, []),
  (3, 12, 5, 32, 0, 0, 6, []),
  (6, 2, 0, 0, 0, 0, 7, []),
  (7, 20, 11, 71, 0, 0, 10, []),
  (10, 1, 2, 0, 0, 0, 11, []),
  (11, 0, 0, 0, 0, 1, 12, []),
  (12, 10, 1, 0, 0, 0, 13, []),
  (13, 25, 0, 0, 0, 0, 14, []),
  (14, 3, 3, 0, 0, 0, 15, []),
  (15, 2, 0, 0, 0, 0, 16, []),
  (16, 20, 11, 71, 0, 0, 19, []),
  (19, 1, 2, 0, 0, 0, 20, []),
  (20, 0, 0, 0, 0, 1, 21, []),
  (21, 10, 1, 0, 0, 0, 22, []),
  (22, 2, 0, 0, 0, 0, 23, []),
  (23, 32, 210, 1, 13, 0, 26, []),
  (26, 26, 0, 0, 0, 0, 27, []),
  (27, 1, 3, 0, 0, 0, 28, []),
  (28, 3, 2, 0, 0, 0, 29, []),
  (29, 18, 0, 2, 0, 0, 32, []),
  (32, 35, 0, 0, 0, 0, 33, [])]
/-- 251: ChunkCodeModel.forSecond(I)V -/
def am_i251 : List (Nat × am_I) := [(0, 2, 0, 0, 0, 0, 1, []),
  (1, 32, 209, 1, 13, 0, 4, []),
  (4, 2, 0, 0, 0, 0, 5, []),
  (5, 0, 0, 0, 0, 69, 7, []),
  (7, 32, 200, 2, 13, 0, 10, []),
  (10, 12, 1, 14, 0, 0, 13, []),
  (13, 35, 0, 0, 0, 0, 14, []),
  (14, 2, 0, 0, 0, 0, 15, []),
  (15, 0, 0, 0, 0, 11, 17, []),
  (17, 1, 1, 0, 0, 0, 18, []),
  (18, 0, 0, 0, 0, 0, 19, []),
  (19, 0, 0, 0, 0, 0, 20, []),
  (20, 32, 179, 5, 13, 0, 23, []),
  (23, 2, 0, 0, 0, 0, 24, []),
  (24, 0, 0, 0, 0, 0, 25, []),
  (25, 32, 186, 2, 13, 0, 28, []),
  (28, 35, 0, 0, 0, 0, 29, [])]
/-- 252: ChunkCodeModel.forThird(I)V -/
def am_i252 : List (Nat × am_I) := [(0, 2, 0, 0, 0, 0, 1, []),
  (1, 32, 209, 1, 13, 0, 4, []),
  (4, 2, 0, 0, 0, 0, 5, []),
  (5, 32, 183, 1, 13, 0, 8, []),
  (8, 0, 0, 0, 0, 69, 10, []),
  (10, 13, 1, 40, 0, 0, 13, []),
  (13, 2, 0, 0, 0, 0, 14, []),
  (14, 7, 0, 0, 0, 0, 15, []),
  (15, 20, 11, 4, 0, 0, 18, []),
  (18, 0, 0, 0, 0, 1, 19, []),
  (19, 10, 0, 0, 0, 0, 20, []),
  (20, 21, 11, 4, 0, 0, 23, []),
  (23, 2, 0, 0, 0, 0, 24, []),
  (24, 0, 0, 0, 0, 12, 26, []),
  (26, 1, 1, 0, 0, 0, 27, []),
  (27, 0, 0, 0, 0, 0, 28, []),
  (28, 0, 0, 0, 0, 0, 29, []),
  (29, 32, 179, 5, 13, 0, 32, []),
  (32, 2, 0, 0, 0, 0, 33, []),
  (33, 0, 0, 0, 0, 0, 34, []),
  (34, 32, 186, 2, 13, 0, 37, []),
  (37, 18, 0, 55, 0, 0, 40, []),
  (40, 2, 0, 0, 0, 0, 41, []),
  (41, 0, 0, 0, 0, 4, 42, []),
  (42, 0, 0, 0, 0, (-4), 44, []),
  (44, 0, 0, 0, 0, 0, 45, []),
  (45, 0, 0, 0, 0, 0, 46, []),
  (46, 32, 189, 5, 13, 0, 49, []),
  (49, 6, 0, 0, 0, 0, 50, []),
  (50, 2, 0, 0, 0, 0, 51, []),
  (51, 1, 1, 0, 0, 0, 52, []),
  (52, 32, 253, 2, 13, 0, 55, []),
  (55, 35, 0, 0, 0, 0, 56, [])]
/-- 253: ChunkCodeModel.forNumbers(I)V -/
def am_i253 : List (Nat × am_I) := [(0, 2, 0, 0, 0, 0, 1, []),
  (1, 0, 0, 0, 0, 12, 3, []),
  (3, 32, 193, 2, 13, 0, 6, []),
  (6, 12, 1, 10, 0, 0, 9, []),
  (9, 35, 0, 0, 0, 0, 10, []),
  (10, 2, 0, 0, 0, 0, 11, []),
  (11, 32, 197, 1, 13, 0, 14, []),
  (14, 3, 2, 0, 0, 0, 15, []),
  (15, 2, 0, 0, 0, 0, 16, []),
  (16, 0, 0, 0, 0, 3, 17, []),
  (17, 0, 0, 0, 0, 0, 18, []),
  (18, 1, 1, 0, 0, 0, 19, []),
  (19, 32, 254, 4, 13, 0, 22, []),
  (22, 2, 0, 0, 0, 0, 23, []),
  (23, 0, 0, 0, 0, 38, 25, []),
  (25, 1, 2, 0, 0, 0, 26, []),
  (26, 0, 0, 0, 0, 0, 27, []),
  (27, 1, 1, 0, 0, 0, 28, []),
  (28, 32, 189, 5, 13, 0, 31, []),
  (31, 3, 3, 0, 0, 0, 32, []),
  (32, 2, 0, 0, 0, 0, 33, []),
  (33, 32, 210, 1, 13, 0, 36, []),
  (36, 3, 4, 0, 0, 0, 38, []),
  (38, 2, 0, 0, 0, 0, 39, []),
  (39, 0, 0, 0, 0, 34, 41, []),
  (41, 0, 0, 0, 0, 0, 42, []),
  (42, 0, 0, 0, 0, 0, 43, []),
  (43, 1, 1, 0, 0, 0, 44, []),
  (44, 32, 189, 5, 13, 0, 47, []),
  (47, 6, 0, 0, 0, 0, 48, []),
  (48, 2, 0, 0, 0, 0, 49, []),
  (49, 0, 0, 0, 0, 39, 51, []),
  (51, 1, 2, 0, 0, 0, 52, []),
  (52, 0, 0, 0, 0, 0, 53, []),
  (53, 0, 0, 0, 0, 0, 54, []),
  (54, 32, 189, 5, 13, 0, 57, []),
  (57, 6, 0, 0, 0, 0, 58, []),
  (58, 2, 0, 0, 0, 0, 59, []),
  (59, 0, 0, 0, 0, 1, 60, []),
  (60, 32, 177, 2, 13, 0, 63, []),
  (63, 2, 0, 0, 0, 0, 64, []),
  (64, 2, 0, 0, 0, 0, 65, []),
  (65, 20, 11, 2, 0, 0, 68, []),
  (68, 1, 1, 0, 0, 0, 69, []),
  (69, 0, 0, 0, 0, 1, 70, []),
  (70, 10, 0, 0, 0, 0, 71, []),
  (71, 25, 0, 0, 0, 0, 72, []),
  (72, 0, 0, 0, 0, 0, 73, []),
  (73, 0, 0, 0, 0, 0, 74, []),
  (74, 1, 1, 0, 0, 0, 75, []),
  (75, 0, 0, 0, 0, 1, 76, []),
  (76, 10, 0, 0, 0, 0, 77, []),
  (77, 32, 196, 5, 13, 0, 80, []),
  (80, 2, 0, 0, 0, 0, 81, []),
  (81, 0, 0, 0, 0, 13, 83, []),
  (83, 1, 3, 0, 0, 0, 84, []),
  (84, 1, 4, 0, 0, 0, 86, []),
  (86, 1, 2, 0, 0, 0, 87, []),
  (87, 32, 179, 5, 13, 0, 90, []),
  (90, 2, 0, 0, 0, 0, 91, []),
  (91, 32, 178, 1, 13, 0, 94, []),
  (94, 35, 0, 0, 0, 0, 95, [])]
/-- 254: ChunkCodeModel.hide(IZI)V -/
def am_i254 : List (Nat × am_I) := [(0, 0, 0, 0, 0, 0, 1, []),
  (1, 3, 4, 0, 0, 0, 3, []),
  (3, 1, 4, 0, 0, 0, 5, []),
  (5, 1, 1, 0, 0, 0, 6, []),
  (6, 13, 3, 51, 0, 0, 9, []),
  (9, 2, 0, 0, 0, 0, 10, []),
  (10, 0, 0, 0, 0, 0, 11, []),
  (11, 0, 0, 0, 0, 1, 12, []),
  (12, 1, 2, 0, 0, 0, 13, []),
  (13, 12, 0, 28, 0, 0, 16, []),
  (16, 1, 4, 0, 0, 0, 18, []),
  (18, 0, 0, 0, 0, 1, 19, []),
  (19, 10, 0, 0, 0, 0, 20, []),
  (20, 1, 1, 0, 0, 0, 21, []),
  (21, 13, 1, 28, 0, 0, 24, []),
  (24, 0, 0, 0, 0, 1, 25, []),
  (25, 18, 0, 29, 0, 0, 28, []),
  (28, 0, 0, 0, 0, 0, 29, []),
  (29, 1, 3, 0, 0, 0, 30, []),
  (30, 32, 196, 5, 13, 0, 33, []),
  (33, 2, 0, 0, 0, 0, 34, []),
  (34, 20, 11, 28, 0, 0, 37, []),
  (37, 2, 0, 0, 0, 0, 38, []),
  (38, 20, 11, 24, 0, 0, 41, []),
  (41, 0, 0, 0, 0, 1, 42, []),
  (42, 10, 1, 0, 0, 0, 43, []),
  (43, 0, 0, 0, 0, 1, 44, []),
  (44, 26, 1, 0, 0, 0, 45, []),
  (45, 5, 4, 0, 0, 1, 48, []),
  (48, 18, 0, 3, 0, 0, 51, []),
  (51, 35, 0, 0, 0, 0, 52, [])]
/-- 255: ChunkCodeModel.forNumbersEnd(III)V -/
def am_i255 : List (Nat × am_I) := [(0, 2, 0, 0, 0, 0, 1, []),
  (1, 0, 0, 0, 0, 33, 3, []),
  (3, 1, 3, 0, 0, 0, 4, []),
  (4, 0, 0, 0, 0, 3, 5, []),
  (5, 10, 0, 0, 0, 0, 6, []),
  (6, 0, 0, 0, 0, 0, 7, []),
  (7, 0, 0, 0, 0, 0, 8, []),
  (8, 32, 189, 5, 13, 0, 11, []),
  (11, 6, 0, 0, 0, 0, 12, []),
  (12, 2, 0, 0, 0, 0, 13, []),
  (13, 32, 224, 1, 13, 0, 16, []),
  (16, 2, 0, 0, 0, 0, 17, []),
  (17, 0, 0, 0, 0, 40, 19, []),
  (19, 1, 3, 0, 0, 0, 20, []),
  (20, 1, 2, 0, 0, 0, 21, []),
  (21, 0, 0, 0, 0, 0, 22, []),
  (22, 32, 189, 5, 13, 0, 25, []),
  (25, 6, 0, 0, 0, 0, 26, []),
  (26, 2, 0, 0, 0, 0, 27, []),
  (27, 20, 11, 72, 0, 0, 30, []),
  (30, 1, 1, 0, 0, 0, 31, []),
  (31, 2, 0, 0, 0, 0, 32, []),
  (32, 32, 210, 1, 13, 0, 35, []),
  (35, 26, 0, 0, 0, 0, 36, []),
  (36, 2, 0, 0, 0, 0, 37, []),
  (37, 32, 246, 1, 13, 0, 40, []),
  (40, 2, 0, 0, 0, 0, 41, []),
  (41, 0, 0, 0, 0, 41, 43, []),
  (43, 1, 3, 0, 0, 0, 44, []),
  (44, 0, 0, 0, 0, 0, 45, []),
  (45, 0, 0, 0, 0, 0, 46, []),
  (46, 32, 189, 5, 13, 0, 49, []),
  (49, 6, 0, 0, 0, 0, 50, []),
  (50, 2, 0, 0, 0, 0, 51, []),
  (51, 1, 3, 0, 0, 0, 52, []),
  (52, 32, 256, 2, 13, 0, 55, []),
  (55, 2, 0, 0, 0, 0, 56, []),
  (56, 0, 0, 0, 0, 15, 58, []),
  (58, 32, 199, 2, 13, 0, 61, []),
  (61, 6, 0, 0, 0, 0, 62, []),
  (62, 35, 0, 0, 0, 0, 63, [])]
/-- 256: ChunkCodeModel.unhide(I)V -/
def am_i256 : List (Nat × am_I) := [(0, 2, 0, 0, 0, 0, 1, []),
  (1, 2, 0, 0, 0, 0, 2, []),
  (2, 20, 11, 34, 0, 0, 5, []),
  (5, 2, 0, 0, 0, 0, 6, []),
  (6, 20, 11, 32, 0, 0, 9, []),
  (9, 25, 0, 0, 0, 0, 10, []),
  (10, 1, 1, 0, 0, 0, 11, []),
  (11, 10, 0, 0, 0, 0, 12, []),
  (12, 21, 11, 24, 0, 0, 15, []),
  (15, 2, 0, 0, 0, 0, 16, []),
  (16, 20, 11, 40, 0, 0, 19, []),
  (19, 2, 0, 0, 0, 0, 20, []),
  (20, 20, 11, 37, 0, 0, 23, []),
  (23, 25, 0, 0, 0, 0, 24, []),
  (24, 3, 2, 0, 0, 0, 25, []),
  (25, 1, 2, 0, 0, 0, 26, []),
  (26, 2, 0, 0, 0, 0, 27, []),
  (27, 20, 11, 48, 0, 0, 30, []),
  (30, 13, 3, 65, 0, 0, 33, []),
  (33, 2, 0, 0, 0, 0, 34, []),
  (34, 20, 11, 52, 0, 0, 37, []),
  (37, 1, 2, 0, 0, 0, 38, []),
  (38, 2, 0, 0, 0, 0, 39, []),
  (39, 20, 11, 52, 0, 0, 42, []),
  (42, 1, 2, 0, 0, 0, 43, []),
  (43, 25, 0, 0, 0, 0, 44, []),
  (44, 1, 1, 0, 0, 0, 45, []),
  (45, 13, 5, 52, 0, 0, 48, []),
  (48, 1, 1, 0, 0, 0, 49, []),
  (49, 18, 0, 58, 0, 0, 52, []),
  (52, 2, 0, 0, 0, 0, 53, []),
  (53, 20, 11, 52, 0, 0, 56, []),
  (56, 1, 2, 0, 0, 0, 57, []),
  (57, 25, 0, 0, 0, 0, 58, []),
  (58, 26, 0, 0, 0, 0, 59, []),
  (59, 5, 2, 0, 0, 1, 62, []),
  (62, 18, 0, 25, 0, 0, 65, []),
  (65, 35, 0, 0, 0, 0, 66, [])]
/-- 257: ChunkCodeModel.each(III)V -/
def am_i257 : List (Nat × am_I) := [(0, 2, 0, 0, 0, 0, 1, []),
  (1, 0, 0, 0, 0, 4, 2, []),
  (2, 2, 0, 0, 0, 0, 3, []),
  (3, 20, 11, 19, 0, 0, 6, []),
  (6, 32, 258, 3, 13, 0, 9, []),
  (9, 2, 0, 0, 0, 0, 10, []),
  (10, 0, 0, 0, 0, 12, 12, []),
  (12, 32, 193, 2, 13, 0, 15, []),
  (15, 12, 1, 19, 0, 0, 18, []),
  (18, 35, 0, 0, 0, 0, 19, []),
  (19, 2, 0, 0, 0, 0, 20, []),
  (20, 32, 197, 1, 13, 0, 23, []),
  (23, 3, 4, 0, 0, 0, 25, []),
  (25, 2, 0, 0, 0, 0, 26, []),
  (26, 0, 0, 0, 0, 4, 27, []),
  (27, 0, 0, 0, 0, 1, 28, []),
  (28, 1, 1, 0, 0, 0, 29, []),
  (29, 32, 254, 4, 13, 0, 32, []),
  (32, 2, 0, 0, 0, 0, 33, []),
  (33, 0, 0, 0, 0, 42, 35, []),
  (35, 1, 4, 0, 0, 0, 37, []),
  (37, 0, 0, 0, 0, 0, 38, []),
  (38, 1, 1, 0, 0, 0, 39, []),
  (39, 32, 189, 5, 13, 0, 42, []),
  (42, 6, 0, 0, 0, 0, 43, []),
  (43, 2, 0, 0, 0, 0, 44, []),
  (44, 32, 210, 1, 13, 0, 47, []),
  (47, 3, 5, 0, 0, 0, 49, []),
  (49, 2, 0, 0, 0, 0, 50, []),
  (50, 0, 0, 0, 0, 34, 52, []),
  (52, 0, 0, 0, 0, 0, 53, []),
  (53, 0, 0, 0, 0, 0, 54, []),
  (54, 1, 1, 0, 0, 0, 55, []),
  (55, 32, 189, 5, 13, 0, 58, []),
  (58, 6, 0, 0, 0, 0, 59, []),
  (59, 2, 0, 0, 0, 0, 60, []),
  (60, 0, 0, 0, 0, 43, 62, []),
  (62, 1, 4, 0, 0, 0, 64, []),
  (64, 1, 2, 0, 0, 0, 65, []),
  (65, 1, 3, 0, 0, 0, 66, []),
  (66, 32, 189, 5, 13, 0, 69, []),
  (69, 6, 0, 0, 0, 0, 70, []),
  (70, 2, 0, 0, 0, 0, 71, []),
  (71, 0, 0, 0, 0, 44, 73, []),
  (73, 1, 4, 0, 0, 0, 75, []),
  (75, 0, 0, 0, 0, 0, 76, []),
  (76, 0, 0, 0, 0, 0, 77, []),
  (77, 32, 189, 5, 13, 0, 80, []),
  (80, 3, 6, 0, 0, 0, 82, []),
  (82, 2, 0, 0, 0, 0, 83, []),
  (83, 0, 0, 0, 0, 1, 84, []),
  (84, 32, 177, 2, 13, 0, 87, []),
  (87, 0, 0, 0, 0, 0, 88, []),
  (88, 3, 7, 0, 0, 0, 90, []),
  (90, 1, 7, 0, 0, 0, 92, []),
  (92, 1, 2, 0, 0, 0, 93, []),
  (93, 13, 3, 129, 0, 0, 96, []),
  (96, 2, 0, 0, 0, 0, 97, []),
  (97, 2, 0, 0, 0, 0, 98, []),
  (98, 20, 11, 2, 0, 0, 101, []),
  (101, 1, 1, 0, 0, 0, 102, []),
  (102, 0, 0, 0, 0, 1, 103, []),
  (103, 10, 0, 0, 0, 0, 104, []),
  (104, 0, 0, 0, 0, 2, 105, []),
  (105, 1, 7, 0, 0, 0, 107, []),
  (107, 10, 2, 0, 0, 0, 108, []),
  (108, 10, 0, 0, 0, 0, 109, []),
  (109, 25, 0, 0, 0, 0, 110, []),
  (110, 0, 0, 0, 0, 0, 111, []),
  (111, 0, 0, 0, 0, 0, 112, []),
  (112, 1, 1, 0, 0, 0, 113, []),
  (113, 0, 0, 0, 0, 1, 114, []),
  (114, 10, 0, 0, 0, 0, 115, []),
  (115, 0, 0, 0, 0, 2, 116, []),
  (116, 1, 7, 0, 0, 0, 118, []),
  (118, 10, 2, 0, 0, 0, 119, []),
  (119, 10, 0, 0, 0, 0, 120, []),
  (120, 32, 196, 5, 13, 0, 123, []),
  (123, 5, 7, 0, 0, 1, 126, []),
  (126, 18, 0, 90, 0, 0, 129, []),
  (129, 2, 0, 0, 0, 0, 130, []),
  (130, 0, 0, 0, 0, 15, 132, []),
  (132, 1, 6, 0, 0, 0, 134, []),
  (134, 1, 5, 0, 0, 0, 136, []),
  (136, 1, 4, 0, 0, 0, 138, []),
  (138, 32, 179, 5, 13, 0, 141, []),
  (141, 2, 0, 0, 0, 0, 142, []),
  (142, 32, 178, 1, 13, 0, 145, []),
  (145, 35, 0, 0, 0, 0, 146, [])]
/-- 258: ChunkCodeModel.adjust(II)V -/
def am_i258 : List (Nat × am_I) := [(0, 2, 0, 0, 0, 0, 1, []),
  (1, 32, 216, 1, 13, 0, 4, []),
  (4, 12, 0, 31, 0, 0, 7, []),
  (7, 1, 2, 0, 0, 0, 8, []),
  (8, 1, 1, 0, 0, 0, 9, []),
  (9, 13, 4, 31, 0, 0, 12, []),
  (12, 2, 0, 0, 0, 0, 13, []),
  (13, 32, 217, 1, 13, 0, 16, []),
  (16, 2, 0, 0, 0, 0, 17, []),
  (17, 0, 0, 0, 0, 25, 19, []),
  (19, 1, 1, 0, 0, 0, 20, []),
  (20, 1, 2, 0, 0, 0, 21, []),
  (21, 10, 1, 0, 0, 0, 22, []),
  (22, 0, 0, 0, 0, 1, 23, []),
  (23, 10, 0, 0, 0, 0, 24, []),
  (24, 0, 0, 0, 0, 0, 25, []),
  (25, 0, 0, 0, 0, 0, 26, []),
  (26, 32, 189, 5, 13, 0, 29, []),
  (29, 6, 0, 0, 0, 0, 30, []),
  (30, 35, 0, 0, 0, 0, 31, []),
  (31, 2, 0, 0, 0, 0, 32, []),
  (32, 32, 209, 1, 13, 0, 35, []),
  (35, 2, 0, 0, 0, 0, 36, []),
  (36, 1, 1, 0, 0, 0, 37, []),
  (37, 1, 2, 0, 0, 0, 38, []),
  (38, 10, 1, 0, 0, 0, 39, []),
  (39, 32, 240, 2, 13, 0, 42, []),
  (42, 1, 2, 0, 0, 0, 43, []),
  (43, 1, 1, 0, 0, 0, 44, []),
  (44, 13, 5, 59, 0, 0, 47, []),
  (47, 2, 0, 0, 0, 0, 48, []),
  (48, 0, 0, 0, 0, 26, 50, []),
  (50, 1, 2, 0, 0, 0, 51, []),
  (51, 1, 1, 0, 0, 0, 52, []),
  (52, 10, 1, 0, 0, 0, 53, []),
  (53, 0, 0, 0, 0, 0, 54, []),
  (54, 0, 0, 0, 0, 0, 55, []),
  (55, 32, 189, 5, 13, 0, 58, []),
  (58, 6, 0, 0, 0, 0, 59, []),
  (59, 35, 0, 0, 0, 0, 60, [])]
/-- 259: ChunkCodeModel.eachEnd(III)V -/
def am_i259 : List (Nat × am_I) := [(0, 2, 0, 0, 0, 0, 1, []),
  (1, 0, 0, 0, 0, 33, 3, []),
  (3, 1, 3, 0, 0, 0, 4, []),
  (4, 0, 0, 0, 0, 4, 5, []),
  (5, 10, 0, 0, 0, 0, 6, []),
  (6, 0, 0, 0, 0, 0, 7, []),
  (7, 0, 0, 0, 0, 0, 8, []),
  (8, 32, 189, 5, 13, 0, 11, []),
  (11, 6, 0, 0, 0, 0, 12, []),
  (12, 2, 0, 0, 0, 0, 13, []),
  (13, 32, 224, 1, 13, 0, 16, []),
  (16, 2, 0, 0, 0, 0, 17, []),
  (17, 0, 0, 0, 0, 36, 19, []),
  (19, 1, 2, 0, 0, 0, 20, []),
  (20, 0, 0, 0, 0, 0, 21, []),
  (21, 0, 0, 0, 0, 0, 22, []),
  (22, 32, 189, 5, 13, 0, 25, []),
  (25, 6, 0, 0, 0, 0, 26, []),
  (26, 2, 0, 0, 0, 0, 27, []),
  (27, 20, 11, 72, 0, 0, 30, []),
  (30, 1, 1, 0, 0, 0, 31, []),
  (31, 2, 0, 0, 0, 0, 32, []),
  (32, 32, 210, 1, 13, 0, 35, []),
  (35, 26, 0, 0, 0, 0, 36, []),
  (36, 2, 0, 0, 0, 0, 37, []),
  (37, 0, 0, 0, 0, 33, 39, []),
  (39, 1, 3, 0, 0, 0, 40, []),
  (40, 0, 0, 0, 0, 4, 41, []),
  (41, 10, 0, 0, 0, 0, 42, []),
  (42, 0, 0, 0, 0, 0, 43, []),
  (43, 0, 0, 0, 0, 0, 44, []),
  (44, 32, 189, 5, 13, 0, 47, []),
  (47, 6, 0, 0, 0, 0, 48, []),
  (48, 2, 0, 0, 0, 0, 49, []),
  (49, 32, 246, 1, 13, 0, 52, []),
  (52, 2, 0, 0, 0, 0, 53, []),
  (53, 0, 0, 0, 0, 41, 55, []),
  (55, 1, 3, 0, 0, 0, 56, []),
  (56, 0, 0, 0, 0, 0, 57, []),
  (57, 0, 0, 0, 0, 0, 58, []),
  (58, 32, 189, 5, 13, 0, 61, []),
  (61, 6, 0, 0, 0, 0, 62, []),
  (62, 2, 0, 0, 0, 0, 63, []),
  (63, 1, 3, 0, 0, 0, 64, []),
  (64, 32, 256, 2, 13, 0, 67, []),
  (67, 2, 0, 0, 0, 0, 68, []),
  (68, 0, 0, 0, 0, 15, 70, []),
  (70, 32, 199, 2, 13, 0, 73, []),
  (73, 6, 0, 0, 0, 0, 74, []),
  (74, 35, 0, 0, 0, 0, 75, [])]
/-- 260: ChunkCodeModel.functionEnd(III)V -/
def am_i260 : List (Nat × am_I) := [(0, 2, 0, 0, 0, 0, 1, []),
  (1, 7, 0, 0, 0, 0, 2, []),
  (2, 20, 11, 15, 0, 0, 5, []),
  (5, 0, 0, 0, 0, 1, 6, []),
  (6, 10, 1, 0, 0, 0, 7, []),
  (7, 21, 11, 15, 0, 0, 10, []),
  (10, 1, 1, 0, 0, 0, 11, []),
  (11, 0, 0, 0, 0, 3, 12, []),
  (12, 13, 3, 30, 0, 0, 15, []),
  (15, 2, 0, 0, 0, 0, 16, []),
  (16, 0, 0, 0, 0, 29, 18, []),
  (18, 1, 1, 0, 0, 0, 19, []),
  (19, 10, 0, 0, 0, 0, 20, []),
  (20, 1, 2, 0, 0, 0, 21, []),
  (21, 0, 0, 0, 0, 0, 22, []),
  (22, 1, 3, 0, 0, 0, 23, []),
  (23, 32, 189, 5, 13, 0, 26, []),
  (26, 6, 0, 0, 0, 0, 27, []),
  (27, 18, 0, 50, 0, 0, 30, []),
  (30, 2, 0, 0, 0, 0, 31, []),
  (31, 0, 0, 0, 0, 32, 33, []),
  (33, 0, 0, 0, 0, 0, 34, []),
  (34, 0, 0, 0, 0, 0, 35, []),
  (35, 1, 3, 0, 0, 0, 36, []),
  (36, 32, 189, 5, 13, 0, 39, []),
  (39, 6, 0, 0, 0, 0, 40, []),
  (40, 2, 0, 0, 0, 0, 41, []),
  (41, 0, 0, 0, 0, 26, 43, []),
  (43, 0, 0, 0, 0, 2, 44, []),
  (44, 0, 0, 0, 0, 0, 45, []),
  (45, 0, 0, 0, 0, 0, 46, []),
  (46, 32, 189, 5, 13, 0, 49, []),
  (49, 6, 0, 0, 0, 0, 50, []),
  (50, 35, 0, 0, 0, 0, 51, [])]
/-- 261: ChunkCodeModel.given(I)V -/
def am_i261 : List (Nat × am_I) := [(0, 2, 0, 0, 0, 0, 1, []),
  (1, 20, 11, 17, 0, 0, 4, []),
  (4, 2, 0, 0, 0, 0, 5, []),
  (5, 20, 11, 15, 0, 0, 8, []),
  (8, 0, 0, 0, 0, 1, 9, []),
  (9, 10, 1, 0, 0, 0, 10, []),
  (10, 25, 0, 0, 0, 0, 11, []),
  (11, 3, 2, 0, 0, 0, 12, []),
  (12, 2, 0, 0, 0, 0, 13, []),
  (13, 20, 11, 19, 0, 0, 16, []),
  (16, 0, 0, 0, 0, 1, 17, []),
  (17, 13, 1, 77, 0, 0, 20, []),
  (20, 2, 0, 0, 0, 0, 21, []),
  (21, 20, 11, 16, 0, 0, 24, []),
  (24, 2, 0, 0, 0, 0, 25, []),
  (25, 20, 11, 15, 0, 0, 28, []),
  (28, 0, 0, 0, 0, 1, 29, []),
  (29, 10, 1, 0, 0, 0, 30, []),
  (30, 25, 0, 0, 0, 0, 31, []),
  (31, 0, 0, 0, 0, 1, 32, []),
  (32, 13, 1, 77, 0, 0, 35, []),
  (35, 2, 0, 0, 0, 0, 36, []),
  (36, 32, 262, 1, 13, 0, 39, []),
  (39, 12, 0, 77, 0, 0, 42, []),
  (42, 2, 0, 0, 0, 0, 43, []),
  (43, 20, 11, 70, 0, 0, 46, []),
  (46, 1, 2, 0, 0, 0, 47, []),
  (47, 0, 0, 0, 0, 46, 49, []),
  (49, 26, 0, 0, 0, 0, 50, []),
  (50, 2, 0, 0, 0, 0, 51, []),
  (51, 20, 11, 72, 0, 0, 54, []),
  (54, 1, 2, 0, 0, 0, 55, []),
  (55, 2, 0, 0, 0, 0, 56, []),
  (56, 20, 11, 72, 0, 0, 59, []),
  (59, 1, 2, 0, 0, 0, 60, []),
  (60, 25, 0, 0, 0, 0, 61, []),
  (61, 0, 0, 0, 0, 1, 62, []),
  (62, 10, 3, 0, 0, 0, 63, []),
  (63, 26, 0, 0, 0, 0, 64, []),
  (64, 2, 0, 0, 0, 0, 65, []),
  (65, 7, 0, 0, 0, 0, 66, []),
  (66, 20, 11, 15, 0, 0, 69, []),
  (69, 0, 0, 0, 0, 1, 70, []),
  (70, 10, 1, 0, 0, 0, 71, []),
  (71, 21, 11, 15, 0, 0, 74, []),
  (74, 18, 0, 123, 0, 0, 77, []),
  (77, 2, 0, 0, 0, 0, 78, []),
  (78, 32, 216, 1, 13, 0, 81, []),
  (81, 12, 0, 106, 0, 0, 84, []),
  (84, 2, 0, 0, 0, 0, 85, []),
  (85, 32, 217, 1, 13, 0, 88, []),
  (88, 2, 0, 0, 0, 0, 89, []),
  (89, 0, 0, 0, 0, 45, 91, []),
  (91, 2, 0, 0, 0, 0, 92, []),
  (92, 20, 11, 19, 0, 0, 95, []),
  (95, 0, 0, 0, 0, 1, 96, []),
  (96, 10, 1, 0, 0, 0, 97, []),
  (97, 0, 0, 0, 0, 1, 98, []),
  (98, 1, 1, 0, 0, 0, 99, []),
  (99, 32, 189, 5, 13, 0, 102, []),
  (102, 6, 0, 0, 0, 0, 103, []),
  (103, 18, 0, 123, 0, 0, 106, []),
  (106, 2, 0, 0, 0, 0, 107, []),
  (107, 32, 209, 1, 13, 0, 110, []),
  (110, 2, 0, 0, 0, 0, 111, []),
  (111, 0, 0, 0, 0, 45, 113, []),
  (113, 2, 0, 0, 0, 0, 114, []),
  (114, 20, 11, 19, 0, 0, 117, []),
  (117, 0, 0, 0, 0, 0, 118, []),
  (118, 1, 1, 0, 0, 0, 119, []),
  (119, 32, 189, 5, 13, 0, 122, []),
  (122, 6, 0, 0, 0, 0, 123, []),
  (123, 35, 0, 0, 0, 0, 124, [])]
/-- 262: ChunkCodeModel.mayTail()Z -/
def am_i262 : List (Nat × am_I) := [(0, 0, 0, 0, 0, 1, 1, []),
  (1, 3, 1, 0, 0, 0, 2, []),
  (2, 2, 0, 0, 0, 0, 3, []),
  (3, 20, 11, 34, 0, 0, 6, []),
  (6, 2, 0, 0, 0, 0, 7, []),
  (7, 20, 11, 32, 0, 0, 10, []),
  (10, 25, 0, 0, 0, 0, 11, []),
  (11, 3, 2, 0, 0, 0, 12, []),
  (12, 1, 2, 0, 0, 0, 13, []),
  (13, 2, 0, 0, 0, 0, 14, []),
  (14, 20, 11, 24, 0, 0, 17, []),
  (17, 13, 3, 45, 0, 0, 20, []),
  (20, 1, 1, 0, 0, 0, 21, []),
  (21, 12, 0, 37, 0, 0, 24, []),
  (24, 2, 0, 0, 0, 0, 25, []),
  (25, 20, 11, 30, 0, 0, 28, []),
  (28, 1, 2, 0, 0, 0, 29, []),
  (29, 25, 1, 0, 0, 0, 30, []),
  (30, 12, 1, 37, 0, 0, 33, []),
  (33, 0, 0, 0, 0, 1, 34, []),
  (34, 18, 0, 38, 0, 0, 37, []),
  (37, 0, 0, 0, 0, 0, 38, []),
  (38, 3, 1, 0, 0, 0, 39, []),
  (39, 5, 2, 0, 0, 1, 42, []),
  (42, 18, 0, 12, 0, 0, 45, []),
  (45, 1, 1, 0, 0, 0, 46, []),
  (46, 36, 0, 0, 0, 0, 47, [])]
/-- 263: ChunkCodeModel.givenEnd()V -/
def am_i263 : List (Nat × am_I) := [(0, 2, 0, 0, 0, 0, 1, []),
  (1, 32, 183, 1, 13, 0, 4, []),
  (4, 0, 0, 0, 0, 67, 6, []),
  (6, 13, 1, 19, 0, 0, 9, []),
  (9, 2, 0, 0, 0, 0, 10, []),
  (10, 7, 0, 0, 0, 0, 11, []),
  (11, 20, 11, 4, 0, 0, 14, []),
  (14, 0, 0, 0, 0, 1, 15, []),
  (15, 10, 0, 0, 0, 0, 16, []),
  (16, 21, 11, 4, 0, 0, 19, []),
  (19, 2, 0, 0, 0, 0, 20, []),
  (20, 32, 183, 1, 13, 0, 23, []),
  (23, 32, 226, 1, 0, 0, 26, []),
  (26, 12, 1, 36, 0, 0, 29, []),
  (29, 2, 0, 0, 0, 0, 30, []),
  (30, 0, 0, 0, 0, 7, 32, []),
  (32, 32, 194, 2, 13, 0, 35, []),
  (35, 6, 0, 0, 0, 0, 36, []),
  (36, 35, 0, 0, 0, 0, 37, [])]
/-- 264: ChunkCodeModel.statementEnd(II)V -/
def am_i264 : List (Nat × am_I) := [(0, 2, 0, 0, 0, 0, 1, []),
  (1, 20, 11, 16, 0, 0, 4, []),
  (4, 2, 0, 0, 0, 0, 5, []),
  (5, 20, 11, 15, 0, 0, 8, []),
  (8, 0, 0, 0, 0, 1, 9, []),
  (9, 10, 1, 0, 0, 0, 10, []),
  (10, 25, 0, 0, 0, 0, 11, []),
  (11, 3, 3, 0, 0, 0, 12, []),
  (12, 2, 0, 0, 0, 0, 13, []),
  (13, 32, 183, 1, 13, 0, 16, []),
  (16, 3, 4, 0, 0, 0, 18, []),
  (18, 1, 4, 0, 0, 0, 20, []),
  (20, 0, 0, 0, 0, 59, 22, []),
  (22, 13, 0, 32, 0, 0, 25, []),
  (25, 1, 4, 0, 0, 0, 27, []),
  (27, 0, 0, 0, 0, 69, 29, []),
  (29, 13, 1, 36, 0, 0, 32, []),
  (32, 0, 0, 0, 0, 1, 33, []),
  (33, 18, 0, 37, 0, 0, 36, []),
  (36, 0, 0, 0, 0, 0, 37, []),
  (37, 3, 5, 0, 0, 0, 39, []),
  (39, 1, 3, 0, 0, 0, 40, []),
  (40, 0, 0, 0, 0, 1, 41, []),
  (41, 13, 1, 84, 0, 0, 44, []),
  (44, 1, 1, 0, 0, 0, 45, []),
  (45, 12, 1, 84, 0, 0, 48, []),
  (48, 1, 5, 0, 0, 0, 50, []),
  (50, 12, 1, 84, 0, 0, 53, []),
  (53, 2, 0, 0, 0, 0, 54, []),
  (54, 20, 11, 72, 0, 0, 57, []),
  (57, 2, 0, 0, 0, 0, 58, []),
  (58, 20, 11, 17, 0, 0, 61, []),
  (61, 2, 0, 0, 0, 0, 62, []),
  (62, 20, 11, 15, 0, 0, 65, []),
  (65, 0, 0, 0, 0, 1, 66, []),
  (66, 10, 1, 0, 0, 0, 67, []),
  (67, 25, 0, 0, 0, 0, 68, []),
  (68, 8, 0, 0, 0, 0, 69, []),
  (69, 25, 0, 0, 0, 0, 70, []),
  (70, 0, 0, 0, 0, 1, 71, []),
  (71, 10, 3, 0, 0, 0, 72, []),
  (72, 26, 0, 0, 0, 0, 73, []),
  (73, 2, 0, 0, 0, 0, 74, []),
  (74, 7, 0, 0, 0, 0, 75, []),
  (75, 20, 11, 15, 0, 0, 78, []),
  (78, 0, 0, 0, 0, 1, 79, []),
  (79, 10, 1, 0, 0, 0, 80, []),
  (80, 21, 11, 15, 0, 0, 83, []),
  (83, 35, 0, 0, 0, 0, 84, []),
  (84, 1, 3, 0, 0, 0, 85, []),
  (85, 0, 0, 0, 0, 3, 86, []),
  (86, 13, 2, 94, 0, 0, 89, []),
  (89, 1, 5, 0, 0, 0, 91, []),
  (91, 12, 1, 102, 0, 0, 94, []),
  (94, 2, 0, 0, 0, 0, 95, []),
  (95, 0, 0, 0, 0, 7, 97, []),
  (97, 32, 194, 2, 13, 0, 100, []),
  (100, 6, 0, 0, 0, 0, 101, []),
  (101, 35, 0, 0, 0, 0, 102, []),
  (102, 2, 0, 0, 0, 0, 103, []),
  (103, 20, 11, 18, 0, 0, 106, []),
  (106, 2, 0, 0, 0, 0, 107, []),
  (107, 20, 11, 15, 0, 0, 110, []),
  (110, 0, 0, 0, 0, 1, 111, []),
  (111, 10, 1, 0, 0, 0, 112, []),
  (112, 25, 0, 0, 0, 0, 113, []),
  (113, 3, 6, 0, 0, 0, 115, []),
  (115, 1, 3, 0, 0, 0, 116, []),
  (116, 0, 0, 0, 0, 3, 117, []),
  (117, 13, 1, 143, 0, 0, 120, []),
  (120, 2, 0, 0, 0, 0, 121, []),
  (121, 1, 6, 0, 0, 0, 123, []),
  (123, 32, 237, 2, 13, 0, 126, []),
  (126, 3, 7, 0, 0, 0, 128, []),
  (128, 2, 0, 0, 0, 0, 129, []),
  (129, 1, 7, 0, 0, 0, 131, []),
  (131, 2, 0, 0, 0, 0, 132, []),
  (132, 20, 11, 75, 0, 0, 135, []),
  (135, 1, 6, 0, 0, 0, 137, []),
  (137, 32, 239, 4, 13, 0, 140, []),
  (140, 18, 0, 175, 0, 0, 143, []),
  (143, 1, 3, 0, 0, 0, 144, []),
  (144, 0, 0, 0, 0, 5, 145, []),
  (145, 13, 1, 167, 0, 0, 148, []),
  (148, 2, 0, 0, 0, 0, 149, []),
  (149, 0, 0, 0, 0, 5, 150, []),
  (150, 2, 0, 0, 0, 0, 151, []),
  (151, 20, 11, 17, 0, 0, 154, []),
  (154, 2, 0, 0, 0, 0, 155, []),
  (155, 20, 11, 15, 0, 0, 158, []),
  (158, 0, 0, 0, 0, 1, 159, []),
  (159, 10, 1, 0, 0, 0, 160, []),
  (160, 25, 0, 0, 0, 0, 161, []),
  (161, 0, 0, 0, 0, 0, 162, []),
  (162, 0, 0, 0, 0, 0, 163, []),
  (163, 32, 189, 5, 13, 0, 166, []),
  (166, 6, 0, 0, 0, 0, 167, []),
  (167, 2, 0, 0, 0, 0, 168, []),
  (168, 0, 0, 0, 0, 3, 169, []),
  (169, 0, 0, 0, 0, 0, 170, []),
  (170, 1, 6, 0, 0, 0, 172, []),
  (172, 32, 239, 4, 13, 0, 175, []),
  (175, 2, 0, 0, 0, 0, 176, []),
  (176, 7, 0, 0, 0, 0, 177, []),
  (177, 20, 11, 15, 0, 0, 180, []),
  (180, 0, 0, 0, 0, 1, 181, []),
  (181, 10, 1, 0, 0, 0, 182, []),
  (182, 21, 11, 15, 0, 0, 185, []),
  (185, 2, 0, 0, 0, 0, 186, []),
  (186, 7, 0, 0, 0, 0, 187, []),
  (187, 20, 11, 4, 0, 0, 190, []),
  (190, 0, 0, 0, 0, 1, 191, []),
  (191, 10, 0, 0, 0, 0, 192, []),
  (192, 21, 11, 4, 0, 0, 195, []),
  (195, 1, 4, 0, 0, 0, 197, []),
  (197, 0, 0, 0, 0, 69, 199, []),
  (199, 13, 1, 229, 0, 0, 202, []),
  (202, 2, 0, 0, 0, 0, 203, []),
  (203, 0, 0, 0, 0, 21, 205, []),
  (205, 1, 1, 0, 0, 0, 206, []),
  (206, 0, 0, 0, 0, 1, 207, []),
  (207, 10, 0, 0, 0, 0, 208, []),
  (208, 1, 2, 0, 0, 0, 209, []),
  (209, 0, 0, 0, 0, 0, 210, []),
  (210, 32, 179, 5, 13, 0, 213, []),
  (213, 2, 0, 0, 0, 0, 214, []),
  (214, 0, 0, 0, 0, 28, 216, []),
  (216, 0, 0, 0, 0, 0, 217, []),
  (217, 0, 0, 0, 0, 0, 218, []),
  (218, 0, 0, 0, 0, 0, 219, []),
  (219, 32, 179, 5, 13, 0, 222, []),
  (222, 2, 0, 0, 0, 0, 223, []),
  (223, 32, 201, 1, 13, 0, 226, []),
  (226, 18, 0, 244, 0, 0, 229, []),
  (229, 2, 0, 0, 0, 0, 230, []),
  (230, 0, 0, 0, 0, 22, 232, []),
  (232, 1, 1, 0, 0, 0, 233, []),
  (233, 0, 0, 0, 0, 1, 234, []),
  (234, 10, 0, 0, 0, 0, 235, []),
  (235, 1, 2, 0, 0, 0, 236, []),
  (236, 0, 0, 0, 0, 0, 237, []),
  (237, 32, 179, 5, 13, 0, 240, []),
  (240, 2, 0, 0, 0, 0, 241, []),
  (241, 32, 214, 1, 13, 0, 244, []),
  (244, 35, 0, 0, 0, 0, 245, [])]
/-- 265: ChunkCodeModel.assign(II)V -/
def am_i265 : List (Nat × am_I) := [(0, 2, 0, 0, 0, 0, 1, []),
  (1, 1, 1, 0, 0, 0, 2, []),
  (2, 2, 0, 0, 0, 0, 3, []),
  (3, 20, 11, 19, 0, 0, 6, []),
  (6, 32, 258, 3, 13, 0, 9, []),
  (9, 0, 0, 0, 0, 0, 10, []),
  (10, 3, 3, 0, 0, 0, 11, []),
  (11, 1, 1, 0, 0, 0, 12, []),
  (12, 0, 0, 0, 0, 1, 13, []),
  (13, 10, 1, 0, 0, 0, 14, []),
  (14, 3, 4, 0, 0, 0, 16, []),
  (16, 1, 4, 0, 0, 0, 18, []),
  (18, 12, 2, 102, 0, 0, 21, []),
  (21, 2, 0, 0, 0, 0, 22, []),
  (22, 20, 11, 21, 0, 0, 25, []),
  (25, 1, 2, 0, 0, 0, 26, []),
  (26, 1, 4, 0, 0, 0, 28, []),
  (28, 10, 0, 0, 0, 0, 29, []),
  (29, 25, 0, 0, 0, 0, 30, []),
  (30, 3, 5, 0, 0, 0, 32, []),
  (32, 1, 5, 0, 0, 0, 34, []),
  (34, 0, 0, 0, 0, 3, 35, []),
  (35, 13, 3, 70, 0, 0, 38, []),
  (38, 2, 0, 0, 0, 0, 39, []),
  (39, 0, 0, 0, 0, 29, 41, []),
  (41, 1, 5, 0, 0, 0, 43, []),
  (43, 10, 0, 0, 0, 0, 44, []),
  (44, 2, 0, 0, 0, 0, 45, []),
  (45, 20, 11, 22, 0, 0, 48, []),
  (48, 1, 2, 0, 0, 0, 49, []),
  (49, 1, 4, 0, 0, 0, 51, []),
  (51, 10, 0, 0, 0, 0, 52, []),
  (52, 25, 0, 0, 0, 0, 53, []),
  (53, 0, 0, 0, 0, 0, 54, []),
  (54, 2, 0, 0, 0, 0, 55, []),
  (55, 20, 11, 23, 0, 0, 58, []),
  (58, 1, 2, 0, 0, 0, 59, []),
  (59, 1, 4, 0, 0, 0, 61, []),
  (61, 10, 0, 0, 0, 0, 62, []),
  (62, 25, 0, 0, 0, 0, 63, []),
  (63, 32, 189, 5, 13, 0, 66, []),
  (66, 6, 0, 0, 0, 0, 67, []),
  (67, 18, 0, 96, 0, 0, 70, []),
  (70, 2, 0, 0, 0, 0, 71, []),
  (71, 0, 0, 0, 0, 32, 73, []),
  (73, 0, 0, 0, 0, 2, 74, []),
  (74, 1, 3, 0, 0, 0, 75, []),
  (75, 10, 2, 0, 0, 0, 76, []),
  (76, 1, 4, 0, 0, 0, 78, []),
  (78, 10, 0, 0, 0, 0, 79, []),
  (79, 0, 0, 0, 0, 0, 80, []),
  (80, 2, 0, 0, 0, 0, 81, []),
  (81, 20, 11, 23, 0, 0, 84, []),
  (84, 1, 2, 0, 0, 0, 85, []),
  (85, 1, 4, 0, 0, 0, 87, []),
  (87, 10, 0, 0, 0, 0, 88, []),
  (88, 25, 0, 0, 0, 0, 89, []),
  (89, 32, 189, 5, 13, 0, 92, []),
  (92, 6, 0, 0, 0, 0, 93, []),
  (93, 5, 3, 0, 0, 1, 96, []),
  (96, 5, 4, 0, 0, (-1), 99, []),
  (99, 18, 0, 16, 0, 0, 102, []),
  (102, 1, 3, 0, 0, 0, 103, []),
  (103, 12, 5, 118, 0, 0, 106, []),
  (106, 2, 0, 0, 0, 0, 107, []),
  (107, 0, 0, 0, 0, 26, 109, []),
  (109, 0, 0, 0, 0, 2, 110, []),
  (110, 1, 3, 0, 0, 0, 111, []),
  (111, 10, 2, 0, 0, 0, 112, []),
  (112, 0, 0, 0, 0, 0, 113, []),
  (113, 0, 0, 0, 0, 0, 114, []),
  (114, 32, 189, 5, 13, 0, 117, []),
  (117, 6, 0, 0, 0, 0, 118, []),
  (118, 2, 0, 0, 0, 0, 119, []),
  (119, 1, 2, 0, 0, 0, 120, []),
  (120, 21, 11, 20, 0, 0, 123, []),
  (123, 35, 0, 0, 0, 0, 124, [])]
/-- 266: ChunkCodeModel.sort()V -/
def am_i266 : List (Nat × am_I) := [(0, 2, 0, 0, 0, 0, 1, []),
  (1, 20, 11, 61, 0, 0, 4, []),
  (4, 0, 0, 0, 0, 0, 5, []),
  (5, 0, 0, 0, 0, 0, 6, []),
  (6, 26, 0, 0, 0, 0, 7, []),
  (7, 0, 0, 0, 0, 0, 8, []),
  (8, 3, 1, 0, 0, 0, 9, []),
  (9, 1, 1, 0, 0, 0, 10, []),
  (10, 2, 0, 0, 0, 0, 11, []),
  (11, 20, 11, 53, 0, 0, 14, []),
  (14, 13, 3, 44, 0, 0, 17, []),
  (17, 2, 0, 0, 0, 0, 18, []),
  (18, 20, 11, 61, 0, 0, 21, []),
  (21, 1, 1, 0, 0, 0, 22, []),
  (22, 0, 0, 0, 0, 1, 23, []),
  (23, 10, 0, 0, 0, 0, 24, []),
  (24, 2, 0, 0, 0, 0, 25, []),
  (25, 20, 11, 61, 0, 0, 28, []),
  (28, 1, 1, 0, 0, 0, 29, []),
  (29, 25, 0, 0, 0, 0, 30, []),
  (30, 2, 0, 0, 0, 0, 31, []),
  (31, 20, 11, 60, 0, 0, 34, []),
  (34, 1, 1, 0, 0, 0, 35, []),
  (35, 25, 0, 0, 0, 0, 36, []),
  (36, 10, 0, 0, 0, 0, 37, []),
  (37, 26, 0, 0, 0, 0, 38, []),
  (38, 5, 1, 0, 0, 1, 41, []),
  (41, 18, 0, 9, 0, 0, 44, []),
  (44, 0, 0, 0, 0, 0, 45, []),
  (45, 3, 1, 0, 0, 0, 46, []),
  (46, 1, 1, 0, 0, 0, 47, []),
  (47, 2, 0, 0, 0, 0, 48, []),
  (48, 20, 11, 53, 0, 0, 51, []),
  (51, 13, 3, 67, 0, 0, 54, []),
  (54, 2, 0, 0, 0, 0, 55, []),
  (55, 20, 11, 60, 0, 0, 58, []),
  (58, 1, 1, 0, 0, 0, 59, []),
  (59, 0, 0, 0, 0, 0, 60, []),
  (60, 26, 0, 0, 0, 0, 61, []),
  (61, 5, 1, 0, 0, 1, 64, []),
  (64, 18, 0, 46, 0, 0, 67, []),
  (67, 0, 0, 0, 0, 0, 68, []),
  (68, 3, 1, 0, 0, 0, 69, []),
  (69, 1, 1, 0, 0, 0, 70, []),
  (70, 2, 0, 0, 0, 0, 71, []),
  (71, 20, 11, 68, 0, 0, 74, []),
  (74, 13, 3, 119, 0, 0, 77, []),
  (77, 2, 0, 0, 0, 0, 78, []),
  (78, 20, 11, 69, 0, 0, 81, []),
  (81, 1, 1, 0, 0, 0, 82, []),
  (82, 25, 0, 0, 0, 0, 83, []),
  (83, 3, 2, 0, 0, 0, 84, []),
  (84, 2, 0, 0, 0, 0, 85, []),
  (85, 20, 11, 74, 0, 0, 88, []),
  (88, 2, 0, 0, 0, 0, 89, []),
  (89, 20, 11, 61, 0, 0, 92, []),
  (92, 1, 2, 0, 0, 0, 93, []),
  (93, 25, 0, 0, 0, 0, 94, []),
  (94, 2, 0, 0, 0, 0, 95, []),
  (95, 20, 11, 60, 0, 0, 98, []),
  (98, 1, 2, 0, 0, 0, 99, []),
  (99, 25, 0, 0, 0, 0, 100, []),
  (100, 10, 0, 0, 0, 0, 101, []),
  (101, 1, 1, 0, 0, 0, 102, []),
  (102, 26, 0, 0, 0, 0, 103, []),
  (103, 2, 0, 0, 0, 0, 104, []),
  (104, 20, 11, 60, 0, 0, 107, []),
  (107, 1, 2, 0, 0, 0, 108, []),
  (108, 8, 0, 0, 0, 0, 109, []),
  (109, 25, 0, 0, 0, 0, 110, []),
  (110, 0, 0, 0, 0, 1, 111, []),
  (111, 10, 0, 0, 0, 0, 112, []),
  (112, 26, 0, 0, 0, 0, 113, []),
  (113, 5, 1, 0, 0, 1, 116, []),
  (116, 18, 0, 69, 0, 0, 119, []),
  (119, 35, 0, 0, 0, 0, 120, [])]
/-- 267: ChunkCodeModel.place()I -/
def am_i267 : List (Nat × am_I) := [(0, 2, 0, 0, 0, 0, 1, []),
  (1, 20, 11, 3, 0, 0, 4, []),
  (4, 33, 0, 0, 0, 0, 5, [])]
/-- 268: ChunkCodeModel.functions()I -/
def am_i268 : List (Nat × am_I) := [(0, 2, 0, 0, 0, 0, 1, []),
  (1, 20, 11, 53, 0, 0, 4, []),
  (4, 33, 0, 0, 0, 0, 5, [])]
/-- 269: ChunkCodeModel.function(II)I -/
def am_i269 : List (Nat × am_I) := [(0, 2, 0, 0, 0, 0, 1, []),
  (1, 1, 1, 0, 0, 0, 2, []),
  (2, 32, 270, 2, 13, 0, 5, []),
  (5, 12, 1, 10, 0, 0, 8, []),
  (8, 0, 0, 0, 0, (-1), 9, []),
  (9, 33, 0, 0, 0, 0, 10, []),
  (10, 1, 2, 0, 0, 0, 11, []),
  (11, 19, 0, 112, 0, 0, 56, [(0, 56), (1, 63), (2, 70), (3, 77), (4, 84), (5, 91), (6, 98), (7, 105)]),
  (56, 2, 0, 0, 0, 0, 57, []),
  (57, 20, 11, 54, 0, 0, 60, []),
  (60, 1, 1, 0, 0, 0, 61, []),
  (61, 25, 0, 0, 0, 0, 62, []),
  (62, 33, 0, 0, 0, 0, 63, []),
  (63, 2, 0, 0, 0, 0, 64, []),
  (64, 20, 11, 55, 0, 0, 67, []),
  (67, 1, 1, 0, 0, 0, 68, []),
  (68, 25, 0, 0, 0, 0, 69, []),
  (69, 33, 0, 0, 0, 0, 70, []),
  (70, 2, 0, 0, 0, 0, 71, []),
  (71, 20, 11, 56, 0, 0, 74, []),
  (74, 1, 1, 0, 0, 0, 75, []),
  (75, 25, 0, 0, 0, 0, 76, []),
  (76, 33, 0, 0, 0, 0, 77, []),
  (77, 2, 0, 0, 0, 0, 78, []),
  (78, 20, 11, 57, 0, 0, 81, []),
  (81, 1, 1, 0, 0, 0, 82, []),
  (82, 25, 0, 0, 0, 0, 83, []),
  (83, 33, 0, 0, 0, 0, 84, []),
  (84, 2, 0, 0, 0, 0, 85, []),
  (85, 20, 11, 58, 0, 0, 88, []),
  (88, 1, 1, 0, 0, 0, 89, []),
  (89, 25, 0, 0, 0, 0, 90, []),
  (90, 33, 0, 0, 0, 0, 91, []),
  (91, 2, 0, 0, 0, 0, 92, []),
  (92, 20, 11, 67, 0, 0, 95, []),
  (95, 1, 1, 0, 0, 0, 96, []),
  (96, 25, 0, 0, 0, 0, 97, []),
  (97, 33, 0, 0, 0, 0, 98, []),
  (98, 2, 0, 0, 0, 0, 99, []),
  (99, 20, 11, 60, 0, 0, 102, []),
  (102, 1, 1, 0, 0, 0, 103, []),
  (103, 25, 0, 0, 0, 0, 104, []),
  (104, 33, 0, 0, 0, 0, 105, []),
  (105, 2, 0, 0, 0, 0, 106, []),
  (106, 20, 11, 59, 0, 0, 109, []),
  (109, 1, 1, 0, 0, 0, 110, []),
  (110, 25, 0, 0, 0, 0, 111, []),
  (111, 33, 0, 0, 0, 0, 112, []),
  (112, 0, 0, 0, 0, (-1), 113, []),
  (113, 33, 0, 0, 0, 0, 114, [])]
/-- 270: ChunkCodeModel.isFunction(I)Z -/
def am_i270 : List (Nat × am_I) := [(0, 1, 1, 0, 0, 0, 1, []),
  (1, 12, 2, 16, 0, 0, 4, []),
  (4, 1, 1, 0, 0, 0, 5, []),
  (5, 2, 0, 0, 0, 0, 6, []),
  (6, 20, 11, 53, 0, 0, 9, []),
  (9, 13, 3, 16, 0, 0, 12, []),
  (12, 0, 0, 0, 0, 1, 13, []),
  (13, 18, 0, 17, 0, 0, 16, []),
  (16, 0, 0, 0, 0, 0, 17, []),
  (17, 36, 0, 0, 0, 0, 18, [])]
/-- 271: ChunkCodeModel.outer(III)I -/
def am_i271 : List (Nat × am_I) := [(0, 2, 0, 0, 0, 0, 1, []),
  (1, 1, 1, 0, 0, 0, 2, []),
  (2, 32, 270, 2, 13, 0, 5, []),
  (5, 12, 0, 31, 0, 0, 8, []),
  (8, 1, 2, 0, 0, 0, 9, []),
  (9, 12, 2, 31, 0, 0, 12, []),
  (12, 1, 2, 0, 0, 0, 13, []),
  (13, 2, 0, 0, 0, 0, 14, []),
  (14, 20, 11, 67, 0, 0, 17, []),
  (17, 1, 1, 0, 0, 0, 18, []),
  (18, 25, 0, 0, 0, 0, 19, []),
  (19, 13, 3, 31, 0, 0, 22, []),
  (22, 1, 3, 0, 0, 0, 23, []),
  (23, 12, 2, 31, 0, 0, 26, []),
  (26, 1, 3, 0, 0, 0, 27, []),
  (27, 0, 0, 0, 0, 1, 28, []),
  (28, 13, 5, 33, 0, 0, 31, []),
  (31, 0, 0, 0, 0, (-1), 32, []),
  (32, 33, 0, 0, 0, 0, 33, []),
  (33, 1, 2, 0, 0, 0, 34, []),
  (34, 3, 4, 0, 0, 0, 36, []),
  (36, 0, 0, 0, 0, 0, 37, []),
  (37, 3, 5, 0, 0, 0, 39, []),
  (39, 2, 0, 0, 0, 0, 40, []),
  (40, 20, 11, 63, 0, 0, 43, []),
  (43, 1, 5, 0, 0, 0, 45, []),
  (45, 25, 0, 0, 0, 0, 46, []),
  (46, 1, 1, 0, 0, 0, 47, []),
  (47, 13, 1, 55, 0, 0, 50, []),
  (50, 1, 4, 0, 0, 0, 52, []),
  (52, 12, 5, 82, 0, 0, 55, []),
  (55, 1, 4, 0, 0, 0, 57, []),
  (57, 2, 0, 0, 0, 0, 58, []),
  (58, 20, 11, 63, 0, 0, 61, []),
  (61, 1, 5, 0, 0, 0, 63, []),
  (63, 25, 0, 0, 0, 0, 64, []),
  (64, 1, 1, 0, 0, 0, 65, []),
  (65, 13, 1, 72, 0, 0, 68, []),
  (68, 0, 0, 0, 0, 1, 69, []),
  (69, 18, 0, 73, 0, 0, 72, []),
  (72, 0, 0, 0, 0, 0, 73, []),
  (73, 10, 1, 0, 0, 0, 74, []),
  (74, 3, 4, 0, 0, 0, 76, []),
  (76, 5, 5, 0, 0, 1, 79, []),
  (79, 18, 0, 39, 0, 0, 82, []),
  (82, 1, 3, 0, 0, 0, 83, []),
  (83, 12, 1, 96, 0, 0, 86, []),
  (86, 2, 0, 0, 0, 0, 87, []),
  (87, 20, 11, 65, 0, 0, 90, []),
  (90, 1, 5, 0, 0, 0, 92, []),
  (92, 25, 0, 0, 0, 0, 93, []),
  (93, 18, 0, 103, 0, 0, 96, []),
  (96, 2, 0, 0, 0, 0, 97, []),
  (97, 20, 11, 66, 0, 0, 100, []),
  (100, 1, 5, 0, 0, 0, 102, []),
  (102, 25, 0, 0, 0, 0, 103, []),
  (103, 33, 0, 0, 0, 0, 104, [])]
/-- 272: ChunkCodeModel.code(III)I -/
def am_i272 : List (Nat × am_I) := [(0, 2, 0, 0, 0, 0, 1, []),
  (1, 1, 1, 0, 0, 0, 2, []),
  (2, 32, 270, 2, 13, 0, 5, []),
  (5, 12, 0, 22, 0, 0, 8, []),
  (8, 1, 2, 0, 0, 0, 9, []),
  (9, 12, 2, 22, 0, 0, 12, []),
  (12, 1, 2, 0, 0, 0, 13, []),
  (13, 2, 0, 0, 0, 0, 14, []),
  (14, 20, 11, 60, 0, 0, 17, []),
  (17, 1, 1, 0, 0, 0, 18, []),
  (18, 25, 0, 0, 0, 0, 19, []),
  (19, 13, 2, 24, 0, 0, 22, []),
  (22, 0, 0, 0, 0, (-1), 23, []),
  (23, 33, 0, 0, 0, 0, 24, []),
  (24, 2, 0, 0, 0, 0, 25, []),
  (25, 20, 11, 74, 0, 0, 28, []),
  (28, 2, 0, 0, 0, 0, 29, []),
  (29, 20, 11, 61, 0, 0, 32, []),
  (32, 1, 1, 0, 0, 0, 33, []),
  (33, 25, 0, 0, 0, 0, 34, []),
  (34, 1, 2, 0, 0, 0, 35, []),
  (35, 10, 0, 0, 0, 0, 36, []),
  (36, 25, 0, 0, 0, 0, 37, []),
  (37, 3, 4, 0, 0, 0, 39, []),
  (39, 1, 3, 0, 0, 0, 40, []),
  (40, 19, 0, 104, 0, 0, 72, [(0, 72), (1, 80), (2, 88), (3, 96)]),
  (72, 2, 0, 0, 0, 0, 73, []),
  (73, 20, 11, 70, 0, 0, 76, []),
  (76, 1, 4, 0, 0, 0, 78, []),
  (78, 25, 0, 0, 0, 0, 79, []),
  (79, 33, 0, 0, 0, 0, 80, []),
  (80, 2, 0, 0, 0, 0, 81, []),
  (81, 20, 11, 71, 0, 0, 84, []),
  (84, 1, 4, 0, 0, 0, 86, []),
  (86, 25, 0, 0, 0, 0, 87, []),
  (87, 33, 0, 0, 0, 0, 88, []),
  (88, 2, 0, 0, 0, 0, 89, []),
  (89, 20, 11, 72, 0, 0, 92, []),
  (92, 1, 4, 0, 0, 0, 94, []),
  (94, 25, 0, 0, 0, 0, 95, []),
  (95, 33, 0, 0, 0, 0, 96, []),
  (96, 2, 0, 0, 0, 0, 97, []),
  (97, 20, 11, 73, 0, 0, 100, []),
  (100, 1, 4, 0, 0, 0, 102, []),
  (102, 25, 0, 0, 0, 0, 103, []),
  (103, 33, 0, 0, 0, 0, 104, []),
  (104, 0, 0, 0, 0, (-1), 105, []),
  (105, 33, 0, 0, 0, 0, 106, [])]
/-- 273: ChunkCodeModel.depth(I)I -/
def am_i273 : List (Nat × am_I) := [(0, 2, 0, 0, 0, 0, 1, []),
  (1, 1, 1, 0, 0, 0, 2, []),
  (2, 32, 270, 2, 13, 0, 5, []),
  (5, 12, 1, 10, 0, 0, 8, []),
  (8, 0, 0, 0, 0, (-1), 9, []),
  (9, 33, 0, 0, 0, 0, 10, []),
  (10, 0, 0, 0, 0, 0, 11, []),
  (11, 3, 2, 0, 0, 0, 12, []),
  (12, 0, 0, 0, 0, 0, 13, []),
  (13, 3, 3, 0, 0, 0, 14, []),
  (14, 0, 0, 0, 0, 0, 15, []),
  (15, 3, 4, 0, 0, 0, 17, []),
  (17, 1, 4, 0, 0, 0, 19, []),
  (19, 2, 0, 0, 0, 0, 20, []),
  (20, 20, 11, 60, 0, 0, 23, []),
  (23, 1, 1, 0, 0, 0, 24, []),
  (24, 25, 0, 0, 0, 0, 25, []),
  (25, 13, 3, 88, 0, 0, 28, []),
  (28, 2, 0, 0, 0, 0, 29, []),
  (29, 20, 11, 74, 0, 0, 32, []),
  (32, 2, 0, 0, 0, 0, 33, []),
  (33, 20, 11, 61, 0, 0, 36, []),
  (36, 1, 1, 0, 0, 0, 37, []),
  (37, 25, 0, 0, 0, 0, 38, []),
  (38, 1, 4, 0, 0, 0, 40, []),
  (40, 10, 0, 0, 0, 0, 41, []),
  (41, 25, 0, 0, 0, 0, 42, []),
  (42, 3, 5, 0, 0, 0, 44, []),
  (44, 1, 2, 0, 0, 0, 45, []),
  (45, 2, 0, 0, 0, 0, 46, []),
  (46, 20, 11, 70, 0, 0, 49, []),
  (49, 1, 5, 0, 0, 0, 51, []),
  (51, 25, 0, 0, 0, 0, 52, []),
  (52, 2, 0, 0, 0, 0, 53, []),
  (53, 20, 11, 71, 0, 0, 56, []),
  (56, 1, 5, 0, 0, 0, 58, []),
  (58, 25, 0, 0, 0, 0, 59, []),
  (59, 2, 0, 0, 0, 0, 60, []),
  (60, 20, 11, 72, 0, 0, 63, []),
  (63, 1, 5, 0, 0, 0, 65, []),
  (65, 25, 0, 0, 0, 0, 66, []),
  (66, 32, 274, 3, 0, 0, 69, []),
  (69, 10, 0, 0, 0, 0, 70, []),
  (70, 3, 2, 0, 0, 0, 71, []),
  (71, 1, 2, 0, 0, 0, 72, []),
  (72, 1, 3, 0, 0, 0, 73, []),
  (73, 13, 5, 80, 0, 0, 76, []),
  (76, 1, 2, 0, 0, 0, 77, []),
  (77, 18, 0, 81, 0, 0, 80, []),
  (80, 1, 3, 0, 0, 0, 81, []),
  (81, 3, 3, 0, 0, 0, 82, []),
  (82, 5, 4, 0, 0, 1, 85, []),
  (85, 18, 0, 17, 0, 0, 88, []),
  (88, 1, 3, 0, 0, 0, 89, []),
  (89, 33, 0, 0, 0, 0, 90, [])]
/-- 274: ChunkCodeModel.more(III)I -/
def am_i274 : List (Nat × am_I) := [(0, 1, 0, 0, 0, 0, 1, []),
  (1, 0, 0, 0, 0, 10, 3, []),
  (3, 13, 5, 18, 0, 0, 6, []),
  (6, 1, 0, 0, 0, 0, 7, []),
  (7, 0, 0, 0, 0, 14, 9, []),
  (9, 13, 0, 18, 0, 0, 12, []),
  (12, 1, 0, 0, 0, 0, 13, []),
  (13, 0, 0, 0, 0, 20, 15, []),
  (15, 13, 1, 20, 0, 0, 18, []),
  (18, 0, 0, 0, 0, 1, 19, []),
  (19, 33, 0, 0, 0, 0, 20, []),
  (20, 1, 0, 0, 0, 0, 21, []),
  (21, 19, 0, 228, 0, 0, 176, [(12, 176), (13, 178), (14, 228), (15, 228), (16, 228), (17, 176), (18, 176), (19, 228), (20, 228), (21, 207), (22, 228), (23, 228), (24, 228), (25, 197), (26, 201), (27, 204), (28, 176), (29, 228), (30, 228), (31, 228), (32, 228), (33, 176), (34, 176), (35, 228), (36, 176), (37, 228), (38, 210), (39, 176), (40, 176), (41, 176), (42, 213), (43, 176), (44, 176), (45, 216), (46, 221)]),
  (176, 0, 0, 0, 0, 0, 177, []),
  (177, 33, 0, 0, 0, 0, 178, []),
  (178, 1, 2, 0, 0, 0, 179, []),
  (179, 0, 0, 0, 0, 1, 180, []),
  (180, 13, 5, 187, 0, 0, 183, []),
  (183, 0, 0, 0, 0, 1, 184, []),
  (184, 18, 0, 188, 0, 0, 187, []),
  (187, 0, 0, 0, 0, 0, 188, []),
  (188, 1, 1, 0, 0, 0, 189, []),
  (189, 10, 1, 0, 0, 0, 190, []),
  (190, 0, 0, 0, 0, 1, 191, []),
  (191, 10, 1, 0, 0, 0, 192, []),
  (192, 1, 2, 0, 0, 0, 193, []),
  (193, 0, 0, 0, 0, 1, 194, []),
  (194, 10, 3, 0, 0, 0, 195, []),
  (195, 10, 1, 0, 0, 0, 196, []),
  (196, 33, 0, 0, 0, 0, 197, []),
  (197, 1, 1, 0, 0, 0, 198, []),
  (198, 0, 0, 0, 0, 1, 199, []),
  (199, 10, 1, 0, 0, 0, 200, []),
  (200, 33, 0, 0, 0, 0, 201, []),
  (201, 1, 1, 0, 0, 0, 202, []),
  (202, 11, 0, 0, 0, 0, 203, []),
  (203, 33, 0, 0, 0, 0, 204, []),
  (204, 1, 2, 0, 0, 0, 205, []),
  (205, 11, 0, 0, 0, 0, 206, []),
  (206, 33, 0, 0, 0, 0, 207, []),
  (207, 0, 0, 0, 0, (-2), 209, []),
  (209, 33, 0, 0, 0, 0, 210, []),
  (210, 0, 0, 0, 0, (-3), 212, []),
  (212, 33, 0, 0, 0, 0, 213, []),
  (213, 0, 0, 0, 0, (-4), 215, []),
  (215, 33, 0, 0, 0, 0, 216, []),
  (216, 1, 1, 0, 0, 0, 217, []),
  (217, 11, 0, 0, 0, 0, 218, []),
  (218, 1, 2, 0, 0, 0, 219, []),
  (219, 10, 1, 0, 0, 0, 220, []),
  (220, 33, 0, 0, 0, 0, 221, []),
  (221, 1, 1, 0, 0, 0, 222, []),
  (222, 11, 0, 0, 0, 0, 223, []),
  (223, 0, 0, 0, 0, 1, 224, []),
  (224, 10, 1, 0, 0, 0, 225, []),
  (225, 1, 2, 0, 0, 0, 226, []),
  (226, 10, 1, 0, 0, 0, 227, []),
  (227, 33, 0, 0, 0, 0, 228, []),
  (228, 0, 0, 0, 0, (-1), 229, []),
  (229, 33, 0, 0, 0, 0, 230, [])]
/-- 275: ChunkCodeModel.flaws()I -/
def am_i275 : List (Nat × am_I) := [(0, 0, 0, 0, 0, 0, 1, []),
  (1, 3, 1, 0, 0, 0, 2, []),
  (2, 0, 0, 0, 0, 0, 3, []),
  (3, 3, 2, 0, 0, 0, 4, []),
  (4, 1, 2, 0, 0, 0, 5, []),
  (5, 2, 0, 0, 0, 0, 6, []),
  (6, 20, 11, 53, 0, 0, 9, []),
  (9, 13, 3, 184, 0, 0, 12, []),
  (12, 0, 0, 0, 0, 0, 13, []),
  (13, 3, 3, 0, 0, 0, 14, []),
  (14, 0, 0, 0, 0, 0, 15, []),
  (15, 3, 4, 0, 0, 0, 17, []),
  (17, 1, 4, 0, 0, 0, 19, []),
  (19, 2, 0, 0, 0, 0, 20, []),
  (20, 20, 11, 60, 0, 0, 23, []),
  (23, 1, 2, 0, 0, 0, 24, []),
  (24, 25, 0, 0, 0, 0, 25, []),
  (25, 13, 3, 178, 0, 0, 28, []),
  (28, 2, 0, 0, 0, 0, 29, []),
  (29, 20, 11, 74, 0, 0, 32, []),
  (32, 2, 0, 0, 0, 0, 33, []),
  (33, 20, 11, 61, 0, 0, 36, []),
  (36, 1, 2, 0, 0, 0, 37, []),
  (37, 25, 0, 0, 0, 0, 38, []),
  (38, 1, 4, 0, 0, 0, 40, []),
  (40, 10, 0, 0, 0, 0, 41, []),
  (41, 25, 0, 0, 0, 0, 42, []),
  (42, 3, 5, 0, 0, 0, 44, []),
  (44, 2, 0, 0, 0, 0, 45, []),
  (45, 20, 11, 70, 0, 0, 48, []),
  (48, 1, 5, 0, 0, 0, 50, []),
  (50, 25, 0, 0, 0, 0, 51, []),
  (51, 0, 0, 0, 0, 34, 53, []),
  (53, 13, 1, 64, 0, 0, 56, []),
  (56, 1, 3, 0, 0, 0, 57, []),
  (57, 12, 0, 64, 0, 0, 60, []),
  (60, 0, 0, 0, 0, 1, 61, []),
  (61, 18, 0, 65, 0, 0, 64, []),
  (64, 0, 0, 0, 0, 0, 65, []),
  (65, 3, 6, 0, 0, 0, 67, []),
  (67, 1, 3, 0, 0, 0, 68, []),
  (68, 2, 0, 0, 0, 0, 69, []),
  (69, 20, 11, 70, 0, 0, 72, []),
  (72, 1, 5, 0, 0, 0, 74, []),
  (74, 25, 0, 0, 0, 0, 75, []),
  (75, 2, 0, 0, 0, 0, 76, []),
  (76, 20, 11, 71, 0, 0, 79, []),
  (79, 1, 5, 0, 0, 0, 81, []),
  (81, 25, 0, 0, 0, 0, 82, []),
  (82, 2, 0, 0, 0, 0, 83, []),
  (83, 20, 11, 72, 0, 0, 86, []),
  (86, 1, 5, 0, 0, 0, 88, []),
  (88, 25, 0, 0, 0, 0, 89, []),
  (89, 32, 274, 3, 0, 0, 92, []),
  (92, 10, 0, 0, 0, 0, 93, []),
  (93, 3, 3, 0, 0, 0, 94, []),
  (94, 1, 4, 0, 0, 0, 96, []),
  (96, 0, 0, 0, 0, 1, 97, []),
  (97, 10, 0, 0, 0, 0, 98, []),
  (98, 2, 0, 0, 0, 0, 99, []),
  (99, 20, 11, 60, 0, 0, 102, []),
  (102, 1, 2, 0, 0, 0, 103, []),
  (103, 25, 0, 0, 0, 0, 104, []),
  (104, 13, 1, 123, 0, 0, 107, []),
  (107, 2, 0, 0, 0, 0, 108, []),
  (108, 20, 11, 70, 0, 0, 111, []),
  (111, 1, 5, 0, 0, 0, 113, []),
  (113, 25, 0, 0, 0, 0, 114, []),
  (114, 0, 0, 0, 0, 45, 116, []),
  (116, 13, 0, 123, 0, 0, 119, []),
  (119, 0, 0, 0, 0, 1, 120, []),
  (120, 18, 0, 124, 0, 0, 123, []),
  (123, 0, 0, 0, 0, 0, 124, []),
  (124, 3, 7, 0, 0, 0, 126, []),
  (126, 1, 6, 0, 0, 0, 128, []),
  (128, 12, 1, 169, 0, 0, 131, []),
  (131, 1, 3, 0, 0, 0, 132, []),
  (132, 12, 2, 169, 0, 0, 135, []),
  (135, 1, 7, 0, 0, 0, 137, []),
  (137, 12, 1, 169, 0, 0, 140, []),
  (140, 2, 0, 0, 0, 0, 141, []),
  (141, 1, 2, 0, 0, 0, 142, []),
  (142, 2, 0, 0, 0, 0, 143, []),
  (143, 20, 11, 70, 0, 0, 146, []),
  (146, 1, 5, 0, 0, 0, 148, []),
  (148, 25, 0, 0, 0, 0, 149, []),
  (149, 2, 0, 0, 0, 0, 150, []),
  (150, 20, 11, 71, 0, 0, 153, []),
  (153, 1, 5, 0, 0, 0, 155, []),
  (155, 25, 0, 0, 0, 0, 156, []),
  (156, 2, 0, 0, 0, 0, 157, []),
  (157, 20, 11, 72, 0, 0, 160, []),
  (160, 1, 5, 0, 0, 0, 162, []),
  (162, 25, 0, 0, 0, 0, 163, []),
  (163, 32, 276, 5, 13, 0, 166, []),
  (166, 12, 1, 172, 0, 0, 169, []),
  (169, 5, 1, 0, 0, 1, 172, []),
  (172, 5, 4, 0, 0, 1, 175, []),
  (175, 18, 0, 17, 0, 0, 178, []),
  (178, 5, 2, 0, 0, 1, 181, []),
  (181, 18, 0, 4, 0, 0, 184, []),
  (184, 1, 1, 0, 0, 0, 185, []),
  (185, 33, 0, 0, 0, 0, 186, [])]
/-- 276: ChunkCodeModel.isRight(IIII)Z -/
def am_i276 : List (Nat × am_I) := [(0, 2, 0, 0, 0, 0, 1, []),
  (1, 20, 11, 58, 0, 0, 4, []),
  (4, 1, 1, 0, 0, 0, 5, []),
  (5, 25, 0, 0, 0, 0, 6, []),
  (6, 3, 5, 0, 0, 0, 8, []),
  (8, 1, 2, 0, 0, 0, 9, []),
  (9, 19, 0, 358, 0, 0, 176, [(7, 334), (8, 188), (9, 322), (10, 358), (11, 358), (12, 358), (13, 358), (14, 358), (15, 176), (16, 176), (17, 358), (18, 358), (19, 358), (20, 358), (21, 358), (22, 358), (23, 358), (24, 358), (25, 358), (26, 358), (27, 293), (28, 188), (29, 188), (30, 322), (31, 358), (32, 358), (33, 312), (34, 358), (35, 176), (36, 176), (37, 176), (38, 196), (39, 227), (40, 196), (41, 188), (42, 237), (43, 247), (44, 260)]),
  (176, 1, 3, 0, 0, 0, 177, []),
  (177, 0, 0, 0, 0, 0, 178, []),
  (178, 2, 0, 0, 0, 0, 179, []),
  (179, 20, 11, 60, 0, 0, 182, []),
  (182, 1, 1, 0, 0, 0, 183, []),
  (183, 25, 0, 0, 0, 0, 184, []),
  (184, 32, 277, 3, 0, 0, 187, []),
  (187, 36, 0, 0, 0, 0, 188, []),
  (188, 1, 3, 0, 0, 0, 189, []),
  (189, 0, 0, 0, 0, 0, 190, []),
  (190, 1, 5, 0, 0, 0, 192, []),
  (192, 32, 277, 3, 0, 0, 195, []),
  (195, 36, 0, 0, 0, 0, 196, []),
  (196, 1, 3, 0, 0, 0, 197, []),
  (197, 0, 0, 0, 0, 0, 198, []),
  (198, 1, 5, 0, 0, 0, 200, []),
  (200, 32, 277, 3, 0, 0, 203, []),
  (203, 12, 0, 225, 0, 0, 206, []),
  (206, 1, 4, 0, 0, 0, 208, []),
  (208, 0, 0, 0, 0, 0, 209, []),
  (209, 2, 0, 0, 0, 0, 210, []),
  (210, 20, 11, 60, 0, 0, 213, []),
  (213, 1, 1, 0, 0, 0, 214, []),
  (214, 25, 0, 0, 0, 0, 215, []),
  (215, 32, 277, 3, 0, 0, 218, []),
  (218, 12, 0, 225, 0, 0, 221, []),
  (221, 0, 0, 0, 0, 1, 222, []),
  (222, 18, 0, 226, 0, 0, 225, []),
  (225, 0, 0, 0, 0, 0, 226, []),
  (226, 36, 0, 0, 0, 0, 227, []),
  (227, 1, 3, 0, 0, 0, 228, []),
  (228, 0, 0, 0, 0, 0, 229, []),
  (229, 1, 5, 0, 0, 0, 231, []),
  (231, 0, 0, 0, 0, 3, 232, []),
  (232, 10, 1, 0, 0, 0, 233, []),
  (233, 32, 277, 3, 0, 0, 236, []),
  (236, 36, 0, 0, 0, 0, 237, []),
  (237, 1, 3, 0, 0, 0, 238, []),
  (238, 0, 0, 0, 0, 0, 239, []),
  (239, 1, 5, 0, 0, 0, 241, []),
  (241, 0, 0, 0, 0, 3, 242, []),
  (242, 10, 1, 0, 0, 0, 243, []),
  (243, 32, 277, 3, 0, 0, 246, []),
  (246, 36, 0, 0, 0, 0, 247, []),
  (247, 1, 3, 0, 0, 0, 248, []),
  (248, 0, 0, 0, 0, 0, 249, []),
  (249, 1, 5, 0, 0, 0, 251, []),
  (251, 0, 0, 0, 0, 3, 252, []),
  (252, 10, 1, 0, 0, 0, 253, []),
  (253, 1, 4, 0, 0, 0, 255, []),
  (255, 10, 1, 0, 0, 0, 256, []),
  (256, 32, 277, 3, 0, 0, 259, []),
  (259, 36, 0, 0, 0, 0, 260, []),
  (260, 1, 3, 0, 0, 0, 261, []),
  (261, 0, 0, 0, 0, 0, 262, []),
  (262, 1, 5, 0, 0, 0, 264, []),
  (264, 0, 0, 0, 0, 4, 265, []),
  (265, 10, 1, 0, 0, 0, 266, []),
  (266, 32, 277, 3, 0, 0, 269, []),
  (269, 12, 0, 291, 0, 0, 272, []),
  (272, 1, 4, 0, 0, 0, 274, []),
  (274, 0, 0, 0, 0, 0, 275, []),
  (275, 2, 0, 0, 0, 0, 276, []),
  (276, 20, 11, 60, 0, 0, 279, []),
  (279, 1, 1, 0, 0, 0, 280, []),
  (280, 25, 0, 0, 0, 0, 281, []),
  (281, 32, 277, 3, 0, 0, 284, []),
  (284, 12, 0, 291, 0, 0, 287, []),
  (287, 0, 0, 0, 0, 1, 288, []),
  (288, 18, 0, 292, 0, 0, 291, []),
  (291, 0, 0, 0, 0, 0, 292, []),
  (292, 36, 0, 0, 0, 0, 293, []),
  (293, 1, 3, 0, 0, 0, 294, []),
  (294, 12, 2, 310, 0, 0, 297, []),
  (297, 1, 3, 0, 0, 0, 298, []),
  (298, 1, 4, 0, 0, 0, 300, []),
  (300, 10, 0, 0, 0, 0, 301, []),
  (301, 1, 5, 0, 0, 0, 303, []),
  (303, 13, 4, 310, 0, 0, 306, []),
  (306, 0, 0, 0, 0, 1, 307, []),
  (307, 18, 0, 311, 0, 0, 310, []),
  (310, 0, 0, 0, 0, 0, 311, []),
  (311, 36, 0, 0, 0, 0, 312, []),
  (312, 1, 3, 0, 0, 0, 313, []),
  (313, 0, 0, 0, 0, 0, 314, []),
  (314, 1, 5, 0, 0, 0, 316, []),
  (316, 0, 0, 0, 0, 1, 317, []),
  (317, 10, 0, 0, 0, 0, 318, []),
  (318, 32, 277, 3, 0, 0, 321, []),
  (321, 36, 0, 0, 0, 0, 322, []),
  (322, 1, 3, 0, 0, 0, 323, []),
  (323, 0, 0, 0, 0, 0, 324, []),
  (324, 2, 0, 0, 0, 0, 325, []),
  (325, 20, 11, 67, 0, 0, 328, []),
  (328, 1, 1, 0, 0, 0, 329, []),
  (329, 25, 0, 0, 0, 0, 330, []),
  (330, 32, 277, 3, 0, 0, 333, []),
  (333, 36, 0, 0, 0, 0, 334, []),
  (334, 2, 0, 0, 0, 0, 335, []),
  (335, 1, 3, 0, 0, 0, 336, []),
  (336, 32, 270, 2, 13, 0, 339, []),
  (339, 12, 0, 356, 0, 0, 342, []),
  (342, 2, 0, 0, 0, 0, 343, []),
  (343, 20, 11, 54, 0, 0, 346, []),
  (346, 1, 3, 0, 0, 0, 347, []),
  (347, 25, 0, 0, 0, 0, 348, []),
  (348, 1, 1, 0, 0, 0, 349, []),
  (349, 13, 1, 356, 0, 0, 352, []),
  (352, 0, 0, 0, 0, 1, 353, []),
  (353, 18, 0, 357, 0, 0, 356, []),
  (356, 0, 0, 0, 0, 0, 357, []),
  (357, 36, 0, 0, 0, 0, 358, []),
  (358, 0, 0, 0, 0, 1, 359, []),
  (359, 36, 0, 0, 0, 0, 360, [])]
/-- 277: ChunkCodeModel.isIn(III)Z -/
def am_i277 : List (Nat × am_I) := [(0, 1, 0, 0, 0, 0, 1, []),
  (1, 1, 1, 0, 0, 0, 2, []),
  (2, 13, 2, 14, 0, 0, 5, []),
  (5, 1, 0, 0, 0, 0, 6, []),
  (6, 1, 2, 0, 0, 0, 7, []),
  (7, 13, 3, 14, 0, 0, 10, []),
  (10, 0, 0, 0, 0, 1, 11, []),
  (11, 18, 0, 15, 0, 0, 14, []),
  (14, 0, 0, 0, 0, 0, 15, []),
  (15, 36, 0, 0, 0, 0, 16, [])]
end
section
/-! THE PROGRAM: classes, methods, links (printed by wip/whole/gen13.py) -/
def am_at (l : List (Nat × am_I)) (pc : Nat) : Option am_I := match l with
  | [] => none
  | (k, i) :: r => if k = pc then some i else am_at r pc
def am_T0 : u_T := fun k => match k with
  | 0 => ("ChunkCode", "faults", "LChunkCode$Faults;", true)
  | 1 => ("ChunkCode", "words", "LChunkCode$Words;", true)
  | 2 => ("ChunkCode", "bodies", "LChunkCode$Bodies;", true)
  | 3 => ("ChunkCode", "reader", "LChunkCode$Reader;", true)
  | 4 => ("ChunkCode", "audit", "LChunkCode$Audit;", true)
  | _ => ("ChunkCode", "place", "I", false)
def am_T1 : u_T := fun k => match k with
  | 0 => ("ChunkCode$Faults", "kind", "I", false)
  | _ => ("ChunkCode$Faults", "word", "I", false)
def am_T2 : u_T := fun k => match k with
  | 0 => ("ChunkCode$Words", "faults", "LChunkCode$Faults;", true)
  | 1 => ("ChunkCode$Words", "row", "LChunkCode$Table;", true)
  | 2 => ("ChunkCode$Words", "next", "I", false)
  | _ => ("ChunkCode$Words", "levels", "I", false)
def am_T3 : u_T := fun k => match k with
  | 0 => ("ChunkCode$Table", "cells", "[I", false)
  | _ => ("ChunkCode$Table", "rows", "I", false)
def am_T4 : u_T := fun k => match k with
  | 0 => ("ChunkCode$Bodies", "kept", "Ljava/util/ArrayList;", true)
  | _ => ("ChunkCode$Bodies", "count", "I", false)
def am_T5 : u_T := fun k => match k with
  | 0 => ("java/util/ArrayList", "elementData", "[Ljava/lang/Object;", false)
  | 1 => ("java/util/ArrayList", "size", "I", false)
  | _ => ("java/util/AbstractList", "modCount", "I", false)
def am_T6 : u_T := fun k => match k with
  | 0 => ("ChunkCode$Reader", "words", "LChunkCode$Words;", true)
  | 1 => ("ChunkCode$Reader", "faults", "LChunkCode$Faults;", true)
  | 2 => ("ChunkCode$Reader", "scope", "LChunkCode$Scope;", true)
  | 3 => ("ChunkCode$Reader", "operators", "LChunkCode$Table;", true)
  | 4 => ("ChunkCode$Reader", "targets", "LChunkCode$Table;", true)
  | 5 => ("ChunkCode$Reader", "lastIsRow", "Z", false)
  | 6 => ("ChunkCode$Reader", "stepWord", "I", false)
  | _ => ("ChunkCode$Reader", "stepText", "I", false)
def am_T7 : u_T := fun k => match k with
  | 0 => ("ChunkCode$Scope", "jumps", "LChunkCode$Jumps;", true)
  | 1 => ("ChunkCode$Scope", "faults", "LChunkCode$Faults;", true)
  | 2 => ("ChunkCode$Scope", "bodies", "LChunkCode$Bodies;", true)
  | 3 => ("ChunkCode$Scope", "open", "Ljava/util/ArrayList;", true)
  | 4 => ("ChunkCode$Scope", "locals", "LChunkCode$Table;", true)
  | 5 => ("ChunkCode$Scope", "blocks", "LChunkCode$Table;", true)
  | 6 => ("ChunkCode$Scope", "now", "LChunkCode$Body;", false)
  | 7 => ("ChunkCode$Scope", "meaning", "I", false)
  | 8 => ("ChunkCode$Scope", "meantNumber", "I", false)
  | _ => ("ChunkCode$Scope", "meantConstant", "Z", false)
def am_T8 : u_T := fun k => match k with
  | 0 => ("ChunkCode$Body", "instructions", "LChunkCode$Table;", true)
  | 1 => ("ChunkCode$Body", "outers", "LChunkCode$Table;", true)
  | 2 => ("ChunkCode$Body", "number", "I", false)
  | 3 => ("ChunkCode$Body", "around", "I", false)
  | 4 => ("ChunkCode$Body", "names", "I", false)
  | 5 => ("ChunkCode$Body", "dots", "I", false)
  | 6 => ("ChunkCode$Body", "words", "I", false)
  | 7 => ("ChunkCode$Body", "most", "I", false)
  | 8 => ("ChunkCode$Body", "functionWord", "I", false)
  | 9 => ("ChunkCode$Body", "firstLocal", "I", false)
  | 10 => ("ChunkCode$Body", "firstLabel", "I", false)
  | 11 => ("ChunkCode$Body", "firstGoto", "I", false)
  | _ => ("ChunkCode$Body", "firstLoop", "I", false)
def am_T9 : u_T := fun k => match k with
  | 0 => ("ChunkCode$Jumps", "faults", "LChunkCode$Faults;", true)
  | 1 => ("ChunkCode$Jumps", "labels", "LChunkCode$Table;", true)
  | 2 => ("ChunkCode$Jumps", "gotos", "LChunkCode$Table;", true)
  | 3 => ("ChunkCode$Jumps", "loops", "LChunkCode$Table;", true)
  | _ => ("ChunkCode$Jumps", "breaks", "LChunkCode$Table;", true)
def am_T10 : u_T := fun k => match k with
  | _ => ("ChunkCode$Audit", "bodies", "LChunkCode$Bodies;", true)
def am_T11 : u_T := fun k => match k with
  | 0 => ("ChunkCodeModel", "n", "I", false)
  | 1 => ("ChunkCodeModel", "kinds", "[I", true)
  | 2 => ("ChunkCodeModel", "texts", "[I", true)
  | 3 => ("ChunkCodeModel", "place", "I", false)
  | 4 => ("ChunkCodeModel", "at", "I", false)
  | 5 => ("ChunkCodeModel", "levels", "I", false)
  | 6 => ("ChunkCodeModel", "fault", "I", false)
  | 7 => ("ChunkCodeModel", "wrongAt", "I", false)
  | 8 => ("ChunkCodeModel", "nameFault", "I", false)
  | 9 => ("ChunkCodeModel", "nameAt", "I", false)
  | 10 => ("ChunkCodeModel", "top", "I", false)
  | 11 => ("ChunkCodeModel", "goals", "[I", true)
  | 12 => ("ChunkCodeModel", "ones", "[I", true)
  | 13 => ("ChunkCodeModel", "twos", "[I", true)
  | 14 => ("ChunkCodeModel", "threes", "[I", true)
  | 15 => ("ChunkCodeModel", "values", "I", false)
  | 16 => ("ChunkCodeModel", "valueKinds", "[I", true)
  | 17 => ("ChunkCodeModel", "valueCodes", "[I", true)
  | 18 => ("ChunkCodeModel", "valueWords", "[I", true)
  | 19 => ("ChunkCodeModel", "listed", "I", false)
  | 20 => ("ChunkCodeModel", "waiting", "I", false)
  | 21 => ("ChunkCodeModel", "waitKinds", "[I", true)
  | 22 => ("ChunkCodeModel", "waitNumbers", "[I", true)
  | 23 => ("ChunkCodeModel", "waitWords", "[I", true)
  | 24 => ("ChunkCodeModel", "locals", "I", false)
  | 25 => ("ChunkCodeModel", "localTexts", "[I", true)
  | 26 => ("ChunkCodeModel", "localDepths", "[I", true)
  | 27 => ("ChunkCodeModel", "localIds", "[I", true)
  | 28 => ("ChunkCodeModel", "hidden", "[Z", true)
  | 29 => ("ChunkCodeModel", "constants", "[Z", true)
  | 30 => ("ChunkCodeModel", "closings", "[Z", true)
  | 31 => ("ChunkCodeModel", "ids", "I", false)
  | 32 => ("ChunkCodeModel", "depth", "I", false)
  | 33 => ("ChunkCodeModel", "functions", "[I", true)
  | 34 => ("ChunkCodeModel", "bases", "[I", true)
  | 35 => ("ChunkCodeModel", "firstLabels", "[I", true)
  | 36 => ("ChunkCodeModel", "firstGotos", "[I", true)
  | 37 => ("ChunkCodeModel", "blocks", "I", false)
  | 38 => ("ChunkCodeModel", "blockLocals", "[I", true)
  | 39 => ("ChunkCodeModel", "blockLabels", "[I", true)
  | 40 => ("ChunkCodeModel", "blockGotos", "[I", true)
  | 41 => ("ChunkCodeModel", "blockDepths", "[I", true)
  | 42 => ("ChunkCodeModel", "loops", "[Z", true)
  | 43 => ("ChunkCodeModel", "breaks", "[I", true)
  | 44 => ("ChunkCodeModel", "labels", "I", false)
  | 45 => ("ChunkCodeModel", "labelTexts", "[I", true)
  | 46 => ("ChunkCodeModel", "labelCodes", "[I", true)
  | 47 => ("ChunkCodeModel", "labelLocals", "[I", true)
  | 48 => ("ChunkCodeModel", "gotos", "I", false)
  | 49 => ("ChunkCodeModel", "gotoTexts", "[I", true)
  | 50 => ("ChunkCodeModel", "gotoWords", "[I", true)
  | 51 => ("ChunkCodeModel", "gotoCodes", "[I", true)
  | 52 => ("ChunkCodeModel", "gotoLocals", "[I", true)
  | 53 => ("ChunkCodeModel", "many", "I", false)
  | 54 => ("ChunkCodeModel", "arounds", "[I", true)
  | 55 => ("ChunkCodeModel", "names", "[I", true)
  | 56 => ("ChunkCodeModel", "dots", "[I", true)
  | 57 => ("ChunkCodeModel", "lengths", "[I", true)
  | 58 => ("ChunkCodeModel", "most", "[I", true)
  | 59 => ("ChunkCodeModel", "heads", "[I", true)
  | 60 => ("ChunkCodeModel", "codes", "[I", true)
  | 61 => ("ChunkCodeModel", "begins", "[I", true)
  | 62 => ("ChunkCodeModel", "outers", "I", false)
  | 63 => ("ChunkCodeModel", "outerOwners", "[I", true)
  | 64 => ("ChunkCodeModel", "outerIds", "[I", true)
  | 65 => ("ChunkCodeModel", "outerKinds", "[I", true)
  | 66 => ("ChunkCodeModel", "outerNumbers", "[I", true)
  | 67 => ("ChunkCodeModel", "outerCounts", "[I", true)
  | 68 => ("ChunkCodeModel", "size", "I", false)
  | 69 => ("ChunkCodeModel", "owners", "[I", true)
  | 70 => ("ChunkCodeModel", "ops", "[I", true)
  | 71 => ("ChunkCodeModel", "as", "[I", true)
  | 72 => ("ChunkCodeModel", "bs", "[I", true)
  | 73 => ("ChunkCodeModel", "ws", "[I", true)
  | 74 => ("ChunkCodeModel", "order", "[I", true)
  | 75 => ("ChunkCodeModel", "meant", "I", false)
  | _ => ("ChunkCodeModel", "latest", "I", false)
def am_cl : List vw_C := [("ChunkCode", am_T0, 6), ("ChunkCode$Faults", am_T1, 2), ("ChunkCode$Words", am_T2, 4), ("ChunkCode$Table", am_T3, 2), ("ChunkCode$Bodies", am_T4, 2), ("java/util/ArrayList", am_T5, 3), ("ChunkCode$Reader", am_T6, 8), ("ChunkCode$Scope", am_T7, 10), ("ChunkCode$Body", am_T8, 13), ("ChunkCode$Jumps", am_T9, 5), ("ChunkCode$Audit", am_T10, 1), ("ChunkCodeModel", am_T11, 77)]
def am_nbL : List (List Value) := [[.null, .null, .null, .null, .null, .int 0], [.int 0, .int 0], [.null, .null, .int 0, .int 0], [.null, .int 0], [.null, .int 0], [.null, .int 0, .int 0], [.null, .null, .null, .null, .null, .int 0, .int 0, .int 0], [.null, .null, .null, .null, .null, .null, .null, .int 0, .int 0, .int 0], [.null, .null, .int 0, .int 0, .int 0, .int 0, .int 0, .int 0, .int 0, .int 0, .int 0, .int 0, .int 0], [.null, .null, .null, .null, .null], [.null], [.int 0, .null, .null, .int 0, .int 0, .int 0, .int 0, .int 0, .int 0, .int 0, .int 0, .null, .null, .null, .null, .int 0, .null, .null, .null, .int 0, .int 0, .null, .null, .null, .int 0, .null, .null, .null, .null, .null, .null, .int 0, .int 0, .null, .null, .null, .null, .int 0, .null, .null, .null, .null, .null, .null, .int 0, .null, .null, .null, .int 0, .null, .null, .null, .null, .int 0, .null, .null, .null, .null, .null, .null, .null, .null, .int 0, .null, .null, .null, .null, .null, .int 0, .null, .null, .null, .null, .null, .null, .int 0, .int 0]]
def am_nb (k : Nat) : List Value := (am_nbL[k]?).getD []
def am_nmL : List String := ["ChunkCode", "ChunkCode$Faults", "ChunkCode$Words", "ChunkCode$Table", "ChunkCode$Bodies", "java/util/ArrayList", "java/util/AbstractList", "java/util/AbstractCollection", "ChunkCode$Reader", "ChunkCode$Scope", "ChunkCode$Body", "ChunkCode$Jumps", "ChunkCode$Audit", "jdk/internal/util/ArraysSupport", "java/lang/Math", "java/util/Arrays", "java/util/Objects", "jdk/internal/util/Preconditions", "ChunkCode$Kind", "ChunkCode$Op", "ChunkCodeModel", "ChunkCodeLaw"]
def am_nm (k : Nat) : String := (am_nmL[k]?).getD ""
/-- name, bytes, what it gives, the number of its class, how many locals, its instructions -/
def am_ML : List (MethodName × ByteArray × Option FieldType × Nat × Nat × List (Nat × am_I)) := [(⟨"ChunkCode", "<init>", "()V"⟩, prog_1_method_1_code, none, 0, 2, am_i0),
  (⟨"ChunkCode$Faults", "<init>", "()V"⟩, prog_5_method_1_code, none, 1, 1, am_i1),
  (⟨"ChunkCode$Words", "<init>", "(LChunkCode$Faults;)V"⟩, prog_12_method_1_code, none, 2, 2, am_i2),
  (⟨"ChunkCode$Table", "<init>", "()V"⟩, prog_11_method_1_code, none, 3, 1, am_i3),
  (⟨"ChunkCode$Bodies", "<init>", "()V"⟩, prog_3_method_1_code, none, 4, 1, am_i4),
  (⟨"java/util/ArrayList", "<init>", "()V"⟩, prog_26_method_2_code, none, 5, 1, am_i5),
  (⟨"java/util/AbstractList", "<init>", "()V"⟩, prog_25_method_1_code, none, 6, 1, am_i6),
  (⟨"java/util/AbstractCollection", "<init>", "()V"⟩, prog_24_method_1_code, none, 7, 1, am_i7),
  (⟨"ChunkCode$Reader", "<init>", "(LChunkCode$Words;LChunkCode$Faults;LChunkCode$Bodies;)V"⟩, prog_9_method_1_code, none, 8, 4, am_i8),
  (⟨"ChunkCode$Scope", "<init>", "(LChunkCode$Faults;LChunkCode$Bodies;)V"⟩, prog_10_method_1_code, none, 9, 3, am_i9),
  (⟨"ChunkCode$Body", "<init>", "()V"⟩, prog_4_method_1_code, none, 10, 1, am_i10),
  (⟨"ChunkCode$Jumps", "<init>", "(LChunkCode$Faults;)V"⟩, prog_6_method_1_code, none, 11, 2, am_i11),
  (⟨"ChunkCode$Audit", "<init>", "(LChunkCode$Bodies;)V"⟩, prog_2_method_1_code, none, 12, 2, am_i12),
  (⟨"ChunkCode$Bodies", "add", "()LChunkCode$Body;"⟩, prog_3_method_5_code, (some (.object "ChunkCode$Body")), 4, 2, am_i13),
  (⟨"java/util/ArrayList", "size", "()I"⟩, prog_26_method_8_code, (some .int), 5, 1, am_i14),
  (⟨"java/util/ArrayList", "add", "(Ljava/lang/Object;)Z"⟩, prog_26_method_25_code, (some .boolean), 5, 2, am_i15),
  (⟨"java/util/ArrayList", "add", "(Ljava/lang/Object;[Ljava/lang/Object;I)V"⟩, prog_26_method_24_code, none, 5, 4, am_i16),
  (⟨"java/util/ArrayList", "grow", "()[Ljava/lang/Object;"⟩, prog_26_method_7_code, (some (.array (.object "java/lang/Object"))), 5, 1, am_i17),
  (⟨"java/util/ArrayList", "grow", "(I)[Ljava/lang/Object;"⟩, prog_26_method_6_code, (some (.array (.object "java/lang/Object"))), 5, 4, am_i18),
  (⟨"jdk/internal/util/ArraysSupport", "newLength", "(III)I"⟩, prog_33_method_27_code, (some .int), 13, 4, am_i19),
  (⟨"java/lang/Math", "max", "(II)I"⟩, prog_20_method_65_code, (some .int), 14, 2, am_i20),
  (⟨"jdk/internal/util/ArraysSupport", "hugeLength", "(II)I"⟩, prog_33_method_28_code, (some .int), 13, 3, am_i21),
  (⟨"java/util/Arrays", "copyOf", "([Ljava/lang/Object;I)[Ljava/lang/Object;"⟩, prog_27_method_119_code, (some (.array (.object "java/lang/Object"))), 15, 2, am_i22),
  (⟨"java/util/Arrays", "copyOf", "([Ljava/lang/Object;ILjava/lang/Class;)[Ljava/lang/Object;"⟩, prog_27_method_120_code, (some (.array (.object "java/lang/Object"))), 15, 4, am_i23),
  (⟨"java/lang/Math", "min", "(II)I"⟩, prog_20_method_69_code, (some .int), 14, 2, am_i24),
  (⟨"java/util/ArrayList", "get", "(I)Ljava/lang/Object;"⟩, prog_26_method_20_code, (some (.object "java/lang/Object")), 5, 2, am_i25),
  (⟨"java/util/Objects", "checkIndex", "(II)I"⟩, prog_30_method_17_code, (some .int), 16, 2, am_i26),
  (⟨"jdk/internal/util/Preconditions", "checkIndex", "(IILjava/util/function/BiFunction;)I"⟩, prog_34_method_11_code, (some .int), 17, 3, am_i27),
  (⟨"java/util/ArrayList", "elementData", "(I)Ljava/lang/Object;"⟩, prog_26_method_18_code, (some (.object "java/lang/Object")), 5, 2, am_i28),
  (⟨"ChunkCode$Body", "reset", "(I)V"⟩, prog_4_method_2_code, none, 10, 2, am_i29),
  (⟨"ChunkCode$Table", "cut", "(I)V"⟩, prog_11_method_7_code, none, 3, 2, am_i30),
  (⟨"ChunkCode$Table", "add", "(IIII)I"⟩, prog_11_method_6_code, (some .int), 3, 6, am_i31),
  (⟨"java/util/Arrays", "copyOf", "([II)[I"⟩, prog_27_method_123_code, (some (.array .int)), 15, 3, am_i32),
  (⟨"ChunkCode", "word", "(II)I"⟩, prog_1_method_2_code, (some .int), 0, 3, am_i33),
  (⟨"ChunkCode$Kind", "isKnown", "(I)Z"⟩, prog_7_method_2_code, (some .boolean), 18, 1, am_i34),
  (⟨"ChunkCode$Words", "count", "()I"⟩, prog_12_method_3_code, (some .int), 2, 1, am_i35),
  (⟨"ChunkCode$Table", "rows", "()I"⟩, prog_11_method_2_code, (some .int), 3, 1, am_i36),
  (⟨"ChunkCode$Words", "add", "(II)I"⟩, prog_12_method_2_code, (some .int), 2, 3, am_i37),
  (⟨"ChunkCode", "compile", "()I"⟩, prog_1_method_3_code, (some .int), 0, 2, am_i38),
  (⟨"ChunkCode$Faults", "clear", "()V"⟩, prog_5_method_2_code, none, 1, 1, am_i39),
  (⟨"ChunkCode$Bodies", "clear", "()V"⟩, prog_3_method_3_code, none, 4, 1, am_i40),
  (⟨"ChunkCode$Reader", "chunk", "()V"⟩, prog_9_method_2_code, none, 8, 2, am_i41),
  (⟨"ChunkCode$Words", "rewind", "()V"⟩, prog_12_method_5_code, none, 2, 1, am_i42),
  (⟨"ChunkCode$Scope", "clear", "()V"⟩, prog_10_method_2_code, none, 9, 1, am_i43),
  (⟨"ChunkCode$Jumps", "clear", "()V"⟩, prog_6_method_2_code, none, 11, 1, am_i44),
  (⟨"java/util/ArrayList", "clear", "()V"⟩, prog_26_method_40_code, none, 5, 4, am_i45),
  (⟨"ChunkCode$Scope", "beginBody", "(I)LChunkCode$Body;"⟩, prog_10_method_4_code, (some (.object "ChunkCode$Body")), 9, 3, am_i46),
  (⟨"java/util/ArrayList", "isEmpty", "()Z"⟩, prog_26_method_9_code, (some .boolean), 5, 1, am_i47),
  (⟨"ChunkCode$Jumps", "labels", "()I"⟩, prog_6_method_3_code, (some .int), 11, 1, am_i48),
  (⟨"ChunkCode$Jumps", "gotos", "()I"⟩, prog_6_method_4_code, (some .int), 11, 1, am_i49),
  (⟨"ChunkCode$Jumps", "loops", "()I"⟩, prog_6_method_5_code, (some .int), 11, 1, am_i50),
  (⟨"ChunkCode$Scope", "openBlock", "()V"⟩, prog_10_method_6_code, none, 9, 1, am_i51),
  (⟨"ChunkCode$Reader", "block", "()V"⟩, prog_9_method_3_code, none, 8, 2, am_i52),
  (⟨"ChunkCode$Words", "kind", "()I"⟩, prog_12_method_7_code, (some .int), 2, 1, am_i53),
  (⟨"ChunkCode$Table", "get", "(II)I"⟩, prog_11_method_4_code, (some .int), 3, 3, am_i54),
  (⟨"ChunkCode$Words", "skip", "()I"⟩, prog_12_method_12_code, (some .int), 2, 2, am_i55),
  (⟨"ChunkCode$Kind", "closesLevel", "(I)Z"⟩, prog_7_method_4_code, (some .boolean), 18, 1, am_i56),
  (⟨"ChunkCode$Kind", "opensLevel", "(I)Z"⟩, prog_7_method_3_code, (some .boolean), 18, 1, am_i57),
  (⟨"ChunkCode$Faults", "refuse", "(II)V"⟩, prog_5_method_6_code, none, 1, 3, am_i58),
  (⟨"ChunkCode$Reader", "assignOrCall", "()V"⟩, prog_9_method_5_code, none, 8, 4, am_i59),
  (⟨"ChunkCode$Reader", "prefix", "()I"⟩, prog_9_method_40_code, (some .int), 8, 4, am_i60),
  (⟨"ChunkCode$Reader", "head", "()I"⟩, prog_9_method_41_code, (some .int), 8, 1, am_i61),
  (⟨"ChunkCode$Reader", "nameAlone", "()I"⟩, prog_9_method_42_code, (some .int), 8, 1, am_i62),
  (⟨"ChunkCode$Words", "at", "()I"⟩, prog_12_method_6_code, (some .int), 2, 1, am_i63),
  (⟨"ChunkCode$Words", "take", "(I)I"⟩, prog_12_method_11_code, (some .int), 2, 2, am_i64),
  (⟨"ChunkCode$Words", "need", "(I)V"⟩, prog_12_method_10_code, none, 2, 2, am_i65),
  (⟨"ChunkCode$Scope", "find", "(I)V"⟩, prog_10_method_18_code, none, 9, 3, am_i66),
  (⟨"ChunkCode$Scope", "visibleLocal", "(I)I"⟩, prog_10_method_19_code, (some .int), 9, 3, am_i67),
  (⟨"ChunkCode$Scope", "bringIn", "(I)I"⟩, prog_10_method_20_code, (some .int), 9, 6, am_i68),
  (⟨"ChunkCode$Body", "outerNumber", "(II)I"⟩, prog_4_method_4_code, (some .int), 10, 4, am_i69),
  (⟨"ChunkCode$Reader", "expression", "()V"⟩, prog_9_method_35_code, none, 8, 6, am_i70),
  (⟨"ChunkCode$Reader", "unaryOperators", "()V"⟩, prog_9_method_36_code, none, 8, 2, am_i71),
  (⟨"ChunkCode$Kind", "isUnary", "(I)Z"⟩, prog_7_method_6_code, (some .boolean), 18, 1, am_i72),
  (⟨"ChunkCode$Reader", "functionBody", "(IZ)V"⟩, prog_9_method_29_code, none, 8, 6, am_i73),
  (⟨"ChunkCode$Scope", "declare", "(III)V"⟩, prog_10_method_11_code, none, 9, 4, am_i74),
  (⟨"ChunkCode$Scope", "count", "()I"⟩, prog_10_method_10_code, (some .int), 9, 1, am_i75),
  (⟨"ChunkCode$Faults", "note", "(II)V"⟩, prog_5_method_5_code, none, 1, 3, am_i76),
  (⟨"ChunkCode$Reader", "bodyNames", "(LChunkCode$Body;)V"⟩, prog_9_method_30_code, none, 8, 5, am_i77),
  (⟨"ChunkCode$Reader", "emit", "(IIII)I"⟩, prog_9_method_50_code, (some .int), 8, 5, am_i78),
  (⟨"ChunkCode$Scope", "now", "()LChunkCode$Body;"⟩, prog_10_method_3_code, (some (.object "ChunkCode$Body")), 9, 1, am_i79),
  (⟨"ChunkCode$Scope", "endBody", "()V"⟩, prog_10_method_5_code, none, 9, 1, am_i80),
  (⟨"ChunkCode$Scope", "closeBlock", "()V"⟩, prog_10_method_9_code, none, 9, 2, am_i81),
  (⟨"ChunkCode$Scope", "before", "()I"⟩, prog_10_method_7_code, (some .int), 9, 1, am_i82),
  (⟨"ChunkCode$Jumps", "closeBlock", "(LChunkCode$Body;III)V"⟩, prog_6_method_9_code, none, 11, 8, am_i83),
  (⟨"ChunkCode$Jumps", "labelOf", "(II)I"⟩, prog_6_method_6_code, (some .int), 11, 4, am_i84),
  (⟨"ChunkCode$Jumps", "lead", "(LChunkCode$Body;II)V"⟩, prog_6_method_15_code, none, 11, 5, am_i85),
  (⟨"ChunkCode$Table", "set", "(III)V"⟩, prog_11_method_5_code, none, 3, 4, am_i86),
  (⟨"ChunkCode$Jumps", "keep", "(III)V"⟩, prog_6_method_16_code, none, 11, 4, am_i87),
  (⟨"ChunkCode$Jumps", "refuseGotos", "(I)V"⟩, prog_6_method_10_code, none, 11, 3, am_i88),
  (⟨"java/util/ArrayList", "remove", "(I)Ljava/lang/Object;"⟩, prog_26_method_29_code, (some (.object "java/lang/Object")), 5, 4, am_i89),
  (⟨"java/util/ArrayList", "fastRemove", "([Ljava/lang/Object;I)V"⟩, prog_26_method_39_code, none, 5, 4, am_i90),
  (⟨"ChunkCode$Reader", "table", "()V"⟩, prog_9_method_46_code, none, 8, 4, am_i91),
  (⟨"ChunkCode$Reader", "field", "(I)I"⟩, prog_9_method_47_code, (some .int), 8, 4, am_i92),
  (⟨"ChunkCode$Words", "kindAt", "(I)I"⟩, prog_12_method_8_code, (some .int), 2, 2, am_i93),
  (⟨"ChunkCode$Reader", "tableEnds", "()Z"⟩, prog_9_method_48_code, (some .boolean), 8, 2, am_i94),
  (⟨"ChunkCode$Reader", "isSeparator", "(I)Z"⟩, prog_9_method_49_code, (some .boolean), 8, 1, am_i95),
  (⟨"ChunkCode$Reader", "widen", "()V"⟩, prog_9_method_33_code, none, 8, 1, am_i96),
  (⟨"ChunkCode$Reader", "lastOp", "()I"⟩, prog_9_method_52_code, (some .int), 8, 1, am_i97),
  (⟨"ChunkCode$Reader", "here", "()I"⟩, prog_9_method_51_code, (some .int), 8, 1, am_i98),
  (⟨"ChunkCode$Reader", "keepCallFlags", "(II)V"⟩, prog_9_method_34_code, none, 8, 4, am_i99),
  (⟨"ChunkCode$Reader", "settle", "(I)V"⟩, prog_9_method_44_code, none, 8, 2, am_i100),
  (⟨"ChunkCode$Scope", "meaning", "()I"⟩, prog_10_method_15_code, (some .int), 9, 1, am_i101),
  (⟨"ChunkCode$Scope", "meantNumber", "()I"⟩, prog_10_method_16_code, (some .int), 9, 1, am_i102),
  (⟨"ChunkCode$Reader", "literal", "()Z"⟩, prog_9_method_39_code, (some .boolean), 8, 3, am_i103),
  (⟨"ChunkCode$Words", "textAt", "(I)I"⟩, prog_12_method_9_code, (some .int), 2, 2, am_i104),
  (⟨"ChunkCode$Reader", "binaryOperator", "(I)Z"⟩, prog_9_method_37_code, (some .boolean), 8, 5, am_i105),
  (⟨"ChunkCode$Kind", "rank", "(I)I"⟩, prog_7_method_8_code, (some .int), 18, 1, am_i106),
  (⟨"ChunkCode$Kind", "goesFromRight", "(I)Z"⟩, prog_7_method_7_code, (some .boolean), 18, 1, am_i107),
  (⟨"ChunkCode$Reader", "reduce", "(II)V"⟩, prog_9_method_38_code, none, 8, 6, am_i108),
  (⟨"ChunkCode$Body", "leadHere", "(II)V"⟩, prog_4_method_3_code, none, 10, 3, am_i109),
  (⟨"ChunkCode$Reader", "fieldStep", "()I"⟩, prog_9_method_43_code, (some .int), 8, 2, am_i110),
  (⟨"ChunkCode$Reader", "arguments", "(I)V"⟩, prog_9_method_45_code, none, 8, 5, am_i111),
  (⟨"ChunkCode$Reader", "list", "()I"⟩, prog_9_method_31_code, (some .int), 8, 4, am_i112),
  (⟨"ChunkCode$Reader", "addTarget", "(I)V"⟩, prog_9_method_6_code, none, 8, 2, am_i113),
  (⟨"ChunkCode$Reader", "refuseConstant", "(I)V"⟩, prog_9_method_7_code, none, 8, 2, am_i114),
  (⟨"ChunkCode$Scope", "meantConstant", "()Z"⟩, prog_10_method_17_code, (some .boolean), 9, 1, am_i115),
  (⟨"ChunkCode$Op", "setting", "(I)I"⟩, prog_8_method_2_code, (some .int), 19, 1, am_i116),
  (⟨"ChunkCode$Reader", "fit", "(II)V"⟩, prog_9_method_32_code, none, 8, 4, am_i117),
  (⟨"ChunkCode$Reader", "storeTargets", "(I)V"⟩, prog_9_method_8_code, none, 8, 5, am_i118),
  (⟨"ChunkCode$Reader", "label", "()V"⟩, prog_9_method_9_code, none, 8, 3, am_i119),
  (⟨"ChunkCode$Words", "atBlockEnd", "()Z"⟩, prog_12_method_13_code, (some .boolean), 2, 4, am_i120),
  (⟨"ChunkCode$Kind", "endsBlock", "(I)Z"⟩, prog_7_method_5_code, (some .boolean), 18, 1, am_i121),
  (⟨"ChunkCode$Jumps", "addLabel", "(IIIZ)V"⟩, prog_6_method_7_code, none, 11, 5, am_i122),
  (⟨"ChunkCode$Reader", "breakLoop", "()V"⟩, prog_9_method_10_code, none, 8, 3, am_i123),
  (⟨"ChunkCode$Jumps", "loopLocals", "()I"⟩, prog_6_method_12_code, (some .int), 11, 1, am_i124),
  (⟨"ChunkCode$Jumps", "addBreak", "(I)V"⟩, prog_6_method_13_code, none, 11, 2, am_i125),
  (⟨"ChunkCode$Reader", "goTo", "()V"⟩, prog_9_method_11_code, none, 8, 4, am_i126),
  (⟨"ChunkCode$Jumps", "addGoto", "(IIII)V"⟩, prog_6_method_8_code, none, 11, 5, am_i127),
  (⟨"ChunkCode$Reader", "innerBlock", "()V"⟩, prog_9_method_4_code, none, 8, 1, am_i128),
  (⟨"ChunkCode$Scope", "blockHasLocals", "()Z"⟩, prog_10_method_8_code, (some .boolean), 9, 1, am_i129),
  (⟨"ChunkCode$Reader", "whileLoop", "()V"⟩, prog_9_method_12_code, none, 8, 3, am_i130),
  (⟨"ChunkCode$Jumps", "openLoop", "(I)V"⟩, prog_6_method_11_code, none, 11, 2, am_i131),
  (⟨"ChunkCode$Jumps", "closeLoop", "(LChunkCode$Body;)V"⟩, prog_6_method_14_code, none, 11, 4, am_i132),
  (⟨"ChunkCode$Reader", "repeatLoop", "()V"⟩, prog_9_method_13_code, none, 8, 3, am_i133),
  (⟨"ChunkCode$Reader", "choice", "()V"⟩, prog_9_method_14_code, none, 8, 4, am_i134),
  (⟨"ChunkCode$Reader", "condition", "()I"⟩, prog_9_method_15_code, (some .int), 8, 1, am_i135),
  (⟨"ChunkCode$Reader", "nextPart", "(II)I"⟩, prog_9_method_16_code, (some .int), 8, 4, am_i136),
  (⟨"ChunkCode$Reader", "leadChainHere", "(I)V"⟩, prog_9_method_17_code, none, 8, 5, am_i137),
  (⟨"ChunkCode$Reader", "numberLoop", "()V"⟩, prog_9_method_18_code, none, 8, 6, am_i138),
  (⟨"ChunkCode$Reader", "numberLoopValues", "()V"⟩, prog_9_method_19_code, none, 8, 1, am_i139),
  (⟨"ChunkCode$Reader", "openHidden", "(III)I"⟩, prog_9_method_21_code, (some .int), 8, 6, am_i140),
  (⟨"ChunkCode$Scope", "markLatest", "(I)V"⟩, prog_10_method_12_code, none, 9, 3, am_i141),
  (⟨"ChunkCode$Reader", "loopBlock", "(II)V"⟩, prog_9_method_23_code, none, 8, 5, am_i142),
  (⟨"ChunkCode$Reader", "closeHidden", "()V"⟩, prog_9_method_22_code, none, 8, 1, am_i143),
  (⟨"ChunkCode$Reader", "listLoop", "()V"⟩, prog_9_method_20_code, none, 8, 8, am_i144),
  (⟨"ChunkCode$Reader", "functionStatement", "()V"⟩, prog_9_method_24_code, none, 8, 5, am_i145),
  (⟨"ChunkCode$Reader", "localFunction", "()V"⟩, prog_9_method_25_code, none, 8, 6, am_i146),
  (⟨"ChunkCode$Reader", "localNames", "()V"⟩, prog_9_method_26_code, none, 8, 8, am_i147),
  (⟨"ChunkCode$Reader", "attribute", "(Z)Z"⟩, prog_9_method_27_code, (some .boolean), 8, 5, am_i148),
  (⟨"ChunkCode$Scope", "reveal", "(I)V"⟩, prog_10_method_13_code, none, 9, 3, am_i149),
  (⟨"ChunkCode$Reader", "returnValues", "()V"⟩, prog_9_method_28_code, none, 8, 4, am_i150),
  (⟨"ChunkCode$Scope", "hasClosing", "()Z"⟩, prog_10_method_14_code, (some .boolean), 9, 2, am_i151),
  (⟨"ChunkCode$Faults", "kind", "()I"⟩, prog_5_method_3_code, (some .int), 1, 1, am_i152),
  (⟨"ChunkCode$Faults", "atWord", "()I"⟩, prog_5_method_4_code, (some .int), 1, 1, am_i153),
  (⟨"ChunkCode$Words", "clear", "()V"⟩, prog_12_method_4_code, none, 2, 1, am_i154),
  (⟨"ChunkCode$Bodies", "count", "()I"⟩, prog_3_method_2_code, (some .int), 4, 1, am_i155),
  (⟨"ChunkCode", "place", "()I"⟩, prog_1_method_4_code, (some .int), 0, 1, am_i156),
  (⟨"ChunkCode", "functions", "()I"⟩, prog_1_method_5_code, (some .int), 0, 1, am_i157),
  (⟨"ChunkCode", "function", "(II)I"⟩, prog_1_method_6_code, (some .int), 0, 4, am_i158),
  (⟨"ChunkCode$Bodies", "at", "(I)LChunkCode$Body;"⟩, prog_3_method_4_code, (some (.object "ChunkCode$Body")), 4, 2, am_i159),
  (⟨"ChunkCode", "outer", "(III)I"⟩, prog_1_method_7_code, (some .int), 0, 5, am_i160),
  (⟨"ChunkCode$Table", "has", "(I)Z"⟩, prog_11_method_3_code, (some .boolean), 3, 2, am_i161),
  (⟨"ChunkCode", "code", "(III)I"⟩, prog_1_method_8_code, (some .int), 0, 5, am_i162),
  (⟨"ChunkCode", "depth", "(I)I"⟩, prog_1_method_9_code, (some .int), 0, 3, am_i163),
  (⟨"ChunkCode$Audit", "greatest", "(LChunkCode$Body;)I"⟩, prog_2_method_2_code, (some .int), 12, 5, am_i164),
  (⟨"ChunkCode$Audit", "change", "(LChunkCode$Body;I)I"⟩, prog_2_method_5_code, (some .int), 12, 5, am_i165),
  (⟨"ChunkCode", "flaws", "()I"⟩, prog_1_method_10_code, (some .int), 0, 1, am_i166),
  (⟨"ChunkCode$Audit", "flawedOfAll", "()I"⟩, prog_2_method_3_code, (some .int), 12, 4, am_i167),
  (⟨"ChunkCode$Audit", "flawedOf", "(LChunkCode$Body;)I"⟩, prog_2_method_4_code, (some .int), 12, 7, am_i168),
  (⟨"ChunkCode$Audit", "leadsNowhere", "(LChunkCode$Body;I)Z"⟩, prog_2_method_6_code, (some .boolean), 12, 3, am_i169),
  (⟨"ChunkCode$Audit", "meansNothing", "(LChunkCode$Body;I)Z"⟩, prog_2_method_7_code, (some .boolean), 12, 4, am_i170),
  (⟨"ChunkCode$Audit", "isNoSlot", "(LChunkCode$Body;II)Z"⟩, prog_2_method_9_code, (some .boolean), 12, 3, am_i171),
  (⟨"ChunkCode$Audit", "isNotIn", "(LChunkCode$Body;I)Z"⟩, prog_2_method_8_code, (some .boolean), 12, 4, am_i172),
  (⟨"ChunkCodeModel", "<init>", "()V"⟩, prog_14_method_1_code, none, 20, 1, am_i173),
  (⟨"ChunkCodeModel", "word", "(II)I"⟩, prog_14_method_2_code, (some .int), 20, 4, am_i174),
  (⟨"ChunkCodeModel", "compile", "()I"⟩, prog_14_method_94_code, (some .int), 20, 2, am_i175),
  (⟨"ChunkCodeModel", "begin", "()V"⟩, prog_14_method_92_code, none, 20, 1, am_i176),
  (⟨"ChunkCodeModel", "beginBlock", "(Z)V"⟩, prog_14_method_18_code, none, 20, 2, am_i177),
  (⟨"ChunkCodeModel", "expectBlock", "()V"⟩, prog_14_method_31_code, none, 20, 1, am_i178),
  (⟨"ChunkCodeModel", "pile", "(IIII)V"⟩, prog_14_method_29_code, none, 20, 5, am_i179),
  (⟨"ChunkCodeModel", "run", "(IIII)V"⟩, prog_14_method_89_code, none, 20, 5, am_i180),
  (⟨"ChunkCodeModel", "runValue", "(III)V"⟩, prog_14_method_90_code, none, 20, 4, am_i181),
  (⟨"ChunkCodeModel", "expression", "(I)V"⟩, prog_14_method_46_code, none, 20, 3, am_i182),
  (⟨"ChunkCodeModel", "next", "()I"⟩, prog_14_method_4_code, (some .int), 20, 1, am_i183),
  (⟨"ChunkCodeModel", "kindAt", "(I)I"⟩, prog_14_method_3_code, (some .int), 20, 2, am_i184),
  (⟨"ChunkCodeModel", "isUnary", "(I)Z"⟩, prog_14_method_45_code, (some .boolean), 20, 1, am_i185),
  (⟨"ChunkCodeModel", "expect", "(I)V"⟩, prog_14_method_30_code, none, 20, 2, am_i186),
  (⟨"ChunkCodeModel", "simple", "(I)V"⟩, prog_14_method_48_code, none, 20, 3, am_i187),
  (⟨"ChunkCodeModel", "constant", "(II)V"⟩, prog_14_method_47_code, none, 20, 3, am_i188),
  (⟨"ChunkCodeModel", "put", "(IIII)I"⟩, prog_14_method_11_code, (some .int), 20, 5, am_i189),
  (⟨"ChunkCodeModel", "value", "(III)V"⟩, prog_14_method_33_code, none, 20, 4, am_i190),
  (⟨"ChunkCodeModel", "failName", "(II)V"⟩, prog_14_method_6_code, none, 20, 3, am_i191),
  (⟨"ChunkCodeModel", "table", "()V"⟩, prog_14_method_55_code, none, 20, 2, am_i192),
  (⟨"ChunkCodeModel", "enter", "(I)Z"⟩, prog_14_method_8_code, (some .boolean), 20, 2, am_i193),
  (⟨"ChunkCodeModel", "fail", "(I)Z"⟩, prog_14_method_5_code, (some .boolean), 20, 2, am_i194),
  (⟨"ChunkCodeModel", "body", "(ZI)V"⟩, prog_14_method_59_code, none, 20, 5, am_i195),
  (⟨"ChunkCodeModel", "declare", "(IZZI)V"⟩, prog_14_method_13_code, none, 20, 6, am_i196),
  (⟨"ChunkCodeModel", "count", "()I"⟩, prog_14_method_12_code, (some .int), 20, 1, am_i197),
  (⟨"ChunkCodeModel", "parameters", "(I)Z"⟩, prog_14_method_60_code, (some .boolean), 20, 3, am_i198),
  (⟨"ChunkCodeModel", "leave", "(I)Z"⟩, prog_14_method_9_code, (some .boolean), 20, 2, am_i199),
  (⟨"ChunkCodeModel", "take", "(I)Z"⟩, prog_14_method_7_code, (some .boolean), 20, 2, am_i200),
  (⟨"ChunkCodeModel", "primary", "()V"⟩, prog_14_method_49_code, none, 20, 1, am_i201),
  (⟨"ChunkCodeModel", "binary", "(I)V"⟩, prog_14_method_50_code, none, 20, 4, am_i202),
  (⟨"ChunkCodeModel", "left", "(I)I"⟩, prog_14_method_43_code, (some .int), 20, 1, am_i203),
  (⟨"ChunkCodeModel", "load", "()V"⟩, prog_14_method_35_code, none, 20, 4, am_i204),
  (⟨"ChunkCodeModel", "resolve", "(I)I"⟩, prog_14_method_17_code, (some .int), 20, 5, am_i205),
  (⟨"ChunkCodeModel", "find", "(I)I"⟩, prog_14_method_15_code, (some .int), 20, 3, am_i206),
  (⟨"ChunkCodeModel", "outerOf", "(IIII)I"⟩, prog_14_method_16_code, (some .int), 20, 7, am_i207),
  (⟨"ChunkCodeModel", "right", "(I)I"⟩, prog_14_method_44_code, (some .int), 20, 1, am_i208),
  (⟨"ChunkCodeModel", "loadAway", "()V"⟩, prog_14_method_36_code, none, 20, 1, am_i209),
  (⟨"ChunkCodeModel", "here", "()I"⟩, prog_14_method_10_code, (some .int), 20, 1, am_i210),
  (⟨"ChunkCodeModel", "suffix", "()V"⟩, prog_14_method_51_code, none, 20, 4, am_i211),
  (⟨"ChunkCodeModel", "args", "(I)V"⟩, prog_14_method_53_code, none, 20, 3, am_i212),
  (⟨"ChunkCodeModel", "call", "(III)V"⟩, prog_14_method_52_code, none, 20, 5, am_i213),
  (⟨"ChunkCodeModel", "expectList", "()V"⟩, prog_14_method_32_code, none, 20, 1, am_i214),
  (⟨"ChunkCodeModel", "argsEnd", "(II)V"⟩, prog_14_method_54_code, none, 20, 5, am_i215),
  (⟨"ChunkCodeModel", "isOpen", "()Z"⟩, prog_14_method_34_code, (some .boolean), 20, 1, am_i216),
  (⟨"ChunkCodeModel", "openAway", "()V"⟩, prog_14_method_37_code, none, 20, 2, am_i217),
  (⟨"ChunkCodeModel", "listEnd", "(I)V"⟩, prog_14_method_91_code, none, 20, 2, am_i218),
  (⟨"ChunkCodeModel", "item", "(I)V"⟩, prog_14_method_56_code, none, 20, 4, am_i219),
  (⟨"ChunkCodeModel", "separator", "(I)V"⟩, prog_14_method_57_code, none, 20, 2, am_i220),
  (⟨"ChunkCodeModel", "placed", "(II)V"⟩, prog_14_method_58_code, none, 20, 4, am_i221),
  (⟨"ChunkCodeModel", "bodyEnd", "(I)V"⟩, prog_14_method_62_code, none, 20, 4, am_i222),
  (⟨"ChunkCodeModel", "lostGotos", "()V"⟩, prog_14_method_61_code, none, 20, 2, am_i223),
  (⟨"ChunkCodeModel", "dropBlock", "()V"⟩, prog_14_method_21_code, none, 20, 3, am_i224),
  (⟨"ChunkCodeModel", "statements", "()V"⟩, prog_14_method_64_code, none, 20, 2, am_i225),
  (⟨"ChunkCodeModel", "isFollower", "(I)Z"⟩, prog_14_method_63_code, (some .boolean), 20, 1, am_i226),
  (⟨"ChunkCodeModel", "giveBack", "()V"⟩, prog_14_method_66_code, none, 20, 2, am_i227),
  (⟨"ChunkCodeModel", "statement", "(I)V"⟩, prog_14_method_65_code, none, 20, 3, am_i228),
  (⟨"ChunkCodeModel", "label", "(I)V"⟩, prog_14_method_28_code, none, 20, 6, am_i229),
  (⟨"ChunkCodeModel", "labelOf", "(I)I"⟩, prog_14_method_25_code, (some .int), 20, 3, am_i230),
  (⟨"ChunkCodeModel", "isAtEnd", "()Z"⟩, prog_14_method_27_code, (some .boolean), 20, 4, am_i231),
  (⟨"ChunkCodeModel", "before", "()I"⟩, prog_14_method_20_code, (some .int), 20, 1, am_i232),
  (⟨"ChunkCodeModel", "leaveLoop", "(I)V"⟩, prog_14_method_24_code, none, 20, 3, am_i233),
  (⟨"ChunkCodeModel", "go", "(II)V"⟩, prog_14_method_26_code, none, 20, 5, am_i234),
  (⟨"ChunkCodeModel", "loop", "(I)V"⟩, prog_14_method_73_code, none, 20, 4, am_i235),
  (⟨"ChunkCodeModel", "functionStatement", "(I)V"⟩, prog_14_method_83_code, none, 20, 6, am_i236),
  (⟨"ChunkCodeModel", "target", "(I)I"⟩, prog_14_method_41_code, (some .int), 20, 3, am_i237),
  (⟨"ChunkCodeModel", "local", "(I)V"⟩, prog_14_method_85_code, none, 20, 8, am_i238),
  (⟨"ChunkCodeModel", "keep", "(III)V"⟩, prog_14_method_42_code, none, 20, 4, am_i239),
  (⟨"ChunkCodeModel", "nils", "(I)V"⟩, prog_14_method_39_code, none, 20, 3, am_i240),
  (⟨"ChunkCodeModel", "localEnd", "(II)V"⟩, prog_14_method_86_code, none, 20, 6, am_i241),
  (⟨"ChunkCodeModel", "endBlock", "()V"⟩, prog_14_method_22_code, none, 20, 1, am_i242),
  (⟨"ChunkCodeModel", "hasLocals", "()Z"⟩, prog_14_method_19_code, (some .boolean), 20, 1, am_i243),
  (⟨"ChunkCodeModel", "whileDo", "(I)V"⟩, prog_14_method_70_code, none, 20, 3, am_i244),
  (⟨"ChunkCodeModel", "whileEnd", "(II)V"⟩, prog_14_method_71_code, none, 20, 3, am_i245),
  (⟨"ChunkCodeModel", "mendBreaks", "()V"⟩, prog_14_method_23_code, none, 20, 3, am_i246),
  (⟨"ChunkCodeModel", "repeatEnd", "(I)V"⟩, prog_14_method_72_code, none, 20, 3, am_i247),
  (⟨"ChunkCodeModel", "then", "(I)V"⟩, prog_14_method_81_code, none, 20, 3, am_i248),
  (⟨"ChunkCodeModel", "partEnd", "(II)V"⟩, prog_14_method_82_code, none, 20, 5, am_i249),
  (⟨"ChunkCodeModel", "mend", "(I)V"⟩, prog_14_method_40_code, none, 20, 4, am_i250),
  (⟨"ChunkCodeModel", "forSecond", "(I)V"⟩, prog_14_method_74_code, none, 20, 2, am_i251),
  (⟨"ChunkCodeModel", "forThird", "(I)V"⟩, prog_14_method_75_code, none, 20, 2, am_i252),
  (⟨"ChunkCodeModel", "forNumbers", "(I)V"⟩, prog_14_method_76_code, none, 20, 5, am_i253),
  (⟨"ChunkCodeModel", "hide", "(IZI)V"⟩, prog_14_method_14_code, none, 20, 5, am_i254),
  (⟨"ChunkCodeModel", "forNumbersEnd", "(III)V"⟩, prog_14_method_78_code, none, 20, 4, am_i255),
  (⟨"ChunkCodeModel", "unhide", "(I)V"⟩, prog_14_method_77_code, none, 20, 3, am_i256),
  (⟨"ChunkCodeModel", "each", "(III)V"⟩, prog_14_method_79_code, none, 20, 8, am_i257),
  (⟨"ChunkCodeModel", "adjust", "(II)V"⟩, prog_14_method_38_code, none, 20, 3, am_i258),
  (⟨"ChunkCodeModel", "eachEnd", "(III)V"⟩, prog_14_method_80_code, none, 20, 4, am_i259),
  (⟨"ChunkCodeModel", "functionEnd", "(III)V"⟩, prog_14_method_84_code, none, 20, 4, am_i260),
  (⟨"ChunkCodeModel", "given", "(I)V"⟩, prog_14_method_68_code, none, 20, 3, am_i261),
  (⟨"ChunkCodeModel", "mayTail", "()Z"⟩, prog_14_method_67_code, (some .boolean), 20, 3, am_i262),
  (⟨"ChunkCodeModel", "givenEnd", "()V"⟩, prog_14_method_69_code, none, 20, 1, am_i263),
  (⟨"ChunkCodeModel", "statementEnd", "(II)V"⟩, prog_14_method_87_code, none, 20, 8, am_i264),
  (⟨"ChunkCodeModel", "assign", "(II)V"⟩, prog_14_method_88_code, none, 20, 6, am_i265),
  (⟨"ChunkCodeModel", "sort", "()V"⟩, prog_14_method_93_code, none, 20, 3, am_i266),
  (⟨"ChunkCodeModel", "place", "()I"⟩, prog_14_method_95_code, (some .int), 20, 1, am_i267),
  (⟨"ChunkCodeModel", "functions", "()I"⟩, prog_14_method_96_code, (some .int), 20, 1, am_i268),
  (⟨"ChunkCodeModel", "function", "(II)I"⟩, prog_14_method_98_code, (some .int), 20, 3, am_i269),
  (⟨"ChunkCodeModel", "isFunction", "(I)Z"⟩, prog_14_method_97_code, (some .boolean), 20, 2, am_i270),
  (⟨"ChunkCodeModel", "outer", "(III)I"⟩, prog_14_method_99_code, (some .int), 20, 6, am_i271),
  (⟨"ChunkCodeModel", "code", "(III)I"⟩, prog_14_method_100_code, (some .int), 20, 5, am_i272),
  (⟨"ChunkCodeModel", "depth", "(I)I"⟩, prog_14_method_102_code, (some .int), 20, 6, am_i273),
  (⟨"ChunkCodeModel", "more", "(III)I"⟩, prog_14_method_101_code, (some .int), 20, 3, am_i274),
  (⟨"ChunkCodeModel", "flaws", "()I"⟩, prog_14_method_105_code, (some .int), 20, 8, am_i275),
  (⟨"ChunkCodeModel", "isRight", "(IIII)Z"⟩, prog_14_method_104_code, (some .boolean), 20, 6, am_i276),
  (⟨"ChunkCodeModel", "isIn", "(III)Z"⟩, prog_14_method_103_code, (some .boolean), 20, 3, am_i277),
  (⟨"ChunkCodeLaw", "law", "([I)Z"⟩, code, (some .boolean), 21, 4, am_i278)]
def am_mt (M : Nat) : MethodName × ByteArray × Option FieldType × Nat × Nat × List (Nat × am_I) := (am_ML[M]?).getD (⟨"", "", ""⟩, ByteArray.empty, none, 0, 0, [])
def am_YY : am_Y := fun M => ((am_mt M).1, (am_mt M).2.1, (am_mt M).2.2.1)
def am_hd (M pc : Nat) : Option (Nat × Nat) := if M = 38 ∧ 14 ≤ pc ∧ pc < 21 then some (25, 1) else none
def am_P0 : am_P := (fun M pc => am_at (am_mt M).2.2.2.2.2 pc, am_nb, fun M => (am_mt M).2.2.2.2.1, am_hd, (0, fun _ => 0))
def am_LF : List (List (Nat × Nat × Nat)) := [[(10, 0, 0), (21, 0, 1), (28, 0, 2), (37, 0, 3), (46, 0, 4), (54, 8, 5), (60, 8, 0), (99, 0, 5), (108, 8, 3), (111, 8, 4), (114, 8, 6), (116, 8, 7), (119, 8, 1), (125, 8, 8)], [(7, 1, 0), (13, 1, 1)], [(12, 2, 1), (18, 2, 0), (34, 2, 2), (38, 2, 3)], [(11, 3, 0), (15, 3, 1)], [(10, 4, 0), (16, 4, 1)], [(9, 5, 0), (48, 5, 1), (63, 5, 2)], [(7, 5, 2)], [], [(12, 6, 3), (18, 6, 4), (21, 6, 0), (25, 6, 1), (34, 6, 2), (54, 8, 5), (72, 8, 6), (176, 6, 6), (194, 6, 7), (212, 7, 0), (220, 8, 10), (242, 8, 12), (277, 8, 0), (327, 6, 5), (346, 8, 2), (349, 8, 4)], [(12, 7, 3), (21, 7, 4), (25, 7, 5), (31, 7, 6), (35, 7, 1), (39, 7, 2), (48, 7, 0), (70, 8, 2), (74, 8, 3), (77, 8, 8), (84, 8, 9), (90, 8, 10), (96, 8, 11), (102, 8, 12), (148, 8, 7), (160, 7, 7), (163, 7, 8), (166, 7, 9)], [(10, 8, 0), (16, 8, 1), (19, 8, 2), (23, 8, 3), (26, 8, 8), (29, 8, 4), (32, 8, 5), (35, 8, 6), (38, 8, 7), (41, 8, 9), (44, 8, 10), (47, 8, 11), (50, 8, 12)], [(10, 9, 1), (16, 9, 2), (19, 9, 3), (22, 9, 4), (25, 9, 0), (67, 8, 0)], [(7, 10, 0), (13, 8, 0), (64, 8, 7), (68, 8, 1), (78, 8, 3), (81, 8, 2)], [], [], [], [], [], [], [], [(7, 11, 1), (13, 11, 2), (17, 11, 11), (20, 11, 12), (23, 11, 13), (26, 11, 14), (30, 11, 16), (33, 11, 17), (36, 11, 18), (39, 11, 21), (42, 11, 22), (45, 11, 23), (48, 11, 25), (51, 11, 26), (54, 11, 27), (57, 11, 28), (61, 11, 29), (64, 11, 30), (67, 11, 33), (70, 11, 34), (73, 11, 35), (76, 11, 36), (79, 11, 38), (82, 11, 39), (85, 11, 40), (88, 11, 41), (91, 11, 42), (94, 11, 43), (97, 11, 45), (100, 11, 46), (103, 11, 47), (106, 11, 49), (109, 11, 50), (112, 11, 51), (115, 11, 52), (118, 11, 53), (122, 11, 54), (125, 11, 55), (128, 11, 56), (131, 11, 57), (134, 11, 58), (137, 11, 59), (140, 11, 60), (143, 11, 61), (146, 11, 63), (149, 11, 64), (152, 11, 65), (155, 11, 66), (158, 11, 67), (161, 11, 68), (164, 11, 69), (167, 11, 70), (170, 11, 71), (173, 11, 72), (176, 11, 73), (179, 11, 74), (182, 11, 0), (185, 11, 4), (192, 11, 6), (195, 11, 7), (198, 11, 10), (201, 11, 8), (204, 11, 9), (215, 11, 5), (221, 11, 32), (224, 11, 24), (234, 11, 31), (241, 11, 62), (247, 11, 75), (254, 11, 37), (257, 11, 44), (260, 11, 48), (293, 11, 15), (314, 11, 20), (361, 11, 19), (380, 11, 76), (525, 11, 3)], []]
def am_LD : List (Nat × Nat × Int32) := [(3, 19, 1048576), (13, 200, 2147483639), (20, 16, 65536), (20, 29, 32768)]
def am_LN : List (Nat × Nat × Nat) := [(0, 7, 1), (0, 16, 2), (0, 25, 4), (0, 32, 6), (0, 41, 10), (2, 9, 3), (4, 7, 5), (4, 28, 8), (8, 9, 3), (8, 29, 7), (9, 9, 5), (9, 18, 3), (9, 28, 8), (9, 43, 9), (10, 7, 3), (11, 7, 3), (21, 7, 0), (21, 10, 11)]
def am_LX : List (Nat × Nat × Nat) := [(4, 28, 8), (9, 28, 8)]
def am_LO : List (Nat × Nat) := [(0, 1), (1, 1), (2, 3), (3, 3), (4, 1), (7, 1), (8, 3), (9, 3), (10, 1), (11, 1), (12, 1), (20, 1)]
def am_LKc : List (List (Nat × Nat × Nat × Nat)) := [[(9, 1, 1, 1), (18, 2, 2, 1), (27, 4, 1, 1), (34, 8, 4, 1), (43, 12, 2, 1), (50, 13, 1, 6), (66, 31, 5, 5), (71, 34, 1, 0), (77, 35, 1, 4), (81, 37, 3, 4), (84, 39, 1, 3), (87, 40, 1, 6), (88, 41, 1, 8), (93, 152, 1, 3), (96, 153, 1, 3), (102, 154, 1, 4), (103, 155, 1, 6), (104, 159, 2, 6), (122, 36, 1, 5), (128, 161, 2, 5), (131, 54, 3, 5), (134, 164, 2, 12), (138, 167, 1, 12)], [], [(11, 3, 1, 1), (22, 31, 5, 5), (26, 36, 1, 5), (30, 30, 2, 5), (41, 54, 3, 5), (47, 58, 3, 3), (51, 65, 2, 4), (54, 55, 1, 4), (57, 56, 1, 0), (63, 57, 1, 0), (66, 93, 2, 4), (70, 121, 1, 0)], [(20, 32, 2, 0)], [(9, 5, 1, 1), (20, 14, 1, 7), (24, 25, 2, 7), (30, 10, 1, 1), (31, 15, 2, 7), (35, 29, 2, 10)], [(1, 6, 1, 1), (66, 22, 2, 0), (69, 18, 2, 7), (73, 19, 3, 0), (79, 20, 2, 0), (118, 26, 2, 0), (123, 28, 2, 7), (129, 17, 1, 7), (131, 16, 4, 7), (144, 90, 3, 7)], [(1, 7, 1, 1)], [], [(11, 3, 1, 1), (31, 9, 3, 1), (38, 42, 1, 4), (43, 43, 1, 9), (46, 30, 2, 5), (50, 46, 2, 9), (60, 52, 1, 8), (65, 65, 2, 4), (68, 35, 1, 4), (76, 78, 5, 8), (80, 80, 1, 9), (83, 53, 1, 4), (86, 55, 1, 4), (89, 59, 1, 8), (92, 119, 1, 8), (95, 123, 1, 8), (98, 126, 1, 8), (101, 128, 1, 8), (104, 64, 2, 4), (108, 130, 1, 8), (111, 133, 1, 8), (114, 134, 1, 8), (117, 63, 1, 4), (120, 93, 2, 4), (123, 138, 1, 8), (126, 144, 1, 8), (129, 145, 1, 8), (132, 146, 1, 8), (135, 147, 1, 8), (138, 150, 1, 8), (141, 51, 1, 9), (144, 129, 1, 9), (148, 82, 1, 9), (151, 81, 1, 9), (154, 60, 1, 8), (157, 99, 3, 8), (161, 36, 1, 5), (164, 113, 2, 8), (167, 112, 1, 8), (170, 117, 3, 8), (173, 118, 2, 8), (179, 114, 2, 8), (182, 101, 1, 9), (185, 116, 1, 0), (188, 102, 1, 9), (191, 31, 5, 5), (199, 58, 3, 3), (202, 115, 1, 9), (205, 76, 3, 3), (208, 54, 3, 5), (216, 79, 1, 9), (223, 84, 3, 11), (228, 98, 1, 8), (231, 75, 1, 9), (232, 120, 1, 4), (235, 122, 5, 11), (239, 50, 1, 11), (245, 124, 1, 11), (248, 125, 2, 11), (251, 127, 5, 11), (255, 70, 1, 8), (258, 131, 2, 11), (261, 109, 3, 10), (264, 132, 2, 11), (268, 135, 1, 8), (271, 136, 3, 8), (274, 137, 2, 8), (280, 139, 1, 8), (283, 140, 4, 8), (287, 142, 3, 8), (290, 143, 1, 8), (293, 74, 4, 9), (297, 141, 2, 9), (300, 104, 2, 4), (303, 62, 1, 8), (306, 100, 2, 8), (309, 110, 1, 8), (312, 73, 3, 8), (316, 148, 2, 8), (320, 149, 2, 9), (323, 121, 1, 0), (331, 97, 1, 8), (334, 151, 1, 9), (337, 86, 4, 5), (340, 96, 1, 8), (343, 77, 2, 8), (352, 71, 1, 8), (355, 91, 1, 8), (358, 103, 1, 8), (361, 105, 2, 8), (364, 108, 3, 8), (367, 72, 1, 0), (370, 106, 1, 0), (373, 107, 1, 0), (376, 61, 1, 8), (379, 111, 2, 8), (382, 66, 2, 9), (385, 92, 2, 8), (388, 95, 1, 0), (391, 94, 1, 8)], [(11, 5, 1, 1), (20, 3, 1, 1), (30, 10, 1, 1), (45, 11, 2, 1), (52, 44, 1, 11), (55, 45, 1, 7), (56, 30, 2, 5), (60, 13, 1, 6), (66, 47, 1, 7), (80, 36, 1, 5), (87, 48, 1, 11), (93, 49, 1, 11), (99, 50, 1, 11), (105, 15, 2, 7), (108, 51, 1, 9), (111, 81, 1, 9), (114, 88, 2, 11), (117, 14, 1, 7), (120, 89, 2, 7), (124, 25, 2, 7), (127, 31, 5, 5), (130, 54, 3, 5), (133, 75, 1, 9), (136, 82, 1, 9), (139, 83, 5, 11), (144, 76, 3, 3), (151, 20, 2, 0), (156, 86, 4, 5), (170, 67, 2, 9), (176, 68, 2, 9), (179, 69, 3, 10)], [(9, 3, 1, 1), (53, 30, 2, 5), (57, 36, 1, 5), (61, 86, 4, 5), (65, 54, 3, 5), (69, 31, 5, 5)], [(9, 3, 1, 1), (29, 30, 2, 5), (33, 36, 1, 5), (37, 54, 3, 5), (41, 31, 5, 5), (45, 84, 3, 11), (48, 85, 4, 11), (52, 87, 4, 11), (58, 76, 3, 3), (64, 109, 3, 10), (70, 86, 4, 5), (73, 24, 2, 0)], [(19, 36, 1, 5), (25, 165, 2, 0), (29, 20, 2, 0), (35, 155, 1, 6), (40, 159, 2, 6), (44, 168, 2, 12), (48, 54, 3, 5), (53, 169, 2, 0), (57, 170, 3, 12), (60, 171, 3, 0), (71, 161, 2, 5), (75, 172, 3, 12)], [(194, 20, 2, 0), (201, 21, 2, 0)], [], [(300, 23, 3, 0), (304, 24, 2, 0)], [(105, 27, 3, 0)], [], [], [], [(188, 184, 2, 13), (207, 183, 1, 13), (211, 194, 2, 13), (218, 200, 2, 13), (227, 197, 1, 13), (230, 191, 3, 13), (237, 196, 5, 13), (244, 206, 2, 13), (250, 207, 5, 13), (263, 243, 1, 13), (267, 232, 1, 13), (270, 189, 5, 13), (273, 224, 1, 13), (276, 210, 1, 13), (279, 230, 2, 13), (282, 231, 1, 13), (285, 179, 5, 13), (289, 186, 2, 13), (296, 205, 2, 13), (299, 204, 1, 13), (302, 216, 1, 13), (305, 217, 1, 13), (308, 209, 1, 13), (311, 240, 2, 13), (317, 203, 1, 0), (320, 185, 1, 0), (323, 187, 2, 13), (326, 190, 4, 13), (330, 188, 3, 13), (333, 192, 1, 13), (336, 193, 2, 13), (339, 195, 3, 13), (343, 201, 1, 13), (346, 208, 1, 0), (349, 212, 2, 13), (352, 213, 4, 13), (355, 199, 2, 13), (358, 214, 1, 13), (364, 220, 2, 13), (367, 177, 2, 13), (371, 198, 2, 13), (374, 178, 1, 13), (377, 223, 1, 13), (383, 226, 1, 0), (386, 227, 1, 13), (389, 228, 2, 13), (392, 229, 2, 13), (395, 233, 2, 13), (398, 234, 3, 13), (401, 235, 2, 13), (404, 236, 2, 13), (407, 238, 2, 13), (410, 262, 1, 13), (413, 242, 1, 13), (416, 246, 1, 13), (419, 253, 2, 13), (422, 254, 4, 13), (426, 256, 2, 13), (429, 258, 3, 13), (432, 250, 2, 13), (435, 237, 2, 13), (438, 239, 4, 13), (441, 241, 3, 13), (444, 181, 4, 13), (447, 225, 1, 13), (450, 244, 2, 13), (453, 245, 3, 13), (456, 247, 2, 13), (459, 248, 2, 13), (462, 249, 3, 13), (465, 251, 2, 13), (468, 252, 2, 13), (471, 255, 4, 13), (474, 257, 4, 13), (477, 259, 4, 13), (480, 260, 4, 13), (483, 261, 2, 13), (486, 263, 1, 13), (489, 264, 3, 13), (492, 265, 3, 13), (495, 182, 2, 13), (498, 202, 2, 13), (501, 211, 1, 13), (504, 215, 3, 13), (507, 218, 2, 13), (510, 219, 2, 13), (513, 221, 3, 13), (516, 222, 2, 13), (519, 176, 1, 13), (522, 180, 5, 13), (528, 266, 1, 13), (531, 270, 2, 13), (534, 274, 3, 0), (538, 277, 3, 0), (542, 276, 5, 13)], [(9, 0, 1, 1), (12, 173, 1, 1), (13, 33, 3, 2), (17, 174, 3, 13), (18, 38, 1, 2), (22, 175, 1, 13), (23, 156, 1, 2), (26, 267, 1, 13), (27, 157, 1, 2), (30, 268, 1, 13), (31, 158, 3, 2), (34, 269, 3, 13), (35, 160, 4, 2), (39, 271, 4, 13), (40, 162, 4, 2), (43, 272, 4, 13), (44, 163, 2, 2), (48, 273, 2, 13), (49, 166, 1, 2), (52, 275, 1, 13)]]
def am_LXO : List (Nat × Nat) := [(5, 7), (15, 2)]
def am_LAC : List (Nat × Nat) := [(5, 112), (15, 150)]
def am_LGS : List (Nat × Nat) := [(5, 39)]
def am_LGC : List (Nat × Nat) := [(15, 86)]
def am_LLM : List (Nat × Nat) := [(15, 110)]
def am_LL : am_Lk := (fun o => (am_LF[o]?).getD [], am_LD, am_LN, am_LX, am_LO, fun o => (am_LKc[o]?).getD [], am_LXO, am_LAC, am_LGS, am_LGC, am_LLM)
/-- every instruction of a method, held against its bytes -/
def am_ckM (M : Nat) : Bool := (am_mt M).2.2.2.2.2.all fun q => am_ck am_LL am_cl am_nm (am_mt M).2.2.2.1 (am_mt M).2.1 (am_mt M).2.2.1 (decide ((am_mt M).1.name = "<init>")) q.1 q.2.1 q.2.2.1 q.2.2.2.1 q.2.2.2.2.1 q.2.2.2.2.2.1 q.2.2.2.2.2.2.1 q.2.2.2.2.2.2.2
end
section
/-! THE PROGRAM IS HELD AGAINST BYTES AND TABLES (printed by wip/whole/gen13.py) -/
/-- the words that stay true and that the contracts ask for -/
def am_gk (w : Jvm.Cond) : Bool := match w with
  | .methodLinkNest _ _ _ _ => true
  | .arrayOver (.object _) => true
  | .castable _ _ => true
  | .declares _ => true
  | w => goodWord w
def am_Ts : List Jvm.Cond := lw_tbl.filter am_gk
theorem am_Ts_ps : ∀ w ∈ am_Ts, am_Ps w := by
  intro w hw s U args a' hW h
  have hg := (List.mem_filter.mp hw).2
  unfold am_gk at hg
  split at hg
  · exact va_Nw.use rfl (va_Nw.warmM hW (va_Nw.of rfl h))
  · exact va_AO.use (va_AO.moved hW.alike (va_AO.of h))
  · exact va_Nw.use rfl (va_Nw.warmC hW (va_Nw.of rfl h))
  · exact va_Nw.use rfl (va_Nw.warmD hW (va_Nw.of rfl h))
  · exact word_at hW (good_of_word hg) h
def am_tk (k : Nat) : List Jvm.Cond := match k with
  | 0 => k2_sels lw_privs
  | 1 => tables_1_1
  | 2 => tables_1_2
  | 3 => tables_1_3
  | 4 => tables_1_4
  | 5 => tables_1_5
  | 6 => tables_1_6
  | 7 => tables_1_7
  | _ => tables_1_8
/-- the word stands at this place of the tables, and is one of those -/
def am_iT (q : Nat × Nat) (w : Jvm.Cond) : Bool := decide ((am_tk q.1)[q.2]? = some w) && am_gk w
theorem am_iT_ok {q : Nat × Nat} {w : Jvm.Cond} (h : am_iT q w = true) : w ∈ am_Ts := by
  unfold am_iT at h
  simp only [Bool.and_eq_true, decide_eq_true_eq] at h
  refine List.mem_filter.mpr ⟨?_, h.2⟩
  have h1 : w ∈ am_tk q.1 := List.mem_of_getElem? h.1
  have key : ∀ k, w ∈ am_tk k → w ∈ lw_tbl := by
    intro k hk
    unfold lw_tbl tables_1
    simp only [List.mem_append]
    match k, hk with
    | 0, hk => exact Or.inl hk
    | 1, hk => exact Or.inr (Or.inl hk)
    | 2, hk => exact Or.inr (Or.inr (Or.inl hk))
    | 3, hk => exact Or.inr (Or.inr (Or.inr (Or.inl hk)))
    | 4, hk => exact Or.inr (Or.inr (Or.inr (Or.inr (Or.inl hk))))
    | 5, hk => exact Or.inr (Or.inr (Or.inr (Or.inr (Or.inr (Or.inl hk)))))
    | 6, hk => exact Or.inr (Or.inr (Or.inr (Or.inr (Or.inr (Or.inr (Or.inl hk))))))
    | 7, hk => exact Or.inr (Or.inr (Or.inr (Or.inr (Or.inr (Or.inr (Or.inr (Or.inl hk)))))))
    | n + 8, hk => exact Or.inr (Or.inr (Or.inr (Or.inr (Or.inr (Or.inr (Or.inr (Or.inr hk)))))))
  exact key _ h1
theorem am_hd0 {M : Nat} (h : M ≠ 38) (pc : Nat) : am_P0.2.2.2.1 M pc = none := by
  show am_hd M pc = none
  unfold am_hd
  rw [if_neg (fun q => h q.1)]
def am_mb (M : Nat) (q : Nat × Nat) : Bool := am_iT q (.initialized (am_YY M).1.cls) && decide ((am_YY M).1.cls ≠ "java/lang/invoke/MethodHandle") && decide ((am_YY M).1.cls ≠ "java/lang/invoke/VarHandle") && plainFor (am_YY M).1 && decide (am_P0.2.2.1 M ≤ 22)
def am_okN (M : Nat) : Prop := am_okM am_P0 am_YY am_Ts M ∧ Jvm.Cond.code (am_YY M).1 (am_YY M).2.1 (am_P0.2.2.1 M) (am_YY M).2.2 ∈ am_Ts
theorem am_mb_ok {M : Nat} (q1 q2 : Nat × Nat) (hC : M ≠ 38) (h0 : (am_tk q1.1)[q1.2]? = some (.code (am_YY M).1 (am_YY M).2.1 (am_P0.2.2.1 M) (am_YY M).2.2)) (h : am_mb M q2 = true) : am_okN M := by
  unfold am_mb at h
  simp only [Bool.and_eq_true, decide_eq_true_eq] at h
  obtain ⟨⟨⟨⟨h2, h3⟩, h4⟩, h5⟩, h6⟩ := h
  have hc : Jvm.Cond.code (am_YY M).1 (am_YY M).2.1 (am_P0.2.2.1 M) (am_YY M).2.2 ∈ am_Ts := by
    refine am_iT_ok (q := q1) ?_
    unfold am_iT
    rw [h0]
    simp only [decide_true, Bool.true_and]
    first | rfl | simp [am_gk, goodWord, Cond.onTables, Cond.keeps, Cond.steady]
  exact ⟨⟨Or.inl ⟨hc, am_hd0 hC⟩, am_iT_ok h2, ⟨h3, h4⟩, h5, h6⟩, hc⟩
set_option maxRecDepth 20000 in
theorem am_mm0 : am_okN 0 := am_mb_ok (1, 31) (1, 1) (by decide) rfl (by decide +kernel)
set_option maxRecDepth 20000 in
theorem am_mm1 : am_okN 1 := am_mb_ok (1, 39) (1, 2) (by decide) rfl (by decide +kernel)
set_option maxRecDepth 20000 in
theorem am_mm2 : am_okN 2 := am_mb_ok (1, 52) (1, 3) (by decide) rfl (by decide +kernel)
set_option maxRecDepth 20000 in
theorem am_mm3 : am_okN 3 := am_mb_ok (1, 58) (1, 4) (by decide) rfl (by decide +kernel)
set_option maxRecDepth 20000 in
theorem am_mm4 : am_okN 4 := am_mb_ok (1, 85) (1, 5) (by decide) rfl (by decide +kernel)
set_option maxRecDepth 20000 in
theorem am_mm5 : am_okN 5 := am_mb_ok (1, 91) (1, 8) (by decide) rfl (by decide +kernel)
set_option maxRecDepth 20000 in
theorem am_mm6 : am_okN 6 := am_mb_ok (1, 94) (1, 7) (by decide) rfl (by decide +kernel)
set_option maxRecDepth 20000 in
theorem am_mm7 : am_okN 7 := am_mb_ok (1, 97) (1, 6) (by decide) rfl (by decide +kernel)
set_option maxRecDepth 20000 in
theorem am_mm8 : am_okN 8 := am_mb_ok (1, 124) (1, 9) (by decide) rfl (by decide +kernel)
set_option maxRecDepth 20000 in
theorem am_mm9 : am_okN 9 := am_mb_ok (1, 132) (1, 10) (by decide) rfl (by decide +kernel)
set_option maxRecDepth 20000 in
theorem am_mm10 : am_okN 10 := am_mb_ok (1, 142) (1, 11) (by decide) rfl (by decide +kernel)
set_option maxRecDepth 20000 in
theorem am_mm11 : am_okN 11 := am_mb_ok (1, 219) (1, 12) (by decide) rfl (by decide +kernel)
set_option maxRecDepth 20000 in
theorem am_mm12 : am_okN 12 := am_mb_ok (2, 60) (1, 13) (by decide) rfl (by decide +kernel)
set_option maxRecDepth 20000 in
theorem am_mm13 : am_okN 13 := am_mb_ok (2, 69) (1, 5) (by decide) rfl (by decide +kernel)
set_option maxRecDepth 20000 in
theorem am_mm14 : am_okN 14 := am_mb_ok (2, 73) (1, 8) (by decide) rfl (by decide +kernel)
set_option maxRecDepth 20000 in
theorem am_mm15 : am_okN 15 := am_mb_ok (2, 79) (1, 8) (by decide) rfl (by decide +kernel)
set_option maxRecDepth 20000 in
theorem am_mm16 : am_okN 16 := am_mb_ok (2, 83) (1, 8) (by decide) rfl (by decide +kernel)
set_option maxRecDepth 20000 in
theorem am_mm17 : am_okN 17 := am_mb_ok (2, 87) (1, 8) (by decide) rfl (by decide +kernel)
set_option maxRecDepth 20000 in
theorem am_mm18 : am_okN 18 := am_mb_ok (2, 91) (1, 8) (by decide) rfl (by decide +kernel)
set_option maxRecDepth 20000 in
theorem am_mm19 : am_okN 19 := am_mb_ok (2, 94) (1, 14) (by decide) rfl (by decide +kernel)
set_option maxRecDepth 20000 in
theorem am_mm20 : am_okN 20 := am_mb_ok (2, 97) (1, 15) (by decide) rfl (by decide +kernel)
set_option maxRecDepth 20000 in
theorem am_mm21 : am_okN 21 := am_mb_ok (2, 101) (1, 14) (by decide) rfl (by decide +kernel)
set_option maxRecDepth 20000 in
theorem am_mm22 : am_okN 22 := am_mb_ok (2, 104) (1, 16) (by decide) rfl (by decide +kernel)
set_option maxRecDepth 20000 in
theorem am_mm23 : am_okN 23 := am_mb_ok (2, 124) (1, 16) (by decide) rfl (by decide +kernel)
set_option maxRecDepth 20000 in
theorem am_mm24 : am_okN 24 := am_mb_ok (2, 130) (1, 15) (by decide) rfl (by decide +kernel)
set_option maxRecDepth 20000 in
theorem am_mm25 : am_okN 25 := am_mb_ok (2, 139) (1, 8) (by decide) rfl (by decide +kernel)
set_option maxRecDepth 20000 in
theorem am_mm26 : am_okN 26 := am_mb_ok (2, 142) (1, 18) (by decide) rfl (by decide +kernel)
set_option maxRecDepth 20000 in
theorem am_mm27 : am_okN 27 := am_mb_ok (2, 145) (1, 19) (by decide) rfl (by decide +kernel)
set_option maxRecDepth 20000 in
theorem am_mm28 : am_okN 28 := am_mb_ok (2, 149) (1, 8) (by decide) rfl (by decide +kernel)
set_option maxRecDepth 20000 in
theorem am_mm29 : am_okN 29 := am_mb_ok (2, 153) (1, 11) (by decide) rfl (by decide +kernel)
set_option maxRecDepth 20000 in
theorem am_mm30 : am_okN 30 := am_mb_ok (2, 157) (1, 4) (by decide) rfl (by decide +kernel)
set_option maxRecDepth 20000 in
theorem am_mm31 : am_okN 31 := am_mb_ok (2, 161) (1, 4) (by decide) rfl (by decide +kernel)
set_option maxRecDepth 20000 in
theorem am_mm32 : am_okN 32 := am_mb_ok (2, 165) (1, 16) (by decide) rfl (by decide +kernel)
set_option maxRecDepth 20000 in
theorem am_mm33 : am_okN 33 := am_mb_ok (2, 195) (1, 1) (by decide) rfl (by decide +kernel)
set_option maxRecDepth 20000 in
theorem am_mm34 : am_okN 34 := am_mb_ok (2, 198) (1, 21) (by decide) rfl (by decide +kernel)
set_option maxRecDepth 20000 in
theorem am_mm35 : am_okN 35 := am_mb_ok (2, 202) (1, 3) (by decide) rfl (by decide +kernel)
set_option maxRecDepth 20000 in
theorem am_mm36 : am_okN 36 := am_mb_ok (2, 206) (1, 4) (by decide) rfl (by decide +kernel)
set_option maxRecDepth 20000 in
theorem am_mm37 : am_okN 37 := am_mb_ok (2, 210) (1, 3) (by decide) rfl (by decide +kernel)
set_option maxRecDepth 20000 in
theorem am_mm39 : am_okN 39 := am_mb_ok (2, 220) (1, 2) (by decide) rfl (by decide +kernel)
set_option maxRecDepth 20000 in
theorem am_mm40 : am_okN 40 := am_mb_ok (2, 224) (1, 5) (by decide) rfl (by decide +kernel)
set_option maxRecDepth 20000 in
theorem am_mm41 : am_okN 41 := am_mb_ok (2, 228) (1, 9) (by decide) rfl (by decide +kernel)
set_option maxRecDepth 20000 in
theorem am_mm42 : am_okN 42 := am_mb_ok (2, 232) (1, 3) (by decide) rfl (by decide +kernel)
set_option maxRecDepth 20000 in
theorem am_mm43 : am_okN 43 := am_mb_ok (2, 236) (1, 10) (by decide) rfl (by decide +kernel)
set_option maxRecDepth 20000 in
theorem am_mm44 : am_okN 44 := am_mb_ok (3, 0) (1, 12) (by decide) rfl (by decide +kernel)
set_option maxRecDepth 20000 in
theorem am_mm45 : am_okN 45 := am_mb_ok (3, 5) (1, 8) (by decide) rfl (by decide +kernel)
set_option maxRecDepth 20000 in
theorem am_mm46 : am_okN 46 := am_mb_ok (3, 11) (1, 10) (by decide) rfl (by decide +kernel)
set_option maxRecDepth 20000 in
theorem am_mm47 : am_okN 47 := am_mb_ok (3, 16) (1, 8) (by decide) rfl (by decide +kernel)
set_option maxRecDepth 20000 in
theorem am_mm48 : am_okN 48 := am_mb_ok (3, 21) (1, 12) (by decide) rfl (by decide +kernel)
set_option maxRecDepth 20000 in
theorem am_mm49 : am_okN 49 := am_mb_ok (3, 26) (1, 12) (by decide) rfl (by decide +kernel)
set_option maxRecDepth 20000 in
theorem am_mm50 : am_okN 50 := am_mb_ok (3, 30) (1, 12) (by decide) rfl (by decide +kernel)
set_option maxRecDepth 20000 in
theorem am_mm51 : am_okN 51 := am_mb_ok (3, 35) (1, 10) (by decide) rfl (by decide +kernel)
set_option maxRecDepth 20000 in
theorem am_mm52 : am_okN 52 := am_mb_ok (3, 40) (1, 9) (by decide) rfl (by decide +kernel)
set_option maxRecDepth 20000 in
theorem am_mm53 : am_okN 53 := am_mb_ok (3, 44) (1, 3) (by decide) rfl (by decide +kernel)
set_option maxRecDepth 20000 in
theorem am_mm54 : am_okN 54 := am_mb_ok (3, 48) (1, 4) (by decide) rfl (by decide +kernel)
set_option maxRecDepth 20000 in
theorem am_mm55 : am_okN 55 := am_mb_ok (3, 52) (1, 3) (by decide) rfl (by decide +kernel)
set_option maxRecDepth 20000 in
theorem am_mm56 : am_okN 56 := am_mb_ok (3, 55) (1, 21) (by decide) rfl (by decide +kernel)
set_option maxRecDepth 20000 in
theorem am_mm57 : am_okN 57 := am_mb_ok (3, 58) (1, 21) (by decide) rfl (by decide +kernel)
set_option maxRecDepth 20000 in
theorem am_mm58 : am_okN 58 := am_mb_ok (3, 62) (1, 2) (by decide) rfl (by decide +kernel)
set_option maxRecDepth 20000 in
theorem am_mm59 : am_okN 59 := am_mb_ok (3, 127) (1, 9) (by decide) rfl (by decide +kernel)
set_option maxRecDepth 20000 in
theorem am_mm60 : am_okN 60 := am_mb_ok (3, 131) (1, 9) (by decide) rfl (by decide +kernel)
set_option maxRecDepth 20000 in
theorem am_mm61 : am_okN 61 := am_mb_ok (3, 135) (1, 9) (by decide) rfl (by decide +kernel)
set_option maxRecDepth 20000 in
theorem am_mm62 : am_okN 62 := am_mb_ok (3, 139) (1, 9) (by decide) rfl (by decide +kernel)
set_option maxRecDepth 20000 in
theorem am_mm63 : am_okN 63 := am_mb_ok (3, 143) (1, 3) (by decide) rfl (by decide +kernel)
set_option maxRecDepth 20000 in
theorem am_mm64 : am_okN 64 := am_mb_ok (3, 147) (1, 3) (by decide) rfl (by decide +kernel)
set_option maxRecDepth 20000 in
theorem am_mm65 : am_okN 65 := am_mb_ok (3, 151) (1, 3) (by decide) rfl (by decide +kernel)
set_option maxRecDepth 20000 in
theorem am_mm66 : am_okN 66 := am_mb_ok (3, 156) (1, 10) (by decide) rfl (by decide +kernel)
set_option maxRecDepth 20000 in
theorem am_mm67 : am_okN 67 := am_mb_ok (3, 160) (1, 10) (by decide) rfl (by decide +kernel)
set_option maxRecDepth 20000 in
theorem am_mm68 : am_okN 68 := am_mb_ok (3, 165) (1, 10) (by decide) rfl (by decide +kernel)
set_option maxRecDepth 20000 in
theorem am_mm69 : am_okN 69 := am_mb_ok (3, 171) (1, 11) (by decide) rfl (by decide +kernel)
set_option maxRecDepth 20000 in
theorem am_mm70 : am_okN 70 := am_mb_ok (3, 178) (1, 9) (by decide) rfl (by decide +kernel)
set_option maxRecDepth 20000 in
theorem am_mm71 : am_okN 71 := am_mb_ok (3, 183) (1, 9) (by decide) rfl (by decide +kernel)
set_option maxRecDepth 20000 in
theorem am_mm72 : am_okN 72 := am_mb_ok (3, 186) (1, 21) (by decide) rfl (by decide +kernel)
set_option maxRecDepth 20000 in
theorem am_mm73 : am_okN 73 := am_mb_ok (3, 191) (1, 9) (by decide) rfl (by decide +kernel)
set_option maxRecDepth 20000 in
theorem am_mm74 : am_okN 74 := am_mb_ok (3, 195) (1, 10) (by decide) rfl (by decide +kernel)
set_option maxRecDepth 20000 in
theorem am_mm75 : am_okN 75 := am_mb_ok (3, 199) (1, 10) (by decide) rfl (by decide +kernel)
set_option maxRecDepth 20000 in
theorem am_mm76 : am_okN 76 := am_mb_ok (3, 203) (1, 2) (by decide) rfl (by decide +kernel)
set_option maxRecDepth 20000 in
theorem am_mm77 : am_okN 77 := am_mb_ok (3, 208) (1, 9) (by decide) rfl (by decide +kernel)
set_option maxRecDepth 20000 in
theorem am_mm78 : am_okN 78 := am_mb_ok (3, 213) (1, 9) (by decide) rfl (by decide +kernel)
set_option maxRecDepth 20000 in
theorem am_mm79 : am_okN 79 := am_mb_ok (3, 217) (1, 10) (by decide) rfl (by decide +kernel)
set_option maxRecDepth 20000 in
theorem am_mm80 : am_okN 80 := am_mb_ok (3, 221) (1, 10) (by decide) rfl (by decide +kernel)
set_option maxRecDepth 20000 in
theorem am_mm81 : am_okN 81 := am_mb_ok (3, 225) (1, 10) (by decide) rfl (by decide +kernel)
set_option maxRecDepth 20000 in
theorem am_mm82 : am_okN 82 := am_mb_ok (3, 229) (1, 10) (by decide) rfl (by decide +kernel)
set_option maxRecDepth 20000 in
theorem am_mm83 : am_okN 83 := am_mb_ok (3, 233) (1, 12) (by decide) rfl (by decide +kernel)
set_option maxRecDepth 20000 in
theorem am_mm84 : am_okN 84 := am_mb_ok (3, 238) (1, 12) (by decide) rfl (by decide +kernel)
set_option maxRecDepth 20000 in
theorem am_mm85 : am_okN 85 := am_mb_ok (4, 2) (1, 12) (by decide) rfl (by decide +kernel)
set_option maxRecDepth 20000 in
theorem am_mm86 : am_okN 86 := am_mb_ok (4, 6) (1, 4) (by decide) rfl (by decide +kernel)
set_option maxRecDepth 20000 in
theorem am_mm87 : am_okN 87 := am_mb_ok (4, 11) (1, 12) (by decide) rfl (by decide +kernel)
set_option maxRecDepth 20000 in
theorem am_mm88 : am_okN 88 := am_mb_ok (4, 16) (1, 12) (by decide) rfl (by decide +kernel)
set_option maxRecDepth 20000 in
theorem am_mm89 : am_okN 89 := am_mb_ok (4, 20) (1, 8) (by decide) rfl (by decide +kernel)
set_option maxRecDepth 20000 in
theorem am_mm90 : am_okN 90 := am_mb_ok (4, 24) (1, 8) (by decide) rfl (by decide +kernel)
set_option maxRecDepth 20000 in
theorem am_mm91 : am_okN 91 := am_mb_ok (4, 29) (1, 9) (by decide) rfl (by decide +kernel)
set_option maxRecDepth 20000 in
theorem am_mm92 : am_okN 92 := am_mb_ok (4, 33) (1, 9) (by decide) rfl (by decide +kernel)
set_option maxRecDepth 20000 in
theorem am_mm93 : am_okN 93 := am_mb_ok (4, 37) (1, 3) (by decide) rfl (by decide +kernel)
set_option maxRecDepth 20000 in
theorem am_mm94 : am_okN 94 := am_mb_ok (4, 41) (1, 9) (by decide) rfl (by decide +kernel)
set_option maxRecDepth 20000 in
theorem am_mm95 : am_okN 95 := am_mb_ok (4, 44) (1, 9) (by decide) rfl (by decide +kernel)
set_option maxRecDepth 20000 in
theorem am_mm96 : am_okN 96 := am_mb_ok (4, 48) (1, 9) (by decide) rfl (by decide +kernel)
set_option maxRecDepth 20000 in
theorem am_mm97 : am_okN 97 := am_mb_ok (4, 52) (1, 9) (by decide) rfl (by decide +kernel)
set_option maxRecDepth 20000 in
theorem am_mm98 : am_okN 98 := am_mb_ok (4, 56) (1, 9) (by decide) rfl (by decide +kernel)
set_option maxRecDepth 20000 in
theorem am_mm99 : am_okN 99 := am_mb_ok (4, 62) (1, 9) (by decide) rfl (by decide +kernel)
set_option maxRecDepth 20000 in
theorem am_mm100 : am_okN 100 := am_mb_ok (4, 66) (1, 9) (by decide) rfl (by decide +kernel)
set_option maxRecDepth 20000 in
theorem am_mm101 : am_okN 101 := am_mb_ok (4, 70) (1, 10) (by decide) rfl (by decide +kernel)
set_option maxRecDepth 20000 in
theorem am_mm102 : am_okN 102 := am_mb_ok (4, 74) (1, 10) (by decide) rfl (by decide +kernel)
set_option maxRecDepth 20000 in
theorem am_mm103 : am_okN 103 := am_mb_ok (4, 78) (1, 9) (by decide) rfl (by decide +kernel)
set_option maxRecDepth 20000 in
theorem am_mm104 : am_okN 104 := am_mb_ok (4, 82) (1, 3) (by decide) rfl (by decide +kernel)
set_option maxRecDepth 20000 in
theorem am_mm105 : am_okN 105 := am_mb_ok (4, 88) (1, 9) (by decide) rfl (by decide +kernel)
set_option maxRecDepth 20000 in
theorem am_mm106 : am_okN 106 := am_mb_ok (4, 91) (1, 21) (by decide) rfl (by decide +kernel)
set_option maxRecDepth 20000 in
theorem am_mm107 : am_okN 107 := am_mb_ok (4, 94) (1, 21) (by decide) rfl (by decide +kernel)
set_option maxRecDepth 20000 in
theorem am_mm108 : am_okN 108 := am_mb_ok (4, 98) (1, 9) (by decide) rfl (by decide +kernel)
set_option maxRecDepth 20000 in
theorem am_mm109 : am_okN 109 := am_mb_ok (4, 102) (1, 11) (by decide) rfl (by decide +kernel)
set_option maxRecDepth 20000 in
theorem am_mm110 : am_okN 110 := am_mb_ok (4, 107) (1, 9) (by decide) rfl (by decide +kernel)
set_option maxRecDepth 20000 in
theorem am_mm111 : am_okN 111 := am_mb_ok (4, 111) (1, 9) (by decide) rfl (by decide +kernel)
set_option maxRecDepth 20000 in
theorem am_mm112 : am_okN 112 := am_mb_ok (4, 115) (1, 9) (by decide) rfl (by decide +kernel)
set_option maxRecDepth 20000 in
theorem am_mm113 : am_okN 113 := am_mb_ok (4, 119) (1, 9) (by decide) rfl (by decide +kernel)
set_option maxRecDepth 20000 in
theorem am_mm114 : am_okN 114 := am_mb_ok (4, 123) (1, 9) (by decide) rfl (by decide +kernel)
set_option maxRecDepth 20000 in
theorem am_mm115 : am_okN 115 := am_mb_ok (4, 127) (1, 10) (by decide) rfl (by decide +kernel)
set_option maxRecDepth 20000 in
theorem am_mm116 : am_okN 116 := am_mb_ok (4, 130) (1, 26) (by decide) rfl (by decide +kernel)
set_option maxRecDepth 20000 in
theorem am_mm117 : am_okN 117 := am_mb_ok (4, 134) (1, 9) (by decide) rfl (by decide +kernel)
set_option maxRecDepth 20000 in
theorem am_mm118 : am_okN 118 := am_mb_ok (4, 138) (1, 9) (by decide) rfl (by decide +kernel)
set_option maxRecDepth 20000 in
theorem am_mm119 : am_okN 119 := am_mb_ok (4, 142) (1, 9) (by decide) rfl (by decide +kernel)
set_option maxRecDepth 20000 in
theorem am_mm120 : am_okN 120 := am_mb_ok (4, 147) (1, 3) (by decide) rfl (by decide +kernel)
set_option maxRecDepth 20000 in
theorem am_mm121 : am_okN 121 := am_mb_ok (4, 151) (1, 21) (by decide) rfl (by decide +kernel)
set_option maxRecDepth 20000 in
theorem am_mm122 : am_okN 122 := am_mb_ok (4, 155) (1, 12) (by decide) rfl (by decide +kernel)
set_option maxRecDepth 20000 in
theorem am_mm123 : am_okN 123 := am_mb_ok (4, 160) (1, 9) (by decide) rfl (by decide +kernel)
set_option maxRecDepth 20000 in
theorem am_mm124 : am_okN 124 := am_mb_ok (4, 165) (1, 12) (by decide) rfl (by decide +kernel)
set_option maxRecDepth 20000 in
theorem am_mm125 : am_okN 125 := am_mb_ok (4, 169) (1, 12) (by decide) rfl (by decide +kernel)
set_option maxRecDepth 20000 in
theorem am_mm126 : am_okN 126 := am_mb_ok (4, 173) (1, 9) (by decide) rfl (by decide +kernel)
set_option maxRecDepth 20000 in
theorem am_mm127 : am_okN 127 := am_mb_ok (4, 177) (1, 12) (by decide) rfl (by decide +kernel)
set_option maxRecDepth 20000 in
theorem am_mm128 : am_okN 128 := am_mb_ok (4, 181) (1, 9) (by decide) rfl (by decide +kernel)
set_option maxRecDepth 20000 in
theorem am_mm129 : am_okN 129 := am_mb_ok (4, 186) (1, 10) (by decide) rfl (by decide +kernel)
set_option maxRecDepth 20000 in
theorem am_mm130 : am_okN 130 := am_mb_ok (4, 192) (1, 9) (by decide) rfl (by decide +kernel)
set_option maxRecDepth 20000 in
theorem am_mm131 : am_okN 131 := am_mb_ok (4, 196) (1, 12) (by decide) rfl (by decide +kernel)
set_option maxRecDepth 20000 in
theorem am_mm132 : am_okN 132 := am_mb_ok (4, 200) (1, 12) (by decide) rfl (by decide +kernel)
set_option maxRecDepth 20000 in
theorem am_mm133 : am_okN 133 := am_mb_ok (4, 205) (1, 9) (by decide) rfl (by decide +kernel)
set_option maxRecDepth 20000 in
theorem am_mm134 : am_okN 134 := am_mb_ok (4, 209) (1, 9) (by decide) rfl (by decide +kernel)
set_option maxRecDepth 20000 in
theorem am_mm135 : am_okN 135 := am_mb_ok (4, 213) (1, 9) (by decide) rfl (by decide +kernel)
set_option maxRecDepth 20000 in
theorem am_mm136 : am_okN 136 := am_mb_ok (4, 217) (1, 9) (by decide) rfl (by decide +kernel)
set_option maxRecDepth 20000 in
theorem am_mm137 : am_okN 137 := am_mb_ok (4, 221) (1, 9) (by decide) rfl (by decide +kernel)
set_option maxRecDepth 20000 in
theorem am_mm138 : am_okN 138 := am_mb_ok (4, 225) (1, 9) (by decide) rfl (by decide +kernel)
set_option maxRecDepth 20000 in
theorem am_mm139 : am_okN 139 := am_mb_ok (4, 229) (1, 9) (by decide) rfl (by decide +kernel)
set_option maxRecDepth 20000 in
theorem am_mm140 : am_okN 140 := am_mb_ok (4, 233) (1, 9) (by decide) rfl (by decide +kernel)
set_option maxRecDepth 20000 in
theorem am_mm141 : am_okN 141 := am_mb_ok (4, 237) (1, 10) (by decide) rfl (by decide +kernel)
set_option maxRecDepth 20000 in
theorem am_mm142 : am_okN 142 := am_mb_ok (5, 2) (1, 9) (by decide) rfl (by decide +kernel)
set_option maxRecDepth 20000 in
theorem am_mm143 : am_okN 143 := am_mb_ok (5, 6) (1, 9) (by decide) rfl (by decide +kernel)
set_option maxRecDepth 20000 in
theorem am_mm144 : am_okN 144 := am_mb_ok (5, 10) (1, 9) (by decide) rfl (by decide +kernel)
set_option maxRecDepth 20000 in
theorem am_mm145 : am_okN 145 := am_mb_ok (5, 14) (1, 9) (by decide) rfl (by decide +kernel)
set_option maxRecDepth 20000 in
theorem am_mm146 : am_okN 146 := am_mb_ok (5, 18) (1, 9) (by decide) rfl (by decide +kernel)
set_option maxRecDepth 20000 in
theorem am_mm147 : am_okN 147 := am_mb_ok (5, 22) (1, 9) (by decide) rfl (by decide +kernel)
set_option maxRecDepth 20000 in
theorem am_mm148 : am_okN 148 := am_mb_ok (5, 26) (1, 9) (by decide) rfl (by decide +kernel)
set_option maxRecDepth 20000 in
theorem am_mm149 : am_okN 149 := am_mb_ok (5, 30) (1, 10) (by decide) rfl (by decide +kernel)
set_option maxRecDepth 20000 in
theorem am_mm150 : am_okN 150 := am_mb_ok (5, 34) (1, 9) (by decide) rfl (by decide +kernel)
set_option maxRecDepth 20000 in
theorem am_mm151 : am_okN 151 := am_mb_ok (5, 39) (1, 10) (by decide) rfl (by decide +kernel)
set_option maxRecDepth 20000 in
theorem am_mm152 : am_okN 152 := am_mb_ok (5, 45) (1, 2) (by decide) rfl (by decide +kernel)
set_option maxRecDepth 20000 in
theorem am_mm153 : am_okN 153 := am_mb_ok (5, 49) (1, 2) (by decide) rfl (by decide +kernel)
set_option maxRecDepth 20000 in
theorem am_mm154 : am_okN 154 := am_mb_ok (5, 53) (1, 3) (by decide) rfl (by decide +kernel)
set_option maxRecDepth 20000 in
theorem am_mm155 : am_okN 155 := am_mb_ok (5, 58) (1, 5) (by decide) rfl (by decide +kernel)
set_option maxRecDepth 20000 in
theorem am_mm156 : am_okN 156 := am_mb_ok (5, 62) (1, 1) (by decide) rfl (by decide +kernel)
set_option maxRecDepth 20000 in
theorem am_mm157 : am_okN 157 := am_mb_ok (5, 66) (1, 1) (by decide) rfl (by decide +kernel)
set_option maxRecDepth 20000 in
theorem am_mm158 : am_okN 158 := am_mb_ok (5, 70) (1, 1) (by decide) rfl (by decide +kernel)
set_option maxRecDepth 20000 in
theorem am_mm159 : am_okN 159 := am_mb_ok (5, 74) (1, 5) (by decide) rfl (by decide +kernel)
set_option maxRecDepth 20000 in
theorem am_mm160 : am_okN 160 := am_mb_ok (5, 79) (1, 1) (by decide) rfl (by decide +kernel)
set_option maxRecDepth 20000 in
theorem am_mm161 : am_okN 161 := am_mb_ok (5, 83) (1, 4) (by decide) rfl (by decide +kernel)
set_option maxRecDepth 20000 in
theorem am_mm162 : am_okN 162 := am_mb_ok (5, 88) (1, 1) (by decide) rfl (by decide +kernel)
set_option maxRecDepth 20000 in
theorem am_mm163 : am_okN 163 := am_mb_ok (5, 92) (1, 1) (by decide) rfl (by decide +kernel)
set_option maxRecDepth 20000 in
theorem am_mm164 : am_okN 164 := am_mb_ok (5, 96) (1, 13) (by decide) rfl (by decide +kernel)
set_option maxRecDepth 20000 in
theorem am_mm165 : am_okN 165 := am_mb_ok (5, 100) (1, 13) (by decide) rfl (by decide +kernel)
set_option maxRecDepth 20000 in
theorem am_mm166 : am_okN 166 := am_mb_ok (5, 106) (1, 1) (by decide) rfl (by decide +kernel)
set_option maxRecDepth 20000 in
theorem am_mm167 : am_okN 167 := am_mb_ok (5, 110) (1, 13) (by decide) rfl (by decide +kernel)
set_option maxRecDepth 20000 in
theorem am_mm168 : am_okN 168 := am_mb_ok (5, 116) (1, 13) (by decide) rfl (by decide +kernel)
set_option maxRecDepth 20000 in
theorem am_mm169 : am_okN 169 := am_mb_ok (5, 119) (1, 13) (by decide) rfl (by decide +kernel)
set_option maxRecDepth 20000 in
theorem am_mm170 : am_okN 170 := am_mb_ok (5, 123) (1, 13) (by decide) rfl (by decide +kernel)
set_option maxRecDepth 20000 in
theorem am_mm171 : am_okN 171 := am_mb_ok (5, 126) (1, 13) (by decide) rfl (by decide +kernel)
set_option maxRecDepth 20000 in
theorem am_mm172 : am_okN 172 := am_mb_ok (5, 131) (1, 13) (by decide) rfl (by decide +kernel)
set_option maxRecDepth 20000 in
theorem am_mm173 : am_okN 173 := am_mb_ok (5, 136) (1, 20) (by decide) rfl (by decide +kernel)
set_option maxRecDepth 20000 in
theorem am_mm174 : am_okN 174 := am_mb_ok (6, 136) (1, 20) (by decide) rfl (by decide +kernel)
set_option maxRecDepth 20000 in
theorem am_mm175 : am_okN 175 := am_mb_ok (6, 140) (1, 20) (by decide) rfl (by decide +kernel)
set_option maxRecDepth 20000 in
theorem am_mm176 : am_okN 176 := am_mb_ok (6, 144) (1, 20) (by decide) rfl (by decide +kernel)
set_option maxRecDepth 20000 in
theorem am_mm177 : am_okN 177 := am_mb_ok (6, 148) (1, 20) (by decide) rfl (by decide +kernel)
set_option maxRecDepth 20000 in
theorem am_mm178 : am_okN 178 := am_mb_ok (6, 152) (1, 20) (by decide) rfl (by decide +kernel)
set_option maxRecDepth 20000 in
theorem am_mm179 : am_okN 179 := am_mb_ok (6, 156) (1, 20) (by decide) rfl (by decide +kernel)
set_option maxRecDepth 20000 in
theorem am_mm180 : am_okN 180 := am_mb_ok (6, 160) (1, 20) (by decide) rfl (by decide +kernel)
set_option maxRecDepth 20000 in
theorem am_mm181 : am_okN 181 := am_mb_ok (6, 164) (1, 20) (by decide) rfl (by decide +kernel)
set_option maxRecDepth 20000 in
theorem am_mm182 : am_okN 182 := am_mb_ok (6, 168) (1, 20) (by decide) rfl (by decide +kernel)
set_option maxRecDepth 20000 in
theorem am_mm183 : am_okN 183 := am_mb_ok (6, 172) (1, 20) (by decide) rfl (by decide +kernel)
set_option maxRecDepth 20000 in
theorem am_mm184 : am_okN 184 := am_mb_ok (6, 176) (1, 20) (by decide) rfl (by decide +kernel)
set_option maxRecDepth 20000 in
theorem am_mm185 : am_okN 185 := am_mb_ok (6, 179) (1, 20) (by decide) rfl (by decide +kernel)
set_option maxRecDepth 20000 in
theorem am_mm186 : am_okN 186 := am_mb_ok (6, 183) (1, 20) (by decide) rfl (by decide +kernel)
set_option maxRecDepth 20000 in
theorem am_mm187 : am_okN 187 := am_mb_ok (6, 187) (1, 20) (by decide) rfl (by decide +kernel)
set_option maxRecDepth 20000 in
theorem am_mm188 : am_okN 188 := am_mb_ok (6, 191) (1, 20) (by decide) rfl (by decide +kernel)
set_option maxRecDepth 20000 in
theorem am_mm189 : am_okN 189 := am_mb_ok (6, 195) (1, 20) (by decide) rfl (by decide +kernel)
set_option maxRecDepth 20000 in
theorem am_mm190 : am_okN 190 := am_mb_ok (6, 199) (1, 20) (by decide) rfl (by decide +kernel)
set_option maxRecDepth 20000 in
theorem am_mm191 : am_okN 191 := am_mb_ok (6, 203) (1, 20) (by decide) rfl (by decide +kernel)
set_option maxRecDepth 20000 in
theorem am_mm192 : am_okN 192 := am_mb_ok (6, 207) (1, 20) (by decide) rfl (by decide +kernel)
set_option maxRecDepth 20000 in
theorem am_mm193 : am_okN 193 := am_mb_ok (6, 211) (1, 20) (by decide) rfl (by decide +kernel)
set_option maxRecDepth 20000 in
theorem am_mm194 : am_okN 194 := am_mb_ok (6, 215) (1, 20) (by decide) rfl (by decide +kernel)
set_option maxRecDepth 20000 in
theorem am_mm195 : am_okN 195 := am_mb_ok (6, 219) (1, 20) (by decide) rfl (by decide +kernel)
set_option maxRecDepth 20000 in
theorem am_mm196 : am_okN 196 := am_mb_ok (6, 223) (1, 20) (by decide) rfl (by decide +kernel)
set_option maxRecDepth 20000 in
theorem am_mm197 : am_okN 197 := am_mb_ok (6, 227) (1, 20) (by decide) rfl (by decide +kernel)
set_option maxRecDepth 20000 in
theorem am_mm198 : am_okN 198 := am_mb_ok (6, 231) (1, 20) (by decide) rfl (by decide +kernel)
set_option maxRecDepth 20000 in
theorem am_mm199 : am_okN 199 := am_mb_ok (6, 235) (1, 20) (by decide) rfl (by decide +kernel)
set_option maxRecDepth 20000 in
theorem am_mm200 : am_okN 200 := am_mb_ok (6, 239) (1, 20) (by decide) rfl (by decide +kernel)
set_option maxRecDepth 20000 in
theorem am_mm201 : am_okN 201 := am_mb_ok (7, 3) (1, 20) (by decide) rfl (by decide +kernel)
set_option maxRecDepth 20000 in
theorem am_mm202 : am_okN 202 := am_mb_ok (7, 7) (1, 20) (by decide) rfl (by decide +kernel)
set_option maxRecDepth 20000 in
theorem am_mm203 : am_okN 203 := am_mb_ok (7, 10) (1, 20) (by decide) rfl (by decide +kernel)
set_option maxRecDepth 20000 in
theorem am_mm204 : am_okN 204 := am_mb_ok (7, 14) (1, 20) (by decide) rfl (by decide +kernel)
set_option maxRecDepth 20000 in
theorem am_mm205 : am_okN 205 := am_mb_ok (7, 18) (1, 20) (by decide) rfl (by decide +kernel)
set_option maxRecDepth 20000 in
theorem am_mm206 : am_okN 206 := am_mb_ok (7, 22) (1, 20) (by decide) rfl (by decide +kernel)
set_option maxRecDepth 20000 in
theorem am_mm207 : am_okN 207 := am_mb_ok (7, 26) (1, 20) (by decide) rfl (by decide +kernel)
set_option maxRecDepth 20000 in
theorem am_mm208 : am_okN 208 := am_mb_ok (7, 29) (1, 20) (by decide) rfl (by decide +kernel)
set_option maxRecDepth 20000 in
theorem am_mm209 : am_okN 209 := am_mb_ok (7, 33) (1, 20) (by decide) rfl (by decide +kernel)
set_option maxRecDepth 20000 in
theorem am_mm210 : am_okN 210 := am_mb_ok (7, 37) (1, 20) (by decide) rfl (by decide +kernel)
set_option maxRecDepth 20000 in
theorem am_mm211 : am_okN 211 := am_mb_ok (7, 41) (1, 20) (by decide) rfl (by decide +kernel)
set_option maxRecDepth 20000 in
theorem am_mm212 : am_okN 212 := am_mb_ok (7, 45) (1, 20) (by decide) rfl (by decide +kernel)
set_option maxRecDepth 20000 in
theorem am_mm213 : am_okN 213 := am_mb_ok (7, 49) (1, 20) (by decide) rfl (by decide +kernel)
set_option maxRecDepth 20000 in
theorem am_mm214 : am_okN 214 := am_mb_ok (7, 53) (1, 20) (by decide) rfl (by decide +kernel)
set_option maxRecDepth 20000 in
theorem am_mm215 : am_okN 215 := am_mb_ok (7, 57) (1, 20) (by decide) rfl (by decide +kernel)
set_option maxRecDepth 20000 in
theorem am_mm216 : am_okN 216 := am_mb_ok (7, 61) (1, 20) (by decide) rfl (by decide +kernel)
set_option maxRecDepth 20000 in
theorem am_mm217 : am_okN 217 := am_mb_ok (7, 65) (1, 20) (by decide) rfl (by decide +kernel)
set_option maxRecDepth 20000 in
theorem am_mm218 : am_okN 218 := am_mb_ok (7, 69) (1, 20) (by decide) rfl (by decide +kernel)
set_option maxRecDepth 20000 in
theorem am_mm219 : am_okN 219 := am_mb_ok (7, 73) (1, 20) (by decide) rfl (by decide +kernel)
set_option maxRecDepth 20000 in
theorem am_mm220 : am_okN 220 := am_mb_ok (7, 77) (1, 20) (by decide) rfl (by decide +kernel)
set_option maxRecDepth 20000 in
theorem am_mm221 : am_okN 221 := am_mb_ok (7, 81) (1, 20) (by decide) rfl (by decide +kernel)
set_option maxRecDepth 20000 in
theorem am_mm222 : am_okN 222 := am_mb_ok (7, 85) (1, 20) (by decide) rfl (by decide +kernel)
set_option maxRecDepth 20000 in
theorem am_mm223 : am_okN 223 := am_mb_ok (7, 89) (1, 20) (by decide) rfl (by decide +kernel)
set_option maxRecDepth 20000 in
theorem am_mm224 : am_okN 224 := am_mb_ok (7, 93) (1, 20) (by decide) rfl (by decide +kernel)
set_option maxRecDepth 20000 in
theorem am_mm225 : am_okN 225 := am_mb_ok (7, 97) (1, 20) (by decide) rfl (by decide +kernel)
set_option maxRecDepth 20000 in
theorem am_mm226 : am_okN 226 := am_mb_ok (7, 100) (1, 20) (by decide) rfl (by decide +kernel)
set_option maxRecDepth 20000 in
theorem am_mm227 : am_okN 227 := am_mb_ok (7, 104) (1, 20) (by decide) rfl (by decide +kernel)
set_option maxRecDepth 20000 in
theorem am_mm228 : am_okN 228 := am_mb_ok (7, 108) (1, 20) (by decide) rfl (by decide +kernel)
set_option maxRecDepth 20000 in
theorem am_mm229 : am_okN 229 := am_mb_ok (7, 112) (1, 20) (by decide) rfl (by decide +kernel)
set_option maxRecDepth 20000 in
theorem am_mm230 : am_okN 230 := am_mb_ok (7, 116) (1, 20) (by decide) rfl (by decide +kernel)
set_option maxRecDepth 20000 in
theorem am_mm231 : am_okN 231 := am_mb_ok (7, 120) (1, 20) (by decide) rfl (by decide +kernel)
set_option maxRecDepth 20000 in
theorem am_mm232 : am_okN 232 := am_mb_ok (7, 124) (1, 20) (by decide) rfl (by decide +kernel)
set_option maxRecDepth 20000 in
theorem am_mm233 : am_okN 233 := am_mb_ok (7, 128) (1, 20) (by decide) rfl (by decide +kernel)
set_option maxRecDepth 20000 in
theorem am_mm234 : am_okN 234 := am_mb_ok (7, 132) (1, 20) (by decide) rfl (by decide +kernel)
set_option maxRecDepth 20000 in
theorem am_mm235 : am_okN 235 := am_mb_ok (7, 136) (1, 20) (by decide) rfl (by decide +kernel)
set_option maxRecDepth 20000 in
theorem am_mm236 : am_okN 236 := am_mb_ok (7, 140) (1, 20) (by decide) rfl (by decide +kernel)
set_option maxRecDepth 20000 in
theorem am_mm237 : am_okN 237 := am_mb_ok (7, 144) (1, 20) (by decide) rfl (by decide +kernel)
set_option maxRecDepth 20000 in
theorem am_mm238 : am_okN 238 := am_mb_ok (7, 148) (1, 20) (by decide) rfl (by decide +kernel)
set_option maxRecDepth 20000 in
theorem am_mm239 : am_okN 239 := am_mb_ok (7, 152) (1, 20) (by decide) rfl (by decide +kernel)
set_option maxRecDepth 20000 in
theorem am_mm240 : am_okN 240 := am_mb_ok (7, 156) (1, 20) (by decide) rfl (by decide +kernel)
set_option maxRecDepth 20000 in
theorem am_mm241 : am_okN 241 := am_mb_ok (7, 160) (1, 20) (by decide) rfl (by decide +kernel)
set_option maxRecDepth 20000 in
theorem am_mm242 : am_okN 242 := am_mb_ok (7, 164) (1, 20) (by decide) rfl (by decide +kernel)
set_option maxRecDepth 20000 in
theorem am_mm243 : am_okN 243 := am_mb_ok (7, 168) (1, 20) (by decide) rfl (by decide +kernel)
set_option maxRecDepth 20000 in
theorem am_mm244 : am_okN 244 := am_mb_ok (7, 172) (1, 20) (by decide) rfl (by decide +kernel)
set_option maxRecDepth 20000 in
theorem am_mm245 : am_okN 245 := am_mb_ok (7, 176) (1, 20) (by decide) rfl (by decide +kernel)
set_option maxRecDepth 20000 in
theorem am_mm246 : am_okN 246 := am_mb_ok (7, 180) (1, 20) (by decide) rfl (by decide +kernel)
set_option maxRecDepth 20000 in
theorem am_mm247 : am_okN 247 := am_mb_ok (7, 184) (1, 20) (by decide) rfl (by decide +kernel)
set_option maxRecDepth 20000 in
theorem am_mm248 : am_okN 248 := am_mb_ok (7, 188) (1, 20) (by decide) rfl (by decide +kernel)
set_option maxRecDepth 20000 in
theorem am_mm249 : am_okN 249 := am_mb_ok (7, 192) (1, 20) (by decide) rfl (by decide +kernel)
set_option maxRecDepth 20000 in
theorem am_mm250 : am_okN 250 := am_mb_ok (7, 196) (1, 20) (by decide) rfl (by decide +kernel)
set_option maxRecDepth 20000 in
theorem am_mm251 : am_okN 251 := am_mb_ok (7, 200) (1, 20) (by decide) rfl (by decide +kernel)
set_option maxRecDepth 20000 in
theorem am_mm252 : am_okN 252 := am_mb_ok (7, 204) (1, 20) (by decide) rfl (by decide +kernel)
set_option maxRecDepth 20000 in
theorem am_mm253 : am_okN 253 := am_mb_ok (7, 208) (1, 20) (by decide) rfl (by decide +kernel)
set_option maxRecDepth 20000 in
theorem am_mm254 : am_okN 254 := am_mb_ok (7, 212) (1, 20) (by decide) rfl (by decide +kernel)
set_option maxRecDepth 20000 in
theorem am_mm255 : am_okN 255 := am_mb_ok (7, 216) (1, 20) (by decide) rfl (by decide +kernel)
set_option maxRecDepth 20000 in
theorem am_mm256 : am_okN 256 := am_mb_ok (7, 220) (1, 20) (by decide) rfl (by decide +kernel)
set_option maxRecDepth 20000 in
theorem am_mm257 : am_okN 257 := am_mb_ok (7, 224) (1, 20) (by decide) rfl (by decide +kernel)
set_option maxRecDepth 20000 in
theorem am_mm258 : am_okN 258 := am_mb_ok (7, 228) (1, 20) (by decide) rfl (by decide +kernel)
set_option maxRecDepth 20000 in
theorem am_mm259 : am_okN 259 := am_mb_ok (7, 232) (1, 20) (by decide) rfl (by decide +kernel)
set_option maxRecDepth 20000 in
theorem am_mm260 : am_okN 260 := am_mb_ok (7, 236) (1, 20) (by decide) rfl (by decide +kernel)
set_option maxRecDepth 20000 in
theorem am_mm261 : am_okN 261 := am_mb_ok (8, 0) (1, 20) (by decide) rfl (by decide +kernel)
set_option maxRecDepth 20000 in
theorem am_mm262 : am_okN 262 := am_mb_ok (8, 4) (1, 20) (by decide) rfl (by decide +kernel)
set_option maxRecDepth 20000 in
theorem am_mm263 : am_okN 263 := am_mb_ok (8, 8) (1, 20) (by decide) rfl (by decide +kernel)
set_option maxRecDepth 20000 in
theorem am_mm264 : am_okN 264 := am_mb_ok (8, 12) (1, 20) (by decide) rfl (by decide +kernel)
set_option maxRecDepth 20000 in
theorem am_mm265 : am_okN 265 := am_mb_ok (8, 16) (1, 20) (by decide) rfl (by decide +kernel)
set_option maxRecDepth 20000 in
theorem am_mm266 : am_okN 266 := am_mb_ok (8, 20) (1, 20) (by decide) rfl (by decide +kernel)
set_option maxRecDepth 20000 in
theorem am_mm267 : am_okN 267 := am_mb_ok (8, 24) (1, 20) (by decide) rfl (by decide +kernel)
set_option maxRecDepth 20000 in
theorem am_mm268 : am_okN 268 := am_mb_ok (8, 28) (1, 20) (by decide) rfl (by decide +kernel)
set_option maxRecDepth 20000 in
theorem am_mm269 : am_okN 269 := am_mb_ok (8, 32) (1, 20) (by decide) rfl (by decide +kernel)
set_option maxRecDepth 20000 in
theorem am_mm270 : am_okN 270 := am_mb_ok (8, 36) (1, 20) (by decide) rfl (by decide +kernel)
set_option maxRecDepth 20000 in
theorem am_mm271 : am_okN 271 := am_mb_ok (8, 40) (1, 20) (by decide) rfl (by decide +kernel)
set_option maxRecDepth 20000 in
theorem am_mm272 : am_okN 272 := am_mb_ok (8, 44) (1, 20) (by decide) rfl (by decide +kernel)
set_option maxRecDepth 20000 in
theorem am_mm273 : am_okN 273 := am_mb_ok (8, 48) (1, 20) (by decide) rfl (by decide +kernel)
set_option maxRecDepth 20000 in
theorem am_mm274 : am_okN 274 := am_mb_ok (8, 51) (1, 20) (by decide) rfl (by decide +kernel)
set_option maxRecDepth 20000 in
theorem am_mm275 : am_okN 275 := am_mb_ok (8, 55) (1, 20) (by decide) rfl (by decide +kernel)
set_option maxRecDepth 20000 in
theorem am_mm276 : am_okN 276 := am_mb_ok (8, 59) (1, 20) (by decide) rfl (by decide +kernel)
set_option maxRecDepth 20000 in
theorem am_mm277 : am_okN 277 := am_mb_ok (8, 62) (1, 20) (by decide) rfl (by decide +kernel)
def am_mc0 : List Nat := [0, 1, 2, 3, 4, 5, 6, 7, 8, 9, 10, 11, 12, 13, 14, 15, 16, 17, 18, 19]
theorem am_mr0 : ∀ M ∈ am_mc0, am_okN M := List.forall_mem_cons.mpr ⟨am_mm0, List.forall_mem_cons.mpr ⟨am_mm1, List.forall_mem_cons.mpr ⟨am_mm2, List.forall_mem_cons.mpr ⟨am_mm3, List.forall_mem_cons.mpr ⟨am_mm4, List.forall_mem_cons.mpr ⟨am_mm5, List.forall_mem_cons.mpr ⟨am_mm6, List.forall_mem_cons.mpr ⟨am_mm7, List.forall_mem_cons.mpr ⟨am_mm8, List.forall_mem_cons.mpr ⟨am_mm9, List.forall_mem_cons.mpr ⟨am_mm10, List.forall_mem_cons.mpr ⟨am_mm11, List.forall_mem_cons.mpr ⟨am_mm12, List.forall_mem_cons.mpr ⟨am_mm13, List.forall_mem_cons.mpr ⟨am_mm14, List.forall_mem_cons.mpr ⟨am_mm15, List.forall_mem_cons.mpr ⟨am_mm16, List.forall_mem_cons.mpr ⟨am_mm17, List.forall_mem_cons.mpr ⟨am_mm18, List.forall_mem_cons.mpr ⟨am_mm19, fun _ h => nomatch h⟩⟩⟩⟩⟩⟩⟩⟩⟩⟩⟩⟩⟩⟩⟩⟩⟩⟩⟩⟩
def am_mc1 : List Nat := [20, 21, 22, 23, 24, 25, 26, 27, 28, 29, 30, 31, 32, 33, 34, 35, 36, 37, 39, 40]
theorem am_mr1 : ∀ M ∈ am_mc1, am_okN M := List.forall_mem_cons.mpr ⟨am_mm20, List.forall_mem_cons.mpr ⟨am_mm21, List.forall_mem_cons.mpr ⟨am_mm22, List.forall_mem_cons.mpr ⟨am_mm23, List.forall_mem_cons.mpr ⟨am_mm24, List.forall_mem_cons.mpr ⟨am_mm25, List.forall_mem_cons.mpr ⟨am_mm26, List.forall_mem_cons.mpr ⟨am_mm27, List.forall_mem_cons.mpr ⟨am_mm28, List.forall_mem_cons.mpr ⟨am_mm29, List.forall_mem_cons.mpr ⟨am_mm30, List.forall_mem_cons.mpr ⟨am_mm31, List.forall_mem_cons.mpr ⟨am_mm32, List.forall_mem_cons.mpr ⟨am_mm33, List.forall_mem_cons.mpr ⟨am_mm34, List.forall_mem_cons.mpr ⟨am_mm35, List.forall_mem_cons.mpr ⟨am_mm36, List.forall_mem_cons.mpr ⟨am_mm37, List.forall_mem_cons.mpr ⟨am_mm39, List.forall_mem_cons.mpr ⟨am_mm40, fun _ h => nomatch h⟩⟩⟩⟩⟩⟩⟩⟩⟩⟩⟩⟩⟩⟩⟩⟩⟩⟩⟩⟩
def am_mc2 : List Nat := [41, 42, 43, 44, 45, 46, 47, 48, 49, 50, 51, 52, 53, 54, 55, 56, 57, 58, 59, 60]
theorem am_mr2 : ∀ M ∈ am_mc2, am_okN M := List.forall_mem_cons.mpr ⟨am_mm41, List.forall_mem_cons.mpr ⟨am_mm42, List.forall_mem_cons.mpr ⟨am_mm43, List.forall_mem_cons.mpr ⟨am_mm44, List.forall_mem_cons.mpr ⟨am_mm45, List.forall_mem_cons.mpr ⟨am_mm46, List.forall_mem_cons.mpr ⟨am_mm47, List.forall_mem_cons.mpr ⟨am_mm48, List.forall_mem_cons.mpr ⟨am_mm49, List.forall_mem_cons.mpr ⟨am_mm50, List.forall_mem_cons.mpr ⟨am_mm51, List.forall_mem_cons.mpr ⟨am_mm52, List.forall_mem_cons.mpr ⟨am_mm53, List.forall_mem_cons.mpr ⟨am_mm54, List.forall_mem_cons.mpr ⟨am_mm55, List.forall_mem_cons.mpr ⟨am_mm56, List.forall_mem_cons.mpr ⟨am_mm57, List.forall_mem_cons.mpr ⟨am_mm58, List.forall_mem_cons.mpr ⟨am_mm59, List.forall_mem_cons.mpr ⟨am_mm60, fun _ h => nomatch h⟩⟩⟩⟩⟩⟩⟩⟩⟩⟩⟩⟩⟩⟩⟩⟩⟩⟩⟩⟩
def am_mc3 : List Nat := [61, 62, 63, 64, 65, 66, 67, 68, 69, 70, 71, 72, 73, 74, 75, 76, 77, 78, 79, 80]
theorem am_mr3 : ∀ M ∈ am_mc3, am_okN M := List.forall_mem_cons.mpr ⟨am_mm61, List.forall_mem_cons.mpr ⟨am_mm62, List.forall_mem_cons.mpr ⟨am_mm63, List.forall_mem_cons.mpr ⟨am_mm64, List.forall_mem_cons.mpr ⟨am_mm65, List.forall_mem_cons.mpr ⟨am_mm66, List.forall_mem_cons.mpr ⟨am_mm67, List.forall_mem_cons.mpr ⟨am_mm68, List.forall_mem_cons.mpr ⟨am_mm69, List.forall_mem_cons.mpr ⟨am_mm70, List.forall_mem_cons.mpr ⟨am_mm71, List.forall_mem_cons.mpr ⟨am_mm72, List.forall_mem_cons.mpr ⟨am_mm73, List.forall_mem_cons.mpr ⟨am_mm74, List.forall_mem_cons.mpr ⟨am_mm75, List.forall_mem_cons.mpr ⟨am_mm76, List.forall_mem_cons.mpr ⟨am_mm77, List.forall_mem_cons.mpr ⟨am_mm78, List.forall_mem_cons.mpr ⟨am_mm79, List.forall_mem_cons.mpr ⟨am_mm80, fun _ h => nomatch h⟩⟩⟩⟩⟩⟩⟩⟩⟩⟩⟩⟩⟩⟩⟩⟩⟩⟩⟩⟩
def am_mc4 : List Nat := [81, 82, 83, 84, 85, 86, 87, 88, 89, 90, 91, 92, 93, 94, 95, 96, 97, 98, 99, 100]
theorem am_mr4 : ∀ M ∈ am_mc4, am_okN M := List.forall_mem_cons.mpr ⟨am_mm81, List.forall_mem_cons.mpr ⟨am_mm82, List.forall_mem_cons.mpr ⟨am_mm83, List.forall_mem_cons.mpr ⟨am_mm84, List.forall_mem_cons.mpr ⟨am_mm85, List.forall_mem_cons.mpr ⟨am_mm86, List.forall_mem_cons.mpr ⟨am_mm87, List.forall_mem_cons.mpr ⟨am_mm88, List.forall_mem_cons.mpr ⟨am_mm89, List.forall_mem_cons.mpr ⟨am_mm90, List.forall_mem_cons.mpr ⟨am_mm91, List.forall_mem_cons.mpr ⟨am_mm92, List.forall_mem_cons.mpr ⟨am_mm93, List.forall_mem_cons.mpr ⟨am_mm94, List.forall_mem_cons.mpr ⟨am_mm95, List.forall_mem_cons.mpr ⟨am_mm96, List.forall_mem_cons.mpr ⟨am_mm97, List.forall_mem_cons.mpr ⟨am_mm98, List.forall_mem_cons.mpr ⟨am_mm99, List.forall_mem_cons.mpr ⟨am_mm100, fun _ h => nomatch h⟩⟩⟩⟩⟩⟩⟩⟩⟩⟩⟩⟩⟩⟩⟩⟩⟩⟩⟩⟩
def am_mc5 : List Nat := [101, 102, 103, 104, 105, 106, 107, 108, 109, 110, 111, 112, 113, 114, 115, 116, 117, 118, 119, 120]
theorem am_mr5 : ∀ M ∈ am_mc5, am_okN M := List.forall_mem_cons.mpr ⟨am_mm101, List.forall_mem_cons.mpr ⟨am_mm102, List.forall_mem_cons.mpr ⟨am_mm103, List.forall_mem_cons.mpr ⟨am_mm104, List.forall_mem_cons.mpr ⟨am_mm105, List.forall_mem_cons.mpr ⟨am_mm106, List.forall_mem_cons.mpr ⟨am_mm107, List.forall_mem_cons.mpr ⟨am_mm108, List.forall_mem_cons.mpr ⟨am_mm109, List.forall_mem_cons.mpr ⟨am_mm110, List.forall_mem_cons.mpr ⟨am_mm111, List.forall_mem_cons.mpr ⟨am_mm112, List.forall_mem_cons.mpr ⟨am_mm113, List.forall_mem_cons.mpr ⟨am_mm114, List.forall_mem_cons.mpr ⟨am_mm115, List.forall_mem_cons.mpr ⟨am_mm116, List.forall_mem_cons.mpr ⟨am_mm117, List.forall_mem_cons.mpr ⟨am_mm118, List.forall_mem_cons.mpr ⟨am_mm119, List.forall_mem_cons.mpr ⟨am_mm120, fun _ h => nomatch h⟩⟩⟩⟩⟩⟩⟩⟩⟩⟩⟩⟩⟩⟩⟩⟩⟩⟩⟩⟩
def am_mc6 : List Nat := [121, 122, 123, 124, 125, 126, 127, 128, 129, 130, 131, 132, 133, 134, 135, 136, 137, 138, 139, 140]
theorem am_mr6 : ∀ M ∈ am_mc6, am_okN M := List.forall_mem_cons.mpr ⟨am_mm121, List.forall_mem_cons.mpr ⟨am_mm122, List.forall_mem_cons.mpr ⟨am_mm123, List.forall_mem_cons.mpr ⟨am_mm124, List.forall_mem_cons.mpr ⟨am_mm125, List.forall_mem_cons.mpr ⟨am_mm126, List.forall_mem_cons.mpr ⟨am_mm127, List.forall_mem_cons.mpr ⟨am_mm128, List.forall_mem_cons.mpr ⟨am_mm129, List.forall_mem_cons.mpr ⟨am_mm130, List.forall_mem_cons.mpr ⟨am_mm131, List.forall_mem_cons.mpr ⟨am_mm132, List.forall_mem_cons.mpr ⟨am_mm133, List.forall_mem_cons.mpr ⟨am_mm134, List.forall_mem_cons.mpr ⟨am_mm135, List.forall_mem_cons.mpr ⟨am_mm136, List.forall_mem_cons.mpr ⟨am_mm137, List.forall_mem_cons.mpr ⟨am_mm138, List.forall_mem_cons.mpr ⟨am_mm139, List.forall_mem_cons.mpr ⟨am_mm140, fun _ h => nomatch h⟩⟩⟩⟩⟩⟩⟩⟩⟩⟩⟩⟩⟩⟩⟩⟩⟩⟩⟩⟩
def am_mc7 : List Nat := [141, 142, 143, 144, 145, 146, 147, 148, 149, 150, 151, 152, 153, 154, 155, 156, 157, 158, 159, 160]
theorem am_mr7 : ∀ M ∈ am_mc7, am_okN M := List.forall_mem_cons.mpr ⟨am_mm141, List.forall_mem_cons.mpr ⟨am_mm142, List.forall_mem_cons.mpr ⟨am_mm143, List.forall_mem_cons.mpr ⟨am_mm144, List.forall_mem_cons.mpr ⟨am_mm145, List.forall_mem_cons.mpr ⟨am_mm146, List.forall_mem_cons.mpr ⟨am_mm147, List.forall_mem_cons.mpr ⟨am_mm148, List.forall_mem_cons.mpr ⟨am_mm149, List.forall_mem_cons.mpr ⟨am_mm150, List.forall_mem_cons.mpr ⟨am_mm151, List.forall_mem_cons.mpr ⟨am_mm152, List.forall_mem_cons.mpr ⟨am_mm153, List.forall_mem_cons.mpr ⟨am_mm154, List.forall_mem_cons.mpr ⟨am_mm155, List.forall_mem_cons.mpr ⟨am_mm156, List.forall_mem_cons.mpr ⟨am_mm157, List.forall_mem_cons.mpr ⟨am_mm158, List.forall_mem_cons.mpr ⟨am_mm159, List.forall_mem_cons.mpr ⟨am_mm160, fun _ h => nomatch h⟩⟩⟩⟩⟩⟩⟩⟩⟩⟩⟩⟩⟩⟩⟩⟩⟩⟩⟩⟩
def am_mc8 : List Nat := [161, 162, 163, 164, 165, 166, 167, 168, 169, 170, 171, 172, 173, 174, 175, 176, 177, 178, 179, 180]
theorem am_mr8 : ∀ M ∈ am_mc8, am_okN M := List.forall_mem_cons.mpr ⟨am_mm161, List.forall_mem_cons.mpr ⟨am_mm162, List.forall_mem_cons.mpr ⟨am_mm163, List.forall_mem_cons.mpr ⟨am_mm164, List.forall_mem_cons.mpr ⟨am_mm165, List.forall_mem_cons.mpr ⟨am_mm166, List.forall_mem_cons.mpr ⟨am_mm167, List.forall_mem_cons.mpr ⟨am_mm168, List.forall_mem_cons.mpr ⟨am_mm169, List.forall_mem_cons.mpr ⟨am_mm170, List.forall_mem_cons.mpr ⟨am_mm171, List.forall_mem_cons.mpr ⟨am_mm172, List.forall_mem_cons.mpr ⟨am_mm173, List.forall_mem_cons.mpr ⟨am_mm174, List.forall_mem_cons.mpr ⟨am_mm175, List.forall_mem_cons.mpr ⟨am_mm176, List.forall_mem_cons.mpr ⟨am_mm177, List.forall_mem_cons.mpr ⟨am_mm178, List.forall_mem_cons.mpr ⟨am_mm179, List.forall_mem_cons.mpr ⟨am_mm180, fun _ h => nomatch h⟩⟩⟩⟩⟩⟩⟩⟩⟩⟩⟩⟩⟩⟩⟩⟩⟩⟩⟩⟩
def am_mc9 : List Nat := [181, 182, 183, 184, 185, 186, 187, 188, 189, 190, 191, 192, 193, 194, 195, 196, 197, 198, 199, 200]
theorem am_mr9 : ∀ M ∈ am_mc9, am_okN M := List.forall_mem_cons.mpr ⟨am_mm181, List.forall_mem_cons.mpr ⟨am_mm182, List.forall_mem_cons.mpr ⟨am_mm183, List.forall_mem_cons.mpr ⟨am_mm184, List.forall_mem_cons.mpr ⟨am_mm185, List.forall_mem_cons.mpr ⟨am_mm186, List.forall_mem_cons.mpr ⟨am_mm187, List.forall_mem_cons.mpr ⟨am_mm188, List.forall_mem_cons.mpr ⟨am_mm189, List.forall_mem_cons.mpr ⟨am_mm190, List.forall_mem_cons.mpr ⟨am_mm191, List.forall_mem_cons.mpr ⟨am_mm192, List.forall_mem_cons.mpr ⟨am_mm193, List.forall_mem_cons.mpr ⟨am_mm194, List.forall_mem_cons.mpr ⟨am_mm195, List.forall_mem_cons.mpr ⟨am_mm196, List.forall_mem_cons.mpr ⟨am_mm197, List.forall_mem_cons.mpr ⟨am_mm198, List.forall_mem_cons.mpr ⟨am_mm199, List.forall_mem_cons.mpr ⟨am_mm200, fun _ h => nomatch h⟩⟩⟩⟩⟩⟩⟩⟩⟩⟩⟩⟩⟩⟩⟩⟩⟩⟩⟩⟩
def am_mc10 : List Nat := [201, 202, 203, 204, 205, 206, 207, 208, 209, 210, 211, 212, 213, 214, 215, 216, 217, 218, 219, 220]
theorem am_mr10 : ∀ M ∈ am_mc10, am_okN M := List.forall_mem_cons.mpr ⟨am_mm201, List.forall_mem_cons.mpr ⟨am_mm202, List.forall_mem_cons.mpr ⟨am_mm203, List.forall_mem_cons.mpr ⟨am_mm204, List.forall_mem_cons.mpr ⟨am_mm205, List.forall_mem_cons.mpr ⟨am_mm206, List.forall_mem_cons.mpr ⟨am_mm207, List.forall_mem_cons.mpr ⟨am_mm208, List.forall_mem_cons.mpr ⟨am_mm209, List.forall_mem_cons.mpr ⟨am_mm210, List.forall_mem_cons.mpr ⟨am_mm211, List.forall_mem_cons.mpr ⟨am_mm212, List.forall_mem_cons.mpr ⟨am_mm213, List.forall_mem_cons.mpr ⟨am_mm214, List.forall_mem_cons.mpr ⟨am_mm215, List.forall_mem_cons.mpr ⟨am_mm216, List.forall_mem_cons.mpr ⟨am_mm217, List.forall_mem_cons.mpr ⟨am_mm218, List.forall_mem_cons.mpr ⟨am_mm219, List.forall_mem_cons.mpr ⟨am_mm220, fun _ h => nomatch h⟩⟩⟩⟩⟩⟩⟩⟩⟩⟩⟩⟩⟩⟩⟩⟩⟩⟩⟩⟩
def am_mc11 : List Nat := [221, 222, 223, 224, 225, 226, 227, 228, 229, 230, 231, 232, 233, 234, 235, 236, 237, 238, 239, 240]
theorem am_mr11 : ∀ M ∈ am_mc11, am_okN M := List.forall_mem_cons.mpr ⟨am_mm221, List.forall_mem_cons.mpr ⟨am_mm222, List.forall_mem_cons.mpr ⟨am_mm223, List.forall_mem_cons.mpr ⟨am_mm224, List.forall_mem_cons.mpr ⟨am_mm225, List.forall_mem_cons.mpr ⟨am_mm226, List.forall_mem_cons.mpr ⟨am_mm227, List.forall_mem_cons.mpr ⟨am_mm228, List.forall_mem_cons.mpr ⟨am_mm229, List.forall_mem_cons.mpr ⟨am_mm230, List.forall_mem_cons.mpr ⟨am_mm231, List.forall_mem_cons.mpr ⟨am_mm232, List.forall_mem_cons.mpr ⟨am_mm233, List.forall_mem_cons.mpr ⟨am_mm234, List.forall_mem_cons.mpr ⟨am_mm235, List.forall_mem_cons.mpr ⟨am_mm236, List.forall_mem_cons.mpr ⟨am_mm237, List.forall_mem_cons.mpr ⟨am_mm238, List.forall_mem_cons.mpr ⟨am_mm239, List.forall_mem_cons.mpr ⟨am_mm240, fun _ h => nomatch h⟩⟩⟩⟩⟩⟩⟩⟩⟩⟩⟩⟩⟩⟩⟩⟩⟩⟩⟩⟩
def am_mc12 : List Nat := [241, 242, 243, 244, 245, 246, 247, 248, 249, 250, 251, 252, 253, 254, 255, 256, 257, 258, 259, 260]
theorem am_mr12 : ∀ M ∈ am_mc12, am_okN M := List.forall_mem_cons.mpr ⟨am_mm241, List.forall_mem_cons.mpr ⟨am_mm242, List.forall_mem_cons.mpr ⟨am_mm243, List.forall_mem_cons.mpr ⟨am_mm244, List.forall_mem_cons.mpr ⟨am_mm245, List.forall_mem_cons.mpr ⟨am_mm246, List.forall_mem_cons.mpr ⟨am_mm247, List.forall_mem_cons.mpr ⟨am_mm248, List.forall_mem_cons.mpr ⟨am_mm249, List.forall_mem_cons.mpr ⟨am_mm250, List.forall_mem_cons.mpr ⟨am_mm251, List.forall_mem_cons.mpr ⟨am_mm252, List.forall_mem_cons.mpr ⟨am_mm253, List.forall_mem_cons.mpr ⟨am_mm254, List.forall_mem_cons.mpr ⟨am_mm255, List.forall_mem_cons.mpr ⟨am_mm256, List.forall_mem_cons.mpr ⟨am_mm257, List.forall_mem_cons.mpr ⟨am_mm258, List.forall_mem_cons.mpr ⟨am_mm259, List.forall_mem_cons.mpr ⟨am_mm260, fun _ h => nomatch h⟩⟩⟩⟩⟩⟩⟩⟩⟩⟩⟩⟩⟩⟩⟩⟩⟩⟩⟩⟩
def am_mc13 : List Nat := [261, 262, 263, 264, 265, 266, 267, 268, 269, 270, 271, 272, 273, 274, 275, 276, 277]
theorem am_mr13 : ∀ M ∈ am_mc13, am_okN M := List.forall_mem_cons.mpr ⟨am_mm261, List.forall_mem_cons.mpr ⟨am_mm262, List.forall_mem_cons.mpr ⟨am_mm263, List.forall_mem_cons.mpr ⟨am_mm264, List.forall_mem_cons.mpr ⟨am_mm265, List.forall_mem_cons.mpr ⟨am_mm266, List.forall_mem_cons.mpr ⟨am_mm267, List.forall_mem_cons.mpr ⟨am_mm268, List.forall_mem_cons.mpr ⟨am_mm269, List.forall_mem_cons.mpr ⟨am_mm270, List.forall_mem_cons.mpr ⟨am_mm271, List.forall_mem_cons.mpr ⟨am_mm272, List.forall_mem_cons.mpr ⟨am_mm273, List.forall_mem_cons.mpr ⟨am_mm274, List.forall_mem_cons.mpr ⟨am_mm275, List.forall_mem_cons.mpr ⟨am_mm276, List.forall_mem_cons.mpr ⟨am_mm277, fun _ h => nomatch h⟩⟩⟩⟩⟩⟩⟩⟩⟩⟩⟩⟩⟩⟩⟩⟩⟩
theorem am_mIn : ∀ M, M < 278 → M ≠ 38 → M ∈ am_mc0 ++ (am_mc1 ++ (am_mc2 ++ (am_mc3 ++ (am_mc4 ++ (am_mc5 ++ (am_mc6 ++ (am_mc7 ++ (am_mc8 ++ (am_mc9 ++ (am_mc10 ++ (am_mc11 ++ (am_mc12 ++ (am_mc13))))))))))))) := by decide +kernel
theorem am_mAll {M : Nat} (h : M < 278) (h2 : M ≠ 38) : am_okN M := by
  have q := am_mIn M h h2
  simp only [List.mem_append] at q
  rcases q with q | q | q | q | q | q | q | q | q | q | q | q | q | q
  · exact am_mr0 M q
  · exact am_mr1 M q
  · exact am_mr2 M q
  · exact am_mr3 M q
  · exact am_mr4 M q
  · exact am_mr5 M q
  · exact am_mr6 M q
  · exact am_mr7 M q
  · exact am_mr8 M q
  · exact am_mr9 M q
  · exact am_mr10 M q
  · exact am_mr11 M q
  · exact am_mr12 M q
  · exact am_mr13 M q
set_option maxRecDepth 20000 in
theorem am_mmC : am_okM am_P0 am_YY am_Ts 38 := by
  have h : am_mb 38 (1, 1) = true := by decide +kernel
  unfold am_mb at h
  simp only [Bool.and_eq_true, decide_eq_true_eq] at h
  obtain ⟨⟨⟨⟨h2, h3⟩, h4⟩, h5⟩, h6⟩ := h
  refine ⟨Or.inr ⟨(14, 21, 24, 91), am_iT_ok (q := (2, 215)) ?_, fun pc hp hq => ?_, by decide, am_iT_ok (q := (2, 216)) (by decide +kernel), fun pc h j hh => ?_⟩, am_iT_ok h2, ⟨h3, h4⟩, h5, h6⟩
  · unfold am_iT
    rw [show (am_tk (2, 215).1)[(2, 215).2]? = some (.codeWith (am_YY 38).1 (am_YY 38).2.1 (am_P0.2.2.1 38) (am_YY 38).2.2 [(14, 21, 24, 91)]) from rfl]
    simp only [decide_true, Bool.true_and]
    first | rfl | simp [am_gk, goodWord, Cond.onTables, Cond.keeps, Cond.steady]
  · have hp : am_hd 38 pc = none := hp
    unfold am_hd at hp
    rw [if_pos ⟨rfl, hq⟩] at hp
    cases hp
  · have hh : am_hd 38 pc = some (h, j) := hh
    unfold am_hd at hh
    split at hh
    · rename_i hq
      cases hh
      exact ⟨hq.2.1, hq.2.2, ⟨1, by decide +kernel, rfl⟩, rfl, by decide⟩
    · cases hh
theorem am_mOk {M : Nat} (h : M < 278) : am_okM am_P0 am_YY am_Ts M := by
  by_cases h2 : M = 38
  · rw [h2]; exact am_mmC
  · exact (am_mAll h h2).1
def am_hF : List (List ((Nat × Nat × Nat) × String × (Nat × Nat) × (Nat × Nat))) := [[((10, 0, 0), "ChunkCode", (2, 173), (0, 0)), ((21, 0, 1), "ChunkCode", (2, 174), (0, 0)), ((28, 0, 2), "ChunkCode", (2, 175), (0, 0)), ((37, 0, 3), "ChunkCode", (2, 176), (0, 0)), ((46, 0, 4), "ChunkCode", (2, 177), (0, 0)), ((54, 8, 5), "ChunkCode$Body", (1, 165), (0, 0)), ((60, 8, 0), "ChunkCode$Body", (1, 147), (0, 0)), ((99, 0, 5), "ChunkCode", (2, 178), (0, 0)), ((108, 8, 3), "ChunkCode$Body", (1, 160), (0, 0)), ((111, 8, 4), "ChunkCode$Body", (1, 163), (0, 0)), ((114, 8, 6), "ChunkCode$Body", (1, 170), (0, 0)), ((116, 8, 7), "ChunkCode$Body", (1, 172), (0, 0)), ((119, 8, 1), "ChunkCode$Body", (1, 152), (0, 0)), ((125, 8, 8), "ChunkCode$Body", (1, 177), (0, 0))],
  [((7, 1, 0), "ChunkCode$Faults", (1, 41), (0, 0)), ((13, 1, 1), "ChunkCode$Faults", (1, 42), (0, 0))],
  [((12, 2, 1), "ChunkCode$Words", (1, 69), (0, 0)), ((18, 2, 0), "ChunkCode$Words", (1, 68), (0, 0)), ((34, 2, 2), "ChunkCode$Words", (1, 70), (0, 0)), ((38, 2, 3), "ChunkCode$Words", (1, 71), (0, 0))],
  [((11, 3, 0), "ChunkCode$Table", (1, 60), (0, 0)), ((15, 3, 1), "ChunkCode$Table", (1, 61), (0, 0))],
  [((10, 4, 0), "ChunkCode$Bodies", (1, 113), (0, 0)), ((16, 4, 1), "ChunkCode$Bodies", (1, 114), (0, 0))],
  [((9, 5, 0), "java/util/ArrayList", (1, 101), (0, 0)), ((48, 5, 1), "java/util/ArrayList", (1, 102), (0, 0)), ((63, 5, 2), "java/util/ArrayList", (1, 104), (1, 105))],
  [((7, 5, 2), "java/util/AbstractList", (1, 103), (0, 0))],
  [],
  [((12, 6, 3), "ChunkCode$Reader", (2, 34), (0, 0)), ((18, 6, 4), "ChunkCode$Reader", (2, 35), (0, 0)), ((21, 6, 0), "ChunkCode$Reader", (2, 31), (0, 0)), ((25, 6, 1), "ChunkCode$Reader", (2, 32), (0, 0)), ((34, 6, 2), "ChunkCode$Reader", (2, 33), (0, 0)), ((54, 8, 5), "ChunkCode$Body", (1, 167), (0, 0)), ((72, 8, 6), "ChunkCode$Body", (1, 169), (0, 0)), ((176, 6, 6), "ChunkCode$Reader", (2, 37), (0, 0)), ((194, 6, 7), "ChunkCode$Reader", (2, 38), (0, 0)), ((212, 7, 0), "ChunkCode$Scope", (2, 0), (0, 0)), ((220, 8, 10), "ChunkCode$Body", (1, 182), (0, 0)), ((242, 8, 12), "ChunkCode$Body", (1, 187), (0, 0)), ((277, 8, 0), "ChunkCode$Body", (1, 150), (0, 0)), ((327, 6, 5), "ChunkCode$Reader", (2, 36), (0, 0)), ((346, 8, 2), "ChunkCode$Body", (1, 157), (0, 0)), ((349, 8, 4), "ChunkCode$Body", (1, 164), (0, 0))],
  [((12, 7, 3), "ChunkCode$Scope", (2, 3), (0, 0)), ((21, 7, 4), "ChunkCode$Scope", (2, 4), (0, 0)), ((25, 7, 5), "ChunkCode$Scope", (2, 5), (0, 0)), ((31, 7, 6), "ChunkCode$Scope", (2, 6), (0, 0)), ((35, 7, 1), "ChunkCode$Scope", (2, 1), (0, 0)), ((39, 7, 2), "ChunkCode$Scope", (2, 2), (0, 0)), ((48, 7, 0), "ChunkCode$Scope", (1, 239), (0, 0)), ((70, 8, 2), "ChunkCode$Body", (1, 155), (0, 0)), ((74, 8, 3), "ChunkCode$Body", (1, 159), (0, 0)), ((77, 8, 8), "ChunkCode$Body", (1, 176), (0, 0)), ((84, 8, 9), "ChunkCode$Body", (1, 179), (0, 0)), ((90, 8, 10), "ChunkCode$Body", (1, 181), (0, 0)), ((96, 8, 11), "ChunkCode$Body", (1, 184), (0, 0)), ((102, 8, 12), "ChunkCode$Body", (1, 186), (0, 0)), ((148, 8, 7), "ChunkCode$Body", (1, 174), (0, 0)), ((160, 7, 7), "ChunkCode$Scope", (2, 7), (0, 0)), ((163, 7, 8), "ChunkCode$Scope", (2, 8), (0, 0)), ((166, 7, 9), "ChunkCode$Scope", (2, 9), (0, 0))],
  [((10, 8, 0), "ChunkCode$Body", (1, 146), (0, 0)), ((16, 8, 1), "ChunkCode$Body", (1, 151), (0, 0)), ((19, 8, 2), "ChunkCode$Body", (1, 154), (0, 0)), ((23, 8, 3), "ChunkCode$Body", (1, 158), (0, 0)), ((26, 8, 8), "ChunkCode$Body", (1, 175), (0, 0)), ((29, 8, 4), "ChunkCode$Body", (1, 162), (0, 0)), ((32, 8, 5), "ChunkCode$Body", (1, 166), (0, 0)), ((35, 8, 6), "ChunkCode$Body", (1, 168), (0, 0)), ((38, 8, 7), "ChunkCode$Body", (1, 171), (0, 0)), ((41, 8, 9), "ChunkCode$Body", (1, 178), (0, 0)), ((44, 8, 10), "ChunkCode$Body", (1, 180), (0, 0)), ((47, 8, 11), "ChunkCode$Body", (1, 183), (0, 0)), ((50, 8, 12), "ChunkCode$Body", (1, 185), (0, 0))],
  [((10, 9, 1), "ChunkCode$Jumps", (1, 224), (0, 0)), ((16, 9, 2), "ChunkCode$Jumps", (1, 225), (0, 0)), ((19, 9, 3), "ChunkCode$Jumps", (1, 226), (0, 0)), ((22, 9, 4), "ChunkCode$Jumps", (1, 227), (0, 0)), ((25, 9, 0), "ChunkCode$Jumps", (1, 223), (0, 0)), ((67, 8, 0), "ChunkCode$Body", (1, 149), (0, 0))],
  [((7, 10, 0), "ChunkCode$Audit", (2, 62), (0, 0)), ((13, 8, 0), "ChunkCode$Body", (1, 148), (0, 0)), ((64, 8, 7), "ChunkCode$Body", (1, 173), (0, 0)), ((68, 8, 1), "ChunkCode$Body", (1, 153), (0, 0)), ((78, 8, 3), "ChunkCode$Body", (1, 161), (0, 0)), ((81, 8, 2), "ChunkCode$Body", (1, 156), (0, 0))],
  [],
  [],
  [],
  [],
  [],
  [],
  [],
  [((7, 11, 1), "ChunkCodeModel", (5, 141), (0, 0)), ((13, 11, 2), "ChunkCodeModel", (5, 142), (0, 0)), ((17, 11, 11), "ChunkCodeModel", (5, 151), (0, 0)), ((20, 11, 12), "ChunkCodeModel", (5, 152), (0, 0)), ((23, 11, 13), "ChunkCodeModel", (5, 153), (0, 0)), ((26, 11, 14), "ChunkCodeModel", (5, 154), (0, 0)), ((30, 11, 16), "ChunkCodeModel", (5, 156), (0, 0)), ((33, 11, 17), "ChunkCodeModel", (5, 157), (0, 0)), ((36, 11, 18), "ChunkCodeModel", (5, 158), (0, 0)), ((39, 11, 21), "ChunkCodeModel", (5, 161), (0, 0)), ((42, 11, 22), "ChunkCodeModel", (5, 162), (0, 0)), ((45, 11, 23), "ChunkCodeModel", (5, 163), (0, 0)), ((48, 11, 25), "ChunkCodeModel", (5, 165), (0, 0)), ((51, 11, 26), "ChunkCodeModel", (5, 166), (0, 0)), ((54, 11, 27), "ChunkCodeModel", (5, 167), (0, 0)), ((57, 11, 28), "ChunkCodeModel", (5, 168), (0, 0)), ((61, 11, 29), "ChunkCodeModel", (5, 169), (0, 0)), ((64, 11, 30), "ChunkCodeModel", (5, 170), (0, 0)), ((67, 11, 33), "ChunkCodeModel", (5, 173), (0, 0)), ((70, 11, 34), "ChunkCodeModel", (5, 174), (0, 0)), ((73, 11, 35), "ChunkCodeModel", (5, 175), (0, 0)), ((76, 11, 36), "ChunkCodeModel", (5, 176), (0, 0)), ((79, 11, 38), "ChunkCodeModel", (5, 178), (0, 0)), ((82, 11, 39), "ChunkCodeModel", (5, 179), (0, 0)), ((85, 11, 40), "ChunkCodeModel", (5, 180), (0, 0)), ((88, 11, 41), "ChunkCodeModel", (5, 181), (0, 0)), ((91, 11, 42), "ChunkCodeModel", (5, 182), (0, 0)), ((94, 11, 43), "ChunkCodeModel", (5, 183), (0, 0)), ((97, 11, 45), "ChunkCodeModel", (5, 185), (0, 0)), ((100, 11, 46), "ChunkCodeModel", (5, 186), (0, 0)), ((103, 11, 47), "ChunkCodeModel", (5, 187), (0, 0)), ((106, 11, 49), "ChunkCodeModel", (5, 189), (0, 0)), ((109, 11, 50), "ChunkCodeModel", (5, 190), (0, 0)), ((112, 11, 51), "ChunkCodeModel", (5, 191), (0, 0)), ((115, 11, 52), "ChunkCodeModel", (5, 192), (0, 0)), ((118, 11, 53), "ChunkCodeModel", (5, 193), (0, 0)), ((122, 11, 54), "ChunkCodeModel", (5, 194), (0, 0)), ((125, 11, 55), "ChunkCodeModel", (5, 195), (0, 0)), ((128, 11, 56), "ChunkCodeModel", (5, 196), (0, 0)), ((131, 11, 57), "ChunkCodeModel", (5, 197), (0, 0)), ((134, 11, 58), "ChunkCodeModel", (5, 198), (0, 0)), ((137, 11, 59), "ChunkCodeModel", (5, 199), (0, 0)), ((140, 11, 60), "ChunkCodeModel", (5, 200), (0, 0)), ((143, 11, 61), "ChunkCodeModel", (5, 201), (0, 0)), ((146, 11, 63), "ChunkCodeModel", (5, 203), (0, 0)), ((149, 11, 64), "ChunkCodeModel", (5, 204), (0, 0)), ((152, 11, 65), "ChunkCodeModel", (5, 205), (0, 0)), ((155, 11, 66), "ChunkCodeModel", (5, 206), (0, 0)), ((158, 11, 67), "ChunkCodeModel", (5, 207), (0, 0)), ((161, 11, 68), "ChunkCodeModel", (5, 208), (0, 0)), ((164, 11, 69), "ChunkCodeModel", (5, 209), (0, 0)), ((167, 11, 70), "ChunkCodeModel", (5, 210), (0, 0)), ((170, 11, 71), "ChunkCodeModel", (5, 211), (0, 0)), ((173, 11, 72), "ChunkCodeModel", (5, 212), (0, 0)), ((176, 11, 73), "ChunkCodeModel", (5, 213), (0, 0)), ((179, 11, 74), "ChunkCodeModel", (5, 214), (0, 0)), ((182, 11, 0), "ChunkCodeModel", (5, 140), (0, 0)), ((185, 11, 4), "ChunkCodeModel", (5, 144), (0, 0)), ((192, 11, 6), "ChunkCodeModel", (5, 146), (0, 0)), ((195, 11, 7), "ChunkCodeModel", (5, 147), (0, 0)), ((198, 11, 10), "ChunkCodeModel", (5, 150), (0, 0)), ((201, 11, 8), "ChunkCodeModel", (5, 148), (0, 0)), ((204, 11, 9), "ChunkCodeModel", (5, 149), (0, 0)), ((215, 11, 5), "ChunkCodeModel", (5, 145), (0, 0)), ((221, 11, 32), "ChunkCodeModel", (5, 172), (0, 0)), ((224, 11, 24), "ChunkCodeModel", (5, 164), (0, 0)), ((234, 11, 31), "ChunkCodeModel", (5, 171), (0, 0)), ((241, 11, 62), "ChunkCodeModel", (5, 202), (0, 0)), ((247, 11, 75), "ChunkCodeModel", (5, 215), (0, 0)), ((254, 11, 37), "ChunkCodeModel", (5, 177), (0, 0)), ((257, 11, 44), "ChunkCodeModel", (5, 184), (0, 0)), ((260, 11, 48), "ChunkCodeModel", (5, 188), (0, 0)), ((293, 11, 15), "ChunkCodeModel", (5, 155), (0, 0)), ((314, 11, 20), "ChunkCodeModel", (5, 160), (0, 0)), ((361, 11, 19), "ChunkCodeModel", (5, 159), (0, 0)), ((380, 11, 76), "ChunkCodeModel", (5, 216), (0, 0)), ((525, 11, 3), "ChunkCodeModel", (5, 143), (0, 0))],
  []]
def am_fb (oc : Nat) (q : (Nat × Nat × Nat) × String × (Nat × Nat) × (Nat × Nat)) : Bool := match am_cl[q.1.2.1]? with
  | some c => decide (q.1.2.2 < c.2.2) && am_iT q.2.2.1 (.fieldLink (am_nm oc) q.1.1 q.2.1 (c.2.1 q.1.2.2).2.1 (c.2.1 q.1.2.2).2.2.1) && (decide (q.2.1 = (c.2.1 q.1.2.2).1) || am_iT q.2.2.2 (.sameField q.2.1 (c.2.1 q.1.2.2).1 (c.2.1 q.1.2.2).2.1 (c.2.1 q.1.2.2).2.2.1))
  | none => false
theorem am_fb_ok {oc : Nat} {q : (Nat × Nat × Nat) × String × (Nat × Nat) × (Nat × Nat)} (h : am_fb oc q = true) : am_okF am_cl am_Ts (am_nm oc) q.1.1 q.1.2.1 q.1.2.2 := by
  unfold am_fb at h
  split at h
  · rename_i c hc
    simp only [Bool.and_eq_true, Bool.or_eq_true, decide_eq_true_eq] at h
    obtain ⟨⟨h1, h2⟩, h3⟩ := h
    exact ⟨c.1, c.2.1, c.2.2, q.2.1, hc, h1, am_iT_ok h2, h3.elim Or.inl (fun z => Or.inr (am_iT_ok z))⟩
  · cases h
set_option maxRecDepth 100000 in
theorem am_hF_eq : am_LF = am_hF.map (fun l => l.map (fun q => q.1)) := by decide +kernel
set_option maxRecDepth 100000 in
theorem am_hF_ok : (List.range 22).all (fun o => ((am_hF[o]?).getD []).all (am_fb o)) = true := by decide +kernel
def am_hK : List (List ((Nat × Nat × Nat × Nat) × String × (Nat × Nat) × (Nat × Nat) × (Nat × Nat))) := [[((9, 1, 1, 1), "ChunkCode", (1, 37), (1, 38), (0, 0)), ((18, 2, 2, 1), "", (1, 50), (1, 51), (0, 0)), ((27, 4, 1, 1), "ChunkCode", (1, 83), (1, 84), (0, 0)), ((34, 8, 4, 1), "", (1, 122), (1, 123), (0, 0)), ((43, 12, 2, 1), "", (2, 58), (2, 59), (0, 0)), ((50, 13, 1, 6), "", (2, 66), (2, 67), (2, 68)), ((66, 31, 5, 5), "", (2, 158), (2, 159), (2, 160)), ((71, 34, 1, 0), "", (2, 196), (2, 197), (0, 0)), ((77, 35, 1, 4), "", (2, 199), (2, 200), (2, 201)), ((81, 37, 3, 4), "", (2, 207), (2, 208), (2, 209)), ((84, 39, 1, 3), "", (2, 217), (2, 218), (2, 219)), ((87, 40, 1, 6), "", (2, 221), (2, 222), (2, 223)), ((88, 41, 1, 8), "", (2, 225), (2, 226), (2, 227)), ((93, 152, 1, 3), "", (5, 42), (5, 43), (5, 44)), ((96, 153, 1, 3), "", (5, 46), (5, 47), (5, 48)), ((102, 154, 1, 4), "", (5, 50), (5, 51), (5, 52)), ((103, 155, 1, 6), "", (5, 55), (5, 56), (5, 57)), ((104, 159, 2, 6), "", (5, 71), (5, 72), (5, 73)), ((122, 36, 1, 5), "", (5, 75), (2, 204), (2, 205)), ((128, 161, 2, 5), "", (5, 80), (5, 81), (5, 82)), ((131, 54, 3, 5), "", (5, 84), (3, 46), (3, 47)), ((134, 164, 2, 12), "", (5, 93), (5, 94), (5, 95)), ((138, 167, 1, 12), "", (5, 107), (5, 108), (5, 109))],
  [],
  [((11, 3, 1, 1), "ChunkCode", (1, 56), (1, 57), (0, 0)), ((22, 31, 5, 5), "", (2, 211), (2, 159), (2, 160)), ((26, 36, 1, 5), "", (2, 203), (2, 204), (2, 205)), ((30, 30, 2, 5), "", (5, 54), (2, 155), (2, 156)), ((41, 54, 3, 5), "", (3, 45), (3, 46), (3, 47)), ((47, 58, 3, 3), "", (3, 59), (3, 60), (3, 61)), ((51, 65, 2, 4), "", (3, 148), (3, 149), (3, 150)), ((54, 55, 1, 4), "", (3, 152), (3, 50), (3, 51)), ((57, 56, 1, 0), "", (3, 53), (3, 54), (0, 0)), ((63, 57, 1, 0), "", (3, 56), (3, 57), (0, 0)), ((66, 93, 2, 4), "", (4, 148), (4, 35), (4, 36)), ((70, 121, 1, 0), "", (4, 149), (4, 150), (0, 0))],
  [((20, 32, 2, 0), "", (2, 163), (2, 164), (0, 0))],
  [((9, 5, 1, 1), "", (1, 89), (1, 90), (0, 0)), ((20, 14, 1, 7), "", (2, 70), (2, 71), (2, 72)), ((24, 25, 2, 7), "", (2, 136), (2, 137), (2, 138)), ((30, 10, 1, 1), "ChunkCode", (2, 75), (1, 141), (0, 0)), ((31, 15, 2, 7), "", (2, 76), (2, 77), (2, 78)), ((35, 29, 2, 10), "", (2, 150), (2, 151), (2, 152))],
  [((1, 6, 1, 1), "", (1, 92), (1, 93), (0, 0)), ((66, 22, 2, 0), "", (2, 102), (2, 103), (0, 0)), ((69, 18, 2, 7), "", (2, 88), (2, 90), (0, 2)), ((73, 19, 3, 0), "", (2, 92), (2, 93), (0, 0)), ((79, 20, 2, 0), "", (2, 134), (2, 96), (0, 0)), ((118, 26, 2, 0), "", (2, 140), (2, 141), (0, 0)), ((123, 28, 2, 7), "", (2, 146), (2, 147), (2, 148)), ((129, 17, 1, 7), "", (2, 84), (2, 86), (0, 1)), ((131, 16, 4, 7), "", (2, 80), (2, 82), (0, 0)), ((144, 90, 3, 7), "", (4, 21), (4, 23), (0, 18))],
  [((1, 7, 1, 1), "", (1, 95), (1, 96), (0, 0))],
  [],
  [((11, 3, 1, 1), "ChunkCode", (1, 127), (1, 57), (0, 0)), ((31, 9, 3, 1), "", (1, 130), (1, 131), (0, 0)), ((38, 42, 1, 4), "", (2, 229), (2, 230), (2, 231)), ((43, 43, 1, 9), "", (2, 233), (2, 234), (2, 235)), ((46, 30, 2, 5), "", (3, 7), (2, 155), (2, 156)), ((50, 46, 2, 9), "", (3, 8), (3, 9), (3, 10)), ((60, 52, 1, 8), "", (3, 37), (3, 39), (0, 3)), ((65, 65, 2, 4), "", (5, 40), (3, 149), (3, 150)), ((68, 35, 1, 4), "", (5, 41), (2, 200), (2, 201)), ((76, 78, 5, 8), "", (3, 210), (3, 212), (0, 15)), ((80, 80, 1, 9), "", (3, 218), (3, 219), (3, 220)), ((83, 53, 1, 4), "", (3, 41), (3, 42), (3, 43)), ((86, 55, 1, 4), "", (3, 49), (3, 50), (3, 51)), ((89, 59, 1, 8), "", (3, 124), (3, 126), (0, 5)), ((92, 119, 1, 8), "", (4, 139), (4, 141), (0, 37)), ((95, 123, 1, 8), "", (4, 157), (4, 159), (0, 38)), ((98, 126, 1, 8), "", (4, 170), (4, 172), (0, 39)), ((101, 128, 1, 8), "", (4, 178), (4, 180), (0, 40)), ((104, 64, 2, 4), "", (3, 144), (3, 145), (3, 146)), ((108, 130, 1, 8), "", (4, 189), (4, 191), (0, 41)), ((111, 133, 1, 8), "", (4, 202), (4, 204), (0, 42)), ((114, 134, 1, 8), "", (4, 206), (4, 208), (0, 43)), ((117, 63, 1, 4), "", (3, 140), (3, 141), (3, 142)), ((120, 93, 2, 4), "", (4, 34), (4, 35), (4, 36)), ((123, 138, 1, 8), "", (4, 222), (4, 224), (0, 47)), ((126, 144, 1, 8), "", (5, 7), (5, 9), (0, 52)), ((129, 145, 1, 8), "", (5, 11), (5, 13), (0, 53)), ((132, 146, 1, 8), "", (5, 15), (5, 17), (0, 54)), ((135, 147, 1, 8), "", (5, 19), (5, 21), (0, 55)), ((138, 150, 1, 8), "", (5, 31), (5, 33), (0, 57)), ((141, 51, 1, 9), "", (4, 182), (3, 33), (3, 34)), ((144, 129, 1, 9), "", (4, 183), (4, 184), (4, 185)), ((148, 82, 1, 9), "", (4, 187), (3, 227), (3, 228)), ((151, 81, 1, 9), "", (4, 188), (3, 223), (3, 224)), ((154, 60, 1, 8), "", (3, 128), (3, 130), (0, 6)), ((157, 99, 3, 8), "", (4, 59), (4, 61), (0, 25)), ((161, 36, 1, 5), "", (3, 179), (2, 204), (2, 205)), ((164, 113, 2, 8), "", (4, 116), (4, 118), (0, 33)), ((167, 112, 1, 8), "", (4, 112), (4, 114), (0, 32)), ((170, 117, 3, 8), "", (4, 131), (4, 133), (0, 35)), ((173, 118, 2, 8), "", (4, 135), (4, 137), (0, 36)), ((179, 114, 2, 8), "", (4, 120), (4, 122), (0, 34)), ((182, 101, 1, 9), "", (4, 67), (4, 68), (4, 69)), ((185, 116, 1, 0), "", (4, 128), (4, 129), (0, 0)), ((188, 102, 1, 9), "", (4, 71), (4, 72), (4, 73)), ((191, 31, 5, 5), "", (3, 187), (2, 159), (2, 160)), ((199, 58, 3, 3), "", (4, 84), (3, 60), (3, 61)), ((202, 115, 1, 9), "", (4, 124), (4, 125), (4, 126)), ((205, 76, 3, 3), "", (4, 83), (3, 201), (3, 202)), ((208, 54, 3, 5), "", (4, 57), (3, 46), (3, 47)), ((216, 79, 1, 9), "", (3, 214), (3, 215), (3, 216)), ((223, 84, 3, 11), "", (4, 143), (3, 236), (3, 237)), ((228, 98, 1, 8), "", (4, 53), (4, 55), (0, 24)), ((231, 75, 1, 9), "", (3, 209), (3, 197), (3, 198)), ((232, 120, 1, 4), "", (4, 144), (4, 145), (4, 146)), ((235, 122, 5, 11), "", (4, 152), (4, 153), (4, 154)), ((239, 50, 1, 11), "", (4, 161), (3, 28), (3, 29)), ((245, 124, 1, 11), "", (4, 162), (4, 163), (4, 164)), ((248, 125, 2, 11), "", (4, 166), (4, 167), (4, 168)), ((251, 127, 5, 11), "", (4, 174), (4, 175), (4, 176)), ((255, 70, 1, 8), "", (3, 175), (3, 177), (0, 11)), ((258, 131, 2, 11), "", (4, 193), (4, 194), (4, 195)), ((261, 109, 3, 10), "", (4, 99), (4, 100), (4, 101)), ((264, 132, 2, 11), "", (4, 197), (4, 198), (4, 199)), ((268, 135, 1, 8), "", (4, 210), (4, 212), (0, 44)), ((271, 136, 3, 8), "", (4, 214), (4, 216), (0, 45)), ((274, 137, 2, 8), "", (4, 218), (4, 220), (0, 46)), ((280, 139, 1, 8), "", (4, 226), (4, 228), (0, 48)), ((283, 140, 4, 8), "", (4, 230), (4, 232), (0, 49)), ((287, 142, 3, 8), "", (4, 239), (5, 1), (0, 50)), ((290, 143, 1, 8), "", (5, 3), (5, 5), (0, 51)), ((293, 74, 4, 9), "", (3, 192), (3, 193), (3, 194)), ((297, 141, 2, 9), "", (4, 234), (4, 235), (4, 236)), ((300, 104, 2, 4), "", (4, 79), (4, 80), (4, 81)), ((303, 62, 1, 8), "", (3, 136), (3, 138), (0, 8)), ((306, 100, 2, 8), "", (4, 63), (4, 65), (0, 26)), ((309, 110, 1, 8), "", (4, 104), (4, 106), (0, 30)), ((312, 73, 3, 8), "", (3, 188), (3, 190), (0, 13)), ((316, 148, 2, 8), "", (5, 23), (5, 25), (0, 56)), ((320, 149, 2, 9), "", (5, 27), (5, 28), (5, 29)), ((323, 121, 1, 0), "", (5, 35), (4, 150), (0, 0)), ((331, 97, 1, 8), "", (4, 49), (4, 51), (0, 23)), ((334, 151, 1, 9), "", (5, 36), (5, 37), (5, 38)), ((337, 86, 4, 5), "", (4, 58), (4, 4), (4, 5)), ((340, 96, 1, 8), "", (4, 45), (4, 47), (0, 22)), ((343, 77, 2, 8), "", (3, 205), (3, 207), (0, 14)), ((352, 71, 1, 8), "", (3, 180), (3, 182), (0, 12)), ((355, 91, 1, 8), "", (4, 26), (4, 28), (0, 19)), ((358, 103, 1, 8), "", (4, 75), (4, 77), (0, 27)), ((361, 105, 2, 8), "", (4, 85), (4, 87), (0, 28)), ((364, 108, 3, 8), "", (4, 95), (4, 97), (0, 29)), ((367, 72, 1, 0), "", (3, 184), (3, 185), (0, 0)), ((370, 106, 1, 0), "", (4, 89), (4, 90), (0, 0)), ((373, 107, 1, 0), "", (4, 92), (4, 93), (0, 0)), ((376, 61, 1, 8), "", (3, 132), (3, 134), (0, 7)), ((379, 111, 2, 8), "", (4, 108), (4, 110), (0, 31)), ((382, 66, 2, 9), "", (3, 153), (3, 154), (3, 155)), ((385, 92, 2, 8), "", (4, 30), (4, 32), (0, 20)), ((388, 95, 1, 0), "", (4, 42), (4, 43), (0, 0)), ((391, 94, 1, 8), "", (4, 38), (4, 40), (0, 21))],
  [((11, 5, 1, 1), "", (1, 135), (1, 90), (0, 0)), ((20, 3, 1, 1), "ChunkCode", (1, 137), (1, 57), (0, 0)), ((30, 10, 1, 1), "ChunkCode", (1, 140), (1, 141), (0, 0)), ((45, 11, 2, 1), "", (1, 217), (1, 218), (0, 0)), ((52, 44, 1, 11), "", (2, 237), (2, 238), (2, 239)), ((55, 45, 1, 7), "", (3, 2), (3, 3), (3, 4)), ((56, 30, 2, 5), "", (3, 6), (2, 155), (2, 156)), ((60, 13, 1, 6), "", (3, 12), (2, 67), (2, 68)), ((66, 47, 1, 7), "", (3, 13), (3, 14), (3, 15)), ((80, 36, 1, 5), "", (3, 17), (2, 204), (2, 205)), ((87, 48, 1, 11), "", (3, 18), (3, 19), (3, 20)), ((93, 49, 1, 11), "", (3, 23), (3, 24), (3, 25)), ((99, 50, 1, 11), "", (3, 27), (3, 28), (3, 29)), ((105, 15, 2, 7), "", (3, 31), (2, 77), (2, 78)), ((108, 51, 1, 9), "", (3, 32), (3, 33), (3, 34)), ((111, 81, 1, 9), "", (3, 222), (3, 223), (3, 224)), ((114, 88, 2, 11), "", (4, 13), (4, 14), (4, 15)), ((117, 14, 1, 7), "", (3, 166), (2, 71), (2, 72)), ((120, 89, 2, 7), "", (4, 17), (4, 18), (4, 19)), ((124, 25, 2, 7), "", (3, 167), (2, 137), (2, 138)), ((127, 31, 5, 5), "", (3, 36), (2, 159), (2, 160)), ((130, 54, 3, 5), "", (3, 161), (3, 46), (3, 47)), ((133, 75, 1, 9), "", (3, 196), (3, 197), (3, 198)), ((136, 82, 1, 9), "", (3, 226), (3, 227), (3, 228)), ((139, 83, 5, 11), "", (3, 230), (3, 231), (3, 232)), ((144, 76, 3, 3), "", (3, 200), (3, 201), (3, 202)), ((151, 20, 2, 0), "", (3, 204), (2, 96), (0, 0)), ((156, 86, 4, 5), "", (4, 238), (4, 4), (4, 5)), ((170, 67, 2, 9), "", (3, 157), (3, 159), (0, 9)), ((176, 68, 2, 9), "", (3, 162), (3, 164), (0, 10)), ((179, 69, 3, 10), "", (3, 168), (3, 169), (3, 170))],
  [((9, 3, 1, 1), "ChunkCode", (1, 145), (1, 57), (0, 0)), ((53, 30, 2, 5), "", (2, 154), (2, 155), (2, 156)), ((57, 36, 1, 5), "", (3, 172), (2, 204), (2, 205)), ((61, 86, 4, 5), "", (4, 103), (4, 4), (4, 5)), ((65, 54, 3, 5), "", (3, 173), (3, 46), (3, 47)), ((69, 31, 5, 5), "", (3, 174), (2, 159), (2, 160))],
  [((9, 3, 1, 1), "ChunkCode", (1, 222), (1, 57), (0, 0)), ((29, 30, 2, 5), "", (3, 1), (2, 155), (2, 156)), ((33, 36, 1, 5), "", (3, 22), (2, 204), (2, 205)), ((37, 54, 3, 5), "", (3, 234), (3, 46), (3, 47)), ((41, 31, 5, 5), "", (4, 156), (2, 159), (2, 160)), ((45, 84, 3, 11), "", (3, 235), (3, 236), (3, 237)), ((48, 85, 4, 11), "", (3, 239), (4, 1), (0, 16)), ((52, 87, 4, 11), "", (4, 8), (4, 10), (0, 17)), ((58, 76, 3, 3), "", (4, 7), (3, 201), (3, 202)), ((64, 109, 3, 10), "", (4, 201), (4, 100), (4, 101)), ((70, 86, 4, 5), "", (4, 3), (4, 4), (4, 5)), ((73, 24, 2, 0), "", (4, 12), (2, 129), (0, 0))],
  [((19, 36, 1, 5), "", (5, 97), (2, 204), (2, 205)), ((25, 165, 2, 0), "", (5, 98), (5, 99), (0, 0)), ((29, 20, 2, 0), "", (5, 102), (2, 96), (0, 0)), ((35, 155, 1, 6), "", (5, 111), (5, 56), (5, 57)), ((40, 159, 2, 6), "", (5, 112), (5, 72), (5, 73)), ((44, 168, 2, 12), "", (5, 113), (5, 115), (0, 58)), ((48, 54, 3, 5), "", (5, 101), (3, 46), (3, 47)), ((53, 169, 2, 0), "", (5, 117), (5, 118), (0, 0)), ((57, 170, 3, 12), "", (5, 120), (5, 122), (0, 59)), ((60, 171, 3, 0), "", (5, 124), (5, 125), (0, 0)), ((71, 161, 2, 5), "", (5, 127), (5, 81), (5, 82)), ((75, 172, 3, 12), "", (5, 128), (5, 130), (0, 60))],
  [((194, 20, 2, 0), "", (2, 95), (2, 96), (0, 0)), ((201, 21, 2, 0), "", (2, 99), (2, 100), (0, 0))],
  [],
  [((300, 23, 3, 0), "", (2, 122), (2, 123), (0, 0)), ((304, 24, 2, 0), "", (2, 128), (2, 129), (0, 0))],
  [((105, 27, 3, 0), "", (2, 143), (2, 144), (0, 0))],
  [],
  [],
  [],
  [((188, 184, 2, 13), "", (6, 173), (6, 175), (0, 69)), ((207, 183, 1, 13), "", (6, 169), (6, 171), (0, 68)), ((211, 194, 2, 13), "", (6, 212), (6, 214), (0, 78)), ((218, 200, 2, 13), "", (6, 236), (6, 238), (0, 84)), ((227, 197, 1, 13), "", (6, 224), (6, 226), (0, 81)), ((230, 191, 3, 13), "", (6, 200), (6, 202), (0, 75)), ((237, 196, 5, 13), "", (6, 220), (6, 222), (0, 80)), ((244, 206, 2, 13), "", (7, 19), (7, 21), (0, 89)), ((250, 207, 5, 13), "", (7, 23), (7, 25), (0, 90)), ((263, 243, 1, 13), "", (7, 165), (7, 167), (0, 124)), ((267, 232, 1, 13), "", (7, 121), (7, 123), (0, 113)), ((270, 189, 5, 13), "", (6, 192), (6, 194), (0, 73)), ((273, 224, 1, 13), "", (7, 90), (7, 92), (0, 106)), ((276, 210, 1, 13), "", (7, 34), (7, 36), (0, 92)), ((279, 230, 2, 13), "", (7, 113), (7, 115), (0, 111)), ((282, 231, 1, 13), "", (7, 117), (7, 119), (0, 112)), ((285, 179, 5, 13), "", (6, 153), (6, 155), (0, 64)), ((289, 186, 2, 13), "", (6, 180), (6, 182), (0, 70)), ((296, 205, 2, 13), "", (7, 15), (7, 17), (0, 88)), ((299, 204, 1, 13), "", (7, 11), (7, 13), (0, 87)), ((302, 216, 1, 13), "", (7, 58), (7, 60), (0, 98)), ((305, 217, 1, 13), "", (7, 62), (7, 64), (0, 99)), ((308, 209, 1, 13), "", (7, 30), (7, 32), (0, 91)), ((311, 240, 2, 13), "", (7, 153), (7, 155), (0, 121)), ((317, 203, 1, 0), "", (7, 8), (7, 9), (0, 0)), ((320, 185, 1, 0), "", (6, 177), (6, 178), (0, 0)), ((323, 187, 2, 13), "", (6, 184), (6, 186), (0, 71)), ((326, 190, 4, 13), "", (6, 196), (6, 198), (0, 74)), ((330, 188, 3, 13), "", (6, 188), (6, 190), (0, 72)), ((333, 192, 1, 13), "", (6, 204), (6, 206), (0, 76)), ((336, 193, 2, 13), "", (6, 208), (6, 210), (0, 77)), ((339, 195, 3, 13), "", (6, 216), (6, 218), (0, 79)), ((343, 201, 1, 13), "", (7, 0), (7, 2), (0, 85)), ((346, 208, 1, 0), "", (7, 27), (7, 28), (0, 0)), ((349, 212, 2, 13), "", (7, 42), (7, 44), (0, 94)), ((352, 213, 4, 13), "", (7, 46), (7, 48), (0, 95)), ((355, 199, 2, 13), "", (6, 232), (6, 234), (0, 83)), ((358, 214, 1, 13), "", (7, 50), (7, 52), (0, 96)), ((364, 220, 2, 13), "", (7, 74), (7, 76), (0, 102)), ((367, 177, 2, 13), "", (6, 145), (6, 147), (0, 62)), ((371, 198, 2, 13), "", (6, 228), (6, 230), (0, 82)), ((374, 178, 1, 13), "", (6, 149), (6, 151), (0, 63)), ((377, 223, 1, 13), "", (7, 86), (7, 88), (0, 105)), ((383, 226, 1, 0), "", (7, 98), (7, 99), (0, 0)), ((386, 227, 1, 13), "", (7, 101), (7, 103), (0, 108)), ((389, 228, 2, 13), "", (7, 105), (7, 107), (0, 109)), ((392, 229, 2, 13), "", (7, 109), (7, 111), (0, 110)), ((395, 233, 2, 13), "", (7, 125), (7, 127), (0, 114)), ((398, 234, 3, 13), "", (7, 129), (7, 131), (0, 115)), ((401, 235, 2, 13), "", (7, 133), (7, 135), (0, 116)), ((404, 236, 2, 13), "", (7, 137), (7, 139), (0, 117)), ((407, 238, 2, 13), "", (7, 145), (7, 147), (0, 119)), ((410, 262, 1, 13), "", (8, 1), (8, 3), (0, 143)), ((413, 242, 1, 13), "", (7, 161), (7, 163), (0, 123)), ((416, 246, 1, 13), "", (7, 177), (7, 179), (0, 127)), ((419, 253, 2, 13), "", (7, 205), (7, 207), (0, 134)), ((422, 254, 4, 13), "", (7, 209), (7, 211), (0, 135)), ((426, 256, 2, 13), "", (7, 217), (7, 219), (0, 137)), ((429, 258, 3, 13), "", (7, 225), (7, 227), (0, 139)), ((432, 250, 2, 13), "", (7, 193), (7, 195), (0, 131)), ((435, 237, 2, 13), "", (7, 141), (7, 143), (0, 118)), ((438, 239, 4, 13), "", (7, 149), (7, 151), (0, 120)), ((441, 241, 3, 13), "", (7, 157), (7, 159), (0, 122)), ((444, 181, 4, 13), "", (6, 161), (6, 163), (0, 66)), ((447, 225, 1, 13), "", (7, 94), (7, 96), (0, 107)), ((450, 244, 2, 13), "", (7, 169), (7, 171), (0, 125)), ((453, 245, 3, 13), "", (7, 173), (7, 175), (0, 126)), ((456, 247, 2, 13), "", (7, 181), (7, 183), (0, 128)), ((459, 248, 2, 13), "", (7, 185), (7, 187), (0, 129)), ((462, 249, 3, 13), "", (7, 189), (7, 191), (0, 130)), ((465, 251, 2, 13), "", (7, 197), (7, 199), (0, 132)), ((468, 252, 2, 13), "", (7, 201), (7, 203), (0, 133)), ((471, 255, 4, 13), "", (7, 213), (7, 215), (0, 136)), ((474, 257, 4, 13), "", (7, 221), (7, 223), (0, 138)), ((477, 259, 4, 13), "", (7, 229), (7, 231), (0, 140)), ((480, 260, 4, 13), "", (7, 233), (7, 235), (0, 141)), ((483, 261, 2, 13), "", (7, 237), (7, 239), (0, 142)), ((486, 263, 1, 13), "", (8, 5), (8, 7), (0, 144)), ((489, 264, 3, 13), "", (8, 9), (8, 11), (0, 145)), ((492, 265, 3, 13), "", (8, 13), (8, 15), (0, 146)), ((495, 182, 2, 13), "", (6, 165), (6, 167), (0, 67)), ((498, 202, 2, 13), "", (7, 4), (7, 6), (0, 86)), ((501, 211, 1, 13), "", (7, 38), (7, 40), (0, 93)), ((504, 215, 3, 13), "", (7, 54), (7, 56), (0, 97)), ((507, 218, 2, 13), "", (7, 66), (7, 68), (0, 100)), ((510, 219, 2, 13), "", (7, 70), (7, 72), (0, 101)), ((513, 221, 3, 13), "", (7, 78), (7, 80), (0, 103)), ((516, 222, 2, 13), "", (7, 82), (7, 84), (0, 104)), ((519, 176, 1, 13), "", (6, 141), (6, 143), (0, 61)), ((522, 180, 5, 13), "", (6, 157), (6, 159), (0, 65)), ((528, 266, 1, 13), "", (8, 17), (8, 19), (0, 147)), ((531, 270, 2, 13), "", (8, 33), (8, 35), (0, 148)), ((534, 274, 3, 0), "", (8, 49), (8, 50), (0, 0)), ((538, 277, 3, 0), "", (8, 60), (8, 61), (0, 0)), ((542, 276, 5, 13), "", (8, 56), (8, 58), (0, 149))],
  [((9, 0, 1, 1), "", (1, 29), (1, 30), (0, 0)), ((12, 173, 1, 1), "", (5, 134), (5, 135), (0, 0)), ((13, 33, 3, 2), "", (2, 192), (2, 193), (2, 194)), ((17, 174, 3, 13), "", (6, 133), (6, 134), (6, 135)), ((18, 38, 1, 2), "", (2, 212), (2, 213), (2, 214)), ((22, 175, 1, 13), "", (6, 137), (6, 138), (6, 139)), ((23, 156, 1, 2), "", (5, 59), (5, 60), (5, 61)), ((26, 267, 1, 13), "", (8, 21), (8, 22), (8, 23)), ((27, 157, 1, 2), "", (5, 63), (5, 64), (5, 65)), ((30, 268, 1, 13), "", (8, 25), (8, 26), (8, 27)), ((31, 158, 3, 2), "", (5, 67), (5, 68), (5, 69)), ((34, 269, 3, 13), "", (8, 29), (8, 30), (8, 31)), ((35, 160, 4, 2), "", (5, 76), (5, 77), (5, 78)), ((39, 271, 4, 13), "", (8, 37), (8, 38), (8, 39)), ((40, 162, 4, 2), "", (5, 85), (5, 86), (5, 87)), ((43, 272, 4, 13), "", (8, 41), (8, 42), (8, 43)), ((44, 163, 2, 2), "", (5, 89), (5, 90), (5, 91)), ((48, 273, 2, 13), "", (8, 45), (8, 46), (8, 47)), ((49, 166, 1, 2), "", (5, 103), (5, 104), (5, 105)), ((52, 275, 1, 13), "", (8, 52), (8, 53), (8, 54))]]
def am_pn (desc : String) (n : Nat) : Bool := match parseMethodDescriptor desc with
  | some sig => decide (n = sig.parameters.length)
  | none => false
theorem am_pn_ok {desc : String} {n : Nat} (h : am_pn desc n = true) : ∀ sig, parseMethodDescriptor desc = some sig → n = sig.parameters.length := by
  intro sig hs
  unfold am_pn at h
  rw [hs] at h
  exact of_decide_eq_true h
def am_kv (oc : Nat) (q : (Nat × Nat × Nat × Nat) × String × (Nat × Nat) × (Nat × Nat) × (Nat × Nat)) (k : Nat) : Bool := match am_cl[k]? with
    | some c => am_iT q.2.2.1 (.methodLink (am_nm oc) q.1.1 (am_YY q.1.2.1).1) && am_iT q.2.2.2.1 (.instanceMethod (am_YY q.1.2.1).1) && am_iT q.2.2.2.2 (.selects c.1 (am_YY q.1.2.1).1 (am_YY q.1.2.1).1) && decide (1 ≤ q.1.2.2.1) && am_pn (am_YY q.1.2.1).1.desc (q.1.2.2.1 - 1)
    | none => false
def am_kb (oc : Nat) (q : (Nat × Nat × Nat × Nat) × String × (Nat × Nat) × (Nat × Nat) × (Nat × Nat)) : Bool := decide (q.1.2.1 < 278) && match q.1.2.2.2 with
  | 0 => decide (q.1.2.1 ≠ 38) && am_iT q.2.2.1 (.methodLink (am_nm oc) q.1.1 (am_YY q.1.2.1).1) && am_iT q.2.2.2.1 (.static (am_YY q.1.2.1).1) && am_pn (am_YY q.1.2.1).1.desc q.1.2.2.1
  | 1 => decide (q.1.2.1 ≠ 38) && (am_iT q.2.2.1 (.methodLink (am_nm oc) q.1.1 (am_YY q.1.2.1).1) || am_iT q.2.2.1 (.methodLinkNest (am_nm oc) q.1.1 (am_YY q.1.2.1).1 q.2.1)) && am_iT q.2.2.2.1 (.instanceMethod (am_YY q.1.2.1).1) && decide ((am_YY q.1.2.1).1.name = "<init>") && decide ((am_YY q.1.2.1).2.2 = none) && decide (1 ≤ q.1.2.2.1) && am_pn (am_YY q.1.2.1).1.desc (q.1.2.2.1 - 1)
  | k + 2 => am_kv oc q k
theorem am_kb_ok {oc : Nat} {q : (Nat × Nat × Nat × Nat) × String × (Nat × Nat) × (Nat × Nat) × (Nat × Nat)} (h : am_kb oc q = true) : am_okK am_P0 am_YY am_cl am_Ts (am_nm oc) q.1.1 q.1.2.1 q.1.2.2.1 q.1.2.2.2 := by
  obtain ⟨⟨idx, a, b, c⟩, host, p1, p2, p3⟩ := q
  unfold am_kb at h
  dsimp only at h ⊢
  simp only [Bool.and_eq_true] at h
  have ha := of_decide_eq_true h.1
  refine ⟨am_mOk ha, ?_⟩
  have h := h.2
  match c, h with
  | 0, h =>
    simp only [Bool.and_eq_true, decide_eq_true_eq] at h
    exact ⟨(am_mAll ha h.1.1.1).2, am_iT_ok h.1.1.2, am_iT_ok h.1.2, am_pn_ok h.2⟩
  | 1, h =>
    simp only [Bool.and_eq_true, Bool.or_eq_true, decide_eq_true_eq] at h
    obtain ⟨⟨⟨⟨⟨⟨h0, h1⟩, h2⟩, h3⟩, h4⟩, h5⟩, h6⟩ := h
    refine ⟨(am_mAll ha h0).2, h1.elim (fun z => Or.inl (am_iT_ok z)) (fun z => Or.inr ⟨host, am_iT_ok z⟩), am_iT_ok h2, h3, h4, fun sig hs => ?_⟩
    have := am_pn_ok h6 sig hs
    omega
  | k + 2, h =>
    have h : am_kv oc ((idx, a, b, k + 2), host, p1, p2, p3) k = true := h
    unfold am_kv at h
    split at h
    · rename_i c hc
      simp only [Bool.and_eq_true, decide_eq_true_eq] at h
      obtain ⟨⟨⟨⟨h1, h2⟩, h3⟩, h4⟩, h5⟩ := h
      refine ⟨c.1, c.2.1, c.2.2, hc, am_iT_ok h1, am_iT_ok h2, am_iT_ok h3, fun sig hs => ?_⟩
      have := am_pn_ok h5 sig hs
      omega
    · cases h
set_option maxRecDepth 100000 in
theorem am_hK_eq : am_LKc = am_hK.map (fun l => l.map (fun q => q.1)) := by decide +kernel
set_option maxRecDepth 100000 in
theorem am_hK_ok : (List.range 22).all (fun o => ((am_hK[o]?).getD []).all (am_kb o)) = true := by decide +kernel
end
section
/-! EVERY INSTRUCTION IS HELD AGAINST ITS BYTES (printed by wip/whole/gen13.py) -/
set_option maxRecDepth 100000 in
theorem am_c0 : (List.range' 0 10).all am_ckM = true := by decide +kernel
set_option maxRecDepth 100000 in
theorem am_c1 : (List.range' 10 10).all am_ckM = true := by decide +kernel
set_option maxRecDepth 100000 in
theorem am_c2 : (List.range' 20 10).all am_ckM = true := by decide +kernel
set_option maxRecDepth 100000 in
theorem am_c3 : (List.range' 30 10).all am_ckM = true := by decide +kernel
set_option maxRecDepth 100000 in
theorem am_c4 : (List.range' 40 10).all am_ckM = true := by decide +kernel
set_option maxRecDepth 100000 in
theorem am_c5 : (List.range' 50 10).all am_ckM = true := by decide +kernel
set_option maxRecDepth 100000 in
theorem am_c6 : (List.range' 60 10).all am_ckM = true := by decide +kernel
set_option maxRecDepth 100000 in
theorem am_c7 : (List.range' 70 10).all am_ckM = true := by decide +kernel
set_option maxRecDepth 100000 in
theorem am_c8 : (List.range' 80 10).all am_ckM = true := by decide +kernel
set_option maxRecDepth 100000 in
theorem am_c9 : (List.range' 90 10).all am_ckM = true := by decide +kernel
set_option maxRecDepth 100000 in
theorem am_c10 : (List.range' 100 10).all am_ckM = true := by decide +kernel
set_option maxRecDepth 100000 in
theorem am_c11 : (List.range' 110 10).all am_ckM = true := by decide +kernel
set_option maxRecDepth 100000 in
theorem am_c12 : (List.range' 120 10).all am_ckM = true := by decide +kernel
set_option maxRecDepth 100000 in
theorem am_c13 : (List.range' 130 10).all am_ckM = true := by decide +kernel
end
section
/-! EVERY INSTRUCTION IS HELD AGAINST ITS BYTES (printed by wip/whole/gen13.py) -/
set_option maxRecDepth 100000 in
theorem am_c14 : (List.range' 140 10).all am_ckM = true := by decide +kernel
set_option maxRecDepth 100000 in
theorem am_c15 : (List.range' 150 10).all am_ckM = true := by decide +kernel
set_option maxRecDepth 100000 in
theorem am_c16 : (List.range' 160 10).all am_ckM = true := by decide +kernel
set_option maxRecDepth 100000 in
theorem am_c17 : (List.range' 170 10).all am_ckM = true := by decide +kernel
set_option maxRecDepth 100000 in
theorem am_c18 : (List.range' 180 10).all am_ckM = true := by decide +kernel
set_option maxRecDepth 100000 in
theorem am_c19 : (List.range' 190 10).all am_ckM = true := by decide +kernel
set_option maxRecDepth 100000 in
theorem am_c20 : (List.range' 200 10).all am_ckM = true := by decide +kernel
set_option maxRecDepth 100000 in
theorem am_c21 : (List.range' 210 10).all am_ckM = true := by decide +kernel
set_option maxRecDepth 100000 in
theorem am_c22 : (List.range' 220 10).all am_ckM = true := by decide +kernel
set_option maxRecDepth 100000 in
theorem am_c23 : (List.range' 230 10).all am_ckM = true := by decide +kernel
set_option maxRecDepth 100000 in
theorem am_c24 : (List.range' 240 10).all am_ckM = true := by decide +kernel
set_option maxRecDepth 100000 in
theorem am_c25 : (List.range' 250 10).all am_ckM = true := by decide +kernel
set_option maxRecDepth 100000 in
theorem am_c26 : (List.range' 260 10).all am_ckM = true := by decide +kernel
set_option maxRecDepth 100000 in
theorem am_c27 : (List.range' 270 9).all am_ckM = true := by decide +kernel
end
section
/-! THE PROGRAM IS RIGHT (printed by wip/whole/gen13.py) -/
theorem am_cAll : ∀ M, M < 279 → am_ckM M = true := by
  intro M h
  have key : ∀ (a n : Nat), (List.range' a n).all am_ckM = true → a ≤ M → M < a + n → am_ckM M = true := fun a n q h1 h2 => List.all_eq_true.mp q M (List.mem_range'_1.mpr ⟨h1, h2⟩)
  by_cases h0 : M < 10
  · exact key 0 10 am_c0 (by omega) (by omega)
  by_cases h1 : M < 20
  · exact key 10 10 am_c1 (by omega) (by omega)
  by_cases h2 : M < 30
  · exact key 20 10 am_c2 (by omega) (by omega)
  by_cases h3 : M < 40
  · exact key 30 10 am_c3 (by omega) (by omega)
  by_cases h4 : M < 50
  · exact key 40 10 am_c4 (by omega) (by omega)
  by_cases h5 : M < 60
  · exact key 50 10 am_c5 (by omega) (by omega)
  by_cases h6 : M < 70
  · exact key 60 10 am_c6 (by omega) (by omega)
  by_cases h7 : M < 80
  · exact key 70 10 am_c7 (by omega) (by omega)
  by_cases h8 : M < 90
  · exact key 80 10 am_c8 (by omega) (by omega)
  by_cases h9 : M < 100
  · exact key 90 10 am_c9 (by omega) (by omega)
  by_cases h10 : M < 110
  · exact key 100 10 am_c10 (by omega) (by omega)
  by_cases h11 : M < 120
  · exact key 110 10 am_c11 (by omega) (by omega)
  by_cases h12 : M < 130
  · exact key 120 10 am_c12 (by omega) (by omega)
  by_cases h13 : M < 140
  · exact key 130 10 am_c13 (by omega) (by omega)
  by_cases h14 : M < 150
  · exact key 140 10 am_c14 (by omega) (by omega)
  by_cases h15 : M < 160
  · exact key 150 10 am_c15 (by omega) (by omega)
  by_cases h16 : M < 170
  · exact key 160 10 am_c16 (by omega) (by omega)
  by_cases h17 : M < 180
  · exact key 170 10 am_c17 (by omega) (by omega)
  by_cases h18 : M < 190
  · exact key 180 10 am_c18 (by omega) (by omega)
  by_cases h19 : M < 200
  · exact key 190 10 am_c19 (by omega) (by omega)
  by_cases h20 : M < 210
  · exact key 200 10 am_c20 (by omega) (by omega)
  by_cases h21 : M < 220
  · exact key 210 10 am_c21 (by omega) (by omega)
  by_cases h22 : M < 230
  · exact key 220 10 am_c22 (by omega) (by omega)
  by_cases h23 : M < 240
  · exact key 230 10 am_c23 (by omega) (by omega)
  by_cases h24 : M < 250
  · exact key 240 10 am_c24 (by omega) (by omega)
  by_cases h25 : M < 260
  · exact key 250 10 am_c25 (by omega) (by omega)
  by_cases h26 : M < 270
  · exact key 260 10 am_c26 (by omega) (by omega)
  by_cases h27 : M < 279
  · exact key 270 9 am_c27 (by omega) (by omega)
  exact absurd h (by omega)
theorem am_kD : ∀ q ∈ am_LD, Jvm.Cond.constant (am_nm q.1) q.2.1 q.2.2 ∈ am_Ts := List.forall_mem_cons.mpr ⟨am_iT_ok (q := (2, 162)) (by decide +kernel), List.forall_mem_cons.mpr ⟨am_iT_ok (q := (2, 98)) (by decide +kernel), List.forall_mem_cons.mpr ⟨am_iT_ok (q := (5, 138)) (by decide +kernel), List.forall_mem_cons.mpr ⟨am_iT_ok (q := (5, 139)) (by decide +kernel), fun _ h => nomatch h⟩⟩⟩⟩
theorem am_kN : ∀ q ∈ am_LN, ∃ C T N, am_cl[q.2.2]? = some (C, T, N) ∧ Jvm.Cond.classLink (am_nm q.1) q.2.1 C ∈ am_Ts ∧ Jvm.Cond.instantiable C N ∈ am_Ts ∧ Jvm.Cond.initialized C ∈ am_Ts := List.forall_mem_cons.mpr ⟨⟨_, _, _, rfl, am_iT_ok (q := (1, 35)) (by decide +kernel), am_iT_ok (q := (1, 36)) (by decide +kernel), am_iT_ok (q := (1, 2)) (by decide +kernel)⟩, List.forall_mem_cons.mpr ⟨⟨_, _, _, rfl, am_iT_ok (q := (1, 48)) (by decide +kernel), am_iT_ok (q := (1, 49)) (by decide +kernel), am_iT_ok (q := (1, 3)) (by decide +kernel)⟩, List.forall_mem_cons.mpr ⟨⟨_, _, _, rfl, am_iT_ok (q := (1, 81)) (by decide +kernel), am_iT_ok (q := (1, 82)) (by decide +kernel), am_iT_ok (q := (1, 5)) (by decide +kernel)⟩, List.forall_mem_cons.mpr ⟨⟨_, _, _, rfl, am_iT_ok (q := (1, 120)) (by decide +kernel), am_iT_ok (q := (1, 121)) (by decide +kernel), am_iT_ok (q := (1, 9)) (by decide +kernel)⟩, List.forall_mem_cons.mpr ⟨⟨_, _, _, rfl, am_iT_ok (q := (2, 56)) (by decide +kernel), am_iT_ok (q := (2, 57)) (by decide +kernel), am_iT_ok (q := (1, 13)) (by decide +kernel)⟩, List.forall_mem_cons.mpr ⟨⟨_, _, _, rfl, am_iT_ok (q := (1, 54)) (by decide +kernel), am_iT_ok (q := (1, 55)) (by decide +kernel), am_iT_ok (q := (1, 4)) (by decide +kernel)⟩, List.forall_mem_cons.mpr ⟨⟨_, _, _, rfl, am_iT_ok (q := (1, 87)) (by decide +kernel), am_iT_ok (q := (1, 88)) (by decide +kernel), am_iT_ok (q := (1, 8)) (by decide +kernel)⟩, List.forall_mem_cons.mpr ⟨⟨_, _, _, rfl, am_iT_ok (q := (2, 74)) (by decide +kernel), am_iT_ok (q := (1, 139)) (by decide +kernel), am_iT_ok (q := (1, 11)) (by decide +kernel)⟩, List.forall_mem_cons.mpr ⟨⟨_, _, _, rfl, am_iT_ok (q := (1, 126)) (by decide +kernel), am_iT_ok (q := (1, 55)) (by decide +kernel), am_iT_ok (q := (1, 4)) (by decide +kernel)⟩, List.forall_mem_cons.mpr ⟨⟨_, _, _, rfl, am_iT_ok (q := (1, 128)) (by decide +kernel), am_iT_ok (q := (1, 129)) (by decide +kernel), am_iT_ok (q := (1, 10)) (by decide +kernel)⟩, List.forall_mem_cons.mpr ⟨⟨_, _, _, rfl, am_iT_ok (q := (1, 134)) (by decide +kernel), am_iT_ok (q := (1, 88)) (by decide +kernel), am_iT_ok (q := (1, 8)) (by decide +kernel)⟩, List.forall_mem_cons.mpr ⟨⟨_, _, _, rfl, am_iT_ok (q := (1, 136)) (by decide +kernel), am_iT_ok (q := (1, 55)) (by decide +kernel), am_iT_ok (q := (1, 4)) (by decide +kernel)⟩, List.forall_mem_cons.mpr ⟨⟨_, _, _, rfl, am_iT_ok (q := (1, 138)) (by decide +kernel), am_iT_ok (q := (1, 139)) (by decide +kernel), am_iT_ok (q := (1, 11)) (by decide +kernel)⟩, List.forall_mem_cons.mpr ⟨⟨_, _, _, rfl, am_iT_ok (q := (1, 215)) (by decide +kernel), am_iT_ok (q := (1, 216)) (by decide +kernel), am_iT_ok (q := (1, 12)) (by decide +kernel)⟩, List.forall_mem_cons.mpr ⟨⟨_, _, _, rfl, am_iT_ok (q := (1, 144)) (by decide +kernel), am_iT_ok (q := (1, 55)) (by decide +kernel), am_iT_ok (q := (1, 4)) (by decide +kernel)⟩, List.forall_mem_cons.mpr ⟨⟨_, _, _, rfl, am_iT_ok (q := (1, 221)) (by decide +kernel), am_iT_ok (q := (1, 55)) (by decide +kernel), am_iT_ok (q := (1, 4)) (by decide +kernel)⟩, List.forall_mem_cons.mpr ⟨⟨_, _, _, rfl, am_iT_ok (q := (1, 27)) (by decide +kernel), am_iT_ok (q := (1, 28)) (by decide +kernel), am_iT_ok (q := (1, 1)) (by decide +kernel)⟩, List.forall_mem_cons.mpr ⟨⟨_, _, _, rfl, am_iT_ok (q := (5, 132)) (by decide +kernel), am_iT_ok (q := (5, 133)) (by decide +kernel), am_iT_ok (q := (1, 20)) (by decide +kernel)⟩, fun _ h => nomatch h⟩⟩⟩⟩⟩⟩⟩⟩⟩⟩⟩⟩⟩⟩⟩⟩⟩⟩
theorem am_kX : ∀ q ∈ am_LX, ∃ C T N, am_cl[q.2.2]? = some (C, T, N) ∧ Jvm.Cond.classLink (am_nm q.1) q.2.1 C ∈ am_Ts := List.forall_mem_cons.mpr ⟨⟨_, _, _, rfl, am_iT_ok (q := (2, 74)) (by decide +kernel)⟩, List.forall_mem_cons.mpr ⟨⟨_, _, _, rfl, am_iT_ok (q := (1, 138)) (by decide +kernel)⟩, fun _ h => nomatch h⟩⟩
theorem am_kO : ∀ q ∈ am_LO, Jvm.Cond.methodLink (am_nm q.1) q.2 Lib.objectInit ∈ am_Ts := List.forall_mem_cons.mpr ⟨am_iT_ok (q := (1, 32)) (by decide +kernel), List.forall_mem_cons.mpr ⟨am_iT_ok (q := (1, 40)) (by decide +kernel), List.forall_mem_cons.mpr ⟨am_iT_ok (q := (1, 53)) (by decide +kernel), List.forall_mem_cons.mpr ⟨am_iT_ok (q := (1, 59)) (by decide +kernel), List.forall_mem_cons.mpr ⟨am_iT_ok (q := (1, 86)) (by decide +kernel), List.forall_mem_cons.mpr ⟨am_iT_ok (q := (1, 98)) (by decide +kernel), List.forall_mem_cons.mpr ⟨am_iT_ok (q := (1, 125)) (by decide +kernel), List.forall_mem_cons.mpr ⟨am_iT_ok (q := (1, 133)) (by decide +kernel), List.forall_mem_cons.mpr ⟨am_iT_ok (q := (1, 143)) (by decide +kernel), List.forall_mem_cons.mpr ⟨am_iT_ok (q := (1, 220)) (by decide +kernel), List.forall_mem_cons.mpr ⟨am_iT_ok (q := (2, 61)) (by decide +kernel), List.forall_mem_cons.mpr ⟨am_iT_ok (q := (5, 137)) (by decide +kernel), fun _ h => nomatch h⟩⟩⟩⟩⟩⟩⟩⟩⟩⟩⟩⟩
theorem am_kXO : ∀ q ∈ am_LXO, Jvm.Cond.classLink (am_nm q.1) q.2 "java/lang/Object" ∈ am_Ts := List.forall_mem_cons.mpr ⟨am_iT_ok (q := (2, 135)) (by decide +kernel), List.forall_mem_cons.mpr ⟨am_iT_ok (q := (2, 127)) (by decide +kernel), fun _ h => nomatch h⟩⟩
theorem am_kAC : ∀ q ∈ am_LAC, Jvm.Cond.methodLink (am_nm q.1) q.2 arraycopyName ∈ am_Ts := List.forall_mem_cons.mpr ⟨am_iT_ok (q := (4, 25)) (by decide +kernel), List.forall_mem_cons.mpr ⟨am_iT_ok (q := (2, 131)) (by decide +kernel), fun _ h => nomatch h⟩⟩
theorem am_kGS : ∀ q ∈ am_LGS, Jvm.Cond.fieldLink (am_nm q.1) q.2 am_AL am_EE am_ED ∈ am_Ts := List.forall_mem_cons.mpr ⟨am_iT_ok (q := (1, 99)) (by decide +kernel), fun _ h => nomatch h⟩
theorem am_kGC : ∀ q ∈ am_LGC, Jvm.Cond.methodLink (am_nm q.1) q.2 am_gC ∈ am_Ts := List.forall_mem_cons.mpr ⟨am_iT_ok (q := (2, 105)) (by decide +kernel), fun _ h => nomatch h⟩
theorem am_kLM : ∀ q ∈ am_LLM, Jvm.Cond.classLink (am_nm q.1) q.2 am_ED ∈ am_Ts := List.forall_mem_cons.mpr ⟨am_iT_ok (q := (2, 125)) (by decide +kernel), fun _ h => nomatch h⟩
theorem am_LkAll : am_LkOk am_P0 am_YY am_cl am_Ts am_nm am_LL := by
  refine ⟨fun oc q hq => ?_, am_kD, am_kN, am_kX, am_kO, fun oc q hq => ?_, am_kXO, am_kAC, am_kGS, am_kGC, am_kLM⟩
  · have hq : q ∈ (am_LF[oc]?).getD [] := hq
    rw [am_hF_eq, List.getElem?_map] at hq
    cases hl : am_hF[oc]? with
    | none => rw [hl] at hq; cases hq
    | some l =>
      rw [hl] at hq
      simp only [Option.map_some, Option.getD_some] at hq
      obtain ⟨z, hz, rfl⟩ := List.mem_map.mp hq
      have hoc : oc < 22 := (List.getElem?_eq_some_iff.mp hl).1
      have h1 := List.all_eq_true.mp am_hF_ok oc (List.mem_range.mpr hoc)
      rw [hl] at h1
      exact am_fb_ok (List.all_eq_true.mp h1 z hz)
  · have hq : q ∈ (am_LKc[oc]?).getD [] := hq
    rw [am_hK_eq, List.getElem?_map] at hq
    cases hl : am_hK[oc]? with
    | none => rw [hl] at hq; cases hq
    | some l =>
      rw [hl] at hq
      simp only [Option.map_some, Option.getD_some] at hq
      obtain ⟨z, hz, rfl⟩ := List.mem_map.mp hq
      have hoc : oc < 22 := (List.getElem?_eq_some_iff.mp hl).1
      have h1 := List.all_eq_true.mp am_hK_ok oc (List.mem_range.mpr hoc)
      rw [hl] at h1
      exact am_kb_ok (List.all_eq_true.mp h1 z hz)
theorem am_Gl_ok : am_Gl am_Ts := ⟨am_iT_ok (q := (1, 67)) (by decide +kernel), am_iT_ok (q := (6, 132)) (by decide +kernel), am_iT_ok (q := (1, 33)) (by decide +kernel), am_iT_ok (q := (1, 34)) (by decide +kernel), am_iT_ok (q := (2, 126)) (by decide +kernel), am_iT_ok (q := (2, 133)) (by decide +kernel), am_iT_ok (q := (2, 132)) (by decide +kernel), am_iT_ok (q := (1, 17)) (by decide +kernel), am_iT_ok (q := (8, 67)) (by decide +kernel), am_iT_ok (q := (8, 66)) (by decide +kernel), am_iT_ok (q := (2, 106)) (by decide +kernel), am_iT_ok (q := (2, 121)) (by decide +kernel), am_iT_ok (q := (8, 75)) (by decide +kernel)⟩
def am_hT0 : List (Nat × Nat) := [(2, 179), (2, 181), (2, 183), (2, 185), (2, 187), (2, 189)]
def am_hT1 : List (Nat × Nat) := [(1, 43), (1, 45)]
def am_hT2 : List (Nat × Nat) := [(1, 72), (1, 74), (1, 76), (1, 78)]
def am_hT3 : List (Nat × Nat) := [(1, 62), (1, 64)]
def am_hT4 : List (Nat × Nat) := [(1, 115), (1, 117)]
def am_hT5 : List (Nat × Nat) := [(1, 106), (1, 108), (1, 110)]
def am_hT6 : List (Nat × Nat) := [(2, 39), (2, 41), (2, 43), (2, 45), (2, 47), (2, 49), (2, 51), (2, 53)]
def am_hT7 : List (Nat × Nat) := [(2, 10), (2, 12), (2, 14), (2, 16), (2, 18), (2, 20), (2, 22), (2, 24), (2, 26), (2, 28)]
def am_hT8 : List (Nat × Nat) := [(1, 188), (1, 190), (1, 192), (1, 194), (1, 196), (1, 198), (1, 200), (1, 202), (1, 204), (1, 206), (1, 208), (1, 210), (1, 212)]
def am_hT9 : List (Nat × Nat) := [(1, 228), (1, 230), (1, 232), (1, 234), (1, 236)]
def am_hT10 : List (Nat × Nat) := [(2, 63)]
def am_hT11 : List (Nat × Nat) := [(5, 217), (5, 219), (5, 221), (5, 223), (5, 225), (5, 227), (5, 229), (5, 231), (5, 233), (5, 235), (5, 237), (5, 239), (6, 1), (6, 3), (6, 5), (6, 7), (6, 9), (6, 11), (6, 13), (6, 15), (6, 17), (6, 19), (6, 21), (6, 23), (6, 25), (6, 27), (6, 29), (6, 31), (6, 33), (6, 35), (6, 37), (6, 39), (6, 41), (6, 43), (6, 45), (6, 47), (6, 49), (6, 51), (6, 53), (6, 55), (6, 57), (6, 59), (6, 61), (6, 63), (6, 65), (6, 67), (6, 69), (6, 71), (6, 73), (6, 75), (6, 77), (6, 79), (6, 81), (6, 83), (6, 85), (6, 87), (6, 89), (6, 91), (6, 93), (6, 95), (6, 97), (6, 99), (6, 101), (6, 103), (6, 105), (6, 107), (6, 109), (6, 111), (6, 113), (6, 115), (6, 117), (6, 119), (6, 121), (6, 123), (6, 125), (6, 127), (6, 129)]
def am_hTL : List (List (Nat × Nat)) := [am_hT0, am_hT1, am_hT2, am_hT3, am_hT4, am_hT5, am_hT6, am_hT7, am_hT8, am_hT9, am_hT10, am_hT11]
set_option maxRecDepth 100000 in
theorem am_ocB : (List.range 279).all (fun M => decide ((am_mt M).1.cls = am_nm (am_mt M).2.2.2.1)) = true := by decide +kernel
theorem am_ocAll : ∀ M, M < 279 → (am_YY M).1.cls = am_nm (am_mt M).2.2.2.1 := fun M h => of_decide_eq_true (List.all_eq_true.mp am_ocB M (List.mem_range.mpr h))
def am_tyv (T : u_T) (k : Nat) : FieldType := (parseFieldDescriptor (T k).2.2.1).getD .int
def am_cb (i : Nat) : Bool := match am_cl[i]?, am_hTL[i]? with
  | some c, some h => (List.range c.2.2).all (fun k => am_iT ((h[k]?).getD (0, 0)) (u_lay c.1 c.2.1 k) && (parseFieldDescriptor (c.2.1 k).2.2.1).isSome && decide (defaultValue (am_tyv c.2.1 k) = vp_V (am_nb i) k)) && decide ((am_nb i).length = c.2.2) && (List.range c.2.2).all (fun a => (List.range c.2.2).all (fun b => decide (a = b) || decide ((c.2.1 a).2.1 ≠ (c.2.1 b).2.1))) && (am_nb i).all (fun v => decide (v = .int 0) || decide (v = .null))
  | _, _ => false
set_option maxRecDepth 100000 in
theorem am_cb_all : (List.range 12).all am_cb = true := by decide +kernel
theorem am_C_ok : am_okC am_P0.2.1 am_cl am_Ts := by
  intro i C T N hcl
  have hi : i < 12 := (List.getElem?_eq_some_iff.mp hcl).1
  have h := List.all_eq_true.mp am_cb_all i (List.mem_range.mpr hi)
  unfold am_cb at h
  rw [hcl] at h
  split at h
  · rename_i c hh hc _
    cases hc
    simp only [Bool.and_eq_true, Bool.or_eq_true, decide_eq_true_eq, List.all_eq_true, List.mem_range] at h
    obtain ⟨⟨⟨h1, h2⟩, h3⟩, h4⟩ := h
    refine ⟨fun w hw => ?_, h2, fun a ha b hb hab => (h3 a ha b hb).resolve_left hab, fun v hv => h4 v hv, am_tyv T, fun k hk => ?_, fun j hj => (h1 j hj).2⟩
    · obtain ⟨k, hk, rfl⟩ := List.mem_map.mp hw
      exact am_iT_ok (h1 k (List.mem_range.mp hk)).1.1
    · have q := (h1 k hk).1.2
      obtain ⟨z, hz⟩ := Option.isSome_iff_exists.mp q
      unfold am_tyv
      rw [hz]
      rfl
  · cases h
set_option maxRecDepth 20000 in
theorem am_ML_len : am_ML.length = 279 := by decide +kernel
theorem am_at_mem {l : List (Nat × am_I)} {pc : Nat} {i : am_I} (h : am_at l pc = some i) : (pc, i) ∈ l := by
  induction l with
  | nil => cases h
  | cons q r ih =>
    obtain ⟨k, j⟩ := q
    unfold am_at at h
    split at h
    · rename_i hk; cases h; subst hk; exact List.mem_cons_self
    · exact List.mem_cons_of_mem _ (ih h)
theorem am_hok : ∀ M pc op a b c x nx tab, am_P0.1 M pc = some (op, a, b, c, x, nx, tab) → am_okI am_P0 am_YY am_cl am_Ts M pc op a b c x nx tab := by
  intro M pc op a b c x nx tab h
  have hM : M < 279 := by
    rcases Nat.lt_or_ge M 279 with q | q
    · exact q
    · have e : am_mt M = (⟨"", "", ""⟩, ByteArray.empty, none, 0, 0, []) := by
        unfold am_mt
        rw [List.getElem?_eq_none (by rw [am_ML_len]; exact q)]
        rfl
      have h' : am_at (am_mt M).2.2.2.2.2 pc = some (op, a, b, c, x, nx, tab) := h
      rw [e] at h'
      cases h'
  have h1 := List.all_eq_true.mp (am_cAll M hM) _ (am_at_mem h)
  refine am_ck_ok (oc := (am_mt M).2.2.2.1) (ini := decide ((am_mt M).1.name = "<init>")) am_LkAll am_Gl_ok ?_ (fun q => of_decide_eq_true q) h1
  exact am_ocAll M hM
end
section
/-! SOUNDNESS FOR THE PROGRAM (printed by wip/whole/gen13.py) -/
def am_thO : String := "ChunkCode$Faults"
/-- what lies outside the list: ArrayList's empty array, the Class object of Object[], the words of the throw -/
def am_Zz (em : Int64 → Nat) (sc : Nat × (Nat → Int32)) : (Nat → Prop) → State → Heap → Prop := fun A U H => va_Z am_AL am_EE am_ED (.ref (em 0)) A U H ∧ va_T (.object "java/lang/Object") (em 0) 0 (fun _ => .null) A U H ∧ va_Mi am_ED (em 1) U ∧ (va_X (em 2) sc.1 sc.2 U H ∧ ¬ A (em 2)) ∧ am_ZT am_thO 18 A U H
theorem am_Xk {b L : Nat} {xs : Nat → Int32} {A : Nat → Prop} {U : State} {H H1 : Heap} (h : va_X b L xs U H) (hb : ¬ A b) (hq : ∀ q : Nat, q < H.size → ¬ A q → H1[q]? = H[q]?) : va_X b L xs U H1 := by
  obtain ⟨scr, hs, -⟩ := id h
  exact h.kept (hq b (Array.getElem?_eq_some_iff.mp hs).1 hb)
theorem am_Zz_p {em : Int64 → Nat} {sc : Nat × (Nat → Int32)} : am_Zp (am_Zz em sc) :=
  ⟨fun _ _ _ _ h hq hz => ⟨h.1.kept hq, h.2.1.kept hq, h.2.2.1, ⟨am_Xk h.2.2.2.1.1 h.2.2.2.1.2 hq, h.2.2.2.1.2⟩, h.2.2.2.2.kept hq hz⟩, fun _ _ _ _ hW h => ⟨h.1.moved hW.alike, h.2.1.moved hW.alike, h.2.2.1.moved hW.alike, ⟨h.2.2.2.1.1.moved hW.alike, h.2.2.2.1.2⟩, h.2.2.2.2.moved hW⟩, fun _ _ _ _ hAB h => ⟨h.1.narrow hAB, h.2.1.narrow hAB, h.2.2.1, ⟨h.2.2.2.1.1, fun z => h.2.2.2.1.2 (hAB _ z)⟩, h.2.2.2.2.narrow hAB⟩⟩
theorem am_Zz_E {em : Int64 → Nat} {sc : Nat × (Nat → Int32)} : am_ZE em sc (am_Zz em sc) := fun _ _ h => ⟨h.1, h.2.1, h.2.2.1, h.2.2.2.1⟩
/-- the program, with the law's script -/
def am_PP (sc : Nat × (Nat → Int32)) : am_P := (am_P0.1, am_P0.2.1, am_P0.2.2.1, am_P0.2.2.2.1, sc)
set_option maxRecDepth 100000 in
theorem am_site : (List.range 279).all (fun M => (am_mt M).2.2.2.2.2.all (fun q => !(Nat.beq q.2.1 37) || (Nat.beq M 58 && Nat.beq q.1 10))) = true := by decide +kernel
theorem am_inM {M pc : Nat} {i : am_I} (h : am_P0.1 M pc = some i) : M < 279 ∧ (pc, i) ∈ (am_mt M).2.2.2.2.2 := by
  have hm : (pc, i) ∈ (am_mt M).2.2.2.2.2 := am_at_mem h
  refine ⟨?_, hm⟩
  rcases Nat.lt_or_ge M 279 with q | q
  · exact q
  · have e : am_mt M = (⟨"", "", ""⟩, ByteArray.empty, none, 0, 0, []) := by
      unfold am_mt
      rw [List.getElem?_eq_none (by rw [am_ML_len]; exact q)]
      rfl
    rw [e] at hm
    cases hm
theorem am_kC : Jvm.Cond.castable am_ise am_ise ∈ am_Ts := am_iT_ok (q := (3, 65)) (by decide +kernel)
theorem am_kI : Jvm.Cond.initialized am_ise ∈ am_Ts := am_iT_ok (q := (1, 25)) (by decide +kernel)
theorem am_kL : Jvm.Cond.classLink am_thO 16 am_ise ∈ am_Ts := am_iT_ok (q := (3, 63)) (by decide +kernel)
theorem am_th0 : decode (am_YY 58).2.1 10 = .ok (.new 16, 3) := by decide +kernel
theorem am_th3 : decode (am_YY 58).2.1 13 = .ok (.dup, 1) := by decide +kernel
theorem am_th4 : decode (am_YY 58).2.1 14 = .ok (.invokespecial 18, 3) := by decide +kernel
theorem am_th7 : decode (am_YY 58).2.1 17 = .ok (.athrow, 1) := by decide +kernel
theorem am_thh {sc : Nat × (Nat → Int32)} : (am_PP sc).2.2.2.1 58 (10 + 7) = none := show am_P0.2.2.2.1 58 17 = none by decide
theorem am_Thr_ok {em : Int64 → Nat} {sc : Nat × (Nat → Int32)} {l : Launch} (hl : l.stackTraces = false) : am_Thr (am_PP sc) am_YY am_Ts (am_Zz em sc) l := by
  intro M pc a b k x nx tab hi p e R s m args below meth c H locs cells slots d mc ms A lsA rest Qc act hS hZ hA hsz hd hcat hc hs hq
  obtain ⟨hM, hm⟩ := am_inM hi
  have h1 := List.all_eq_true.mp (List.all_eq_true.mp am_site M (List.mem_range.mpr hM)) _ hm
  have h2 : M = 58 ∧ pc = 10 := by
    simp only [show Nat.beq 37 37 = true from rfl, Bool.not_true, Bool.false_or, Bool.and_eq_true] at h1
    exact ⟨Nat.eq_of_beq_eq_true h1.1, Nat.eq_of_beq_eq_true h1.2⟩
  obtain ⟨rfl, rfl⟩ := h2
  obtain ⟨hx, hb, hml, hown, hts, hr, hlk, hnm, hRf, hRc, hRs, hRl, hexc, hhn⟩ := id act
  exact am_throw (own := am_thO) (ik := 16) (ic := 18) hx hb hl hown (hts _ am_kL) (hts _ am_kI) (am_Ts_ps _ am_kL) (am_Ts_ps _ am_kI) hZ.2.2.2.2 hS (hsz.trans hml.symm) am_th0 am_th3 am_th4 am_th7 (hexc _ am_thh) (by omega) (by omega) (by omega) (by omega) hlk hq hS.2.2 hc hs
/-- every run of the program is a run of the machine -/
theorem am_SND {em : Int64 → Nat} {sc : Nat × (Nat → Int32)} {D : va_G} {l : Launch} (hl : l.stackTraces = false) : ∀ n, am_Snd em (am_PP sc) am_YY D am_cl am_Ts (am_Zz em sc) l n :=
  am_snd am_hok am_C_ok am_Ts_ps am_Zz_p am_Zz_E (am_Thr_ok hl) am_kC
end
section
/-! WHAT DOES NOT READ THE SCRIPT RUNS ALIKE WITH EVERY SCRIPT -/
/-- a script that nobody may read -/
def am_n0 : Nat × (Nat → Int32) := (2049, fun _ => 0)
theorem am_do_sc {nb : Nat → List Value} {sc : Nat × (Nat → Int32)} {op a b c d nx : Nat} {x : Int32} {tab : List (Int32 × Nat)} {ls : am_V} {st : List Value} {S : am_S} {r : Nat × am_V × List Value × am_S} (h : am_do nb am_n0 op a b c x nx tab d ls st S = some r) : am_do nb sc op a b c x nx tab d ls st S = some r := by
  by_cases h24 : op = 24
  · subst h24
    simp only [am_do] at h ⊢
    split at h
    · exact h
    · split at h
      · rename_i hz
        rw [if_pos hz]
        exact h
      · split at h
        · rename_i hz
          exact absurd hz.2 (by decide)
        · cases h
    · cases h
  · by_cases h25 : op = 25
    · subst h25
      simp only [am_do] at h ⊢
      split at h
      · exact h
      · split at h
        · rename_i hz
          exact absurd hz.2.2.2.2 (by decide)
        · cases h
      · cases h
    · have e : am_do nb sc op a b c x nx tab d ls st S = am_do nb am_n0 op a b c x nx tab d ls st S := by
        unfold am_do
        split <;> first | rfl | exact absurd rfl h24 | exact absurd rfl h25
      rw [e]
      exact h
theorem am_run_sc {P P' : am_P} (e1 : P'.1 = P.1) (e2 : P'.2.1 = P.2.1) (e3 : P'.2.2.1 = P.2.2.1) (e4 : P'.2.2.2.1 = P.2.2.2.1) (e5 : P.2.2.2.2 = am_n0) : ∀ (n : Nat) (d M pc : Nat) (ls : am_V) (st : List Value) (S : am_S) (r : Option (Option Value) × am_S), am_run P n d M pc ls st S = some r → am_run P' n d M pc ls st S = some r := by
  intro n
  induction n with
  | zero => intro d M pc ls st S r h; simp [am_run] at h
  | succ n ih =>
    intro d M pc ls st S r h
    rw [am_run] at h
    rw [am_run, e1]
    cases hi : P.1 M pc with
    | none => rw [hi] at h; cases h
    | some i =>
      obtain ⟨op, a, b, c, x, nx, tab⟩ := i
      rw [hi] at h
      dsimp only at h ⊢
      rw [e5] at h
      by_cases h32 : op = 32
      · rw [if_pos h32] at h ⊢
        rw [e3]
        by_cases hb : b ≤ st.length ∧ st.length ≤ b + 8 ∧ b ≤ P.2.2.1 a ∧ am_recv c (st.take b).reverse S = true
        · rw [if_pos hb] at h ⊢
          cases d with
          | zero => cases h
          | succ d' =>
            dsimp only at h ⊢
            cases hc : am_run P n d' a 0 (am_in (st.take b).reverse (P.2.2.1 a)) [] S with
            | none => rw [hc] at h; cases h
            | some q =>
              rw [hc] at h
              rw [ih _ _ _ _ _ _ _ hc]
              obtain ⟨o, S'⟩ := q
              cases o with
              | some v => exact ih _ _ _ _ _ _ _ h
              | none =>
                dsimp only at h ⊢
                rw [e4]
                cases hh : P.2.2.2.1 M pc with
                | none => rw [hh] at h; exact h
                | some q => rw [hh] at h; exact ih _ _ _ _ _ _ _ h
        · rw [if_neg hb] at h; cases h
      · rw [if_neg h32] at h ⊢
        by_cases h37 : op = 37
        · rw [if_pos h37] at h ⊢; exact h
        · rw [if_neg h37] at h ⊢
          by_cases h33 : 33 ≤ op ∧ op ≤ 36
          · rw [if_pos h33] at h ⊢; exact h
          · rw [if_neg h33] at h ⊢
            cases hd : am_do P.2.1 am_n0 op a b c x nx tab d ls st S with
            | none => rw [hd] at h; cases h
            | some q =>
              rw [hd] at h
              rw [e2, am_do_sc hd]
              exact ih _ _ _ _ _ _ _ h
/-- the program with the script that nobody may read -/
def am_X0 : am_P := am_PP am_n0
theorem am_R_sc {sc : Nat × (Nat → Int32)} {d M pc : Nat} {ls : am_V} {st : List Value} {S S' : am_S} {o : Option (Option Value)} (h : am_R am_X0 d M pc ls st S o S') : am_R (am_PP sc) d M pc ls st S o S' := by
  obtain ⟨n, h⟩ := h
  exact ⟨n, am_run_sc rfl rfl rfl rfl rfl _ _ _ _ _ _ _ _ h⟩
end
section
/-! THE LAW'S START AND END (lw_P, lw_Q, lw_Z, lw_At begin as the skeleton has them) -/
def R_law : String := "ChunkCodeLaw"
def lw_P (b : Addr) (xs : List Int32) (args : Array Value) (s : State) : Prop := args = #[.ref b] ∧ s.IntsAt b xs ∧ xs.length ≤ 4 ∧ (Jvm.Cond.and given_1 narrow_1).before args s = true
def lw_Q (_ : Array Value) (s : State) (o : Outcome) (t : State) : Prop := o = .returned (some (.int 1)) ∧ Framed s o t [] 60002 8922232
def lw_Z (below : List Frame) (a : Array Value) (s : State) : State → Prop := fun t => ∃ o, t.status = .running ∧ Ended t below o ∧ lw_Q a s o t
def lw_At (p : Program) (s : State) (m : MethodId) (meth : Method) (c : Code) (b L : Nat) (xs : Nat → Int32) : Prop :=
  p.tables.exec = Jvm.exec ∧ c.code = code ∧ meth.sig.returnType = ret ∧ c.maxLocals = 4 ∧ s.vm.findClass R_law = some m.cls ∧ (∀ w ∈ lw_tbl, w.before #[Value.ref b] s = true) ∧ va_X b L xs s s.heap ∧ b < s.heap.size ∧ meth.locks = false ∧ (Jvm.Cond.and given_1 narrow_1).before #[Value.ref b] s = true
/-- what more the soundness asks: no handlers, the method's name -/
def am_At (p : Program) (s : State) (m : MethodId) (meth : Method) (c : Code) (b L : Nat) (xs : Nat → Int32) : Prop := lw_At p s m meth c b L xs ∧ c.exceptionTable.toList = [] ∧ meth.name = "law"
/-- a static that nobody writes stays laid, and stays a reference -/
theorem am_stK {C n d : String} {A : Nat → Prop} {s s' : State} {args a' : Array Value} (hl : (Cond.laysStatic C n d).before args s = true) (hr : (Cond.isRef (.static C n d)).before args s = true) (hA : ∀ a : Nat, a < s.heap.size → ¬ A a) (hW : s.WarmedH s'.vm) (hq : ∀ q : Nat, q < s.heap.size → ¬ A q → s'.heap[q]? = s.heap[q]?) :
    (Cond.laysStatic C n d).before a' s' = true ∧ (Cond.isRef (.static C n d)).before a' s' = true := by
  obtain ⟨c, k, i, f, a, cell, hc, hf, hst, ha, hcell, hiss, hcls, hlt, hty⟩ := Cond.laysStatic_spec hl
  have halt := (Array.getElem?_eq_some_iff.mp hcell).1
  have hcell' : s'.heap[a]? = some cell := by rw [hq a halt (hA a halt)]; exact hcell
  obtain ⟨k', hf', he⟩ := State.fieldFound?_setVm hW.alike hf
  have hc' : s'.vm.findClass C = some c := by rw [hW.alike.findClass]; exact hc
  have hf'' : s'.fieldFound? C n d = some (c, k', i, f) := hf'
  have ha' : k'.statics = some a := by rw [he]; exact ha
  have hty' : k'.staticTypes[f.slot]? = some f.type := by rw [he]; exact hty
  refine ⟨by simp [Cond.before, Cond.holds, Cond.value, hc', hf'', hst, ha', hcell', hiss, hcls, hlt, hty'], ?_⟩
  obtain ⟨v, hv⟩ : ∃ v, (Term.static C n d).eval args s none [] s = some v := by
    cases hv : (Term.static C n d).eval args s none [] s with
    | none => simp [Cond.before, Cond.holds, Cond.value, hv] at hr
    | some v => exact ⟨v, rfl⟩
  obtain ⟨-, a2, cell2, ha2, hcell2, -, hslot⟩ := Term.static_spec hf hv
  cases ha.symm.trans ha2
  cases hcell.symm.trans hcell2
  have he' : (Term.static C n d).eval a' s' none [] s' = some v := by
    simp [Term.eval, State.fieldNamed?, hf'', hst, ha', hcell', hiss, hslot]
  simp only [Cond.before, Cond.holds, Cond.value, hv] at hr
  simp only [Cond.before, Cond.holds, Cond.value, he']
  exact hr
def am_tS : String := "java/lang/Throwable"
def am_four : List Jvm.Cond := [.laysStatic am_tS "UNASSIGNED_STACK" "[Ljava/lang/StackTraceElement;", .laysStatic am_tS "SUPPRESSED_SENTINEL" "Ljava/util/List;", .isRef (.static am_tS "UNASSIGNED_STACK" "[Ljava/lang/StackTraceElement;"), .isRef (.static am_tS "SUPPRESSED_SENTINEL" "Ljava/util/List;")]
def am_thq (w : Jvm.Cond) : Bool := am_gk w && (List.range 9).any fun k => decide (w ∈ am_tk k)
theorem am_thq_ok {w : Jvm.Cond} (h : am_thq w = true) : w ∈ am_Ts := by
  unfold am_thq at h
  simp only [Bool.and_eq_true, List.any_eq_true, decide_eq_true_eq] at h
  obtain ⟨hg, k, -, hk⟩ := h
  obtain ⟨i, hi⟩ := List.getElem?_of_mem hk
  exact am_iT_ok (q := (k, i)) (by unfold am_iT; simp only [hi, hg, decide_true, Bool.and_self])
set_option maxRecDepth 100000 in
theorem am_thall : (am_thw am_thO 18).all (fun w => am_thq w || decide (w ∈ am_four)) = true := by decide +kernel
theorem am_ZT_of {args : Array Value} {s : State} {A : Nat → Prop} (hts : ∀ w ∈ lw_tbl, w.before args s = true) (h1 : (Cond.isRef (.static am_tS "UNASSIGNED_STACK" "[Ljava/lang/StackTraceElement;")).before args s = true) (h2 : (Cond.isRef (.static am_tS "SUPPRESSED_SENTINEL" "Ljava/util/List;")).before args s = true)
    (hA : ∀ a : Nat, a < s.heap.size → ¬ A a) : am_ZT am_thO 18 A s s.heap := by
  intro s' a' hW hz hq w hw
  have h := List.all_eq_true.mp am_thall w hw
  simp only [Bool.or_eq_true, decide_eq_true_eq] at h
  rcases h with h | h
  · have hm : w ∈ am_Ts := am_thq_ok h
    exact am_Ts_ps w hm s s' args a' hW (hts w (List.mem_filter.mp hm).1)
  · have k1 := am_stK (a' := a') (hts (.laysStatic am_tS "UNASSIGNED_STACK" "[Ljava/lang/StackTraceElement;") (by decide +kernel)) h1 hA hW hq
    have k2 := am_stK (a' := a') (hts (.laysStatic am_tS "SUPPRESSED_SENTINEL" "Ljava/util/List;") (by decide +kernel)) h2 hA hW hq
    simp only [am_four, List.mem_cons, List.not_mem_nil, or_false] at h
    rcases h with rfl | rfl | rfl | rfl
    · exact k1.1
    · exact k2.1
    · exact k1.2
    · exact k2.2
set_option maxRecDepth 100000 in
theorem am_inst : (List.range am_cl.length).all (fun k => match am_cl[k]? with
  | some q => decide (Jvm.Cond.instantiable q.1 q.2.2 ∈ lw_tbl)
  | none => true) = true := by decide +kernel
/-- the classes as the tables have them -/
theorem am_known {args : Array Value} {s : State} (c0 : ClassId) (hts : ∀ w ∈ lw_tbl, w.before args s = true) : ∃ D : va_G, va_K D am_cl [] s := by
  have h : ∀ k : Nat, ∃ q : ClassId × (Nat → Nat), ∀ r : vw_C, am_cl[k]? = some r → u_Kn s r.1 r.2.1 r.2.2 q.1 q.2 := by
    intro k
    cases hk : am_cl[k]? with
    | none => exact ⟨(c0, fun _ => 0), fun r hr => nomatch hr⟩
    | some r =>
      obtain ⟨C, T, N⟩ := r
      have hlt : k < am_cl.length := (List.getElem?_eq_some_iff.mp hk).1
      have hi := List.all_eq_true.mp am_inst k (List.mem_range.mpr hlt)
      rw [hk] at hi
      simp only [decide_eq_true_eq] at hi
      obtain ⟨cC, iS, hKn⟩ := u_known (ws := lw_tbl) (C := C) (T := T) (N := N) (n := N) hts (fun w hw => (List.mem_filter.mp ((am_C_ok k C T N hk).1 w hw)).1) (hts _ hi)
      exact ⟨(cC, iS), fun r hr => by cases hr; exact hKn⟩
  obtain ⟨f, hf⟩ := Classical.axiomOfChoice h
  exact ⟨(fun k => (f k).1, fun k => (f k).2), fun k q hq => hf k q hq, fun k q hq => nomatch hq⟩
section AM9
variable {p : Program} {l : Launch} {e : Env} {R R' : Room} {s : State} {m : MethodId} {args : Array Value} {below : List Frame} {meth : Method} {c : Code} {H : Heap} {locs : List Loc} {cells slots : Nat} {Q Q' : State → Prop} {g : JFrame}
/-- less room will do, and a weaker end -/
theorem am_roomy (h1 : R'.frames ≤ R.frames) (h2 : R'.locals ≤ R.locals) (h3 : R'.cells ≤ R.cells) (h4 : R'.slots ≤ R.slots) (hQ : ∀ t, Q' t → Q t) (k : W p l e R' s m args below meth c H locs cells slots Q' g) : W p l e R s m args below meth c H locs cells slots Q g := by
  intro T hT X
  have hroom : s.hasRoom e.platform R' = true := by
    have h := X.room
    simp only [State.hasRoom, Bool.and_eq_true, decide_eq_true_eq] at h ⊢
    obtain ⟨⟨⟨⟨a1, a2, a3, a4, a5, a6⟩, a7⟩, a8⟩, a9⟩ := h
    exact ⟨⟨⟨⟨by omega, by omega, by omega, by omega, by omega, a6⟩, by omega⟩, by omega⟩, a9⟩
  obtain ⟨t, a, b⟩ := k T hT ⟨X.admits, X.cas, X.clock, X.frames, hroom, X.hears, X.method, X.code, X.here, X.tail, X.warmed, X.limits, X.bytes, X.same⟩
  exact ⟨t, a, hQ t b⟩
end AM9
set_option maxHeartbeats 1000000 in
/-- the claim's walk out of a run of the program -/
theorem am_start {p : Program} {e : Env} {s : State} {m : MethodId} {below : List Frame} {meth : Method} {c : Code} (l : Launch) {b L : Nat} {xs : Nat → Int32} (hl : l.stackTraces = false) (C0 : am_At p s m meth c b L xs) {n d : Nat} {S' : am_S}
    (hrun : am_run (am_PP (L, xs)) n d 278 0 (am_in [.long 2] 4) [] ([], 0, 0) = some (some (some (.int 1)), S')) (hd : d ≤ 2048) (hc : S'.2.1 ≤ 60002) (hz : S'.2.2 ≤ 8922232) :
    W p l e room_1 s m #[Value.ref b] below meth c s.heap [] 0 0 (lw_Z below #[Value.ref b] s) (entryFrame m ([Value.ref b] : List Value).toArray 4) := by
  obtain ⟨⟨hx, hb, hr, hml, hown, hts, hX, hbl, hlocks, hgv⟩, htab, hname⟩ := C0
  have hgs := flat_of_before _ hgv
  have hA : ∀ q : Nat, q < s.heap.size → ¬ (fun q : Nat => s.heap.size ≤ q) q := fun q h => Nat.not_le.mpr h
  have hee : (Term.length (.static am_AL am_EE am_ED)).eval #[Value.ref b] s none [] s = some (.int (Int32.ofNat 0)) := va_eqt (hgs (.eq (.length (.static am_AL am_EE am_ED)) (.int 0)) (by decide +kernel))
  obtain ⟨t0, ht0, hT0⟩ := va_Tof (tm := .static am_AL am_EE am_ED) (ty := .object "java/lang/Object") (N := 0) (f := fun _ => .null) (by decide) (hgs (.arrayOf (.static am_AL am_EE am_ED) (.object "java/lang/Object")) (by decide +kernel)) hee (fun j hj => absurd hj (Nat.not_lt_zero j)) hA
  have hZ0 := va_Zref (hts (.laysStatic am_AL am_EE am_ED) (by decide +kernel)) (hts (.initialized am_AL) (by decide +kernel)) ht0 hA
  obtain ⟨mi, hMi⟩ := va_Mi.of (hgs (.isRef (.mirror am_ED)) (by decide +kernel))
  have hZT := am_ZT_of hts (hgs (.isRef (.static am_tS "UNASSIGNED_STACK" "[Ljava/lang/StackTraceElement;")) (by decide +kernel)) (hgs (.isRef (.static am_tS "SUPPRESSED_SENTINEL" "Ljava/util/List;")) (by decide +kernel)) hA
  obtain ⟨D, hK⟩ := am_known m.cls hts
  obtain ⟨em, rfl, rfl, rfl⟩ : ∃ em : Int64 → Nat, em 0 = t0 ∧ em 1 = mi ∧ em 2 = b := ⟨fun z => if z = 0 then t0 else if z = 1 then mi else b, rfl, rfl, rfl⟩
  have hZz : am_Zz em (L, xs) (fun q : Nat => s.heap.size ≤ q) s s.heap := ⟨hZ0, hT0, hMi, ⟨hX, hA _ hbl⟩, hZT⟩
  have hent := am_entry (em := em) (ad := fun _ => 0) (n := 0) (nL := 4) (as := [.long 2]) (fun w hw => by rw [List.mem_singleton.mp hw]; trivial) (by decide)
  have act : am_Act (am_PP (L, xs)) am_YY am_Ts p { frames := d, cells := S'.2.1, slots := S'.2.2, locals := 41 * d } s m #[Value.ref (em 2)] meth c 278 d S'.2.1 S'.2.2 :=
    ⟨hx, hb, hml, hown, fun w hw => hts w (List.mem_filter.mp hw).1, hr, hlocks, hname, rfl, rfl, rfl, rfl, (fun pc _ x hx => by rw [htab] at hx; cases hx), fun pc h j hh => by
      have h9 : (am_PP (L, xs)).2.2.2.1 278 pc = none := am_hd0 (M := 278) (by decide) pc
      rw [h9] at hh; cases hh⟩
  have K := am_SND (em := em) (sc := (L, xs)) (D := D) hl n d 278 0 (am_in [.long 2] 4) [] ([], 0, 0) _ S' hrun p e _ s m #[Value.ref (em 2)] below meth c s.heap [] 0 0 S'.2.1 S'.2.2 0 0 0 (fun q : Nat => s.heap.size ≤ q) (fun _ => 0) (fun _ => 0) (fun _ => m.cls) [] _ act
    ⟨⟨fun k q hk => nomatch hk, ⟨fun i j p q hi => nomatch hi, fun k q hk => nomatch hk⟩, hK, fun k c hk => nomatch hk, fun k c hk => nomatch hk⟩, va_S.rf, hZz, hent.1, hent.2, (fun v hv => nomatch hv), rfl, rfl⟩ (fun q h => h) (Nat.zero_add _) (Nat.zero_add _) (Nat.le_refl _) (fun _ _ => rfl)
  rw [lg_entry_eq]
  refine am_roomy (R' := { frames := d, cells := S'.2.1, slots := S'.2.2, locals := 41 * d }) hd (by show 41 * d ≤ 84000; omega) hc hz (fun t ht => ?_) K
  obtain ⟨o, h1, h2, ⟨⟨ad, ca, tys, -, -, h3, -⟩, -⟩, Lc, ⟨h5, h6⟩, h7⟩ := ht
  refine ⟨o, h1, h2, h3, ⟨_, h3⟩, h5, h6.weaken (fun y hy hlt => absurd hlt (Nat.not_lt.mpr (h7 y hy))) hc hz⟩
end
