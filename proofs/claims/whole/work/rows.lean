section
-- ===== PART A: goes FIRST, ahead of the names: the tables' words, and 'selects' of the private methods out of them =====
/-- a private method of a class that the tables say can be made, by its rows of tables_1 -/
def lw_okq (q : MethodName × Nat) : Prop := (q.1.cls ≠ "java/lang/invoke/MethodHandle" ∧ q.1.cls ≠ "java/lang/invoke/VarHandle") ∧ Cond.instantiable q.1.cls q.2 ∈ tables_1 ∧ Cond.privateMethod q.1 ∈ tables_1 ∧ Cond.instanceMethod q.1 ∈ tables_1
theorem lw_p0 : lw_okq (⟨"java/util/ArrayList", "add", "(Ljava/lang/Object;[Ljava/lang/Object;I)V"⟩, 3) := ⟨⟨by decide +kernel, by decide +kernel⟩, List.mem_of_getElem? (i := 88) (by decide +kernel), List.mem_of_getElem? (i := 321) (by decide +kernel), List.mem_of_getElem? (i := 322) (by decide +kernel)⟩
theorem lw_p1 : lw_okq (⟨"java/util/ArrayList", "grow", "()[Ljava/lang/Object;"⟩, 3) := ⟨⟨by decide +kernel, by decide +kernel⟩, List.mem_of_getElem? (i := 88) (by decide +kernel), List.mem_of_getElem? (i := 325) (by decide +kernel), List.mem_of_getElem? (i := 326) (by decide +kernel)⟩
theorem lw_p2 : lw_okq (⟨"java/util/ArrayList", "grow", "(I)[Ljava/lang/Object;"⟩, 3) := ⟨⟨by decide +kernel, by decide +kernel⟩, List.mem_of_getElem? (i := 88) (by decide +kernel), List.mem_of_getElem? (i := 329) (by decide +kernel), List.mem_of_getElem? (i := 330) (by decide +kernel)⟩
theorem lw_p3 : lw_okq (⟨"ChunkCode$Reader", "block", "()V"⟩, 8) := ⟨⟨by decide +kernel, by decide +kernel⟩, List.mem_of_getElem? (i := 121) (by decide +kernel), List.mem_of_getElem? (i := 518) (by decide +kernel), List.mem_of_getElem? (i := 519) (by decide +kernel)⟩
theorem lw_p4 : lw_okq (⟨"java/lang/Throwable", "fillInStackTrace", "(I)Ljava/lang/Throwable;"⟩, 6) := ⟨⟨by decide +kernel, by decide +kernel⟩, List.mem_of_getElem? (i := 580) (by decide +kernel), List.mem_of_getElem? (i := 578) (by decide +kernel), List.mem_of_getElem? (i := 579) (by decide +kernel)⟩
theorem lw_p5 : lw_okq (⟨"ChunkCode$Reader", "assignOrCall", "()V"⟩, 8) := ⟨⟨by decide +kernel, by decide +kernel⟩, List.mem_of_getElem? (i := 121) (by decide +kernel), List.mem_of_getElem? (i := 605) (by decide +kernel), List.mem_of_getElem? (i := 606) (by decide +kernel)⟩
theorem lw_p6 : lw_okq (⟨"ChunkCode$Reader", "prefix", "()I"⟩, 8) := ⟨⟨by decide +kernel, by decide +kernel⟩, List.mem_of_getElem? (i := 121) (by decide +kernel), List.mem_of_getElem? (i := 609) (by decide +kernel), List.mem_of_getElem? (i := 610) (by decide +kernel)⟩
theorem lw_p7 : lw_okq (⟨"ChunkCode$Reader", "head", "()I"⟩, 8) := ⟨⟨by decide +kernel, by decide +kernel⟩, List.mem_of_getElem? (i := 121) (by decide +kernel), List.mem_of_getElem? (i := 613) (by decide +kernel), List.mem_of_getElem? (i := 614) (by decide +kernel)⟩
theorem lw_p8 : lw_okq (⟨"ChunkCode$Reader", "nameAlone", "()I"⟩, 8) := ⟨⟨by decide +kernel, by decide +kernel⟩, List.mem_of_getElem? (i := 121) (by decide +kernel), List.mem_of_getElem? (i := 617) (by decide +kernel), List.mem_of_getElem? (i := 618) (by decide +kernel)⟩
theorem lw_p9 : lw_okq (⟨"ChunkCode$Scope", "visibleLocal", "(I)I"⟩, 10) := ⟨⟨by decide +kernel, by decide +kernel⟩, List.mem_of_getElem? (i := 129) (by decide +kernel), List.mem_of_getElem? (i := 638) (by decide +kernel), List.mem_of_getElem? (i := 639) (by decide +kernel)⟩
theorem lw_p10 : lw_okq (⟨"ChunkCode$Scope", "bringIn", "(I)I"⟩, 10) := ⟨⟨by decide +kernel, by decide +kernel⟩, List.mem_of_getElem? (i := 129) (by decide +kernel), List.mem_of_getElem? (i := 643) (by decide +kernel), List.mem_of_getElem? (i := 644) (by decide +kernel)⟩
theorem lw_p11 : lw_okq (⟨"ChunkCode$Reader", "expression", "()V"⟩, 8) := ⟨⟨by decide +kernel, by decide +kernel⟩, List.mem_of_getElem? (i := 121) (by decide +kernel), List.mem_of_getElem? (i := 656) (by decide +kernel), List.mem_of_getElem? (i := 657) (by decide +kernel)⟩
theorem lw_p12 : lw_okq (⟨"ChunkCode$Reader", "unaryOperators", "()V"⟩, 8) := ⟨⟨by decide +kernel, by decide +kernel⟩, List.mem_of_getElem? (i := 121) (by decide +kernel), List.mem_of_getElem? (i := 661) (by decide +kernel), List.mem_of_getElem? (i := 662) (by decide +kernel)⟩
theorem lw_p13 : lw_okq (⟨"ChunkCode$Reader", "functionBody", "(IZ)V"⟩, 8) := ⟨⟨by decide +kernel, by decide +kernel⟩, List.mem_of_getElem? (i := 121) (by decide +kernel), List.mem_of_getElem? (i := 669) (by decide +kernel), List.mem_of_getElem? (i := 670) (by decide +kernel)⟩
theorem lw_p14 : lw_okq (⟨"ChunkCode$Reader", "bodyNames", "(LChunkCode$Body;)V"⟩, 8) := ⟨⟨by decide +kernel, by decide +kernel⟩, List.mem_of_getElem? (i := 121) (by decide +kernel), List.mem_of_getElem? (i := 686) (by decide +kernel), List.mem_of_getElem? (i := 687) (by decide +kernel)⟩
theorem lw_p15 : lw_okq (⟨"ChunkCode$Reader", "emit", "(IIII)I"⟩, 8) := ⟨⟨by decide +kernel, by decide +kernel⟩, List.mem_of_getElem? (i := 121) (by decide +kernel), List.mem_of_getElem? (i := 691) (by decide +kernel), List.mem_of_getElem? (i := 692) (by decide +kernel)⟩
def lw_privs_1 : List (MethodName × Nat) := [(⟨"java/util/ArrayList", "add", "(Ljava/lang/Object;[Ljava/lang/Object;I)V"⟩, 3), (⟨"java/util/ArrayList", "grow", "()[Ljava/lang/Object;"⟩, 3), (⟨"java/util/ArrayList", "grow", "(I)[Ljava/lang/Object;"⟩, 3), (⟨"ChunkCode$Reader", "block", "()V"⟩, 8), (⟨"java/lang/Throwable", "fillInStackTrace", "(I)Ljava/lang/Throwable;"⟩, 6), (⟨"ChunkCode$Reader", "assignOrCall", "()V"⟩, 8), (⟨"ChunkCode$Reader", "prefix", "()I"⟩, 8), (⟨"ChunkCode$Reader", "head", "()I"⟩, 8), (⟨"ChunkCode$Reader", "nameAlone", "()I"⟩, 8), (⟨"ChunkCode$Scope", "visibleLocal", "(I)I"⟩, 10), (⟨"ChunkCode$Scope", "bringIn", "(I)I"⟩, 10), (⟨"ChunkCode$Reader", "expression", "()V"⟩, 8), (⟨"ChunkCode$Reader", "unaryOperators", "()V"⟩, 8), (⟨"ChunkCode$Reader", "functionBody", "(IZ)V"⟩, 8), (⟨"ChunkCode$Reader", "bodyNames", "(LChunkCode$Body;)V"⟩, 8), (⟨"ChunkCode$Reader", "emit", "(IIII)I"⟩, 8)]
theorem lw_r1 : ∀ q ∈ lw_privs_1, lw_okq q := List.forall_mem_cons.mpr ⟨lw_p0, List.forall_mem_cons.mpr ⟨lw_p1, List.forall_mem_cons.mpr ⟨lw_p2, List.forall_mem_cons.mpr ⟨lw_p3, List.forall_mem_cons.mpr ⟨lw_p4, List.forall_mem_cons.mpr ⟨lw_p5, List.forall_mem_cons.mpr ⟨lw_p6, List.forall_mem_cons.mpr ⟨lw_p7, List.forall_mem_cons.mpr ⟨lw_p8, List.forall_mem_cons.mpr ⟨lw_p9, List.forall_mem_cons.mpr ⟨lw_p10, List.forall_mem_cons.mpr ⟨lw_p11, List.forall_mem_cons.mpr ⟨lw_p12, List.forall_mem_cons.mpr ⟨lw_p13, List.forall_mem_cons.mpr ⟨lw_p14, List.forall_mem_cons.mpr ⟨lw_p15, fun _ h => absurd h List.not_mem_nil⟩⟩⟩⟩⟩⟩⟩⟩⟩⟩⟩⟩⟩⟩⟩⟩
theorem lw_p16 : lw_okq (⟨"ChunkCode$Jumps", "lead", "(LChunkCode$Body;II)V"⟩, 5) := ⟨⟨by decide +kernel, by decide +kernel⟩, List.mem_of_getElem? (i := 216) (by decide +kernel), List.mem_of_getElem? (i := 720) (by decide +kernel), List.mem_of_getElem? (i := 721) (by decide +kernel)⟩
theorem lw_p17 : lw_okq (⟨"ChunkCode$Jumps", "keep", "(III)V"⟩, 5) := ⟨⟨by decide +kernel, by decide +kernel⟩, List.mem_of_getElem? (i := 216) (by decide +kernel), List.mem_of_getElem? (i := 729) (by decide +kernel), List.mem_of_getElem? (i := 730) (by decide +kernel)⟩
theorem lw_p18 : lw_okq (⟨"java/util/ArrayList", "fastRemove", "([Ljava/lang/Object;I)V"⟩, 3) := ⟨⟨by decide +kernel, by decide +kernel⟩, List.mem_of_getElem? (i := 88) (by decide +kernel), List.mem_of_getElem? (i := 742) (by decide +kernel), List.mem_of_getElem? (i := 743) (by decide +kernel)⟩
theorem lw_p19 : lw_okq (⟨"ChunkCode$Reader", "table", "()V"⟩, 8) := ⟨⟨by decide +kernel, by decide +kernel⟩, List.mem_of_getElem? (i := 121) (by decide +kernel), List.mem_of_getElem? (i := 747) (by decide +kernel), List.mem_of_getElem? (i := 748) (by decide +kernel)⟩
theorem lw_p20 : lw_okq (⟨"ChunkCode$Reader", "field", "(I)I"⟩, 8) := ⟨⟨by decide +kernel, by decide +kernel⟩, List.mem_of_getElem? (i := 121) (by decide +kernel), List.mem_of_getElem? (i := 751) (by decide +kernel), List.mem_of_getElem? (i := 752) (by decide +kernel)⟩
theorem lw_p21 : lw_okq (⟨"ChunkCode$Reader", "tableEnds", "()Z"⟩, 8) := ⟨⟨by decide +kernel, by decide +kernel⟩, List.mem_of_getElem? (i := 121) (by decide +kernel), List.mem_of_getElem? (i := 759) (by decide +kernel), List.mem_of_getElem? (i := 760) (by decide +kernel)⟩
theorem lw_p22 : lw_okq (⟨"ChunkCode$Reader", "widen", "()V"⟩, 8) := ⟨⟨by decide +kernel, by decide +kernel⟩, List.mem_of_getElem? (i := 121) (by decide +kernel), List.mem_of_getElem? (i := 766) (by decide +kernel), List.mem_of_getElem? (i := 767) (by decide +kernel)⟩
theorem lw_p23 : lw_okq (⟨"ChunkCode$Reader", "lastOp", "()I"⟩, 8) := ⟨⟨by decide +kernel, by decide +kernel⟩, List.mem_of_getElem? (i := 121) (by decide +kernel), List.mem_of_getElem? (i := 770) (by decide +kernel), List.mem_of_getElem? (i := 771) (by decide +kernel)⟩
theorem lw_p24 : lw_okq (⟨"ChunkCode$Reader", "here", "()I"⟩, 8) := ⟨⟨by decide +kernel, by decide +kernel⟩, List.mem_of_getElem? (i := 121) (by decide +kernel), List.mem_of_getElem? (i := 774) (by decide +kernel), List.mem_of_getElem? (i := 775) (by decide +kernel)⟩
theorem lw_p25 : lw_okq (⟨"ChunkCode$Reader", "keepCallFlags", "(II)V"⟩, 8) := ⟨⟨by decide +kernel, by decide +kernel⟩, List.mem_of_getElem? (i := 121) (by decide +kernel), List.mem_of_getElem? (i := 780) (by decide +kernel), List.mem_of_getElem? (i := 781) (by decide +kernel)⟩
theorem lw_p26 : lw_okq (⟨"ChunkCode$Reader", "settle", "(I)V"⟩, 8) := ⟨⟨by decide +kernel, by decide +kernel⟩, List.mem_of_getElem? (i := 121) (by decide +kernel), List.mem_of_getElem? (i := 784) (by decide +kernel), List.mem_of_getElem? (i := 785) (by decide +kernel)⟩
theorem lw_p27 : lw_okq (⟨"ChunkCode$Reader", "literal", "()Z"⟩, 8) := ⟨⟨by decide +kernel, by decide +kernel⟩, List.mem_of_getElem? (i := 121) (by decide +kernel), List.mem_of_getElem? (i := 796) (by decide +kernel), List.mem_of_getElem? (i := 797) (by decide +kernel)⟩
theorem lw_p28 : lw_okq (⟨"ChunkCode$Reader", "binaryOperator", "(I)Z"⟩, 8) := ⟨⟨by decide +kernel, by decide +kernel⟩, List.mem_of_getElem? (i := 121) (by decide +kernel), List.mem_of_getElem? (i := 806) (by decide +kernel), List.mem_of_getElem? (i := 807) (by decide +kernel)⟩
theorem lw_p29 : lw_okq (⟨"ChunkCode$Reader", "reduce", "(II)V"⟩, 8) := ⟨⟨by decide +kernel, by decide +kernel⟩, List.mem_of_getElem? (i := 121) (by decide +kernel), List.mem_of_getElem? (i := 816) (by decide +kernel), List.mem_of_getElem? (i := 817) (by decide +kernel)⟩
theorem lw_p30 : lw_okq (⟨"ChunkCode$Reader", "fieldStep", "()I"⟩, 8) := ⟨⟨by decide +kernel, by decide +kernel⟩, List.mem_of_getElem? (i := 121) (by decide +kernel), List.mem_of_getElem? (i := 825) (by decide +kernel), List.mem_of_getElem? (i := 826) (by decide +kernel)⟩
theorem lw_p31 : lw_okq (⟨"ChunkCode$Reader", "arguments", "(I)V"⟩, 8) := ⟨⟨by decide +kernel, by decide +kernel⟩, List.mem_of_getElem? (i := 121) (by decide +kernel), List.mem_of_getElem? (i := 829) (by decide +kernel), List.mem_of_getElem? (i := 830) (by decide +kernel)⟩
def lw_privs_2 : List (MethodName × Nat) := [(⟨"ChunkCode$Jumps", "lead", "(LChunkCode$Body;II)V"⟩, 5), (⟨"ChunkCode$Jumps", "keep", "(III)V"⟩, 5), (⟨"java/util/ArrayList", "fastRemove", "([Ljava/lang/Object;I)V"⟩, 3), (⟨"ChunkCode$Reader", "table", "()V"⟩, 8), (⟨"ChunkCode$Reader", "field", "(I)I"⟩, 8), (⟨"ChunkCode$Reader", "tableEnds", "()Z"⟩, 8), (⟨"ChunkCode$Reader", "widen", "()V"⟩, 8), (⟨"ChunkCode$Reader", "lastOp", "()I"⟩, 8), (⟨"ChunkCode$Reader", "here", "()I"⟩, 8), (⟨"ChunkCode$Reader", "keepCallFlags", "(II)V"⟩, 8), (⟨"ChunkCode$Reader", "settle", "(I)V"⟩, 8), (⟨"ChunkCode$Reader", "literal", "()Z"⟩, 8), (⟨"ChunkCode$Reader", "binaryOperator", "(I)Z"⟩, 8), (⟨"ChunkCode$Reader", "reduce", "(II)V"⟩, 8), (⟨"ChunkCode$Reader", "fieldStep", "()I"⟩, 8), (⟨"ChunkCode$Reader", "arguments", "(I)V"⟩, 8)]
theorem lw_r2 : ∀ q ∈ lw_privs_2, lw_okq q := List.forall_mem_cons.mpr ⟨lw_p16, List.forall_mem_cons.mpr ⟨lw_p17, List.forall_mem_cons.mpr ⟨lw_p18, List.forall_mem_cons.mpr ⟨lw_p19, List.forall_mem_cons.mpr ⟨lw_p20, List.forall_mem_cons.mpr ⟨lw_p21, List.forall_mem_cons.mpr ⟨lw_p22, List.forall_mem_cons.mpr ⟨lw_p23, List.forall_mem_cons.mpr ⟨lw_p24, List.forall_mem_cons.mpr ⟨lw_p25, List.forall_mem_cons.mpr ⟨lw_p26, List.forall_mem_cons.mpr ⟨lw_p27, List.forall_mem_cons.mpr ⟨lw_p28, List.forall_mem_cons.mpr ⟨lw_p29, List.forall_mem_cons.mpr ⟨lw_p30, List.forall_mem_cons.mpr ⟨lw_p31, fun _ h => absurd h List.not_mem_nil⟩⟩⟩⟩⟩⟩⟩⟩⟩⟩⟩⟩⟩⟩⟩⟩
theorem lw_p32 : lw_okq (⟨"ChunkCode$Reader", "list", "()I"⟩, 8) := ⟨⟨by decide +kernel, by decide +kernel⟩, List.mem_of_getElem? (i := 121) (by decide +kernel), List.mem_of_getElem? (i := 833) (by decide +kernel), List.mem_of_getElem? (i := 834) (by decide +kernel)⟩
theorem lw_p33 : lw_okq (⟨"ChunkCode$Reader", "addTarget", "(I)V"⟩, 8) := ⟨⟨by decide +kernel, by decide +kernel⟩, List.mem_of_getElem? (i := 121) (by decide +kernel), List.mem_of_getElem? (i := 837) (by decide +kernel), List.mem_of_getElem? (i := 838) (by decide +kernel)⟩
theorem lw_p34 : lw_okq (⟨"ChunkCode$Reader", "refuseConstant", "(I)V"⟩, 8) := ⟨⟨by decide +kernel, by decide +kernel⟩, List.mem_of_getElem? (i := 121) (by decide +kernel), List.mem_of_getElem? (i := 841) (by decide +kernel), List.mem_of_getElem? (i := 842) (by decide +kernel)⟩
theorem lw_p35 : lw_okq (⟨"ChunkCode$Reader", "fit", "(II)V"⟩, 8) := ⟨⟨by decide +kernel, by decide +kernel⟩, List.mem_of_getElem? (i := 121) (by decide +kernel), List.mem_of_getElem? (i := 852) (by decide +kernel), List.mem_of_getElem? (i := 853) (by decide +kernel)⟩
theorem lw_p36 : lw_okq (⟨"ChunkCode$Reader", "storeTargets", "(I)V"⟩, 8) := ⟨⟨by decide +kernel, by decide +kernel⟩, List.mem_of_getElem? (i := 121) (by decide +kernel), List.mem_of_getElem? (i := 856) (by decide +kernel), List.mem_of_getElem? (i := 857) (by decide +kernel)⟩
theorem lw_p37 : lw_okq (⟨"ChunkCode$Reader", "label", "()V"⟩, 8) := ⟨⟨by decide +kernel, by decide +kernel⟩, List.mem_of_getElem? (i := 121) (by decide +kernel), List.mem_of_getElem? (i := 860) (by decide +kernel), List.mem_of_getElem? (i := 861) (by decide +kernel)⟩
theorem lw_p38 : lw_okq (⟨"ChunkCode$Reader", "breakLoop", "()V"⟩, 8) := ⟨⟨by decide +kernel, by decide +kernel⟩, List.mem_of_getElem? (i := 121) (by decide +kernel), List.mem_of_getElem? (i := 878) (by decide +kernel), List.mem_of_getElem? (i := 879) (by decide +kernel)⟩
theorem lw_p39 : lw_okq (⟨"ChunkCode$Reader", "goTo", "()V"⟩, 8) := ⟨⟨by decide +kernel, by decide +kernel⟩, List.mem_of_getElem? (i := 121) (by decide +kernel), List.mem_of_getElem? (i := 891) (by decide +kernel), List.mem_of_getElem? (i := 892) (by decide +kernel)⟩
theorem lw_p40 : lw_okq (⟨"ChunkCode$Reader", "innerBlock", "()V"⟩, 8) := ⟨⟨by decide +kernel, by decide +kernel⟩, List.mem_of_getElem? (i := 121) (by decide +kernel), List.mem_of_getElem? (i := 899) (by decide +kernel), List.mem_of_getElem? (i := 900) (by decide +kernel)⟩
theorem lw_p41 : lw_okq (⟨"ChunkCode$Reader", "whileLoop", "()V"⟩, 8) := ⟨⟨by decide +kernel, by decide +kernel⟩, List.mem_of_getElem? (i := 121) (by decide +kernel), List.mem_of_getElem? (i := 910) (by decide +kernel), List.mem_of_getElem? (i := 911) (by decide +kernel)⟩
theorem lw_p42 : lw_okq (⟨"ChunkCode$Reader", "repeatLoop", "()V"⟩, 8) := ⟨⟨by decide +kernel, by decide +kernel⟩, List.mem_of_getElem? (i := 121) (by decide +kernel), List.mem_of_getElem? (i := 923) (by decide +kernel), List.mem_of_getElem? (i := 924) (by decide +kernel)⟩
theorem lw_p43 : lw_okq (⟨"ChunkCode$Reader", "choice", "()V"⟩, 8) := ⟨⟨by decide +kernel, by decide +kernel⟩, List.mem_of_getElem? (i := 121) (by decide +kernel), List.mem_of_getElem? (i := 927) (by decide +kernel), List.mem_of_getElem? (i := 928) (by decide +kernel)⟩
theorem lw_p44 : lw_okq (⟨"ChunkCode$Reader", "condition", "()I"⟩, 8) := ⟨⟨by decide +kernel, by decide +kernel⟩, List.mem_of_getElem? (i := 121) (by decide +kernel), List.mem_of_getElem? (i := 931) (by decide +kernel), List.mem_of_getElem? (i := 932) (by decide +kernel)⟩
theorem lw_p45 : lw_okq (⟨"ChunkCode$Reader", "nextPart", "(II)I"⟩, 8) := ⟨⟨by decide +kernel, by decide +kernel⟩, List.mem_of_getElem? (i := 121) (by decide +kernel), List.mem_of_getElem? (i := 935) (by decide +kernel), List.mem_of_getElem? (i := 936) (by decide +kernel)⟩
theorem lw_p46 : lw_okq (⟨"ChunkCode$Reader", "leadChainHere", "(I)V"⟩, 8) := ⟨⟨by decide +kernel, by decide +kernel⟩, List.mem_of_getElem? (i := 121) (by decide +kernel), List.mem_of_getElem? (i := 939) (by decide +kernel), List.mem_of_getElem? (i := 940) (by decide +kernel)⟩
theorem lw_p47 : lw_okq (⟨"ChunkCode$Reader", "numberLoop", "()V"⟩, 8) := ⟨⟨by decide +kernel, by decide +kernel⟩, List.mem_of_getElem? (i := 121) (by decide +kernel), List.mem_of_getElem? (i := 943) (by decide +kernel), List.mem_of_getElem? (i := 944) (by decide +kernel)⟩
def lw_privs_3 : List (MethodName × Nat) := [(⟨"ChunkCode$Reader", "list", "()I"⟩, 8), (⟨"ChunkCode$Reader", "addTarget", "(I)V"⟩, 8), (⟨"ChunkCode$Reader", "refuseConstant", "(I)V"⟩, 8), (⟨"ChunkCode$Reader", "fit", "(II)V"⟩, 8), (⟨"ChunkCode$Reader", "storeTargets", "(I)V"⟩, 8), (⟨"ChunkCode$Reader", "label", "()V"⟩, 8), (⟨"ChunkCode$Reader", "breakLoop", "()V"⟩, 8), (⟨"ChunkCode$Reader", "goTo", "()V"⟩, 8), (⟨"ChunkCode$Reader", "innerBlock", "()V"⟩, 8), (⟨"ChunkCode$Reader", "whileLoop", "()V"⟩, 8), (⟨"ChunkCode$Reader", "repeatLoop", "()V"⟩, 8), (⟨"ChunkCode$Reader", "choice", "()V"⟩, 8), (⟨"ChunkCode$Reader", "condition", "()I"⟩, 8), (⟨"ChunkCode$Reader", "nextPart", "(II)I"⟩, 8), (⟨"ChunkCode$Reader", "leadChainHere", "(I)V"⟩, 8), (⟨"ChunkCode$Reader", "numberLoop", "()V"⟩, 8)]
theorem lw_r3 : ∀ q ∈ lw_privs_3, lw_okq q := List.forall_mem_cons.mpr ⟨lw_p32, List.forall_mem_cons.mpr ⟨lw_p33, List.forall_mem_cons.mpr ⟨lw_p34, List.forall_mem_cons.mpr ⟨lw_p35, List.forall_mem_cons.mpr ⟨lw_p36, List.forall_mem_cons.mpr ⟨lw_p37, List.forall_mem_cons.mpr ⟨lw_p38, List.forall_mem_cons.mpr ⟨lw_p39, List.forall_mem_cons.mpr ⟨lw_p40, List.forall_mem_cons.mpr ⟨lw_p41, List.forall_mem_cons.mpr ⟨lw_p42, List.forall_mem_cons.mpr ⟨lw_p43, List.forall_mem_cons.mpr ⟨lw_p44, List.forall_mem_cons.mpr ⟨lw_p45, List.forall_mem_cons.mpr ⟨lw_p46, List.forall_mem_cons.mpr ⟨lw_p47, fun _ h => absurd h List.not_mem_nil⟩⟩⟩⟩⟩⟩⟩⟩⟩⟩⟩⟩⟩⟩⟩⟩
theorem lw_p48 : lw_okq (⟨"ChunkCode$Reader", "numberLoopValues", "()V"⟩, 8) := ⟨⟨by decide +kernel, by decide +kernel⟩, List.mem_of_getElem? (i := 121) (by decide +kernel), List.mem_of_getElem? (i := 947) (by decide +kernel), List.mem_of_getElem? (i := 948) (by decide +kernel)⟩
theorem lw_p49 : lw_okq (⟨"ChunkCode$Reader", "openHidden", "(III)I"⟩, 8) := ⟨⟨by decide +kernel, by decide +kernel⟩, List.mem_of_getElem? (i := 121) (by decide +kernel), List.mem_of_getElem? (i := 951) (by decide +kernel), List.mem_of_getElem? (i := 952) (by decide +kernel)⟩
theorem lw_p50 : lw_okq (⟨"ChunkCode$Reader", "loopBlock", "(II)V"⟩, 8) := ⟨⟨by decide +kernel, by decide +kernel⟩, List.mem_of_getElem? (i := 121) (by decide +kernel), List.mem_of_getElem? (i := 960) (by decide +kernel), List.mem_of_getElem? (i := 961) (by decide +kernel)⟩
theorem lw_p51 : lw_okq (⟨"ChunkCode$Reader", "closeHidden", "()V"⟩, 8) := ⟨⟨by decide +kernel, by decide +kernel⟩, List.mem_of_getElem? (i := 121) (by decide +kernel), List.mem_of_getElem? (i := 964) (by decide +kernel), List.mem_of_getElem? (i := 965) (by decide +kernel)⟩
theorem lw_p52 : lw_okq (⟨"ChunkCode$Reader", "listLoop", "()V"⟩, 8) := ⟨⟨by decide +kernel, by decide +kernel⟩, List.mem_of_getElem? (i := 121) (by decide +kernel), List.mem_of_getElem? (i := 968) (by decide +kernel), List.mem_of_getElem? (i := 969) (by decide +kernel)⟩
theorem lw_p53 : lw_okq (⟨"ChunkCode$Reader", "functionStatement", "()V"⟩, 8) := ⟨⟨by decide +kernel, by decide +kernel⟩, List.mem_of_getElem? (i := 121) (by decide +kernel), List.mem_of_getElem? (i := 972) (by decide +kernel), List.mem_of_getElem? (i := 973) (by decide +kernel)⟩
theorem lw_p54 : lw_okq (⟨"ChunkCode$Reader", "localFunction", "()V"⟩, 8) := ⟨⟨by decide +kernel, by decide +kernel⟩, List.mem_of_getElem? (i := 121) (by decide +kernel), List.mem_of_getElem? (i := 976) (by decide +kernel), List.mem_of_getElem? (i := 977) (by decide +kernel)⟩
theorem lw_p55 : lw_okq (⟨"ChunkCode$Reader", "localNames", "()V"⟩, 8) := ⟨⟨by decide +kernel, by decide +kernel⟩, List.mem_of_getElem? (i := 121) (by decide +kernel), List.mem_of_getElem? (i := 980) (by decide +kernel), List.mem_of_getElem? (i := 981) (by decide +kernel)⟩
theorem lw_p56 : lw_okq (⟨"ChunkCode$Reader", "attribute", "(Z)Z"⟩, 8) := ⟨⟨by decide +kernel, by decide +kernel⟩, List.mem_of_getElem? (i := 121) (by decide +kernel), List.mem_of_getElem? (i := 984) (by decide +kernel), List.mem_of_getElem? (i := 985) (by decide +kernel)⟩
theorem lw_p57 : lw_okq (⟨"ChunkCode$Reader", "returnValues", "()V"⟩, 8) := ⟨⟨by decide +kernel, by decide +kernel⟩, List.mem_of_getElem? (i := 121) (by decide +kernel), List.mem_of_getElem? (i := 992) (by decide +kernel), List.mem_of_getElem? (i := 993) (by decide +kernel)⟩
theorem lw_p58 : lw_okq (⟨"ChunkCode$Audit", "flawedOf", "(LChunkCode$Body;)I"⟩, 1) := ⟨⟨by decide +kernel, by decide +kernel⟩, List.mem_of_getElem? (i := 297) (by decide +kernel), List.mem_of_getElem? (i := 1074) (by decide +kernel), List.mem_of_getElem? (i := 1075) (by decide +kernel)⟩
theorem lw_p59 : lw_okq (⟨"ChunkCode$Audit", "meansNothing", "(LChunkCode$Body;I)Z"⟩, 1) := ⟨⟨by decide +kernel, by decide +kernel⟩, List.mem_of_getElem? (i := 297) (by decide +kernel), List.mem_of_getElem? (i := 1081) (by decide +kernel), List.mem_of_getElem? (i := 1082) (by decide +kernel)⟩
theorem lw_p60 : lw_okq (⟨"ChunkCode$Audit", "isNotIn", "(LChunkCode$Body;I)Z"⟩, 1) := ⟨⟨by decide +kernel, by decide +kernel⟩, List.mem_of_getElem? (i := 297) (by decide +kernel), List.mem_of_getElem? (i := 1089) (by decide +kernel), List.mem_of_getElem? (i := 1090) (by decide +kernel)⟩
theorem lw_p61 : lw_okq (⟨"ChunkCodeModel", "begin", "()V"⟩, 77) := ⟨⟨by decide +kernel, by decide +kernel⟩, List.mem_of_getElem? (i := 1093) (by decide +kernel), List.mem_of_getElem? (i := 1342) (by decide +kernel), List.mem_of_getElem? (i := 1343) (by decide +kernel)⟩
theorem lw_p62 : lw_okq (⟨"ChunkCodeModel", "beginBlock", "(Z)V"⟩, 77) := ⟨⟨by decide +kernel, by decide +kernel⟩, List.mem_of_getElem? (i := 1093) (by decide +kernel), List.mem_of_getElem? (i := 1346) (by decide +kernel), List.mem_of_getElem? (i := 1347) (by decide +kernel)⟩
theorem lw_p63 : lw_okq (⟨"ChunkCodeModel", "expectBlock", "()V"⟩, 77) := ⟨⟨by decide +kernel, by decide +kernel⟩, List.mem_of_getElem? (i := 1093) (by decide +kernel), List.mem_of_getElem? (i := 1350) (by decide +kernel), List.mem_of_getElem? (i := 1351) (by decide +kernel)⟩
def lw_privs_4 : List (MethodName × Nat) := [(⟨"ChunkCode$Reader", "numberLoopValues", "()V"⟩, 8), (⟨"ChunkCode$Reader", "openHidden", "(III)I"⟩, 8), (⟨"ChunkCode$Reader", "loopBlock", "(II)V"⟩, 8), (⟨"ChunkCode$Reader", "closeHidden", "()V"⟩, 8), (⟨"ChunkCode$Reader", "listLoop", "()V"⟩, 8), (⟨"ChunkCode$Reader", "functionStatement", "()V"⟩, 8), (⟨"ChunkCode$Reader", "localFunction", "()V"⟩, 8), (⟨"ChunkCode$Reader", "localNames", "()V"⟩, 8), (⟨"ChunkCode$Reader", "attribute", "(Z)Z"⟩, 8), (⟨"ChunkCode$Reader", "returnValues", "()V"⟩, 8), (⟨"ChunkCode$Audit", "flawedOf", "(LChunkCode$Body;)I"⟩, 1), (⟨"ChunkCode$Audit", "meansNothing", "(LChunkCode$Body;I)Z"⟩, 1), (⟨"ChunkCode$Audit", "isNotIn", "(LChunkCode$Body;I)Z"⟩, 1), (⟨"ChunkCodeModel", "begin", "()V"⟩, 77), (⟨"ChunkCodeModel", "beginBlock", "(Z)V"⟩, 77), (⟨"ChunkCodeModel", "expectBlock", "()V"⟩, 77)]
theorem lw_r4 : ∀ q ∈ lw_privs_4, lw_okq q := List.forall_mem_cons.mpr ⟨lw_p48, List.forall_mem_cons.mpr ⟨lw_p49, List.forall_mem_cons.mpr ⟨lw_p50, List.forall_mem_cons.mpr ⟨lw_p51, List.forall_mem_cons.mpr ⟨lw_p52, List.forall_mem_cons.mpr ⟨lw_p53, List.forall_mem_cons.mpr ⟨lw_p54, List.forall_mem_cons.mpr ⟨lw_p55, List.forall_mem_cons.mpr ⟨lw_p56, List.forall_mem_cons.mpr ⟨lw_p57, List.forall_mem_cons.mpr ⟨lw_p58, List.forall_mem_cons.mpr ⟨lw_p59, List.forall_mem_cons.mpr ⟨lw_p60, List.forall_mem_cons.mpr ⟨lw_p61, List.forall_mem_cons.mpr ⟨lw_p62, List.forall_mem_cons.mpr ⟨lw_p63, fun _ h => absurd h List.not_mem_nil⟩⟩⟩⟩⟩⟩⟩⟩⟩⟩⟩⟩⟩⟩⟩⟩
theorem lw_p64 : lw_okq (⟨"ChunkCodeModel", "pile", "(IIII)V"⟩, 77) := ⟨⟨by decide +kernel, by decide +kernel⟩, List.mem_of_getElem? (i := 1093) (by decide +kernel), List.mem_of_getElem? (i := 1354) (by decide +kernel), List.mem_of_getElem? (i := 1355) (by decide +kernel)⟩
theorem lw_p65 : lw_okq (⟨"ChunkCodeModel", "run", "(IIII)V"⟩, 77) := ⟨⟨by decide +kernel, by decide +kernel⟩, List.mem_of_getElem? (i := 1093) (by decide +kernel), List.mem_of_getElem? (i := 1358) (by decide +kernel), List.mem_of_getElem? (i := 1359) (by decide +kernel)⟩
theorem lw_p66 : lw_okq (⟨"ChunkCodeModel", "runValue", "(III)V"⟩, 77) := ⟨⟨by decide +kernel, by decide +kernel⟩, List.mem_of_getElem? (i := 1093) (by decide +kernel), List.mem_of_getElem? (i := 1362) (by decide +kernel), List.mem_of_getElem? (i := 1363) (by decide +kernel)⟩
theorem lw_p67 : lw_okq (⟨"ChunkCodeModel", "expression", "(I)V"⟩, 77) := ⟨⟨by decide +kernel, by decide +kernel⟩, List.mem_of_getElem? (i := 1093) (by decide +kernel), List.mem_of_getElem? (i := 1366) (by decide +kernel), List.mem_of_getElem? (i := 1367) (by decide +kernel)⟩
theorem lw_p68 : lw_okq (⟨"ChunkCodeModel", "next", "()I"⟩, 77) := ⟨⟨by decide +kernel, by decide +kernel⟩, List.mem_of_getElem? (i := 1093) (by decide +kernel), List.mem_of_getElem? (i := 1370) (by decide +kernel), List.mem_of_getElem? (i := 1371) (by decide +kernel)⟩
theorem lw_p69 : lw_okq (⟨"ChunkCodeModel", "kindAt", "(I)I"⟩, 77) := ⟨⟨by decide +kernel, by decide +kernel⟩, List.mem_of_getElem? (i := 1093) (by decide +kernel), List.mem_of_getElem? (i := 1374) (by decide +kernel), List.mem_of_getElem? (i := 1375) (by decide +kernel)⟩
theorem lw_p70 : lw_okq (⟨"ChunkCodeModel", "expect", "(I)V"⟩, 77) := ⟨⟨by decide +kernel, by decide +kernel⟩, List.mem_of_getElem? (i := 1093) (by decide +kernel), List.mem_of_getElem? (i := 1381) (by decide +kernel), List.mem_of_getElem? (i := 1382) (by decide +kernel)⟩
theorem lw_p71 : lw_okq (⟨"ChunkCodeModel", "simple", "(I)V"⟩, 77) := ⟨⟨by decide +kernel, by decide +kernel⟩, List.mem_of_getElem? (i := 1093) (by decide +kernel), List.mem_of_getElem? (i := 1385) (by decide +kernel), List.mem_of_getElem? (i := 1386) (by decide +kernel)⟩
theorem lw_p72 : lw_okq (⟨"ChunkCodeModel", "constant", "(II)V"⟩, 77) := ⟨⟨by decide +kernel, by decide +kernel⟩, List.mem_of_getElem? (i := 1093) (by decide +kernel), List.mem_of_getElem? (i := 1389) (by decide +kernel), List.mem_of_getElem? (i := 1390) (by decide +kernel)⟩
theorem lw_p73 : lw_okq (⟨"ChunkCodeModel", "put", "(IIII)I"⟩, 77) := ⟨⟨by decide +kernel, by decide +kernel⟩, List.mem_of_getElem? (i := 1093) (by decide +kernel), List.mem_of_getElem? (i := 1393) (by decide +kernel), List.mem_of_getElem? (i := 1394) (by decide +kernel)⟩
theorem lw_p74 : lw_okq (⟨"ChunkCodeModel", "value", "(III)V"⟩, 77) := ⟨⟨by decide +kernel, by decide +kernel⟩, List.mem_of_getElem? (i := 1093) (by decide +kernel), List.mem_of_getElem? (i := 1397) (by decide +kernel), List.mem_of_getElem? (i := 1398) (by decide +kernel)⟩
theorem lw_p75 : lw_okq (⟨"ChunkCodeModel", "failName", "(II)V"⟩, 77) := ⟨⟨by decide +kernel, by decide +kernel⟩, List.mem_of_getElem? (i := 1093) (by decide +kernel), List.mem_of_getElem? (i := 1401) (by decide +kernel), List.mem_of_getElem? (i := 1402) (by decide +kernel)⟩
theorem lw_p76 : lw_okq (⟨"ChunkCodeModel", "table", "()V"⟩, 77) := ⟨⟨by decide +kernel, by decide +kernel⟩, List.mem_of_getElem? (i := 1093) (by decide +kernel), List.mem_of_getElem? (i := 1405) (by decide +kernel), List.mem_of_getElem? (i := 1406) (by decide +kernel)⟩
theorem lw_p77 : lw_okq (⟨"ChunkCodeModel", "enter", "(I)Z"⟩, 77) := ⟨⟨by decide +kernel, by decide +kernel⟩, List.mem_of_getElem? (i := 1093) (by decide +kernel), List.mem_of_getElem? (i := 1409) (by decide +kernel), List.mem_of_getElem? (i := 1410) (by decide +kernel)⟩
theorem lw_p78 : lw_okq (⟨"ChunkCodeModel", "fail", "(I)Z"⟩, 77) := ⟨⟨by decide +kernel, by decide +kernel⟩, List.mem_of_getElem? (i := 1093) (by decide +kernel), List.mem_of_getElem? (i := 1413) (by decide +kernel), List.mem_of_getElem? (i := 1414) (by decide +kernel)⟩
theorem lw_p79 : lw_okq (⟨"ChunkCodeModel", "body", "(ZI)V"⟩, 77) := ⟨⟨by decide +kernel, by decide +kernel⟩, List.mem_of_getElem? (i := 1093) (by decide +kernel), List.mem_of_getElem? (i := 1417) (by decide +kernel), List.mem_of_getElem? (i := 1418) (by decide +kernel)⟩
def lw_privs_5 : List (MethodName × Nat) := [(⟨"ChunkCodeModel", "pile", "(IIII)V"⟩, 77), (⟨"ChunkCodeModel", "run", "(IIII)V"⟩, 77), (⟨"ChunkCodeModel", "runValue", "(III)V"⟩, 77), (⟨"ChunkCodeModel", "expression", "(I)V"⟩, 77), (⟨"ChunkCodeModel", "next", "()I"⟩, 77), (⟨"ChunkCodeModel", "kindAt", "(I)I"⟩, 77), (⟨"ChunkCodeModel", "expect", "(I)V"⟩, 77), (⟨"ChunkCodeModel", "simple", "(I)V"⟩, 77), (⟨"ChunkCodeModel", "constant", "(II)V"⟩, 77), (⟨"ChunkCodeModel", "put", "(IIII)I"⟩, 77), (⟨"ChunkCodeModel", "value", "(III)V"⟩, 77), (⟨"ChunkCodeModel", "failName", "(II)V"⟩, 77), (⟨"ChunkCodeModel", "table", "()V"⟩, 77), (⟨"ChunkCodeModel", "enter", "(I)Z"⟩, 77), (⟨"ChunkCodeModel", "fail", "(I)Z"⟩, 77), (⟨"ChunkCodeModel", "body", "(ZI)V"⟩, 77)]
theorem lw_r5 : ∀ q ∈ lw_privs_5, lw_okq q := List.forall_mem_cons.mpr ⟨lw_p64, List.forall_mem_cons.mpr ⟨lw_p65, List.forall_mem_cons.mpr ⟨lw_p66, List.forall_mem_cons.mpr ⟨lw_p67, List.forall_mem_cons.mpr ⟨lw_p68, List.forall_mem_cons.mpr ⟨lw_p69, List.forall_mem_cons.mpr ⟨lw_p70, List.forall_mem_cons.mpr ⟨lw_p71, List.forall_mem_cons.mpr ⟨lw_p72, List.forall_mem_cons.mpr ⟨lw_p73, List.forall_mem_cons.mpr ⟨lw_p74, List.forall_mem_cons.mpr ⟨lw_p75, List.forall_mem_cons.mpr ⟨lw_p76, List.forall_mem_cons.mpr ⟨lw_p77, List.forall_mem_cons.mpr ⟨lw_p78, List.forall_mem_cons.mpr ⟨lw_p79, fun _ h => absurd h List.not_mem_nil⟩⟩⟩⟩⟩⟩⟩⟩⟩⟩⟩⟩⟩⟩⟩⟩
theorem lw_p80 : lw_okq (⟨"ChunkCodeModel", "declare", "(IZZI)V"⟩, 77) := ⟨⟨by decide +kernel, by decide +kernel⟩, List.mem_of_getElem? (i := 1093) (by decide +kernel), List.mem_of_getElem? (i := 1421) (by decide +kernel), List.mem_of_getElem? (i := 1422) (by decide +kernel)⟩
theorem lw_p81 : lw_okq (⟨"ChunkCodeModel", "count", "()I"⟩, 77) := ⟨⟨by decide +kernel, by decide +kernel⟩, List.mem_of_getElem? (i := 1093) (by decide +kernel), List.mem_of_getElem? (i := 1425) (by decide +kernel), List.mem_of_getElem? (i := 1426) (by decide +kernel)⟩
theorem lw_p82 : lw_okq (⟨"ChunkCodeModel", "parameters", "(I)Z"⟩, 77) := ⟨⟨by decide +kernel, by decide +kernel⟩, List.mem_of_getElem? (i := 1093) (by decide +kernel), List.mem_of_getElem? (i := 1429) (by decide +kernel), List.mem_of_getElem? (i := 1430) (by decide +kernel)⟩
theorem lw_p83 : lw_okq (⟨"ChunkCodeModel", "leave", "(I)Z"⟩, 77) := ⟨⟨by decide +kernel, by decide +kernel⟩, List.mem_of_getElem? (i := 1093) (by decide +kernel), List.mem_of_getElem? (i := 1433) (by decide +kernel), List.mem_of_getElem? (i := 1434) (by decide +kernel)⟩
theorem lw_p84 : lw_okq (⟨"ChunkCodeModel", "take", "(I)Z"⟩, 77) := ⟨⟨by decide +kernel, by decide +kernel⟩, List.mem_of_getElem? (i := 1093) (by decide +kernel), List.mem_of_getElem? (i := 1437) (by decide +kernel), List.mem_of_getElem? (i := 1438) (by decide +kernel)⟩
theorem lw_p85 : lw_okq (⟨"ChunkCodeModel", "primary", "()V"⟩, 77) := ⟨⟨by decide +kernel, by decide +kernel⟩, List.mem_of_getElem? (i := 1093) (by decide +kernel), List.mem_of_getElem? (i := 1441) (by decide +kernel), List.mem_of_getElem? (i := 1442) (by decide +kernel)⟩
theorem lw_p86 : lw_okq (⟨"ChunkCodeModel", "binary", "(I)V"⟩, 77) := ⟨⟨by decide +kernel, by decide +kernel⟩, List.mem_of_getElem? (i := 1093) (by decide +kernel), List.mem_of_getElem? (i := 1445) (by decide +kernel), List.mem_of_getElem? (i := 1446) (by decide +kernel)⟩
theorem lw_p87 : lw_okq (⟨"ChunkCodeModel", "load", "()V"⟩, 77) := ⟨⟨by decide +kernel, by decide +kernel⟩, List.mem_of_getElem? (i := 1093) (by decide +kernel), List.mem_of_getElem? (i := 1452) (by decide +kernel), List.mem_of_getElem? (i := 1453) (by decide +kernel)⟩
theorem lw_p88 : lw_okq (⟨"ChunkCodeModel", "resolve", "(I)I"⟩, 77) := ⟨⟨by decide +kernel, by decide +kernel⟩, List.mem_of_getElem? (i := 1093) (by decide +kernel), List.mem_of_getElem? (i := 1456) (by decide +kernel), List.mem_of_getElem? (i := 1457) (by decide +kernel)⟩
theorem lw_p89 : lw_okq (⟨"ChunkCodeModel", "find", "(I)I"⟩, 77) := ⟨⟨by decide +kernel, by decide +kernel⟩, List.mem_of_getElem? (i := 1093) (by decide +kernel), List.mem_of_getElem? (i := 1460) (by decide +kernel), List.mem_of_getElem? (i := 1461) (by decide +kernel)⟩
theorem lw_p90 : lw_okq (⟨"ChunkCodeModel", "outerOf", "(IIII)I"⟩, 77) := ⟨⟨by decide +kernel, by decide +kernel⟩, List.mem_of_getElem? (i := 1093) (by decide +kernel), List.mem_of_getElem? (i := 1464) (by decide +kernel), List.mem_of_getElem? (i := 1465) (by decide +kernel)⟩
theorem lw_p91 : lw_okq (⟨"ChunkCodeModel", "loadAway", "()V"⟩, 77) := ⟨⟨by decide +kernel, by decide +kernel⟩, List.mem_of_getElem? (i := 1093) (by decide +kernel), List.mem_of_getElem? (i := 1471) (by decide +kernel), List.mem_of_getElem? (i := 1472) (by decide +kernel)⟩
theorem lw_p92 : lw_okq (⟨"ChunkCodeModel", "here", "()I"⟩, 77) := ⟨⟨by decide +kernel, by decide +kernel⟩, List.mem_of_getElem? (i := 1093) (by decide +kernel), List.mem_of_getElem? (i := 1475) (by decide +kernel), List.mem_of_getElem? (i := 1476) (by decide +kernel)⟩
theorem lw_p93 : lw_okq (⟨"ChunkCodeModel", "suffix", "()V"⟩, 77) := ⟨⟨by decide +kernel, by decide +kernel⟩, List.mem_of_getElem? (i := 1093) (by decide +kernel), List.mem_of_getElem? (i := 1479) (by decide +kernel), List.mem_of_getElem? (i := 1480) (by decide +kernel)⟩
theorem lw_p94 : lw_okq (⟨"ChunkCodeModel", "args", "(I)V"⟩, 77) := ⟨⟨by decide +kernel, by decide +kernel⟩, List.mem_of_getElem? (i := 1093) (by decide +kernel), List.mem_of_getElem? (i := 1483) (by decide +kernel), List.mem_of_getElem? (i := 1484) (by decide +kernel)⟩
theorem lw_p95 : lw_okq (⟨"ChunkCodeModel", "call", "(III)V"⟩, 77) := ⟨⟨by decide +kernel, by decide +kernel⟩, List.mem_of_getElem? (i := 1093) (by decide +kernel), List.mem_of_getElem? (i := 1487) (by decide +kernel), List.mem_of_getElem? (i := 1488) (by decide +kernel)⟩
def lw_privs_6 : List (MethodName × Nat) := [(⟨"ChunkCodeModel", "declare", "(IZZI)V"⟩, 77), (⟨"ChunkCodeModel", "count", "()I"⟩, 77), (⟨"ChunkCodeModel", "parameters", "(I)Z"⟩, 77), (⟨"ChunkCodeModel", "leave", "(I)Z"⟩, 77), (⟨"ChunkCodeModel", "take", "(I)Z"⟩, 77), (⟨"ChunkCodeModel", "primary", "()V"⟩, 77), (⟨"ChunkCodeModel", "binary", "(I)V"⟩, 77), (⟨"ChunkCodeModel", "load", "()V"⟩, 77), (⟨"ChunkCodeModel", "resolve", "(I)I"⟩, 77), (⟨"ChunkCodeModel", "find", "(I)I"⟩, 77), (⟨"ChunkCodeModel", "outerOf", "(IIII)I"⟩, 77), (⟨"ChunkCodeModel", "loadAway", "()V"⟩, 77), (⟨"ChunkCodeModel", "here", "()I"⟩, 77), (⟨"ChunkCodeModel", "suffix", "()V"⟩, 77), (⟨"ChunkCodeModel", "args", "(I)V"⟩, 77), (⟨"ChunkCodeModel", "call", "(III)V"⟩, 77)]
theorem lw_r6 : ∀ q ∈ lw_privs_6, lw_okq q := List.forall_mem_cons.mpr ⟨lw_p80, List.forall_mem_cons.mpr ⟨lw_p81, List.forall_mem_cons.mpr ⟨lw_p82, List.forall_mem_cons.mpr ⟨lw_p83, List.forall_mem_cons.mpr ⟨lw_p84, List.forall_mem_cons.mpr ⟨lw_p85, List.forall_mem_cons.mpr ⟨lw_p86, List.forall_mem_cons.mpr ⟨lw_p87, List.forall_mem_cons.mpr ⟨lw_p88, List.forall_mem_cons.mpr ⟨lw_p89, List.forall_mem_cons.mpr ⟨lw_p90, List.forall_mem_cons.mpr ⟨lw_p91, List.forall_mem_cons.mpr ⟨lw_p92, List.forall_mem_cons.mpr ⟨lw_p93, List.forall_mem_cons.mpr ⟨lw_p94, List.forall_mem_cons.mpr ⟨lw_p95, fun _ h => absurd h List.not_mem_nil⟩⟩⟩⟩⟩⟩⟩⟩⟩⟩⟩⟩⟩⟩⟩⟩
theorem lw_p96 : lw_okq (⟨"ChunkCodeModel", "expectList", "()V"⟩, 77) := ⟨⟨by decide +kernel, by decide +kernel⟩, List.mem_of_getElem? (i := 1093) (by decide +kernel), List.mem_of_getElem? (i := 1491) (by decide +kernel), List.mem_of_getElem? (i := 1492) (by decide +kernel)⟩
theorem lw_p97 : lw_okq (⟨"ChunkCodeModel", "argsEnd", "(II)V"⟩, 77) := ⟨⟨by decide +kernel, by decide +kernel⟩, List.mem_of_getElem? (i := 1093) (by decide +kernel), List.mem_of_getElem? (i := 1495) (by decide +kernel), List.mem_of_getElem? (i := 1496) (by decide +kernel)⟩
theorem lw_p98 : lw_okq (⟨"ChunkCodeModel", "isOpen", "()Z"⟩, 77) := ⟨⟨by decide +kernel, by decide +kernel⟩, List.mem_of_getElem? (i := 1093) (by decide +kernel), List.mem_of_getElem? (i := 1499) (by decide +kernel), List.mem_of_getElem? (i := 1500) (by decide +kernel)⟩
theorem lw_p99 : lw_okq (⟨"ChunkCodeModel", "openAway", "()V"⟩, 77) := ⟨⟨by decide +kernel, by decide +kernel⟩, List.mem_of_getElem? (i := 1093) (by decide +kernel), List.mem_of_getElem? (i := 1503) (by decide +kernel), List.mem_of_getElem? (i := 1504) (by decide +kernel)⟩
theorem lw_p100 : lw_okq (⟨"ChunkCodeModel", "listEnd", "(I)V"⟩, 77) := ⟨⟨by decide +kernel, by decide +kernel⟩, List.mem_of_getElem? (i := 1093) (by decide +kernel), List.mem_of_getElem? (i := 1507) (by decide +kernel), List.mem_of_getElem? (i := 1508) (by decide +kernel)⟩
theorem lw_p101 : lw_okq (⟨"ChunkCodeModel", "item", "(I)V"⟩, 77) := ⟨⟨by decide +kernel, by decide +kernel⟩, List.mem_of_getElem? (i := 1093) (by decide +kernel), List.mem_of_getElem? (i := 1511) (by decide +kernel), List.mem_of_getElem? (i := 1512) (by decide +kernel)⟩
theorem lw_p102 : lw_okq (⟨"ChunkCodeModel", "separator", "(I)V"⟩, 77) := ⟨⟨by decide +kernel, by decide +kernel⟩, List.mem_of_getElem? (i := 1093) (by decide +kernel), List.mem_of_getElem? (i := 1515) (by decide +kernel), List.mem_of_getElem? (i := 1516) (by decide +kernel)⟩
theorem lw_p103 : lw_okq (⟨"ChunkCodeModel", "placed", "(II)V"⟩, 77) := ⟨⟨by decide +kernel, by decide +kernel⟩, List.mem_of_getElem? (i := 1093) (by decide +kernel), List.mem_of_getElem? (i := 1519) (by decide +kernel), List.mem_of_getElem? (i := 1520) (by decide +kernel)⟩
theorem lw_p104 : lw_okq (⟨"ChunkCodeModel", "bodyEnd", "(I)V"⟩, 77) := ⟨⟨by decide +kernel, by decide +kernel⟩, List.mem_of_getElem? (i := 1093) (by decide +kernel), List.mem_of_getElem? (i := 1523) (by decide +kernel), List.mem_of_getElem? (i := 1524) (by decide +kernel)⟩
theorem lw_p105 : lw_okq (⟨"ChunkCodeModel", "lostGotos", "()V"⟩, 77) := ⟨⟨by decide +kernel, by decide +kernel⟩, List.mem_of_getElem? (i := 1093) (by decide +kernel), List.mem_of_getElem? (i := 1527) (by decide +kernel), List.mem_of_getElem? (i := 1528) (by decide +kernel)⟩
theorem lw_p106 : lw_okq (⟨"ChunkCodeModel", "dropBlock", "()V"⟩, 77) := ⟨⟨by decide +kernel, by decide +kernel⟩, List.mem_of_getElem? (i := 1093) (by decide +kernel), List.mem_of_getElem? (i := 1531) (by decide +kernel), List.mem_of_getElem? (i := 1532) (by decide +kernel)⟩
theorem lw_p107 : lw_okq (⟨"ChunkCodeModel", "statements", "()V"⟩, 77) := ⟨⟨by decide +kernel, by decide +kernel⟩, List.mem_of_getElem? (i := 1093) (by decide +kernel), List.mem_of_getElem? (i := 1535) (by decide +kernel), List.mem_of_getElem? (i := 1536) (by decide +kernel)⟩
theorem lw_p108 : lw_okq (⟨"ChunkCodeModel", "giveBack", "()V"⟩, 77) := ⟨⟨by decide +kernel, by decide +kernel⟩, List.mem_of_getElem? (i := 1093) (by decide +kernel), List.mem_of_getElem? (i := 1542) (by decide +kernel), List.mem_of_getElem? (i := 1543) (by decide +kernel)⟩
theorem lw_p109 : lw_okq (⟨"ChunkCodeModel", "statement", "(I)V"⟩, 77) := ⟨⟨by decide +kernel, by decide +kernel⟩, List.mem_of_getElem? (i := 1093) (by decide +kernel), List.mem_of_getElem? (i := 1546) (by decide +kernel), List.mem_of_getElem? (i := 1547) (by decide +kernel)⟩
theorem lw_p110 : lw_okq (⟨"ChunkCodeModel", "label", "(I)V"⟩, 77) := ⟨⟨by decide +kernel, by decide +kernel⟩, List.mem_of_getElem? (i := 1093) (by decide +kernel), List.mem_of_getElem? (i := 1550) (by decide +kernel), List.mem_of_getElem? (i := 1551) (by decide +kernel)⟩
theorem lw_p111 : lw_okq (⟨"ChunkCodeModel", "labelOf", "(I)I"⟩, 77) := ⟨⟨by decide +kernel, by decide +kernel⟩, List.mem_of_getElem? (i := 1093) (by decide +kernel), List.mem_of_getElem? (i := 1554) (by decide +kernel), List.mem_of_getElem? (i := 1555) (by decide +kernel)⟩
def lw_privs_7 : List (MethodName × Nat) := [(⟨"ChunkCodeModel", "expectList", "()V"⟩, 77), (⟨"ChunkCodeModel", "argsEnd", "(II)V"⟩, 77), (⟨"ChunkCodeModel", "isOpen", "()Z"⟩, 77), (⟨"ChunkCodeModel", "openAway", "()V"⟩, 77), (⟨"ChunkCodeModel", "listEnd", "(I)V"⟩, 77), (⟨"ChunkCodeModel", "item", "(I)V"⟩, 77), (⟨"ChunkCodeModel", "separator", "(I)V"⟩, 77), (⟨"ChunkCodeModel", "placed", "(II)V"⟩, 77), (⟨"ChunkCodeModel", "bodyEnd", "(I)V"⟩, 77), (⟨"ChunkCodeModel", "lostGotos", "()V"⟩, 77), (⟨"ChunkCodeModel", "dropBlock", "()V"⟩, 77), (⟨"ChunkCodeModel", "statements", "()V"⟩, 77), (⟨"ChunkCodeModel", "giveBack", "()V"⟩, 77), (⟨"ChunkCodeModel", "statement", "(I)V"⟩, 77), (⟨"ChunkCodeModel", "label", "(I)V"⟩, 77), (⟨"ChunkCodeModel", "labelOf", "(I)I"⟩, 77)]
theorem lw_r7 : ∀ q ∈ lw_privs_7, lw_okq q := List.forall_mem_cons.mpr ⟨lw_p96, List.forall_mem_cons.mpr ⟨lw_p97, List.forall_mem_cons.mpr ⟨lw_p98, List.forall_mem_cons.mpr ⟨lw_p99, List.forall_mem_cons.mpr ⟨lw_p100, List.forall_mem_cons.mpr ⟨lw_p101, List.forall_mem_cons.mpr ⟨lw_p102, List.forall_mem_cons.mpr ⟨lw_p103, List.forall_mem_cons.mpr ⟨lw_p104, List.forall_mem_cons.mpr ⟨lw_p105, List.forall_mem_cons.mpr ⟨lw_p106, List.forall_mem_cons.mpr ⟨lw_p107, List.forall_mem_cons.mpr ⟨lw_p108, List.forall_mem_cons.mpr ⟨lw_p109, List.forall_mem_cons.mpr ⟨lw_p110, List.forall_mem_cons.mpr ⟨lw_p111, fun _ h => absurd h List.not_mem_nil⟩⟩⟩⟩⟩⟩⟩⟩⟩⟩⟩⟩⟩⟩⟩⟩
theorem lw_p112 : lw_okq (⟨"ChunkCodeModel", "isAtEnd", "()Z"⟩, 77) := ⟨⟨by decide +kernel, by decide +kernel⟩, List.mem_of_getElem? (i := 1093) (by decide +kernel), List.mem_of_getElem? (i := 1558) (by decide +kernel), List.mem_of_getElem? (i := 1559) (by decide +kernel)⟩
theorem lw_p113 : lw_okq (⟨"ChunkCodeModel", "before", "()I"⟩, 77) := ⟨⟨by decide +kernel, by decide +kernel⟩, List.mem_of_getElem? (i := 1093) (by decide +kernel), List.mem_of_getElem? (i := 1562) (by decide +kernel), List.mem_of_getElem? (i := 1563) (by decide +kernel)⟩
theorem lw_p114 : lw_okq (⟨"ChunkCodeModel", "leaveLoop", "(I)V"⟩, 77) := ⟨⟨by decide +kernel, by decide +kernel⟩, List.mem_of_getElem? (i := 1093) (by decide +kernel), List.mem_of_getElem? (i := 1566) (by decide +kernel), List.mem_of_getElem? (i := 1567) (by decide +kernel)⟩
theorem lw_p115 : lw_okq (⟨"ChunkCodeModel", "go", "(II)V"⟩, 77) := ⟨⟨by decide +kernel, by decide +kernel⟩, List.mem_of_getElem? (i := 1093) (by decide +kernel), List.mem_of_getElem? (i := 1570) (by decide +kernel), List.mem_of_getElem? (i := 1571) (by decide +kernel)⟩
theorem lw_p116 : lw_okq (⟨"ChunkCodeModel", "loop", "(I)V"⟩, 77) := ⟨⟨by decide +kernel, by decide +kernel⟩, List.mem_of_getElem? (i := 1093) (by decide +kernel), List.mem_of_getElem? (i := 1574) (by decide +kernel), List.mem_of_getElem? (i := 1575) (by decide +kernel)⟩
theorem lw_p117 : lw_okq (⟨"ChunkCodeModel", "functionStatement", "(I)V"⟩, 77) := ⟨⟨by decide +kernel, by decide +kernel⟩, List.mem_of_getElem? (i := 1093) (by decide +kernel), List.mem_of_getElem? (i := 1578) (by decide +kernel), List.mem_of_getElem? (i := 1579) (by decide +kernel)⟩
theorem lw_p118 : lw_okq (⟨"ChunkCodeModel", "target", "(I)I"⟩, 77) := ⟨⟨by decide +kernel, by decide +kernel⟩, List.mem_of_getElem? (i := 1093) (by decide +kernel), List.mem_of_getElem? (i := 1582) (by decide +kernel), List.mem_of_getElem? (i := 1583) (by decide +kernel)⟩
theorem lw_p119 : lw_okq (⟨"ChunkCodeModel", "local", "(I)V"⟩, 77) := ⟨⟨by decide +kernel, by decide +kernel⟩, List.mem_of_getElem? (i := 1093) (by decide +kernel), List.mem_of_getElem? (i := 1586) (by decide +kernel), List.mem_of_getElem? (i := 1587) (by decide +kernel)⟩
theorem lw_p120 : lw_okq (⟨"ChunkCodeModel", "keep", "(III)V"⟩, 77) := ⟨⟨by decide +kernel, by decide +kernel⟩, List.mem_of_getElem? (i := 1093) (by decide +kernel), List.mem_of_getElem? (i := 1590) (by decide +kernel), List.mem_of_getElem? (i := 1591) (by decide +kernel)⟩
theorem lw_p121 : lw_okq (⟨"ChunkCodeModel", "nils", "(I)V"⟩, 77) := ⟨⟨by decide +kernel, by decide +kernel⟩, List.mem_of_getElem? (i := 1093) (by decide +kernel), List.mem_of_getElem? (i := 1594) (by decide +kernel), List.mem_of_getElem? (i := 1595) (by decide +kernel)⟩
theorem lw_p122 : lw_okq (⟨"ChunkCodeModel", "localEnd", "(II)V"⟩, 77) := ⟨⟨by decide +kernel, by decide +kernel⟩, List.mem_of_getElem? (i := 1093) (by decide +kernel), List.mem_of_getElem? (i := 1598) (by decide +kernel), List.mem_of_getElem? (i := 1599) (by decide +kernel)⟩
theorem lw_p123 : lw_okq (⟨"ChunkCodeModel", "endBlock", "()V"⟩, 77) := ⟨⟨by decide +kernel, by decide +kernel⟩, List.mem_of_getElem? (i := 1093) (by decide +kernel), List.mem_of_getElem? (i := 1602) (by decide +kernel), List.mem_of_getElem? (i := 1603) (by decide +kernel)⟩
theorem lw_p124 : lw_okq (⟨"ChunkCodeModel", "hasLocals", "()Z"⟩, 77) := ⟨⟨by decide +kernel, by decide +kernel⟩, List.mem_of_getElem? (i := 1093) (by decide +kernel), List.mem_of_getElem? (i := 1606) (by decide +kernel), List.mem_of_getElem? (i := 1607) (by decide +kernel)⟩
theorem lw_p125 : lw_okq (⟨"ChunkCodeModel", "whileDo", "(I)V"⟩, 77) := ⟨⟨by decide +kernel, by decide +kernel⟩, List.mem_of_getElem? (i := 1093) (by decide +kernel), List.mem_of_getElem? (i := 1610) (by decide +kernel), List.mem_of_getElem? (i := 1611) (by decide +kernel)⟩
theorem lw_p126 : lw_okq (⟨"ChunkCodeModel", "whileEnd", "(II)V"⟩, 77) := ⟨⟨by decide +kernel, by decide +kernel⟩, List.mem_of_getElem? (i := 1093) (by decide +kernel), List.mem_of_getElem? (i := 1614) (by decide +kernel), List.mem_of_getElem? (i := 1615) (by decide +kernel)⟩
theorem lw_p127 : lw_okq (⟨"ChunkCodeModel", "mendBreaks", "()V"⟩, 77) := ⟨⟨by decide +kernel, by decide +kernel⟩, List.mem_of_getElem? (i := 1093) (by decide +kernel), List.mem_of_getElem? (i := 1618) (by decide +kernel), List.mem_of_getElem? (i := 1619) (by decide +kernel)⟩
def lw_privs_8 : List (MethodName × Nat) := [(⟨"ChunkCodeModel", "isAtEnd", "()Z"⟩, 77), (⟨"ChunkCodeModel", "before", "()I"⟩, 77), (⟨"ChunkCodeModel", "leaveLoop", "(I)V"⟩, 77), (⟨"ChunkCodeModel", "go", "(II)V"⟩, 77), (⟨"ChunkCodeModel", "loop", "(I)V"⟩, 77), (⟨"ChunkCodeModel", "functionStatement", "(I)V"⟩, 77), (⟨"ChunkCodeModel", "target", "(I)I"⟩, 77), (⟨"ChunkCodeModel", "local", "(I)V"⟩, 77), (⟨"ChunkCodeModel", "keep", "(III)V"⟩, 77), (⟨"ChunkCodeModel", "nils", "(I)V"⟩, 77), (⟨"ChunkCodeModel", "localEnd", "(II)V"⟩, 77), (⟨"ChunkCodeModel", "endBlock", "()V"⟩, 77), (⟨"ChunkCodeModel", "hasLocals", "()Z"⟩, 77), (⟨"ChunkCodeModel", "whileDo", "(I)V"⟩, 77), (⟨"ChunkCodeModel", "whileEnd", "(II)V"⟩, 77), (⟨"ChunkCodeModel", "mendBreaks", "()V"⟩, 77)]
theorem lw_r8 : ∀ q ∈ lw_privs_8, lw_okq q := List.forall_mem_cons.mpr ⟨lw_p112, List.forall_mem_cons.mpr ⟨lw_p113, List.forall_mem_cons.mpr ⟨lw_p114, List.forall_mem_cons.mpr ⟨lw_p115, List.forall_mem_cons.mpr ⟨lw_p116, List.forall_mem_cons.mpr ⟨lw_p117, List.forall_mem_cons.mpr ⟨lw_p118, List.forall_mem_cons.mpr ⟨lw_p119, List.forall_mem_cons.mpr ⟨lw_p120, List.forall_mem_cons.mpr ⟨lw_p121, List.forall_mem_cons.mpr ⟨lw_p122, List.forall_mem_cons.mpr ⟨lw_p123, List.forall_mem_cons.mpr ⟨lw_p124, List.forall_mem_cons.mpr ⟨lw_p125, List.forall_mem_cons.mpr ⟨lw_p126, List.forall_mem_cons.mpr ⟨lw_p127, fun _ h => absurd h List.not_mem_nil⟩⟩⟩⟩⟩⟩⟩⟩⟩⟩⟩⟩⟩⟩⟩⟩
theorem lw_p128 : lw_okq (⟨"ChunkCodeModel", "repeatEnd", "(I)V"⟩, 77) := ⟨⟨by decide +kernel, by decide +kernel⟩, List.mem_of_getElem? (i := 1093) (by decide +kernel), List.mem_of_getElem? (i := 1622) (by decide +kernel), List.mem_of_getElem? (i := 1623) (by decide +kernel)⟩
theorem lw_p129 : lw_okq (⟨"ChunkCodeModel", "then", "(I)V"⟩, 77) := ⟨⟨by decide +kernel, by decide +kernel⟩, List.mem_of_getElem? (i := 1093) (by decide +kernel), List.mem_of_getElem? (i := 1626) (by decide +kernel), List.mem_of_getElem? (i := 1627) (by decide +kernel)⟩
theorem lw_p130 : lw_okq (⟨"ChunkCodeModel", "partEnd", "(II)V"⟩, 77) := ⟨⟨by decide +kernel, by decide +kernel⟩, List.mem_of_getElem? (i := 1093) (by decide +kernel), List.mem_of_getElem? (i := 1630) (by decide +kernel), List.mem_of_getElem? (i := 1631) (by decide +kernel)⟩
theorem lw_p131 : lw_okq (⟨"ChunkCodeModel", "mend", "(I)V"⟩, 77) := ⟨⟨by decide +kernel, by decide +kernel⟩, List.mem_of_getElem? (i := 1093) (by decide +kernel), List.mem_of_getElem? (i := 1634) (by decide +kernel), List.mem_of_getElem? (i := 1635) (by decide +kernel)⟩
theorem lw_p132 : lw_okq (⟨"ChunkCodeModel", "forSecond", "(I)V"⟩, 77) := ⟨⟨by decide +kernel, by decide +kernel⟩, List.mem_of_getElem? (i := 1093) (by decide +kernel), List.mem_of_getElem? (i := 1638) (by decide +kernel), List.mem_of_getElem? (i := 1639) (by decide +kernel)⟩
theorem lw_p133 : lw_okq (⟨"ChunkCodeModel", "forThird", "(I)V"⟩, 77) := ⟨⟨by decide +kernel, by decide +kernel⟩, List.mem_of_getElem? (i := 1093) (by decide +kernel), List.mem_of_getElem? (i := 1642) (by decide +kernel), List.mem_of_getElem? (i := 1643) (by decide +kernel)⟩
theorem lw_p134 : lw_okq (⟨"ChunkCodeModel", "forNumbers", "(I)V"⟩, 77) := ⟨⟨by decide +kernel, by decide +kernel⟩, List.mem_of_getElem? (i := 1093) (by decide +kernel), List.mem_of_getElem? (i := 1646) (by decide +kernel), List.mem_of_getElem? (i := 1647) (by decide +kernel)⟩
theorem lw_p135 : lw_okq (⟨"ChunkCodeModel", "hide", "(IZI)V"⟩, 77) := ⟨⟨by decide +kernel, by decide +kernel⟩, List.mem_of_getElem? (i := 1093) (by decide +kernel), List.mem_of_getElem? (i := 1650) (by decide +kernel), List.mem_of_getElem? (i := 1651) (by decide +kernel)⟩
theorem lw_p136 : lw_okq (⟨"ChunkCodeModel", "forNumbersEnd", "(III)V"⟩, 77) := ⟨⟨by decide +kernel, by decide +kernel⟩, List.mem_of_getElem? (i := 1093) (by decide +kernel), List.mem_of_getElem? (i := 1654) (by decide +kernel), List.mem_of_getElem? (i := 1655) (by decide +kernel)⟩
theorem lw_p137 : lw_okq (⟨"ChunkCodeModel", "unhide", "(I)V"⟩, 77) := ⟨⟨by decide +kernel, by decide +kernel⟩, List.mem_of_getElem? (i := 1093) (by decide +kernel), List.mem_of_getElem? (i := 1658) (by decide +kernel), List.mem_of_getElem? (i := 1659) (by decide +kernel)⟩
theorem lw_p138 : lw_okq (⟨"ChunkCodeModel", "each", "(III)V"⟩, 77) := ⟨⟨by decide +kernel, by decide +kernel⟩, List.mem_of_getElem? (i := 1093) (by decide +kernel), List.mem_of_getElem? (i := 1662) (by decide +kernel), List.mem_of_getElem? (i := 1663) (by decide +kernel)⟩
theorem lw_p139 : lw_okq (⟨"ChunkCodeModel", "adjust", "(II)V"⟩, 77) := ⟨⟨by decide +kernel, by decide +kernel⟩, List.mem_of_getElem? (i := 1093) (by decide +kernel), List.mem_of_getElem? (i := 1666) (by decide +kernel), List.mem_of_getElem? (i := 1667) (by decide +kernel)⟩
theorem lw_p140 : lw_okq (⟨"ChunkCodeModel", "eachEnd", "(III)V"⟩, 77) := ⟨⟨by decide +kernel, by decide +kernel⟩, List.mem_of_getElem? (i := 1093) (by decide +kernel), List.mem_of_getElem? (i := 1670) (by decide +kernel), List.mem_of_getElem? (i := 1671) (by decide +kernel)⟩
theorem lw_p141 : lw_okq (⟨"ChunkCodeModel", "functionEnd", "(III)V"⟩, 77) := ⟨⟨by decide +kernel, by decide +kernel⟩, List.mem_of_getElem? (i := 1093) (by decide +kernel), List.mem_of_getElem? (i := 1674) (by decide +kernel), List.mem_of_getElem? (i := 1675) (by decide +kernel)⟩
theorem lw_p142 : lw_okq (⟨"ChunkCodeModel", "given", "(I)V"⟩, 77) := ⟨⟨by decide +kernel, by decide +kernel⟩, List.mem_of_getElem? (i := 1093) (by decide +kernel), List.mem_of_getElem? (i := 1678) (by decide +kernel), List.mem_of_getElem? (i := 1679) (by decide +kernel)⟩
theorem lw_p143 : lw_okq (⟨"ChunkCodeModel", "mayTail", "()Z"⟩, 77) := ⟨⟨by decide +kernel, by decide +kernel⟩, List.mem_of_getElem? (i := 1093) (by decide +kernel), List.mem_of_getElem? (i := 1682) (by decide +kernel), List.mem_of_getElem? (i := 1683) (by decide +kernel)⟩
def lw_privs_9 : List (MethodName × Nat) := [(⟨"ChunkCodeModel", "repeatEnd", "(I)V"⟩, 77), (⟨"ChunkCodeModel", "then", "(I)V"⟩, 77), (⟨"ChunkCodeModel", "partEnd", "(II)V"⟩, 77), (⟨"ChunkCodeModel", "mend", "(I)V"⟩, 77), (⟨"ChunkCodeModel", "forSecond", "(I)V"⟩, 77), (⟨"ChunkCodeModel", "forThird", "(I)V"⟩, 77), (⟨"ChunkCodeModel", "forNumbers", "(I)V"⟩, 77), (⟨"ChunkCodeModel", "hide", "(IZI)V"⟩, 77), (⟨"ChunkCodeModel", "forNumbersEnd", "(III)V"⟩, 77), (⟨"ChunkCodeModel", "unhide", "(I)V"⟩, 77), (⟨"ChunkCodeModel", "each", "(III)V"⟩, 77), (⟨"ChunkCodeModel", "adjust", "(II)V"⟩, 77), (⟨"ChunkCodeModel", "eachEnd", "(III)V"⟩, 77), (⟨"ChunkCodeModel", "functionEnd", "(III)V"⟩, 77), (⟨"ChunkCodeModel", "given", "(I)V"⟩, 77), (⟨"ChunkCodeModel", "mayTail", "()Z"⟩, 77)]
theorem lw_r9 : ∀ q ∈ lw_privs_9, lw_okq q := List.forall_mem_cons.mpr ⟨lw_p128, List.forall_mem_cons.mpr ⟨lw_p129, List.forall_mem_cons.mpr ⟨lw_p130, List.forall_mem_cons.mpr ⟨lw_p131, List.forall_mem_cons.mpr ⟨lw_p132, List.forall_mem_cons.mpr ⟨lw_p133, List.forall_mem_cons.mpr ⟨lw_p134, List.forall_mem_cons.mpr ⟨lw_p135, List.forall_mem_cons.mpr ⟨lw_p136, List.forall_mem_cons.mpr ⟨lw_p137, List.forall_mem_cons.mpr ⟨lw_p138, List.forall_mem_cons.mpr ⟨lw_p139, List.forall_mem_cons.mpr ⟨lw_p140, List.forall_mem_cons.mpr ⟨lw_p141, List.forall_mem_cons.mpr ⟨lw_p142, List.forall_mem_cons.mpr ⟨lw_p143, fun _ h => absurd h List.not_mem_nil⟩⟩⟩⟩⟩⟩⟩⟩⟩⟩⟩⟩⟩⟩⟩⟩
theorem lw_p144 : lw_okq (⟨"ChunkCodeModel", "givenEnd", "()V"⟩, 77) := ⟨⟨by decide +kernel, by decide +kernel⟩, List.mem_of_getElem? (i := 1093) (by decide +kernel), List.mem_of_getElem? (i := 1686) (by decide +kernel), List.mem_of_getElem? (i := 1687) (by decide +kernel)⟩
theorem lw_p145 : lw_okq (⟨"ChunkCodeModel", "statementEnd", "(II)V"⟩, 77) := ⟨⟨by decide +kernel, by decide +kernel⟩, List.mem_of_getElem? (i := 1093) (by decide +kernel), List.mem_of_getElem? (i := 1690) (by decide +kernel), List.mem_of_getElem? (i := 1691) (by decide +kernel)⟩
theorem lw_p146 : lw_okq (⟨"ChunkCodeModel", "assign", "(II)V"⟩, 77) := ⟨⟨by decide +kernel, by decide +kernel⟩, List.mem_of_getElem? (i := 1093) (by decide +kernel), List.mem_of_getElem? (i := 1694) (by decide +kernel), List.mem_of_getElem? (i := 1695) (by decide +kernel)⟩
theorem lw_p147 : lw_okq (⟨"ChunkCodeModel", "sort", "()V"⟩, 77) := ⟨⟨by decide +kernel, by decide +kernel⟩, List.mem_of_getElem? (i := 1093) (by decide +kernel), List.mem_of_getElem? (i := 1698) (by decide +kernel), List.mem_of_getElem? (i := 1699) (by decide +kernel)⟩
theorem lw_p148 : lw_okq (⟨"ChunkCodeModel", "isFunction", "(I)Z"⟩, 77) := ⟨⟨by decide +kernel, by decide +kernel⟩, List.mem_of_getElem? (i := 1093) (by decide +kernel), List.mem_of_getElem? (i := 1714) (by decide +kernel), List.mem_of_getElem? (i := 1715) (by decide +kernel)⟩
theorem lw_p149 : lw_okq (⟨"ChunkCodeModel", "isRight", "(IIII)Z"⟩, 77) := ⟨⟨by decide +kernel, by decide +kernel⟩, List.mem_of_getElem? (i := 1093) (by decide +kernel), List.mem_of_getElem? (i := 1737) (by decide +kernel), List.mem_of_getElem? (i := 1738) (by decide +kernel)⟩
def lw_privs_10 : List (MethodName × Nat) := [(⟨"ChunkCodeModel", "givenEnd", "()V"⟩, 77), (⟨"ChunkCodeModel", "statementEnd", "(II)V"⟩, 77), (⟨"ChunkCodeModel", "assign", "(II)V"⟩, 77), (⟨"ChunkCodeModel", "sort", "()V"⟩, 77), (⟨"ChunkCodeModel", "isFunction", "(I)Z"⟩, 77), (⟨"ChunkCodeModel", "isRight", "(IIII)Z"⟩, 77)]
theorem lw_r10 : ∀ q ∈ lw_privs_10, lw_okq q := List.forall_mem_cons.mpr ⟨lw_p144, List.forall_mem_cons.mpr ⟨lw_p145, List.forall_mem_cons.mpr ⟨lw_p146, List.forall_mem_cons.mpr ⟨lw_p147, List.forall_mem_cons.mpr ⟨lw_p148, List.forall_mem_cons.mpr ⟨lw_p149, fun _ h => absurd h List.not_mem_nil⟩⟩⟩⟩⟩⟩
def lw_privs : List (MethodName × Nat) := lw_privs_1 ++ (lw_privs_2 ++ (lw_privs_3 ++ (lw_privs_4 ++ (lw_privs_5 ++ (lw_privs_6 ++ (lw_privs_7 ++ (lw_privs_8 ++ (lw_privs_9 ++ (lw_privs_10)))))))))
def lw_tbl : List Cond := k2_sels lw_privs ++ tables_1
theorem lw_privs_ok : ∀ q ∈ lw_privs, lw_okq q := by
  show ∀ q ∈ lw_privs_1 ++ (lw_privs_2 ++ (lw_privs_3 ++ (lw_privs_4 ++ (lw_privs_5 ++ (lw_privs_6 ++ (lw_privs_7 ++ (lw_privs_8 ++ (lw_privs_9 ++ (lw_privs_10))))))))), lw_okq q
  exact List.forall_mem_append.mpr ⟨lw_r1, List.forall_mem_append.mpr ⟨lw_r2, List.forall_mem_append.mpr ⟨lw_r3, List.forall_mem_append.mpr ⟨lw_r4, List.forall_mem_append.mpr ⟨lw_r5, List.forall_mem_append.mpr ⟨lw_r6, List.forall_mem_append.mpr ⟨lw_r7, List.forall_mem_append.mpr ⟨lw_r8, List.forall_mem_append.mpr ⟨lw_r9, lw_r10⟩⟩⟩⟩⟩⟩⟩⟩⟩
end
section
/-! THE ABSTRACT MACHINE: small instructions over a list of cells (a reference is a place in the list; .long z stands for a reference to a constant cell outside the list); n is fuel, d the frames that are left -/
abbrev am_C : Type := (Bool × Nat × (Nat → Int32)) ⊕ ((Nat × (Nat → Option Nat)) ⊕ (Nat × List Value))
abbrev am_S : Type := List am_C × Nat × Nat
abbrev am_I : Type := Nat × Nat × Nat × Nat × Int32 × Nat × List (Int32 × Nat)
abbrev am_V : Type := List (Option Value)
abbrev am_P : Type := (Nat → Nat → Option am_I) × (Nat → List Value) × (Nat → Nat) × (Nat → Nat → Option (Nat × Nat))
def am_cmp (k : Nat) (x y : Int32) : Bool := match k with
  | 0 => decide (x = y)
  | 1 => decide (¬ x = y)
  | 2 => decide (x < y)
  | 3 => decide (y ≤ x)
  | 4 => decide (y < x)
  | _ => decide (x ≤ y)
def am_bin (k : Nat) (x y : Int32) : Int32 := match k with
  | 0 => x + y
  | 1 => x - y
  | 2 => x * y
  | 3 => x &&& y
  | 4 => x ||| y
  | _ => x >>> (y &&& 31)
def am_sw (tab : List (Int32 × Nat)) (dflt : Nat) (x : Int32) : Nat := match tab with
  | [] => dflt
  | (k, t) :: r => if x = k then t else am_sw r dflt x
/-- may a field of this kind hold the value: 0 a number, 1 a reference, 2 a truth -/
def am_fit (k : Nat) (v : Value) : Bool := match k, v with
  | 0, .int _ => true
  | 1, .ref _ => true
  | 1, .null => true
  | 1, .long _ => true
  | 2, .int x => decide (x = 0 ∨ x = 1)
  | _, _ => false
/-- the instructions that neither call nor end -/
def am_do (nb : Nat → List Value) (op a b c : Nat) (x : Int32) (nx : Nat) (tab : List (Int32 × Nat)) (d : Nat) (ls : am_V) (st : List Value) (S : am_S) : Option (Nat × am_V × List Value × am_S) :=
  match op with
  | 0 => some (nx, ls, .int x :: st, S)
  | 1 => match ls[a]? with
    | some (some (.int v)) => some (nx, ls, .int v :: st, S)
    | _ => none
  | 2 => match ls[a]? with
    | some (some (.ref v)) => some (nx, ls, .ref v :: st, S)
    | some (some .null) => some (nx, ls, .null :: st, S)
    | some (some (.long v)) => some (nx, ls, .long v :: st, S)
    | _ => none
  | 3 => match st with
    | .int v :: r => if a < ls.length then some (nx, ls.set a (some (.int v)), r, S) else none
    | _ => none
  | 4 => match st with
    | .ref v :: r => if a < ls.length then some (nx, ls.set a (some (.ref v)), r, S) else none
    | .null :: r => if a < ls.length then some (nx, ls.set a (some .null), r, S) else none
    | .long v :: r => if a < ls.length then some (nx, ls.set a (some (.long v)), r, S) else none
    | _ => none
  | 5 => match ls[a]? with
    | some (some (.int v)) => some (nx, ls.set a (some (.int (v + x))), st, S)
    | _ => none
  | 6 => match st with
    | .int _ :: r => some (nx, ls, r, S)
    | .ref _ :: r => some (nx, ls, r, S)
    | .null :: r => some (nx, ls, r, S)
    | .long _ :: r => some (nx, ls, r, S)
    | _ => none
  | 7 => match st with
    | .int v :: r => some (nx, ls, .int v :: .int v :: r, S)
    | .ref v :: r => some (nx, ls, .ref v :: .ref v :: r, S)
    | _ => none
  | 8 => match st with
    | .int v :: .ref w :: r => some (nx, ls, .int v :: .ref w :: .int v :: .ref w :: r, S)
    | _ => none
  | 9 => match st with
    | v :: w :: r => some (nx, ls, v :: w :: v :: r, S)
    | _ => none
  | 10 => match st with
    | .int w :: .int v :: r => some (nx, ls, .int (am_bin a v w) :: r, S)
    | _ => none
  | 11 => match st with
    | .int v :: r => some (nx, ls, .int (-v) :: r, S)
    | _ => none
  | 12 => match st with
    | .int v :: r => some (if am_cmp a v 0 then b else nx, ls, r, S)
    | _ => none
  | 13 => match st with
    | .int w :: .int v :: r => some (if am_cmp a v w then b else nx, ls, r, S)
    | _ => none
  | 14 => match st with
    | .ref _ :: r => some (nx, ls, r, S)
    | .null :: r => some (b, ls, r, S)
    | _ => none
  | 15 => match st with
    | .ref _ :: r => some (b, ls, r, S)
    | .null :: r => some (nx, ls, r, S)
    | _ => none
  | 16 => match st with
    | .long z :: .long y :: r => if z = y then some (b, ls, r, S) else none
    | .long z :: .ref _ :: r => if z = 0 then some (nx, ls, r, S) else none
    | _ => none
  | 17 => match st with
    | .long z :: .long y :: r => if z = y then some (nx, ls, r, S) else none
    | _ => none
  | 18 => some (b, ls, st, S)
  | 19 => match st with
    | .int v :: r => some (am_sw tab b v, ls, r, S)
    | _ => none
  | 20 => match st with
    | .ref k :: r => match S.1[k]? with
      | some (.inr (.inr (ci, fs))) => if ci = a then match fs[b]? with
        | some v => some (nx, ls, v :: r, S)
        | none => none else none
      | _ => none
    | _ => none
  | 21 => match st with
    | v :: .ref k :: r => match S.1[k]? with
      | some (.inr (.inr (ci, fs))) => if ci = a ∧ b < fs.length ∧ am_fit (c % 4) v = true then
          some (nx, ls, r, (S.1.set k (.inr (.inr (ci, fs.set b v))), S.2.1, S.2.2)) else none
      | _ => none
    | _ => none
  | 22 => some (nx, ls, .ref S.1.length :: st, (S.1 ++ [.inr (.inr (a, nb a))], S.2.1 + 1, S.2.2 + (nb a).length))
  | 23 => match st with
    | .int v :: r => if ¬ v < 0 ∧ v.toNatClampNeg ≤ 16777216 then
        some (nx, ls, .ref S.1.length :: r, (S.1 ++ [.inl (decide (a = 1), v.toNatClampNeg, fun _ => 0)], S.2.1 + 1, S.2.2 + v.toNatClampNeg)) else none
    | _ => none
  | 24 => match st with
    | .ref k :: r => match S.1[k]? with
      | some (.inl (_, n, _)) => some (nx, ls, .int (Int32.ofNat n) :: r, S)
      | some (.inr (.inl (n, _))) => some (nx, ls, .int (Int32.ofNat n) :: r, S)
      | _ => none
    | .long z :: r => if z = 0 then some (nx, ls, .int 0 :: r, S) else none
    | _ => none
  | 25 => match st with
    | .int i :: .ref k :: r => match S.1[k]? with
      | some (.inl (t, n, f)) => if decide (a = 1) = t ∧ ¬ i < 0 ∧ i.toNatClampNeg < n then some (nx, ls, .int (f i.toNatClampNeg) :: r, S) else none
      | _ => none
    | _ => none
  | 26 => match st with
    | .int v :: .int i :: .ref k :: r => match S.1[k]? with
      | some (.inl (t, n, f)) => if decide (a = 1) = t ∧ ¬ i < 0 ∧ i.toNatClampNeg < n ∧ (t = true → v = 0 ∨ v = 1) then
          some (nx, ls, r, (S.1.set k (.inl (t, n, upd f i.toNatClampNeg v)), S.2.1, S.2.2)) else none
      | _ => none
    | _ => none
  | 29 => some (nx, ls, .null :: st, S)
  | 30 => match st with
    | .ref k :: r => match S.1[k]? with
      | some (.inr (.inr (ci, _))) => if ci = a then some (nx, ls, .ref k :: r, S) else none
      | _ => none
    | _ => none
  | 31 => match st with
    | .ref _ :: r => if 1 ≤ d ∧ r.length ≤ 8 then some (nx, ls, r, S) else none
    | _ => none
  | 38 => match st with
    | .int v :: r => if ¬ v < 0 ∧ v.toNatClampNeg ≤ 16777216 then
        some (nx, ls, .ref S.1.length :: r, (S.1 ++ [.inr (.inl (v.toNatClampNeg, fun _ => none))], S.2.1 + 1, S.2.2 + v.toNatClampNeg)) else none
    | _ => none
  | 39 => match st with
    | .int i :: .ref k :: r => match S.1[k]? with
      | some (.inr (.inl (n, g))) => if ¬ i < 0 ∧ i.toNatClampNeg < n then some (nx, ls, va_rf (g i.toNatClampNeg) :: r, S) else none
      | _ => none
    | _ => none
  | 40 => match st with
    | .ref v :: .int i :: .ref k :: r => match S.1[v]?, S.1[k]? with
      | some (.inr (.inr (ci, _))), some (.inr (.inl (n, g))) => if ci = a ∧ ¬ i < 0 ∧ i.toNatClampNeg < n then
          some (nx, ls, r, (S.1.set k (.inr (.inl (n, va_up g i.toNatClampNeg (some v)))), S.2.1, S.2.2)) else none
      | _, _ => none
    | .null :: .int i :: .ref k :: r => match S.1[k]? with
      | some (.inr (.inl (n, g))) => if ¬ i < 0 ∧ i.toNatClampNeg < n then
          some (nx, ls, r, (S.1.set k (.inr (.inl (n, va_up g i.toNatClampNeg none))), S.2.1, S.2.2)) else none
      | _ => none
    | _ => none
  | 41 => match st with
    | .int n :: .int dp :: .ref k1 :: .int sp :: .ref k0 :: r => match S.1[k0]?, S.1[k1]? with
      | some (.inl (false, n0, f)), some (.inl (false, n1, g)) => if ¬ sp < 0 ∧ ¬ dp < 0 ∧ ¬ n < 0 ∧ sp.toNatClampNeg + n.toNatClampNeg ≤ n0 ∧ dp.toNatClampNeg + n.toNatClampNeg ≤ n1 ∧ 1 ≤ d ∧ r.length ≤ 8 then
          some (nx, ls, r, (S.1.set k1 (.inl (false, n1, va_cpy f g sp.toNatClampNeg dp.toNatClampNeg n.toNatClampNeg)), S.2.1, S.2.2)) else none
      | _, _ => none
    | _ => none
  | 42 => match st with
    | .int n :: .int dp :: .ref k1 :: .int sp :: .ref k0 :: r => match S.1[k0]?, S.1[k1]? with
      | some (.inr (.inl (n0, f))), some (.inr (.inl (n1, g))) => if ¬ sp < 0 ∧ ¬ dp < 0 ∧ ¬ n < 0 ∧ sp.toNatClampNeg + n.toNatClampNeg ≤ n0 ∧ dp.toNatClampNeg + n.toNatClampNeg ≤ n1 ∧ 1 ≤ d ∧ r.length ≤ 8 ∧
            (List.range n.toNatClampNeg).all (fun i => match f (sp.toNatClampNeg + i) with
              | none => true
              | some j => match S.1[j]? with
                | some (.inr (.inr (ci, _))) => decide (ci = a)
                | _ => false) = true then
          some (nx, ls, r, (S.1.set k1 (.inr (.inl (n1, va_cpy f g sp.toNatClampNeg dp.toNatClampNeg n.toNatClampNeg))), S.2.1, S.2.2)) else none
      | _, _ => none
    | _ => none
  | 43 => some (nx, ls, .long 0 :: st, S)
  | 44 => match st with
    | .ref k :: r => match S.1[k]? with
      | some (.inr (.inl _)) => if 1 ≤ d ∧ r.length ≤ 8 then some (nx, ls, .long 1 :: r, S) else none
      | _ => none
    | _ => none
  | 45 => some (nx, ls, .long 1 :: st, S)
  | _ => none
/-- what a method answers at its end: nothing, a number, a reference, a truth -/
def am_ret (op : Nat) (st : List Value) : Option (Option Value) := match op, st with
  | 33, [.int v] => some (some (.int v))
  | 34, [.ref k] => some (some (.ref k))
  | 34, [.null] => some (some .null)
  | 35, [] => some none
  | 36, [.int v] => if v = 0 ∨ v = 1 then some (some (.int v)) else none
  | _, _ => none
/-- may this be called upon: kc = 0: a static method; 1: any object; k + 2: an object of the class k -/
def am_recv (kc : Nat) (as : List Value) (S : am_S) : Bool := match kc, as with
  | 0, _ => true
  | 1, .ref _ :: _ => true
  | k + 2, .ref r :: _ => match S.1[r]? with
    | some (.inr (.inr (ci, _))) => decide (ci = k)
    | _ => false
  | _, _ => false
def am_in (as : List Value) (m : Nat) : am_V := as.map some ++ List.replicate (m - as.length) none
def am_run (P : am_P) : Nat → Nat → Nat → Nat → am_V → List Value → am_S → Option (Option (Option Value) × am_S)
  | 0, _, _, _, _, _, _ => none
  | n + 1, d, M, pc, ls, st, S => match P.1 M pc with
    | none => none
    | some (op, a, b, c, x, nx, tab) =>
      if op = 32 then
        if b ≤ st.length ∧ st.length ≤ b + 8 ∧ b ≤ P.2.2.1 a ∧ am_recv c (st.take b).reverse S = true then match d with
          | 0 => none
          | d' + 1 => match am_run P n d' a 0 (am_in (st.take b).reverse (P.2.2.1 a)) [] S with
            | none => none
            | some (some v, S') => am_run P n (d' + 1) M nx ls (v.toList ++ st.drop b) S'
            | some (none, S') => match P.2.2.2 M pc with
              | none => some (none, S')
              | some (h, j) => am_run P n (d' + 1) M h (ls.set j none) [] S'
        else none
      else if op = 37 then (if 12 ≤ d ∧ st.length ≤ 8 then some (none, (S.1, S.2.1 + 1, S.2.2 + 6)) else none)
      else if 33 ≤ op ∧ op ≤ 36 then match am_ret op st with
        | none => none
        | some v => some (some v, S)
      else match am_do P.2.1 op a b c x nx tab d ls st S with
        | none => none
        | some (pc', ls', st', S') => am_run P n d M pc' ls' st' S'
/-- more fuel, the same end -/
theorem am_more (P : am_P) : ∀ (n : Nat) (d M pc : Nat) (ls : am_V) (st : List Value) (S : am_S) (r : Option (Option Value) × am_S), am_run P n d M pc ls st S = some r → am_run P (n + 1) d M pc ls st S = some r := by
  intro n
  induction n with
  | zero => intro d M pc ls st S r h; simp [am_run] at h
  | succ n ih =>
    intro d M pc ls st S r h
    rw [am_run] at h ⊢
    cases hi : P.1 M pc with
    | none => rw [hi] at h; cases h
    | some i =>
      obtain ⟨op, a, b, c, x, nx, tab⟩ := i
      rw [hi] at h
      dsimp only at h ⊢
      by_cases h32 : op = 32
      · rw [if_pos h32] at h ⊢
        by_cases hb : b ≤ st.length ∧ st.length ≤ b + 8 ∧ b ≤ P.2.2.1 a ∧ am_recv c (st.take b).reverse S = true
        · rw [if_pos hb] at h ⊢
          cases d with
          | zero => cases h
          | succ d' =>
            dsimp only at h ⊢
            cases hc : am_run P n d' a 0 (am_in (st.take b).reverse (P.2.2.1 a)) [] S with
            | none => rw [hc] at h; cases h
            | some q =>
              rw [hc] at h
              rw [ih _ _ _ _ _ _ _ hc]
              obtain ⟨o, S'⟩ := q
              cases o with
              | some v => exact ih _ _ _ _ _ _ _ h
              | none =>
                dsimp only at h ⊢
                cases hh : P.2.2.2 M pc with
                | none => rw [hh] at h; exact h
                | some q => rw [hh] at h; exact ih _ _ _ _ _ _ _ h
        · rw [if_neg hb] at h; cases h
      · rw [if_neg h32] at h ⊢
        by_cases h37 : op = 37
        · rw [if_pos h37] at h ⊢; exact h
        · rw [if_neg h37] at h ⊢
          by_cases h33 : 33 ≤ op ∧ op ≤ 36
          · rw [if_pos h33] at h ⊢; exact h
          · rw [if_neg h33] at h ⊢
            cases hd : am_do P.2.1 op a b c x nx tab d ls st S with
            | none => rw [hd] at h; cases h
            | some q => rw [hd] at h; exact ih _ _ _ _ _ _ _ h
theorem am_le {P : am_P} {n k d M pc : Nat} {ls : am_V} {st : List Value} {S : am_S} {r : Option (Option Value) × am_S} (hk : n ≤ k) (h : am_run P n d M pc ls st S = some r) : am_run P k d M pc ls st S = some r := by
  induction hk with
  | refl => exact h
  | step _ ih => exact am_more P _ _ _ _ _ _ _ _ ih
/-- a run to its end, with fuel enough -/
def am_R (P : am_P) (d M pc : Nat) (ls : am_V) (st : List Value) (S : am_S) (o : Option (Option Value)) (S' : am_S) : Prop := ∃ n, am_run P n d M pc ls st S = some (o, S')
theorem am_R.go {P : am_P} {d M pc pc' : Nat} {ls ls' : am_V} {st st' : List Value} {S S1 S' : am_S} {o : Option (Option Value)} {op a b c nx : Nat} {x : Int32} {tab : List (Int32 × Nat)} (hi : P.1 M pc = some (op, a, b, c, x, nx, tab)) (h0 : ¬ op = 32 ∧ ¬ op = 37 ∧ ¬ (33 ≤ op ∧ op ≤ 36)) (hd : am_do P.2.1 op a b c x nx tab d ls st S = some (pc', ls', st', S1))
    (k : am_R P d M pc' ls' st' S1 o S') : am_R P d M pc ls st S o S' := by
  obtain ⟨n, k⟩ := k
  refine ⟨n + 1, ?_⟩
  rw [am_run, hi]
  dsimp only
  rw [if_neg h0.1, if_neg h0.2.1, if_neg h0.2.2, hd]
  exact k
theorem am_R.ret {P : am_P} {d M pc : Nat} {ls : am_V} {st : List Value} {S : am_S} {v : Option Value} {op a b c nx : Nat} {x : Int32} {tab : List (Int32 × Nat)} (hi : P.1 M pc = some (op, a, b, c, x, nx, tab)) (h0 : 33 ≤ op ∧ op ≤ 36) (hv : am_ret op st = some v) : am_R P d M pc ls st S (some v) S := by
  refine ⟨1, ?_⟩
  rw [am_run, hi]
  dsimp only
  rw [if_neg (by omega), if_neg (by omega), if_pos h0, hv]
theorem am_R.thr {P : am_P} {d M pc : Nat} {ls : am_V} {st : List Value} {S : am_S} {a b c nx : Nat} {x : Int32} {tab : List (Int32 × Nat)} (hi : P.1 M pc = some (37, a, b, c, x, nx, tab)) (h0 : 12 ≤ d ∧ st.length ≤ 8) : am_R P d M pc ls st S none (S.1, S.2.1 + 1, S.2.2 + 6) := by
  refine ⟨1, ?_⟩
  rw [am_run, hi]
  dsimp only
  rw [if_neg (by omega), if_pos rfl, if_pos h0]
/-- a call that comes back -/
theorem am_R.call {P : am_P} {d M pc : Nat} {ls : am_V} {st : List Value} {S S1 S' : am_S} {o : Option (Option Value)} {v : Option Value} {a b c nx : Nat} {x : Int32} {tab : List (Int32 × Nat)} (hi : P.1 M pc = some (32, a, b, c, x, nx, tab)) (h0 : b ≤ st.length ∧ st.length ≤ b + 8 ∧ b ≤ P.2.2.1 a ∧ am_recv c (st.take b).reverse S = true)
    (hc : am_R P d a 0 (am_in (st.take b).reverse (P.2.2.1 a)) [] S (some v) S1) (k : am_R P (d + 1) M nx ls (v.toList ++ st.drop b) S1 o S') : am_R P (d + 1) M pc ls st S o S' := by
  obtain ⟨n1, hc⟩ := hc
  obtain ⟨n2, k⟩ := k
  refine ⟨max n1 n2 + 1, ?_⟩
  rw [am_run, hi]
  dsimp only
  rw [if_pos rfl, if_pos h0, am_le (Nat.le_max_left n1 n2) hc]
  exact am_le (Nat.le_max_right n1 n2) k
/-- a call that throws, and nothing here catches it -/
theorem am_R.callX {P : am_P} {d M pc : Nat} {ls : am_V} {st : List Value} {S S1 : am_S} {a b c nx : Nat} {x : Int32} {tab : List (Int32 × Nat)} (hi : P.1 M pc = some (32, a, b, c, x, nx, tab)) (h0 : b ≤ st.length ∧ st.length ≤ b + 8 ∧ b ≤ P.2.2.1 a ∧ am_recv c (st.take b).reverse S = true)
    (hc : am_R P d a 0 (am_in (st.take b).reverse (P.2.2.1 a)) [] S none S1) (hh : P.2.2.2 M pc = none) : am_R P (d + 1) M pc ls st S none S1 := by
  obtain ⟨n1, hc⟩ := hc
  refine ⟨n1 + 1, ?_⟩
  rw [am_run, hi]
  dsimp only
  rw [if_pos rfl, if_pos h0, hc]
  dsimp only
  rw [hh]
/-- a call that throws, and it is caught -/
theorem am_R.callC {P : am_P} {d M pc h j : Nat} {ls : am_V} {st : List Value} {S S1 S' : am_S} {o : Option (Option Value)} {a b c nx : Nat} {x : Int32} {tab : List (Int32 × Nat)} (hi : P.1 M pc = some (32, a, b, c, x, nx, tab)) (h0 : b ≤ st.length ∧ st.length ≤ b + 8 ∧ b ≤ P.2.2.1 a ∧ am_recv c (st.take b).reverse S = true)
    (hc : am_R P d a 0 (am_in (st.take b).reverse (P.2.2.1 a)) [] S none S1) (hh : P.2.2.2 M pc = some (h, j)) (k : am_R P (d + 1) M h (ls.set j none) [] S1 o S') : am_R P (d + 1) M pc ls st S o S' := by
  obtain ⟨n1, hc⟩ := hc
  obtain ⟨n2, k⟩ := k
  refine ⟨max n1 n2 + 1, ?_⟩
  rw [am_run, hi]
  dsimp only
  rw [if_pos rfl, if_pos h0, am_le (Nat.le_max_left n1 n2) hc]
  dsimp only
  rw [hh]
  exact am_le (Nat.le_max_right n1 n2) k
end
section
/-! CALLS THAT MAY COME BACK OR THROW, over the library: a contract whose end may be either -/
/-- what has moved at a method's end, whichever it is -/
def am_End (first t : State) (L : List Loc) (k n : Nat) : Prop := first.WarmedH t.vm ∧ first.sameButNew ({ t with vm := first.vm } : State) L k n
def am_Q (Qc : Array Value → State → Outcome → State → Prop) (mc ms : Nat) (free : Addr → Prop) : Array Value → State → Outcome → State → Prop := fun a st o t =>
  Qc a st o t ∧ ∃ L, am_End st t L mc ms ∧ ∀ q ∈ L, free q.base
def am_Met (l : Launch) (y : MethodName) (ws : List Cond) (rm : Room) (Pc : Array Value → State → Prop) (Qc : Array Value → State → Outcome → State → Prop) (mc ms : Nat) (free : Addr → Prop) : Prop :=
  MetFree l y (headSpec ws rm) Pc (fun _ _ _ _ _ => True) (am_Q Qc mc ms free)
def am_MQ (below : List Frame) (Qc : Array Value → State → Outcome → State → Prop) (a : Array Value) (s : State) (mc ms : Nat) (free : Addr → Prop) : State → Prop := fun t =>
  ∃ o, t.status = .running ∧ Ended t below o ∧ am_Q Qc mc ms free a s o t
section AM1
variable {p : Program} {l : Launch} {e : Env} {R : Room} {s : State} {m : MethodId} {args : Array Value} {below : List Frame} {meth : Method} {c : Code} {H : Heap} {locs : List Loc} {cells slots : Nat} {Q : State → Prop}
variable {Qc : Array Value → State → Outcome → State → Prop} {mc ms : Nat} {free : Addr → Prop}
/-- an end by return is such an end -/
theorem am_MQ.of {g : JFrame} (k : W p l e R s m args below meth c H locs cells slots (MQ below Qc args s mc ms free) g) : W p l e R s m args below meth c H locs cells slots (am_MQ below Qc args s mc ms free) g := by
  intro T hT X
  obtain ⟨t, a1, o, b1, b2, b3, L, ⟨-, hW, hs⟩, hL⟩ := k T hT X
  exact ⟨t, a1, o, b1, b2, b3, L, ⟨hW, hs⟩, hL⟩
theorem am_ofW {y : MethodName} {ws ws' : List Cond} {rm : Room} {Pc : Array Value → State → Prop} {cc : ByteArray} {maxL : Nat} {ret : Option FieldType}
    (hy : plainFor y = true) (hw : ws = Cond.code y cc maxL ret :: ws')
    (body : ∀ p e s m args below meth c s₁, BodyLoose p l y (headSpec ws rm) cc maxL ret e s m args below meth c s₁ → c.maxLocals = maxL → Pc args s →
      W p l e (headSpec ws rm).room s m args below meth c s.heap [] 0 0 (am_MQ below Qc args s mc ms free) (entryFrame m args maxL)) : am_Met l y ws rm Pc Qc mc ms free := by
  refine MetFree.of_bodySF (code := cc) (maxLocals := maxL) (ret := ret) hy ?_ ?_
  · intro args s m h hn
    obtain ⟨meth, c, h1, h2, h3, h4, h5, h6, -, -⟩ := Cond.code_spec hn (atoms_spec (ws := ws) h _ (by rw [hw]; exact List.mem_cons_self))
    exact ⟨meth, c, h1, h2, h3, h4, h5, h6⟩
  · intro p e s m args below meth c s₁ B hml hP _
    have hh0 : s₁.heap = s.heap := by rw [B.state]; rfl
    obtain ⟨t, a1, o, b1, b2, b3⟩ := body p e s m args below meth c s₁ B hml hP s₁ hh0 (Stand.of_body B)
    exact ⟨t, o, a1, b1, b2, b3⟩
end AM1
/-- what a callee that may throw gives its caller: the walk goes on behind the call, or stands with the note of what was thrown -/
def am_Bk (l : Launch) (R : Room) (p : Program) (e : Env) (below : List Frame) (s : State) (sargs : Array Value) (y : MethodName) (len W9 : Nat) (Pre : Pt → Array Value → Prop)
    (Qc : Array Value → State → Outcome → State → Prop) (mc ms : Nat) (free : Addr → Prop) : Prop :=
  ∀ (m : MethodId) (meth : Method) (c : Code) (A : Pt) (g : JFrame) (ig : Instr) (mk : MethodId) (a : Array Value),
    Stand p l e R s m sargs below meth c A.U A.locs A.cells A.slots → g.method = m → g.locals.size = c.maxLocals → decode c.code g.pc = .ok (ig, len) →
    2 * g.monitorRoom + (g.stack.map fun v => v.category).sum ≤ W9 → A.U.methodNamed? y = some mk → Pre A a →
    ∃ (o : Outcome) (t U' : State) (L : List Loc), Stand p l e R s m sargs below meth c U' (A.locs ++ L) (A.cells + mc) (A.slots + ms) ∧ U'.heap = t.heap ∧ U'.vm = t.vm ∧ (∀ q ∈ L, free q.base) ∧ Qc a (A.U.calling g mk a) o t ∧
      ((∃ v, o = .returned v ∧ Steps p.tables e below (doInvoke e (A.U.setTop g) [] mk a).1 (U'.setTop { g with pc := g.pc + len, stack := v.toList ++ g.stack })) ∨
       (∃ q, o = .threw q ∧ Steps p.tables e below (doInvoke e (A.U.setTop g) [] mk a).1 ((U'.setTop g).pushFrame (.throwing q))))
set_option maxHeartbeats 1000000 in
theorem am_back {l : Launch} {R : Room} {p : Program} {e : Env} {below : List Frame} {s : State} {sargs : Array Value} {y : MethodName} {len W9 : Nat} {ws : List Cond} {rm : Room} {Pc : Array Value → State → Prop} {Qc : Array Value → State → Outcome → State → Prop} {mc ms : Nat} {free : Addr → Prop} {bytes : ByteArray} {maxL : Nat} {ret : Option FieldType}
    (hM : am_Met l y ws rm Pc Qc mc ms free) (hblind : FrameBlind Pc) (hrc : rm.cells = mc) (hrs : rm.slots = ms)
    (hframes : rm.frames + 1 ≤ R.frames) (hlocals : W9 + (maxL + 11) + rm.locals ≤ R.locals)
    (hws : ∀ w ∈ ws, ∀ a' U, s.WarmedH U.vm → w.before a' U = true) (hcode : ∀ a' U, s.WarmedH U.vm → (Cond.code y bytes maxL ret).before a' U = true) (hinit : ∀ a' U, s.WarmedH U.vm → (Cond.initialized y.cls).before a' U = true) :
    am_Bk l R p e below s sargs y len W9 (PreOf R mc ms Pc) Qc mc ms free := by
  intro m meth c A g ig mk a X hg hsize hdg hW hn hp
  obtain ⟨U, Ls, c0, s0⟩ := A
  obtain ⟨h4, h5, hPc⟩ := hp
  dsimp only [Pt.U, Pt.locs, Pt.cells, Pt.slots] at h4 h5 hPc X hn ⊢
  have h1 : (headSpec ws rm).pre.before a U = true := atoms_intro fun w hw => hws w hw _ _ X.warmed
  obtain ⟨methY, cY, hmY, hcY, -, hlY, -, -, -, -⟩ := Cond.code_spec hn (hcode a U X.warmed)
  obtain ⟨kY, hkY, -⟩ := className_of_methodNamed hn
  have hinitY : kY.init = .initialized := Cond.initialized_spec (findClass_of_methodNamed hn) hkY (hinit a U X.warmed)
  have h : At U g.method c below := by rw [hg]; exact X.here
  have happ : (headSpec ws rm).appliesLoose y e.platform (U.calling g mk a) = true :=
    Spec.appliesLoose_calling (g := g) h hdg hn hkY hinitY
      (X.room_calling (g := g) (R' := rm) hsize hmY hcY hframes (by rw [hlY]; omega) (by rw [hrc]; exact h4) (by rw [hrs]; exact h5)) h1
  obtain ⟨mid, hmid⟩ := h.above
  have hfr : (U.setTop g).frames = (.java g :: mid) ++ below := by rw [State.frames_setTop' g h.top, hmid]; rfl
  obtain ⟨o, s₂, hsteps, -, hend, hq0⟩ := Steps.callFree hM p X.admits X.cas X.clock (acts := []) hfr happ (hblind _ _ g mk hPc) trivial
  have hq1 : am_Q Qc mc ms free a (U.calling g mk a) o s₂ := hq0
  obtain ⟨hq, L, ⟨hW₂, e2, q2, q3, q4, q5, q6⟩, hL⟩ := hq1
  rw [State.frames_setTop' g h.top] at hend
  have e3 : s₂ = ({ (U.calling g mk a).setFrames s₂.frames with heap := s₂.heap, slotsUsed := s₂.slotsUsed } : State).setVm s₂.vm := by
    have : s₂ = ({ s₂ with vm := (U.calling g mk a).vm } : State).setVm s₂.vm := rfl
    rw [e2] at this
    exact this
  have hW' : U.WarmedH s₂.vm := hW₂
  obtain ⟨g₀, hg0⟩ := Option.isSome_iff_exists.mp h.top
  obtain ⟨r, hr⟩ := State.topJava?_eq_some.mp hg0
  have hr' : (({ U with heap := s₂.heap, slotsUsed := s₂.slotsUsed } : State).setVm s₂.vm).frames = .java g₀ :: r := hr
  have hsame : U.sameButNew ({ U with heap := s₂.heap, slotsUsed := s₂.slotsUsed } : State) L mc ms := by
    refine ⟨?_, q2, q3, q4, q5, q6⟩
    obtain ⟨t, ht, -⟩ := State.frames_cons hr
    show ({ U with heap := s₂.heap, slotsUsed := s₂.slotsUsed } : State) = { U.setFrames U.frames with heap := s₂.heap, slotsUsed := s₂.slotsUsed }
    rw [State.setFrames_self ht]
  subst hg
  refine ⟨o, s₂, (({ U with heap := s₂.heap, slotsUsed := s₂.slotsUsed } : State).setVm s₂.vm), L,
    ⟨X.admits, X.cas, X.clock, X.frames, X.room, X.hears, X.method, X.code, (X.here.setHeapUsed s₂.heap s₂.slotsUsed).setVm hW'.alike, X.tail, State.WarmedH.trans X.warmed hW', X.limits, X.bytes, X.same.trans (hsame.setVm s.vm)⟩,
    rfl, rfl, hL, hq, ?_⟩
  cases o with
  | returned v =>
    obtain ⟨c₂, i₂, len₂, hc₂, hd₂, hf₂⟩ := hend
    have hcc : c₂ = c := by
      have h1 : s₂.code? g.method = U.code? g.method := by
        rw [State.code?_eq, State.code?_eq, hW'.alike.method?]
      exact Option.some.inj (hc₂.symm.trans (h1.trans h.code))
    subst hcc
    have hlen : len₂ = len := by rw [hdg] at hd₂; cases hd₂; rfl
    subst hlen
    have hs₂ : s₂ = (({ U with heap := s₂.heap, slotsUsed := s₂.slotsUsed } : State).setVm s₂.vm).setTop { g with pc := g.pc + len₂, stack := v.toList ++ g.stack } := by
      refine e3.trans ?_
      rw [hf₂, State.calling_eq h.top, State.setFrames_setFrames, State.setTop_of_frames _ hr', hr]
      rfl
    refine Or.inl ⟨v, rfl, ?_⟩
    rw [← hs₂]
    exact hsteps
  | threw q =>
    have hf₂ : s₂.frames = .throwing q :: .java g :: U.frames.tail := hend
    have hs₂ : s₂ = ((({ U with heap := s₂.heap, slotsUsed := s₂.slotsUsed } : State).setVm s₂.vm).setTop g).pushFrame (.throwing q) := by
      refine e3.trans ?_
      rw [hf₂, State.calling_eq h.top, State.setFrames_setFrames, State.pushFrame, State.frames_setTop _ hr', State.setTop_of_frames _ hr', State.setFrames_setFrames, hr]
      rfl
    refine Or.inr ⟨q, rfl, ?_⟩
    rw [← hs₂]
    exact hsteps
end
section
/-! A CALL, whichever instruction makes it -/
section AM2
variable {p : Program} {l : Launch} {e : Env} {R : Room} {s : State} {m : MethodId} {args : Array Value} {below : List Frame} {meth : Method} {c : Code} {H : Heap} {locs : List Loc} {cells slots : Nat} {Q : State → Prop}
/-- the walk stands with the note of what was thrown over its frame -/
def am_X (p : Program) (l : Launch) (e : Env) (R : Room) (s : State) (m : MethodId) (args : Array Value) (below : List Frame) (meth : Method) (c : Code) (H : Heap) (locs : List Loc) (cells slots : Nat) (Q : State → Prop) (g : JFrame) (q : Addr) : Prop :=
  ∀ T : State, T.heap = H → Stand p l e R s m args below meth c T locs cells slots → ∃ t, Steps p.tables e below ((T.setTop g).pushFrame (.throwing q)) t ∧ Q t
/-- an instruction at g calls y with the values A, and leaves 'rest' -/
def am_Inv (p : Program) (l : Launch) (e : Env) (R : Room) (s : State) (m : MethodId) (args : Array Value) (below : List Frame) (meth : Method) (c : Code) (H : Heap) (locs : List Loc) (cells slots : Nat) (g : JFrame) (rest : List Value) (y : MethodName) (A : Array Value) : Prop :=
  (∃ ig, decode c.code g.pc = .ok (ig, 3)) ∧ g.method = m ∧ ∀ T : State, T.heap = H → Stand p l e R s m args below meth c T locs cells slots → ∃ (vm₁ : Vm) (mk : MethodId), Stand p l e R s m args below meth c (T.setVm vm₁) locs cells slots ∧ (T.setVm vm₁).methodNamed? y = some mk ∧
    ∀ target, (∀ acts, Steps p.tables e below (doInvoke e ((T.setVm vm₁).setTop { g with stack := rest }) acts mk A).1 target) → Steps p.tables e below (T.setTop g) target
variable {y : MethodName} {bytes cc : ByteArray} {maxL index : Nat} {ret : Option FieldType} {own C host : String} {b : Addr} {As rest : List Value} {g : JFrame}
theorem am_invV (hexec : p.tables.exec = Jvm.exec) (hb : c.code = cc) (hown : s.vm.findClass own = some m.cls) (hlink : (Cond.methodLink own index y).before args s = true) (hinst : (Cond.instanceMethod y).before args s = true) (hsel : (Cond.selects C y y).before args s = true)
    (hcode : (Cond.code y bytes maxL ret).before args s = true) (hy : y.cls ≠ "java/lang/invoke/MethodHandle" ∧ y.cls ≠ "java/lang/invoke/VarHandle")
    (hrecv : ∃ cellB : Cell, H[b]? = some cellB ∧ cellB.vm.isStatics = false ∧ s.vm.findClass C = some cellB.cls) (hg : g.method = m) (hlen : ∀ sig, parseMethodDescriptor y.desc = some sig → As.length = sig.parameters.length)
    (hstack : g.stack = As.reverse ++ .ref b :: rest) (hdg : decode cc g.pc = .ok (.invokevirtual index, 3)) : am_Inv p l e R s m args below meth c H locs cells slots g rest y (Value.ref b :: As).toArray := by
  refine ⟨⟨_, by rw [hb]; exact hdg⟩, hg, fun T hT X => ?_⟩
  obtain ⟨cellB, hcell, hobj, hcls⟩ := hrecv
  obtain ⟨mk, methM, hnamed, hmethM, hstM, habM⟩ := Cond.instanceMethod_spec hinst
  obtain ⟨methM', cM, hmethM', -, -, -, -, -, -, hsigM⟩ := Cond.code_spec hnamed hcode
  cases hmethM.symm.trans hmethM'
  obtain ⟨c2, r2, m2, q1, q2, q3, q4, kP, hkP, hkPi⟩ := Cond.selects_spec hsel
  cases hcls.symm.trans q1
  cases (State.methodFound?_of_named hnamed hy).symm.trans q2
  cases hnamed.symm.trans q3
  have hselP : selectMethod e.platform s.vm cellB.cls mk = .method mk := by rw [Launch.admits_selectMethod X.admits]; exact q4
  obtain ⟨vm₁, X₁, hstep₁⟩ := X.invokevirtual hexec hown hlink hnamed hmethM hstM hkP hkPi hy (a := b) (cell := cellB) (by rw [hT]; exact hcell)
    (fun z h => by rw [h] at hobj; cases hobj) hselP hmethM habM hkP hkPi (g := g) hg (argsL := As) (rest := rest) (hlen _ hsigM) hstack (by rw [hb]; exact hdg)
  exact ⟨vm₁, mk, X₁, X₁.named hnamed, hstep₁⟩
theorem am_invS (hexec : p.tables.exec = Jvm.exec) (hb : c.code = cc) (hown : s.vm.findClass own = some m.cls) (hlink : (Cond.methodLink own index y).before args s = true) (hstat : (Cond.static y).before args s = true) (hinit : (Cond.initialized y.cls).before args s = true)
    (hcode : (Cond.code y bytes maxL ret).before args s = true) (hy : y.cls ≠ "java/lang/invoke/MethodHandle" ∧ y.cls ≠ "java/lang/invoke/VarHandle") (hg : g.method = m) (hlen : ∀ sig, parseMethodDescriptor y.desc = some sig → As.length = sig.parameters.length)
    (hstack : g.stack = As.reverse ++ rest) (hdg : decode cc g.pc = .ok (.invokestatic index, 3)) : am_Inv p l e R s m args below meth c H locs cells slots g rest y As.toArray := by
  refine ⟨⟨_, by rw [hb]; exact hdg⟩, hg, fun T hT X => ?_⟩
  obtain ⟨mk, hnamed⟩ := Cond.code_named hcode
  obtain ⟨methM, cM, hmethM, -, -, -, -, -, -, hsigM⟩ := Cond.code_spec hnamed hcode
  have hstatic : methM.isStatic = true := Cond.static_spec hnamed hmethM hstat
  obtain ⟨kP, hkP, -⟩ := className_of_methodNamed hnamed
  have hinitP : kP.init = .initialized := Cond.initialized_spec (findClass_of_methodNamed hnamed) hkP hinit
  obtain ⟨vm₁, X₁, hstep₁⟩ := X.invokestatic hexec hown hlink hnamed hmethM hstatic hkP hinitP hy (g := g) hg (argsL := As) (rest := rest) (hlen _ hsigM) hstack (by rw [hb]; exact hdg)
  exact ⟨vm₁, mk, X₁, X₁.named hnamed, hstep₁⟩
theorem am_invI (hexec : p.tables.exec = Jvm.exec) (hb : c.code = cc) (hown : s.vm.findClass own = some m.cls) (hy1 : y.name = "<init>") (hlink : (Cond.methodLink own index y).before args s = true) (hinst : (Cond.instanceMethod y).before args s = true)
    (hcode : (Cond.code y bytes maxL none).before args s = true) (hy : y.cls ≠ "java/lang/invoke/MethodHandle" ∧ y.cls ≠ "java/lang/invoke/VarHandle") (hg : g.method = m) (hlen : ∀ sig, parseMethodDescriptor y.desc = some sig → As.length = sig.parameters.length)
    (hstack : g.stack = As.reverse ++ .ref b :: rest) (hdg : decode cc g.pc = .ok (.invokespecial index, 3)) : am_Inv p l e R s m args below meth c H locs cells slots g rest y (Value.ref b :: As).toArray := by
  refine ⟨⟨_, by rw [hb]; exact hdg⟩, hg, fun T hT X => ?_⟩
  subst hg
  have hpl : e.platform.magicAccessors = ({} : Platform).magicAccessors := by rw [X.admits.platform]
  obtain ⟨mk, methM, cM, kP, vm₁, hnamed, -, -, -, -, -, -, -, hW₁, hstep₁⟩ := Steps.initColdArgs (e := e) X.here hexec X.warmed hpl hown hy1 hy hlink hinst hcode (f := g) rfl hlen hstack (by rw [hb]; exact hdg)
  have X₁ := X.noted hW₁
  exact ⟨vm₁, mk, X₁, X₁.named hnamed, hstep₁⟩
theorem am_invIN (hexec : p.tables.exec = Jvm.exec) (hb : c.code = cc) (hown : s.vm.findClass own = some m.cls) (hy1 : y.name = "<init>") (hlink : (Cond.methodLinkNest own index y host).before args s = true) (hinst : (Cond.instanceMethod y).before args s = true)
    (hcode : (Cond.code y bytes maxL none).before args s = true) (hy : y.cls ≠ "java/lang/invoke/MethodHandle" ∧ y.cls ≠ "java/lang/invoke/VarHandle") (hg : g.method = m) (hlen : ∀ sig, parseMethodDescriptor y.desc = some sig → As.length = sig.parameters.length)
    (hstack : g.stack = As.reverse ++ .ref b :: rest) (hdg : decode cc g.pc = .ok (.invokespecial index, 3)) : am_Inv p l e R s m args below meth c H locs cells slots g rest y (Value.ref b :: As).toArray := by
  refine ⟨⟨_, by rw [hb]; exact hdg⟩, hg, fun T hT X => ?_⟩
  subst hg
  have hpl : e.platform.magicAccessors = ({} : Platform).magicAccessors := by rw [X.admits.platform]
  obtain ⟨mk, methM, cM, kP, vm₁, hnamed, -, -, -, -, -, -, -, hW₁, hstep₁⟩ := Steps.initColdArgsNest (e := e) X.here hexec X.warmed hpl hown hy1 hy hlink hinst hcode (f := g) rfl hlen hstack (by rw [hb]; exact hdg)
  have X₁ := X.noted hW₁
  exact ⟨vm₁, mk, X₁, X₁.named hnamed, hstep₁⟩
variable {ws : List Cond} {rm : Room} {Pc : Array Value → State → Prop} {Qc : Array Value → State → Outcome → State → Prop} {mc ms : Nat} {free : Addr → Prop} {A : Array Value}
/-- the walk over a call -/
theorem am_callW (hi : am_Inv p l e R s m args below meth c H locs cells slots g rest y A) (hM : am_Met l y ws rm Pc Qc mc ms free) (hblind : FrameBlind Pc) (hrc : rm.cells = mc) (hrs : rm.slots = ms)
    (hR : rm.frames + 1 ≤ R.frames ∧ 8 + (maxL + 11) + rm.locals ≤ R.locals) (hws : ∀ w ∈ ws, ∀ a' U, s.WarmedH U.vm → w.before a' U = true) (hcode : ∀ a' U, s.WarmedH U.vm → (Cond.code y bytes maxL ret).before a' U = true) (hinit : ∀ a' U, s.WarmedH U.vm → (Cond.initialized y.cls).before a' U = true)
    (hsize : g.locals.size = c.maxLocals) (hW : 2 * g.monitorRoom + (rest.map fun v => v.category).sum ≤ 8) (hf : cells + mc ≤ R.cells ∧ slots + ms ≤ R.slots) (hPc : ∀ U : State, U.heap = H → s.WarmedH U.vm → Pc A U)
    (kk : ∀ (v : Option Value) (st₀ t : State) (L : List Loc), st₀.heap = H → s.WarmedH t.vm → (∀ q ∈ L, free q.base) → Qc A st₀ (.returned v) t → W p l e R s m args below meth c t.heap (locs ++ L) (cells + mc) (slots + ms) Q { g with pc := g.pc + 3, stack := v.toList ++ rest })
    (kx : ∀ (q : Addr) (st₀ t : State) (L : List Loc), st₀.heap = H → s.WarmedH t.vm → (∀ q ∈ L, free q.base) → Qc A st₀ (.threw q) t → am_X p l e R s m args below meth c t.heap (locs ++ L) (cells + mc) (slots + ms) Q { g with stack := rest } q) :
    W p l e R s m args below meth c H locs cells slots Q g := by
  obtain ⟨⟨ig, hdg⟩, hg, hi⟩ := hi
  intro T hT X
  obtain ⟨vm₁, mk, X₁, hnamed, hstep⟩ := hi T hT X
  obtain ⟨o, t, U', L, X', e1, e2, hL, hq, hor⟩ := am_back (bytes := bytes) (maxL := maxL) (ret := ret) hM hblind hrc hrs hR.1 hR.2 hws hcode hinit m meth c ⟨T.setVm vm₁, locs, cells, slots⟩ { g with stack := rest } ig mk A X₁ hg hsize hdg hW hnamed ⟨hf.1, hf.2, hPc _ hT X₁.warmed⟩
  have hWt : s.WarmedH t.vm := by rw [← e2]; exact X'.warmed
  rcases hor with ⟨v, rfl, hs⟩ | ⟨q, rfl, hs⟩
  · obtain ⟨t2, a1, b1⟩ := kk v ((T.setVm vm₁).calling { g with stack := rest } mk A) t L hT hWt hL hq U' e1 X'
    exact ⟨t2, hstep _ fun acts => by rw [doInvoke_state]; exact hs.trans a1, b1⟩
  · obtain ⟨t2, a1, b1⟩ := kx q ((T.setVm vm₁).calling { g with stack := rest } mk A) t L hT hWt hL hq U' e1 X'
    exact ⟨t2, hstep _ fun acts => by rw [doInvoke_state]; exact hs.trans a1, b1⟩
/-- not caught here -/
theorem am_outX {q : Addr} (hg : g.method = m) (hl1 : g.locked = none) (hl2 : g.entered = []) (hout : ∀ x ∈ c.exceptionTable.toList, covers x g.pc = false) (hlocks : meth.locks = false) (hx : ∀ t : State, t.heap = H → s.WarmedH t.vm → Qc args s (.threw q) t) (hf : ∀ z ∈ locs, free z.base) (hc : cells ≤ mc) (hs : slots ≤ ms) :
    am_X p l e R s m args below meth c H locs cells slots (am_MQ below Qc args s mc ms free) g q := by
  intro T hT X
  obtain ⟨st1, hrun, hend, hW, hsm⟩ := X.leaveThrown q (g := g) hg hl1 hl2 hout hlocks
  exact ⟨_, st1, .threw q, hrun, hend, hx _ hT hW, locs, ⟨hW, hsm.mono hc hs⟩, hf⟩
end AM2
end
section
/-! ABSTRACT CELLS AND THE HEAP: ad gives each cell's address, ca an array's class -/
def am_v (em : Int64 → Nat) (ad : Nat → Nat) (v : Value) : Value := match v with
  | .ref k => .ref (ad k)
  | .long z => .ref (em z)
  | v => v
def am_ce (em : Int64 → Nat) (ad : Nat → Nat) (cA : ClassId) (c : am_C) : va_E := match c with
  | .inl (_, n, f) => .inl (cA, n, .inl f)
  | .inr (.inl (n, g)) => .inl (cA, n, .inr (.inr (.inr (.inr (fun i => (g i).map ad)))))
  | .inr (.inr (ci, fs)) => .inr (ci, fs.map (am_v em ad))
def am_w (em : Int64 → Nat) (ad : Nat → Nat) (ca : Nat → ClassId) (h : List am_C) : va_W := h.mapIdx (fun k c => (ad k, am_ce em ad (ca k) c))
/-- every reference is a place of the list; no number of two words -/
def am_okv (n : Nat) (v : Value) : Prop := match v with
  | .int _ => True
  | .null => True
  | .long _ => True
  | .ref k => k < n
  | _ => False
def am_okc (n : Nat) (c : am_C) : Prop := match c with
  | .inl _ => True
  | .inr (.inl (_, g)) => ∀ i j, g i = some j → j < n
  | .inr (.inr (_, fs)) => ∀ v ∈ fs, am_okv n v
def am_ty (tys : List (ClassId × FieldType)) (cA : ClassId) (c : am_C) : Prop := match c with
  | .inl (false, _) => ∃ t0 : Nat, tys[t0]? = some (cA, .int)
  | .inl (true, _) => ∃ t0 : Nat, tys[t0]? = some (cA, .boolean)
  | .inr (.inl _) => ∃ t0 : Nat, tys[t0]? = some (cA, .object "java/lang/Object")
  | .inr (.inr _) => True
theorem am_okv.mono {n k : Nat} {v : Value} (h : am_okv n v) (hk : n ≤ k) : am_okv k v := by
  cases v <;> simp only [am_okv] at h ⊢
  exact Nat.lt_of_lt_of_le h hk
theorem am_okc.mono {n k : Nat} {c : am_C} (h : am_okc n c) (hk : n ≤ k) : am_okc k c := by
  rcases c with c | ⟨_, g⟩ | ⟨_, fs⟩
  · trivial
  · intro i j hj; exact Nat.lt_of_lt_of_le (h i j hj) hk
  · intro v hv; exact (h v hv).mono hk
theorem am_ty.more {tys t2 : List (ClassId × FieldType)} {cA : ClassId} {c : am_C} (h : am_ty tys cA c) : am_ty (tys ++ t2) cA c := by
  have key : ∀ ty, (∃ t0 : Nat, tys[t0]? = some (cA, ty)) → ∃ t0 : Nat, (tys ++ t2)[t0]? = some (cA, ty) := fun ty ⟨t0, h0⟩ => ⟨t0, by rw [List.getElem?_append_left (List.getElem?_eq_some_iff.mp h0).1]; exact h0⟩
  rcases c with ⟨b, x⟩ | x | x
  · cases b
    · exact key _ h
    · exact key _ h
  · exact key _ h
  · trivial
theorem am_v_eq {em : Int64 → Nat} {ad ad' : Nat → Nat} {n : Nat} (ha : ∀ k, k < n → ad' k = ad k) {v : Value} (h : am_okv n v) : am_v em ad' v = am_v em ad v := by
  cases v <;> simp only [am_okv, am_v] at h ⊢
  rw [ha _ h]
theorem am_ce_eq {em : Int64 → Nat} {ad ad' : Nat → Nat} {n : Nat} {cA : ClassId} (ha : ∀ k, k < n → ad' k = ad k) {c : am_C} (h : am_okc n c) : am_ce em ad' cA c = am_ce em ad cA c := by
  rcases c with c | ⟨m, g⟩ | ⟨ci, fs⟩
  · rfl
  · simp only [am_ce]
    have : (fun i => (g i).map ad') = fun i => (g i).map ad := by
      funext i
      cases hg : g i with
      | none => rfl
      | some j => simp only [Option.map_some]; rw [ha _ (h i j hg)]
    rw [this]
  · simp only [am_ce]
    have : fs.map (am_v em ad') = fs.map (am_v em ad) := List.map_congr_left fun v hv => am_v_eq ha (h v hv)
    rw [this]
theorem am_cat {em : Int64 → Nat} {n : Nat} {v : Value} (ad : Nat → Nat) (h : am_okv n v) : (am_v em ad v).category = 1 := by
  cases v <;> simp only [am_okv] at h <;> rfl
theorem am_w_len {em : Int64 → Nat} {ad : Nat → Nat} {ca : Nat → ClassId} {h : List am_C} : (am_w em ad ca h).length = h.length := by simp [am_w]
theorem am_w_get {em : Int64 → Nat} {ad : Nat → Nat} {ca : Nat → ClassId} {h : List am_C} {k : Nat} {c : am_C} (hk : h[k]? = some c) : (am_w em ad ca h)[k]? = some (ad k, am_ce em ad (ca k) c) := by
  simp [am_w, List.getElem?_mapIdx, hk]
theorem am_w_inv {em : Int64 → Nat} {ad : Nat → Nat} {ca : Nat → ClassId} {h : List am_C} {k : Nat} {q : Nat × va_E} (hk : (am_w em ad ca h)[k]? = some q) : ∃ c, h[k]? = some c ∧ q = (ad k, am_ce em ad (ca k) c) := by
  simp only [am_w, List.getElem?_mapIdx, Option.map_eq_some_iff] at hk
  obtain ⟨c, h1, h2⟩ := hk
  exact ⟨c, h1, h2.symm⟩
theorem am_w_set {em : Int64 → Nat} {ad : Nat → Nat} {ca : Nat → ClassId} {h : List am_C} {k : Nat} {c : am_C} : (am_w em ad ca h).set k (ad k, am_ce em ad (ca k) c) = am_w em ad ca (h.set k c) := by
  apply List.ext_getElem?
  intro i
  simp only [am_w, List.getElem?_set, List.getElem?_mapIdx, List.length_mapIdx]
  by_cases hi : k = i
  · subst hi
    simp only [if_true]
    split <;> simp
  · simp [hi]
theorem am_w_app {em : Int64 → Nat} {ad : Nat → Nat} {ca : Nat → ClassId} {h : List am_C} {q : Nat} {cA : ClassId} {c : am_C} {E : va_E} (hw : ∀ (k : Nat) (c : am_C), h[k]? = some c → am_okc h.length c) (hE : E = am_ce em (va_up ad h.length q) cA c) :
    am_w em ad ca h ++ [(q, E)] = am_w em (va_up ad h.length q) (va_up ca h.length cA) (h ++ [c]) := by
  apply List.ext_getElem?
  intro i
  rcases Nat.lt_trichotomy i h.length with hi | hi | hi
  · rw [List.getElem?_append_left (by rw [am_w_len]; exact hi)]
    obtain ⟨c0, h0⟩ : ∃ c0, h[i]? = some c0 := ⟨_, List.getElem?_eq_getElem hi⟩
    rw [am_w_get h0, am_w_get (c := c0) (by rw [List.getElem?_append_left hi]; exact h0)]
    have e1 : va_up ad h.length q i = ad i := by simp [va_up, Nat.ne_of_lt hi]
    have e2 : va_up ca h.length cA i = ca i := by simp [va_up, Nat.ne_of_lt hi]
    rw [e1, e2, am_ce_eq (ad := ad) (ad' := va_up ad h.length q) (n := h.length) (fun k hk => if_neg (Nat.ne_of_lt hk)) (hw i c0 h0)]
  · subst hi
    have e1 : (am_w em ad ca h ++ [(q, E)])[h.length]? = some (q, E) := by
      rw [List.getElem?_append_right (by rw [am_w_len]; exact Nat.le_refl _), am_w_len]
      simp
    rw [e1, am_w_get (c := c) (by simp), hE]
    simp [va_up]
  · rw [List.getElem?_eq_none (by simp [am_w_len]; omega), List.getElem?_eq_none (by simp [am_w_len]; omega)]
/-- the heap holds the cells -/
def am_Rl (em : Int64 → Nat) (D : va_G) (cl : List vw_C) (A : Nat → Prop) (s : State) (ad : Nat → Nat) (ca : Nat → ClassId) (tys : List (ClassId × FieldType)) (h : List am_C) (H : Heap) : Prop :=
  va_P D cl (am_w em ad ca h) H ∧ va_D A (am_w em ad ca h) ∧ va_K D cl tys s ∧ (∀ (k : Nat) (c : am_C), h[k]? = some c → am_ty tys (ca k) c) ∧ ∀ (k : Nat) (c : am_C), h[k]? = some c → am_okc h.length c
theorem am_Rl.moved {em : Int64 → Nat} {D : va_G} {cl : List vw_C} {A : Nat → Prop} {u U : State} {ad : Nat → Nat} {ca : Nat → ClassId} {tys : List (ClassId × FieldType)} {h : List am_C} {H : Heap} (r : am_Rl em D cl A u ad ca tys h H) (hvm : u.vm.Alike U.vm) : am_Rl em D cl A U ad ca tys h H :=
  ⟨r.1, r.2.1, va_K.moved hvm r.2.2.1, r.2.2.2⟩
theorem am_Rl.weaken {em : Int64 → Nat} {D : va_G} {cl : List vw_C} {A B : Nat → Prop} {u : State} {ad : Nat → Nat} {ca : Nat → ClassId} {tys : List (ClassId × FieldType)} {h : List am_C} {H : Heap} (r : am_Rl em D cl A u ad ca tys h H) (hAB : ∀ q, A q → B q) : am_Rl em D cl B u ad ca tys h H :=
  ⟨r.1, r.2.1.weaken fun _ _ _ x => hAB _ x, r.2.2⟩
/-- the cells that a callee may change: all that are there, and those that it makes -/
def am_A (ad : Nat → Nat) (n sz : Nat) : Nat → Prop := fun q => (∃ k, k < n ∧ q = ad k) ∨ sz ≤ q
theorem am_Rl.own {em : Int64 → Nat} {D : va_G} {cl : List vw_C} {A : Nat → Prop} {u : State} {ad : Nat → Nat} {ca : Nat → ClassId} {tys : List (ClassId × FieldType)} {h : List am_C} {H : Heap} {sz : Nat} (r : am_Rl em D cl A u ad ca tys h H) : am_Rl em D cl (am_A ad h.length sz) u ad ca tys h H := by
  refine ⟨r.1, ⟨r.2.1.1, fun k q hk => ?_⟩, r.2.2⟩
  obtain ⟨c, h1, rfl⟩ := am_w_inv hk
  exact Or.inl ⟨k, (List.getElem?_eq_some_iff.mp h1).1, rfl⟩
theorem am_A.sub {em : Int64 → Nat} {D : va_G} {cl : List vw_C} {A : Nat → Prop} {u : State} {ad : Nat → Nat} {ca : Nat → ClassId} {tys : List (ClassId × FieldType)} {h : List am_C} {H H0 : Heap} {locs : List Loc} (r : am_Rl em D cl A u ad ca tys h H) (hS : va_S A H0 H locs) (hA : ∀ q, H0.size ≤ q → A q) : ∀ q, am_A ad h.length H.size q → A q := by
  rintro q (⟨k, hk, rfl⟩ | hq)
  · obtain ⟨c, hc⟩ : ∃ c, h[k]? = some c := ⟨_, List.getElem?_eq_getElem hk⟩
    exact r.2.1.2 k _ (am_w_get hc)
  · exact hA q (Nat.le_trans hS.1 hq)
/-- locals -/
def am_al (em : Int64 → Nat) (ad : Nat → Nat) (ls : am_V) : List (Nat × Value) := (ls.mapIdx (fun i o => o.map (fun v => (i, am_v em ad v)))).filterMap id
theorem am_al_mem {em : Int64 → Nat} {ad : Nat → Nat} {ls : am_V} {q : Nat × Value} : q ∈ am_al em ad ls ↔ ∃ v, ls[q.1]? = some (some v) ∧ q.2 = am_v em ad v := by
  simp only [am_al, List.mem_filterMap, id]
  constructor
  · rintro ⟨o, ho, rfl⟩
    obtain ⟨i, hi⟩ := List.getElem?_of_mem ho
    simp only [List.getElem?_mapIdx, Option.map_eq_some_iff] at hi
    obtain ⟨o', h1, h2⟩ := hi
    obtain ⟨v, rfl, rfl⟩ := h2
    exact ⟨v, h1, rfl⟩
  · rintro ⟨v, h1, h2⟩
    refine ⟨some (q.1, am_v em ad v), ?_, by rw [← h2]⟩
    have : (ls.mapIdx (fun i o => o.map (fun v => (i, am_v em ad v))))[q.1]? = some (some (q.1, am_v em ad v)) := by simp [List.getElem?_mapIdx, h1]
    exact List.mem_of_getElem? this
def am_lo (em : Int64 → Nat) (nL : Nat) (lsA : Array Slot) (ad : Nat → Nat) (ls : am_V) : Prop := lv_has lsA nL (am_al em ad ls) ∧ ls.length = nL
theorem am_lo.at {em : Int64 → Nat} {nL : Nat} {lsA : Array Slot} {ad : Nat → Nat} {ls : am_V} (h : am_lo em nL lsA ad ls) {i : Nat} {v : Value} (hi : ls[i]? = some (some v)) : lsA[i]? = some (.val (am_v em ad v)) :=
  h.1.2.2 (i, am_v em ad v) (am_al_mem.mpr ⟨v, hi, rfl⟩)
theorem am_lo.set {em : Int64 → Nat} {nL : Nat} {lsA lsA' : Array Slot} {ad : Nat → Nat} {ls : am_V} {i : Nat} {v : Value} (h : am_lo em nL lsA ad ls) (hc : ∀ w, ls[i - 1]? = some (some w) → (am_v em ad w).category = 1) (h' : lv_has lsA' nL ((i, am_v em ad v) :: (am_al em ad ls).filter (fun q => !(q.1 == i) && !(q.1 + 1 == i && q.2.category == 2)))) : am_lo em nL lsA' ad (ls.set i (some v)) := by
  refine ⟨⟨h'.1, h'.2.1, fun q hq => ?_⟩, by simp [h.2]⟩
  obtain ⟨w, hw, hq2⟩ := am_al_mem.mp hq
  rw [List.getElem?_set] at hw
  by_cases hi : i = q.1
  · rw [if_pos hi] at hw
    split at hw
    · cases hw
      exact h'.2.2 q (by rw [show q = (i, am_v em ad v) from Prod.ext hi.symm hq2]; exact List.mem_cons_self)
    · cases hw
  · rw [if_neg hi] at hw
    refine h'.2.2 q (List.mem_cons_of_mem _ (List.mem_filter.mpr ⟨am_al_mem.mpr ⟨w, hw, hq2⟩, ?_⟩))
    have hne : (q.1 == i) = false := by simp; exact fun z => hi z.symm
    rw [hne]
    by_cases h1 : q.1 + 1 = i
    · have : q.2.category = 1 := by rw [hq2]; exact hc w (by rw [← h1]; exact hw)
      simp [this]
    · simp [h1]
theorem am_lo.drop {em : Int64 → Nat} {nL : Nat} {lsA : Array Slot} {ad : Nat → Nat} {ls : am_V} (i : Nat) (h : am_lo em nL lsA ad ls) : am_lo em nL lsA ad (ls.set i none) := by
  refine ⟨⟨h.1.1, h.1.2.1, fun q hq => ?_⟩, by simp [h.2]⟩
  obtain ⟨w, hw, hq2⟩ := am_al_mem.mp hq
  rw [List.getElem?_set] at hw
  by_cases hi : i = q.1
  · rw [if_pos hi] at hw
    split at hw <;> cases hw
  · rw [if_neg hi] at hw
    exact h.1.2.2 q (am_al_mem.mpr ⟨w, hw, hq2⟩)
def am_okl (n : Nat) (ls : am_V) : Prop := ∀ (i : Nat) (v : Value), ls[i]? = some (some v) → am_okv n v
theorem am_okl.set {n : Nat} {ls : am_V} {i : Nat} {v : Value} (h : am_okl n ls) (hv : am_okv n v) : am_okl n (ls.set i (some v)) := by
  intro j w hw
  rw [List.getElem?_set] at hw
  split at hw
  · split at hw
    · cases hw; exact hv
    · cases hw
  · exact h j w hw
theorem am_okl.drop {n : Nat} {ls : am_V} (i : Nat) (h : am_okl n ls) : am_okl n (ls.set i none) := by
  intro j w hw
  rw [List.getElem?_set] at hw
  split at hw
  · split at hw <;> cases hw
  · exact h j w hw
theorem am_lo.agree {em : Int64 → Nat} {nL n : Nat} {lsA : Array Slot} {ad ad' : Nat → Nat} {ls : am_V} (h : am_lo em nL lsA ad ls) (ho : am_okl n ls) (ha : ∀ k, k < n → ad' k = ad k) : am_lo em nL lsA ad' ls := by
  refine ⟨⟨h.1.1, h.1.2.1, fun q hq => ?_⟩, h.2⟩
  obtain ⟨w, hw, hq2⟩ := am_al_mem.mp hq
  rw [am_v_eq ha (ho _ _ hw)] at hq2
  exact h.1.2.2 q (am_al_mem.mpr ⟨w, hw, hq2⟩)
theorem am_st_eq {em : Int64 → Nat} {ad ad' : Nat → Nat} {n : Nat} (ha : ∀ k, k < n → ad' k = ad k) {st : List Value} (h : ∀ v ∈ st, am_okv n v) : st.map (am_v em ad') = st.map (am_v em ad) :=
  List.map_congr_left fun v hv => am_v_eq ha (h v hv)
/-- the counts never fall, nor do the cells go -/
theorem am_do_up {nb : Nat → List Value} {op a b c d nx pc' : Nat} {x : Int32} {tab : List (Int32 × Nat)} {ls ls' : am_V} {st st' : List Value} {S S' : am_S} (h : am_do nb op a b c x nx tab d ls st S = some (pc', ls', st', S')) : S.2.1 ≤ S'.2.1 ∧ S.2.2 ≤ S'.2.2 ∧ S.1.length ≤ S'.1.length := by
  unfold am_do at h
  repeat' split at h
  all_goals first
    | (cases h; done)
    | (simp only [Option.some.injEq, Prod.mk.injEq] at h; obtain ⟨-, -, -, rfl⟩ := h; refine ⟨?_, ?_, ?_⟩ <;> simp <;> done)
theorem am_run_up (P : am_P) : ∀ (n d M pc : Nat) (ls : am_V) (st : List Value) (S : am_S) (o : Option (Option Value)) (S' : am_S), am_run P n d M pc ls st S = some (o, S') → S.2.1 ≤ S'.2.1 ∧ S.2.2 ≤ S'.2.2 ∧ S.1.length ≤ S'.1.length := by
  intro n
  induction n with
  | zero => intro d M pc ls st S o S' h; simp [am_run] at h
  | succ n ih =>
    intro d M pc ls st S o S' h
    have key : ∀ {S1 : am_S}, (S.2.1 ≤ S1.2.1 ∧ S.2.2 ≤ S1.2.2 ∧ S.1.length ≤ S1.1.length) → (S1.2.1 ≤ S'.2.1 ∧ S1.2.2 ≤ S'.2.2 ∧ S1.1.length ≤ S'.1.length) → S.2.1 ≤ S'.2.1 ∧ S.2.2 ≤ S'.2.2 ∧ S.1.length ≤ S'.1.length := fun a b => ⟨Nat.le_trans a.1 b.1, Nat.le_trans a.2.1 b.2.1, Nat.le_trans a.2.2 b.2.2⟩
    rw [am_run] at h
    cases hi : P.1 M pc with
    | none => rw [hi] at h; cases h
    | some i =>
      obtain ⟨op, a, b, c, x, nx, tab⟩ := i
      rw [hi] at h
      dsimp only at h
      by_cases h32 : op = 32
      · rw [if_pos h32] at h
        split at h
        · cases d with
          | zero => cases h
          | succ d' =>
            dsimp only at h
            cases hc : am_run P n d' a 0 (am_in (st.take b).reverse (P.2.2.1 a)) [] S with
            | none => rw [hc] at h; cases h
            | some q =>
              rw [hc] at h
              obtain ⟨o1, S1⟩ := q
              have u1 := ih _ _ _ _ _ _ _ _ hc
              cases o1 with
              | some v => exact key u1 (ih _ _ _ _ _ _ _ _ h)
              | none =>
                dsimp only at h
                cases hh : P.2.2.2 M pc with
                | none => rw [hh] at h; cases h; exact u1
                | some q => rw [hh] at h; exact key u1 (ih _ _ _ _ _ _ _ _ h)
        · cases h
      · rw [if_neg h32] at h
        by_cases h37 : op = 37
        · rw [if_pos h37] at h
          split at h
          · cases h; exact ⟨Nat.le_succ _, Nat.le_add_right _ _, Nat.le_refl _⟩
          · cases h
        · rw [if_neg h37] at h
          by_cases h33 : 33 ≤ op ∧ op ≤ 36
          · rw [if_pos h33] at h
            cases hr : am_ret op st with
            | none => rw [hr] at h; cases h
            | some v => rw [hr] at h; cases h; exact ⟨Nat.le_refl _, Nat.le_refl _, Nat.le_refl _⟩
          · rw [if_neg h33] at h
            cases hd : am_do P.2.1 op a b c x nx tab d ls st S with
            | none => rw [hd] at h; cases h
            | some q =>
              rw [hd] at h
              obtain ⟨pc', ls', st', S1⟩ := q
              exact key (am_do_up hd) (ih _ _ _ _ _ _ _ _ h)
end
section
/-! WHAT THE TABLES AND THE BYTES MUST SAY OF A SMALL INSTRUCTION -/
abbrev am_Y : Type := Nat → MethodName × ByteArray × Option FieldType
abbrev am_AL : String := "java/util/ArrayList"
abbrev am_EE : String := "DEFAULTCAPACITY_EMPTY_ELEMENTDATA"
abbrev am_ED : String := "[Ljava/lang/Object;"
abbrev am_gC : MethodName := ⟨"java/lang/Object", "getClass", "()Ljava/lang/Class;"⟩
def am_cd (k : Nat) : Jvm.ClassFile.Cond := match k with
  | 0 => .eq
  | 1 => .ne
  | 2 => .lt
  | 3 => .ge
  | 4 => .gt
  | _ => .le
/-- a field's place: the link, and the class that lays it -/
def am_okF (cl : List vw_C) (Ts : List Jvm.Cond) (own : String) (idx a b : Nat) : Prop :=
  ∃ (C : String) (T : u_T) (N : Nat) (ref : String), cl[a]? = some (C, T, N) ∧ b < N ∧ Jvm.Cond.fieldLink own idx ref (T b).2.1 (T b).2.2.1 ∈ Ts ∧ (ref = (T b).1 ∨ Jvm.Cond.sameField ref (T b).1 (T b).2.1 (T b).2.2.1 ∈ Ts)
/-- what a field of the kind k (0 number, 1 reference, 2 truth) is by its descriptor -/
def am_okT (k : Nat) (desc : String) : Prop := match k with
  | 0 => parseFieldDescriptor desc = some .int
  | 1 => (∃ n, parseFieldDescriptor desc = some (.object n)) ∨ ∃ t, parseFieldDescriptor desc = some (.array t)
  | 2 => parseFieldDescriptor desc = some .boolean
  | _ => False
def am_okM (P : am_P) (Y : am_Y) (Ts : List Jvm.Cond) (a : Nat) : Prop :=
  Jvm.Cond.code (Y a).1 (Y a).2.1 (P.2.2.1 a) (Y a).2.2 ∈ Ts ∧ Jvm.Cond.initialized (Y a).1.cls ∈ Ts ∧ ((Y a).1.cls ≠ "java/lang/invoke/MethodHandle" ∧ (Y a).1.cls ≠ "java/lang/invoke/VarHandle") ∧ plainFor (Y a).1 = true ∧ P.2.2.1 a ≤ 22
def am_okI (P : am_P) (Y : am_Y) (cl : List vw_C) (Ts : List Jvm.Cond) (M pc op a b c : Nat) (x : Int32) (nx : Nat) (tab : List (Int32 × Nat)) : Prop :=
  match op with
  | 0 => (∃ n, decode (Y M).2.1 pc = .ok (.iconst n, 1) ∧ Int32.ofInt n = x ∧ nx = pc + 1) ∨ (∃ n, decode (Y M).2.1 pc = .ok (.bipush n, 2) ∧ (Int8.ofInt n).toInt32 = x ∧ nx = pc + 2) ∨
      (∃ n, decode (Y M).2.1 pc = .ok (.sipush n, 3) ∧ (Int16.ofInt n).toInt32 = x ∧ nx = pc + 3) ∨ ∃ k, decode (Y M).2.1 pc = .ok (.ldc k, 2) ∧ Jvm.Cond.constant (Y M).1.cls k x ∈ Ts ∧ nx = pc + 2
  | 1 => (∃ k : Fin 4, decode (Y M).2.1 pc = .ok (.iload_n k, 1) ∧ (k : Nat) = a ∧ nx = pc + 1) ∨ (decode (Y M).2.1 pc = .ok (.iload a, 2) ∧ nx = pc + 2)
  | 2 => (∃ k : Fin 4, decode (Y M).2.1 pc = .ok (.aload_n k, 1) ∧ (k : Nat) = a ∧ nx = pc + 1) ∨ (decode (Y M).2.1 pc = .ok (.aload a, 2) ∧ nx = pc + 2)
  | 3 => (∃ k : Fin 4, decode (Y M).2.1 pc = .ok (.istore_n k, 1) ∧ (k : Nat) = a ∧ nx = pc + 1) ∨ (decode (Y M).2.1 pc = .ok (.istore a, 2) ∧ nx = pc + 2)
  | 4 => (∃ k : Fin 4, decode (Y M).2.1 pc = .ok (.astore_n k, 1) ∧ (k : Nat) = a ∧ nx = pc + 1) ∨ (decode (Y M).2.1 pc = .ok (.astore a, 2) ∧ nx = pc + 2)
  | 5 => ∃ n, decode (Y M).2.1 pc = .ok (.iinc a n, 3) ∧ Int32.ofInt n = x ∧ nx = pc + 3
  | 6 => decode (Y M).2.1 pc = .ok (.pop, 1) ∧ nx = pc + 1
  | 7 => decode (Y M).2.1 pc = .ok (.dup, 1) ∧ nx = pc + 1
  | 8 => decode (Y M).2.1 pc = .ok (.dup2, 1) ∧ nx = pc + 1
  | 9 => decode (Y M).2.1 pc = .ok (.dup_x1, 1) ∧ nx = pc + 1
  | 10 => nx = pc + 1 ∧ match a with
    | 0 => decode (Y M).2.1 pc = .ok (.iadd, 1)
    | 1 => decode (Y M).2.1 pc = .ok (.isub, 1)
    | 2 => decode (Y M).2.1 pc = .ok (.imul, 1)
    | 3 => decode (Y M).2.1 pc = .ok (.iand, 1)
    | 4 => decode (Y M).2.1 pc = .ok (.ior, 1)
    | 5 => decode (Y M).2.1 pc = .ok (.ishr, 1)
    | _ => False
  | 11 => decode (Y M).2.1 pc = .ok (.ineg, 1) ∧ nx = pc + 1
  | 12 => ∃ off, decode (Y M).2.1 pc = .ok (.ifCond (am_cd a) off, 3) ∧ (pc : Int) + off = (b : Int) ∧ nx = pc + 3 ∧ a ≤ 5
  | 13 => ∃ off, decode (Y M).2.1 pc = .ok (.if_icmp (am_cd a) off, 3) ∧ (pc : Int) + off = (b : Int) ∧ nx = pc + 3 ∧ a ≤ 5
  | 14 => ∃ off, decode (Y M).2.1 pc = .ok (.ifnull off, 3) ∧ (pc : Int) + off = (b : Int) ∧ nx = pc + 3
  | 15 => ∃ off, decode (Y M).2.1 pc = .ok (.ifnonnull off, 3) ∧ (pc : Int) + off = (b : Int) ∧ nx = pc + 3
  | 16 => ∃ off, decode (Y M).2.1 pc = .ok (.if_acmp .eq off, 3) ∧ (pc : Int) + off = (b : Int) ∧ nx = pc + 3
  | 17 => ∃ off, decode (Y M).2.1 pc = .ok (.if_acmp .ne off, 3) ∧ (pc : Int) + off = (b : Int) ∧ nx = pc + 3
  | 18 => ∃ off, decode (Y M).2.1 pc = .ok (.goto off, 3) ∧ (pc : Int) + off = (b : Int)
  | 19 => (∃ dflt lo hi offs len, decode (Y M).2.1 pc = .ok (.tableswitch dflt lo hi offs, len) ∧ (pc : Int) + dflt = (b : Int) ∧ (∀ y : Int32, y.toInt < lo ∨ hi < y.toInt → am_sw tab b y = b) ∧ ∀ y : Int32, ¬ y.toInt < lo → ¬ hi < y.toInt → ∃ off, offs[(y.toInt - lo).toNat]? = some off ∧ (pc : Int) + off = (am_sw tab b y : Int)) ∨
      ∃ dflt ps len, decode (Y M).2.1 pc = .ok (.lookupswitch dflt ps, len) ∧ (ps.toList.zip (ps.toList.drop 1)).all (fun (a, next) => a.1 < next.1) = true ∧ ∀ y : Int32, (pc : Int) + Op.lookupswitch.offset ps.toList dflt y.toInt = (am_sw tab b y : Int)
  | 20 => ∃ idx, decode (Y M).2.1 pc = .ok (.getfield idx, 3) ∧ nx = pc + 3 ∧ am_okF cl Ts (Y M).1.cls idx a b
  | 21 => ∃ idx, decode (Y M).2.1 pc = .ok (.putfield idx, 3) ∧ nx = pc + 3 ∧ am_okF cl Ts (Y M).1.cls idx a b ∧ ∀ C T N, cl[a]? = some (C, T, N) → am_okT (c % 4) (T b).2.2.1 ∧ ((T b).2.2.2 = false ∨ ((T b).2.2.2 = true ∧ (Y M).1.name = "<init>" ∧ (T b).1 = (Y M).1.cls))
  | 22 => ∃ idx C T N, decode (Y M).2.1 pc = .ok (.new idx, 3) ∧ nx = pc + 3 ∧ cl[a]? = some (C, T, N) ∧ Jvm.Cond.classLink (Y M).1.cls idx C ∈ Ts ∧ Jvm.Cond.instantiable C N ∈ Ts ∧ Jvm.Cond.initialized C ∈ Ts
  | 23 => nx = pc + 2 ∧ ((a = 0 ∧ decode (Y M).2.1 pc = .ok (.newarray .int, 2) ∧ Jvm.Cond.arrayClass .int ∈ Ts) ∨ (a = 1 ∧ decode (Y M).2.1 pc = .ok (.newarray .boolean, 2) ∧ Jvm.Cond.arrayClass .boolean ∈ Ts))
  | 24 => decode (Y M).2.1 pc = .ok (.arraylength, 1) ∧ nx = pc + 1
  | 25 => nx = pc + 1 ∧ ((a = 0 ∧ decode (Y M).2.1 pc = .ok (.iaload, 1)) ∨ (a = 1 ∧ decode (Y M).2.1 pc = .ok (.baload, 1)))
  | 26 => nx = pc + 1 ∧ ((a = 0 ∧ decode (Y M).2.1 pc = .ok (.iastore, 1)) ∨ (a = 1 ∧ decode (Y M).2.1 pc = .ok (.bastore, 1)))
  | 29 => decode (Y M).2.1 pc = .ok (.aconst_null, 1) ∧ nx = pc + 1
  | 30 => ∃ idx C T N, decode (Y M).2.1 pc = .ok (.checkcast idx, 3) ∧ nx = pc + 3 ∧ cl[a]? = some (C, T, N) ∧ Jvm.Cond.classLink (Y M).1.cls idx C ∈ Ts
  | 31 => ∃ idx, decode (Y M).2.1 pc = .ok (.invokespecial idx, 3) ∧ nx = pc + 3 ∧ Jvm.Cond.methodLink (Y M).1.cls idx Lib.objectInit ∈ Ts ∧ Jvm.Cond.instanceMethod Lib.objectInit ∈ Ts ∧ Jvm.Cond.code Lib.objectInit ⟨#[0xb1]⟩ 1 none ∈ Ts
  | 32 => ∃ idx, nx = pc + 3 ∧ am_okM P Y Ts a ∧ match c with
    | 0 => decode (Y M).2.1 pc = .ok (.invokestatic idx, 3) ∧ Jvm.Cond.methodLink (Y M).1.cls idx (Y a).1 ∈ Ts ∧ Jvm.Cond.static (Y a).1 ∈ Ts ∧ ∀ sig, parseMethodDescriptor (Y a).1.desc = some sig → b = sig.parameters.length
    | 1 => decode (Y M).2.1 pc = .ok (.invokespecial idx, 3) ∧ (Jvm.Cond.methodLink (Y M).1.cls idx (Y a).1 ∈ Ts ∨ ∃ host, Jvm.Cond.methodLinkNest (Y M).1.cls idx (Y a).1 host ∈ Ts) ∧ Jvm.Cond.instanceMethod (Y a).1 ∈ Ts ∧ (Y a).1.name = "<init>" ∧ (Y a).2.2 = none ∧ ∀ sig, parseMethodDescriptor (Y a).1.desc = some sig → b = sig.parameters.length + 1
    | k + 2 => ∃ C T N, cl[k]? = some (C, T, N) ∧ decode (Y M).2.1 pc = .ok (.invokevirtual idx, 3) ∧ Jvm.Cond.methodLink (Y M).1.cls idx (Y a).1 ∈ Ts ∧ Jvm.Cond.instanceMethod (Y a).1 ∈ Ts ∧ Jvm.Cond.selects C (Y a).1 (Y a).1 ∈ Ts ∧ ∀ sig, parseMethodDescriptor (Y a).1.desc = some sig → b = sig.parameters.length + 1
  | 33 => decode (Y M).2.1 pc = .ok (.ireturn, 1) ∧ (Y M).2.2 = some .int
  | 34 => decode (Y M).2.1 pc = .ok (.areturn, 1) ∧ ((∃ n, (Y M).2.2 = some (.object n)) ∨ ∃ t, (Y M).2.2 = some (.array t))
  | 35 => decode (Y M).2.1 pc = .ok (.return_, 1) ∧ (Y M).2.2 = none
  | 36 => decode (Y M).2.1 pc = .ok (.ireturn, 1) ∧ (Y M).2.2 = some .boolean
  | 37 => True
  | 38 => ∃ idx, decode (Y M).2.1 pc = .ok (.anewarray idx, 3) ∧ nx = pc + 3 ∧ Jvm.Cond.classLink (Y M).1.cls idx "java/lang/Object" ∈ Ts ∧ Jvm.Cond.arrayOver (.object "java/lang/Object") ∈ Ts
  | 39 => decode (Y M).2.1 pc = .ok (.aaload, 1) ∧ nx = pc + 1
  | 40 => decode (Y M).2.1 pc = .ok (.aastore, 1) ∧ nx = pc + 1 ∧ ∃ C T N, cl[a]? = some (C, T, N) ∧ Jvm.Cond.castable C "java/lang/Object" ∈ Ts
  | 41 => ∃ idx, decode (Y M).2.1 pc = .ok (.invokestatic idx, 3) ∧ nx = pc + 3 ∧ Jvm.Cond.methodLink (Y M).1.cls idx arraycopyName ∈ Ts ∧ Jvm.Cond.native arraycopyName ∈ Ts ∧ Jvm.Cond.static arraycopyName ∈ Ts ∧ Jvm.Cond.initialized "java/lang/System" ∈ Ts
  | 42 => ∃ idx, decode (Y M).2.1 pc = .ok (.invokestatic idx, 3) ∧ nx = pc + 3 ∧ Jvm.Cond.methodLink (Y M).1.cls idx arraycopyName ∈ Ts ∧ Jvm.Cond.native arraycopyName ∈ Ts ∧ Jvm.Cond.static arraycopyName ∈ Ts ∧ Jvm.Cond.initialized "java/lang/System" ∈ Ts ∧ ∃ C T N, cl[a]? = some (C, T, N) ∧ Jvm.Cond.castable C "java/lang/Object" ∈ Ts
  | 43 => ∃ idx, decode (Y M).2.1 pc = .ok (.getstatic idx, 3) ∧ nx = pc + 3 ∧ Jvm.Cond.fieldLink (Y M).1.cls idx am_AL am_EE am_ED ∈ Ts
  | 44 => ∃ idx, decode (Y M).2.1 pc = .ok (.invokevirtual idx, 3) ∧ nx = pc + 3 ∧ Jvm.Cond.methodLink (Y M).1.cls idx am_gC ∈ Ts ∧ Jvm.Cond.declares am_gC ∈ Ts ∧ Jvm.Cond.selects am_ED am_gC am_gC ∈ Ts ∧ Jvm.Cond.instanceMethod am_gC ∈ Ts ∧ Jvm.Cond.native am_gC ∈ Ts
  | 45 => ∃ idx, decode (Y M).2.1 pc = .ok (.ldc idx, 2) ∧ nx = pc + 2 ∧ Jvm.Cond.classLink (Y M).1.cls idx am_ED ∈ Ts
  | _ => False
/-- what the tables must say of a class -/
def am_okC (nb : Nat → List Value) (cl : List vw_C) (Ts : List Jvm.Cond) : Prop := ∀ (ci : Nat) (C : String) (T : u_T) (N : Nat), cl[ci]? = some (C, T, N) →
  (∀ w ∈ u_ws C T N, w ∈ Ts) ∧ (nb ci).length = N ∧ (∀ a, a < N → ∀ b, b < N → a ≠ b → (T a).2.1 ≠ (T b).2.1) ∧ (∀ v ∈ nb ci, v = .int 0 ∨ v = .null) ∧ ∃ ty : Nat → FieldType, (∀ k, k < N → parseFieldDescriptor (T k).2.2.1 = some (ty k)) ∧ ∀ j, j < N → defaultValue (ty j) = vp_V (nb ci) j
def am_ise : String := "java/lang/IllegalStateException"
/-- the one handler of a method: it covers the place; its first instruction puts the reference into the local j, and the next one is at h -/
def am_Hn (P : am_P) (Y : am_Y) (Ts : List Jvm.Cond) (c : Code) (M pc h j : Nat) : Prop := ∃ x : ExceptionTableEntry, c.exceptionTable.toList = [x] ∧ covers x pc = true ∧ x.catchType ≠ 0 ∧ Jvm.Cond.classLink (Y M).1.cls x.catchType am_ise ∈ Ts ∧ (∃ k : Fin 4, decode (Y M).2.1 x.handlerPc = .ok (.astore_n k, 1) ∧ (k : Nat) = j) ∧ h = x.handlerPc + 1 ∧ j < P.2.2.1 M
/-- the method M's own frame: the code, the words, the room (frames d, cells mc, slots ms) -/
def am_Act (P : am_P) (Y : am_Y) (Ts : List Jvm.Cond) (p : Program) (R : Room) (s : State) (m : MethodId) (args : Array Value) (meth : Method) (c : Code) (M d mc ms : Nat) : Prop :=
  p.tables.exec = Jvm.exec ∧ c.code = (Y M).2.1 ∧ c.maxLocals = P.2.2.1 M ∧ s.vm.findClass (Y M).1.cls = some m.cls ∧ (∀ w ∈ Ts, w.before args s = true) ∧ meth.sig.returnType = (Y M).2.2 ∧ meth.locks = false ∧ meth.name = (Y M).1.name ∧
  R.frames = d ∧ R.cells = mc ∧ R.slots = ms ∧ R.locals = 41 * d ∧ (∀ pc, P.2.2.2 M pc = none → ∀ x ∈ c.exceptionTable.toList, covers x pc = false) ∧ ∀ pc h j, P.2.2.2 M pc = some (h, j) → am_Hn P Y Ts c M pc h j
/-- where the walk of a method stands: heap and cells, locals, counts -/
def am_St (em : Int64 → Nat) (D : va_G) (cl : List vw_C) (Zs : (Nat → Prop) → State → Heap → Prop) (A : Nat → Prop) (s : State) (H : Heap) (locs : List Loc) (cells slots : Nat) (ad : Nat → Nat) (ca : Nat → ClassId) (tys : List (ClassId × FieldType)) (lsA : Array Slot) (nL : Nat) (ls : am_V) (st : List Value) (S : am_S) (c0 z0 : Nat) : Prop :=
  am_Rl em D cl A s ad ca tys S.1 H ∧ va_S A s.heap H locs ∧ Zs A s s.heap ∧ am_lo em nL lsA ad ls ∧ am_okl S.1.length ls ∧ (∀ v ∈ st, am_okv S.1.length v) ∧ c0 + cells = S.2.1 ∧ z0 + slots = S.2.2
end
section
/-! EACH SMALL INSTRUCTION IS WHAT THE MACHINE DOES (no call, no end) -/
/-- facts of the heap outside a method's own cells: kept by what it does there, carried along by warmer tables, and true of fewer cells -/
def am_Zp (Zs : (Nat → Prop) → State → Heap → Prop) : Prop := (∀ (A : Nat → Prop) (U : State) (H H1 : Heap), Zs A U H → (∀ q : Nat, q < H.size → ¬ A q → H1[q]? = H[q]?) → H.size ≤ H1.size → Zs A U H1) ∧ (∀ (A : Nat → Prop) (u U : State) (H : Heap), u.WarmedH U.vm → Zs A u H → Zs A U H) ∧ ∀ (A B : Nat → Prop) (U : State) (H : Heap), (∀ q, B q → A q) → Zs A U H → Zs B U H
theorem am_oc {n : Nat} {v : Value} {st : List Value} (hv : am_okv n v) (hs : ∀ w ∈ st, am_okv n w) : ∀ w ∈ v :: st, am_okv n w := List.forall_mem_cons.mpr ⟨hv, hs⟩
/-- the walk from the next place on -/
def am_K (p : Program) (l : Launch) (e : Env) (R : Room) (s : State) (m : MethodId) (args : Array Value) (below : List Frame) (meth : Method) (c : Code) (Q : State → Prop) (em : Int64 → Nat) (D : va_G) (cl : List vw_C) (Zs : (Nat → Prop) → State → Heap → Prop) (A : Nat → Prop) (nL c0 z0 : Nat) (ad : Nat → Nat) (n pc : Nat) (ls : am_V) (st : List Value) (S : am_S) : Prop :=
  ∀ (H : Heap) (locs : List Loc) (cells slots : Nat) (ad' : Nat → Nat) (ca : Nat → ClassId) (tys : List (ClassId × FieldType)) (lsA : Array Slot), (∀ k, k < n → ad' k = ad k) → am_St em D cl Zs A s H locs cells slots ad' ca tys lsA nL ls st S c0 z0 → W p l e R s m args below meth c H locs cells slots Q (F0 m pc lsA (st.map (am_v em ad')))
section AM3
variable {em : Int64 → Nat} {P : am_P} {Y : am_Y} {D : va_G} {cl : List vw_C} {Ts : List Jvm.Cond} {Zs : (Nat → Prop) → State → Heap → Prop}
variable {p : Program} {l : Launch} {e : Env} {R : Room} {s : State} {m : MethodId} {args : Array Value} {below : List Frame} {meth : Method} {c : Code} {H : Heap} {locs : List Loc} {cells slots : Nat} {Q : State → Prop}
variable {A : Nat → Prop} {ad : Nat → Nat} {ca : Nat → ClassId} {tys : List (ClassId × FieldType)} {lsA : Array Slot} {ls ls' : am_V} {st st' : List Value} {S S1 : am_S} {c0 z0 mc ms M d pc pc' nx a b k n0 : Nat} {x : Int32} {tab : List (Int32 × Nat)}
theorem am_s0 (act : am_Act P Y Ts p R s m args meth c M d mc ms) (hk : am_okI P Y cl Ts M pc 0 a b k x nx tab) (hd : am_do P.2.1 0 a b k x nx tab d ls st S = some (pc', ls', st', S1)) (h : am_St em D cl Zs A s H locs cells slots ad ca tys lsA (P.2.2.1 M) ls st S c0 z0)
    (kk : am_K p l e R s m args below meth c Q em D cl Zs A (P.2.2.1 M) c0 z0 ad S.1.length pc' ls' st' S1) : W p l e R s m args below meth c H locs cells slots Q (F0 m pc lsA (st.map (am_v em ad))) := by
  obtain ⟨hx, hb, hml, hown, hts, hr, hlk, hnm, hRf, hRc, hRs, hRl, hexc, hhn⟩ := id act
  obtain ⟨hRl0, hS, hZ, hlo, hol, hos, hc, hz⟩ := id h
  simp only [am_do] at hd
  simp only [am_okI] at hk
  cases hd
  have h1 : am_St em D cl Zs A s H locs cells slots ad ca tys lsA (P.2.2.1 M) ls (.int x :: st) S c0 z0 := ⟨hRl0, hS, hZ, hlo, hol, am_oc trivial hos, hc, hz⟩
  rcases hk with ⟨n, hdg, hv, rfl⟩ | ⟨n, hdg, hv, rfl⟩ | ⟨n, hdg, hv, rfl⟩ | ⟨n, hdg, hv, rfl⟩
  · exact lv_iconst hx hb hdg hv (kk _ _ _ _ _ _ _ _ (fun _ _ => rfl) h1)
  · exact lv_bipush hx hb hdg hv (kk _ _ _ _ _ _ _ _ (fun _ _ => rfl) h1)
  · exact lv_sipush hx hb hdg hv (kk _ _ _ _ _ _ _ _ (fun _ _ => rfl) h1)
  · exact lv_ldc hx hb hown (hts _ hv) hdg (kk _ _ _ _ _ _ _ _ (fun _ _ => rfl) h1)
theorem am_s1 (act : am_Act P Y Ts p R s m args meth c M d mc ms) (hk : am_okI P Y cl Ts M pc 1 a b k x nx tab) (hd : am_do P.2.1 1 a b k x nx tab d ls st S = some (pc', ls', st', S1)) (h : am_St em D cl Zs A s H locs cells slots ad ca tys lsA (P.2.2.1 M) ls st S c0 z0)
    (kk : am_K p l e R s m args below meth c Q em D cl Zs A (P.2.2.1 M) c0 z0 ad S.1.length pc' ls' st' S1) : W p l e R s m args below meth c H locs cells slots Q (F0 m pc lsA (st.map (am_v em ad))) := by
  obtain ⟨hx, hb, hml, hown, hts, hr, hlk, hnm, hRf, hRc, hRs, hRl, hexc, hhn⟩ := id act
  obtain ⟨hRl0, hS, hZ, hlo, hol, hos, hc, hz⟩ := id h
  simp only [am_do] at hd
  simp only [am_okI] at hk
  split at hd
  · rename_i v hv
    cases hd
    have h1 : am_St em D cl Zs A s H locs cells slots ad ca tys lsA (P.2.2.1 M) ls (.int v :: st) S c0 z0 := ⟨hRl0, hS, hZ, hlo, hol, am_oc trivial hos, hc, hz⟩
    rcases hk with ⟨n, hdg, hn, rfl⟩ | ⟨hdg, rfl⟩
    · exact lv_iload_n hx hb hdg hn (hlo.at hv) (kk _ _ _ _ _ _ _ _ (fun _ _ => rfl) h1)
    · exact lv_iload hx hb hdg (hlo.at hv) (kk _ _ _ _ _ _ _ _ (fun _ _ => rfl) h1)
  · cases hd
theorem am_s2 (act : am_Act P Y Ts p R s m args meth c M d mc ms) (hk : am_okI P Y cl Ts M pc 2 a b k x nx tab) (hd : am_do P.2.1 2 a b k x nx tab d ls st S = some (pc', ls', st', S1)) (h : am_St em D cl Zs A s H locs cells slots ad ca tys lsA (P.2.2.1 M) ls st S c0 z0)
    (kk : am_K p l e R s m args below meth c Q em D cl Zs A (P.2.2.1 M) c0 z0 ad S.1.length pc' ls' st' S1) : W p l e R s m args below meth c H locs cells slots Q (F0 m pc lsA (st.map (am_v em ad))) := by
  obtain ⟨hx, hb, hml, hown, hts, hr, hlk, hnm, hRf, hRc, hRs, hRl, hexc, hhn⟩ := id act
  obtain ⟨hRl0, hS, hZ, hlo, hol, hos, hc, hz⟩ := id h
  simp only [am_do] at hd
  simp only [am_okI] at hk
  split at hd
  · rename_i v hv
    cases hd
    have h1 : am_St em D cl Zs A s H locs cells slots ad ca tys lsA (P.2.2.1 M) ls (.ref v :: st) S c0 z0 := ⟨hRl0, hS, hZ, hlo, hol, am_oc (hol _ _ hv) hos, hc, hz⟩
    rcases hk with ⟨n, hdg, hn, rfl⟩ | ⟨hdg, rfl⟩
    · exact lv_aload_n hx hb hdg hn (hlo.at hv) (kk _ _ _ _ _ _ _ _ (fun _ _ => rfl) h1)
    · exact lv_aload hx hb hdg (hlo.at hv) (kk _ _ _ _ _ _ _ _ (fun _ _ => rfl) h1)
  · rename_i hv
    cases hd
    have h1 : am_St em D cl Zs A s H locs cells slots ad ca tys lsA (P.2.2.1 M) ls (.null :: st) S c0 z0 := ⟨hRl0, hS, hZ, hlo, hol, am_oc trivial hos, hc, hz⟩
    rcases hk with ⟨n, hdg, hn, rfl⟩ | ⟨hdg, rfl⟩
    · exact lv_aload_nN hx hb hdg hn (hlo.at hv) (kk _ _ _ _ _ _ _ _ (fun _ _ => rfl) h1)
    · exact lv_aloadN hx hb hdg (hlo.at hv) (kk _ _ _ _ _ _ _ _ (fun _ _ => rfl) h1)
  · rename_i v hv
    cases hd
    have h1 : am_St em D cl Zs A s H locs cells slots ad ca tys lsA (P.2.2.1 M) ls (.long v :: st) S c0 z0 := ⟨hRl0, hS, hZ, hlo, hol, am_oc (hol _ _ hv) hos, hc, hz⟩
    rcases hk with ⟨n, hdg, hn, rfl⟩ | ⟨hdg, rfl⟩
    · exact lv_aload_n hx hb hdg hn (hlo.at hv) (kk _ _ _ _ _ _ _ _ (fun _ _ => rfl) h1)
    · exact lv_aload hx hb hdg (hlo.at hv) (kk _ _ _ _ _ _ _ _ (fun _ _ => rfl) h1)
  · cases hd
theorem am_s3 (act : am_Act P Y Ts p R s m args meth c M d mc ms) (hk : am_okI P Y cl Ts M pc 3 a b k x nx tab) (hd : am_do P.2.1 3 a b k x nx tab d ls st S = some (pc', ls', st', S1)) (h : am_St em D cl Zs A s H locs cells slots ad ca tys lsA (P.2.2.1 M) ls st S c0 z0)
    (kk : am_K p l e R s m args below meth c Q em D cl Zs A (P.2.2.1 M) c0 z0 ad S.1.length pc' ls' st' S1) : W p l e R s m args below meth c H locs cells slots Q (F0 m pc lsA (st.map (am_v em ad))) := by
  obtain ⟨hx, hb, hml, hown, hts, hr, hlk, hnm, hRf, hRc, hRs, hRl, hexc, hhn⟩ := id act
  obtain ⟨hRl0, hS, hZ, hlo, hol, hos, hc, hz⟩ := id h
  simp only [am_do] at hd
  simp only [am_okI] at hk
  split at hd
  · rename_i v r
    split at hd
    · rename_i ha
      cases hd
      have hcat : ∀ w, ls[a - 1]? = some (some w) → (am_v em ad w).category = 1 := fun w hw => am_cat (em := em) ad (hol _ _ hw)
      have h1 : ∀ lsA', lv_has lsA' (P.2.2.1 M) ((a, .int v) :: (am_al em ad ls).filter (fun q => !(q.1 == a) && !(q.1 + 1 == a && q.2.category == 2))) → am_St em D cl Zs A s H locs cells slots ad ca tys lsA' (P.2.2.1 M) (ls.set a (some (.int v))) st' S c0 z0 := fun lsA' h' =>
        ⟨hRl0, hS, hZ, hlo.set (v := .int v) hcat h', hol.set trivial, fun w hw => hos w (List.mem_cons_of_mem _ hw), hc, hz⟩
      rcases hk with ⟨n, hdg, hn, rfl⟩ | ⟨hdg, rfl⟩
      · exact lv_istore_n hx hb hdg hn hlo.1 (by rw [← hlo.2]; exact ha) rfl (fun lsA' h' => kk _ _ _ _ _ _ _ _ (fun _ _ => rfl) (h1 lsA' h'))
      · exact lv_istore hx hb hdg hlo.1 (by rw [← hlo.2]; exact ha) rfl (fun lsA' h' => kk _ _ _ _ _ _ _ _ (fun _ _ => rfl) (h1 lsA' h'))
    · cases hd
  · cases hd
theorem am_s4 (act : am_Act P Y Ts p R s m args meth c M d mc ms) (hk : am_okI P Y cl Ts M pc 4 a b k x nx tab) (hd : am_do P.2.1 4 a b k x nx tab d ls st S = some (pc', ls', st', S1)) (h : am_St em D cl Zs A s H locs cells slots ad ca tys lsA (P.2.2.1 M) ls st S c0 z0)
    (kk : am_K p l e R s m args below meth c Q em D cl Zs A (P.2.2.1 M) c0 z0 ad S.1.length pc' ls' st' S1) : W p l e R s m args below meth c H locs cells slots Q (F0 m pc lsA (st.map (am_v em ad))) := by
  obtain ⟨hx, hb, hml, hown, hts, hr, hlk, hnm, hRf, hRc, hRs, hRl, hexc, hhn⟩ := id act
  obtain ⟨hRl0, hS, hZ, hlo, hol, hos, hc, hz⟩ := id h
  simp only [am_do] at hd
  simp only [am_okI] at hk
  split at hd
  · rename_i v r
    split at hd
    · rename_i ha
      cases hd
      have hcat : ∀ w, ls[a - 1]? = some (some w) → (am_v em ad w).category = 1 := fun w hw => am_cat (em := em) ad (hol _ _ hw)
      have h1 : ∀ lsA', lv_has lsA' (P.2.2.1 M) ((a, .ref (ad v)) :: (am_al em ad ls).filter (fun q => !(q.1 == a) && !(q.1 + 1 == a && q.2.category == 2))) → am_St em D cl Zs A s H locs cells slots ad ca tys lsA' (P.2.2.1 M) (ls.set a (some (.ref v))) st' S c0 z0 := fun lsA' h' =>
        ⟨hRl0, hS, hZ, hlo.set (v := .ref v) hcat h', hol.set (hos _ List.mem_cons_self), fun w hw => hos w (List.mem_cons_of_mem _ hw), hc, hz⟩
      rcases hk with ⟨n, hdg, hn, rfl⟩ | ⟨hdg, rfl⟩
      · exact lv_astore_n hx hb hdg hn hlo.1 (by rw [← hlo.2]; exact ha) rfl (fun lsA' h' => kk _ _ _ _ _ _ _ _ (fun _ _ => rfl) (h1 lsA' h'))
      · exact lv_astore hx hb hdg hlo.1 (by rw [← hlo.2]; exact ha) rfl (fun lsA' h' => kk _ _ _ _ _ _ _ _ (fun _ _ => rfl) (h1 lsA' h'))
    · cases hd
  · rename_i r
    split at hd
    · rename_i ha
      cases hd
      have hcat : ∀ w, ls[a - 1]? = some (some w) → (am_v em ad w).category = 1 := fun w hw => am_cat (em := em) ad (hol _ _ hw)
      have h1 : ∀ lsA', lv_has lsA' (P.2.2.1 M) ((a, .null) :: (am_al em ad ls).filter (fun q => !(q.1 == a) && !(q.1 + 1 == a && q.2.category == 2))) → am_St em D cl Zs A s H locs cells slots ad ca tys lsA' (P.2.2.1 M) (ls.set a (some .null)) st' S c0 z0 := fun lsA' h' =>
        ⟨hRl0, hS, hZ, hlo.set (v := .null) hcat h', hol.set trivial, fun w hw => hos w (List.mem_cons_of_mem _ hw), hc, hz⟩
      rcases hk with ⟨n, hdg, hn, rfl⟩ | ⟨hdg, rfl⟩
      · exact lv_astore_nN hx hb hdg hn hlo.1 (by rw [← hlo.2]; exact ha) rfl (fun lsA' h' => kk _ _ _ _ _ _ _ _ (fun _ _ => rfl) (h1 lsA' h'))
      · exact lv_astoreN hx hb hdg hlo.1 (by rw [← hlo.2]; exact ha) rfl (fun lsA' h' => kk _ _ _ _ _ _ _ _ (fun _ _ => rfl) (h1 lsA' h'))
    · cases hd
  · rename_i v r
    split at hd
    · rename_i ha
      cases hd
      have hcat : ∀ w, ls[a - 1]? = some (some w) → (am_v em ad w).category = 1 := fun w hw => am_cat (em := em) ad (hol _ _ hw)
      have h1 : ∀ lsA', lv_has lsA' (P.2.2.1 M) ((a, .ref (em v)) :: (am_al em ad ls).filter (fun q => !(q.1 == a) && !(q.1 + 1 == a && q.2.category == 2))) → am_St em D cl Zs A s H locs cells slots ad ca tys lsA' (P.2.2.1 M) (ls.set a (some (.long v))) st' S c0 z0 := fun lsA' h' =>
        ⟨hRl0, hS, hZ, hlo.set (v := .long v) hcat h', hol.set trivial, fun w hw => hos w (List.mem_cons_of_mem _ hw), hc, hz⟩
      rcases hk with ⟨n, hdg, hn, rfl⟩ | ⟨hdg, rfl⟩
      · exact lv_astore_n hx hb hdg hn hlo.1 (by rw [← hlo.2]; exact ha) rfl (fun lsA' h' => kk _ _ _ _ _ _ _ _ (fun _ _ => rfl) (h1 lsA' h'))
      · exact lv_astore hx hb hdg hlo.1 (by rw [← hlo.2]; exact ha) rfl (fun lsA' h' => kk _ _ _ _ _ _ _ _ (fun _ _ => rfl) (h1 lsA' h'))
    · cases hd
  · cases hd
theorem am_s5 (act : am_Act P Y Ts p R s m args meth c M d mc ms) (hk : am_okI P Y cl Ts M pc 5 a b k x nx tab) (hd : am_do P.2.1 5 a b k x nx tab d ls st S = some (pc', ls', st', S1)) (h : am_St em D cl Zs A s H locs cells slots ad ca tys lsA (P.2.2.1 M) ls st S c0 z0)
    (kk : am_K p l e R s m args below meth c Q em D cl Zs A (P.2.2.1 M) c0 z0 ad S.1.length pc' ls' st' S1) : W p l e R s m args below meth c H locs cells slots Q (F0 m pc lsA (st.map (am_v em ad))) := by
  obtain ⟨hx, hb, hml, hown, hts, hr, hlk, hnm, hRf, hRc, hRs, hRl, hexc, hhn⟩ := id act
  obtain ⟨hRl0, hS, hZ, hlo, hol, hos, hc, hz⟩ := id h
  simp only [am_do] at hd
  simp only [am_okI] at hk
  split at hd
  · rename_i v hv
    cases hd
    have ha : a < ls.length := (List.getElem?_eq_some_iff.mp hv).1
    have hcat : ∀ w, ls[a - 1]? = some (some w) → (am_v em ad w).category = 1 := fun w hw => am_cat (em := em) ad (hol _ _ hw)
    obtain ⟨n, hdg, rfl, rfl⟩ := hk
    obtain ⟨j, hj⟩ := List.getElem?_of_mem (am_al_mem (ad := ad) (q := (a, .int v)) |>.mpr ⟨.int v, hv, rfl⟩)
    exact lv_iinc hx hb hdg hlo.1 hj rfl (by rw [← hlo.2]; exact ha) rfl (fun lsA' h' => kk _ _ _ _ _ _ _ _ (fun _ _ => rfl) ⟨hRl0, hS, hZ, hlo.set (v := .int (v + Int32.ofInt n)) hcat h', hol.set trivial, hos, hc, hz⟩)
  · cases hd
theorem am_s6 (act : am_Act P Y Ts p R s m args meth c M d mc ms) (hk : am_okI P Y cl Ts M pc 6 a b k x nx tab) (hd : am_do P.2.1 6 a b k x nx tab d ls st S = some (pc', ls', st', S1)) (h : am_St em D cl Zs A s H locs cells slots ad ca tys lsA (P.2.2.1 M) ls st S c0 z0)
    (kk : am_K p l e R s m args below meth c Q em D cl Zs A (P.2.2.1 M) c0 z0 ad S.1.length pc' ls' st' S1) : W p l e R s m args below meth c H locs cells slots Q (F0 m pc lsA (st.map (am_v em ad))) := by
  obtain ⟨hx, hb, hml, hown, hts, hr, hlk, hnm, hRf, hRc, hRs, hRl, hexc, hhn⟩ := id act
  obtain ⟨hRl0, hS, hZ, hlo, hol, hos, hc, hz⟩ := id h
  simp only [am_do] at hd
  simp only [am_okI] at hk
  obtain ⟨hdg, rfl⟩ := hk
  have h1 : ∀ v r, st = v :: r → am_St em D cl Zs A s H locs cells slots ad ca tys lsA (P.2.2.1 M) ls r S c0 z0 := fun v r e => ⟨hRl0, hS, hZ, hlo, hol, fun w hw => hos w (by rw [e]; exact List.mem_cons_of_mem _ hw), hc, hz⟩
  split at hd
  · cases hd; exact lv_pop hx hb hdg rfl (kk _ _ _ _ _ _ _ _ (fun _ _ => rfl) (h1 _ _ rfl))
  · cases hd; exact lv_pop hx hb hdg rfl (kk _ _ _ _ _ _ _ _ (fun _ _ => rfl) (h1 _ _ rfl))
  · cases hd; exact lv_pop hx hb hdg rfl (kk _ _ _ _ _ _ _ _ (fun _ _ => rfl) (h1 _ _ rfl))
  · cases hd; exact lv_pop hx hb hdg rfl (kk _ _ _ _ _ _ _ _ (fun _ _ => rfl) (h1 _ _ rfl))
  · cases hd
theorem am_s7 (act : am_Act P Y Ts p R s m args meth c M d mc ms) (hk : am_okI P Y cl Ts M pc 7 a b k x nx tab) (hd : am_do P.2.1 7 a b k x nx tab d ls st S = some (pc', ls', st', S1)) (h : am_St em D cl Zs A s H locs cells slots ad ca tys lsA (P.2.2.1 M) ls st S c0 z0)
    (kk : am_K p l e R s m args below meth c Q em D cl Zs A (P.2.2.1 M) c0 z0 ad S.1.length pc' ls' st' S1) : W p l e R s m args below meth c H locs cells slots Q (F0 m pc lsA (st.map (am_v em ad))) := by
  obtain ⟨hx, hb, hml, hown, hts, hr, hlk, hnm, hRf, hRc, hRs, hRl, hexc, hhn⟩ := id act
  obtain ⟨hRl0, hS, hZ, hlo, hol, hos, hc, hz⟩ := id h
  simp only [am_do] at hd
  simp only [am_okI] at hk
  obtain ⟨hdg, rfl⟩ := hk
  have h1 : ∀ v r, st = v :: r → am_St em D cl Zs A s H locs cells slots ad ca tys lsA (P.2.2.1 M) ls (v :: v :: r) S c0 z0 := fun v r e => ⟨hRl0, hS, hZ, hlo, hol, fun w hw => by
    rcases List.mem_cons.mp hw with rfl | hw
    · exact hos _ (by rw [e]; exact List.mem_cons_self)
    · exact hos w (by rw [e]; exact hw), hc, hz⟩
  split at hd
  · cases hd; exact lv_dup hx hb hdg rfl (kk _ _ _ _ _ _ _ _ (fun _ _ => rfl) (h1 _ _ rfl))
  · cases hd; exact lv_dup hx hb hdg rfl (kk _ _ _ _ _ _ _ _ (fun _ _ => rfl) (h1 _ _ rfl))
  · cases hd
theorem am_s8 (act : am_Act P Y Ts p R s m args meth c M d mc ms) (hk : am_okI P Y cl Ts M pc 8 a b k x nx tab) (hd : am_do P.2.1 8 a b k x nx tab d ls st S = some (pc', ls', st', S1)) (h : am_St em D cl Zs A s H locs cells slots ad ca tys lsA (P.2.2.1 M) ls st S c0 z0)
    (kk : am_K p l e R s m args below meth c Q em D cl Zs A (P.2.2.1 M) c0 z0 ad S.1.length pc' ls' st' S1) : W p l e R s m args below meth c H locs cells slots Q (F0 m pc lsA (st.map (am_v em ad))) := by
  obtain ⟨hx, hb, hml, hown, hts, hr, hlk, hnm, hRf, hRc, hRs, hRl, hexc, hhn⟩ := id act
  obtain ⟨hRl0, hS, hZ, hlo, hol, hos, hc, hz⟩ := id h
  simp only [am_do] at hd
  simp only [am_okI] at hk
  obtain ⟨hdg, rfl⟩ := hk
  split at hd
  · rename_i v w r
    cases hd
    refine lv_dup2_11 hx hb hdg rfl rfl (kk _ _ _ _ _ _ _ _ (fun _ _ => rfl) ⟨hRl0, hS, hZ, hlo, hol, fun u hu => ?_, hc, hz⟩)
    rcases List.mem_cons.mp hu with rfl | hu
    · trivial
    · rcases List.mem_cons.mp hu with rfl | hu
      · exact hos _ (List.mem_cons_of_mem _ List.mem_cons_self)
      · exact hos u hu
  · cases hd
theorem am_s9 (act : am_Act P Y Ts p R s m args meth c M d mc ms) (hk : am_okI P Y cl Ts M pc 9 a b k x nx tab) (hd : am_do P.2.1 9 a b k x nx tab d ls st S = some (pc', ls', st', S1)) (h : am_St em D cl Zs A s H locs cells slots ad ca tys lsA (P.2.2.1 M) ls st S c0 z0)
    (kk : am_K p l e R s m args below meth c Q em D cl Zs A (P.2.2.1 M) c0 z0 ad S.1.length pc' ls' st' S1) : W p l e R s m args below meth c H locs cells slots Q (F0 m pc lsA (st.map (am_v em ad))) := by
  obtain ⟨hx, hb, hml, hown, hts, hr, hlk, hnm, hRf, hRc, hRs, hRl, hexc, hhn⟩ := id act
  obtain ⟨hRl0, hS, hZ, hlo, hol, hos, hc, hz⟩ := id h
  simp only [am_do] at hd
  simp only [am_okI] at hk
  obtain ⟨hdg, rfl⟩ := hk
  split at hd
  · rename_i v w r
    cases hd
    refine lv_dup_x1 hx hb hdg (am_cat (em := em) ad (hos v List.mem_cons_self)) (am_cat (em := em) ad (hos w (List.mem_cons_of_mem _ List.mem_cons_self))) (kk _ _ _ _ _ _ _ _ (fun _ _ => rfl) ⟨hRl0, hS, hZ, hlo, hol, fun u hu => ?_, hc, hz⟩)
    rcases List.mem_cons.mp hu with rfl | hu
    · exact hos _ List.mem_cons_self
    · rcases List.mem_cons.mp hu with rfl | hu
      · exact hos _ (List.mem_cons_of_mem _ List.mem_cons_self)
      · rcases List.mem_cons.mp hu with rfl | hu
        · exact hos _ List.mem_cons_self
        · exact hos u (List.mem_cons_of_mem _ (List.mem_cons_of_mem _ hu))
  · cases hd
theorem am_s10 (act : am_Act P Y Ts p R s m args meth c M d mc ms) (hk : am_okI P Y cl Ts M pc 10 a b k x nx tab) (hd : am_do P.2.1 10 a b k x nx tab d ls st S = some (pc', ls', st', S1)) (h : am_St em D cl Zs A s H locs cells slots ad ca tys lsA (P.2.2.1 M) ls st S c0 z0)
    (kk : am_K p l e R s m args below meth c Q em D cl Zs A (P.2.2.1 M) c0 z0 ad S.1.length pc' ls' st' S1) : W p l e R s m args below meth c H locs cells slots Q (F0 m pc lsA (st.map (am_v em ad))) := by
  obtain ⟨hx, hb, hml, hown, hts, hr, hlk, hnm, hRf, hRc, hRs, hRl, hexc, hhn⟩ := id act
  obtain ⟨hRl0, hS, hZ, hlo, hol, hos, hc, hz⟩ := id h
  simp only [am_do] at hd
  simp only [am_okI] at hk
  obtain ⟨rfl, hk⟩ := hk
  split at hd
  · rename_i w v r
    cases hd
    have h1 : am_St em D cl Zs A s H locs cells slots ad ca tys lsA (P.2.2.1 M) ls (.int (am_bin a v w) :: r) S c0 z0 := ⟨hRl0, hS, hZ, hlo, hol, fun u hu => by
      rcases List.mem_cons.mp hu with rfl | hu
      · trivial
      · exact hos u (List.mem_cons_of_mem _ (List.mem_cons_of_mem _ hu)), hc, hz⟩
    have kk1 := kk _ _ _ _ _ _ _ _ (fun _ _ => rfl) h1
    match a, hk, kk1 with
    | 0, hdg, kk1 => exact lv_iadd hx hb hdg kk1
    | 1, hdg, kk1 => exact lv_isub hx hb hdg kk1
    | 2, hdg, kk1 => exact lv_imul hx hb hdg kk1
    | 3, hdg, kk1 => exact lv_iand hx hb hdg kk1
    | 4, hdg, kk1 => exact lv_ior hx hb hdg kk1
    | 5, hdg, kk1 => exact lv_ishr hx hb hdg kk1
    | n + 6, hdg, _ => exact hdg.elim
  · cases hd
theorem am_s11 (act : am_Act P Y Ts p R s m args meth c M d mc ms) (hk : am_okI P Y cl Ts M pc 11 a b k x nx tab) (hd : am_do P.2.1 11 a b k x nx tab d ls st S = some (pc', ls', st', S1)) (h : am_St em D cl Zs A s H locs cells slots ad ca tys lsA (P.2.2.1 M) ls st S c0 z0)
    (kk : am_K p l e R s m args below meth c Q em D cl Zs A (P.2.2.1 M) c0 z0 ad S.1.length pc' ls' st' S1) : W p l e R s m args below meth c H locs cells slots Q (F0 m pc lsA (st.map (am_v em ad))) := by
  obtain ⟨hx, hb, hml, hown, hts, hr, hlk, hnm, hRf, hRc, hRs, hRl, hexc, hhn⟩ := id act
  obtain ⟨hRl0, hS, hZ, hlo, hol, hos, hc, hz⟩ := id h
  simp only [am_do] at hd
  simp only [am_okI] at hk
  obtain ⟨hdg, rfl⟩ := hk
  split at hd
  · rename_i v r
    cases hd
    exact lv_ineg hx hb hdg (kk _ _ _ _ _ _ _ _ (fun _ _ => rfl) ⟨hRl0, hS, hZ, hlo, hol, fun u hu => by
      rcases List.mem_cons.mp hu with rfl | hu
      · trivial
      · exact hos u (List.mem_cons_of_mem _ hu), hc, hz⟩)
  · cases hd
theorem am_s12 (act : am_Act P Y Ts p R s m args meth c M d mc ms) (hk : am_okI P Y cl Ts M pc 12 a b k x nx tab) (hd : am_do P.2.1 12 a b k x nx tab d ls st S = some (pc', ls', st', S1)) (h : am_St em D cl Zs A s H locs cells slots ad ca tys lsA (P.2.2.1 M) ls st S c0 z0)
    (kk : am_K p l e R s m args below meth c Q em D cl Zs A (P.2.2.1 M) c0 z0 ad S.1.length pc' ls' st' S1) : W p l e R s m args below meth c H locs cells slots Q (F0 m pc lsA (st.map (am_v em ad))) := by
  obtain ⟨hx, hb, hml, hown, hts, hr, hlk, hnm, hRf, hRc, hRs, hRl, hexc, hhn⟩ := id act
  obtain ⟨hRl0, hS, hZ, hlo, hol, hos, hc, hz⟩ := id h
  simp only [am_do] at hd
  simp only [am_okI] at hk
  obtain ⟨off, hdg, ht, rfl, ha⟩ := hk
  split at hd
  · rename_i v r
    cases hd
    have h1 : am_St em D cl Zs A s H locs cells slots ad ca tys lsA (P.2.2.1 M) ls st' S c0 z0 := ⟨hRl0, hS, hZ, hlo, hol, fun w hw => hos w (List.mem_cons_of_mem _ hw), hc, hz⟩
    have kk1 := kk _ _ _ _ _ _ _ _ (fun _ _ => rfl) h1
    match a, ha, hdg, kk1 with
    | 0, _, hdg, kk1 => exact lv_if_eq hx hb hdg ht (fun q => by rwa [if_pos (by simp [am_cmp, q])] at kk1) (fun q => by rwa [if_neg (by simp [am_cmp, q])] at kk1)
    | 1, _, hdg, kk1 => exact lv_if_ne hx hb hdg ht (fun q => by rwa [if_pos (by simp [am_cmp, q])] at kk1) (fun q => by rwa [if_neg (by simp [am_cmp, q])] at kk1)
    | 2, _, hdg, kk1 => exact lv_if_lt hx hb hdg ht (fun q => by rwa [if_pos (show am_cmp 2 v 0 = true from decide_eq_true q)] at kk1) (fun q => by rwa [if_neg (show ¬ am_cmp 2 v 0 = true from fun z => q (of_decide_eq_true z))] at kk1)
    | 3, _, hdg, kk1 => exact lv_if_ge hx hb hdg ht (fun q => by rwa [if_pos (show am_cmp 3 v 0 = true from decide_eq_true q)] at kk1) (fun q => by rwa [if_neg (show ¬ am_cmp 3 v 0 = true from fun z => q (of_decide_eq_true z))] at kk1)
    | 4, _, hdg, kk1 => exact lv_if_gt hx hb hdg ht (fun q => by rwa [if_pos (show am_cmp 4 v 0 = true from decide_eq_true q)] at kk1) (fun q => by rwa [if_neg (show ¬ am_cmp 4 v 0 = true from fun z => q (of_decide_eq_true z))] at kk1)
    | 5, _, hdg, kk1 => exact lv_if_le hx hb hdg ht (fun q => by rwa [if_pos (show am_cmp 5 v 0 = true from decide_eq_true q)] at kk1) (fun q => by rwa [if_neg (show ¬ am_cmp 5 v 0 = true from fun z => q (of_decide_eq_true z))] at kk1)
    | n + 6, ha, _, _ => exact absurd ha (by omega)
  · cases hd
theorem am_s13 (act : am_Act P Y Ts p R s m args meth c M d mc ms) (hk : am_okI P Y cl Ts M pc 13 a b k x nx tab) (hd : am_do P.2.1 13 a b k x nx tab d ls st S = some (pc', ls', st', S1)) (h : am_St em D cl Zs A s H locs cells slots ad ca tys lsA (P.2.2.1 M) ls st S c0 z0)
    (kk : am_K p l e R s m args below meth c Q em D cl Zs A (P.2.2.1 M) c0 z0 ad S.1.length pc' ls' st' S1) : W p l e R s m args below meth c H locs cells slots Q (F0 m pc lsA (st.map (am_v em ad))) := by
  obtain ⟨hx, hb, hml, hown, hts, hr, hlk, hnm, hRf, hRc, hRs, hRl, hexc, hhn⟩ := id act
  obtain ⟨hRl0, hS, hZ, hlo, hol, hos, hc, hz⟩ := id h
  simp only [am_do] at hd
  simp only [am_okI] at hk
  obtain ⟨off, hdg, ht, rfl, ha⟩ := hk
  split at hd
  · rename_i w v r
    cases hd
    have h1 : am_St em D cl Zs A s H locs cells slots ad ca tys lsA (P.2.2.1 M) ls st' S c0 z0 := ⟨hRl0, hS, hZ, hlo, hol, fun w hw => hos w (List.mem_cons_of_mem _ (List.mem_cons_of_mem _ hw)), hc, hz⟩
    have kk1 := kk _ _ _ _ _ _ _ _ (fun _ _ => rfl) h1
    match a, ha, hdg, kk1 with
    | 0, _, hdg, kk1 => exact lv_icmp_eq hx hb hdg ht (fun q => by rwa [if_pos (by simp [am_cmp, q])] at kk1) (fun q => by rwa [if_neg (by simp [am_cmp, q])] at kk1)
    | 1, _, hdg, kk1 => exact lv_icmp_ne hx hb hdg ht (fun q => by rwa [if_pos (by simp [am_cmp, q])] at kk1) (fun q => by rwa [if_neg (by simp [am_cmp, q])] at kk1)
    | 2, _, hdg, kk1 => exact lv_icmp_lt hx hb hdg ht (fun q => by rwa [if_pos (show am_cmp 2 v w = true from decide_eq_true q)] at kk1) (fun q => by rwa [if_neg (show ¬ am_cmp 2 v w = true from fun z => q (of_decide_eq_true z))] at kk1)
    | 3, _, hdg, kk1 => exact lv_icmp_ge hx hb hdg ht (fun q => by rwa [if_pos (show am_cmp 3 v w = true from decide_eq_true q)] at kk1) (fun q => by rwa [if_neg (show ¬ am_cmp 3 v w = true from fun z => q (of_decide_eq_true z))] at kk1)
    | 4, _, hdg, kk1 => exact lv_icmp_gt hx hb hdg ht (fun q => by rwa [if_pos (show am_cmp 4 v w = true from decide_eq_true q)] at kk1) (fun q => by rwa [if_neg (show ¬ am_cmp 4 v w = true from fun z => q (of_decide_eq_true z))] at kk1)
    | 5, _, hdg, kk1 => exact lv_icmp_le hx hb hdg ht (fun q => by rwa [if_pos (show am_cmp 5 v w = true from decide_eq_true q)] at kk1) (fun q => by rwa [if_neg (show ¬ am_cmp 5 v w = true from fun z => q (of_decide_eq_true z))] at kk1)
    | n + 6, ha, _, _ => exact absurd ha (by omega)
  · cases hd
theorem am_s14 (act : am_Act P Y Ts p R s m args meth c M d mc ms) (hk : am_okI P Y cl Ts M pc 14 a b k x nx tab) (hd : am_do P.2.1 14 a b k x nx tab d ls st S = some (pc', ls', st', S1)) (h : am_St em D cl Zs A s H locs cells slots ad ca tys lsA (P.2.2.1 M) ls st S c0 z0)
    (kk : am_K p l e R s m args below meth c Q em D cl Zs A (P.2.2.1 M) c0 z0 ad S.1.length pc' ls' st' S1) : W p l e R s m args below meth c H locs cells slots Q (F0 m pc lsA (st.map (am_v em ad))) := by
  obtain ⟨hx, hb, hml, hown, hts, hr, hlk, hnm, hRf, hRc, hRs, hRl, hexc, hhn⟩ := id act
  obtain ⟨hRl0, hS, hZ, hlo, hol, hos, hc, hz⟩ := id h
  simp only [am_do] at hd
  simp only [am_okI] at hk
  obtain ⟨off, hdg, ht, rfl⟩ := hk
  have h1 : ∀ v r, st = v :: r → am_St em D cl Zs A s H locs cells slots ad ca tys lsA (P.2.2.1 M) ls r S c0 z0 := fun v r e => ⟨hRl0, hS, hZ, hlo, hol, fun w hw => hos w (by rw [e]; exact List.mem_cons_of_mem _ hw), hc, hz⟩
  split at hd
  · cases hd; exact lv_ifnull hx hb hdg (kk _ _ _ _ _ _ _ _ (fun _ _ => rfl) (h1 _ _ rfl))
  · cases hd; exact lv_ifnullN hx hb hdg ht (kk _ _ _ _ _ _ _ _ (fun _ _ => rfl) (h1 _ _ rfl))
  · cases hd
theorem am_s15 (act : am_Act P Y Ts p R s m args meth c M d mc ms) (hk : am_okI P Y cl Ts M pc 15 a b k x nx tab) (hd : am_do P.2.1 15 a b k x nx tab d ls st S = some (pc', ls', st', S1)) (h : am_St em D cl Zs A s H locs cells slots ad ca tys lsA (P.2.2.1 M) ls st S c0 z0)
    (kk : am_K p l e R s m args below meth c Q em D cl Zs A (P.2.2.1 M) c0 z0 ad S.1.length pc' ls' st' S1) : W p l e R s m args below meth c H locs cells slots Q (F0 m pc lsA (st.map (am_v em ad))) := by
  obtain ⟨hx, hb, hml, hown, hts, hr, hlk, hnm, hRf, hRc, hRs, hRl, hexc, hhn⟩ := id act
  obtain ⟨hRl0, hS, hZ, hlo, hol, hos, hc, hz⟩ := id h
  simp only [am_do] at hd
  simp only [am_okI] at hk
  obtain ⟨off, hdg, ht, rfl⟩ := hk
  have h1 : ∀ v r, st = v :: r → am_St em D cl Zs A s H locs cells slots ad ca tys lsA (P.2.2.1 M) ls r S c0 z0 := fun v r e => ⟨hRl0, hS, hZ, hlo, hol, fun w hw => hos w (by rw [e]; exact List.mem_cons_of_mem _ hw), hc, hz⟩
  split at hd
  · cases hd; exact lv_ifnonnull hx hb hdg ht (kk _ _ _ _ _ _ _ _ (fun _ _ => rfl) (h1 _ _ rfl))
  · cases hd; exact lv_ifnonnullN hx hb hdg (kk _ _ _ _ _ _ _ _ (fun _ _ => rfl) (h1 _ _ rfl))
  · cases hd
theorem am_s18 (act : am_Act P Y Ts p R s m args meth c M d mc ms) (hk : am_okI P Y cl Ts M pc 18 a b k x nx tab) (hd : am_do P.2.1 18 a b k x nx tab d ls st S = some (pc', ls', st', S1)) (h : am_St em D cl Zs A s H locs cells slots ad ca tys lsA (P.2.2.1 M) ls st S c0 z0)
    (kk : am_K p l e R s m args below meth c Q em D cl Zs A (P.2.2.1 M) c0 z0 ad S.1.length pc' ls' st' S1) : W p l e R s m args below meth c H locs cells slots Q (F0 m pc lsA (st.map (am_v em ad))) := by
  obtain ⟨hx, hb, hml, hown, hts, hr, hlk, hnm, hRf, hRc, hRs, hRl, hexc, hhn⟩ := id act
  obtain ⟨hRl0, hS, hZ, hlo, hol, hos, hc, hz⟩ := id h
  simp only [am_do] at hd
  simp only [am_okI] at hk
  cases hd
  obtain ⟨off, hdg, ht⟩ := hk
  exact lv_goto hx hb hdg ht (kk _ _ _ _ _ _ _ _ (fun _ _ => rfl) h)
theorem am_s19 (act : am_Act P Y Ts p R s m args meth c M d mc ms) (hk : am_okI P Y cl Ts M pc 19 a b k x nx tab) (hd : am_do P.2.1 19 a b k x nx tab d ls st S = some (pc', ls', st', S1)) (h : am_St em D cl Zs A s H locs cells slots ad ca tys lsA (P.2.2.1 M) ls st S c0 z0)
    (kk : am_K p l e R s m args below meth c Q em D cl Zs A (P.2.2.1 M) c0 z0 ad S.1.length pc' ls' st' S1) : W p l e R s m args below meth c H locs cells slots Q (F0 m pc lsA (st.map (am_v em ad))) := by
  obtain ⟨hx, hb, hml, hown, hts, hr, hlk, hnm, hRf, hRc, hRs, hRl, hexc, hhn⟩ := id act
  obtain ⟨hRl0, hS, hZ, hlo, hol, hos, hc, hz⟩ := id h
  simp only [am_do] at hd
  simp only [am_okI] at hk
  split at hd
  · rename_i v r
    cases hd
    have h1 : am_St em D cl Zs A s H locs cells slots ad ca tys lsA (P.2.2.1 M) ls st' S c0 z0 := ⟨hRl0, hS, hZ, hlo, hol, fun w hw => hos w (List.mem_cons_of_mem _ hw), hc, hz⟩
    have kk1 := kk _ _ _ _ _ _ _ _ (fun _ _ => rfl) h1
    rcases hk with ⟨dflt, lo, hi, offs, len, hdg, hdf, h2, h3⟩ | ⟨dflt, ps, len, hdg, hso, h2⟩
    · by_cases q1 : v.toInt < lo ∨ hi < v.toInt
      · rw [h2 v q1] at kk1
        exact lv_tableOut hx hb hdg q1 hdf kk1
      · obtain ⟨off, ho, ht⟩ := h3 v (fun z => q1 (Or.inl z)) (fun z => q1 (Or.inr z))
        exact lv_tableIn hx hb hdg (fun z => q1 (Or.inl z)) (fun z => q1 (Or.inr z)) ho ht kk1
    · exact lv_lookup hx hb hdg hso rfl (h2 v) kk1
  · cases hd
theorem am_s29 (act : am_Act P Y Ts p R s m args meth c M d mc ms) (hk : am_okI P Y cl Ts M pc 29 a b k x nx tab) (hd : am_do P.2.1 29 a b k x nx tab d ls st S = some (pc', ls', st', S1)) (h : am_St em D cl Zs A s H locs cells slots ad ca tys lsA (P.2.2.1 M) ls st S c0 z0)
    (kk : am_K p l e R s m args below meth c Q em D cl Zs A (P.2.2.1 M) c0 z0 ad S.1.length pc' ls' st' S1) : W p l e R s m args below meth c H locs cells slots Q (F0 m pc lsA (st.map (am_v em ad))) := by
  obtain ⟨hx, hb, hml, hown, hts, hr, hlk, hnm, hRf, hRc, hRs, hRl, hexc, hhn⟩ := id act
  obtain ⟨hRl0, hS, hZ, hlo, hol, hos, hc, hz⟩ := id h
  simp only [am_do] at hd
  simp only [am_okI] at hk
  cases hd
  obtain ⟨hdg, rfl⟩ := hk
  exact lv_null hx hb hdg (kk _ _ _ _ _ _ _ _ (fun _ _ => rfl) ⟨hRl0, hS, hZ, hlo, hol, am_oc trivial hos, hc, hz⟩)
theorem am_s31 (act : am_Act P Y Ts p R s m args meth c M d mc ms) (hk : am_okI P Y cl Ts M pc 31 a b k x nx tab) (hd : am_do P.2.1 31 a b k x nx tab d ls st S = some (pc', ls', st', S1)) (h : am_St em D cl Zs A s H locs cells slots ad ca tys lsA (P.2.2.1 M) ls st S c0 z0)
    (kk : am_K p l e R s m args below meth c Q em D cl Zs A (P.2.2.1 M) c0 z0 ad S.1.length pc' ls' st' S1) : W p l e R s m args below meth c H locs cells slots Q (F0 m pc lsA (st.map (am_v em ad))) := by
  obtain ⟨hx, hb, hml, hown, hts, hr, hlk, hnm, hRf, hRc, hRs, hRl, hexc, hhn⟩ := id act
  obtain ⟨hRl0, hS, hZ, hlo, hol, hos, hc, hz⟩ := id h
  simp only [am_do] at hd
  simp only [am_okI] at hk
  obtain ⟨idx, hdg, rfl, h2, h3, h4⟩ := hk
  split at hd
  · rename_i v r
    split at hd
    · rename_i hdr
      cases hd
      have hr1 : ∀ w ∈ st', am_okv S.1.length w := fun w hw => hos w (List.mem_cons_of_mem _ hw)
      have hcs : ∀ q : List Value, (∀ w ∈ q, am_okv S.1.length w) → ((q.map (am_v em ad)).map fun v => v.category).sum = q.length := by
        intro q
        induction q with
        | nil => intro _; rfl
        | cons w q ih => intro hq; simp only [List.map_cons, List.sum_cons, List.length_cons]; rw [ih fun u hu => hq u (List.mem_cons_of_mem _ hu), am_cat (em := em) ad (hq w List.mem_cons_self)]; omega
      have hsz : (F0 m pc lsA (((Value.ref v) :: st').map (am_v em ad))).locals.size = c.maxLocals := by rw [hml]; exact hlo.1.1
      exact W.eq (g2 := F0 m pc lsA (.ref (ad v) :: st'.map (am_v em ad))) rfl (W.objInit hx hb hown (hts _ h2) (hts _ h3) (hts _ h4) rfl hsz rfl hdg (by rw [hRf]; exact hdr.1) (by
        show 2 * 0 + ((st'.map (am_v em ad)).map fun v => v.category).sum + 12 ≤ R.locals
        rw [hcs st' hr1, hRl]; omega) (kk _ _ _ _ _ _ _ _ (fun _ _ => rfl) ⟨hRl0, hS, hZ, hlo, hol, hr1, hc, hz⟩))
    · cases hd
  · cases hd
end AM3
end
section
/-! SMALL INSTRUCTIONS OVER CELLS -/
theorem am_fitv {k : Nat} {desc : String} {v : Value} {ty : FieldType} (hk : am_okT k desc) (hf : am_fit k v = true) (em : Int64 → Nat) (ad : Nat → Nat) (hd : parseFieldDescriptor desc = some ty) : narrow ty (am_v em ad v) = am_v em ad v ∧ fits ty (am_v em ad v) = true := by
  match k, hk with
  | 0, hk =>
    simp only [am_okT] at hk
    cases hk.symm.trans hd
    cases v <;> simp [am_fit] at hf
    exact ⟨rfl, rfl⟩
  | 1, hk =>
    simp only [am_okT] at hk
    rcases hk with ⟨n, hk⟩ | ⟨n, hk⟩
    · cases hk.symm.trans hd
      cases v <;> simp [am_fit] at hf <;> exact ⟨rfl, rfl⟩
    · cases hk.symm.trans hd
      cases v <;> simp [am_fit] at hf <;> exact ⟨rfl, rfl⟩
  | 2, hk =>
    simp only [am_okT] at hk
    cases hk.symm.trans hd
    cases v <;> simp [am_fit] at hf
    rcases hf with rfl | rfl
    · show narrow .boolean (.int 0) = .int 0 ∧ fits .boolean (.int 0) = true
      exact ⟨by decide, by decide⟩
    · show narrow .boolean (.int 1) = .int 1 ∧ fits .boolean (.int 1) = true
      exact ⟨by decide, by decide⟩
  | n + 3, hk => exact hk.elim
theorem am_tyA {tys : List (ClassId × FieldType)} {cA : ClassId} {b : Bool} {q : Nat × (Nat → Int32)} (h : am_ty tys cA (.inl (b, q))) : ∃ t0 : Nat, tys[t0]? = some (cA, if b then .boolean else .int) := by
  cases b <;> exact h
/-- the constant cells outside the list: 0 the empty array of ArrayList, 1 the Class object of Object[] -/
def am_ZE (em : Int64 → Nat) (Zs : (Nat → Prop) → State → Heap → Prop) : Prop := ∀ (A : Nat → Prop) (s : State), Zs A s s.heap → va_Z am_AL am_EE am_ED (.ref (em 0)) A s s.heap ∧ va_T (.object "java/lang/Object") (em 0) 0 (fun _ => .null) A s s.heap ∧ va_Mi am_ED (em 1) s
theorem am_va_rf {em : Int64 → Nat} {ad : Nat → Nat} (g : Option Nat) : am_v em ad (va_rf g) = va_rf (g.map ad) := by cases g <;> rfl
theorem am_catl {em : Int64 → Nat} {ad : Nat → Nat} {n : Nat} : ∀ q : List Value, (∀ w ∈ q, am_okv n w) → ((q.map (am_v em ad)).map fun v => v.category).sum = q.length := by
  intro q
  induction q with
  | nil => intro _; rfl
  | cons w q ih => intro hq; simp only [List.map_cons, List.sum_cons, List.length_cons]; rw [ih fun u hu => hq u (List.mem_cons_of_mem _ hu), am_cat (em := em) ad (hq w List.mem_cons_self)]; omega
section AM4
variable {em : Int64 → Nat} {P : am_P} {Y : am_Y} {D : va_G} {cl : List vw_C} {Ts : List Jvm.Cond} {Zs : (Nat → Prop) → State → Heap → Prop}
variable {p : Program} {l : Launch} {e : Env} {R : Room} {s : State} {m : MethodId} {args : Array Value} {below : List Frame} {meth : Method} {c : Code} {H : Heap} {locs : List Loc} {cells slots : Nat} {Q : State → Prop}
variable {A : Nat → Prop} {ad : Nat → Nat} {ca : Nat → ClassId} {tys : List (ClassId × FieldType)} {lsA : Array Slot} {ls ls' : am_V} {st st' : List Value} {S S1 : am_S} {c0 z0 mc ms M d pc pc' nx a b k n0 : Nat} {x : Int32} {tab : List (Int32 × Nat)}
set_option maxHeartbeats 1000000 in
theorem am_s20 (act : am_Act P Y Ts p R s m args meth c M d mc ms) (hk : am_okI P Y cl Ts M pc 20 a b k x nx tab) (hd : am_do P.2.1 20 a b k x nx tab d ls st S = some (pc', ls', st', S1)) (h : am_St em D cl Zs A s H locs cells slots ad ca tys lsA (P.2.2.1 M) ls st S c0 z0) (hC : am_okC P.2.1 cl Ts) (hA : ∀ q, s.heap.size ≤ q → A q) (hup : S1.2.1 ≤ c0 + mc ∧ S1.2.2 ≤ z0 + ms) (hE : am_ZE em Zs)
    (kk : am_K p l e R s m args below meth c Q em D cl Zs A (P.2.2.1 M) c0 z0 ad S.1.length pc' ls' st' S1) : W p l e R s m args below meth c H locs cells slots Q (F0 m pc lsA (st.map (am_v em ad))) := by
  obtain ⟨hx, hb, hml, hown, hts, hr, hlk, hnm, hRf, hRc, hRs, hRl, hexc, hhn⟩ := id act
  obtain ⟨hRl0, hS, hZ, hlo, hol, hos, hc, hz⟩ := id h
  obtain ⟨hP, hD, hK, hT, hW⟩ := id hRl0
  simp only [am_do] at hd
  simp only [am_okI] at hk
  obtain ⟨idx, hdg, rfl, C, T, N, ref, hcl, hbN, hfl, hsame⟩ := hk
  split at hd
  · rename_i k0 r
    split at hd
    · rename_i ci fs hcell
      split at hd
      · rename_i hci
        subst hci
        split at hd
        · rename_i v hv
          cases hd
          refine va_get (D := D) (ci := ci) (C := C) (T := T) (N := N) hx hb hts (hC ci C T N hcl).1 hown hK hP k0 (am_w_get hcell) hcl b hbN (hts _ hfl) (fun q hq => ?_) (v := am_v em ad v) (by rw [List.getElem?_map, hv]; rfl) hdg ?_
          · rcases hsame with rfl | hsame
            · exact hq
            · exact u_same (hts _ hsame) q hq
          · have hok : am_okv S.1.length v := hW k0 _ hcell v (List.mem_of_getElem? hv)
            exact kk _ _ _ _ _ _ _ _ (fun _ _ => rfl) ⟨hRl0, hS, hZ, hlo, hol, am_oc hok fun w hw => hos w (List.mem_cons_of_mem _ hw), hc, hz⟩
        · cases hd
      · cases hd
    · cases hd
  · cases hd
set_option maxHeartbeats 1000000 in
theorem am_s21 (act : am_Act P Y Ts p R s m args meth c M d mc ms) (hk : am_okI P Y cl Ts M pc 21 a b k x nx tab) (hd : am_do P.2.1 21 a b k x nx tab d ls st S = some (pc', ls', st', S1)) (h : am_St em D cl Zs A s H locs cells slots ad ca tys lsA (P.2.2.1 M) ls st S c0 z0) (hC : am_okC P.2.1 cl Ts) (hA : ∀ q, s.heap.size ≤ q → A q) (hup : S1.2.1 ≤ c0 + mc ∧ S1.2.2 ≤ z0 + ms) (hE : am_ZE em Zs)
    (kk : am_K p l e R s m args below meth c Q em D cl Zs A (P.2.2.1 M) c0 z0 ad S.1.length pc' ls' st' S1) : W p l e R s m args below meth c H locs cells slots Q (F0 m pc lsA (st.map (am_v em ad))) := by
  obtain ⟨hx, hb, hml, hown, hts, hr, hlk, hnm, hRf, hRc, hRs, hRl, hexc, hhn⟩ := id act
  obtain ⟨hRl0, hS, hZ, hlo, hol, hos, hc, hz⟩ := id h
  obtain ⟨hP, hD, hK, hT, hW⟩ := id hRl0
  simp only [am_do] at hd
  simp only [am_okI] at hk
  obtain ⟨idx, hdg, rfl, ⟨C, T, N, ref, hcl, hbN, hfl, hsame⟩, hkind⟩ := hk
  obtain ⟨hkT, hfin⟩ := hkind C T N hcl
  split at hd
  · rename_i v k0 r
    split at hd
    · rename_i ci fs hcell
      split at hd
      · rename_i hcond
        obtain ⟨rfl, hbl, hfit⟩ := hcond
        cases hd
        obtain ⟨hin, hnb, hdis, hnb0, ty, hty, hdef⟩ := hC ci C T N hcl
        obtain ⟨hn, hf⟩ := am_fitv hkT hfit em ad (hty b hbN)
        have hokv : am_okv S.1.length v := hos v List.mem_cons_self
        have hwset : (am_w em ad ca S.1).set k0 (ad k0, .inr (ci, (fs.map (am_v em ad)).set b (am_v em ad v))) = am_w em ad ca (S.1.set k0 (.inr (.inr (ci, fs.set b v)))) := by
          rw [← am_w_set]
          simp only [am_ce, List.map_set]
        have hnew : ∀ (H1 : Heap) (locs1 : List Loc), va_P D cl ((am_w em ad ca S.1).set k0 (ad k0, .inr (ci, (fs.map (am_v em ad)).set b (am_v em ad v)))) H1 → va_D A ((am_w em ad ca S.1).set k0 (ad k0, .inr (ci, (fs.map (am_v em ad)).set b (am_v em ad v)))) → va_S A s.heap H1 locs1 →
            W p l e R s m args below meth c H1 locs1 cells slots Q (F0 m (pc + 3) lsA (st'.map (am_v em ad))) := by
          intro H1 locs1 hP1 hD1 hS1
          rw [hwset] at hP1 hD1
          refine kk _ _ _ _ _ ca tys _ (fun _ _ => rfl) ⟨⟨hP1, hD1, hK, fun j q hj => ?_, fun j q hj => ?_⟩, hS1, hZ, hlo, by rw [List.length_set]; exact hol, by rw [List.length_set]; exact fun w hw => hos w (List.mem_cons_of_mem _ (List.mem_cons_of_mem _ hw)), hc, hz⟩
          · rw [List.getElem?_set] at hj
            split at hj
            · split at hj
              · cases hj; trivial
              · cases hj
            · exact hT j q hj
          · rw [List.length_set]
            rw [List.getElem?_set] at hj
            split at hj
            · split at hj
              · cases hj
                intro w hw
                rcases List.mem_or_eq_of_mem_set hw with hw | rfl
                · exact hW k0 _ hcell w hw
                · exact hokv
              · cases hj
            · exact hW j q hj
        have hsm : ∀ q, s.fieldFound? (T b).1 (T b).2.1 (T b).2.2.1 = some q → s.fieldFound? ref (T b).2.1 (T b).2.2.1 = some q := fun q hq => by
          rcases hsame with rfl | hsame
          · exact hq
          · exact u_same (hts _ hsame) q hq
        rcases hfin with hfin | ⟨hfin, hini, hdecl⟩
        · exact va_put (D := D) (ci := ci) (v := am_v em ad v) (ty := ty b) (C := C) (T := T) (N := N) hx hb hts hin ty hty hdis hown hK hP hD hS k0 (am_w_get hcell) hcl b hbN (hts _ hfl) hsm hfin (hty b hbN) hn hf (by rw [List.length_map]; exact hbl) hdg hnew
        · exact va_putF (D := D) (ci := ci) (v := am_v em ad v) (ty := ty b) (C := C) (T := T) (N := N) hx hb hts hin ty hty hdis hown hK hP hD hS k0 (am_w_get hcell) hcl b hbN (hts _ hfl) hsm hfin (by rw [hnm]; exact hini) hdecl (hty b hbN) hn hf (by rw [List.length_map]; exact hbl) hdg hnew
      · cases hd
    · cases hd
  · cases hd
set_option maxHeartbeats 1000000 in
theorem am_s22 (act : am_Act P Y Ts p R s m args meth c M d mc ms) (hk : am_okI P Y cl Ts M pc 22 a b k x nx tab) (hd : am_do P.2.1 22 a b k x nx tab d ls st S = some (pc', ls', st', S1)) (h : am_St em D cl Zs A s H locs cells slots ad ca tys lsA (P.2.2.1 M) ls st S c0 z0) (hC : am_okC P.2.1 cl Ts) (hA : ∀ q, s.heap.size ≤ q → A q) (hup : S1.2.1 ≤ c0 + mc ∧ S1.2.2 ≤ z0 + ms) (hE : am_ZE em Zs)
    (kk : am_K p l e R s m args below meth c Q em D cl Zs A (P.2.2.1 M) c0 z0 ad S.1.length pc' ls' st' S1) : W p l e R s m args below meth c H locs cells slots Q (F0 m pc lsA (st.map (am_v em ad))) := by
  obtain ⟨hx, hb, hml, hown, hts, hr, hlk, hnm, hRf, hRc, hRs, hRl, hexc, hhn⟩ := id act
  obtain ⟨hRl0, hS, hZ, hlo, hol, hos, hc, hz⟩ := id h
  obtain ⟨hP, hD, hK, hT, hW⟩ := id hRl0
  simp only [am_do] at hd
  simp only [am_okI] at hk
  obtain ⟨idx, C, T, N, hdg, rfl, hcl, h1, h2, h3⟩ := hk
  cases hd
  obtain ⟨hin, hnb, hdis, hnb0, ty, hty, hdef⟩ := hC a C T N hcl
  have hmap : ∀ ad' : Nat → Nat, (P.2.1 a).map (am_v em ad') = P.2.1 a := fun ad' => by
    conv => rhs; rw [← List.map_id (P.2.1 a)]
    exact List.map_congr_left fun v hv => by rcases hnb0 v hv with rfl | rfl <;> rfl
  have hR1 : cells + 1 ≤ R.cells := by rw [hRc]; have := hup.1; simp only at this; omega
  have hR2 : slots + N ≤ R.slots := by rw [hRs]; have := hup.2; simp only [hnb] at this; omega
  refine va_new (ci := a) (fs := P.2.1 a) (C := C) (T := T) (N := N) hx hb hts hin ty hty hown (hts _ h1) (hts _ h2) (hts _ h3) hK hP hD hS hA hcl hdef hR1 hR2 hdg (fun q H1 hP1 hD1 hS1 => ?_)
  rw [am_w_app (cA := 0) (c := .inr (.inr (a, P.2.1 a))) hW (by simp only [am_ce]; rw [hmap])] at hP1 hD1
  have hag : ∀ j, j < S.1.length → va_up ad S.1.length q j = ad j := fun j hj => if_neg (Nat.ne_of_lt hj)
  have e1 : st.map (am_v em ad) = st.map (am_v em (va_up ad S.1.length q)) := (am_st_eq hag hos).symm
  have e2 : va_up ad S.1.length q S.1.length = q := if_pos rfl
  rw [e1]
  have key := kk H1 locs (cells + 1) (slots + N) (va_up ad S.1.length q) (va_up ca S.1.length 0) tys lsA hag ⟨⟨hP1, hD1, hK, fun j w hj => ?_, fun j w hj => ?_⟩, hS1, hZ, hlo.agree hol hag, fun i v hv => (hol i v hv).mono (by simp), am_oc (by simp [am_okv]) (fun w hw => (hos w hw).mono (by simp)), by simp only; omega, by simp only [hnb]; omega⟩
  · rw [show (Value.ref S.1.length :: st).map (am_v em (va_up ad S.1.length q)) = .ref q :: st.map (am_v em (va_up ad S.1.length q)) by simp only [List.map_cons, am_v, e2]] at key
    exact key
  · rcases Nat.lt_or_ge j S.1.length with hj2 | hj2
    · rw [List.getElem?_append_left hj2] at hj
      rw [show va_up ca S.1.length 0 j = ca j from if_neg (Nat.ne_of_lt hj2)]
      exact hT j w hj
    · rw [List.getElem?_append_right hj2] at hj
      cases hq : j - S.1.length with
      | zero => rw [hq] at hj; cases hj; trivial
      | succ n => rw [hq] at hj; simp at hj
  · rcases Nat.lt_or_ge j S.1.length with hj2 | hj2
    · rw [List.getElem?_append_left hj2] at hj
      exact (hW j w hj).mono (by simp)
    · rw [List.getElem?_append_right hj2] at hj
      cases hq : j - S.1.length with
      | zero =>
        rw [hq] at hj; cases hj
        intro v hv
        rcases hnb0 v hv with rfl | rfl <;> trivial
      | succ n => rw [hq] at hj; simp at hj
set_option maxHeartbeats 1000000 in
theorem am_s23 (act : am_Act P Y Ts p R s m args meth c M d mc ms) (hk : am_okI P Y cl Ts M pc 23 a b k x nx tab) (hd : am_do P.2.1 23 a b k x nx tab d ls st S = some (pc', ls', st', S1)) (h : am_St em D cl Zs A s H locs cells slots ad ca tys lsA (P.2.2.1 M) ls st S c0 z0) (hC : am_okC P.2.1 cl Ts) (hA : ∀ q, s.heap.size ≤ q → A q) (hup : S1.2.1 ≤ c0 + mc ∧ S1.2.2 ≤ z0 + ms) (hE : am_ZE em Zs)
    (kk : am_K p l e R s m args below meth c Q em D cl Zs A (P.2.2.1 M) c0 z0 ad S.1.length pc' ls' st' S1) : W p l e R s m args below meth c H locs cells slots Q (F0 m pc lsA (st.map (am_v em ad))) := by
  obtain ⟨hx, hb, hml, hown, hts, hr, hlk, hnm, hRf, hRc, hRs, hRl, hexc, hhn⟩ := id act
  obtain ⟨hRl0, hS, hZ, hlo, hol, hos, hc, hz⟩ := id h
  obtain ⟨hP, hD, hK, hT, hW⟩ := id hRl0
  simp only [am_do] at hd
  simp only [am_okI] at hk
  obtain ⟨rfl, hk⟩ := hk
  split at hd
  · rename_i v r
    split at hd
    · rename_i hv
      cases hd
      have hR1 : cells + 1 ≤ R.cells := by rw [hRc]; have := hup.1; simp only at this; omega
      have hR2 : slots + v.toNatClampNeg ≤ R.slots := by rw [hRs]; have := hup.2; simp only at this; omega
      have hosr : ∀ w ∈ r, am_okv S.1.length w := fun w hw => hos w (List.mem_cons_of_mem _ hw)
      have fin : ∀ (ty : FieldType), am_ty [(0, ty)] 0 (.inl (decide (a = 1), v.toNatClampNeg, fun _ => 0)) → ∀ (q : Nat) (cA : ClassId) (H1 : Heap), va_K D cl (tys ++ [(cA, ty)]) s → va_P D cl (am_w em ad ca S.1 ++ [(q, .inl (cA, v.toNatClampNeg, .inl (fun _ => 0)))]) H1 → va_D A (am_w em ad ca S.1 ++ [(q, .inl (cA, v.toNatClampNeg, .inl (fun _ => 0)))]) → va_S A s.heap H1 locs →
          W p l e R s m args below meth c H1 locs (cells + 1) (slots + v.toNatClampNeg) Q (F0 m (pc + 2) lsA (.ref q :: r.map (am_v em ad))) := by
        intro ty hty q cA H1 hK1 hP1 hD1 hS1
        rw [am_w_app (cA := cA) (c := .inl (decide (a = 1), v.toNatClampNeg, fun _ => 0)) (E := .inl (cA, v.toNatClampNeg, .inl (fun _ => 0))) hW rfl] at hP1 hD1
        have hag : ∀ j, j < S.1.length → va_up ad S.1.length q j = ad j := fun j hj => if_neg (Nat.ne_of_lt hj)
        have e1 : r.map (am_v em ad) = r.map (am_v em (va_up ad S.1.length q)) := (am_st_eq hag hosr).symm
        have e2 : va_up ad S.1.length q S.1.length = q := if_pos rfl
        rw [e1]
        have key := kk H1 locs (cells + 1) (slots + v.toNatClampNeg) (va_up ad S.1.length q) (va_up ca S.1.length cA) (tys ++ [(cA, ty)]) lsA hag ⟨⟨hP1, hD1, hK1, fun j w hj => ?_, fun j w hj => ?_⟩, hS1, hZ, hlo.agree hol hag, fun i v hv => (hol i v hv).mono (by simp), am_oc (by simp [am_okv]) (fun w hw => (hosr w hw).mono (by simp)), by simp only; omega, by simp only; omega⟩
        · rw [show (Value.ref S.1.length :: r).map (am_v em (va_up ad S.1.length q)) = .ref q :: r.map (am_v em (va_up ad S.1.length q)) by simp only [List.map_cons, am_v, e2]] at key
          exact key
        · rcases Nat.lt_or_ge j S.1.length with hj2 | hj2
          · rw [List.getElem?_append_left hj2] at hj
            rw [show va_up ca S.1.length cA j = ca j from if_neg (Nat.ne_of_lt hj2)]
            exact (hT j w hj).more
          · rw [List.getElem?_append_right hj2] at hj
            cases hq : j - S.1.length with
            | zero =>
              have hj3 : j = S.1.length := by omega
              rw [hq] at hj; cases hj
              subst hj3
              rw [show va_up ca S.1.length cA S.1.length = cA from if_pos rfl]
              have hlast : (tys ++ [(cA, ty)])[tys.length]? = some (cA, ty) := by simp
              have h0 : ∀ (t0 : Nat) (ty0 : FieldType), ([(0, ty)] : List (ClassId × FieldType))[t0]? = some (0, ty0) → ty0 = ty := fun t0 ty0 q => by
                cases t0 with
                | zero => simp at q; exact q.symm
                | succ n => simp at q
              cases hbb : decide (a = 1) with
              | false => rw [hbb] at hty; obtain ⟨t0, h1⟩ := hty; exact ⟨tys.length, by rw [h0 _ _ h1]; exact hlast⟩
              | true => rw [hbb] at hty; obtain ⟨t0, h1⟩ := hty; exact ⟨tys.length, by rw [h0 _ _ h1]; exact hlast⟩
            | succ n => rw [hq] at hj; simp at hj
        · rcases Nat.lt_or_ge j S.1.length with hj2 | hj2
          · rw [List.getElem?_append_left hj2] at hj
            exact (hW j w hj).mono (by simp)
          · rw [List.getElem?_append_right hj2] at hj
            cases hq : j - S.1.length with
            | zero => rw [hq] at hj; cases hj; trivial
            | succ n => rw [hq] at hj; simp at hj
      rcases hk with ⟨rfl, hdg, harr⟩ | ⟨rfl, hdg, harr⟩
      · exact va_newa (atype := .int) (ty := .int) (a0 := (v.toNatClampNeg, .inl (fun _ => 0))) hx hb (hts _ harr) rfl hK hP hD hS hA (fun _ => rfl) hv.1 rfl (by show v.toNatClampNeg * 4 ≤ 536870912; have := hv.2; omega) hR1 hR2 hdg (fin .int ⟨0, rfl⟩)
      · exact va_newa (atype := .boolean) (ty := .boolean) (a0 := (v.toNatClampNeg, .inl (fun _ => 0))) hx hb (hts _ harr) rfl hK hP hD hS hA (fun _ => rfl) hv.1 rfl (by show v.toNatClampNeg * 1 ≤ 536870912; have := hv.2; omega) hR1 hR2 hdg (fin .boolean ⟨0, rfl⟩)
    · cases hd
  · cases hd
set_option maxHeartbeats 1000000 in
theorem am_s24 (act : am_Act P Y Ts p R s m args meth c M d mc ms) (hk : am_okI P Y cl Ts M pc 24 a b k x nx tab) (hd : am_do P.2.1 24 a b k x nx tab d ls st S = some (pc', ls', st', S1)) (h : am_St em D cl Zs A s H locs cells slots ad ca tys lsA (P.2.2.1 M) ls st S c0 z0) (hC : am_okC P.2.1 cl Ts) (hA : ∀ q, s.heap.size ≤ q → A q) (hup : S1.2.1 ≤ c0 + mc ∧ S1.2.2 ≤ z0 + ms) (hE : am_ZE em Zs)
    (kk : am_K p l e R s m args below meth c Q em D cl Zs A (P.2.2.1 M) c0 z0 ad S.1.length pc' ls' st' S1) : W p l e R s m args below meth c H locs cells slots Q (F0 m pc lsA (st.map (am_v em ad))) := by
  obtain ⟨hx, hb, hml, hown, hts, hr, hlk, hnm, hRf, hRc, hRs, hRl, hexc, hhn⟩ := id act
  obtain ⟨hRl0, hS, hZ, hlo, hol, hos, hc, hz⟩ := id h
  obtain ⟨hP, hD, hK, hT, hW⟩ := id hRl0
  simp only [am_do] at hd
  simp only [am_okI] at hk
  obtain ⟨hdg, rfl⟩ := hk
  split at hd
  · rename_i k0 r
    split at hd
    · rename_i bb n f hcell
      cases hd
      obtain ⟨t0, ht0⟩ := am_tyA (hT k0 _ hcell)
      exact va_alen hx hb hK hP k0 t0 (am_w_get hcell) ht0 rfl hdg (kk _ _ _ _ _ _ _ _ (fun _ _ => rfl) ⟨hRl0, hS, hZ, hlo, hol, am_oc trivial fun w hw => hos w (List.mem_cons_of_mem _ hw), hc, hz⟩)
    · rename_i n f hcell
      cases hd
      obtain ⟨t0, ht0⟩ := hT k0 _ hcell
      exact va_alen hx hb hK hP k0 t0 (am_w_get hcell) ht0 rfl hdg (kk _ _ _ _ _ _ _ _ (fun _ _ => rfl) ⟨hRl0, hS, hZ, hlo, hol, am_oc trivial fun w hw => hos w (List.mem_cons_of_mem _ hw), hc, hz⟩)
    · cases hd
  · rename_i z r
    split at hd
    · rename_i hz0
      subst hz0
      cases hd
      exact va_tlen hx hb (hE A s hZ).2.1 hS rfl hdg (kk _ _ _ _ _ _ _ _ (fun _ _ => rfl) ⟨hRl0, hS, hZ, hlo, hol, am_oc trivial fun w hw => hos w (List.mem_cons_of_mem _ hw), hc, hz⟩)
    · cases hd
  · cases hd
set_option maxHeartbeats 1000000 in
theorem am_s25 (act : am_Act P Y Ts p R s m args meth c M d mc ms) (hk : am_okI P Y cl Ts M pc 25 a b k x nx tab) (hd : am_do P.2.1 25 a b k x nx tab d ls st S = some (pc', ls', st', S1)) (h : am_St em D cl Zs A s H locs cells slots ad ca tys lsA (P.2.2.1 M) ls st S c0 z0) (hC : am_okC P.2.1 cl Ts) (hA : ∀ q, s.heap.size ≤ q → A q) (hup : S1.2.1 ≤ c0 + mc ∧ S1.2.2 ≤ z0 + ms) (hE : am_ZE em Zs)
    (kk : am_K p l e R s m args below meth c Q em D cl Zs A (P.2.2.1 M) c0 z0 ad S.1.length pc' ls' st' S1) : W p l e R s m args below meth c H locs cells slots Q (F0 m pc lsA (st.map (am_v em ad))) := by
  obtain ⟨hx, hb, hml, hown, hts, hr, hlk, hnm, hRf, hRc, hRs, hRl, hexc, hhn⟩ := id act
  obtain ⟨hRl0, hS, hZ, hlo, hol, hos, hc, hz⟩ := id h
  obtain ⟨hP, hD, hK, hT, hW⟩ := id hRl0
  simp only [am_do] at hd
  simp only [am_okI] at hk
  obtain ⟨rfl, hk⟩ := hk
  split at hd
  · rename_i i k0 r
    split at hd
    · rename_i bb n f hcell
      split at hd
      · rename_i hin
        cases hd
        obtain ⟨hbb, hi0, hin⟩ := hin
        have hi : vp_in i n := fun q => q.elim hi0 (fun q => by omega)
        obtain ⟨t0, ht0⟩ := am_tyA (hT k0 _ hcell)
        have kk1 := kk _ _ _ _ _ _ _ _ (fun _ _ => rfl) ⟨hRl0, hS, hZ, hlo, hol, am_oc (v := .int (f i.toNatClampNeg)) trivial fun w hw => hos w (List.mem_cons_of_mem _ (List.mem_cons_of_mem _ hw)), hc, hz⟩
        rcases hk with ⟨rfl, hdg⟩ | ⟨rfl, hdg⟩
        · rw [← hbb] at ht0
          exact va_iald hx hb hK hP k0 t0 (am_w_get hcell) ht0 hi hdg kk1
        · rw [← hbb] at ht0
          exact va_zald hx hb hK hP k0 t0 (am_w_get hcell) ht0 hi hdg kk1
      · cases hd
    · cases hd
  · cases hd
set_option maxHeartbeats 1000000 in
theorem am_s26 (act : am_Act P Y Ts p R s m args meth c M d mc ms) (hk : am_okI P Y cl Ts M pc 26 a b k x nx tab) (hd : am_do P.2.1 26 a b k x nx tab d ls st S = some (pc', ls', st', S1)) (h : am_St em D cl Zs A s H locs cells slots ad ca tys lsA (P.2.2.1 M) ls st S c0 z0) (hC : am_okC P.2.1 cl Ts) (hA : ∀ q, s.heap.size ≤ q → A q) (hup : S1.2.1 ≤ c0 + mc ∧ S1.2.2 ≤ z0 + ms) (hE : am_ZE em Zs)
    (kk : am_K p l e R s m args below meth c Q em D cl Zs A (P.2.2.1 M) c0 z0 ad S.1.length pc' ls' st' S1) : W p l e R s m args below meth c H locs cells slots Q (F0 m pc lsA (st.map (am_v em ad))) := by
  obtain ⟨hx, hb, hml, hown, hts, hr, hlk, hnm, hRf, hRc, hRs, hRl, hexc, hhn⟩ := id act
  obtain ⟨hRl0, hS, hZ, hlo, hol, hos, hc, hz⟩ := id h
  obtain ⟨hP, hD, hK, hT, hW⟩ := id hRl0
  simp only [am_do] at hd
  simp only [am_okI] at hk
  obtain ⟨rfl, hk⟩ := hk
  split at hd
  · rename_i v i k0 r
    split at hd
    · rename_i bb n f hcell
      split at hd
      · rename_i hin
        cases hd
        obtain ⟨hbb, hi0, hin, hbit⟩ := hin
        have hi : vp_in i n := fun q => q.elim hi0 (fun q => by omega)
        obtain ⟨t0, ht0⟩ := am_tyA (hT k0 _ hcell)
        have hwset : (am_w em ad ca S.1).set k0 (ad k0, .inl (ca k0, n, .inl (upd f i.toNatClampNeg v))) = am_w em ad ca (S.1.set k0 (.inl (bb, n, upd f i.toNatClampNeg v))) := by
          rw [← am_w_set]
          simp only [am_ce]
        have hnew : ∀ (H1 : Heap) (locs1 : List Loc), va_P D cl ((am_w em ad ca S.1).set k0 (ad k0, .inl (ca k0, n, .inl (upd f i.toNatClampNeg v)))) H1 → va_D A ((am_w em ad ca S.1).set k0 (ad k0, .inl (ca k0, n, .inl (upd f i.toNatClampNeg v)))) → va_S A s.heap H1 locs1 →
            W p l e R s m args below meth c H1 locs1 cells slots Q (F0 m (pc + 1) lsA (st'.map (am_v em ad))) := by
          intro H1 locs1 hP1 hD1 hS1
          rw [hwset] at hP1 hD1
          refine kk _ _ _ _ _ ca tys _ (fun _ _ => rfl) ⟨⟨hP1, hD1, hK, fun j q hj => ?_, fun j q hj => ?_⟩, hS1, hZ, hlo, by rw [List.length_set]; exact hol, by rw [List.length_set]; exact fun w hw => hos w (List.mem_cons_of_mem _ (List.mem_cons_of_mem _ (List.mem_cons_of_mem _ hw))), hc, hz⟩
          · rw [List.getElem?_set] at hj
            split at hj
            · split at hj
              · rename_i hjj _
                cases hj
                subst hjj
                have h9 := hT k0 _ hcell
                cases bb <;> exact h9
              · cases hj
            · exact hT j q hj
          · rw [List.length_set]
            rw [List.getElem?_set] at hj
            split at hj
            · split at hj
              · cases hj; trivial
              · cases hj
            · exact hW j q hj
        rcases hk with ⟨rfl, hdg⟩ | ⟨rfl, hdg⟩
        · rw [← hbb] at ht0
          exact va_iast hx hb hK hP hD hS k0 t0 (am_w_get hcell) ht0 hi hdg hnew
        · rw [← hbb] at ht0
          have hv : vp_nar .boolean v = v := by rcases hbit hbb.symm with rfl | rfl <;> decide
          refine va_zast hx hb hK hP hD hS k0 t0 (am_w_get hcell) ht0 hi hdg ?_
          rw [hv]
          exact hnew
      · cases hd
    · cases hd
  · cases hd
set_option maxHeartbeats 1000000 in
theorem am_s30 (act : am_Act P Y Ts p R s m args meth c M d mc ms) (hk : am_okI P Y cl Ts M pc 30 a b k x nx tab) (hd : am_do P.2.1 30 a b k x nx tab d ls st S = some (pc', ls', st', S1)) (h : am_St em D cl Zs A s H locs cells slots ad ca tys lsA (P.2.2.1 M) ls st S c0 z0) (hC : am_okC P.2.1 cl Ts) (hA : ∀ q, s.heap.size ≤ q → A q) (hup : S1.2.1 ≤ c0 + mc ∧ S1.2.2 ≤ z0 + ms) (hE : am_ZE em Zs)
    (kk : am_K p l e R s m args below meth c Q em D cl Zs A (P.2.2.1 M) c0 z0 ad S.1.length pc' ls' st' S1) : W p l e R s m args below meth c H locs cells slots Q (F0 m pc lsA (st.map (am_v em ad))) := by
  obtain ⟨hx, hb, hml, hown, hts, hr, hlk, hnm, hRf, hRc, hRs, hRl, hexc, hhn⟩ := id act
  obtain ⟨hRl0, hS, hZ, hlo, hol, hos, hc, hz⟩ := id h
  obtain ⟨hP, hD, hK, hT, hW⟩ := id hRl0
  simp only [am_do] at hd
  simp only [am_okI] at hk
  obtain ⟨idx, C, T, N, hdg, rfl, hcl, h1⟩ := hk
  split at hd
  · rename_i k0 r
    split at hd
    · rename_i ci fs hcell
      split at hd
      · rename_i hci
        subst hci
        cases hd
        exact va_castS hx hb hown (hts _ h1) (hK.1 ci _ hcl).2 (va_recv hK hP hcl (am_w_get hcell)) hdg (kk _ _ _ _ _ _ _ _ (fun _ _ => rfl) h)
      · cases hd
    · cases hd
  · cases hd
set_option maxHeartbeats 1000000 in
theorem am_s16 (act : am_Act P Y Ts p R s m args meth c M d mc ms) (hk : am_okI P Y cl Ts M pc 16 a b k x nx tab) (hd : am_do P.2.1 16 a b k x nx tab d ls st S = some (pc', ls', st', S1)) (h : am_St em D cl Zs A s H locs cells slots ad ca tys lsA (P.2.2.1 M) ls st S c0 z0) (hC : am_okC P.2.1 cl Ts) (hA : ∀ q, s.heap.size ≤ q → A q) (hup : S1.2.1 ≤ c0 + mc ∧ S1.2.2 ≤ z0 + ms) (hE : am_ZE em Zs)
    (kk : am_K p l e R s m args below meth c Q em D cl Zs A (P.2.2.1 M) c0 z0 ad S.1.length pc' ls' st' S1) : W p l e R s m args below meth c H locs cells slots Q (F0 m pc lsA (st.map (am_v em ad))) := by
  obtain ⟨hx, hb, hml, hown, hts, hr, hlk, hnm, hRf, hRc, hRs, hRl, hexc, hhn⟩ := id act
  obtain ⟨hRl0, hS, hZ, hlo, hol, hos, hc, hz⟩ := id h
  obtain ⟨hP, hD, hK, hT, hW⟩ := id hRl0
  simp only [am_do] at hd
  simp only [am_okI] at hk
  obtain ⟨off, hdg, ht, rfl⟩ := hk
  split at hd
  · rename_i z y r
    split at hd
    · rename_i hzy
      subst hzy
      cases hd
      exact lv_acmp_eq (rx := some (em z)) (ry := some (em z)) hx hb hdg ht (fun _ => kk _ _ _ _ _ _ _ _ (fun _ _ => rfl) ⟨hRl0, hS, hZ, hlo, hol, fun w hw => hos w (List.mem_cons_of_mem _ (List.mem_cons_of_mem _ hw)), hc, hz⟩) (fun q => absurd rfl q)
    · cases hd
  · rename_i z k0 r
    split at hd
    · rename_i hz0
      subst hz0
      cases hd
      have hk0 : k0 < S.1.length := hos (.ref k0) (List.mem_cons_of_mem _ List.mem_cons_self)
      obtain ⟨c9, hc9⟩ : ∃ c9, S.1[k0]? = some c9 := ⟨_, List.getElem?_eq_getElem hk0⟩
      exact lv_acmp_eq (rx := some (ad k0)) (ry := some (em 0)) hx hb hdg ht (fun q => absurd (show A (ad k0) from hD.2 k0 _ (am_w_get hc9)) (by rw [Option.some.inj q]; exact (hE A s hZ).2.1.out)) (fun _ => kk _ _ _ _ _ _ _ _ (fun _ _ => rfl) ⟨hRl0, hS, hZ, hlo, hol, fun w hw => hos w (List.mem_cons_of_mem _ (List.mem_cons_of_mem _ hw)), hc, hz⟩)
    · cases hd
  · cases hd
set_option maxHeartbeats 1000000 in
theorem am_s17 (act : am_Act P Y Ts p R s m args meth c M d mc ms) (hk : am_okI P Y cl Ts M pc 17 a b k x nx tab) (hd : am_do P.2.1 17 a b k x nx tab d ls st S = some (pc', ls', st', S1)) (h : am_St em D cl Zs A s H locs cells slots ad ca tys lsA (P.2.2.1 M) ls st S c0 z0) (hC : am_okC P.2.1 cl Ts) (hA : ∀ q, s.heap.size ≤ q → A q) (hup : S1.2.1 ≤ c0 + mc ∧ S1.2.2 ≤ z0 + ms) (hE : am_ZE em Zs)
    (kk : am_K p l e R s m args below meth c Q em D cl Zs A (P.2.2.1 M) c0 z0 ad S.1.length pc' ls' st' S1) : W p l e R s m args below meth c H locs cells slots Q (F0 m pc lsA (st.map (am_v em ad))) := by
  obtain ⟨hx, hb, hml, hown, hts, hr, hlk, hnm, hRf, hRc, hRs, hRl, hexc, hhn⟩ := id act
  obtain ⟨hRl0, hS, hZ, hlo, hol, hos, hc, hz⟩ := id h
  obtain ⟨hP, hD, hK, hT, hW⟩ := id hRl0
  simp only [am_do] at hd
  simp only [am_okI] at hk
  obtain ⟨off, hdg, ht, rfl⟩ := hk
  split at hd
  · rename_i z y r
    split at hd
    · rename_i hzy
      subst hzy
      cases hd
      exact lv_acmp_ne (rx := some (em z)) (ry := some (em z)) hx hb hdg ht (fun q => absurd rfl q) (fun _ => kk _ _ _ _ _ _ _ _ (fun _ _ => rfl) ⟨hRl0, hS, hZ, hlo, hol, fun w hw => hos w (List.mem_cons_of_mem _ (List.mem_cons_of_mem _ hw)), hc, hz⟩)
    · cases hd
  · cases hd
set_option maxHeartbeats 1000000 in
theorem am_s38 (act : am_Act P Y Ts p R s m args meth c M d mc ms) (hk : am_okI P Y cl Ts M pc 38 a b k x nx tab) (hd : am_do P.2.1 38 a b k x nx tab d ls st S = some (pc', ls', st', S1)) (h : am_St em D cl Zs A s H locs cells slots ad ca tys lsA (P.2.2.1 M) ls st S c0 z0) (hC : am_okC P.2.1 cl Ts) (hA : ∀ q, s.heap.size ≤ q → A q) (hup : S1.2.1 ≤ c0 + mc ∧ S1.2.2 ≤ z0 + ms) (hE : am_ZE em Zs)
    (kk : am_K p l e R s m args below meth c Q em D cl Zs A (P.2.2.1 M) c0 z0 ad S.1.length pc' ls' st' S1) : W p l e R s m args below meth c H locs cells slots Q (F0 m pc lsA (st.map (am_v em ad))) := by
  obtain ⟨hx, hb, hml, hown, hts, hr, hlk, hnm, hRf, hRc, hRs, hRl, hexc, hhn⟩ := id act
  obtain ⟨hRl0, hS, hZ, hlo, hol, hos, hc, hz⟩ := id h
  obtain ⟨hP, hD, hK, hT, hW⟩ := id hRl0
  simp only [am_do] at hd
  simp only [am_okI] at hk
  obtain ⟨idx, hdg, rfl, h1, h2⟩ := hk
  split at hd
  · rename_i v r
    split at hd
    · rename_i hv
      cases hd
      have hR1 : cells + 1 ≤ R.cells := by rw [hRc]; have := hup.1; simp only at this; omega
      have hR2 : slots + v.toNatClampNeg ≤ R.slots := by rw [hRs]; have := hup.2; simp only at this; omega
      have hosr : ∀ w ∈ r, am_okv S.1.length w := fun w hw => hos w (List.mem_cons_of_mem _ hw)
      have hAO : va_AO "java/lang/Object" s := by
        have := hts _ h2
        unfold va_AO
        exact this
      refine va_newq hx hb hown (hts _ h1) hAO hK hP hD hS hA hv.1 rfl (by have := hv.2; omega) hR1 hR2 hdg (fun q cA H1 hK1 hP1 hD1 hS1 => ?_)
      rw [am_w_app (em := em) (cA := cA) (c := .inr (.inl (v.toNatClampNeg, fun _ => none))) (E := .inl (cA, v.toNatClampNeg, .inr (.inr (.inr (.inr (fun _ => none)))))) hW rfl] at hP1 hD1
      have hag : ∀ j, j < S.1.length → va_up ad S.1.length q j = ad j := fun j hj => if_neg (Nat.ne_of_lt hj)
      have e1 : r.map (am_v em ad) = r.map (am_v em (va_up ad S.1.length q)) := (am_st_eq hag hosr).symm
      have e2 : va_up ad S.1.length q S.1.length = q := if_pos rfl
      rw [e1]
      have key := kk H1 locs (cells + 1) (slots + v.toNatClampNeg) (va_up ad S.1.length q) (va_up ca S.1.length cA) (tys ++ [(cA, .object "java/lang/Object")]) lsA hag ⟨⟨hP1, hD1, hK1, fun j w hj => ?_, fun j w hj => ?_⟩, hS1, hZ, hlo.agree hol hag, fun i v hv => (hol i v hv).mono (by simp), am_oc (by simp [am_okv]) (fun w hw => (hosr w hw).mono (by simp)), by simp only; omega, by simp only; omega⟩
      · rw [show (Value.ref S.1.length :: r).map (am_v em (va_up ad S.1.length q)) = .ref q :: r.map (am_v em (va_up ad S.1.length q)) by simp only [List.map_cons, am_v, e2]] at key
        exact key
      · rcases Nat.lt_or_ge j S.1.length with hj2 | hj2
        · rw [List.getElem?_append_left hj2] at hj
          rw [show va_up ca S.1.length cA j = ca j from if_neg (Nat.ne_of_lt hj2)]
          exact (hT j w hj).more
        · rw [List.getElem?_append_right hj2] at hj
          cases hq : j - S.1.length with
          | zero =>
            have hj3 : j = S.1.length := by omega
            rw [hq] at hj; cases hj
            subst hj3
            rw [show va_up ca S.1.length cA S.1.length = cA from if_pos rfl]
            exact ⟨tys.length, by simp⟩
          | succ n => rw [hq] at hj; simp at hj
      · rcases Nat.lt_or_ge j S.1.length with hj2 | hj2
        · rw [List.getElem?_append_left hj2] at hj
          exact (hW j w hj).mono (by simp)
        · rw [List.getElem?_append_right hj2] at hj
          cases hq : j - S.1.length with
          | zero => rw [hq] at hj; cases hj; intro i j2 hj2; cases hj2
          | succ n => rw [hq] at hj; simp at hj
    · cases hd
  · cases hd
set_option maxHeartbeats 1000000 in
theorem am_s39 (act : am_Act P Y Ts p R s m args meth c M d mc ms) (hk : am_okI P Y cl Ts M pc 39 a b k x nx tab) (hd : am_do P.2.1 39 a b k x nx tab d ls st S = some (pc', ls', st', S1)) (h : am_St em D cl Zs A s H locs cells slots ad ca tys lsA (P.2.2.1 M) ls st S c0 z0) (hC : am_okC P.2.1 cl Ts) (hA : ∀ q, s.heap.size ≤ q → A q) (hup : S1.2.1 ≤ c0 + mc ∧ S1.2.2 ≤ z0 + ms) (hE : am_ZE em Zs)
    (kk : am_K p l e R s m args below meth c Q em D cl Zs A (P.2.2.1 M) c0 z0 ad S.1.length pc' ls' st' S1) : W p l e R s m args below meth c H locs cells slots Q (F0 m pc lsA (st.map (am_v em ad))) := by
  obtain ⟨hx, hb, hml, hown, hts, hr, hlk, hnm, hRf, hRc, hRs, hRl, hexc, hhn⟩ := id act
  obtain ⟨hRl0, hS, hZ, hlo, hol, hos, hc, hz⟩ := id h
  obtain ⟨hP, hD, hK, hT, hW⟩ := id hRl0
  simp only [am_do] at hd
  simp only [am_okI] at hk
  obtain ⟨hdg, rfl⟩ := hk
  split at hd
  · rename_i i k0 r
    split at hd
    · rename_i n g hcell
      split at hd
      · rename_i hin
        cases hd
        obtain ⟨hi0, hin⟩ := hin
        have hi : vp_in i n := fun q => q.elim hi0 (fun q => by omega)
        obtain ⟨t0, ht0⟩ := hT k0 _ hcell
        have hok : am_okv S.1.length (va_rf (g i.toNatClampNeg)) := by
          cases hg : g i.toNatClampNeg with
          | none => trivial
          | some j => exact hW k0 _ hcell _ j hg
        have kk1 := kk _ _ _ _ _ _ _ _ (fun _ _ => rfl) ⟨hRl0, hS, hZ, hlo, hol, am_oc hok fun w hw => hos w (List.mem_cons_of_mem _ (List.mem_cons_of_mem _ hw)), hc, hz⟩
        simp only [List.map_cons, am_va_rf] at kk1
        exact va_aldq hx hb hK hP k0 t0 (am_w_get hcell) ht0 hi hdg kk1
      · cases hd
    · cases hd
  · cases hd
set_option maxHeartbeats 1000000 in
theorem am_s40 (act : am_Act P Y Ts p R s m args meth c M d mc ms) (hk : am_okI P Y cl Ts M pc 40 a b k x nx tab) (hd : am_do P.2.1 40 a b k x nx tab d ls st S = some (pc', ls', st', S1)) (h : am_St em D cl Zs A s H locs cells slots ad ca tys lsA (P.2.2.1 M) ls st S c0 z0) (hC : am_okC P.2.1 cl Ts) (hA : ∀ q, s.heap.size ≤ q → A q) (hup : S1.2.1 ≤ c0 + mc ∧ S1.2.2 ≤ z0 + ms) (hE : am_ZE em Zs)
    (kk : am_K p l e R s m args below meth c Q em D cl Zs A (P.2.2.1 M) c0 z0 ad S.1.length pc' ls' st' S1) : W p l e R s m args below meth c H locs cells slots Q (F0 m pc lsA (st.map (am_v em ad))) := by
  obtain ⟨hx, hb, hml, hown, hts, hr, hlk, hnm, hRf, hRc, hRs, hRl, hexc, hhn⟩ := id act
  obtain ⟨hRl0, hS, hZ, hlo, hol, hos, hc, hz⟩ := id h
  obtain ⟨hP, hD, hK, hT, hW⟩ := id hRl0
  simp only [am_do] at hd
  simp only [am_okI] at hk
  obtain ⟨hdg, rfl, C, T, N, hcl, hca⟩ := hk
  have hset : ∀ (k0 n : Nat) (g : Nat → Option Nat) (i : Int32) (v : Option Nat) (st9 : List Value), S.1[k0]? = some (.inr (.inl (n, g))) → (∀ w ∈ st9, am_okv S.1.length w) → (∀ j, v = some j → j < S.1.length) → am_K p l e R s m args below meth c Q em D cl Zs A (P.2.2.1 M) c0 z0 ad S.1.length (pc + 1) ls st9 (S.1.set k0 (.inr (.inl (n, va_up g i.toNatClampNeg v))), S.2.1, S.2.2) →
      ∀ (H1 : Heap) (locs1 : List Loc), va_P D cl ((am_w em ad ca S.1).set k0 (ad k0, .inl (ca k0, n, .inr (.inr (.inr (.inr (va_up (fun i => (g i).map ad) i.toNatClampNeg (v.map ad)))))))) H1 → va_D A ((am_w em ad ca S.1).set k0 (ad k0, .inl (ca k0, n, .inr (.inr (.inr (.inr (va_up (fun i => (g i).map ad) i.toNatClampNeg (v.map ad)))))))) → va_S A s.heap H1 locs1 →
        W p l e R s m args below meth c H1 locs1 cells slots Q (F0 m (pc + 1) lsA (st9.map (am_v em ad))) := by
    intro k0 n g i v st9 hcell hst9 hv kk H1 locs1 hP1 hD1 hS1
    have hwset : (am_w em ad ca S.1).set k0 (ad k0, .inl (ca k0, n, .inr (.inr (.inr (.inr (va_up (fun i => (g i).map ad) i.toNatClampNeg (v.map ad))))))) = am_w em ad ca (S.1.set k0 (.inr (.inl (n, va_up g i.toNatClampNeg v)))) := by
      rw [← am_w_set]
      have : (fun i_1 => (va_up g i.toNatClampNeg v i_1).map ad) = va_up (fun i => (g i).map ad) i.toNatClampNeg (v.map ad) := by
        funext j; unfold va_up; split <;> rfl
      simp only [am_ce, this]
    rw [hwset] at hP1 hD1
    refine kk _ _ _ _ _ ca tys _ (fun _ _ => rfl) ⟨⟨hP1, hD1, hK, fun j q hj => ?_, fun j q hj => ?_⟩, hS1, hZ, hlo, by rw [List.length_set]; exact hol, by rw [List.length_set]; exact hst9, hc, hz⟩
    · rw [List.getElem?_set] at hj
      split at hj
      · split at hj
        · rename_i hjj _
          cases hj
          subst hjj
          have h9 : am_ty tys (ca k0) (.inr (.inl (n, g))) := hT k0 _ hcell
          exact h9
        · cases hj
      · exact hT j q hj
    · rw [List.length_set]
      rw [List.getElem?_set] at hj
      split at hj
      · split at hj
        · cases hj
          intro i2 j2 hj2
          unfold va_up at hj2
          split at hj2
          · exact hv j2 hj2
          · exact hW k0 _ hcell i2 j2 hj2
        · cases hj
      · exact hW j q hj
  split at hd
  · rename_i v i k0 r
    split at hd
    · rename_i ci fs n g hcv hcell
      split at hd
      · rename_i hin
        obtain ⟨rfl, hi0, hin⟩ := hin
        cases hd
        have hi : vp_in i n := fun q => q.elim hi0 (fun q => by omega)
        obtain ⟨t0, ht0⟩ := hT k0 _ hcell
        have hvl : v < S.1.length := (List.getElem?_eq_some_iff.mp hcv).1
        exact va_astqO (E := "java/lang/Object") (r := (C, T, N)) hx hb hK hP hD hS k0 t0 v ci (am_w_get hcell) ht0 (by have h9 := hts _ hca; unfold va_Nw; exact h9) (am_w_get hcv) hcl hi hdg (hset k0 n g i (some v) _ hcell (fun w hw => hos w (List.mem_cons_of_mem _ (List.mem_cons_of_mem _ (List.mem_cons_of_mem _ hw)))) (fun j hj => by cases hj; exact hvl) kk)
      · cases hd
    · cases hd
  · rename_i i k0 r
    split at hd
    · rename_i n g hcell
      split at hd
      · rename_i hin
        obtain ⟨hi0, hin⟩ := hin
        cases hd
        have hi : vp_in i n := fun q => q.elim hi0 (fun q => by omega)
        obtain ⟨t0, ht0⟩ := hT k0 _ hcell
        exact va_astqN hx hb hK hP hD hS k0 t0 (am_w_get hcell) ht0 hi hdg (hset k0 n g i none _ hcell (fun w hw => hos w (List.mem_cons_of_mem _ (List.mem_cons_of_mem _ (List.mem_cons_of_mem _ hw)))) (fun j hj => by cases hj) kk)
      · cases hd
    · cases hd
  · cases hd
set_option maxHeartbeats 1000000 in
theorem am_s41 (act : am_Act P Y Ts p R s m args meth c M d mc ms) (hk : am_okI P Y cl Ts M pc 41 a b k x nx tab) (hd : am_do P.2.1 41 a b k x nx tab d ls st S = some (pc', ls', st', S1)) (h : am_St em D cl Zs A s H locs cells slots ad ca tys lsA (P.2.2.1 M) ls st S c0 z0) (hC : am_okC P.2.1 cl Ts) (hA : ∀ q, s.heap.size ≤ q → A q) (hup : S1.2.1 ≤ c0 + mc ∧ S1.2.2 ≤ z0 + ms) (hE : am_ZE em Zs)
    (kk : am_K p l e R s m args below meth c Q em D cl Zs A (P.2.2.1 M) c0 z0 ad S.1.length pc' ls' st' S1) : W p l e R s m args below meth c H locs cells slots Q (F0 m pc lsA (st.map (am_v em ad))) := by
  obtain ⟨hx, hb, hml, hown, hts, hr, hlk, hnm, hRf, hRc, hRs, hRl, hexc, hhn⟩ := id act
  obtain ⟨hRl0, hS, hZ, hlo, hol, hos, hc, hz⟩ := id h
  obtain ⟨hP, hD, hK, hT, hW⟩ := id hRl0
  simp only [am_do] at hd
  simp only [am_okI] at hk
  obtain ⟨idx, hdg, rfl, h1, h2, h3, h4⟩ := hk
  split at hd
  · rename_i n dp k1 sp k0 r
    split at hd
    · rename_i n0 f n1 g hc0 hc1
      split at hd
      · rename_i hin
        cases hd
        obtain ⟨q1, q2, q3, q4, q5, q6, q7⟩ := hin
        obtain ⟨t0, ht0⟩ := hT k0 _ hc0
        obtain ⟨t1, ht1⟩ := hT k1 _ hc1
        have hosr : ∀ w ∈ st', am_okv S.1.length w := fun w hw => hos w (List.mem_cons_of_mem _ (List.mem_cons_of_mem _ (List.mem_cons_of_mem _ (List.mem_cons_of_mem _ (List.mem_cons_of_mem _ hw)))))
        have hloc : ((st'.map (am_v em ad)).map fun v => v.category).sum + (nativeFrameWords "java/lang/System" "arraycopy" 5 + 11) ≤ R.locals := by
          rw [am_catl st' hosr, hRl, show nativeFrameWords "java/lang/System" "arraycopy" 5 = 7 by decide]; omega
        refine va_copyi (ty := .int) hx hb (hml.trans hlo.1.1.symm) hown (hts _ h1) (hts _ h2) (hts _ h3) (hts _ h4) hK hP hD hS k0 k1 t0 t1 (am_w_get hc0) (am_w_get hc1) ht0 ht1 rfl q1 q2 q3 q4 q5 (fun _ _ => rfl) (by rw [hRf]; exact q6) hloc hdg (fun H1 locs1 hP1 hD1 hS1 => ?_)
        have hwset : (am_w em ad ca S.1).set k1 (ad k1, .inl (ca k1, n1, .inl (va_cpy f g sp.toNatClampNeg dp.toNatClampNeg n.toNatClampNeg))) = am_w em ad ca (S.1.set k1 (.inl (false, n1, va_cpy f g sp.toNatClampNeg dp.toNatClampNeg n.toNatClampNeg))) := by
          rw [← am_w_set]
          simp only [am_ce]
        rw [hwset] at hP1 hD1
        refine kk _ _ _ _ _ ca tys _ (fun _ _ => rfl) ⟨⟨hP1, hD1, hK, fun j q hj => ?_, fun j q hj => ?_⟩, hS1, hZ, hlo, by rw [List.length_set]; exact hol, by rw [List.length_set]; exact hosr, hc, hz⟩
        · rw [List.getElem?_set] at hj
          split at hj
          · split at hj
            · rename_i hjj _
              cases hj
              subst hjj
              exact ⟨t1, ht1⟩
            · cases hj
          · exact hT j q hj
        · rw [List.length_set]
          rw [List.getElem?_set] at hj
          split at hj
          · split at hj
            · cases hj; trivial
            · cases hj
          · exact hW j q hj
      · cases hd
    · cases hd
  · cases hd
set_option maxHeartbeats 1000000 in
theorem am_s42 (act : am_Act P Y Ts p R s m args meth c M d mc ms) (hk : am_okI P Y cl Ts M pc 42 a b k x nx tab) (hd : am_do P.2.1 42 a b k x nx tab d ls st S = some (pc', ls', st', S1)) (h : am_St em D cl Zs A s H locs cells slots ad ca tys lsA (P.2.2.1 M) ls st S c0 z0) (hC : am_okC P.2.1 cl Ts) (hA : ∀ q, s.heap.size ≤ q → A q) (hup : S1.2.1 ≤ c0 + mc ∧ S1.2.2 ≤ z0 + ms) (hE : am_ZE em Zs)
    (kk : am_K p l e R s m args below meth c Q em D cl Zs A (P.2.2.1 M) c0 z0 ad S.1.length pc' ls' st' S1) : W p l e R s m args below meth c H locs cells slots Q (F0 m pc lsA (st.map (am_v em ad))) := by
  obtain ⟨hx, hb, hml, hown, hts, hr, hlk, hnm, hRf, hRc, hRs, hRl, hexc, hhn⟩ := id act
  obtain ⟨hRl0, hS, hZ, hlo, hol, hos, hc, hz⟩ := id h
  obtain ⟨hP, hD, hK, hT, hW⟩ := id hRl0
  simp only [am_do] at hd
  simp only [am_okI] at hk
  obtain ⟨idx, hdg, rfl, h1, h2, h3, h4, C, T, N, hcl, hca⟩ := hk
  split at hd
  · rename_i n dp k1 sp k0 r
    split at hd
    · rename_i n0 f n1 g hc0 hc1
      split at hd
      · rename_i hin
        cases hd
        obtain ⟨q1, q2, q3, q4, q5, q6, q7, q8⟩ := hin
        obtain ⟨t0, ht0⟩ := hT k0 _ hc0
        obtain ⟨t1, ht1⟩ := hT k1 _ hc1
        have hosr : ∀ w ∈ st', am_okv S.1.length w := fun w hw => hos w (List.mem_cons_of_mem _ (List.mem_cons_of_mem _ (List.mem_cons_of_mem _ (List.mem_cons_of_mem _ (List.mem_cons_of_mem _ hw)))))
        have hloc : ((st'.map (am_v em ad)).map fun v => v.category).sum + (nativeFrameWords "java/lang/System" "arraycopy" 5 + 11) ≤ R.locals := by
          rw [am_catl st' hosr, hRl, show nativeFrameWords "java/lang/System" "arraycopy" 5 = 7 by decide]; omega
        refine va_copyq (C := C) hx hb (hml.trans hlo.1.1.symm) hown (hts _ h1) (hts _ h2) (hts _ h3) (hts _ h4) hK hP hD hS k0 k1 t0 t1 (am_w_get hc0) (am_w_get hc1) ht0 ht1 q1 q2 q3 q4 q5 (fun i hi y hy => ?_) (fun comp c9 hcomp hc9 => ?_) (by rw [hRf]; exact q6) hloc hdg (fun H1 locs1 hP1 hD1 hS1 => ?_)
        · have q9 := List.all_eq_true.mp q8 i (List.mem_range.mpr hi)
          cases hfi : f (sp.toNatClampNeg + i) with
          | none => rw [hfi] at hy; cases hy
          | some j =>
            rw [hfi] at hy q9
            cases hy
            dsimp only at q9
            split at q9
            · rename_i ci fs hcj
              obtain rfl : ci = a := of_decide_eq_true q9
              exact va_recv hK hP hcl (am_w_get hcj)
            · cases q9
        · obtain ⟨c3, c4, hc3, hc4, hasg⟩ := Cond.castable_spec (hts _ hca)
          cases hc3.symm.trans hc9
          cases hc4.symm.trans hcomp
          exact hasg
        · have hwset : (am_w em ad ca S.1).set k1 (ad k1, .inl (ca k1, n1, .inr (.inr (.inr (.inr (va_cpy (fun i => (f i).map ad) (fun i => (g i).map ad) sp.toNatClampNeg dp.toNatClampNeg n.toNatClampNeg)))))) = am_w em ad ca (S.1.set k1 (.inr (.inl (n1, va_cpy f g sp.toNatClampNeg dp.toNatClampNeg n.toNatClampNeg)))) := by
            rw [← am_w_set]
            have : (fun i => (va_cpy f g sp.toNatClampNeg dp.toNatClampNeg n.toNatClampNeg i).map ad) = va_cpy (fun i => (f i).map ad) (fun i => (g i).map ad) sp.toNatClampNeg dp.toNatClampNeg n.toNatClampNeg := by
              funext j; unfold va_cpy; split <;> rfl
            simp only [am_ce, this]
          rw [hwset] at hP1 hD1
          refine kk _ _ _ _ _ ca tys _ (fun _ _ => rfl) ⟨⟨hP1, hD1, hK, fun j q hj => ?_, fun j q hj => ?_⟩, hS1, hZ, hlo, by rw [List.length_set]; exact hol, by rw [List.length_set]; exact hosr, hc, hz⟩
          · rw [List.getElem?_set] at hj
            split at hj
            · split at hj
              · rename_i hjj _
                cases hj
                subst hjj
                exact ⟨t1, ht1⟩
              · cases hj
            · exact hT j q hj
          · rw [List.length_set]
            rw [List.getElem?_set] at hj
            split at hj
            · split at hj
              · cases hj
                intro i2 j2 hj2
                unfold va_cpy at hj2
                split at hj2
                · exact hW k0 _ hc0 _ j2 hj2
                · exact hW k1 _ hc1 i2 j2 hj2
              · cases hj
            · exact hW j q hj
      · cases hd
    · cases hd
  · cases hd
set_option maxHeartbeats 1000000 in
theorem am_s44 (act : am_Act P Y Ts p R s m args meth c M d mc ms) (hk : am_okI P Y cl Ts M pc 44 a b k x nx tab) (hd : am_do P.2.1 44 a b k x nx tab d ls st S = some (pc', ls', st', S1)) (h : am_St em D cl Zs A s H locs cells slots ad ca tys lsA (P.2.2.1 M) ls st S c0 z0) (hC : am_okC P.2.1 cl Ts) (hA : ∀ q, s.heap.size ≤ q → A q) (hup : S1.2.1 ≤ c0 + mc ∧ S1.2.2 ≤ z0 + ms) (hE : am_ZE em Zs)
    (kk : am_K p l e R s m args below meth c Q em D cl Zs A (P.2.2.1 M) c0 z0 ad S.1.length pc' ls' st' S1) : W p l e R s m args below meth c H locs cells slots Q (F0 m pc lsA (st.map (am_v em ad))) := by
  obtain ⟨hx, hb, hml, hown, hts, hr, hlk, hnm, hRf, hRc, hRs, hRl, hexc, hhn⟩ := id act
  obtain ⟨hRl0, hS, hZ, hlo, hol, hos, hc, hz⟩ := id h
  obtain ⟨hP, hD, hK, hT, hW⟩ := id hRl0
  simp only [am_do] at hd
  simp only [am_okI] at hk
  obtain ⟨idx, hdg, rfl, h1, h2, h3, h4, h5⟩ := hk
  split at hd
  · rename_i k0 r
    split at hd
    · rename_i ng hcell
      split at hd
      · rename_i hin
        cases hd
        obtain ⟨t0, ht0⟩ := hT k0 _ hcell
        have hosr : ∀ w ∈ r, am_okv S.1.length w := fun w hw => hos w (List.mem_cons_of_mem _ hw)
        obtain ⟨kA, comp, -, -, -, hfc⟩ := (hK.2 t0 _ ht0).2
        have hat := hP k0 _ (am_w_get hcell)
        exact va_getC (C := am_ED) hx hb (hml.trans hlo.1.1.symm) hown (hts _ h1) (hts _ h2) (hts _ h3) (hts _ h4) (hts _ h5) (hE A s hZ).2.2 ⟨_, hat, rfl, hfc⟩ (by rw [hRf]; exact hin.1) (by
          show ((r.map (am_v em ad)).map fun v => v.category).sum + 14 ≤ R.locals
          rw [am_catl r hosr, hRl]; omega) hdg (kk _ _ _ _ _ _ _ _ (fun _ _ => rfl) ⟨hRl0, hS, hZ, hlo, hol, am_oc trivial hosr, hc, hz⟩)
      · cases hd
    · cases hd
  · cases hd
set_option maxHeartbeats 1000000 in
theorem am_s43 (act : am_Act P Y Ts p R s m args meth c M d mc ms) (hk : am_okI P Y cl Ts M pc 43 a b k x nx tab) (hd : am_do P.2.1 43 a b k x nx tab d ls st S = some (pc', ls', st', S1)) (h : am_St em D cl Zs A s H locs cells slots ad ca tys lsA (P.2.2.1 M) ls st S c0 z0) (hC : am_okC P.2.1 cl Ts) (hA : ∀ q, s.heap.size ≤ q → A q) (hup : S1.2.1 ≤ c0 + mc ∧ S1.2.2 ≤ z0 + ms) (hE : am_ZE em Zs)
    (kk : am_K p l e R s m args below meth c Q em D cl Zs A (P.2.2.1 M) c0 z0 ad S.1.length pc' ls' st' S1) : W p l e R s m args below meth c H locs cells slots Q (F0 m pc lsA (st.map (am_v em ad))) := by
  obtain ⟨hx, hb, hml, hown, hts, hr, hlk, hnm, hRf, hRc, hRs, hRl, hexc, hhn⟩ := id act
  obtain ⟨hRl0, hS, hZ, hlo, hol, hos, hc, hz⟩ := id h
  obtain ⟨hP, hD, hK, hT, hW⟩ := id hRl0
  simp only [am_do] at hd
  simp only [am_okI] at hk
  obtain ⟨idx, hdg, rfl, h1⟩ := hk
  cases hd
  exact va_gets hx hb (hE A s hZ).1 hS hown (hts _ h1) (fun _ q => q) hdg (kk _ _ _ _ _ _ _ _ (fun _ _ => rfl) ⟨hRl0, hS, hZ, hlo, hol, am_oc trivial hos, hc, hz⟩)
set_option maxHeartbeats 1000000 in
theorem am_s45 (act : am_Act P Y Ts p R s m args meth c M d mc ms) (hk : am_okI P Y cl Ts M pc 45 a b k x nx tab) (hd : am_do P.2.1 45 a b k x nx tab d ls st S = some (pc', ls', st', S1)) (h : am_St em D cl Zs A s H locs cells slots ad ca tys lsA (P.2.2.1 M) ls st S c0 z0) (hC : am_okC P.2.1 cl Ts) (hA : ∀ q, s.heap.size ≤ q → A q) (hup : S1.2.1 ≤ c0 + mc ∧ S1.2.2 ≤ z0 + ms) (hE : am_ZE em Zs)
    (kk : am_K p l e R s m args below meth c Q em D cl Zs A (P.2.2.1 M) c0 z0 ad S.1.length pc' ls' st' S1) : W p l e R s m args below meth c H locs cells slots Q (F0 m pc lsA (st.map (am_v em ad))) := by
  obtain ⟨hx, hb, hml, hown, hts, hr, hlk, hnm, hRf, hRc, hRs, hRl, hexc, hhn⟩ := id act
  obtain ⟨hRl0, hS, hZ, hlo, hol, hos, hc, hz⟩ := id h
  obtain ⟨hP, hD, hK, hT, hW⟩ := id hRl0
  simp only [am_do] at hd
  simp only [am_okI] at hk
  obtain ⟨idx, hdg, rfl, h1⟩ := hk
  cases hd
  exact va_ldcM hx hb hown (hts _ h1) (hE A s hZ).2.2 hdg (kk _ _ _ _ _ _ _ _ (fun _ _ => rfl) ⟨hRl0, hS, hZ, hlo, hol, am_oc trivial hos, hc, hz⟩)
end AM4
end
section
/-! A RUN OF THE ABSTRACT MACHINE IS A RUN OF THE MACHINE -/
/-- a word that stays true while the tables grow warmer -/
def am_Ps (w : Jvm.Cond) : Prop := ∀ (s U : State) (args a' : Array Value), s.WarmedH U.vm → w.before args s = true → w.before a' U = true
/-- a method's end: the answer by its addresses, the heap holds the cells; or it threw -/
def am_Qc (em : Int64 → Nat) (D : va_G) (cl : List vw_C) (A : Nat → Prop) (n0 : Nat) (ad0 : Nat → Nat) (o : Option (Option Value)) (S : am_S) : Array Value → State → Outcome → State → Prop := fun _ st oc t =>
  (∃ (ad : Nat → Nat) (ca : Nat → ClassId) (tys : List (ClassId × FieldType)), (∀ k, k < n0 → ad k = ad0 k) ∧ am_Rl em D cl A t ad ca tys S.1 t.heap ∧ match o with
    | some v => oc = .returned (v.map (am_v em ad)) ∧ ∀ x, v = some x → am_okv S.1.length x
    | none => ∃ (q : Addr) (ce : Cell), oc = .threw q ∧ t.heap[q]? = some ce ∧ ce.vm = .none ∧ t.vm.findClass am_ise = some ce.cls) ∧ va_F A st t
/-- 'throw new ..' where the program has it -/
def am_Thr (P : am_P) (Y : am_Y) (Ts : List Jvm.Cond) (Zs : (Nat → Prop) → State → Heap → Prop) (l : Launch) : Prop :=
  ∀ (M pc a b k : Nat) (x : Int32) (nx : Nat) (tab : List (Int32 × Nat)), P.1 M pc = some (37, a, b, k, x, nx, tab) →
  ∀ (p : Program) (e : Env) (R : Room) (s : State) (m : MethodId) (args : Array Value) (below : List Frame) (meth : Method) (c : Code) (H : Heap) (locs : List Loc) (cells slots d mc ms : Nat) (A : Nat → Prop) (lsA : Array Slot) (rest : List Value) (Qc : Array Value → State → Outcome → State → Prop),
    am_Act P Y Ts p R s m args meth c M d mc ms → va_S A s.heap H locs → Zs A s s.heap → (∀ q, s.heap.size ≤ q → A q) → lsA.size = P.2.2.1 M → 12 ≤ d → (rest.map fun v => v.category).sum ≤ 8 → cells + 1 ≤ mc → slots + 6 ≤ ms →
    (∀ (q : Addr) (ce : Cell) (t : State), s.WarmedH t.vm → H.size ≤ t.heap.size → (∀ z : Nat, z < H.size → t.heap[z]? = H[z]?) → t.heap[q]? = some ce → ce.vm = .none → t.vm.findClass am_ise = some ce.cls → Qc args s (.threw q) t) →
    W p l e R s m args below meth c H locs cells slots (am_MQ below Qc args s mc ms A) (F0 m pc lsA rest)
theorem am_cats {em : Int64 → Nat} {ad : Nat → Nat} {n : Nat} : ∀ q : List Value, (∀ w ∈ q, am_okv n w) → ((q.map (am_v em ad)).map fun v => v.category).sum = q.length := by
  intro q
  induction q with
  | nil => intro _; rfl
  | cons w q ih => intro hq; simp only [List.map_cons, List.sum_cons, List.length_cons]; rw [ih fun u hu => hq u (List.mem_cons_of_mem _ hu), am_cat (em := em) ad (hq w List.mem_cons_self)]; omega
theorem am_lgsl {em : Int64 → Nat} {ad : Nat → Nat} {n : Nat} : ∀ q : List Value, (∀ w ∈ q, am_okv n w) → lg_sl (q.map (am_v em ad)) = q.map (fun v => Slot.val (am_v em ad v)) := by
  intro q
  induction q with
  | nil => intro _; rfl
  | cons w q ih =>
    intro hq
    have h1 := ih fun u hu => hq u (List.mem_cons_of_mem _ hu)
    have h2 := am_cat (em := em) ad (hq w List.mem_cons_self)
    simp only [List.map_cons]
    rw [← h1]
    simp [lg_sl, h2]
theorem am_args {em : Int64 → Nat} {ad : Nat → Nat} {n : Nat} : ∀ (q : List Value) (i j : Nat) (v : Value), (∀ w ∈ q, am_okv n w) → q[j]? = some v → (i + j, am_v em ad v) ∈ lv_args i (q.map (am_v em ad)) := by
  intro q
  induction q with
  | nil => intro i j v _ h; simp at h
  | cons w q ih =>
    intro i j v hq h
    have hc := am_cat (em := em) ad (hq w List.mem_cons_self)
    simp only [List.map_cons, lv_args, hc]
    cases j with
    | zero =>
      simp at h
      subst h
      exact List.mem_cons_self
    | succ j =>
      have h1 := ih (i + 1) j v (fun u hu => hq u (List.mem_cons_of_mem _ hu)) (by simpa using h)
      refine List.mem_cons_of_mem _ ?_
      rw [if_neg (by decide), show i + (j + 1) = i + 1 + j by omega]
      exact h1
/-- a method's locals at its entry -/
theorem am_entry {em : Int64 → Nat} {ad : Nat → Nat} {n nL : Nat} {as : List Value} (ho : ∀ w ∈ as, am_okv n w) (hn : as.length ≤ nL) : am_lo em nL ((lg_sl (as.map (am_v em ad)) ++ List.replicate (nL - (lg_sl (as.map (am_v em ad))).length) Slot.unset).toArray) ad (am_in as nL) ∧ am_okl n (am_in as nL) := by
  have hlen : (lg_sl (as.map (am_v em ad))).length = as.length := by rw [am_lgsl as ho, List.length_map]
  have h1 := lv_entry (as.map (am_v em ad)) (n := nL) (by rw [hlen]; exact hn)
  have hg : ∀ (i : Nat) (v : Value), (am_in as nL)[i]? = some (some v) → as[i]? = some v := by
    intro i v hv
    unfold am_in at hv
    rcases Nat.lt_or_ge i as.length with hi | hi
    · rw [List.getElem?_append_left (by rw [List.length_map]; exact hi), List.getElem?_map] at hv
      cases hq : as[i]? with
      | none => rw [hq] at hv; cases hv
      | some w => rw [hq] at hv; simp at hv; rw [hv]
    · rw [List.getElem?_append_right (by rw [List.length_map]; exact hi), List.getElem?_replicate] at hv
      split at hv <;> cases hv
  refine ⟨⟨⟨h1.1, h1.2.1, fun q hq => ?_⟩, by simp [am_in]; omega⟩, fun i v hv => ho v (List.mem_of_getElem? (hg i v hv))⟩
  obtain ⟨v, hv, hq2⟩ := am_al_mem.mp hq
  have h2 := am_args (em := em) (ad := ad) as 0 q.1 v ho (hg _ _ hv)
  rw [Nat.zero_add] at h2
  exact h1.2.2 q (by rw [show q = (q.1, am_v em ad v) from Prod.ext rfl hq2]; exact h2)
/-- the frame that the callee leaves, seen by the caller -/
theorem am_Sjoin {A B : Nat → Prop} {H0 H : Heap} {locs L : List Loc} {st t : State} (hS : va_S A H0 H locs) (hst : st.heap = H) (hF : va_F B st t) (hAB : ∀ q, B q → A q) (hL : ∀ q ∈ L, B q.base) : va_S A H0 t.heap (locs ++ L) := by
  refine ⟨Nat.le_trans hS.1 (by rw [← hst]; exact hF.1), fun q hq hA => ?_, fun q hq => ?_⟩
  · rw [hF.2 q (by rw [hst]; exact Nat.lt_of_lt_of_le hq hS.1) (fun z => hA (hAB q z)), hst]
    exact hS.2.1 q hq hA
  · rcases List.mem_append.mp hq with hq | hq
    · exact hS.2.2 q hq
    · exact hAB _ (hL q hq)
section AM5
variable {em : Int64 → Nat} {P : am_P} {Y : am_Y} {D : va_G} {cl : List vw_C} {Ts : List Jvm.Cond} {Zs : (Nat → Prop) → State → Heap → Prop} {l : Launch}
/-- what is said of all runs with fuel n -/
def am_Snd (em : Int64 → Nat) (P : am_P) (Y : am_Y) (D : va_G) (cl : List vw_C) (Ts : List Jvm.Cond) (Zs : (Nat → Prop) → State → Heap → Prop) (l : Launch) (n : Nat) : Prop :=
  ∀ (d M pc : Nat) (ls : am_V) (st : List Value) (S : am_S) (o : Option (Option Value)) (S' : am_S), am_run P n d M pc ls st S = some (o, S') →
  ∀ (p : Program) (e : Env) (R : Room) (s : State) (m : MethodId) (args : Array Value) (below : List Frame) (meth : Method) (c : Code) (H : Heap) (locs : List Loc) (cells slots mc ms c0 z0 n0 : Nat) (A : Nat → Prop) (ad ad0 : Nat → Nat) (ca : Nat → ClassId) (tys : List (ClassId × FieldType)) (lsA : Array Slot),
    am_Act P Y Ts p R s m args meth c M d mc ms → am_St em D cl Zs A s H locs cells slots ad ca tys lsA (P.2.2.1 M) ls st S c0 z0 → (∀ q, s.heap.size ≤ q → A q) → c0 + mc = S'.2.1 → z0 + ms = S'.2.2 → n0 ≤ S.1.length → (∀ k, k < n0 → ad k = ad0 k) →
    W p l e R s m args below meth c H locs cells slots (am_MQ below (am_Qc em D cl A n0 ad0 o S') args s mc ms A) (F0 m pc lsA (st.map (am_v em ad)))
/-- a method's contract out of its run -/
theorem am_met {n : Nat} (ih : am_Snd em P Y D cl Ts Zs l n) (hZp : am_Zp Zs) {a d : Nat} {as : List Value} {S S1 : am_S} {o : Option (Option Value)} (hrun : am_run P n d a 0 (am_in as (P.2.2.1 a)) [] S = some (o, S1)) (hM : am_okM P Y Ts a) (hno : ∀ pc, P.2.2.2 a pc = none)
    (has : ∀ w ∈ as, am_okv S.1.length w) (hlen : as.length ≤ P.2.2.1 a) (ad : Nat → Nat) (ca : Nat → ClassId) (tys : List (ClassId × FieldType)) (H : Heap) :
    am_Met l (Y a).1 (Jvm.Cond.code (Y a).1 (Y a).2.1 (P.2.2.1 a) (Y a).2.2 :: Ts) { frames := d, cells := S1.2.1 - S.2.1, slots := S1.2.2 - S.2.2, locals := 41 * d }
      (fun v U => v = (as.map (am_v em ad)).toArray ∧ U.heap = H ∧ am_Rl em D cl (am_A ad S.1.length H.size) U ad ca tys S.1 H ∧ Zs (am_A ad S.1.length H.size) U H)
      (am_Qc em D cl (am_A ad S.1.length H.size) S.1.length ad o S1) (S1.2.1 - S.2.1) (S1.2.2 - S.2.2) (am_A ad S.1.length H.size) := by
  have hupS := am_run_up P _ _ _ _ _ _ _ _ _ hrun
  refine am_ofW (cc := (Y a).2.1) (maxL := P.2.2.1 a) (ret := (Y a).2.2) hM.2.2.2.1 rfl ?_
  intro p e s m args below meth c s₁ B hml hv
  obtain ⟨rfl, rfl, hRl, hZ⟩ := hv
  have hts := atoms_spec (ws := Jvm.Cond.code (Y a).1 (Y a).2.1 (P.2.2.1 a) (Y a).2.2 :: Ts) B.pre
  have hexc := BodyLoose.noHandlers B (hts _ List.mem_cons_self)
  rw [lg_entry_eq]
  have hent := am_entry (em := em) (ad := ad) (nL := P.2.2.1 a) has hlen
  have hA : ∀ q, s.heap.size ≤ q → am_A ad S.1.length s.heap.size q := fun q h => Or.inr h
  exact ih d a 0 (am_in as (P.2.2.1 a)) [] S o S1 hrun p e _ s m _ below meth c s.heap [] 0 0 _ _ S.2.1 S.2.2 S.1.length _ ad ad ca tys _
    ⟨B.exec, B.bytes, hml, findClass_of_methodNamed B.named, fun w hw => hts w (List.mem_cons_of_mem _ hw), B.returns, B.notSynchronized, (name_of_methodNamed B.named B.method).1, rfl, rfl, rfl, rfl, (fun pc _ x hx => by
      have : c.exceptionTable.toList = [] := by
        have h9 : c.exceptionTable = #[] := Array.isEmpty_iff.mp hexc
        rw [h9]
      rw [this] at hx
      cases hx), fun pc h j hh => by rw [hno pc] at hh; cases hh⟩
    ⟨hRl, va_S.rf, hZ, hent.1, hent.2, (fun v hv => nomatch hv), rfl, rfl⟩ hA (by omega) (by omega) (Nat.le_refl _) (fun _ _ => rfl)
end AM5
end
section
/-! 'throw new IllegalStateException()' -/
section AM7
variable {p : Program} {l : Launch} {e : Env} {R : Room} {s : State} {m : MethodId} {args : Array Value} {below : List Frame} {meth : Method} {c : Code} {T : State} {locs : List Loc} {cells slots : Nat}
/-- the walk as if it had just begun, in the heap that is there now -/
theorem am_again (X : Stand p l e R s m args below meth c T locs cells slots) {R' : Room} (h1 : R'.frames ≤ R.frames) (h2 : R'.locals ≤ R.locals) (h3 : cells + R'.cells ≤ R.cells) (h4 : slots + R'.slots ≤ R.slots) :
    Stand p l e R' ((T.setVm s.vm).setFrames (.invoking m args :: below)) m args below meth c T [] 0 0 := by
  obtain ⟨g₀, hfr⟩ := X.frames_eq
  have htop : (T.setVm s.vm).topJava?.isSome := X.here.top
  have hF : ((T.setVm s.vm).setFrames (.invoking m args :: below)).frames = .invoking m args :: below := State.frames_setFrames _ (State.cur_lt_of_top htop)
  have hloc : ((T.setVm s.vm).setFrames (.invoking m args :: below)).localsInUse = s.localsInUse := by
    rw [State.localsInUse_invoking hF (meth := meth) (c := c) X.method X.code, State.localsInUse_invoking X.frames X.method X.code]
  have hlim : e.platform.stackLimits (T.setVm s.vm).me = e.platform.stackLimits s.me := X.limits
  have hby : (T.setVm s.vm).me.stackBytes = s.me.stackBytes := X.bytes
  have hfr' : (T.setVm s.vm).frames = .java g₀ :: below := hfr
  refine ⟨X.admits, X.cas, X.clock, hF, ?_, X.hears, X.method, X.code, X.here, X.tail, X.warmed, by rw [State.stackLimits_setFrames]; rfl, by rw [State.stackBytes_setFrames]; rfl, ?_, Nat.le_refl _, Nat.le_refl _, ?_, ?_, fun a c9 h9 => ⟨c9, h9, rfl, rfl, fun _ _ => rfl⟩⟩
  · have h := X.room
    have q1 := X.heapSize
    have q2 := X.used
    have q3 := X.frames
    simp only [State.hasRoom, Bool.and_eq_true, decide_eq_true_eq] at h ⊢
    obtain ⟨⟨⟨⟨a1, a2, a3, a4, a5, a6⟩, a7⟩, a8⟩, a9⟩ := h
    rw [q3, List.length_cons] at a2 a3
    simp only [hF, hloc, List.length_cons, State.stackLimits_setFrames, State.stackBytes_setFrames, hlim, hby]
    refine ⟨⟨⟨⟨by omega, by omega, by omega, by omega, by omega, a6⟩, ?_⟩, ?_⟩, X.book⟩
    · show T.heap.size + R'.cells ≤ e.platform.maxCells
      omega
    · show T.slotsUsed + R'.slots ≤ e.platform.maxSlots
      omega
  · obtain ⟨t, ht, -⟩ := State.frames_cons hfr'
    show T.setVm s.vm = { ((T.setVm s.vm).setFrames (.invoking m args :: below)).setFrames (T.setVm s.vm).frames with heap := T.heap, slotsUsed := T.slotsUsed }
    rw [State.setFrames_setFrames, State.setFrames_self ht]
    rfl
  · show T.slotsUsed = T.slotsUsed + ((T.heap.toList.drop T.heap.size).map (·.slots.size)).sum
    rw [List.drop_eq_nil_of_le (Nat.le_of_eq Array.length_toList)]
    rfl
  · show ((T.heap.toList.drop T.heap.size).map (·.slots.size)).sum ≤ 0
    rw [List.drop_eq_nil_of_le (Nat.le_of_eq Array.length_toList)]
    exact Nat.le_refl _
end AM7
/-- the words that the throw needs, of the class that throws, with the number of the constructor's link -/
def am_thn : List String := ["java/lang/RuntimeException", "java/lang/Exception"]
def am_thw (own : String) (ic : Nat) : List Jvm.Cond := Bundle.ownAtoms0 own ic am_ise am_thn
/-- they hold now, and in every later heap that keeps what lies outside A -/
def am_ZT (own : String) (ic : Nat) (A : Nat → Prop) (U : State) (H : Heap) : Prop := ∀ (s' : State) (args : Array Value), U.WarmedH s'.vm → H.size ≤ s'.heap.size → (∀ q : Nat, q < H.size → ¬ A q → s'.heap[q]? = H[q]?) → ∀ w ∈ am_thw own ic, w.before args s' = true
theorem am_ZT.kept {own : String} {ic : Nat} {A : Nat → Prop} {U : State} {H H1 : Heap} (h : am_ZT own ic A U H) (hq : ∀ q : Nat, q < H.size → ¬ A q → H1[q]? = H[q]?) (hz : H.size ≤ H1.size) : am_ZT own ic A U H1 :=
  fun s' args hW h1 h2 => h s' args hW (Nat.le_trans hz h1) fun q hq1 hA => by rw [h2 q (Nat.lt_of_lt_of_le hq1 hz) hA]; exact hq q hq1 hA
theorem am_ZT.moved {own : String} {ic : Nat} {A : Nat → Prop} {u U : State} {H : Heap} (h : am_ZT own ic A u H) (hW : u.WarmedH U.vm) : am_ZT own ic A U H :=
  fun s' args hW' h1 h2 => h s' args (State.WarmedH.trans hW hW') h1 h2
theorem am_ZT.narrow {own : String} {ic : Nat} {A B : Nat → Prop} {U : State} {H : Heap} (h : am_ZT own ic A U H) (hAB : ∀ q, B q → A q) : am_ZT own ic B U H :=
  fun s' args hW h1 h2 => h s' args hW h1 fun q hq hA => h2 q hq fun hB => hA (hAB q hB)
set_option maxHeartbeats 2000000 in
/-- new; dup; invokespecial; athrow -/
theorem am_throw {p : Program} {l : Launch} {e : Env} {R : Room} {s : State} {m : MethodId} {args : Array Value} {below : List Frame} {meth : Method} {c : Code} {H : Heap} {locs : List Loc} {cells slots : Nat} {Qc : Array Value → State → Outcome → State → Prop} {mc ms ik ic : Nat} {free : Addr → Prop} {own : String} {cc : ByteArray} {pc : Nat} {ls : Array Slot} {rest : List Value} {A : Nat → Prop}
    (hexec : p.tables.exec = Jvm.exec) (hb : c.code = cc) (hl : l.stackTraces = false) (hown : s.vm.findClass own = some m.cls) (hk : (Jvm.Cond.classLink own ik am_ise).before args s = true) (hini : (Jvm.Cond.initialized am_ise).before args s = true) (hkp : am_Ps (Jvm.Cond.classLink own ik am_ise)) (hip : am_Ps (Jvm.Cond.initialized am_ise))
    (hZ : am_ZT own ic A s s.heap) (hS : va_S A s.heap H locs) (hsize : ls.size = c.maxLocals)
    (d0 : decode cc pc = .ok (.new ik, 3)) (d3 : decode cc (pc + 3) = .ok (.dup, 1)) (d4 : decode cc (pc + 4) = .ok (.invokespecial ic, 3)) (d7 : decode cc (pc + 7) = .ok (.athrow, 1))
    (hout : ∀ x ∈ c.exceptionTable.toList, covers x (pc + 7) = false) (hRf : 6 ≤ R.frames) (hRl : (rest.map fun v => v.category).sum + 90 ≤ R.locals) (hRc : cells + 1 ≤ R.cells) (hRs : slots + 6 ≤ R.slots) (hlocks : meth.locks = false)
    (hx : ∀ (q : Addr) (ce : Cell) (t : State), s.WarmedH t.vm → H.size ≤ t.heap.size → (∀ z : Nat, z < H.size → t.heap[z]? = H[z]?) → t.heap[q]? = some ce → ce.vm = .none → t.vm.findClass am_ise = some ce.cls → Qc args s (.threw q) t)
    (hf : ∀ z ∈ locs, free z.base) (hc : cells + 1 ≤ mc) (hs : slots + 6 ≤ ms) :
    W p l e R s m args below meth c H locs cells slots (am_MQ below Qc args s mc ms free) (F0 m pc ls rest) := by
  intro T hT X
  have htr : e.platform.stackTraces = false := (show e.platform.stackTraces = l.stackTraces by rw [X.admits.platform]).trans hl
  have Y := am_again X (R' := { frames := R.frames, locals := R.locals, cells := 1, slots := 6 }) (Nat.le_refl _) (Nat.le_refl _) hRc hRs
  generalize hs' : (T.setVm s.vm).setFrames (.invoking m args :: below) = s' at Y
  have hvm : s'.vm = s.vm := by rw [← hs']; rfl
  have hhp : s'.heap = H := by rw [← hs']; exact hT
  have hW0 : s.WarmedH s'.vm := by rw [hvm]; exact State.WarmedH.refl s
  have hw : ∀ w ∈ Bundle.ownAtoms0 own ic am_ise am_thn, w.before args s' = true := hZ s' args hW0 (by rw [hhp]; exact hS.1) (by rw [hhp]; exact hS.2.1)
  have hown' : s'.vm.findClass own = some m.cls := by rw [hvm]; exact hown
  have hins : (Jvm.Cond.instantiable am_ise 6).before args s' = true := hw _ (by simp [Bundle.ownAtoms0])
  obtain ⟨vm₁, cX, kX, hfX, hkX, -, -, X₁, st1⟩ := Y.newCold hexec (own := own) (C := am_ise) (index := ik) (n := 6) hown' (hkp _ _ _ _ hW0 hk) hins (hip _ _ _ _ hW0 hini)
    (g := F0 m pc ls rest) rfl (by rw [hb]; exact d0) (Nat.le_refl _) (Nat.le_refl _)
  generalize hT1 : (T.setVm vm₁).pushCell { cls := cX, slots := kX.instanceTypes.map defaultValue, vm := .none } = T1 at X₁ st1
  have hcat : (Value.ref T.heap.size).category = 1 := rfl
  have hcellA : T1.heap[T.heap.size]? = some (freshCell cX kX) := by rw [← hT1]; exact State.heap_pushCell_size _ _
  have d3' : decode c.code (pc + 3) = .ok (.dup, 1) := by rw [hb]; exact d3
  obtain ⟨U, hsteps, hrun, hend, hW, hsame, ce, hce, hO⟩ := X₁.ctorThrow0 hexec htr (own := own) (cls := am_ise) (names := am_thn) (ic := ic) hown' (by decide +kernel) (by decide +kernel) hw (fun x hx => nomatch hx) hfX hkX hcellA (by rw [hhp, hT]; exact Nat.le_refl _)
    (g := { method := m, pc := pc + 4, locals := ls, stack := .ref T.heap.size :: .ref T.heap.size :: rest, locked := none }) rfl hsize rfl rfl (rest := rest) rfl
    (by rw [hb]; exact d4) (by rw [hb]; exact d7) hout (by show 2 + 3 < R.frames; omega) (by
      show 2 * 0 + (((Value.ref T.heap.size) :: rest).map fun v => v.category).sum + (13 * (2 + 1) + 41) ≤ R.locals
      simp only [List.map_cons, List.sum_cons, hcat]; omega) hlocks
  have hsame2 := hsame
  obtain ⟨e1, f1, e2⟩ := hsame2
  have f2 : ∀ q : Nat, q < s'.heap.size → U.heap[q]? = s'.heap[q]? := by
    intro q hq
    obtain ⟨c9, k1, k2, k3, k4⟩ := e2.2.2.2 q _ (Array.getElem?_eq_getElem hq)
    have hsl : c9.slots = (s'.heap[q]).slots := Array.ext_getElem? fun i => k4 i fun hm => nomatch hm
    have h9 : c9 = s'.heap[q] := by
      rw [hsl] at k2
      exact k2
    have k5 : U.heap[q]? = some c9 := k1
    rw [k5, h9, Array.getElem?_eq_getElem hq]
  have f1' : s'.heap.size ≤ U.heap.size := f1
  rw [hhp] at f1' f2
  have hWs : s.WarmedH U.vm := State.WarmedH.trans hW0 hW
  have hcl : s.vm.findClass am_ise = some ce.cls := by
    have h9 := hO.cls
    rw [hvm] at h9
    exact h9
  have hall : s.sameButNew ({ U with vm := s.vm } : State) locs mc ms := by
    subst hs'
    rw [State.setFrames_setFrames] at e1
    have h2 : (T.setVm s.vm).sameButNew ({ U with vm := s.vm } : State) [] (0 + 1) (0 + 6) := ⟨e1, f1, e2⟩
    have h3 := X.same.trans h2
    rw [List.append_nil] at h3
    exact h3.mono hc hs
  refine ⟨U, ?_, .threw T.heap.size, hrun, hend, hx T.heap.size ce U hWs f1' (fun q hq => f2 q hq) hce hO.vm (by rw [hWs.alike.findClass]; exact hcl), locs, ⟨hWs, hall⟩, hf⟩
  refine st1 _ ?_
  show Steps p.tables e below (T1.setTop { method := m, pc := pc + 3, locals := ls, stack := .ref T.heap.size :: rest, locked := none }) _
  jvm_step X₁.here [X₁.here.top, hexec, d3', Value.category]
  exact hsteps
end
section
/-! 'catch (IllegalStateException ..)' in a method with one handler -/
section AM8
variable {p : Program} {l : Launch} {e : Env} {R : Room} {s : State} {m : MethodId} {args : Array Value} {below : List Frame} {meth : Method} {c : Code} {H : Heap} {locs : List Loc} {cells slots : Nat} {Q : State → Prop}
/-- the search for a handler, where the one row of the table covers the place and its class takes what was thrown; the link is noted by it -/
theorem am_search {S : State} {g : JFrame} {q : Addr} {x : ExceptionTableEntry} {cT : ClassId} {ce : Cell} (hm : S.vm.method? g.method = some meth) (hc : meth.code = some c) (htab : c.exceptionTable.toList = [x]) (hx : covers x g.pc = true) (h0 : x.catchType ≠ 0)
    (hl : S.vm.ClassLinks e.platform g.method.cls x.catchType cT) (hcell : S.heap[q]? = some ce) (hv : ce.vm = .none) (hk1 : ∃ k, S.vm.classes[ce.cls]? = some k) (hk2 : ∃ k, S.vm.classes[cT]? = some k) (hfit : S.vm.assignable ce.cls cT = true)
    (Qh : Handler → Pre) (E : CtlPost) (d : Bool) (acts : List Action) : wp (findHandler g q) Qh E e d acts S ↔ Qh (.found x.handlerPc) d acts (S.setVm (S.vm.noted g.method.cls x.catchType (.cls cT))) := by
  have hal : S.vm.Alike (S.vm.noted g.method.cls x.catchType (.cls cT)) := (Vm.Alike.refl S.vm).noted _ _ _
  obtain ⟨k1, hk1⟩ := hk1
  obtain ⟨k2, hk2⟩ := hk2
  obtain ⟨k1', hk1', -⟩ := hal.2.2 _ _ hk1
  obtain ⟨k2', hk2', -⟩ := hal.2.2 _ _ hk2
  have hfit' : (S.vm.noted g.method.cls x.catchType (.cls cT)).assignable ce.cls cT = true := by rw [hal.assignable]; exact hfit
  have hobj : ∀ k, ce.vm ≠ .statics k := fun k h => by rw [hv] at h; cases h
  obtain ⟨ha, ht⟩ := (resolveClass_links e.toSetting hl).op (op := VmOp.resolveClass g.method.cls x.catchType) rfl
  rw [W.findHandler_eq hm hc, htab]
  simp only [covers] at hx
  simp [findHandler.go, hx, h0, ha, ht, hcell, hobj, hk1', hk2', hfit', VmOp.dirties, VmOp.acts]
theorem am_sfv (u : State) (vm' : Vm) (F G : List Frame) : ((u.setFrames F).setVm vm').setFrames G = (u.setVm vm').setFrames G := by
  show ((u.setVm vm').setFrames F).setFrames G = _
  rw [State.setFrames_setFrames]
theorem am_catchX {own : String} {pc : Nat} {ls : Array Slot} {rest : List Value} {q : Addr} {ce : Cell} {x : ExceptionTableEntry} (hown : s.vm.findClass own = some m.cls) (htab : c.exceptionTable.toList = [x]) (hx : covers x pc = true) (h0 : x.catchType ≠ 0)
    (hlink : (Jvm.Cond.classLink own x.catchType am_ise).before args s = true) (hcast : (Jvm.Cond.castable am_ise am_ise).before args s = true) (hcell : H[q]? = some ce) (hv : ce.vm = .none) (hcl : s.vm.findClass am_ise = some ce.cls)
    (kk : W p l e R s m args below meth c H locs cells slots Q (F0 m x.handlerPc ls [.ref q])) : am_X p l e R s m args below meth c H locs cells slots Q (F0 m pc ls rest) q := by
  intro T hT X
  have hpl : e.platform.magicAccessors = ({} : Platform).magicAccessors := by rw [X.admits.platform]
  obtain ⟨c3, c4, hc3, hc4, hasg⟩ := Cond.castable_spec hcast
  cases Option.some.inj (hc3.symm.trans hcl)
  cases Option.some.inj (hc4.symm.trans hcl)
  obtain ⟨c5, hc5, hcl5⟩ := Cond.classLink_spec hown hlink e.platform hpl
  cases Option.some.inj (hc5.symm.trans hcl)
  obtain ⟨dk, _, _, kt, hd, _, _, _, _, hkt, _, hopen⟩ := hcl5.here
  obtain ⟨kt', hkt', -⟩ := X.warmed.alike.2.2 _ _ hkt
  have hl' := X.warmed.classLinks hcl5
  have hW' := X.warmed.noted hd hopen (State.rightAt_cls hcl5)
  obtain ⟨t, a1, b1⟩ := kk (T.setVm (T.vm.noted m.cls x.catchType (.cls ce.cls))) hT (X.noted hW')
  refine ⟨t, ?_, b1⟩
  have h : At T m c below := X.here
  obtain ⟨hgo, hw⟩ := At.throwing (g := F0 m pc ls rest) h q
  refine Steps.head hgo hw ?_
  have hfind := am_search (e := e) (S := (T.setTop (F0 m pc ls rest)).pushFrame (.throwing q)) (g := F0 m pc ls rest) (q := q) (meth := meth) (c := c) X.method' X.code htab hx h0 hl' (by rw [Stand.throwing_heap, hT]; exact hcell) hv ⟨kt', hkt'⟩ ⟨kt', hkt'⟩ (by rw [Stand.throwing_vm, X.warmed.alike.assignable]; exact hasg)
  have hstep : ∀ r, (stepThrowing e ((T.setTop (F0 m pc ls rest)).pushFrame (.throwing q)) q (.java (F0 m pc ls rest) :: r)).Is ((((T.setTop (F0 m pc ls rest)).pushFrame (.throwing q)).setVm (T.vm.noted m.cls x.catchType (.cls ce.cls))).setFrames (.java { (F0 m pc ls rest) with pc := x.handlerPc, stack := [.ref q] } :: r)) [] := by
    intro r
    simp only [stepThrowing, searchFrame, vmDo]
    generalize hr : Sem.go _ e false [] _ = res
    obtain ⟨as, rfl, ha⟩ := Sem.eq_ok_of hr (a := Handler.found x.handlerPc) (s' := ((T.setTop (F0 m pc ls rest)).pushFrame (.throwing q)).setVm (T.vm.noted m.cls x.catchType (.cls ce.cls))) (acts' := []) (by simp [hfind]; rfl)
    exact ⟨rfl, ha⟩
  rw [stepThread_throwing (frames_entered h.top _), (hstep _).1]
  obtain ⟨g₀, hg⟩ := Option.isSome_iff_exists.mp h.top
  obtain ⟨r, hr⟩ := State.topJava?_eq_some.mp hg
  have hr' : (T.setVm (T.vm.noted m.cls x.catchType (.cls ce.cls))).frames = .java g₀ :: r := hr
  rw [State.setTop_of_frames _ hr'] at a1
  rw [hr, List.tail_cons, State.pushFrame, am_sfv, State.setTop_of_frames _ hr, am_sfv]
  exact a1
end AM8
/-- caught where the program says so: of the local that takes the reference nothing is known then -/
theorem am_Cat {em : Int64 → Nat} {P : am_P} {Y : am_Y} {Ts : List Jvm.Cond} {p : Program} {l : Launch} {e : Env} {R : Room} {s : State} {m : MethodId} {args : Array Value} {below : List Frame} {meth : Method} {c : Code} {H : Heap} {locs : List Loc} {cells slots : Nat} {Q : State → Prop} {M pc h j d mc ms n : Nat} {lsA : Array Slot} {rest : List Value} {ad : Nat → Nat} {ls : am_V} {q : Addr} {ce : Cell} (hcast : Jvm.Cond.castable am_ise am_ise ∈ Ts) (hh : P.2.2.2 M pc = some (h, j))
    (act : am_Act P Y Ts p R s m args meth c M d mc ms) (hlo : am_lo em (P.2.2.1 M) lsA ad ls) (hol : am_okl n ls) (hcell : H[q]? = some ce) (hv : ce.vm = .none) (hcl : s.vm.findClass am_ise = some ce.cls)
    (kk : ∀ lsA', am_lo em (P.2.2.1 M) lsA' ad (ls.set j none) → W p l e R s m args below meth c H locs cells slots Q (F0 m h lsA' [])) : am_X p l e R s m args below meth c H locs cells slots Q (F0 m pc lsA rest) q := by
  obtain ⟨hx, hb, hml, hown, hts, hr, hlk, hnm, hRf, hRc, hRs, hRl, hexc, hhn⟩ := id act
  obtain ⟨x, htab, hcov, h0, hlink, ⟨k, hdg, hkj⟩, rfl, hj⟩ := hhn pc h j hh
  refine am_catchX hown htab hcov h0 (hts _ hlink) (hts _ hcast) hcell hv hcl ?_
  refine lv_astore_n hx hb hdg hkj hlo.1 hj rfl (fun lsA' h' => kk lsA' ?_)
  refine ⟨⟨h'.1, h'.2.1, fun z hz => ?_⟩, by rw [List.length_set]; exact hlo.2⟩
  obtain ⟨w, hw, hz2⟩ := am_al_mem.mp hz
  rw [List.getElem?_set] at hw
  by_cases hi : j = z.1
  · rw [if_pos hi] at hw
    split at hw <;> cases hw
  · rw [if_neg hi] at hw
    refine h'.2.2 z (List.mem_cons_of_mem _ (List.mem_filter.mpr ⟨am_al_mem.mpr ⟨w, hw, hz2⟩, ?_⟩))
    have hne : (z.1 == j) = false := by simp; exact fun y => hi y.symm
    have hcat : z.2.category = 1 := by rw [hz2]; exact am_cat (em := em) ad (hol _ _ hw)
    rw [hne, hcat]
    simp
end
section
/-! ONE STEP MORE: the induction -/
section AM6
variable {em : Int64 → Nat} {P : am_P} {Y : am_Y} {D : va_G} {cl : List vw_C} {Ts : List Jvm.Cond} {Zs : (Nat → Prop) → State → Heap → Prop} {l : Launch}
set_option maxHeartbeats 4000000 in
theorem am_callS (hC : am_okC P.2.1 cl Ts) (hTs : ∀ w ∈ Ts, am_Ps w) (hZp : am_Zp Zs) (hCat : Jvm.Cond.castable am_ise am_ise ∈ Ts) {n : Nat} (ih : am_Snd em P Y D cl Ts Zs l n)
    {M pc a b k nx d : Nat} {x : Int32} {tab : List (Int32 × Nat)} {ls : am_V} {st : List Value} {S S' : am_S} {o : Option (Option Value)} (hk : am_okI P Y cl Ts M pc 32 a b k x nx tab) (hno : ∀ pc, P.2.2.2 a pc = none)
    (hb0 : b ≤ st.length ∧ st.length ≤ b + 8 ∧ b ≤ P.2.2.1 a ∧ am_recv k (st.take b).reverse S = true)
    (hrun : (match am_run P n d a 0 (am_in (st.take b).reverse (P.2.2.1 a)) [] S with
      | none => none
      | some (some v, S1) => am_run P n (d + 1) M nx ls (v.toList ++ st.drop b) S1
      | some (none, S1) => match P.2.2.2 M pc with
        | none => some (none, S1)
        | some (h, j) => am_run P n (d + 1) M h (ls.set j none) [] S1) = some (o, S'))
    {p : Program} {e : Env} {R : Room} {s : State} {m : MethodId} {args : Array Value} {below : List Frame} {meth : Method} {c : Code} {H : Heap} {locs : List Loc} {cells slots mc ms c0 z0 n0 : Nat} {A : Nat → Prop} {ad ad0 : Nat → Nat} {ca : Nat → ClassId} {tys : List (ClassId × FieldType)} {lsA : Array Slot}
    (act : am_Act P Y Ts p R s m args meth c M (d + 1) mc ms) (h : am_St em D cl Zs A s H locs cells slots ad ca tys lsA (P.2.2.1 M) ls st S c0 z0) (hA : ∀ q, s.heap.size ≤ q → A q) (hmc : c0 + mc = S'.2.1) (hms : z0 + ms = S'.2.2) (hn0 : n0 ≤ S.1.length) (hag : ∀ k, k < n0 → ad k = ad0 k) :
    W p l e R s m args below meth c H locs cells slots (am_MQ below (am_Qc em D cl A n0 ad0 o S') args s mc ms A) (F0 m pc lsA (st.map (am_v em ad))) := by
  obtain ⟨hx, hb, hml, hown, hts, hr, hlk, hnm, hRf, hRc, hRs, hRl, hexc, hhn⟩ := id act
  obtain ⟨hRl0, hS, hZ, hlo, hol, hos, hc, hz⟩ := id h
  obtain ⟨hP, hD, hK, hT, hW⟩ := id hRl0
  obtain ⟨idx, rfl, hokM, hk⟩ := hk
  cases hcall : am_run P n d a 0 (am_in (st.take b).reverse (P.2.2.1 a)) [] S with
  | none => rw [hcall] at hrun; cases hrun
  | some q0 =>
    obtain ⟨o1, S1⟩ := q0
    rw [hcall] at hrun
    have has : ∀ w ∈ (st.take b).reverse, am_okv S.1.length w := fun w hw => hos w (List.mem_of_mem_take (List.mem_reverse.mp hw))
    have hal : (st.take b).reverse.length = b := by rw [List.length_reverse, List.length_take]; omega
    have hup1 := am_run_up P _ _ _ _ _ _ _ _ _ hcall
    have hdrop : ∀ w ∈ st.drop b, am_okv S.1.length w := fun w hw => hos w (List.mem_of_mem_drop hw)
    have hup : S1.2.1 ≤ S'.2.1 ∧ S1.2.2 ≤ S'.2.2 := by
      cases o1 with
      | some v => have := am_run_up P _ _ _ _ _ _ _ _ _ hrun; exact ⟨this.1, this.2.1⟩
      | none =>
        dsimp only at hrun
        cases hh : P.2.2.2 M pc with
        | none => rw [hh] at hrun; cases hrun; exact ⟨Nat.le_refl _, Nat.le_refl _⟩
        | some q => rw [hh] at hrun; have := am_run_up P _ _ _ _ _ _ _ _ _ hrun; exact ⟨this.1, this.2.1⟩
    have hMet := am_met ih hZp hcall hokM hno has (by rw [hal]; exact hb0.2.2.1) ad ca tys H
    have hsub := am_A.sub hRl0 hS hA
    have hZH : Zs A s H := hZp.1 A s s.heap H hZ hS.2.1 hS.1
    have hsplit : st.map (am_v em ad) = (((st.take b).reverse).map (am_v em ad)).reverse ++ (st.drop b).map (am_v em ad) := by
      rw [← List.map_reverse, List.reverse_reverse, ← List.map_append, List.take_append_drop]
    have hinv : am_Inv p l e R s m args below meth c H locs cells slots (F0 m pc lsA (st.map (am_v em ad))) ((st.drop b).map (am_v em ad)) (Y a).1 (((st.take b).reverse).map (am_v em ad)).toArray := by
      match k, hk, hb0 with
      | 0, hk, _ =>
        obtain ⟨hdg, h1, h2, hlen⟩ := hk
        exact am_invS hx hb hown (hts _ h1) (hts _ h2) (hts _ hokM.2.1) (hts _ hokM.1) hokM.2.2.1 rfl (fun sig hs => by rw [List.length_map, hal]; exact hlen sig hs) hsplit hdg
      | 1, hk, hb0 =>
        obtain ⟨hdg, h1, h2, hin, hret, hlen⟩ := hk
        cases hasl : (st.take b).reverse with
        | nil => rw [hasl] at hb0; simp [am_recv] at hb0
        | cons w as1 =>
          rw [hasl] at hb0 hsplit hal
          cases w <;> simp only [am_recv] at hb0 <;> try (exact absurd hb0.2.2.2 (by decide))
          rename_i r0
          have hst2 : st.map (am_v em ad) = (as1.map (am_v em ad)).reverse ++ .ref (ad r0) :: (st.drop b).map (am_v em ad) := by
            rw [hsplit]; simp [am_v]
          have hl2 : ∀ sig, parseMethodDescriptor (Y a).1.desc = some sig → (as1.map (am_v em ad)).length = sig.parameters.length := fun sig hs => by
            have := hlen sig hs
            rw [List.length_map]; simp at hal; omega
          have hcd := hts _ hokM.1
          rw [hret] at hcd
          rcases h1 with h1 | ⟨host, h1⟩
          · exact am_invI (b := ad r0) (As := as1.map (am_v em ad)) hx hb hown hin (hts _ h1) (hts _ h2) hcd hokM.2.2.1 rfl hl2 hst2 hdg
          · exact am_invIN (b := ad r0) (As := as1.map (am_v em ad)) hx hb hown hin (hts _ h1) (hts _ h2) hcd hokM.2.2.1 rfl hl2 hst2 hdg
      | kc + 2, hk, hb0 =>
        obtain ⟨C, T, N, hcl, hdg, h1, h2, h3, hlen⟩ := hk
        cases hasl : (st.take b).reverse with
        | nil => rw [hasl] at hb0; simp [am_recv] at hb0
        | cons w as1 =>
          rw [hasl] at hb0 hsplit hal
          cases w <;> simp only [am_recv] at hb0 <;> try (exact absurd hb0.2.2.2 (by decide))
          rename_i r0
          have hst2 : st.map (am_v em ad) = (as1.map (am_v em ad)).reverse ++ .ref (ad r0) :: (st.drop b).map (am_v em ad) := by
            rw [hsplit]; simp [am_v]
          have hl2 : ∀ sig, parseMethodDescriptor (Y a).1.desc = some sig → (as1.map (am_v em ad)).length = sig.parameters.length := fun sig hs => by
            have := hlen sig hs
            rw [List.length_map]; simp at hal; omega
          have hrecv := hb0.2.2.2
          split at hrecv
          · rename_i ci fs hcell
            have hci : ci = kc := of_decide_eq_true hrecv
            subst hci
            exact am_invV (b := ad r0) (C := C) (As := as1.map (am_v em ad)) hx hb hown (hts _ h1) (hts _ h2) (hts _ h3) (hts _ hokM.1) hokM.2.2.1 (va_recv hK hP hcl (am_w_get hcell)) rfl hl2 hst2 hdg
          · cases hrecv
    have hgood : ∀ w ∈ Ts, ∀ (a' : Array Value) (U : State), s.WarmedH U.vm → w.before a' U = true := fun w hw a' U hWU => hTs w hw s U args a' hWU (hts w hw)
    refine am_callW (bytes := (Y a).2.1) (maxL := P.2.2.1 a) (ret := (Y a).2.2) hinv hMet ?_ rfl rfl ?_ ?_ (hgood _ hokM.1) (hgood _ hokM.2.1) ?_ ?_ ?_ ?_ ?_ ?_
    · rintro a9 U g9 mk ⟨q1, q2, q3, q4⟩
      exact ⟨q1, q2, q3.moved (Vm.Alike.refl U.vm), hZp.2.1 _ U _ _ (State.WarmedH.refl U) q4⟩
    · refine ⟨by rw [hRf]; exact Nat.le_refl _, ?_⟩
      have := hokM.2.2.2.2
      rw [hRl]
      show 8 + (P.2.2.1 a + 11) + 41 * d ≤ 41 * (d + 1)
      omega
    · intro w hw
      rcases List.mem_cons.mp hw with rfl | hw
      · exact hgood _ hokM.1
      · exact hgood w hw
    · show lsA.size = c.maxLocals
      rw [hml]; exact hlo.1.1
    · show 2 * 0 + (((st.drop b).map (am_v em ad)).map fun v => v.category).sum ≤ 8
      rw [am_cats _ hdrop, List.length_drop]
      omega
    · rw [hRc, hRs]; omega
    · intro U hU hWU
      exact ⟨rfl, hU, (hRl0.own).moved hWU.alike, hZp.2.1 _ s U _ hWU (hZp.2.2 _ _ _ _ hsub hZH)⟩
    · intro v st₀ t L h0 hWt hL hq
      obtain ⟨⟨ad', ca', tys', hag', hRl', hm⟩, hF⟩ := hq
      cases o1 with
      | none => obtain ⟨q9, ce, hq9, -⟩ := hm; cases hq9
      | some v1 =>
        obtain ⟨hv1, hok1⟩ := hm
        cases hv1
        have e1 : (st.drop b).map (am_v em ad) = (st.drop b).map (am_v em ad') := (am_st_eq hag' hdrop).symm
        refine W.eq (g2 := F0 m (pc + 3) lsA ((v1.toList ++ st.drop b).map (am_v em ad'))) ?_ ?_
        · rw [e1, List.map_append]
          cases v1 <;> rfl
        · refine ih (d + 1) M (pc + 3) ls (v1.toList ++ st.drop b) S1 o S' hrun p e R s m args below meth c t.heap (locs ++ L) _ _ mc ms c0 z0 n0 A ad' ad0 ca' tys' lsA act ⟨(hRl'.moved hWt.alike.symm).weaken hsub, am_Sjoin hS h0 hF hsub hL, hZ, hlo.agree hol hag', fun i w hw => (hol i w hw).mono hup1.2.2, fun w hw => ?_, by omega, by omega⟩ hA hmc hms (Nat.le_trans hn0 hup1.2.2) (fun j hj => (hag' j (Nat.lt_of_lt_of_le hj hn0)).trans (hag j hj))
          rcases List.mem_append.mp hw with hw | hw
          · cases v1 with
            | none => cases hw
            | some v2 =>
              simp at hw
              subst hw
              exact hok1 _ rfl
          · exact (hdrop w hw).mono hup1.2.2
    · intro q st₀ t L h0 hWt hL hq
      obtain ⟨⟨ad', ca', tys', hag', hRl', hm⟩, hF⟩ := hq
      cases o1 with
      | some v1 => obtain ⟨hv1, -⟩ := hm; cases hv1
      | none =>
        obtain ⟨q9, ce, hq9, hce, hcv, hcc⟩ := hm
        cases hq9
        dsimp only at hrun
        have hcc' : s.vm.findClass am_ise = some ce.cls := by rw [← hWt.alike.findClass]; exact hcc
        have hSj := am_Sjoin hS h0 hF hsub hL
        have hRj := (hRl'.moved hWt.alike.symm).weaken hsub
        cases hh : P.2.2.2 M pc with
        | none =>
          rw [hh] at hrun
          cases hrun
          refine am_outX rfl rfl rfl (hexc pc hh) hlk (fun t2 ht2 hW2 => ?_) hSj.2.2 (by omega) (by omega)
          refine ⟨⟨ad', ca', tys', fun j hj => (hag' j (Nat.lt_of_lt_of_le hj hn0)).trans (hag j hj), ?_, q, ce, rfl, by rw [ht2]; exact hce, hcv, by rw [hW2.alike.findClass]; exact hcc'⟩, hSj.F ht2⟩
          rw [ht2]
          exact hRj.moved hW2.alike
        | some hj =>
          obtain ⟨h9, j⟩ := hj
          rw [hh] at hrun
          refine am_Cat hCat hh act (hlo.agree hol hag') (n := S1.1.length) (fun i w hw => (hol i w hw).mono hup1.2.2) hce hcv hcc' (fun lsA' hlo' => ?_)
          exact ih (d + 1) M h9 (ls.set j none) [] S1 o S' hrun p e R s m args below meth c t.heap (locs ++ L) _ _ mc ms c0 z0 n0 A ad' ad0 ca' tys' lsA' act ⟨hRj, hSj, hZ, hlo', am_okl.drop j (fun i w hw => (hol i w hw).mono hup1.2.2), (fun v hv => nomatch hv), by omega, by omega⟩ hA hmc hms (Nat.le_trans hn0 hup1.2.2) (fun j hj => (hag' j (Nat.lt_of_lt_of_le hj hn0)).trans (hag j hj))
set_option maxHeartbeats 4000000 in
theorem am_snd (hok : ∀ M pc op a b c x nx tab, P.1 M pc = some (op, a, b, c, x, nx, tab) → am_okI P Y cl Ts M pc op a b c x nx tab) (hC : am_okC P.2.1 cl Ts) (hTs : ∀ w ∈ Ts, am_Ps w) (hZp : am_Zp Zs) (hE : am_ZE em Zs) (hThr : am_Thr P Y Ts Zs l) (hCat : Jvm.Cond.castable am_ise am_ise ∈ Ts)
    (hno : ∀ M pc a b c x nx tab, P.1 M pc = some (32, a, b, c, x, nx, tab) → ∀ pc', P.2.2.2 a pc' = none) : ∀ n, am_Snd em P Y D cl Ts Zs l n := by
  intro n
  induction n with
  | zero => intro d M pc ls st S o S' hrun; simp [am_run] at hrun
  | succ n ih =>
    intro d M pc ls st S o S' hrun p e R s m args below meth c H locs cells slots mc ms c0 z0 n0 A ad ad0 ca tys lsA act h hA hmc hms hn0 hag
    rw [am_run] at hrun
    cases hi : P.1 M pc with
    | none => rw [hi] at hrun; cases hrun
    | some i =>
      obtain ⟨op, a, b, k, x, nx, tab⟩ := i
      rw [hi] at hrun
      dsimp only at hrun
      have hk := hok M pc op a b k x nx tab hi
      obtain ⟨hx, hb, hml, hown, hts, hr, hlk, hnm, hRf, hRc, hRs, hRl, hexc, hhn⟩ := id act
      obtain ⟨hRl0, hS, hZ, hlo, hol, hos, hc, hz⟩ := id h
      by_cases h32 : op = 32
      · rw [if_pos h32] at hrun
        subst h32
        split at hrun
        · rename_i hb0
          cases d with
          | zero => cases hrun
          | succ d' => exact am_callS hC hTs hZp hCat ih hk (hno M pc a b k x nx tab hi) hb0 hrun act h hA hmc hms hn0 hag
        · cases hrun
      · rw [if_neg h32] at hrun
        by_cases h37 : op = 37
        · rw [if_pos h37] at hrun
          subst h37
          split at hrun
          · rename_i hd0
            cases hrun
            simp only at hmc hms
            refine hThr M pc a b k x nx tab hi p e R s m args below meth c H locs cells slots d mc ms A lsA _ _ act hS hZ hA hlo.1.1 hd0.1 (by rw [am_cats _ hos]; exact hd0.2) (by omega) (by omega) (fun q ce t hWt hsz hkp hce hcv hcc => ?_)
            have hkp' : va_P D cl (am_w em ad ca S.1) t.heap := hRl0.1.kept fun k q hk => hkp _ ((hRl0.1 k q hk).lt)
            exact ⟨⟨ad, ca, tys, hag, ⟨hkp', hRl0.2.1, va_K.moved hWt.alike hRl0.2.2.1, hRl0.2.2.2⟩, q, ce, rfl, hce, hcv, hcc⟩, ⟨Nat.le_trans hS.1 hsz, fun z hz hzA => by rw [hkp z (Nat.lt_of_lt_of_le hz hS.1)]; exact hS.2.1 z hz hzA⟩⟩
          · cases hrun
        · rw [if_neg h37] at hrun
          by_cases h33 : 33 ≤ op ∧ op ≤ 36
          · rw [if_pos h33] at hrun
            cases hret : am_ret op st with
            | none => rw [hret] at hrun; cases hrun
            | some v =>
              rw [hret] at hrun
              cases hrun
              obtain rfl : cells = mc := by omega
              obtain rfl : slots = ms := by omega
              have hq : ∀ v2 : Option Value, (∀ y, v2 = some y → am_okv S.1.length y) → ∀ t : State, t.heap = H → s.WarmedH t.vm → am_Qc em D cl A n0 ad0 (some v2) S args s (.returned (v2.map (am_v em ad))) t := fun v2 hv2 t ht hWt =>
                ⟨⟨ad, ca, tys, hag, by rw [ht]; exact hRl0.moved hWt.alike, rfl, hv2⟩, hS.F ht⟩
              have h4 : op = 33 ∨ op = 34 ∨ op = 35 ∨ op = 36 := by omega
              rcases h4 with rfl | rfl | rfl | rfl
              · simp only [am_okI] at hk
                obtain ⟨hdg, hret2⟩ := hk
                unfold am_ret at hret
                split at hret <;> try (cases hret; done)
                all_goals try contradiction
                all_goals try omega
                rename_i v2 _
                cases hret
                exact am_MQ.of (W.iret hx hb (by rw [hr]; exact hret2) (hq (some (.int v2)) (fun y hy => by cases hy; trivial)) hS.2.2 hdg hlk)
              · simp only [am_okI] at hk
                obtain ⟨hdg, hret2⟩ := hk
                have hrt : ∃ rt, meth.sig.returnType = some rt ∧ ((∃ n, rt = .object n) ∨ ∃ t, rt = .array t) := by
                  rcases hret2 with ⟨n9, h9⟩ | ⟨n9, h9⟩
                  · exact ⟨_, by rw [hr]; exact h9, Or.inl ⟨n9, rfl⟩⟩
                  · exact ⟨_, by rw [hr]; exact h9, Or.inr ⟨n9, rfl⟩⟩
                obtain ⟨rt, hrt1, hrt2⟩ := hrt
                unfold am_ret at hret
                split at hret <;> try (cases hret; done)
                all_goals try contradiction
                all_goals try omega
                · rename_i v2 _
                  cases hret
                  exact am_MQ.of (W.aret hx hb hrt1 hrt2 (Or.inr ⟨_, rfl⟩) (hq (some (.ref v2)) (fun y hy => by cases hy; exact hos _ List.mem_cons_self)) hS.2.2 hdg hlk)
                · cases hret
                  exact am_MQ.of (W.aret hx hb hrt1 hrt2 (Or.inl rfl) (hq (some .null) (fun y hy => by cases hy; trivial)) hS.2.2 hdg hlk)
              · simp only [am_okI] at hk
                obtain ⟨hdg, hret2⟩ := hk
                unfold am_ret at hret
                split at hret <;> try (cases hret; done)
                all_goals try contradiction
                all_goals try omega
                cases hret
                exact am_MQ.of (W.vret hx hb (by rw [hr]; exact hret2) (hq none (fun y hy => by cases hy)) hS.2.2 hdg hlk)
              · simp only [am_okI] at hk
                obtain ⟨hdg, hret2⟩ := hk
                unfold am_ret at hret
                split at hret <;> try (cases hret; done)
                all_goals try contradiction
                all_goals try omega
                rename_i v2 _
                split at hret
                · rename_i hv2
                  cases hret
                  exact am_MQ.of (W.zret hx hb (by rw [hr]; exact hret2) (by rcases hv2 with rfl | rfl <;> decide) (hq (some (.int v2)) (fun y hy => by cases hy; trivial)) hS.2.2 hdg hlk)
                · cases hret
          · rw [if_neg h33] at hrun
            cases hd : am_do P.2.1 op a b k x nx tab d ls st S with
            | none => rw [hd] at hrun; cases hrun
            | some q =>
              rw [hd] at hrun
              obtain ⟨pc', ls', st', S1⟩ := q
              have hup0 := am_do_up hd
              have hup2 := am_run_up P _ _ _ _ _ _ _ _ _ hrun
              have hup : S1.2.1 ≤ c0 + mc ∧ S1.2.2 ≤ z0 + ms := ⟨by rw [hmc]; exact hup2.1, by rw [hms]; exact hup2.2.1⟩
              have kk : am_K p l e R s m args below meth c (am_MQ below (am_Qc em D cl A n0 ad0 o S') args s mc ms A) em D cl Zs A (P.2.2.1 M) c0 z0 ad S.1.length pc' ls' st' S1 := fun H' locs' cells' slots' ad' ca' tys' lsA' hag' hst' =>
                ih d M pc' ls' st' S1 o S' hrun p e R s m args below meth c H' locs' cells' slots' mc ms c0 z0 n0 A ad' ad0 ca' tys' lsA' act hst' hA hmc hms (Nat.le_trans hn0 hup0.2.2) (fun j hj => (hag' j (Nat.lt_of_lt_of_le hj hn0)).trans (hag j hj))
              match op, hk, hd with
              | 0, hk, hd => exact am_s0 act hk hd h kk
              | 1, hk, hd => exact am_s1 act hk hd h kk
              | 2, hk, hd => exact am_s2 act hk hd h kk
              | 3, hk, hd => exact am_s3 act hk hd h kk
              | 4, hk, hd => exact am_s4 act hk hd h kk
              | 5, hk, hd => exact am_s5 act hk hd h kk
              | 6, hk, hd => exact am_s6 act hk hd h kk
              | 7, hk, hd => exact am_s7 act hk hd h kk
              | 8, hk, hd => exact am_s8 act hk hd h kk
              | 9, hk, hd => exact am_s9 act hk hd h kk
              | 10, hk, hd => exact am_s10 act hk hd h kk
              | 11, hk, hd => exact am_s11 act hk hd h kk
              | 12, hk, hd => exact am_s12 act hk hd h kk
              | 13, hk, hd => exact am_s13 act hk hd h kk
              | 14, hk, hd => exact am_s14 act hk hd h kk
              | 15, hk, hd => exact am_s15 act hk hd h kk
              | 16, hk, hd => exact am_s16 act hk hd h hC hA hup hE kk
              | 17, hk, hd => exact am_s17 act hk hd h hC hA hup hE kk
              | 18, hk, hd => exact am_s18 act hk hd h kk
              | 19, hk, hd => exact am_s19 act hk hd h kk
              | 20, hk, hd => exact am_s20 act hk hd h hC hA hup hE kk
              | 21, hk, hd => exact am_s21 act hk hd h hC hA hup hE kk
              | 22, hk, hd => exact am_s22 act hk hd h hC hA hup hE kk
              | 23, hk, hd => exact am_s23 act hk hd h hC hA hup hE kk
              | 24, hk, hd => exact am_s24 act hk hd h hC hA hup hE kk
              | 25, hk, hd => exact am_s25 act hk hd h hC hA hup hE kk
              | 26, hk, hd => exact am_s26 act hk hd h hC hA hup hE kk
              | 27, hk, _ => exact hk.elim
              | 28, hk, _ => exact hk.elim
              | 29, hk, hd => exact am_s29 act hk hd h kk
              | 30, hk, hd => exact am_s30 act hk hd h hC hA hup hE kk
              | 31, hk, hd => exact am_s31 act hk hd h kk
              | 32, _, _ => exact absurd rfl h32
              | 33, _, _ => exact absurd ⟨by decide, by decide⟩ h33
              | 34, _, _ => exact absurd ⟨by decide, by decide⟩ h33
              | 35, _, _ => exact absurd ⟨by decide, by decide⟩ h33
              | 36, _, _ => exact absurd ⟨by decide, by decide⟩ h33
              | 37, _, _ => exact absurd rfl h37
              | 38, hk, hd => exact am_s38 act hk hd h hC hA hup hE kk
              | 39, hk, hd => exact am_s39 act hk hd h hC hA hup hE kk
              | 40, hk, hd => exact am_s40 act hk hd h hC hA hup hE kk
              | 41, hk, hd => exact am_s41 act hk hd h hC hA hup hE kk
              | 42, hk, hd => exact am_s42 act hk hd h hC hA hup hE kk
              | 43, hk, hd => exact am_s43 act hk hd h hC hA hup hE kk
              | 44, hk, hd => exact am_s44 act hk hd h hC hA hup hE kk
              | 45, hk, hd => exact am_s45 act hk hd h hC hA hup hE kk
              | n9 + 46, hk, _ => exact hk.elim
end AM6
end
