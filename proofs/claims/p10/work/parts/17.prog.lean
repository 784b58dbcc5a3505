/-! THE PROGRAM: classes, methods, links (printed by wip/whole/gen13.py) -/
def am_at (l : List (Nat × am_I)) (pc : Nat) : Option am_I := match l with
  | [] => none
  | (k, i) :: r => if k = pc then some i else am_at r pc
def am_T0 : u_T := fun k => match k with
  | 0 => ("ChunkCode", "faults", "LChunkCode$Faults;", true)
  | 1 => ("ChunkCode", "words", "LChunkCode$Words;", true)
  | 2 => ("ChunkCode", "bodies", "LChunkCode$Bodies;", true)
  | 3 => ("ChunkCode", "reader", "LChunkCode$Reader;", true)
  | 4 => ("ChunkCode", "audit", "LChunkCode$Audit;", true)
  | _ => ("ChunkCode", "place", "I", false)
def am_T1 : u_T := fun k => match k with
  | 0 => ("ChunkCode$Faults", "kind", "I", false)
  | _ => ("ChunkCode$Faults", "word", "I", false)
def am_T2 : u_T := fun k => match k with
  | 0 => ("ChunkCode$Words", "faults", "LChunkCode$Faults;", true)
  | 1 => ("ChunkCode$Words", "row", "LChunkCode$Table;", true)
  | 2 => ("ChunkCode$Words", "next", "I", false)
  | _ => ("ChunkCode$Words", "levels", "I", false)
def am_T3 : u_T := fun k => match k with
  | 0 => ("ChunkCode$Table", "cells", "[I", false)
  | _ => ("ChunkCode$Table", "rows", "I", false)
def am_T4 : u_T := fun k => match k with
  | 0 => ("ChunkCode$Bodies", "kept", "Ljava/util/ArrayList;", true)
  | _ => ("ChunkCode$Bodies", "count", "I", false)
def am_T5 : u_T := fun k => match k with
  | 0 => ("java/util/ArrayList", "elementData", "[Ljava/lang/Object;", false)
  | 1 => ("java/util/ArrayList", "size", "I", false)
  | _ => ("java/util/AbstractList", "modCount", "I", false)
def am_T6 : u_T := fun k => match k with
  | 0 => ("ChunkCode$Reader", "words", "LChunkCode$Words;", true)
  | 1 => ("ChunkCode$Reader", "faults", "LChunkCode$Faults;", true)
  | 2 => ("ChunkCode$Reader", "scope", "LChunkCode$Scope;", true)
  | 3 => ("ChunkCode$Reader", "operators", "LChunkCode$Table;", true)
  | 4 => ("ChunkCode$Reader", "targets", "LChunkCode$Table;", true)
  | 5 => ("ChunkCode$Reader", "lastIsRow", "Z", false)
  | 6 => ("ChunkCode$Reader", "stepWord", "I", false)
  | _ => ("ChunkCode$Reader", "stepText", "I", false)
def am_T7 : u_T := fun k => match k with
  | 0 => ("ChunkCode$Scope", "jumps", "LChunkCode$Jumps;", true)
  | 1 => ("ChunkCode$Scope", "faults", "LChunkCode$Faults;", true)
  | 2 => ("ChunkCode$Scope", "bodies", "LChunkCode$Bodies;", true)
  | 3 => ("ChunkCode$Scope", "open", "Ljava/util/ArrayList;", true)
  | 4 => ("ChunkCode$Scope", "locals", "LChunkCode$Table;", true)
  | 5 => ("ChunkCode$Scope", "blocks", "LChunkCode$Table;", true)
  | 6 => ("ChunkCode$Scope", "now", "LChunkCode$Body;", false)
  | 7 => ("ChunkCode$Scope", "meaning", "I", false)
  | 8 => ("ChunkCode$Scope", "meantNumber", "I", false)
  | _ => ("ChunkCode$Scope", "meantConstant", "Z", false)
def am_T8 : u_T := fun k => match k with
  | 0 => ("ChunkCode$Body", "instructions", "LChunkCode$Table;", true)
  | 1 => ("ChunkCode$Body", "outers", "LChunkCode$Table;", true)
  | 2 => ("ChunkCode$Body", "number", "I", false)
  | 3 => ("ChunkCode$Body", "around", "I", false)
  | 4 => ("ChunkCode$Body", "names", "I", false)
  | 5 => ("ChunkCode$Body", "dots", "I", false)
  | 6 => ("ChunkCode$Body", "words", "I", false)
  | 7 => ("ChunkCode$Body", "most", "I", false)
  | 8 => ("ChunkCode$Body", "functionWord", "I", false)
  | 9 => ("ChunkCode$Body", "firstLocal", "I", false)
  | 10 => ("ChunkCode$Body", "firstLabel", "I", false)
  | 11 => ("ChunkCode$Body", "firstGoto", "I", false)
  | _ => ("ChunkCode$Body", "firstLoop", "I", false)
def am_T9 : u_T := fun k => match k with
  | 0 => ("ChunkCode$Jumps", "faults", "LChunkCode$Faults;", true)
  | 1 => ("ChunkCode$Jumps", "labels", "LChunkCode$Table;", true)
  | 2 => ("ChunkCode$Jumps", "gotos", "LChunkCode$Table;", true)
  | 3 => ("ChunkCode$Jumps", "loops", "LChunkCode$Table;", true)
  | _ => ("ChunkCode$Jumps", "breaks", "LChunkCode$Table;", true)
def am_T10 : u_T := fun k => match k with
  | _ => ("ChunkCode$Audit", "bodies", "LChunkCode$Bodies;", true)
def am_T11 : u_T := fun k => match k with
  | 0 => ("ChunkCodeModel", "n", "I", false)
  | 1 => ("ChunkCodeModel", "kinds", "[I", true)
  | 2 => ("ChunkCodeModel", "texts", "[I", true)
  | 3 => ("ChunkCodeModel", "place", "I", false)
  | 4 => ("ChunkCodeModel", "at", "I", false)
  | 5 => ("ChunkCodeModel", "levels", "I", false)
  | 6 => ("ChunkCodeModel", "fault", "I", false)
  | 7 => ("ChunkCodeModel", "wrongAt", "I", false)
  | 8 => ("ChunkCodeModel", "nameFault", "I", false)
  | 9 => ("ChunkCodeModel", "nameAt", "I", false)
  | 10 => ("ChunkCodeModel", "top", "I", false)
  | 11 => ("ChunkCodeModel", "goals", "[I", true)
  | 12 => ("ChunkCodeModel", "ones", "[I", true)
  | 13 => ("ChunkCodeModel", "twos", "[I", true)
  | 14 => ("ChunkCodeModel", "threes", "[I", true)
  | 15 => ("ChunkCodeModel", "values", "I", false)
  | 16 => ("ChunkCodeModel", "valueKinds", "[I", true)
  | 17 => ("ChunkCodeModel", "valueCodes", "[I", true)
  | 18 => ("ChunkCodeModel", "valueWords", "[I", true)
  | 19 => ("ChunkCodeModel", "listed", "I", false)
  | 20 => ("ChunkCodeModel", "waiting", "I", false)
  | 21 => ("ChunkCodeModel", "waitKinds", "[I", true)
  | 22 => ("ChunkCodeModel", "waitNumbers", "[I", true)
  | 23 => ("ChunkCodeModel", "waitWords", "[I", true)
  | 24 => ("ChunkCodeModel", "locals", "I", false)
  | 25 => ("ChunkCodeModel", "localTexts", "[I", true)
  | 26 => ("ChunkCodeModel", "localDepths", "[I", true)
  | 27 => ("ChunkCodeModel", "localIds", "[I", true)
  | 28 => ("ChunkCodeModel", "hidden", "[Z", true)
  | 29 => ("ChunkCodeModel", "constants", "[Z", true)
  | 30 => ("ChunkCodeModel", "closings", "[Z", true)
  | 31 => ("ChunkCodeModel", "ids", "I", false)
  | 32 => ("ChunkCodeModel", "depth", "I", false)
  | 33 => ("ChunkCodeModel", "functions", "[I", true)
  | 34 => ("ChunkCodeModel", "bases", "[I", true)
  | 35 => ("ChunkCodeModel", "firstLabels", "[I", true)
  | 36 => ("ChunkCodeModel", "firstGotos", "[I", true)
  | 37 => ("ChunkCodeModel", "blocks", "I", false)
  | 38 => ("ChunkCodeModel", "blockLocals", "[I", true)
  | 39 => ("ChunkCodeModel", "blockLabels", "[I", true)
  | 40 => ("ChunkCodeModel", "blockGotos", "[I", true)
  | 41 => ("ChunkCodeModel", "blockDepths", "[I", true)
  | 42 => ("ChunkCodeModel", "loops", "[Z", true)
  | 43 => ("ChunkCodeModel", "breaks", "[I", true)
  | 44 => ("ChunkCodeModel", "labels", "I", false)
  | 45 => ("ChunkCodeModel", "labelTexts", "[I", true)
  | 46 => ("ChunkCodeModel", "labelCodes", "[I", true)
  | 47 => ("ChunkCodeModel", "labelLocals", "[I", true)
  | 48 => ("ChunkCodeModel", "gotos", "I", false)
  | 49 => ("ChunkCodeModel", "gotoTexts", "[I", true)
  | 50 => ("ChunkCodeModel", "gotoWords", "[I", true)
  | 51 => ("ChunkCodeModel", "gotoCodes", "[I", true)
  | 52 => ("ChunkCodeModel", "gotoLocals", "[I", true)
  | 53 => ("ChunkCodeModel", "many", "I", false)
  | 54 => ("ChunkCodeModel", "arounds", "[I", true)
  | 55 => ("ChunkCodeModel", "names", "[I", true)
  | 56 => ("ChunkCodeModel", "dots", "[I", true)
  | 57 => ("ChunkCodeModel", "lengths", "[I", true)
  | 58 => ("ChunkCodeModel", "most", "[I", true)
  | 59 => ("ChunkCodeModel", "heads", "[I", true)
  | 60 => ("ChunkCodeModel", "codes", "[I", true)
  | 61 => ("ChunkCodeModel", "begins", "[I", true)
  | 62 => ("ChunkCodeModel", "outers", "I", false)
  | 63 => ("ChunkCodeModel", "outerOwners", "[I", true)
  | 64 => ("ChunkCodeModel", "outerIds", "[I", true)
  | 65 => ("ChunkCodeModel", "outerKinds", "[I", true)
  | 66 => ("ChunkCodeModel", "outerNumbers", "[I", true)
  | 67 => ("ChunkCodeModel", "outerCounts", "[I", true)
  | 68 => ("ChunkCodeModel", "size", "I", false)
  | 69 => ("ChunkCodeModel", "owners", "[I", true)
  | 70 => ("ChunkCodeModel", "ops", "[I", true)
  | 71 => ("ChunkCodeModel", "as", "[I", true)
  | 72 => ("ChunkCodeModel", "bs", "[I", true)
  | 73 => ("ChunkCodeModel", "ws", "[I", true)
  | 74 => ("ChunkCodeModel", "order", "[I", true)
  | 75 => ("ChunkCodeModel", "meant", "I", false)
  | _ => ("ChunkCodeModel", "latest", "I", false)
def am_cl : List vw_C := [("ChunkCode", am_T0, 6), ("ChunkCode$Faults", am_T1, 2), ("ChunkCode$Words", am_T2, 4), ("ChunkCode$Table", am_T3, 2), ("ChunkCode$Bodies", am_T4, 2), ("java/util/ArrayList", am_T5, 3), ("ChunkCode$Reader", am_T6, 8), ("ChunkCode$Scope", am_T7, 10), ("ChunkCode$Body", am_T8, 13), ("ChunkCode$Jumps", am_T9, 5), ("ChunkCode$Audit", am_T10, 1), ("ChunkCodeModel", am_T11, 77)]
def am_nbL : List (List Value) := [[.null, .null, .null, .null, .null, .int 0], [.int 0, .int 0], [.null, .null, .int 0, .int 0], [.null, .int 0], [.null, .int 0], [.null, .int 0, .int 0], [.null, .null, .null, .null, .null, .int 0, .int 0, .int 0], [.null, .null, .null, .null, .null, .null, .null, .int 0, .int 0, .int 0], [.null, .null, .int 0, .int 0, .int 0, .int 0, .int 0, .int 0, .int 0, .int 0, .int 0, .int 0, .int 0], [.null, .null, .null, .null, .null], [.null], [.int 0, .null, .null, .int 0, .int 0, .int 0, .int 0, .int 0, .int 0, .int 0, .int 0, .null, .null, .null, .null, .int 0, .null, .null, .null, .int 0, .int 0, .null, .null, .null, .int 0, .null, .null, .null, .null, .null, .null, .int 0, .int 0, .null, .null, .null, .null, .int 0, .null, .null, .null, .null, .null, .null, .int 0, .null, .null, .null, .int 0, .null, .null, .null, .null, .int 0, .null, .null, .null, .null, .null, .null, .null, .null, .int 0, .null, .null, .null, .null, .null, .int 0, .null, .null, .null, .null, .null, .null, .int 0, .int 0]]
def am_nb (k : Nat) : List Value := (am_nbL[k]?).getD []
def am_nmL : List String := ["ChunkCode", "ChunkCode$Faults", "ChunkCode$Words", "ChunkCode$Table", "ChunkCode$Bodies", "java/util/ArrayList", "java/util/AbstractList", "java/util/AbstractCollection", "ChunkCode$Reader", "ChunkCode$Scope", "ChunkCode$Body", "ChunkCode$Jumps", "ChunkCode$Audit", "jdk/internal/util/ArraysSupport", "java/lang/Math", "java/util/Arrays", "java/util/Objects", "jdk/internal/util/Preconditions", "ChunkCode$Kind", "ChunkCode$Op", "ChunkCodeModel", "ChunkCodeLaw"]
def am_nm (k : Nat) : String := (am_nmL[k]?).getD ""
/-- name, bytes, what it gives, the number of its class, how many locals, its instructions -/
def am_ML : List (MethodName × ByteArray × Option FieldType × Nat × Nat × List (Nat × am_I)) := [(⟨"ChunkCode", "<init>", "()V"⟩, prog_1_method_1_code, none, 0, 2, am_i0),
  (⟨"ChunkCode$Faults", "<init>", "()V"⟩, prog_5_method_1_code, none, 1, 1, am_i1),
  (⟨"ChunkCode$Words", "<init>", "(LChunkCode$Faults;)V"⟩, prog_12_method_1_code, none, 2, 2, am_i2),
  (⟨"ChunkCode$Table", "<init>", "()V"⟩, prog_11_method_1_code, none, 3, 1, am_i3),
  (⟨"ChunkCode$Bodies", "<init>", "()V"⟩, prog_3_method_1_code, none, 4, 1, am_i4),
  (⟨"java/util/ArrayList", "<init>", "()V"⟩, prog_26_method_2_code, none, 5, 1, am_i5),
  (⟨"java/util/AbstractList", "<init>", "()V"⟩, prog_25_method_1_code, none, 6, 1, am_i6),
  (⟨"java/util/AbstractCollection", "<init>", "()V"⟩, prog_24_method_1_code, none, 7, 1, am_i7),
  (⟨"ChunkCode$Reader", "<init>", "(LChunkCode$Words;LChunkCode$Faults;LChunkCode$Bodies;)V"⟩, prog_9_method_1_code, none, 8, 4, am_i8),
  (⟨"ChunkCode$Scope", "<init>", "(LChunkCode$Faults;LChunkCode$Bodies;)V"⟩, prog_10_method_1_code, none, 9, 3, am_i9),
  (⟨"ChunkCode$Body", "<init>", "()V"⟩, prog_4_method_1_code, none, 10, 1, am_i10),
  (⟨"ChunkCode$Jumps", "<init>", "(LChunkCode$Faults;)V"⟩, prog_6_method_1_code, none, 11, 2, am_i11),
  (⟨"ChunkCode$Audit", "<init>", "(LChunkCode$Bodies;)V"⟩, prog_2_method_1_code, none, 12, 2, am_i12),
  (⟨"ChunkCode$Bodies", "add", "()LChunkCode$Body;"⟩, prog_3_method_5_code, (some (.object "ChunkCode$Body")), 4, 2, am_i13),
  (⟨"java/util/ArrayList", "size", "()I"⟩, prog_26_method_8_code, (some .int), 5, 1, am_i14),
  (⟨"java/util/ArrayList", "add", "(Ljava/lang/Object;)Z"⟩, prog_26_method_25_code, (some .boolean), 5, 2, am_i15),
  (⟨"java/util/ArrayList", "add", "(Ljava/lang/Object;[Ljava/lang/Object;I)V"⟩, prog_26_method_24_code, none, 5, 4, am_i16),
  (⟨"java/util/ArrayList", "grow", "()[Ljava/lang/Object;"⟩, prog_26_method_7_code, (some (.array (.object "java/lang/Object"))), 5, 1, am_i17),
  (⟨"java/util/ArrayList", "grow", "(I)[Ljava/lang/Object;"⟩, prog_26_method_6_code, (some (.array (.object "java/lang/Object"))), 5, 4, am_i18),
  (⟨"jdk/internal/util/ArraysSupport", "newLength", "(III)I"⟩, prog_33_method_27_code, (some .int), 13, 4, am_i19),
  (⟨"java/lang/Math", "max", "(II)I"⟩, prog_20_method_65_code, (some .int), 14, 2, am_i20),
  (⟨"jdk/internal/util/ArraysSupport", "hugeLength", "(II)I"⟩, prog_33_method_28_code, (some .int), 13, 3, am_i21),
  (⟨"java/util/Arrays", "copyOf", "([Ljava/lang/Object;I)[Ljava/lang/Object;"⟩, prog_27_method_119_code, (some (.array (.object "java/lang/Object"))), 15, 2, am_i22),
  (⟨"java/util/Arrays", "copyOf", "([Ljava/lang/Object;ILjava/lang/Class;)[Ljava/lang/Object;"⟩, prog_27_method_120_code, (some (.array (.object "java/lang/Object"))), 15, 4, am_i23),
  (⟨"java/lang/Math", "min", "(II)I"⟩, prog_20_method_69_code, (some .int), 14, 2, am_i24),
  (⟨"java/util/ArrayList", "get", "(I)Ljava/lang/Object;"⟩, prog_26_method_20_code, (some (.object "java/lang/Object")), 5, 2, am_i25),
  (⟨"java/util/Objects", "checkIndex", "(II)I"⟩, prog_30_method_17_code, (some .int), 16, 2, am_i26),
  (⟨"jdk/internal/util/Preconditions", "checkIndex", "(IILjava/util/function/BiFunction;)I"⟩, prog_34_method_11_code, (some .int), 17, 3, am_i27),
  (⟨"java/util/ArrayList", "elementData", "(I)Ljava/lang/Object;"⟩, prog_26_method_18_code, (some (.object "java/lang/Object")), 5, 2, am_i28),
  (⟨"ChunkCode$Body", "reset", "(I)V"⟩, prog_4_method_2_code, none, 10, 2, am_i29),
  (⟨"ChunkCode$Table", "cut", "(I)V"⟩, prog_11_method_7_code, none, 3, 2, am_i30),
  (⟨"ChunkCode$Table", "add", "(IIII)I"⟩, prog_11_method_6_code, (some .int), 3, 6, am_i31),
  (⟨"java/util/Arrays", "copyOf", "([II)[I"⟩, prog_27_method_123_code, (some (.array .int)), 15, 3, am_i32),
  (⟨"ChunkCode", "word", "(II)I"⟩, prog_1_method_2_code, (some .int), 0, 3, am_i33),
  (⟨"ChunkCode$Kind", "isKnown", "(I)Z"⟩, prog_7_method_2_code, (some .boolean), 18, 1, am_i34),
  (⟨"ChunkCode$Words", "count", "()I"⟩, prog_12_method_3_code, (some .int), 2, 1, am_i35),
  (⟨"ChunkCode$Table", "rows", "()I"⟩, prog_11_method_2_code, (some .int), 3, 1, am_i36),
  (⟨"ChunkCode$Words", "add", "(II)I"⟩, prog_12_method_2_code, (some .int), 2, 3, am_i37),
  (⟨"ChunkCode", "compile", "()I"⟩, prog_1_method_3_code, (some .int), 0, 2, am_i38),
  (⟨"ChunkCode$Faults", "clear", "()V"⟩, prog_5_method_2_code, none, 1, 1, am_i39),
  (⟨"ChunkCode$Bodies", "clear", "()V"⟩, prog_3_method_3_code, none, 4, 1, am_i40),
  (⟨"ChunkCode$Reader", "chunk", "()V"⟩, prog_9_method_2_code, none, 8, 2, am_i41),
  (⟨"ChunkCode$Words", "rewind", "()V"⟩, prog_12_method_5_code, none, 2, 1, am_i42),
  (⟨"ChunkCode$Scope", "clear", "()V"⟩, prog_10_method_2_code, none, 9, 1, am_i43),
  (⟨"ChunkCode$Jumps", "clear", "()V"⟩, prog_6_method_2_code, none, 11, 1, am_i44),
  (⟨"java/util/ArrayList", "clear", "()V"⟩, prog_26_method_40_code, none, 5, 4, am_i45),
  (⟨"ChunkCode$Scope", "beginBody", "(I)LChunkCode$Body;"⟩, prog_10_method_4_code, (some (.object "ChunkCode$Body")), 9, 3, am_i46),
  (⟨"java/util/ArrayList", "isEmpty", "()Z"⟩, prog_26_method_9_code, (some .boolean), 5, 1, am_i47),
  (⟨"ChunkCode$Jumps", "labels", "()I"⟩, prog_6_method_3_code, (some .int), 11, 1, am_i48),
  (⟨"ChunkCode$Jumps", "gotos", "()I"⟩, prog_6_method_4_code, (some .int), 11, 1, am_i49),
  (⟨"ChunkCode$Jumps", "loops", "()I"⟩, prog_6_method_5_code, (some .int), 11, 1, am_i50),
  (⟨"ChunkCode$Scope", "openBlock", "()V"⟩, prog_10_method_6_code, none, 9, 1, am_i51),
  (⟨"ChunkCode$Reader", "block", "()V"⟩, prog_9_method_3_code, none, 8, 2, am_i52),
  (⟨"ChunkCode$Words", "kind", "()I"⟩, prog_12_method_7_code, (some .int), 2, 1, am_i53),
  (⟨"ChunkCode$Table", "get", "(II)I"⟩, prog_11_method_4_code, (some .int), 3, 3, am_i54),
  (⟨"ChunkCode$Words", "skip", "()I"⟩, prog_12_method_12_code, (some .int), 2, 2, am_i55),
  (⟨"ChunkCode$Kind", "closesLevel", "(I)Z"⟩, prog_7_method_4_code, (some .boolean), 18, 1, am_i56),
  (⟨"ChunkCode$Kind", "opensLevel", "(I)Z"⟩, prog_7_method_3_code, (some .boolean), 18, 1, am_i57),
  (⟨"ChunkCode$Faults", "refuse", "(II)V"⟩, prog_5_method_6_code, none, 1, 3, am_i58),
  (⟨"ChunkCode$Reader", "assignOrCall", "()V"⟩, prog_9_method_5_code, none, 8, 4, am_i59),
  (⟨"ChunkCode$Reader", "prefix", "()I"⟩, prog_9_method_40_code, (some .int), 8, 4, am_i60),
  (⟨"ChunkCode$Reader", "head", "()I"⟩, prog_9_method_41_code, (some .int), 8, 1, am_i61),
  (⟨"ChunkCode$Reader", "nameAlone", "()I"⟩, prog_9_method_42_code, (some .int), 8, 1, am_i62),
  (⟨"ChunkCode$Words", "at", "()I"⟩, prog_12_method_6_code, (some .int), 2, 1, am_i63),
  (⟨"ChunkCode$Words", "take", "(I)I"⟩, prog_12_method_11_code, (some .int), 2, 2, am_i64),
  (⟨"ChunkCode$Words", "need", "(I)V"⟩, prog_12_method_10_code, none, 2, 2, am_i65),
  (⟨"ChunkCode$Scope", "find", "(I)V"⟩, prog_10_method_18_code, none, 9, 3, am_i66),
  (⟨"ChunkCode$Scope", "visibleLocal", "(I)I"⟩, prog_10_method_19_code, (some .int), 9, 3, am_i67),
  (⟨"ChunkCode$Scope", "bringIn", "(I)I"⟩, prog_10_method_20_code, (some .int), 9, 6, am_i68),
  (⟨"ChunkCode$Body", "outerNumber", "(II)I"⟩, prog_4_method_4_code, (some .int), 10, 4, am_i69),
  (⟨"ChunkCode$Reader", "expression", "()V"⟩, prog_9_method_35_code, none, 8, 6, am_i70),
  (⟨"ChunkCode$Reader", "unaryOperators", "()V"⟩, prog_9_method_36_code, none, 8, 2, am_i71),
  (⟨"ChunkCode$Kind", "isUnary", "(I)Z"⟩, prog_7_method_6_code, (some .boolean), 18, 1, am_i72),
  (⟨"ChunkCode$Reader", "functionBody", "(IZ)V"⟩, prog_9_method_29_code, none, 8, 6, am_i73),
  (⟨"ChunkCode$Scope", "declare", "(III)V"⟩, prog_10_method_11_code, none, 9, 4, am_i74),
  (⟨"ChunkCode$Scope", "count", "()I"⟩, prog_10_method_10_code, (some .int), 9, 1, am_i75),
  (⟨"ChunkCode$Faults", "note", "(II)V"⟩, prog_5_method_5_code, none, 1, 3, am_i76),
  (⟨"ChunkCode$Reader", "bodyNames", "(LChunkCode$Body;)V"⟩, prog_9_method_30_code, none, 8, 5, am_i77),
  (⟨"ChunkCode$Reader", "emit", "(IIII)I"⟩, prog_9_method_50_code, (some .int), 8, 5, am_i78),
  (⟨"ChunkCode$Scope", "now", "()LChunkCode$Body;"⟩, prog_10_method_3_code, (some (.object "ChunkCode$Body")), 9, 1, am_i79),
  (⟨"ChunkCode$Scope", "endBody", "()V"⟩, prog_10_method_5_code, none, 9, 1, am_i80),
  (⟨"ChunkCode$Scope", "closeBlock", "()V"⟩, prog_10_method_9_code, none, 9, 2, am_i81),
  (⟨"ChunkCode$Scope", "before", "()I"⟩, prog_10_method_7_code, (some .int), 9, 1, am_i82),
  (⟨"ChunkCode$Jumps", "closeBlock", "(LChunkCode$Body;III)V"⟩, prog_6_method_9_code, none, 11, 8, am_i83),
  (⟨"ChunkCode$Jumps", "labelOf", "(II)I"⟩, prog_6_method_6_code, (some .int), 11, 4, am_i84),
  (⟨"ChunkCode$Jumps", "lead", "(LChunkCode$Body;II)V"⟩, prog_6_method_15_code, none, 11, 5, am_i85),
  (⟨"ChunkCode$Table", "set", "(III)V"⟩, prog_11_method_5_code, none, 3, 4, am_i86),
  (⟨"ChunkCode$Jumps", "keep", "(III)V"⟩, prog_6_method_16_code, none, 11, 4, am_i87),
  (⟨"ChunkCode$Jumps", "refuseGotos", "(I)V"⟩, prog_6_method_10_code, none, 11, 3, am_i88),
  (⟨"java/util/ArrayList", "remove", "(I)Ljava/lang/Object;"⟩, prog_26_method_29_code, (some (.object "java/lang/Object")), 5, 4, am_i89),
  (⟨"java/util/ArrayList", "fastRemove", "([Ljava/lang/Object;I)V"⟩, prog_26_method_39_code, none, 5, 4, am_i90),
  (⟨"ChunkCode$Reader", "table", "()V"⟩, prog_9_method_46_code, none, 8, 4, am_i91),
  (⟨"ChunkCode$Reader", "field", "(I)I"⟩, prog_9_method_47_code, (some .int), 8, 4, am_i92),
  (⟨"ChunkCode$Words", "kindAt", "(I)I"⟩, prog_12_method_8_code, (some .int), 2, 2, am_i93),
  (⟨"ChunkCode$Reader", "tableEnds", "()Z"⟩, prog_9_method_48_code, (some .boolean), 8, 2, am_i94),
  (⟨"ChunkCode$Reader", "isSeparator", "(I)Z"⟩, prog_9_method_49_code, (some .boolean), 8, 1, am_i95),
  (⟨"ChunkCode$Reader", "widen", "()V"⟩, prog_9_method_33_code, none, 8, 1, am_i96),
  (⟨"ChunkCode$Reader", "lastOp", "()I"⟩, prog_9_method_52_code, (some .int), 8, 1, am_i97),
  (⟨"ChunkCode$Reader", "here", "()I"⟩, prog_9_method_51_code, (some .int), 8, 1, am_i98),
  (⟨"ChunkCode$Reader", "keepCallFlags", "(II)V"⟩, prog_9_method_34_code, none, 8, 4, am_i99),
  (⟨"ChunkCode$Reader", "settle", "(I)V"⟩, prog_9_method_44_code, none, 8, 2, am_i100),
  (⟨"ChunkCode$Scope", "meaning", "()I"⟩, prog_10_method_15_code, (some .int), 9, 1, am_i101),
  (⟨"ChunkCode$Scope", "meantNumber", "()I"⟩, prog_10_method_16_code, (some .int), 9, 1, am_i102),
  (⟨"ChunkCode$Reader", "literal", "()Z"⟩, prog_9_method_39_code, (some .boolean), 8, 3, am_i103),
  (⟨"ChunkCode$Words", "textAt", "(I)I"⟩, prog_12_method_9_code, (some .int), 2, 2, am_i104),
  (⟨"ChunkCode$Reader", "binaryOperator", "(I)Z"⟩, prog_9_method_37_code, (some .boolean), 8, 5, am_i105),
  (⟨"ChunkCode$Kind", "rank", "(I)I"⟩, prog_7_method_8_code, (some .int), 18, 1, am_i106),
  (⟨"ChunkCode$Kind", "goesFromRight", "(I)Z"⟩, prog_7_method_7_code, (some .boolean), 18, 1, am_i107),
  (⟨"ChunkCode$Reader", "reduce", "(II)V"⟩, prog_9_method_38_code, none, 8, 6, am_i108),
  (⟨"ChunkCode$Body", "leadHere", "(II)V"⟩, prog_4_method_3_code, none, 10, 3, am_i109),
  (⟨"ChunkCode$Reader", "fieldStep", "()I"⟩, prog_9_method_43_code, (some .int), 8, 2, am_i110),
  (⟨"ChunkCode$Reader", "arguments", "(I)V"⟩, prog_9_method_45_code, none, 8, 5, am_i111),
  (⟨"ChunkCode$Reader", "list", "()I"⟩, prog_9_method_31_code, (some .int), 8, 4, am_i112),
  (⟨"ChunkCode$Reader", "addTarget", "(I)V"⟩, prog_9_method_6_code, none, 8, 2, am_i113),
  (⟨"ChunkCode$Reader", "refuseConstant", "(I)V"⟩, prog_9_method_7_code, none, 8, 2, am_i114),
  (⟨"ChunkCode$Scope", "meantConstant", "()Z"⟩, prog_10_method_17_code, (some .boolean), 9, 1, am_i115),
  (⟨"ChunkCode$Op", "setting", "(I)I"⟩, prog_8_method_2_code, (some .int), 19, 1, am_i116),
  (⟨"ChunkCode$Reader", "fit", "(II)V"⟩, prog_9_method_32_code, none, 8, 4, am_i117),
  (⟨"ChunkCode$Reader", "storeTargets", "(I)V"⟩, prog_9_method_8_code, none, 8, 5, am_i118),
  (⟨"ChunkCode$Reader", "label", "()V"⟩, prog_9_method_9_code, none, 8, 3, am_i119),
  (⟨"ChunkCode$Words", "atBlockEnd", "()Z"⟩, prog_12_method_13_code, (some .boolean), 2, 4, am_i120),
  (⟨"ChunkCode$Kind", "endsBlock", "(I)Z"⟩, prog_7_method_5_code, (some .boolean), 18, 1, am_i121),
  (⟨"ChunkCode$Jumps", "addLabel", "(IIIZ)V"⟩, prog_6_method_7_code, none, 11, 5, am_i122),
  (⟨"ChunkCode$Reader", "breakLoop", "()V"⟩, prog_9_method_10_code, none, 8, 3, am_i123),
  (⟨"ChunkCode$Jumps", "loopLocals", "()I"⟩, prog_6_method_12_code, (some .int), 11, 1, am_i124),
  (⟨"ChunkCode$Jumps", "addBreak", "(I)V"⟩, prog_6_method_13_code, none, 11, 2, am_i125),
  (⟨"ChunkCode$Reader", "goTo", "()V"⟩, prog_9_method_11_code, none, 8, 4, am_i126),
  (⟨"ChunkCode$Jumps", "addGoto", "(IIII)V"⟩, prog_6_method_8_code, none, 11, 5, am_i127),
  (⟨"ChunkCode$Reader", "innerBlock", "()V"⟩, prog_9_method_4_code, none, 8, 1, am_i128),
  (⟨"ChunkCode$Scope", "blockHasLocals", "()Z"⟩, prog_10_method_8_code, (some .boolean), 9, 1, am_i129),
  (⟨"ChunkCode$Reader", "whileLoop", "()V"⟩, prog_9_method_12_code, none, 8, 3, am_i130),
  (⟨"ChunkCode$Jumps", "openLoop", "(I)V"⟩, prog_6_method_11_code, none, 11, 2, am_i131),
  (⟨"ChunkCode$Jumps", "closeLoop", "(LChunkCode$Body;)V"⟩, prog_6_method_14_code, none, 11, 4, am_i132),
  (⟨"ChunkCode$Reader", "repeatLoop", "()V"⟩, prog_9_method_13_code, none, 8, 3, am_i133),
  (⟨"ChunkCode$Reader", "choice", "()V"⟩, prog_9_method_14_code, none, 8, 4, am_i134),
  (⟨"ChunkCode$Reader", "condition", "()I"⟩, prog_9_method_15_code, (some .int), 8, 1, am_i135),
  (⟨"ChunkCode$Reader", "nextPart", "(II)I"⟩, prog_9_method_16_code, (some .int), 8, 4, am_i136),
  (⟨"ChunkCode$Reader", "leadChainHere", "(I)V"⟩, prog_9_method_17_code, none, 8, 5, am_i137),
  (⟨"ChunkCode$Reader", "numberLoop", "()V"⟩, prog_9_method_18_code, none, 8, 6, am_i138),
  (⟨"ChunkCode$Reader", "numberLoopValues", "()V"⟩, prog_9_method_19_code, none, 8, 1, am_i139),
  (⟨"ChunkCode$Reader", "openHidden", "(III)I"⟩, prog_9_method_21_code, (some .int), 8, 6, am_i140),
  (⟨"ChunkCode$Scope", "markLatest", "(I)V"⟩, prog_10_method_12_code, none, 9, 3, am_i141),
  (⟨"ChunkCode$Reader", "loopBlock", "(II)V"⟩, prog_9_method_23_code, none, 8, 5, am_i142),
  (⟨"ChunkCode$Reader", "closeHidden", "()V"⟩, prog_9_method_22_code, none, 8, 1, am_i143),
  (⟨"ChunkCode$Reader", "listLoop", "()V"⟩, prog_9_method_20_code, none, 8, 8, am_i144),
  (⟨"ChunkCode$Reader", "functionStatement", "()V"⟩, prog_9_method_24_code, none, 8, 5, am_i145),
  (⟨"ChunkCode$Reader", "localFunction", "()V"⟩, prog_9_method_25_code, none, 8, 6, am_i146),
  (⟨"ChunkCode$Reader", "localNames", "()V"⟩, prog_9_method_26_code, none, 8, 8, am_i147),
  (⟨"ChunkCode$Reader", "attribute", "(Z)Z"⟩, prog_9_method_27_code, (some .boolean), 8, 5, am_i148),
  (⟨"ChunkCode$Scope", "reveal", "(I)V"⟩, prog_10_method_13_code, none, 9, 3, am_i149),
  (⟨"ChunkCode$Reader", "returnValues", "()V"⟩, prog_9_method_28_code, none, 8, 4, am_i150),
  (⟨"ChunkCode$Scope", "hasClosing", "()Z"⟩, prog_10_method_14_code, (some .boolean), 9, 2, am_i151),
  (⟨"ChunkCode$Faults", "kind", "()I"⟩, prog_5_method_3_code, (some .int), 1, 1, am_i152),
  (⟨"ChunkCode$Faults", "atWord", "()I"⟩, prog_5_method_4_code, (some .int), 1, 1, am_i153),
  (⟨"ChunkCode$Words", "clear", "()V"⟩, prog_12_method_4_code, none, 2, 1, am_i154),
  (⟨"ChunkCode$Bodies", "count", "()I"⟩, prog_3_method_2_code, (some .int), 4, 1, am_i155),
  (⟨"ChunkCode", "place", "()I"⟩, prog_1_method_4_code, (some .int), 0, 1, am_i156),
  (⟨"ChunkCode", "functions", "()I"⟩, prog_1_method_5_code, (some .int), 0, 1, am_i157),
  (⟨"ChunkCode", "function", "(II)I"⟩, prog_1_method_6_code, (some .int), 0, 4, am_i158),
  (⟨"ChunkCode$Bodies", "at", "(I)LChunkCode$Body;"⟩, prog_3_method_4_code, (some (.object "ChunkCode$Body")), 4, 2, am_i159),
  (⟨"ChunkCode", "outer", "(III)I"⟩, prog_1_method_7_code, (some .int), 0, 5, am_i160),
  (⟨"ChunkCode$Table", "has", "(I)Z"⟩, prog_11_method_3_code, (some .boolean), 3, 2, am_i161),
  (⟨"ChunkCode", "code", "(III)I"⟩, prog_1_method_8_code, (some .int), 0, 5, am_i162),
  (⟨"ChunkCode", "depth", "(I)I"⟩, prog_1_method_9_code, (some .int), 0, 3, am_i163),
  (⟨"ChunkCode$Audit", "greatest", "(LChunkCode$Body;)I"⟩, prog_2_method_2_code, (some .int), 12, 5, am_i164),
  (⟨"ChunkCode$Audit", "change", "(LChunkCode$Body;I)I"⟩, prog_2_method_5_code, (some .int), 12, 5, am_i165),
  (⟨"ChunkCode", "flaws", "()I"⟩, prog_1_method_10_code, (some .int), 0, 1, am_i166),
  (⟨"ChunkCode$Audit", "flawedOfAll", "()I"⟩, prog_2_method_3_code, (some .int), 12, 4, am_i167),
  (⟨"ChunkCode$Audit", "flawedOf", "(LChunkCode$Body;)I"⟩, prog_2_method_4_code, (some .int), 12, 7, am_i168),
  (⟨"ChunkCode$Audit", "leadsNowhere", "(LChunkCode$Body;I)Z"⟩, prog_2_method_6_code, (some .boolean), 12, 3, am_i169),
  (⟨"ChunkCode$Audit", "meansNothing", "(LChunkCode$Body;I)Z"⟩, prog_2_method_7_code, (some .boolean), 12, 4, am_i170),
  (⟨"ChunkCode$Audit", "isNoSlot", "(LChunkCode$Body;II)Z"⟩, prog_2_method_9_code, (some .boolean), 12, 3, am_i171),
  (⟨"ChunkCode$Audit", "isNotIn", "(LChunkCode$Body;I)Z"⟩, prog_2_method_8_code, (some .boolean), 12, 4, am_i172),
  (⟨"ChunkCodeModel", "<init>", "()V"⟩, prog_14_method_1_code, none, 20, 1, am_i173),
  (⟨"ChunkCodeModel", "word", "(II)I"⟩, prog_14_method_2_code, (some .int), 20, 4, am_i174),
  (⟨"ChunkCodeModel", "compile", "()I"⟩, prog_14_method_94_code, (some .int), 20, 2, am_i175),
  (⟨"ChunkCodeModel", "begin", "()V"⟩, prog_14_method_92_code, none, 20, 1, am_i176),
  (⟨"ChunkCodeModel", "beginBlock", "(Z)V"⟩, prog_14_method_18_code, none, 20, 2, am_i177),
  (⟨"ChunkCodeModel", "expectBlock", "()V"⟩, prog_14_method_31_code, none, 20, 1, am_i178),
  (⟨"ChunkCodeModel", "pile", "(IIII)V"⟩, prog_14_method_29_code, none, 20, 5, am_i179),
  (⟨"ChunkCodeModel", "run", "(IIII)V"⟩, prog_14_method_89_code, none, 20, 5, am_i180),
  (⟨"ChunkCodeModel", "runValue", "(III)V"⟩, prog_14_method_90_code, none, 20, 4, am_i181),
  (⟨"ChunkCodeModel", "expression", "(I)V"⟩, prog_14_method_46_code, none, 20, 3, am_i182),
  (⟨"ChunkCodeModel", "next", "()I"⟩, prog_14_method_4_code, (some .int), 20, 1, am_i183),
  (⟨"ChunkCodeModel", "kindAt", "(I)I"⟩, prog_14_method_3_code, (some .int), 20, 2, am_i184),
  (⟨"ChunkCodeModel", "isUnary", "(I)Z"⟩, prog_14_method_45_code, (some .boolean), 20, 1, am_i185),
  (⟨"ChunkCodeModel", "expect", "(I)V"⟩, prog_14_method_30_code, none, 20, 2, am_i186),
  (⟨"ChunkCodeModel", "simple", "(I)V"⟩, prog_14_method_48_code, none, 20, 3, am_i187),
  (⟨"ChunkCodeModel", "constant", "(II)V"⟩, prog_14_method_47_code, none, 20, 3, am_i188),
  (⟨"ChunkCodeModel", "put", "(IIII)I"⟩, prog_14_method_11_code, (some .int), 20, 5, am_i189),
  (⟨"ChunkCodeModel", "value", "(III)V"⟩, prog_14_method_33_code, none, 20, 4, am_i190),
  (⟨"ChunkCodeModel", "failName", "(II)V"⟩, prog_14_method_6_code, none, 20, 3, am_i191),
  (⟨"ChunkCodeModel", "table", "()V"⟩, prog_14_method_55_code, none, 20, 2, am_i192),
  (⟨"ChunkCodeModel", "enter", "(I)Z"⟩, prog_14_method_8_code, (some .boolean), 20, 2, am_i193),
  (⟨"ChunkCodeModel", "fail", "(I)Z"⟩, prog_14_method_5_code, (some .boolean), 20, 2, am_i194),
  (⟨"ChunkCodeModel", "body", "(ZI)V"⟩, prog_14_method_59_code, none, 20, 5, am_i195),
  (⟨"ChunkCodeModel", "declare", "(IZZI)V"⟩, prog_14_method_13_code, none, 20, 6, am_i196),
  (⟨"ChunkCodeModel", "count", "()I"⟩, prog_14_method_12_code, (some .int), 20, 1, am_i197),
  (⟨"ChunkCodeModel", "parameters", "(I)Z"⟩, prog_14_method_60_code, (some .boolean), 20, 3, am_i198),
  (⟨"ChunkCodeModel", "leave", "(I)Z"⟩, prog_14_method_9_code, (some .boolean), 20, 2, am_i199),
  (⟨"ChunkCodeModel", "take", "(I)Z"⟩, prog_14_method_7_code, (some .boolean), 20, 2, am_i200),
  (⟨"ChunkCodeModel", "primary", "()V"⟩, prog_14_method_49_code, none, 20, 1, am_i201),
  (⟨"ChunkCodeModel", "binary", "(I)V"⟩, prog_14_method_50_code, none, 20, 4, am_i202),
  (⟨"ChunkCodeModel", "left", "(I)I"⟩, prog_14_method_43_code, (some .int), 20, 1, am_i203),
  (⟨"ChunkCodeModel", "load", "()V"⟩, prog_14_method_35_code, none, 20, 4, am_i204),
  (⟨"ChunkCodeModel", "resolve", "(I)I"⟩, prog_14_method_17_code, (some .int), 20, 5, am_i205),
  (⟨"ChunkCodeModel", "find", "(I)I"⟩, prog_14_method_15_code, (some .int), 20, 3, am_i206),
  (⟨"ChunkCodeModel", "outerOf", "(IIII)I"⟩, prog_14_method_16_code, (some .int), 20, 7, am_i207),
  (⟨"ChunkCodeModel", "right", "(I)I"⟩, prog_14_method_44_code, (some .int), 20, 1, am_i208),
  (⟨"ChunkCodeModel", "loadAway", "()V"⟩, prog_14_method_36_code, none, 20, 1, am_i209),
  (⟨"ChunkCodeModel", "here", "()I"⟩, prog_14_method_10_code, (some .int), 20, 1, am_i210),
  (⟨"ChunkCodeModel", "suffix", "()V"⟩, prog_14_method_51_code, none, 20, 4, am_i211),
  (⟨"ChunkCodeModel", "args", "(I)V"⟩, prog_14_method_53_code, none, 20, 3, am_i212),
  (⟨"ChunkCodeModel", "call", "(III)V"⟩, prog_14_method_52_code, none, 20, 5, am_i213),
  (⟨"ChunkCodeModel", "expectList", "()V"⟩, prog_14_method_32_code, none, 20, 1, am_i214),
  (⟨"ChunkCodeModel", "argsEnd", "(II)V"⟩, prog_14_method_54_code, none, 20, 5, am_i215),
  (⟨"ChunkCodeModel", "isOpen", "()Z"⟩, prog_14_method_34_code, (some .boolean), 20, 1, am_i216),
  (⟨"ChunkCodeModel", "openAway", "()V"⟩, prog_14_method_37_code, none, 20, 2, am_i217),
  (⟨"ChunkCodeModel", "listEnd", "(I)V"⟩, prog_14_method_91_code, none, 20, 2, am_i218),
  (⟨"ChunkCodeModel", "item", "(I)V"⟩, prog_14_method_56_code, none, 20, 4, am_i219),
  (⟨"ChunkCodeModel", "separator", "(I)V"⟩, prog_14_method_57_code, none, 20, 2, am_i220),
  (⟨"ChunkCodeModel", "placed", "(II)V"⟩, prog_14_method_58_code, none, 20, 4, am_i221),
  (⟨"ChunkCodeModel", "bodyEnd", "(I)V"⟩, prog_14_method_62_code, none, 20, 4, am_i222),
  (⟨"ChunkCodeModel", "lostGotos", "()V"⟩, prog_14_method_61_code, none, 20, 2, am_i223),
  (⟨"ChunkCodeModel", "dropBlock", "()V"⟩, prog_14_method_21_code, none, 20, 3, am_i224),
  (⟨"ChunkCodeModel", "statements", "()V"⟩, prog_14_method_64_code, none, 20, 2, am_i225),
  (⟨"ChunkCodeModel", "isFollower", "(I)Z"⟩, prog_14_method_63_code, (some .boolean), 20, 1, am_i226),
  (⟨"ChunkCodeModel", "giveBack", "()V"⟩, prog_14_method_66_code, none, 20, 2, am_i227),
  (⟨"ChunkCodeModel", "statement", "(I)V"⟩, prog_14_method_65_code, none, 20, 3, am_i228),
  (⟨"ChunkCodeModel", "label", "(I)V"⟩, prog_14_method_28_code, none, 20, 6, am_i229),
  (⟨"ChunkCodeModel", "labelOf", "(I)I"⟩, prog_14_method_25_code, (some .int), 20, 3, am_i230),
  (⟨"ChunkCodeModel", "isAtEnd", "()Z"⟩, prog_14_method_27_code, (some .boolean), 20, 4, am_i231),
  (⟨"ChunkCodeModel", "before", "()I"⟩, prog_14_method_20_code, (some .int), 20, 1, am_i232),
  (⟨"ChunkCodeModel", "leaveLoop", "(I)V"⟩, prog_14_method_24_code, none, 20, 3, am_i233),
  (⟨"ChunkCodeModel", "go", "(II)V"⟩, prog_14_method_26_code, none, 20, 5, am_i234),
  (⟨"ChunkCodeModel", "loop", "(I)V"⟩, prog_14_method_73_code, none, 20, 4, am_i235),
  (⟨"ChunkCodeModel", "functionStatement", "(I)V"⟩, prog_14_method_83_code, none, 20, 6, am_i236),
  (⟨"ChunkCodeModel", "target", "(I)I"⟩, prog_14_method_41_code, (some .int), 20, 3, am_i237),
  (⟨"ChunkCodeModel", "local", "(I)V"⟩, prog_14_method_85_code, none, 20, 8, am_i238),
  (⟨"ChunkCodeModel", "keep", "(III)V"⟩, prog_14_method_42_code, none, 20, 4, am_i239),
  (⟨"ChunkCodeModel", "nils", "(I)V"⟩, prog_14_method_39_code, none, 20, 3, am_i240),
  (⟨"ChunkCodeModel", "localEnd", "(II)V"⟩, prog_14_method_86_code, none, 20, 6, am_i241),
  (⟨"ChunkCodeModel", "endBlock", "()V"⟩, prog_14_method_22_code, none, 20, 1, am_i242),
  (⟨"ChunkCodeModel", "hasLocals", "()Z"⟩, prog_14_method_19_code, (some .boolean), 20, 1, am_i243),
  (⟨"ChunkCodeModel", "whileDo", "(I)V"⟩, prog_14_method_70_code, none, 20, 3, am_i244),
  (⟨"ChunkCodeModel", "whileEnd", "(II)V"⟩, prog_14_method_71_code, none, 20, 3, am_i245),
  (⟨"ChunkCodeModel", "mendBreaks", "()V"⟩, prog_14_method_23_code, none, 20, 3, am_i246),
  (⟨"ChunkCodeModel", "repeatEnd", "(I)V"⟩, prog_14_method_72_code, none, 20, 3, am_i247),
  (⟨"ChunkCodeModel", "then", "(I)V"⟩, prog_14_method_81_code, none, 20, 3, am_i248),
  (⟨"ChunkCodeModel", "partEnd", "(II)V"⟩, prog_14_method_82_code, none, 20, 5, am_i249),
  (⟨"ChunkCodeModel", "mend", "(I)V"⟩, prog_14_method_40_code, none, 20, 4, am_i250),
  (⟨"ChunkCodeModel", "forSecond", "(I)V"⟩, prog_14_method_74_code, none, 20, 2, am_i251),
  (⟨"ChunkCodeModel", "forThird", "(I)V"⟩, prog_14_method_75_code, none, 20, 2, am_i252),
  (⟨"ChunkCodeModel", "forNumbers", "(I)V"⟩, prog_14_method_76_code, none, 20, 5, am_i253),
  (⟨"ChunkCodeModel", "hide", "(IZI)V"⟩, prog_14_method_14_code, none, 20, 5, am_i254),
  (⟨"ChunkCodeModel", "forNumbersEnd", "(III)V"⟩, prog_14_method_78_code, none, 20, 4, am_i255),
  (⟨"ChunkCodeModel", "unhide", "(I)V"⟩, prog_14_method_77_code, none, 20, 3, am_i256),
  (⟨"ChunkCodeModel", "each", "(III)V"⟩, prog_14_method_79_code, none, 20, 8, am_i257),
  (⟨"ChunkCodeModel", "adjust", "(II)V"⟩, prog_14_method_38_code, none, 20, 3, am_i258),
  (⟨"ChunkCodeModel", "eachEnd", "(III)V"⟩, prog_14_method_80_code, none, 20, 4, am_i259),
  (⟨"ChunkCodeModel", "functionEnd", "(III)V"⟩, prog_14_method_84_code, none, 20, 4, am_i260),
  (⟨"ChunkCodeModel", "given", "(I)V"⟩, prog_14_method_68_code, none, 20, 3, am_i261),
  (⟨"ChunkCodeModel", "mayTail", "()Z"⟩, prog_14_method_67_code, (some .boolean), 20, 3, am_i262),
  (⟨"ChunkCodeModel", "givenEnd", "()V"⟩, prog_14_method_69_code, none, 20, 1, am_i263),
  (⟨"ChunkCodeModel", "statementEnd", "(II)V"⟩, prog_14_method_87_code, none, 20, 8, am_i264),
  (⟨"ChunkCodeModel", "assign", "(II)V"⟩, prog_14_method_88_code, none, 20, 6, am_i265),
  (⟨"ChunkCodeModel", "sort", "()V"⟩, prog_14_method_93_code, none, 20, 3, am_i266),
  (⟨"ChunkCodeModel", "place", "()I"⟩, prog_14_method_95_code, (some .int), 20, 1, am_i267),
  (⟨"ChunkCodeModel", "functions", "()I"⟩, prog_14_method_96_code, (some .int), 20, 1, am_i268),
  (⟨"ChunkCodeModel", "function", "(II)I"⟩, prog_14_method_98_code, (some .int), 20, 3, am_i269),
  (⟨"ChunkCodeModel", "isFunction", "(I)Z"⟩, prog_14_method_97_code, (some .boolean), 20, 2, am_i270),
  (⟨"ChunkCodeModel", "outer", "(III)I"⟩, prog_14_method_99_code, (some .int), 20, 6, am_i271),
  (⟨"ChunkCodeModel", "code", "(III)I"⟩, prog_14_method_100_code, (some .int), 20, 5, am_i272),
  (⟨"ChunkCodeModel", "depth", "(I)I"⟩, prog_14_method_102_code, (some .int), 20, 6, am_i273),
  (⟨"ChunkCodeModel", "more", "(III)I"⟩, prog_14_method_101_code, (some .int), 20, 3, am_i274),
  (⟨"ChunkCodeModel", "flaws", "()I"⟩, prog_14_method_105_code, (some .int), 20, 8, am_i275),
  (⟨"ChunkCodeModel", "isRight", "(IIII)Z"⟩, prog_14_method_104_code, (some .boolean), 20, 6, am_i276),
  (⟨"ChunkCodeModel", "isIn", "(III)Z"⟩, prog_14_method_103_code, (some .boolean), 20, 3, am_i277),
  (⟨"ChunkCodeLaw", "law", "([I)Z"⟩, code, (some .boolean), 21, 4, am_i278)]
def am_mt (M : Nat) : MethodName × ByteArray × Option FieldType × Nat × Nat × List (Nat × am_I) := (am_ML[M]?).getD (⟨"", "", ""⟩, ByteArray.empty, none, 0, 0, [])
def am_YY : am_Y := fun M => ((am_mt M).1, (am_mt M).2.1, (am_mt M).2.2.1)
def am_hd (M pc : Nat) : Option (Nat × Nat) := if M = 38 ∧ 14 ≤ pc ∧ pc < 21 then some (25, 1) else none
def am_P0 : am_P := (fun M pc => am_at (am_mt M).2.2.2.2.2 pc, am_nb, fun M => (am_mt M).2.2.2.2.1, am_hd, (0, fun _ => 0))
def am_LF : List (List (Nat × Nat × Nat)) := [[(10, 0, 0), (21, 0, 1), (28, 0, 2), (37, 0, 3), (46, 0, 4), (54, 8, 5), (60, 8, 0), (99, 0, 5), (108, 8, 3), (111, 8, 4), (114, 8, 6), (116, 8, 7), (119, 8, 1), (125, 8, 8)], [(7, 1, 0), (13, 1, 1)], [(12, 2, 1), (18, 2, 0), (34, 2, 2), (38, 2, 3)], [(11, 3, 0), (15, 3, 1)], [(10, 4, 0), (16, 4, 1)], [(9, 5, 0), (48, 5, 1), (63, 5, 2)], [(7, 5, 2)], [], [(12, 6, 3), (18, 6, 4), (21, 6, 0), (25, 6, 1), (34, 6, 2), (54, 8, 5), (72, 8, 6), (176, 6, 6), (194, 6, 7), (212, 7, 0), (220, 8, 10), (242, 8, 12), (277, 8, 0), (327, 6, 5), (346, 8, 2), (349, 8, 4)], [(12, 7, 3), (21, 7, 4), (25, 7, 5), (31, 7, 6), (35, 7, 1), (39, 7, 2), (48, 7, 0), (70, 8, 2), (74, 8, 3), (77, 8, 8), (84, 8, 9), (90, 8, 10), (96, 8, 11), (102, 8, 12), (148, 8, 7), (160, 7, 7), (163, 7, 8), (166, 7, 9)], [(10, 8, 0), (16, 8, 1), (19, 8, 2), (23, 8, 3), (26, 8, 8), (29, 8, 4), (32, 8, 5), (35, 8, 6), (38, 8, 7), (41, 8, 9), (44, 8, 10), (47, 8, 11), (50, 8, 12)], [(10, 9, 1), (16, 9, 2), (19, 9, 3), (22, 9, 4), (25, 9, 0), (67, 8, 0)], [(7, 10, 0), (13, 8, 0), (64, 8, 7), (68, 8, 1), (78, 8, 3), (81, 8, 2)], [], [], [], [], [], [], [], [(7, 11, 1), (13, 11, 2), (17, 11, 11), (20, 11, 12), (23, 11, 13), (26, 11, 14), (30, 11, 16), (33, 11, 17), (36, 11, 18), (39, 11, 21), (42, 11, 22), (45, 11, 23), (48, 11, 25), (51, 11, 26), (54, 11, 27), (57, 11, 28), (61, 11, 29), (64, 11, 30), (67, 11, 33), (70, 11, 34), (73, 11, 35), (76, 11, 36), (79, 11, 38), (82, 11, 39), (85, 11, 40), (88, 11, 41), (91, 11, 42), (94, 11, 43), (97, 11, 45), (100, 11, 46), (103, 11, 47), (106, 11, 49), (109, 11, 50), (112, 11, 51), (115, 11, 52), (118, 11, 53), (122, 11, 54), (125, 11, 55), (128, 11, 56), (131, 11, 57), (134, 11, 58), (137, 11, 59), (140, 11, 60), (143, 11, 61), (146, 11, 63), (149, 11, 64), (152, 11, 65), (155, 11, 66), (158, 11, 67), (161, 11, 68), (164, 11, 69), (167, 11, 70), (170, 11, 71), (173, 11, 72), (176, 11, 73), (179, 11, 74), (182, 11, 0), (185, 11, 4), (192, 11, 6), (195, 11, 7), (198, 11, 10), (201, 11, 8), (204, 11, 9), (215, 11, 5), (221, 11, 32), (224, 11, 24), (234, 11, 31), (241, 11, 62), (247, 11, 75), (254, 11, 37), (257, 11, 44), (260, 11, 48), (293, 11, 15), (314, 11, 20), (361, 11, 19), (380, 11, 76), (525, 11, 3)], []]
def am_LD : List (Nat × Nat × Int32) := [(3, 19, 1048576), (13, 200, 2147483639), (20, 16, 65536), (20, 29, 32768)]
def am_LN : List (Nat × Nat × Nat) := [(0, 7, 1), (0, 16, 2), (0, 25, 4), (0, 32, 6), (0, 41, 10), (2, 9, 3), (4, 7, 5), (4, 28, 8), (8, 9, 3), (8, 29, 7), (9, 9, 5), (9, 18, 3), (9, 28, 8), (9, 43, 9), (10, 7, 3), (11, 7, 3), (21, 7, 0), (21, 10, 11)]
def am_LX : List (Nat × Nat × Nat) := [(4, 28, 8), (9, 28, 8)]
def am_LO : List (Nat × Nat) := [(0, 1), (1, 1), (2, 3), (3, 3), (4, 1), (7, 1), (8, 3), (9, 3), (10, 1), (11, 1), (12, 1), (20, 1)]
def am_LKc : List (List (Nat × Nat × Nat × Nat)) := [[(9, 1, 1, 1), (18, 2, 2, 1), (27, 4, 1, 1), (34, 8, 4, 1), (43, 12, 2, 1), (50, 13, 1, 6), (66, 31, 5, 5), (71, 34, 1, 0), (77, 35, 1, 4), (81, 37, 3, 4), (84, 39, 1, 3), (87, 40, 1, 6), (88, 41, 1, 8), (93, 152, 1, 3), (96, 153, 1, 3), (102, 154, 1, 4), (103, 155, 1, 6), (104, 159, 2, 6), (122, 36, 1, 5), (128, 161, 2, 5), (131, 54, 3, 5), (134, 164, 2, 12), (138, 167, 1, 12)], [], [(11, 3, 1, 1), (22, 31, 5, 5), (26, 36, 1, 5), (30, 30, 2, 5), (41, 54, 3, 5), (47, 58, 3, 3), (51, 65, 2, 4), (54, 55, 1, 4), (57, 56, 1, 0), (63, 57, 1, 0), (66, 93, 2, 4), (70, 121, 1, 0)], [(20, 32, 2, 0)], [(9, 5, 1, 1), (20, 14, 1, 7), (24, 25, 2, 7), (30, 10, 1, 1), (31, 15, 2, 7), (35, 29, 2, 10)], [(1, 6, 1, 1), (66, 22, 2, 0), (69, 18, 2, 7), (73, 19, 3, 0), (79, 20, 2, 0), (118, 26, 2, 0), (123, 28, 2, 7), (129, 17, 1, 7), (131, 16, 4, 7), (144, 90, 3, 7)], [(1, 7, 1, 1)], [], [(11, 3, 1, 1), (31, 9, 3, 1), (38, 42, 1, 4), (43, 43, 1, 9), (46, 30, 2, 5), (50, 46, 2, 9), (60, 52, 1, 8), (65, 65, 2, 4), (68, 35, 1, 4), (76, 78, 5, 8), (80, 80, 1, 9), (83, 53, 1, 4), (86, 55, 1, 4), (89, 59, 1, 8), (92, 119, 1, 8), (95, 123, 1, 8), (98, 126, 1, 8), (101, 128, 1, 8), (104, 64, 2, 4), (108, 130, 1, 8), (111, 133, 1, 8), (114, 134, 1, 8), (117, 63, 1, 4), (120, 93, 2, 4), (123, 138, 1, 8), (126, 144, 1, 8), (129, 145, 1, 8), (132, 146, 1, 8), (135, 147, 1, 8), (138, 150, 1, 8), (141, 51, 1, 9), (144, 129, 1, 9), (148, 82, 1, 9), (151, 81, 1, 9), (154, 60, 1, 8), (157, 99, 3, 8), (161, 36, 1, 5), (164, 113, 2, 8), (167, 112, 1, 8), (170, 117, 3, 8), (173, 118, 2, 8), (179, 114, 2, 8), (182, 101, 1, 9), (185, 116, 1, 0), (188, 102, 1, 9), (191, 31, 5, 5), (199, 58, 3, 3), (202, 115, 1, 9), (205, 76, 3, 3), (208, 54, 3, 5), (216, 79, 1, 9), (223, 84, 3, 11), (228, 98, 1, 8), (231, 75, 1, 9), (232, 120, 1, 4), (235, 122, 5, 11), (239, 50, 1, 11), (245, 124, 1, 11), (248, 125, 2, 11), (251, 127, 5, 11), (255, 70, 1, 8), (258, 131, 2, 11), (261, 109, 3, 10), (264, 132, 2, 11), (268, 135, 1, 8), (271, 136, 3, 8), (274, 137, 2, 8), (280, 139, 1, 8), (283, 140, 4, 8), (287, 142, 3, 8), (290, 143, 1, 8), (293, 74, 4, 9), (297, 141, 2, 9), (300, 104, 2, 4), (303, 62, 1, 8), (306, 100, 2, 8), (309, 110, 1, 8), (312, 73, 3, 8), (316, 148, 2, 8), (320, 149, 2, 9), (323, 121, 1, 0), (331, 97, 1, 8), (334, 151, 1, 9), (337, 86, 4, 5), (340, 96, 1, 8), (343, 77, 2, 8), (352, 71, 1, 8), (355, 91, 1, 8), (358, 103, 1, 8), (361, 105, 2, 8), (364, 108, 3, 8), (367, 72, 1, 0), (370, 106, 1, 0), (373, 107, 1, 0), (376, 61, 1, 8), (379, 111, 2, 8), (382, 66, 2, 9), (385, 92, 2, 8), (388, 95, 1, 0), (391, 94, 1, 8)], [(11, 5, 1, 1), (20, 3, 1, 1), (30, 10, 1, 1), (45, 11, 2, 1), (52, 44, 1, 11), (55, 45, 1, 7), (56, 30, 2, 5), (60, 13, 1, 6), (66, 47, 1, 7), (80, 36, 1, 5), (87, 48, 1, 11), (93, 49, 1, 11), (99, 50, 1, 11), (105, 15, 2, 7), (108, 51, 1, 9), (111, 81, 1, 9), (114, 88, 2, 11), (117, 14, 1, 7), (120, 89, 2, 7), (124, 25, 2, 7), (127, 31, 5, 5), (130, 54, 3, 5), (133, 75, 1, 9), (136, 82, 1, 9), (139, 83, 5, 11), (144, 76, 3, 3), (151, 20, 2, 0), (156, 86, 4, 5), (170, 67, 2, 9), (176, 68, 2, 9), (179, 69, 3, 10)], [(9, 3, 1, 1), (53, 30, 2, 5), (57, 36, 1, 5), (61, 86, 4, 5), (65, 54, 3, 5), (69, 31, 5, 5)], [(9, 3, 1, 1), (29, 30, 2, 5), (33, 36, 1, 5), (37, 54, 3, 5), (41, 31, 5, 5), (45, 84, 3, 11), (48, 85, 4, 11), (52, 87, 4, 11), (58, 76, 3, 3), (64, 109, 3, 10), (70, 86, 4, 5), (73, 24, 2, 0)], [(19, 36, 1, 5), (25, 165, 2, 0), (29, 20, 2, 0), (35, 155, 1, 6), (40, 159, 2, 6), (44, 168, 2, 12), (48, 54, 3, 5), (53, 169, 2, 0), (57, 170, 3, 12), (60, 171, 3, 0), (71, 161, 2, 5), (75, 172, 3, 12)], [(194, 20, 2, 0), (201, 21, 2, 0)], [], [(300, 23, 3, 0), (304, 24, 2, 0)], [(105, 27, 3, 0)], [], [], [], [(188, 184, 2, 13), (207, 183, 1, 13), (211, 194, 2, 13), (218, 200, 2, 13), (227, 197, 1, 13), (230, 191, 3, 13), (237, 196, 5, 13), (244, 206, 2, 13), (250, 207, 5, 13), (263, 243, 1, 13), (267, 232, 1, 13), (270, 189, 5, 13), (273, 224, 1, 13), (276, 210, 1, 13), (279, 230, 2, 13), (282, 231, 1, 13), (285, 179, 5, 13), (289, 186, 2, 13), (296, 205, 2, 13), (299, 204, 1, 13), (302, 216, 1, 13), (305, 217, 1, 13), (308, 209, 1, 13), (311, 240, 2, 13), (317, 203, 1, 0), (320, 185, 1, 0), (323, 187, 2, 13), (326, 190, 4, 13), (330, 188, 3, 13), (333, 192, 1, 13), (336, 193, 2, 13), (339, 195, 3, 13), (343, 201, 1, 13), (346, 208, 1, 0), (349, 212, 2, 13), (352, 213, 4, 13), (355, 199, 2, 13), (358, 214, 1, 13), (364, 220, 2, 13), (367, 177, 2, 13), (371, 198, 2, 13), (374, 178, 1, 13), (377, 223, 1, 13), (383, 226, 1, 0), (386, 227, 1, 13), (389, 228, 2, 13), (392, 229, 2, 13), (395, 233, 2, 13), (398, 234, 3, 13), (401, 235, 2, 13), (404, 236, 2, 13), (407, 238, 2, 13), (410, 262, 1, 13), (413, 242, 1, 13), (416, 246, 1, 13), (419, 253, 2, 13), (422, 254, 4, 13), (426, 256, 2, 13), (429, 258, 3, 13), (432, 250, 2, 13), (435, 237, 2, 13), (438, 239, 4, 13), (441, 241, 3, 13), (444, 181, 4, 13), (447, 225, 1, 13), (450, 244, 2, 13), (453, 245, 3, 13), (456, 247, 2, 13), (459, 248, 2, 13), (462, 249, 3, 13), (465, 251, 2, 13), (468, 252, 2, 13), (471, 255, 4, 13), (474, 257, 4, 13), (477, 259, 4, 13), (480, 260, 4, 13), (483, 261, 2, 13), (486, 263, 1, 13), (489, 264, 3, 13), (492, 265, 3, 13), (495, 182, 2, 13), (498, 202, 2, 13), (501, 211, 1, 13), (504, 215, 3, 13), (507, 218, 2, 13), (510, 219, 2, 13), (513, 221, 3, 13), (516, 222, 2, 13), (519, 176, 1, 13), (522, 180, 5, 13), (528, 266, 1, 13), (531, 270, 2, 13), (534, 274, 3, 0), (538, 277, 3, 0), (542, 276, 5, 13)], [(9, 0, 1, 1), (12, 173, 1, 1), (13, 33, 3, 2), (17, 174, 3, 13), (18, 38, 1, 2), (22, 175, 1, 13), (23, 156, 1, 2), (26, 267, 1, 13), (27, 157, 1, 2), (30, 268, 1, 13), (31, 158, 3, 2), (34, 269, 3, 13), (35, 160, 4, 2), (39, 271, 4, 13), (40, 162, 4, 2), (43, 272, 4, 13), (44, 163, 2, 2), (48, 273, 2, 13), (49, 166, 1, 2), (52, 275, 1, 13)]]
def am_LXO : List (Nat × Nat) := [(5, 7), (15, 2)]
def am_LAC : List (Nat × Nat) := [(5, 112), (15, 150)]
def am_LGS : List (Nat × Nat) := [(5, 39)]
def am_LGC : List (Nat × Nat) := [(15, 86)]
def am_LLM : List (Nat × Nat) := [(15, 110)]
def am_LL : am_Lk := (fun o => (am_LF[o]?).getD [], am_LD, am_LN, am_LX, am_LO, fun o => (am_LKc[o]?).getD [], am_LXO, am_LAC, am_LGS, am_LGC, am_LLM)
/-- every instruction of a method, held against its bytes -/
def am_ckM (M : Nat) : Bool := (am_mt M).2.2.2.2.2.all fun q => am_ck am_LL am_cl am_nm (am_mt M).2.2.2.1 (am_mt M).2.1 (am_mt M).2.2.1 (decide ((am_mt M).1.name = "<init>")) q.1 q.2.1 q.2.2.1 q.2.2.2.1 q.2.2.2.2.1 q.2.2.2.2.2.1 q.2.2.2.2.2.2.1 q.2.2.2.2.2.2.2
