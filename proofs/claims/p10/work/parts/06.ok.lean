/-! WHAT THE TABLES AND THE BYTES MUST SAY OF A SMALL INSTRUCTION -/
abbrev am_Y : Type := Nat → MethodName × ByteArray × Option FieldType
abbrev am_AL : String := "java/util/ArrayList"
abbrev am_EE : String := "DEFAULTCAPACITY_EMPTY_ELEMENTDATA"
abbrev am_ED : String := "[Ljava/lang/Object;"
abbrev am_gC : MethodName := ⟨"java/lang/Object", "getClass", "()Ljava/lang/Class;"⟩
def am_cd (k : Nat) : Jvm.ClassFile.Cond := match k with
  | 0 => .eq
  | 1 => .ne
  | 2 => .lt
  | 3 => .ge
  | 4 => .gt
  | _ => .le
/-- a field's place: the link, and the class that lays it -/
def am_okF (cl : List vw_C) (Ts : List Jvm.Cond) (own : String) (idx a b : Nat) : Prop :=
  ∃ (C : String) (T : u_T) (N : Nat) (ref : String), cl[a]? = some (C, T, N) ∧ b < N ∧ Jvm.Cond.fieldLink own idx ref (T b).2.1 (T b).2.2.1 ∈ Ts ∧ (ref = (T b).1 ∨ Jvm.Cond.sameField ref (T b).1 (T b).2.1 (T b).2.2.1 ∈ Ts)
/-- what a field of the kind k (0 number, 1 reference, 2 truth) is by its descriptor -/
def am_okT (k : Nat) (desc : String) : Prop := match k with
  | 0 => parseFieldDescriptor desc = some .int
  | 1 => (∃ n, parseFieldDescriptor desc = some (.object n)) ∨ ∃ t, parseFieldDescriptor desc = some (.array t)
  | 2 => parseFieldDescriptor desc = some .boolean
  | _ => False
def am_ise : String := "java/lang/IllegalStateException"
/-- the method's code: without handlers, or with one, as the program has it -/
def am_okCd (P : am_P) (Y : am_Y) (Ts : List Jvm.Cond) (a : Nat) : Prop :=
  (Jvm.Cond.code (Y a).1 (Y a).2.1 (P.2.2.1 a) (Y a).2.2 ∈ Ts ∧ ∀ pc, P.2.2.2.1 a pc = none) ∨
  ∃ q : Nat × Nat × Nat × Nat, Jvm.Cond.codeWith (Y a).1 (Y a).2.1 (P.2.2.1 a) (Y a).2.2 [q] ∈ Ts ∧ (∀ pc, P.2.2.2.1 a pc = none → ¬ (q.1 ≤ pc ∧ pc < q.2.1)) ∧ q.2.2.2 ≠ 0 ∧ Jvm.Cond.classLink (Y a).1.cls q.2.2.2 am_ise ∈ Ts ∧
    ∀ pc h j, P.2.2.2.1 a pc = some (h, j) → q.1 ≤ pc ∧ pc < q.2.1 ∧ (∃ k : Fin 4, decode (Y a).2.1 q.2.2.1 = .ok (.astore_n k, 1) ∧ (k : Nat) = j) ∧ h = q.2.2.1 + 1 ∧ j < P.2.2.1 a
def am_okM (P : am_P) (Y : am_Y) (Ts : List Jvm.Cond) (a : Nat) : Prop :=
  am_okCd P Y Ts a ∧ Jvm.Cond.initialized (Y a).1.cls ∈ Ts ∧ ((Y a).1.cls ≠ "java/lang/invoke/MethodHandle" ∧ (Y a).1.cls ≠ "java/lang/invoke/VarHandle") ∧ plainFor (Y a).1 = true ∧ P.2.2.1 a ≤ 22
def am_okI (P : am_P) (Y : am_Y) (cl : List vw_C) (Ts : List Jvm.Cond) (M pc op a b c : Nat) (x : Int32) (nx : Nat) (tab : List (Int32 × Nat)) : Prop :=
  match op with
  | 0 => (∃ n, decode (Y M).2.1 pc = .ok (.iconst n, 1) ∧ Int32.ofInt n = x ∧ nx = pc + 1) ∨ (∃ n, decode (Y M).2.1 pc = .ok (.bipush n, 2) ∧ (Int8.ofInt n).toInt32 = x ∧ nx = pc + 2) ∨
      (∃ n, decode (Y M).2.1 pc = .ok (.sipush n, 3) ∧ (Int16.ofInt n).toInt32 = x ∧ nx = pc + 3) ∨ ∃ k, decode (Y M).2.1 pc = .ok (.ldc k, 2) ∧ Jvm.Cond.constant (Y M).1.cls k x ∈ Ts ∧ nx = pc + 2
  | 1 => (∃ k : Fin 4, decode (Y M).2.1 pc = .ok (.iload_n k, 1) ∧ (k : Nat) = a ∧ nx = pc + 1) ∨ (decode (Y M).2.1 pc = .ok (.iload a, 2) ∧ nx = pc + 2)
  | 2 => (∃ k : Fin 4, decode (Y M).2.1 pc = .ok (.aload_n k, 1) ∧ (k : Nat) = a ∧ nx = pc + 1) ∨ (decode (Y M).2.1 pc = .ok (.aload a, 2) ∧ nx = pc + 2)
  | 3 => (∃ k : Fin 4, decode (Y M).2.1 pc = .ok (.istore_n k, 1) ∧ (k : Nat) = a ∧ nx = pc + 1) ∨ (decode (Y M).2.1 pc = .ok (.istore a, 2) ∧ nx = pc + 2)
  | 4 => (∃ k : Fin 4, decode (Y M).2.1 pc = .ok (.astore_n k, 1) ∧ (k : Nat) = a ∧ nx = pc + 1) ∨ (decode (Y M).2.1 pc = .ok (.astore a, 2) ∧ nx = pc + 2)
  | 5 => ∃ n, decode (Y M).2.1 pc = .ok (.iinc a n, 3) ∧ Int32.ofInt n = x ∧ nx = pc + 3
  | 6 => decode (Y M).2.1 pc = .ok (.pop, 1) ∧ nx = pc + 1
  | 7 => decode (Y M).2.1 pc = .ok (.dup, 1) ∧ nx = pc + 1
  | 8 => decode (Y M).2.1 pc = .ok (.dup2, 1) ∧ nx = pc + 1
  | 9 => decode (Y M).2.1 pc = .ok (.dup_x1, 1) ∧ nx = pc + 1
  | 10 => nx = pc + 1 ∧ match a with
    | 0 => decode (Y M).2.1 pc = .ok (.iadd, 1)
    | 1 => decode (Y M).2.1 pc = .ok (.isub, 1)
    | 2 => decode (Y M).2.1 pc = .ok (.imul, 1)
    | 3 => decode (Y M).2.1 pc = .ok (.iand, 1)
    | 4 => decode (Y M).2.1 pc = .ok (.ior, 1)
    | 5 => decode (Y M).2.1 pc = .ok (.ishr, 1)
    | _ => False
  | 11 => decode (Y M).2.1 pc = .ok (.ineg, 1) ∧ nx = pc + 1
  | 12 => ∃ off, decode (Y M).2.1 pc = .ok (.ifCond (am_cd a) off, 3) ∧ (pc : Int) + off = (b : Int) ∧ nx = pc + 3 ∧ a ≤ 5
  | 13 => ∃ off, decode (Y M).2.1 pc = .ok (.if_icmp (am_cd a) off, 3) ∧ (pc : Int) + off = (b : Int) ∧ nx = pc + 3 ∧ a ≤ 5
  | 14 => ∃ off, decode (Y M).2.1 pc = .ok (.ifnull off, 3) ∧ (pc : Int) + off = (b : Int) ∧ nx = pc + 3
  | 15 => ∃ off, decode (Y M).2.1 pc = .ok (.ifnonnull off, 3) ∧ (pc : Int) + off = (b : Int) ∧ nx = pc + 3
  | 16 => ∃ off, decode (Y M).2.1 pc = .ok (.if_acmp .eq off, 3) ∧ (pc : Int) + off = (b : Int) ∧ nx = pc + 3
  | 17 => ∃ off, decode (Y M).2.1 pc = .ok (.if_acmp .ne off, 3) ∧ (pc : Int) + off = (b : Int) ∧ nx = pc + 3
  | 18 => ∃ off, decode (Y M).2.1 pc = .ok (.goto off, 3) ∧ (pc : Int) + off = (b : Int)
  | 19 => (∃ dflt lo hi offs len, decode (Y M).2.1 pc = .ok (.tableswitch dflt lo hi offs, len) ∧ (pc : Int) + dflt = (b : Int) ∧ (∀ y : Int32, y.toInt < lo ∨ hi < y.toInt → am_sw tab b y = b) ∧ ∀ y : Int32, ¬ y.toInt < lo → ¬ hi < y.toInt → ∃ off, offs[(y.toInt - lo).toNat]? = some off ∧ (pc : Int) + off = (am_sw tab b y : Int)) ∨
      ∃ dflt ps len, decode (Y M).2.1 pc = .ok (.lookupswitch dflt ps, len) ∧ (ps.toList.zip (ps.toList.drop 1)).all (fun (a, next) => a.1 < next.1) = true ∧ ∀ y : Int32, (pc : Int) + Op.lookupswitch.offset ps.toList dflt y.toInt = (am_sw tab b y : Int)
  | 20 => ∃ idx, decode (Y M).2.1 pc = .ok (.getfield idx, 3) ∧ nx = pc + 3 ∧ am_okF cl Ts (Y M).1.cls idx a b
  | 21 => ∃ idx, decode (Y M).2.1 pc = .ok (.putfield idx, 3) ∧ nx = pc + 3 ∧ am_okF cl Ts (Y M).1.cls idx a b ∧ ∀ C T N, cl[a]? = some (C, T, N) → am_okT (c % 4) (T b).2.2.1 ∧ ((T b).2.2.2 = false ∨ ((T b).2.2.2 = true ∧ (Y M).1.name = "<init>" ∧ (T b).1 = (Y M).1.cls))
  | 22 => ∃ idx C T N, decode (Y M).2.1 pc = .ok (.new idx, 3) ∧ nx = pc + 3 ∧ cl[a]? = some (C, T, N) ∧ Jvm.Cond.classLink (Y M).1.cls idx C ∈ Ts ∧ Jvm.Cond.instantiable C N ∈ Ts ∧ Jvm.Cond.initialized C ∈ Ts
  | 23 => nx = pc + 2 ∧ ((a = 0 ∧ decode (Y M).2.1 pc = .ok (.newarray .int, 2) ∧ Jvm.Cond.arrayClass .int ∈ Ts) ∨ (a = 1 ∧ decode (Y M).2.1 pc = .ok (.newarray .boolean, 2) ∧ Jvm.Cond.arrayClass .boolean ∈ Ts))
  | 24 => decode (Y M).2.1 pc = .ok (.arraylength, 1) ∧ nx = pc + 1
  | 25 => nx = pc + 1 ∧ ((a = 0 ∧ decode (Y M).2.1 pc = .ok (.iaload, 1)) ∨ (a = 1 ∧ decode (Y M).2.1 pc = .ok (.baload, 1)))
  | 26 => nx = pc + 1 ∧ ((a = 0 ∧ decode (Y M).2.1 pc = .ok (.iastore, 1)) ∨ (a = 1 ∧ decode (Y M).2.1 pc = .ok (.bastore, 1)))
  | 29 => decode (Y M).2.1 pc = .ok (.aconst_null, 1) ∧ nx = pc + 1
  | 30 => ∃ idx C T N, decode (Y M).2.1 pc = .ok (.checkcast idx, 3) ∧ nx = pc + 3 ∧ cl[a]? = some (C, T, N) ∧ Jvm.Cond.classLink (Y M).1.cls idx C ∈ Ts
  | 31 => ∃ idx, decode (Y M).2.1 pc = .ok (.invokespecial idx, 3) ∧ nx = pc + 3 ∧ Jvm.Cond.methodLink (Y M).1.cls idx Lib.objectInit ∈ Ts ∧ Jvm.Cond.instanceMethod Lib.objectInit ∈ Ts ∧ Jvm.Cond.code Lib.objectInit ⟨#[0xb1]⟩ 1 none ∈ Ts
  | 32 => ∃ idx, nx = pc + 3 ∧ am_okM P Y Ts a ∧ match c with
    | 0 => decode (Y M).2.1 pc = .ok (.invokestatic idx, 3) ∧ Jvm.Cond.code (Y a).1 (Y a).2.1 (P.2.2.1 a) (Y a).2.2 ∈ Ts ∧ Jvm.Cond.methodLink (Y M).1.cls idx (Y a).1 ∈ Ts ∧ Jvm.Cond.static (Y a).1 ∈ Ts ∧ ∀ sig, parseMethodDescriptor (Y a).1.desc = some sig → b = sig.parameters.length
    | 1 => decode (Y M).2.1 pc = .ok (.invokespecial idx, 3) ∧ Jvm.Cond.code (Y a).1 (Y a).2.1 (P.2.2.1 a) (Y a).2.2 ∈ Ts ∧ (Jvm.Cond.methodLink (Y M).1.cls idx (Y a).1 ∈ Ts ∨ ∃ host, Jvm.Cond.methodLinkNest (Y M).1.cls idx (Y a).1 host ∈ Ts) ∧ Jvm.Cond.instanceMethod (Y a).1 ∈ Ts ∧ (Y a).1.name = "<init>" ∧ (Y a).2.2 = none ∧ ∀ sig, parseMethodDescriptor (Y a).1.desc = some sig → b = sig.parameters.length + 1
    | k + 2 => ∃ C T N, cl[k]? = some (C, T, N) ∧ decode (Y M).2.1 pc = .ok (.invokevirtual idx, 3) ∧ Jvm.Cond.methodLink (Y M).1.cls idx (Y a).1 ∈ Ts ∧ Jvm.Cond.instanceMethod (Y a).1 ∈ Ts ∧ Jvm.Cond.selects C (Y a).1 (Y a).1 ∈ Ts ∧ ∀ sig, parseMethodDescriptor (Y a).1.desc = some sig → b = sig.parameters.length + 1
  | 33 => decode (Y M).2.1 pc = .ok (.ireturn, 1) ∧ (Y M).2.2 = some .int
  | 34 => decode (Y M).2.1 pc = .ok (.areturn, 1) ∧ ((∃ n, (Y M).2.2 = some (.object n)) ∨ ∃ t, (Y M).2.2 = some (.array t))
  | 35 => decode (Y M).2.1 pc = .ok (.return_, 1) ∧ (Y M).2.2 = none
  | 36 => decode (Y M).2.1 pc = .ok (.ireturn, 1) ∧ (Y M).2.2 = some .boolean
  | 37 => True
  | 38 => ∃ idx, decode (Y M).2.1 pc = .ok (.anewarray idx, 3) ∧ nx = pc + 3 ∧ Jvm.Cond.classLink (Y M).1.cls idx "java/lang/Object" ∈ Ts ∧ Jvm.Cond.arrayOver (.object "java/lang/Object") ∈ Ts
  | 39 => decode (Y M).2.1 pc = .ok (.aaload, 1) ∧ nx = pc + 1
  | 40 => decode (Y M).2.1 pc = .ok (.aastore, 1) ∧ nx = pc + 1 ∧ ∃ C T N, cl[a]? = some (C, T, N) ∧ Jvm.Cond.castable C "java/lang/Object" ∈ Ts
  | 41 => ∃ idx, decode (Y M).2.1 pc = .ok (.invokestatic idx, 3) ∧ nx = pc + 3 ∧ Jvm.Cond.methodLink (Y M).1.cls idx arraycopyName ∈ Ts ∧ Jvm.Cond.native arraycopyName ∈ Ts ∧ Jvm.Cond.static arraycopyName ∈ Ts ∧ Jvm.Cond.initialized "java/lang/System" ∈ Ts
  | 42 => ∃ idx, decode (Y M).2.1 pc = .ok (.invokestatic idx, 3) ∧ nx = pc + 3 ∧ Jvm.Cond.methodLink (Y M).1.cls idx arraycopyName ∈ Ts ∧ Jvm.Cond.native arraycopyName ∈ Ts ∧ Jvm.Cond.static arraycopyName ∈ Ts ∧ Jvm.Cond.initialized "java/lang/System" ∈ Ts ∧ ∃ C T N, cl[a]? = some (C, T, N) ∧ Jvm.Cond.castable C "java/lang/Object" ∈ Ts
  | 43 => ∃ idx, decode (Y M).2.1 pc = .ok (.getstatic idx, 3) ∧ nx = pc + 3 ∧ Jvm.Cond.fieldLink (Y M).1.cls idx am_AL am_EE am_ED ∈ Ts
  | 44 => ∃ idx, decode (Y M).2.1 pc = .ok (.invokevirtual idx, 3) ∧ nx = pc + 3 ∧ Jvm.Cond.methodLink (Y M).1.cls idx am_gC ∈ Ts ∧ Jvm.Cond.declares am_gC ∈ Ts ∧ Jvm.Cond.selects am_ED am_gC am_gC ∈ Ts ∧ Jvm.Cond.instanceMethod am_gC ∈ Ts ∧ Jvm.Cond.native am_gC ∈ Ts
  | 45 => ∃ idx, decode (Y M).2.1 pc = .ok (.ldc idx, 2) ∧ nx = pc + 2 ∧ Jvm.Cond.classLink (Y M).1.cls idx am_ED ∈ Ts
  | _ => False
/-- what the tables must say of a class -/
def am_okC (nb : Nat → List Value) (cl : List vw_C) (Ts : List Jvm.Cond) : Prop := ∀ (ci : Nat) (C : String) (T : u_T) (N : Nat), cl[ci]? = some (C, T, N) →
  (∀ w ∈ u_ws C T N, w ∈ Ts) ∧ (nb ci).length = N ∧ (∀ a, a < N → ∀ b, b < N → a ≠ b → (T a).2.1 ≠ (T b).2.1) ∧ (∀ v ∈ nb ci, v = .int 0 ∨ v = .null) ∧ ∃ ty : Nat → FieldType, (∀ k, k < N → parseFieldDescriptor (T k).2.2.1 = some (ty k)) ∧ ∀ j, j < N → defaultValue (ty j) = vp_V (nb ci) j
/-- the one handler of a method: it covers the place; its first instruction puts the reference into the local j, and the next one is at h -/
def am_Hn (P : am_P) (Y : am_Y) (Ts : List Jvm.Cond) (c : Code) (M pc h j : Nat) : Prop := ∃ x : ExceptionTableEntry, c.exceptionTable.toList = [x] ∧ covers x pc = true ∧ x.catchType ≠ 0 ∧ Jvm.Cond.classLink (Y M).1.cls x.catchType am_ise ∈ Ts ∧ (∃ k : Fin 4, decode (Y M).2.1 x.handlerPc = .ok (.astore_n k, 1) ∧ (k : Nat) = j) ∧ h = x.handlerPc + 1 ∧ j < P.2.2.1 M
/-- the method M's own frame: the code, the words, the room (frames d, cells mc, slots ms) -/
def am_Act (P : am_P) (Y : am_Y) (Ts : List Jvm.Cond) (p : Program) (R : Room) (s : State) (m : MethodId) (args : Array Value) (meth : Method) (c : Code) (M d mc ms : Nat) : Prop :=
  p.tables.exec = Jvm.exec ∧ c.code = (Y M).2.1 ∧ c.maxLocals = P.2.2.1 M ∧ s.vm.findClass (Y M).1.cls = some m.cls ∧ (∀ w ∈ Ts, w.before args s = true) ∧ meth.sig.returnType = (Y M).2.2 ∧ meth.locks = false ∧ meth.name = (Y M).1.name ∧
  R.frames = d ∧ R.cells = mc ∧ R.slots = ms ∧ R.locals = 41 * d ∧ (∀ pc, P.2.2.2.1 M pc = none → ∀ x ∈ c.exceptionTable.toList, covers x pc = false) ∧ ∀ pc h j, P.2.2.2.1 M pc = some (h, j) → am_Hn P Y Ts c M pc h j
/-- where the walk of a method stands: heap and cells, locals, counts -/
def am_St (em : Int64 → Nat) (D : va_G) (cl : List vw_C) (Zs : (Nat → Prop) → State → Heap → Prop) (A : Nat → Prop) (s : State) (H : Heap) (locs : List Loc) (cells slots : Nat) (ad : Nat → Nat) (ca : Nat → ClassId) (tys : List (ClassId × FieldType)) (lsA : Array Slot) (nL : Nat) (ls : am_V) (st : List Value) (S : am_S) (c0 z0 : Nat) : Prop :=
  am_Rl em D cl A s ad ca tys S.1 H ∧ va_S A s.heap H locs ∧ Zs A s s.heap ∧ am_lo em nL lsA ad ls ∧ am_okl S.1.length ls ∧ (∀ v ∈ st, am_okv S.1.length v) ∧ c0 + cells = S.2.1 ∧ z0 + slots = S.2.2
