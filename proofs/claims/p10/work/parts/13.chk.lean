/-! A PROGRAM THAT HOLDS THE SMALL INSTRUCTIONS AGAINST THE BYTES -/
/-- what the tables say of a call by its link -/
def am_okK (P : am_P) (Y : am_Y) (cl : List vw_C) (Ts : List Jvm.Cond) (own : String) (idx a b c : Nat) : Prop := am_okM P Y Ts a ∧ match c with
    | 0 => Jvm.Cond.code (Y a).1 (Y a).2.1 (P.2.2.1 a) (Y a).2.2 ∈ Ts ∧ Jvm.Cond.methodLink own idx (Y a).1 ∈ Ts ∧ Jvm.Cond.static (Y a).1 ∈ Ts ∧ ∀ sig, parseMethodDescriptor (Y a).1.desc = some sig → b = sig.parameters.length
    | 1 => Jvm.Cond.code (Y a).1 (Y a).2.1 (P.2.2.1 a) (Y a).2.2 ∈ Ts ∧ (Jvm.Cond.methodLink own idx (Y a).1 ∈ Ts ∨ ∃ host, Jvm.Cond.methodLinkNest own idx (Y a).1 host ∈ Ts) ∧ Jvm.Cond.instanceMethod (Y a).1 ∈ Ts ∧ (Y a).1.name = "<init>" ∧ (Y a).2.2 = none ∧ ∀ sig, parseMethodDescriptor (Y a).1.desc = some sig → b = sig.parameters.length + 1
    | k + 2 => ∃ C T N, cl[k]? = some (C, T, N) ∧ Jvm.Cond.methodLink own idx (Y a).1 ∈ Ts ∧ Jvm.Cond.instanceMethod (Y a).1 ∈ Ts ∧ Jvm.Cond.selects C (Y a).1 (Y a).1 ∈ Ts ∧ ∀ sig, parseMethodDescriptor (Y a).1.desc = some sig → b = sig.parameters.length + 1
def am_tbT (pc : Nat) (lo : Int) (offs : List Int) : List (Int32 × Nat) := match offs with
  | [] => []
  | o :: r => (Int32.ofInt lo, ((pc : Int) + o).toNat) :: am_tbT pc (lo + 1) r
def am_tbL (pc : Nat) (ps : List (Int × Int)) : List (Int32 × Nat) := ps.map fun q => (Int32.ofInt q.1, ((pc : Int) + q.2).toNat)
theorem am_inj {x : Int32} {lo : Int} (h1 : -2147483648 ≤ lo) (h2 : lo ≤ 2147483647) : x = Int32.ofInt lo ↔ x.toInt = lo := by
  have h3 : (Int32.ofInt lo).toInt = lo := Int32.toInt_ofInt_of_le (by simpa using h1) (by simp; omega)
  constructor
  · rintro rfl; exact h3
  · intro h; exact Int32.toInt_inj.mp (by rw [h, h3])
theorem am_swT {pc b : Nat} {x : Int32} : ∀ (offs : List Int) (lo : Int), -2147483648 ≤ lo → lo + offs.length ≤ 2147483648 → (∀ o ∈ offs, 0 ≤ (pc : Int) + o) →
    (x.toInt < lo ∨ lo + offs.length ≤ x.toInt → am_sw (am_tbT pc lo offs) b x = b) ∧ (¬ x.toInt < lo → x.toInt < lo + offs.length → ∃ off, offs[(x.toInt - lo).toNat]? = some off ∧ (pc : Int) + off = (am_sw (am_tbT pc lo offs) b x : Int)) := by
  intro offs
  induction offs with
  | nil => intro lo h1 h2 h3; refine ⟨fun _ => rfl, fun a c => ?_⟩; simp at c; omega
  | cons o r ih =>
    intro lo h1 h2 h3
    simp only [List.length_cons, Int.natCast_add, Int.cast_ofNat_Int] at h2 ⊢
    obtain ⟨i1, i2⟩ := ih (lo + 1) (by omega) (by omega) (fun o ho => h3 o (List.mem_cons_of_mem _ ho))
    simp only [am_tbT, am_sw]
    by_cases hx : x.toInt = lo
    · rw [if_pos ((am_inj h1 (by omega)).mpr hx)]
      refine ⟨fun q => by omega, fun _ _ => ⟨o, ?_, ?_⟩⟩
      · rw [hx]; simp
      · have := h3 o List.mem_cons_self
        omega
    · rw [if_neg (fun q => hx ((am_inj h1 (by omega)).mp q))]
      refine ⟨fun q => i1 (by omega), fun q1 q2 => ?_⟩
      obtain ⟨off, j1, j2⟩ := i2 (by omega) (by omega)
      refine ⟨off, ?_, j2⟩
      rw [show (x.toInt - lo).toNat = (x.toInt - (lo + 1)).toNat + 1 by omega]
      exact j1
theorem am_swL {pc b : Nat} {x : Int32} {dflt : Int} (hd : (pc : Int) + dflt = (b : Int)) : ∀ (ps : List (Int × Int)), (∀ q ∈ ps, -2147483648 ≤ q.1 ∧ q.1 ≤ 2147483647 ∧ 0 ≤ (pc : Int) + q.2) → (pc : Int) + Op.lookupswitch.offset ps dflt x.toInt = (am_sw (am_tbL pc ps) b x : Int) := by
  intro ps
  induction ps with
  | nil => intro _; exact hd
  | cons q r ih =>
    intro h
    obtain ⟨a, o⟩ := q
    obtain ⟨h1, h2, h3⟩ := h (a, o) List.mem_cons_self
    simp only [am_tbL, List.map_cons, am_sw]
    by_cases hx : x.toInt = a
    · rw [if_pos ((am_inj h1 h2).mpr hx), Op.lookupswitch.offset_cons, if_pos (by first | exact hx.symm | exact hx | simp [hx])]
      simp only at h3
      omega
    · have hne : ¬ x = Int32.ofInt a := fun q => hx ((am_inj h1 h2).mp q)
      rw [if_neg hne, lv_osw hne ((am_inj h1 h2).mp rfl)]
      exact ih fun q hq => h q (List.mem_cons_of_mem _ hq)
def am_okTb (k : Nat) (desc : String) : Bool := match k, parseFieldDescriptor desc with
  | 0, some .int => true
  | 1, some (.object _) => true
  | 1, some (.array _) => true
  | 2, some .boolean => true
  | _, _ => false
theorem am_okTb_ok {k : Nat} {desc : String} (h : am_okTb k desc = true) : am_okT k desc := by
  unfold am_okTb at h
  split at h
  · rename_i q; exact q
  · rename_i n q; exact Or.inl ⟨n, q⟩
  · rename_i n q; exact Or.inr ⟨n, q⟩
  · rename_i q; exact q
  · cases h
/-- the pool's links that were looked up, by the number of the class that has them -/
abbrev am_Lk : Type := (Nat → List (Nat × Nat × Nat)) × List (Nat × Nat × Int32) × List (Nat × Nat × Nat) × List (Nat × Nat × Nat) × List (Nat × Nat) × (Nat → List (Nat × Nat × Nat × Nat)) × List (Nat × Nat) × List (Nat × Nat) × List (Nat × Nat) × List (Nat × Nat) × List (Nat × Nat)
def am_LkOk (P : am_P) (Y : am_Y) (cl : List vw_C) (Ts : List Jvm.Cond) (nm : Nat → String) (L : am_Lk) : Prop :=
  (∀ oc, ∀ q ∈ L.1 oc, am_okF cl Ts (nm oc) q.1 q.2.1 q.2.2) ∧
  (∀ q ∈ L.2.1, Jvm.Cond.constant (nm q.1) q.2.1 q.2.2 ∈ Ts) ∧
  (∀ q ∈ L.2.2.1, ∃ C T N, cl[q.2.2]? = some (C, T, N) ∧ Jvm.Cond.classLink (nm q.1) q.2.1 C ∈ Ts ∧ Jvm.Cond.instantiable C N ∈ Ts ∧ Jvm.Cond.initialized C ∈ Ts) ∧
  (∀ q ∈ L.2.2.2.1, ∃ C T N, cl[q.2.2]? = some (C, T, N) ∧ Jvm.Cond.classLink (nm q.1) q.2.1 C ∈ Ts) ∧
  (∀ q ∈ L.2.2.2.2.1, Jvm.Cond.methodLink (nm q.1) q.2 Lib.objectInit ∈ Ts) ∧
  (∀ oc, ∀ q ∈ L.2.2.2.2.2.1 oc, am_okK P Y cl Ts (nm oc) q.1 q.2.1 q.2.2.1 q.2.2.2) ∧
  (∀ q ∈ L.2.2.2.2.2.2.1, Jvm.Cond.classLink (nm q.1) q.2 "java/lang/Object" ∈ Ts) ∧
  (∀ q ∈ L.2.2.2.2.2.2.2.1, Jvm.Cond.methodLink (nm q.1) q.2 arraycopyName ∈ Ts) ∧
  (∀ q ∈ L.2.2.2.2.2.2.2.2.1, Jvm.Cond.fieldLink (nm q.1) q.2 am_AL am_EE am_ED ∈ Ts) ∧
  (∀ q ∈ L.2.2.2.2.2.2.2.2.2.1, Jvm.Cond.methodLink (nm q.1) q.2 am_gC ∈ Ts) ∧
  (∀ q ∈ L.2.2.2.2.2.2.2.2.2.2, Jvm.Cond.classLink (nm q.1) q.2 am_ED ∈ Ts)
/-- words without a link of a pool -/
def am_Gl (Ts : List Jvm.Cond) : Prop := Jvm.Cond.arrayClass .int ∈ Ts ∧ Jvm.Cond.arrayClass .boolean ∈ Ts ∧ Jvm.Cond.instanceMethod Lib.objectInit ∈ Ts ∧ Jvm.Cond.code Lib.objectInit ⟨#[0xb1]⟩ 1 none ∈ Ts ∧ Jvm.Cond.arrayOver (.object "java/lang/Object") ∈ Ts ∧ Jvm.Cond.native arraycopyName ∈ Ts ∧ Jvm.Cond.static arraycopyName ∈ Ts ∧ Jvm.Cond.initialized "java/lang/System" ∈ Ts ∧
  Jvm.Cond.declares am_gC ∈ Ts ∧ Jvm.Cond.selects am_ED am_gC am_gC ∈ Ts ∧ Jvm.Cond.instanceMethod am_gC ∈ Ts ∧ Jvm.Cond.native am_gC ∈ Ts ∧ Jvm.Cond.castable "ChunkCode$Body" "java/lang/Object" ∈ Ts
def am_m3 (l : List (Nat × Nat × Nat)) (i a b : Nat) : Bool := l.any fun q => Nat.beq q.1 i && Nat.beq q.2.1 a && Nat.beq q.2.2 b
def am_m4 (l : List (Nat × Nat × Nat × Nat)) (i a b c : Nat) : Bool := l.any fun q => Nat.beq q.1 i && Nat.beq q.2.1 a && Nat.beq q.2.2.1 b && Nat.beq q.2.2.2 c
theorem am_m3_ok {l : List (Nat × Nat × Nat)} {i a b : Nat} (h : am_m3 l i a b = true) : (i, a, b) ∈ l := by
  obtain ⟨q, hq, h⟩ := List.any_eq_true.mp h
  simp only [Bool.and_eq_true] at h
  obtain ⟨⟨h1, h2⟩, h3⟩ := h
  rw [← Nat.eq_of_beq_eq_true h1, ← Nat.eq_of_beq_eq_true h2, ← Nat.eq_of_beq_eq_true h3]
  exact hq
theorem am_m4_ok {l : List (Nat × Nat × Nat × Nat)} {i a b c : Nat} (h : am_m4 l i a b c = true) : (i, a, b, c) ∈ l := by
  obtain ⟨q, hq, h⟩ := List.any_eq_true.mp h
  simp only [Bool.and_eq_true] at h
  obtain ⟨⟨⟨h1, h2⟩, h3⟩, h4⟩ := h
  rw [← Nat.eq_of_beq_eq_true h1, ← Nat.eq_of_beq_eq_true h2, ← Nat.eq_of_beq_eq_true h3, ← Nat.eq_of_beq_eq_true h4]
  exact hq
def am_ck (L : am_Lk) (cl : List vw_C) (nm : Nat → String) (oc : Nat) (cc : ByteArray) (ret : Option FieldType) (ini : Bool) (pc op a b c : Nat) (x : Int32) (nx : Nat) (tab : List (Int32 × Nat)) : Bool :=
  match op with
  | 0 => match decode cc pc with
    | .ok (.iconst n, 1) => decide (Int32.ofInt n = x) && decide (nx = pc + 1)
    | .ok (.bipush n, 2) => decide ((Int8.ofInt n).toInt32 = x) && decide (nx = pc + 2)
    | .ok (.sipush n, 3) => decide ((Int16.ofInt n).toInt32 = x) && decide (nx = pc + 3)
    | .ok (.ldc k, 2) => decide ((oc, k, x) ∈ L.2.1) && decide (nx = pc + 2)
    | _ => false
  | 1 => match decode cc pc with
    | .ok (.iload_n k, 1) => decide ((k : Nat) = a) && decide (nx = pc + 1)
    | .ok (.iload k, 2) => decide (k = a) && decide (nx = pc + 2)
    | _ => false
  | 2 => match decode cc pc with
    | .ok (.aload_n k, 1) => decide ((k : Nat) = a) && decide (nx = pc + 1)
    | .ok (.aload k, 2) => decide (k = a) && decide (nx = pc + 2)
    | _ => false
  | 3 => match decode cc pc with
    | .ok (.istore_n k, 1) => decide ((k : Nat) = a) && decide (nx = pc + 1)
    | .ok (.istore k, 2) => decide (k = a) && decide (nx = pc + 2)
    | _ => false
  | 4 => match decode cc pc with
    | .ok (.astore_n k, 1) => decide ((k : Nat) = a) && decide (nx = pc + 1)
    | .ok (.astore k, 2) => decide (k = a) && decide (nx = pc + 2)
    | _ => false
  | 5 => match decode cc pc with
    | .ok (.iinc k n, 3) => decide (k = a) && decide (Int32.ofInt n = x) && decide (nx = pc + 3)
    | _ => false
  | 6 => decide (decode cc pc = .ok (.pop, 1)) && decide (nx = pc + 1)
  | 7 => decide (decode cc pc = .ok (.dup, 1)) && decide (nx = pc + 1)
  | 8 => decide (decode cc pc = .ok (.dup2, 1)) && decide (nx = pc + 1)
  | 9 => decide (decode cc pc = .ok (.dup_x1, 1)) && decide (nx = pc + 1)
  | 10 => decide (nx = pc + 1) && match a with
    | 0 => decide (decode cc pc = .ok (.iadd, 1))
    | 1 => decide (decode cc pc = .ok (.isub, 1))
    | 2 => decide (decode cc pc = .ok (.imul, 1))
    | 3 => decide (decode cc pc = .ok (.iand, 1))
    | 4 => decide (decode cc pc = .ok (.ior, 1))
    | 5 => decide (decode cc pc = .ok (.ishr, 1))
    | _ => false
  | 11 => decide (decode cc pc = .ok (.ineg, 1)) && decide (nx = pc + 1)
  | 12 => match decode cc pc with
    | .ok (.ifCond q off, 3) => decide (q = am_cd a) && decide ((pc : Int) + off = (b : Int)) && decide (nx = pc + 3) && decide (a ≤ 5)
    | _ => false
  | 13 => match decode cc pc with
    | .ok (.if_icmp q off, 3) => decide (q = am_cd a) && decide ((pc : Int) + off = (b : Int)) && decide (nx = pc + 3) && decide (a ≤ 5)
    | _ => false
  | 14 => match decode cc pc with
    | .ok (.ifnull off, 3) => decide ((pc : Int) + off = (b : Int)) && decide (nx = pc + 3)
    | _ => false
  | 15 => match decode cc pc with
    | .ok (.ifnonnull off, 3) => decide ((pc : Int) + off = (b : Int)) && decide (nx = pc + 3)
    | _ => false
  | 16 => match decode cc pc with
    | .ok (.if_acmp .eq off, 3) => decide ((pc : Int) + off = (b : Int)) && decide (nx = pc + 3)
    | _ => false
  | 17 => match decode cc pc with
    | .ok (.if_acmp .ne off, 3) => decide ((pc : Int) + off = (b : Int)) && decide (nx = pc + 3)
    | _ => false
  | 18 => match decode cc pc with
    | .ok (.goto off, 3) => decide ((pc : Int) + off = (b : Int))
    | _ => false
  | 19 => match decode cc pc with
    | .ok (.tableswitch dflt lo hi offs, _) => decide ((pc : Int) + dflt = (b : Int)) && decide (tab = am_tbT pc lo offs.toList) && decide (hi + 1 = lo + offs.toList.length) && decide (-2147483648 ≤ lo) && decide (hi ≤ 2147483647) && offs.toList.all (fun o => decide (0 ≤ (pc : Int) + o))
    | .ok (.lookupswitch dflt ps, _) => decide ((pc : Int) + dflt = (b : Int)) && decide (tab = am_tbL pc ps.toList) && (ps.toList.zip (ps.toList.drop 1)).all (fun (a, next) => a.1 < next.1) && ps.toList.all (fun q => decide (-2147483648 ≤ q.1) && decide (q.1 ≤ 2147483647) && decide (0 ≤ (pc : Int) + q.2))
    | _ => false
  | 20 => match decode cc pc with
    | .ok (.getfield idx, 3) => decide (nx = pc + 3) && am_m3 (L.1 oc) idx a b
    | _ => false
  | 21 => match decode cc pc with
    | .ok (.putfield idx, 3) => decide (nx = pc + 3) && am_m3 (L.1 oc) idx a b && match cl[a]? with
      | some q => am_okTb (c % 4) (q.2.1 b).2.2.1 && (!(q.2.1 b).2.2.2 || (ini && decide ((q.2.1 b).1 = nm oc)))
      | none => false
    | _ => false
  | 22 => match decode cc pc with
    | .ok (.new idx, 3) => decide (nx = pc + 3) && decide ((oc, idx, a) ∈ L.2.2.1)
    | _ => false
  | 23 => decide (nx = pc + 2) && match a with
    | 0 => decide (decode cc pc = .ok (.newarray .int, 2))
    | 1 => decide (decode cc pc = .ok (.newarray .boolean, 2))
    | _ => false
  | 24 => decide (decode cc pc = .ok (.arraylength, 1)) && decide (nx = pc + 1)
  | 25 => decide (nx = pc + 1) && match a with
    | 0 => decide (decode cc pc = .ok (.iaload, 1))
    | 1 => decide (decode cc pc = .ok (.baload, 1))
    | _ => false
  | 26 => decide (nx = pc + 1) && match a with
    | 0 => decide (decode cc pc = .ok (.iastore, 1))
    | 1 => decide (decode cc pc = .ok (.bastore, 1))
    | _ => false
  | 29 => decide (decode cc pc = .ok (.aconst_null, 1)) && decide (nx = pc + 1)
  | 30 => match decode cc pc with
    | .ok (.checkcast idx, 3) => decide (nx = pc + 3) && decide ((oc, idx, a) ∈ L.2.2.2.1)
    | _ => false
  | 31 => match decode cc pc with
    | .ok (.invokespecial idx, 3) => decide (nx = pc + 3) && decide ((oc, idx) ∈ L.2.2.2.2.1)
    | _ => false
  | 32 => decide (nx = pc + 3) && match c, decode cc pc with
    | 0, .ok (.invokestatic idx, 3) => am_m4 (L.2.2.2.2.2.1 oc) idx a b c
    | 1, .ok (.invokespecial idx, 3) => am_m4 (L.2.2.2.2.2.1 oc) idx a b c
    | _ + 2, .ok (.invokevirtual idx, 3) => am_m4 (L.2.2.2.2.2.1 oc) idx a b c
    | _, _ => false
  | 33 => decide (decode cc pc = .ok (.ireturn, 1)) && decide (ret = some .int)
  | 34 => decide (decode cc pc = .ok (.areturn, 1)) && match ret with
    | some (.object _) => true
    | some (.array _) => true
    | _ => false
  | 35 => decide (decode cc pc = .ok (.return_, 1)) && decide (ret = none)
  | 36 => decide (decode cc pc = .ok (.ireturn, 1)) && decide (ret = some .boolean)
  | 37 => true
  | 38 => match decode cc pc with
    | .ok (.anewarray idx, 3) => decide (nx = pc + 3) && decide ((oc, idx) ∈ L.2.2.2.2.2.2.1)
    | _ => false
  | 39 => decide (decode cc pc = .ok (.aaload, 1)) && decide (nx = pc + 1)
  | 40 => decide (decode cc pc = .ok (.aastore, 1)) && decide (nx = pc + 1) && match cl[a]? with
    | some q => decide (q.1 = "ChunkCode$Body")
    | none => false
  | 41 => match decode cc pc with
    | .ok (.invokestatic idx, 3) => decide (nx = pc + 3) && decide ((oc, idx) ∈ L.2.2.2.2.2.2.2.1)
    | _ => false
  | 42 => match decode cc pc with
    | .ok (.invokestatic idx, 3) => decide (nx = pc + 3) && decide ((oc, idx) ∈ L.2.2.2.2.2.2.2.1) && match cl[a]? with
      | some q => decide (q.1 = "ChunkCode$Body")
      | none => false
    | _ => false
  | 43 => match decode cc pc with
    | .ok (.getstatic idx, 3) => decide (nx = pc + 3) && decide ((oc, idx) ∈ L.2.2.2.2.2.2.2.2.1)
    | _ => false
  | 44 => match decode cc pc with
    | .ok (.invokevirtual idx, 3) => decide (nx = pc + 3) && decide ((oc, idx) ∈ L.2.2.2.2.2.2.2.2.2.1)
    | _ => false
  | 45 => match decode cc pc with
    | .ok (.ldc idx, 2) => decide (nx = pc + 2) && decide ((oc, idx) ∈ L.2.2.2.2.2.2.2.2.2.2)
    | _ => false
  | _ => false
