/-! THE LAW'S START AND END (lw_P, lw_Q, lw_Z, lw_At begin as the skeleton has them) -/
def R_law : String := "ChunkCodeLaw"
def lw_P (b : Addr) (xs : List Int32) (args : Array Value) (s : State) : Prop := args = #[.ref b] ∧ s.IntsAt b xs ∧ xs.length ≤ 2048 ∧ (Jvm.Cond.and given_1 narrow_1).before args s = true
def lw_Q (_ : Array Value) (s : State) (o : Outcome) (t : State) : Prop := o = .returned (some (.int 1)) ∧ Framed s o t [] 61024 8913034
def lw_Z (below : List Frame) (a : Array Value) (s : State) : State → Prop := fun t => ∃ o, t.status = .running ∧ Ended t below o ∧ lw_Q a s o t
def lw_At (p : Program) (s : State) (m : MethodId) (meth : Method) (c : Code) (b L : Nat) (xs : Nat → Int32) : Prop :=
  p.tables.exec = Jvm.exec ∧ c.code = code ∧ meth.sig.returnType = ret ∧ c.maxLocals = 4 ∧ s.vm.findClass R_law = some m.cls ∧ (∀ w ∈ lw_tbl, w.before #[Value.ref b] s = true) ∧ va_X b L xs s s.heap ∧ b < s.heap.size ∧ meth.locks = false ∧ (Jvm.Cond.and given_1 narrow_1).before #[Value.ref b] s = true
/-- what more the soundness asks: no handlers, the method's name -/
def am_At (p : Program) (s : State) (m : MethodId) (meth : Method) (c : Code) (b L : Nat) (xs : Nat → Int32) : Prop := lw_At p s m meth c b L xs ∧ c.exceptionTable.toList = [] ∧ meth.name = "law"
/-- a static that nobody writes stays laid, and stays a reference -/
theorem am_stK {C n d : String} {A : Nat → Prop} {s s' : State} {args a' : Array Value} (hl : (Cond.laysStatic C n d).before args s = true) (hr : (Cond.isRef (.static C n d)).before args s = true) (hA : ∀ a : Nat, a < s.heap.size → ¬ A a) (hW : s.WarmedH s'.vm) (hq : ∀ q : Nat, q < s.heap.size → ¬ A q → s'.heap[q]? = s.heap[q]?) :
    (Cond.laysStatic C n d).before a' s' = true ∧ (Cond.isRef (.static C n d)).before a' s' = true := by
  obtain ⟨c, k, i, f, a, cell, hc, hf, hst, ha, hcell, hiss, hcls, hlt, hty⟩ := Cond.laysStatic_spec hl
  have halt := (Array.getElem?_eq_some_iff.mp hcell).1
  have hcell' : s'.heap[a]? = some cell := by rw [hq a halt (hA a halt)]; exact hcell
  obtain ⟨k', hf', he⟩ := State.fieldFound?_setVm hW.alike hf
  have hc' : s'.vm.findClass C = some c := by rw [hW.alike.findClass]; exact hc
  have hf'' : s'.fieldFound? C n d = some (c, k', i, f) := hf'
  have ha' : k'.statics = some a := by rw [he]; exact ha
  have hty' : k'.staticTypes[f.slot]? = some f.type := by rw [he]; exact hty
  refine ⟨by simp [Cond.before, Cond.holds, Cond.value, hc', hf'', hst, ha', hcell', hiss, hcls, hlt, hty'], ?_⟩
  obtain ⟨v, hv⟩ : ∃ v, (Term.static C n d).eval args s none [] s = some v := by
    cases hv : (Term.static C n d).eval args s none [] s with
    | none => simp [Cond.before, Cond.holds, Cond.value, hv] at hr
    | some v => exact ⟨v, rfl⟩
  obtain ⟨-, a2, cell2, ha2, hcell2, -, hslot⟩ := Term.static_spec hf hv
  cases ha.symm.trans ha2
  cases hcell.symm.trans hcell2
  have he' : (Term.static C n d).eval a' s' none [] s' = some v := by
    simp [Term.eval, State.fieldNamed?, hf'', hst, ha', hcell', hiss, hslot]
  simp only [Cond.before, Cond.holds, Cond.value, hv] at hr
  simp only [Cond.before, Cond.holds, Cond.value, he']
  exact hr
def am_tS : String := "java/lang/Throwable"
def am_four : List Jvm.Cond := [.laysStatic am_tS "UNASSIGNED_STACK" "[Ljava/lang/StackTraceElement;", .laysStatic am_tS "SUPPRESSED_SENTINEL" "Ljava/util/List;", .isRef (.static am_tS "UNASSIGNED_STACK" "[Ljava/lang/StackTraceElement;"), .isRef (.static am_tS "SUPPRESSED_SENTINEL" "Ljava/util/List;")]
def am_thq (w : Jvm.Cond) : Bool := am_gk w && (List.range 9).any fun k => decide (w ∈ am_tk k)
theorem am_thq_ok {w : Jvm.Cond} (h : am_thq w = true) : w ∈ am_Ts := by
  unfold am_thq at h
  simp only [Bool.and_eq_true, List.any_eq_true, decide_eq_true_eq] at h
  obtain ⟨hg, k, -, hk⟩ := h
  obtain ⟨i, hi⟩ := List.getElem?_of_mem hk
  exact am_iT_ok (q := (k, i)) (by unfold am_iT; simp only [hi, hg, decide_true, Bool.and_self])
set_option maxRecDepth 100000 in
theorem am_thall : (am_thw am_thO 18).all (fun w => am_thq w || decide (w ∈ am_four)) = true := by decide +kernel
theorem am_ZT_of {args : Array Value} {s : State} {A : Nat → Prop} (hts : ∀ w ∈ lw_tbl, w.before args s = true) (h1 : (Cond.isRef (.static am_tS "UNASSIGNED_STACK" "[Ljava/lang/StackTraceElement;")).before args s = true) (h2 : (Cond.isRef (.static am_tS "SUPPRESSED_SENTINEL" "Ljava/util/List;")).before args s = true)
    (hA : ∀ a : Nat, a < s.heap.size → ¬ A a) : am_ZT am_thO 18 A s s.heap := by
  intro s' a' hW hz hq w hw
  have h := List.all_eq_true.mp am_thall w hw
  simp only [Bool.or_eq_true, decide_eq_true_eq] at h
  rcases h with h | h
  · have hm : w ∈ am_Ts := am_thq_ok h
    exact am_Ts_ps w hm s s' args a' hW (hts w (List.mem_filter.mp hm).1)
  · have k1 := am_stK (a' := a') (hts (.laysStatic am_tS "UNASSIGNED_STACK" "[Ljava/lang/StackTraceElement;") (by decide +kernel)) h1 hA hW hq
    have k2 := am_stK (a' := a') (hts (.laysStatic am_tS "SUPPRESSED_SENTINEL" "Ljava/util/List;") (by decide +kernel)) h2 hA hW hq
    simp only [am_four, List.mem_cons, List.not_mem_nil, or_false] at h
    rcases h with rfl | rfl | rfl | rfl
    · exact k1.1
    · exact k2.1
    · exact k1.2
    · exact k2.2
set_option maxRecDepth 100000 in
theorem am_inst : (List.range am_cl.length).all (fun k => match am_cl[k]? with
  | some q => decide (Jvm.Cond.instantiable q.1 q.2.2 ∈ lw_tbl)
  | none => true) = true := by decide +kernel
/-- the classes as the tables have them -/
theorem am_known {args : Array Value} {s : State} (c0 : ClassId) (hts : ∀ w ∈ lw_tbl, w.before args s = true) : ∃ D : va_G, va_K D am_cl [] s := by
  have h : ∀ k : Nat, ∃ q : ClassId × (Nat → Nat), ∀ r : vw_C, am_cl[k]? = some r → u_Kn s r.1 r.2.1 r.2.2 q.1 q.2 := by
    intro k
    cases hk : am_cl[k]? with
    | none => exact ⟨(c0, fun _ => 0), fun r hr => nomatch hr⟩
    | some r =>
      obtain ⟨C, T, N⟩ := r
      have hlt : k < am_cl.length := (List.getElem?_eq_some_iff.mp hk).1
      have hi := List.all_eq_true.mp am_inst k (List.mem_range.mpr hlt)
      rw [hk] at hi
      simp only [decide_eq_true_eq] at hi
      obtain ⟨cC, iS, hKn⟩ := u_known (ws := lw_tbl) (C := C) (T := T) (N := N) (n := N) hts (fun w hw => (List.mem_filter.mp ((am_C_ok k C T N hk).1 w hw)).1) (hts _ hi)
      exact ⟨(cC, iS), fun r hr => by cases hr; exact hKn⟩
  obtain ⟨f, hf⟩ := Classical.axiomOfChoice h
  exact ⟨(fun k => (f k).1, fun k => (f k).2), fun k q hq => hf k q hq, fun k q hq => nomatch hq⟩
section AM9
variable {p : Program} {l : Launch} {e : Env} {R R' : Room} {s : State} {m : MethodId} {args : Array Value} {below : List Frame} {meth : Method} {c : Code} {H : Heap} {locs : List Loc} {cells slots : Nat} {Q Q' : State → Prop} {g : JFrame}
/-- less room will do, and a weaker end -/
theorem am_roomy (h1 : R'.frames ≤ R.frames) (h2 : R'.locals ≤ R.locals) (h3 : R'.cells ≤ R.cells) (h4 : R'.slots ≤ R.slots) (hQ : ∀ t, Q' t → Q t) (k : W p l e R' s m args below meth c H locs cells slots Q' g) : W p l e R s m args below meth c H locs cells slots Q g := by
  intro T hT X
  have hroom : s.hasRoom e.platform R' = true := by
    have h := X.room
    simp only [State.hasRoom, Bool.and_eq_true, decide_eq_true_eq] at h ⊢
    obtain ⟨⟨⟨⟨a1, a2, a3, a4, a5, a6⟩, a7⟩, a8⟩, a9⟩ := h
    exact ⟨⟨⟨⟨by omega, by omega, by omega, by omega, by omega, a6⟩, by omega⟩, by omega⟩, a9⟩
  obtain ⟨t, a, b⟩ := k T hT ⟨X.admits, X.cas, X.clock, X.frames, hroom, X.hears, X.method, X.code, X.here, X.tail, X.warmed, X.limits, X.bytes, X.same⟩
  exact ⟨t, a, hQ t b⟩
end AM9
set_option maxHeartbeats 1000000 in
/-- the claim's walk out of a run of the program -/
theorem am_start {p : Program} {e : Env} {s : State} {m : MethodId} {below : List Frame} {meth : Method} {c : Code} (l : Launch) {b L : Nat} {xs : Nat → Int32} (hl : l.stackTraces = false) (C0 : am_At p s m meth c b L xs) {n d : Nat} {S' : am_S}
    (hrun : am_run (am_PP (L, xs)) n d 278 0 (am_in [.long 2] 4) [] ([], 0, 0) = some (some (some (.int 1)), S')) (hd : d ≤ 2048) (hc : S'.2.1 ≤ 61024) (hz : S'.2.2 ≤ 8913034) :
    W p l e room_1 s m #[Value.ref b] below meth c s.heap [] 0 0 (lw_Z below #[Value.ref b] s) (entryFrame m ([Value.ref b] : List Value).toArray 4) := by
  obtain ⟨⟨hx, hb, hr, hml, hown, hts, hX, hbl, hlocks, hgv⟩, htab, hname⟩ := C0
  have hgs := flat_of_before _ hgv
  have hA : ∀ q : Nat, q < s.heap.size → ¬ (fun q : Nat => s.heap.size ≤ q) q := fun q h => Nat.not_le.mpr h
  have hee : (Term.length (.static am_AL am_EE am_ED)).eval #[Value.ref b] s none [] s = some (.int (Int32.ofNat 0)) := va_eqt (hgs (.eq (.length (.static am_AL am_EE am_ED)) (.int 0)) (by decide +kernel))
  obtain ⟨t0, ht0, hT0⟩ := va_Tof (tm := .static am_AL am_EE am_ED) (ty := .object "java/lang/Object") (N := 0) (f := fun _ => .null) (by decide) (hgs (.arrayOf (.static am_AL am_EE am_ED) (.object "java/lang/Object")) (by decide +kernel)) hee (fun j hj => absurd hj (Nat.not_lt_zero j)) hA
  have hZ0 := va_Zref (hts (.laysStatic am_AL am_EE am_ED) (by decide +kernel)) (hts (.initialized am_AL) (by decide +kernel)) ht0 hA
  obtain ⟨mi, hMi⟩ := va_Mi.of (hgs (.isRef (.mirror am_ED)) (by decide +kernel))
  have hZT := am_ZT_of hts (hgs (.isRef (.static am_tS "UNASSIGNED_STACK" "[Ljava/lang/StackTraceElement;")) (by decide +kernel)) (hgs (.isRef (.static am_tS "SUPPRESSED_SENTINEL" "Ljava/util/List;")) (by decide +kernel)) hA
  obtain ⟨D, hK⟩ := am_known m.cls hts
  obtain ⟨em, rfl, rfl, rfl⟩ : ∃ em : Int64 → Nat, em 0 = t0 ∧ em 1 = mi ∧ em 2 = b := ⟨fun z => if z = 0 then t0 else if z = 1 then mi else b, rfl, rfl, rfl⟩
  have hZz : am_Zz em (L, xs) (fun q : Nat => s.heap.size ≤ q) s s.heap := ⟨hZ0, hT0, hMi, ⟨hX, hA _ hbl⟩, hZT⟩
  have hent := am_entry (em := em) (ad := fun _ => 0) (n := 0) (nL := 4) (as := [.long 2]) (fun w hw => by rw [List.mem_singleton.mp hw]; trivial) (by decide)
  have act : am_Act (am_PP (L, xs)) am_YY am_Ts p { frames := d, cells := S'.2.1, slots := S'.2.2, locals := 41 * d } s m #[Value.ref (em 2)] meth c 278 d S'.2.1 S'.2.2 :=
    ⟨hx, hb, hml, hown, fun w hw => hts w (List.mem_filter.mp hw).1, hr, hlocks, hname, rfl, rfl, rfl, rfl, (fun pc _ x hx => by rw [htab] at hx; cases hx), fun pc h j hh => by
      have h9 : (am_PP (L, xs)).2.2.2.1 278 pc = none := am_hd0 (M := 278) (by decide) pc
      rw [h9] at hh; cases hh⟩
  have hRl0 : am_Rl em D am_cl (fun q : Nat => s.heap.size ≤ q) s (fun _ => 0) (fun _ => m.cls) [] ([] : List am_C) s.heap :=
    ⟨fun k q hk => absurd hk (by simp [am_w]), ⟨fun i j p q hi _ _ => absurd hi (by simp [am_w]), fun k q hk => absurd hk (by simp [am_w])⟩, hK, fun k c hk => absurd hk (by simp), fun k c hk => absurd hk (by simp)⟩
  have K := am_SND (em := em) (sc := (L, xs)) (D := D) hl n d 278 0 (am_in [.long 2] 4) [] ([], 0, 0) _ S' hrun p e _ s m #[Value.ref (em 2)] below meth c s.heap [] 0 0 S'.2.1 S'.2.2 0 0 0 (fun q : Nat => s.heap.size ≤ q) (fun _ => 0) (fun _ => 0) (fun _ => m.cls) [] _ act
    ⟨hRl0, va_S.rf, hZz, hent.1, hent.2, (fun v hv => nomatch hv), rfl, rfl⟩ (fun q h => h) (Nat.zero_add _) (Nat.zero_add _) (Nat.le_refl _) (fun _ _ => rfl)
  rw [lg_entry_eq]
  refine am_roomy (R' := { frames := d, cells := S'.2.1, slots := S'.2.2, locals := 41 * d }) hd (by show 41 * d ≤ 84000; omega) hc hz (fun t ht => ?_) K
  obtain ⟨o, h1, h2, ⟨⟨ad, ca, tys, -, -, h3, -⟩, -⟩, Lc, ⟨h5, h6⟩, h7⟩ := ht
  refine ⟨o, h1, h2, h3, ⟨_, h3⟩, h5, h6.weaken (fun y hy hlt => absurd hlt (Nat.not_lt.mpr (h7 y hy))) hc hz⟩
