/-! A RUN OF THE ABSTRACT MACHINE IS A RUN OF THE MACHINE -/
/-- a word that stays true while the tables grow warmer -/
def am_Ps (w : Jvm.Cond) : Prop := ∀ (s U : State) (args a' : Array Value), s.WarmedH U.vm → w.before args s = true → w.before a' U = true
/-- a method's end: the answer by its addresses, the heap holds the cells; or it threw -/
def am_Qc (em : Int64 → Nat) (D : va_G) (cl : List vw_C) (A : Nat → Prop) (n0 : Nat) (ad0 : Nat → Nat) (o : Option (Option Value)) (S : am_S) : Array Value → State → Outcome → State → Prop := fun _ st oc t =>
  (∃ (ad : Nat → Nat) (ca : Nat → ClassId) (tys : List (ClassId × FieldType)), (∀ k, k < n0 → ad k = ad0 k) ∧ am_Rl em D cl A t ad ca tys S.1 t.heap ∧ match o with
    | some v => oc = .returned (v.map (am_v em ad)) ∧ ∀ x, v = some x → am_okv S.1.length x
    | none => ∃ (q : Addr) (ce : Cell), oc = .threw q ∧ t.heap[q]? = some ce ∧ ce.vm = .none ∧ t.vm.findClass am_ise = some ce.cls) ∧ va_F A st t
/-- 'throw new ..' where the program has it -/
def am_Thr (P : am_P) (Y : am_Y) (Ts : List Jvm.Cond) (Zs : (Nat → Prop) → State → Heap → Prop) (l : Launch) : Prop :=
  ∀ (M pc a b k : Nat) (x : Int32) (nx : Nat) (tab : List (Int32 × Nat)), P.1 M pc = some (37, a, b, k, x, nx, tab) →
  ∀ (p : Program) (e : Env) (R : Room) (s : State) (m : MethodId) (args : Array Value) (below : List Frame) (meth : Method) (c : Code) (H : Heap) (locs : List Loc) (cells slots d mc ms : Nat) (A : Nat → Prop) (lsA : Array Slot) (rest : List Value) (Qc : Array Value → State → Outcome → State → Prop),
    am_Act P Y Ts p R s m args meth c M d mc ms → va_S A s.heap H locs → Zs A s s.heap → (∀ q, s.heap.size ≤ q → A q) → lsA.size = P.2.2.1 M → 12 ≤ d → (rest.map fun v => v.category).sum ≤ 8 → cells + 1 ≤ mc → slots + 6 ≤ ms →
    (∀ (q : Addr) (ce : Cell) (t : State), s.WarmedH t.vm → H.size ≤ t.heap.size → (∀ z : Nat, z < H.size → t.heap[z]? = H[z]?) → t.heap[q]? = some ce → ce.vm = .none → t.vm.findClass am_ise = some ce.cls → Qc args s (.threw q) t) →
    W p l e R s m args below meth c H locs cells slots (am_MQ below Qc args s mc ms A) (F0 m pc lsA rest)
theorem am_cats {em : Int64 → Nat} {ad : Nat → Nat} {n : Nat} : ∀ q : List Value, (∀ w ∈ q, am_okv n w) → ((q.map (am_v em ad)).map fun v => v.category).sum = q.length := by
  intro q
  induction q with
  | nil => intro _; rfl
  | cons w q ih => intro hq; simp only [List.map_cons, List.sum_cons, List.length_cons]; rw [ih fun u hu => hq u (List.mem_cons_of_mem _ hu), am_cat (em := em) ad (hq w List.mem_cons_self)]; omega
theorem am_lgsl {em : Int64 → Nat} {ad : Nat → Nat} {n : Nat} : ∀ q : List Value, (∀ w ∈ q, am_okv n w) → lg_sl (q.map (am_v em ad)) = q.map (fun v => Slot.val (am_v em ad v)) := by
  intro q
  induction q with
  | nil => intro _; rfl
  | cons w q ih =>
    intro hq
    have h1 := ih fun u hu => hq u (List.mem_cons_of_mem _ hu)
    have h2 := am_cat (em := em) ad (hq w List.mem_cons_self)
    simp only [List.map_cons]
    rw [← h1]
    simp [lg_sl, h2]
theorem am_args {em : Int64 → Nat} {ad : Nat → Nat} {n : Nat} : ∀ (q : List Value) (i j : Nat) (v : Value), (∀ w ∈ q, am_okv n w) → q[j]? = some v → (i + j, am_v em ad v) ∈ lv_args i (q.map (am_v em ad)) := by
  intro q
  induction q with
  | nil => intro i j v _ h; simp at h
  | cons w q ih =>
    intro i j v hq h
    have hc := am_cat (em := em) ad (hq w List.mem_cons_self)
    simp only [List.map_cons, lv_args, hc]
    cases j with
    | zero =>
      simp at h
      subst h
      exact List.mem_cons_self
    | succ j =>
      have h1 := ih (i + 1) j v (fun u hu => hq u (List.mem_cons_of_mem _ hu)) (by simpa using h)
      refine List.mem_cons_of_mem _ ?_
      rw [if_neg (by decide), show i + (j + 1) = i + 1 + j by omega]
      exact h1
/-- a method's locals at its entry -/
theorem am_entry {em : Int64 → Nat} {ad : Nat → Nat} {n nL : Nat} {as : List Value} (ho : ∀ w ∈ as, am_okv n w) (hn : as.length ≤ nL) : am_lo em nL ((lg_sl (as.map (am_v em ad)) ++ List.replicate (nL - (lg_sl (as.map (am_v em ad))).length) Slot.unset).toArray) ad (am_in as nL) ∧ am_okl n (am_in as nL) := by
  have hlen : (lg_sl (as.map (am_v em ad))).length = as.length := by rw [am_lgsl as ho, List.length_map]
  have h1 := lv_entry (as.map (am_v em ad)) (n := nL) (by rw [hlen]; exact hn)
  have hg : ∀ (i : Nat) (v : Value), (am_in as nL)[i]? = some (some v) → as[i]? = some v := by
    intro i v hv
    unfold am_in at hv
    rcases Nat.lt_or_ge i as.length with hi | hi
    · rw [List.getElem?_append_left (by rw [List.length_map]; exact hi), List.getElem?_map] at hv
      cases hq : as[i]? with
      | none => rw [hq] at hv; cases hv
      | some w => rw [hq] at hv; simp at hv; rw [hv]
    · rw [List.getElem?_append_right (by rw [List.length_map]; exact hi), List.getElem?_replicate] at hv
      split at hv <;> cases hv
  refine ⟨⟨⟨h1.1, h1.2.1, fun q hq => ?_⟩, by simp [am_in]; omega⟩, fun i v hv => ho v (List.mem_of_getElem? (hg i v hv))⟩
  obtain ⟨v, hv, hq2⟩ := am_al_mem.mp hq
  have h2 := am_args (em := em) (ad := ad) as 0 q.1 v ho (hg _ _ hv)
  rw [Nat.zero_add] at h2
  exact h1.2.2 q (by rw [show q = (q.1, am_v em ad v) from Prod.ext rfl hq2]; exact h2)
/-- the frame that the callee leaves, seen by the caller -/
theorem am_Sjoin {A B : Nat → Prop} {H0 H : Heap} {locs L : List Loc} {st t : State} (hS : va_S A H0 H locs) (hst : st.heap = H) (hF : va_F B st t) (hAB : ∀ q, B q → A q) (hL : ∀ q ∈ L, B q.base) : va_S A H0 t.heap (locs ++ L) := by
  refine ⟨Nat.le_trans hS.1 (by rw [← hst]; exact hF.1), fun q hq hA => ?_, fun q hq => ?_⟩
  · rw [hF.2 q (by rw [hst]; exact Nat.lt_of_lt_of_le hq hS.1) (fun z => hA (hAB q z)), hst]
    exact hS.2.1 q hq hA
  · rcases List.mem_append.mp hq with hq | hq
    · exact hS.2.2 q hq
    · exact hAB _ (hL q hq)
section AM5
variable {em : Int64 → Nat} {P : am_P} {Y : am_Y} {D : va_G} {cl : List vw_C} {Ts : List Jvm.Cond} {Zs : (Nat → Prop) → State → Heap → Prop} {l : Launch}
/-- what is said of all runs with fuel n -/
def am_Snd (em : Int64 → Nat) (P : am_P) (Y : am_Y) (D : va_G) (cl : List vw_C) (Ts : List Jvm.Cond) (Zs : (Nat → Prop) → State → Heap → Prop) (l : Launch) (n : Nat) : Prop :=
  ∀ (d M pc : Nat) (ls : am_V) (st : List Value) (S : am_S) (o : Option (Option Value)) (S' : am_S), am_run P n d M pc ls st S = some (o, S') →
  ∀ (p : Program) (e : Env) (R : Room) (s : State) (m : MethodId) (args : Array Value) (below : List Frame) (meth : Method) (c : Code) (H : Heap) (locs : List Loc) (cells slots mc ms c0 z0 n0 : Nat) (A : Nat → Prop) (ad ad0 : Nat → Nat) (ca : Nat → ClassId) (tys : List (ClassId × FieldType)) (lsA : Array Slot),
    am_Act P Y Ts p R s m args meth c M d mc ms → am_St em D cl Zs A s H locs cells slots ad ca tys lsA (P.2.2.1 M) ls st S c0 z0 → (∀ q, s.heap.size ≤ q → A q) → c0 + mc = S'.2.1 → z0 + ms = S'.2.2 → n0 ≤ S.1.length → (∀ k, k < n0 → ad k = ad0 k) →
    W p l e R s m args below meth c H locs cells slots (am_MQ below (am_Qc em D cl A n0 ad0 o S') args s mc ms A) (F0 m pc lsA (st.map (am_v em ad)))
/-- a method's contract out of its run -/
theorem am_met {n : Nat} (ih : am_Snd em P Y D cl Ts Zs l n) {a d : Nat} {as : List Value} {S S1 : am_S} {o : Option (Option Value)} (hrun : am_run P n d a 0 (am_in as (P.2.2.1 a)) [] S = some (o, S1)) (hM : am_okM P Y Ts a)
    (has : ∀ w ∈ as, am_okv S.1.length w) (hlen : as.length ≤ P.2.2.1 a) (ad : Nat → Nat) (ca : Nat → ClassId) (tys : List (ClassId × FieldType)) (H : Heap) :
    ∃ ws : List Jvm.Cond, (∀ w ∈ ws, w ∈ Ts) ∧ am_Met l (Y a).1 ws { frames := d, cells := S1.2.1 - S.2.1, slots := S1.2.2 - S.2.2, locals := 41 * d }
      (fun v U => v = (as.map (am_v em ad)).toArray ∧ U.heap = H ∧ am_Rl em D cl (am_A ad S.1.length H.size) U ad ca tys S.1 H ∧ Zs (am_A ad S.1.length H.size) U H)
      (am_Qc em D cl (am_A ad S.1.length H.size) S.1.length ad o S1) (S1.2.1 - S.2.1) (S1.2.2 - S.2.2) (am_A ad S.1.length H.size) := by
  have hupS := am_run_up P _ _ _ _ _ _ _ _ _ hrun
  have hent := am_entry (em := em) (ad := ad) (nL := P.2.2.1 a) has hlen
  rcases hM.1 with ⟨hcd, hno⟩ | ⟨q, hcd, hq1, hq2, hq3, hq4⟩
  · refine ⟨Jvm.Cond.code (Y a).1 (Y a).2.1 (P.2.2.1 a) (Y a).2.2 :: Ts, fun w hw => (List.mem_cons.mp hw).elim (fun e => by rw [e]; exact hcd) id, am_ofW (cc := (Y a).2.1) (maxL := P.2.2.1 a) (ret := (Y a).2.2) hM.2.2.2.1 rfl ?_⟩
    intro p e s m args below meth c s₁ B hml hv
    obtain ⟨rfl, rfl, hRl, hZ⟩ := hv
    have hts := atoms_spec (ws := Jvm.Cond.code (Y a).1 (Y a).2.1 (P.2.2.1 a) (Y a).2.2 :: Ts) B.pre
    have hexc := BodyLoose.noHandlers B (hts _ List.mem_cons_self)
    have htab : c.exceptionTable.toList = [] := by
      have h9 : c.exceptionTable = #[] := Array.isEmpty_iff.mp hexc
      rw [h9]
    rw [lg_entry_eq]
    exact ih d a 0 (am_in as (P.2.2.1 a)) [] S o S1 hrun p e _ s m _ below meth c s.heap [] 0 0 _ _ S.2.1 S.2.2 S.1.length _ ad ad ca tys _
      ⟨B.exec, B.bytes, hml, findClass_of_methodNamed B.named, fun w hw => hts w (List.mem_cons_of_mem _ hw), B.returns, B.notSynchronized, (name_of_methodNamed B.named B.method).1, rfl, rfl, rfl, rfl, (fun pc _ x hx => by rw [htab] at hx; cases hx), fun pc h j hh => by rw [hno pc] at hh; cases hh⟩
      ⟨hRl, va_S.rf, hZ, hent.1, hent.2, (fun v hv => nomatch hv), rfl, rfl⟩ (fun q h => Or.inr h) (by omega) (by omega) (Nat.le_refl _) (fun _ _ => rfl)
  · refine ⟨Jvm.Cond.codeWith (Y a).1 (Y a).2.1 (P.2.2.1 a) (Y a).2.2 [q] :: Ts, fun w hw => (List.mem_cons.mp hw).elim (fun e => by rw [e]; exact hcd) id, am_ofWW (cc := (Y a).2.1) (maxL := P.2.2.1 a) (ret := (Y a).2.2) hM.2.2.2.1 rfl ?_⟩
    intro p e s m args below meth c s₁ B hml hv
    obtain ⟨rfl, rfl, hRl, hZ⟩ := hv
    have hts := atoms_spec (ws := Jvm.Cond.codeWith (Y a).1 (Y a).2.1 (P.2.2.1 a) (Y a).2.2 [q] :: Ts) B.pre
    obtain ⟨m9, meth9, c9, hn9, h1, h2, h3, h4, htb, h5, h6, -⟩ := Cond.codeWith_spec (hts _ List.mem_cons_self)
    cases B.named.symm.trans hn9
    cases B.method.symm.trans h1
    cases (Stand.of_body B).code.symm.trans h2
    obtain ⟨x, htab, hxq⟩ : ∃ x : ExceptionTableEntry, c.exceptionTable.toList = [x] ∧ (x.startPc, x.endPc, x.handlerPc, x.catchType) = q := by
      cases hl : c.exceptionTable.toList with
      | nil => rw [hl] at htb; cases htb
      | cons x r =>
        rw [hl] at htb
        simp only [List.map_cons, List.cons.injEq, List.map_eq_nil_iff] at htb
        exact ⟨x, by rw [htb.2], htb.1⟩
    subst hxq
    rw [lg_entry_eq]
    exact ih d a 0 (am_in as (P.2.2.1 a)) [] S o S1 hrun p e _ s m _ below meth c s.heap [] 0 0 _ _ S.2.1 S.2.2 S.1.length _ ad ad ca tys _
      ⟨B.exec, B.bytes, hml, findClass_of_methodNamed B.named, fun w hw => hts w (List.mem_cons_of_mem _ hw), B.returns, B.notSynchronized, (name_of_methodNamed B.named B.method).1, rfl, rfl, rfl, rfl, (fun pc hp z hz => by
        rw [htab, List.mem_singleton] at hz
        subst hz
        have := hq1 pc hp
        simp only [covers]
        simpa using this), fun pc h j hh => by
        obtain ⟨g1, g2, g3, g4, g5⟩ := hq4 pc h j hh
        exact ⟨x, htab, by simp only [covers]; simpa using ⟨g1, g2⟩, hq2, hq3, g3, g4, g5⟩⟩
      ⟨hRl, va_S.rf, hZ, hent.1, hent.2, (fun v hv => nomatch hv), rfl, rfl⟩ (fun q h => Or.inr h) (by omega) (by omega) (Nat.le_refl _) (fun _ _ => rfl)
/-- what a call needs of the callee's code -/
theorem am_cdS {a : Nat} {args : Array Value} {s : State} (hM : am_okCd P Y Ts a) (hts : ∀ w ∈ Ts, w.before args s = true) (mk : MethodId) (hn : s.methodNamed? (Y a).1 = some mk) : ∃ (methY : Method) (cY : Code), s.vm.method? mk = some methY ∧ methY.code = some cY ∧ cY.maxLocals = P.2.2.1 a ∧ parseMethodDescriptor (Y a).1.desc = some methY.sig := by
  rcases hM with ⟨hcd, -⟩ | ⟨q, hcd, -⟩
  · obtain ⟨methY, cY, h1, h2, -, h4, -, -, -, h8⟩ := Cond.code_spec hn (hts _ hcd)
    exact ⟨methY, cY, h1, h2, h4, h8⟩
  · obtain ⟨m9, methY, cY, hn9, h1, h2, -, h4, -, -, -, h8⟩ := Cond.codeWith_spec (hts _ hcd)
    cases hn.symm.trans hn9
    exact ⟨methY, cY, h1, h2, h4, h8⟩
end AM5
