/-! ABSTRACT CELLS AND THE HEAP: ad gives each cell's address, ca an array's class -/
def am_v (em : Int64 → Nat) (ad : Nat → Nat) (v : Value) : Value := match v with
  | .ref k => .ref (ad k)
  | .long z => .ref (em z)
  | v => v
def am_ce (em : Int64 → Nat) (ad : Nat → Nat) (cA : ClassId) (c : am_C) : va_E := match c with
  | .inl (_, n, f) => .inl (cA, n, .inl f)
  | .inr (.inl (n, g)) => .inl (cA, n, .inr (.inr (.inr (.inr (fun i => (g i).map ad)))))
  | .inr (.inr (ci, fs)) => .inr (ci, fs.map (am_v em ad))
def am_w (em : Int64 → Nat) (ad : Nat → Nat) (ca : Nat → ClassId) (h : List am_C) : va_W := h.mapIdx (fun k c => (ad k, am_ce em ad (ca k) c))
/-- every reference is a place of the list; no number of two words -/
def am_okv (n : Nat) (v : Value) : Prop := match v with
  | .int _ => True
  | .null => True
  | .long _ => True
  | .ref k => k < n
  | _ => False
def am_okc (n : Nat) (c : am_C) : Prop := match c with
  | .inl _ => True
  | .inr (.inl (_, g)) => ∀ i j, g i = some j → j < n
  | .inr (.inr (_, fs)) => ∀ v ∈ fs, am_okv n v
def am_ty (tys : List (ClassId × FieldType)) (cA : ClassId) (c : am_C) : Prop := match c with
  | .inl (false, _) => ∃ t0 : Nat, tys[t0]? = some (cA, .int)
  | .inl (true, _) => ∃ t0 : Nat, tys[t0]? = some (cA, .boolean)
  | .inr (.inl _) => ∃ t0 : Nat, tys[t0]? = some (cA, .object "java/lang/Object")
  | .inr (.inr _) => True
theorem am_okv.mono {n k : Nat} {v : Value} (h : am_okv n v) (hk : n ≤ k) : am_okv k v := by
  cases v <;> simp only [am_okv] at h ⊢
  exact Nat.lt_of_lt_of_le h hk
theorem am_okc.mono {n k : Nat} {c : am_C} (h : am_okc n c) (hk : n ≤ k) : am_okc k c := by
  rcases c with c | ⟨_, g⟩ | ⟨_, fs⟩
  · trivial
  · intro i j hj; exact Nat.lt_of_lt_of_le (h i j hj) hk
  · intro v hv; exact (h v hv).mono hk
theorem am_ty.more {tys t2 : List (ClassId × FieldType)} {cA : ClassId} {c : am_C} (h : am_ty tys cA c) : am_ty (tys ++ t2) cA c := by
  have key : ∀ ty, (∃ t0 : Nat, tys[t0]? = some (cA, ty)) → ∃ t0 : Nat, (tys ++ t2)[t0]? = some (cA, ty) := fun ty ⟨t0, h0⟩ => ⟨t0, by rw [List.getElem?_append_left (List.getElem?_eq_some_iff.mp h0).1]; exact h0⟩
  rcases c with ⟨b, x⟩ | x | x
  · cases b
    · exact key _ h
    · exact key _ h
  · exact key _ h
  · trivial
theorem am_v_eq {em : Int64 → Nat} {ad ad' : Nat → Nat} {n : Nat} (ha : ∀ k, k < n → ad' k = ad k) {v : Value} (h : am_okv n v) : am_v em ad' v = am_v em ad v := by
  cases v <;> simp only [am_okv, am_v] at h ⊢
  rw [ha _ h]
theorem am_ce_eq {em : Int64 → Nat} {ad ad' : Nat → Nat} {n : Nat} {cA : ClassId} (ha : ∀ k, k < n → ad' k = ad k) {c : am_C} (h : am_okc n c) : am_ce em ad' cA c = am_ce em ad cA c := by
  rcases c with c | ⟨m, g⟩ | ⟨ci, fs⟩
  · rfl
  · simp only [am_ce]
    have : (fun i => (g i).map ad') = fun i => (g i).map ad := by
      funext i
      cases hg : g i with
      | none => rfl
      | some j => simp only [Option.map_some]; rw [ha _ (h i j hg)]
    rw [this]
  · simp only [am_ce]
    have : fs.map (am_v em ad') = fs.map (am_v em ad) := List.map_congr_left fun v hv => am_v_eq ha (h v hv)
    rw [this]
theorem am_cat {em : Int64 → Nat} {n : Nat} {v : Value} (ad : Nat → Nat) (h : am_okv n v) : (am_v em ad v).category = 1 := by
  cases v <;> simp only [am_okv] at h <;> rfl
theorem am_w_len {em : Int64 → Nat} {ad : Nat → Nat} {ca : Nat → ClassId} {h : List am_C} : (am_w em ad ca h).length = h.length := by simp [am_w]
theorem am_w_get {em : Int64 → Nat} {ad : Nat → Nat} {ca : Nat → ClassId} {h : List am_C} {k : Nat} {c : am_C} (hk : h[k]? = some c) : (am_w em ad ca h)[k]? = some (ad k, am_ce em ad (ca k) c) := by
  simp [am_w, List.getElem?_mapIdx, hk]
theorem am_w_inv {em : Int64 → Nat} {ad : Nat → Nat} {ca : Nat → ClassId} {h : List am_C} {k : Nat} {q : Nat × va_E} (hk : (am_w em ad ca h)[k]? = some q) : ∃ c, h[k]? = some c ∧ q = (ad k, am_ce em ad (ca k) c) := by
  simp only [am_w, List.getElem?_mapIdx, Option.map_eq_some_iff] at hk
  obtain ⟨c, h1, h2⟩ := hk
  exact ⟨c, h1, h2.symm⟩
theorem am_w_set {em : Int64 → Nat} {ad : Nat → Nat} {ca : Nat → ClassId} {h : List am_C} {k : Nat} {c : am_C} : (am_w em ad ca h).set k (ad k, am_ce em ad (ca k) c) = am_w em ad ca (h.set k c) := by
  apply List.ext_getElem?
  intro i
  simp only [am_w, List.getElem?_set, List.getElem?_mapIdx, List.length_mapIdx]
  by_cases hi : k = i
  · subst hi
    simp only [if_true]
    split <;> simp
  · simp [hi]
theorem am_w_app {em : Int64 → Nat} {ad : Nat → Nat} {ca : Nat → ClassId} {h : List am_C} {q : Nat} {cA : ClassId} {c : am_C} {E : va_E} (hw : ∀ (k : Nat) (c : am_C), h[k]? = some c → am_okc h.length c) (hE : E = am_ce em (va_up ad h.length q) cA c) :
    am_w em ad ca h ++ [(q, E)] = am_w em (va_up ad h.length q) (va_up ca h.length cA) (h ++ [c]) := by
  apply List.ext_getElem?
  intro i
  rcases Nat.lt_trichotomy i h.length with hi | hi | hi
  · rw [List.getElem?_append_left (by rw [am_w_len]; exact hi)]
    obtain ⟨c0, h0⟩ : ∃ c0, h[i]? = some c0 := ⟨_, List.getElem?_eq_getElem hi⟩
    rw [am_w_get h0, am_w_get (c := c0) (by rw [List.getElem?_append_left hi]; exact h0)]
    have e1 : va_up ad h.length q i = ad i := by simp [va_up, Nat.ne_of_lt hi]
    have e2 : va_up ca h.length cA i = ca i := by simp [va_up, Nat.ne_of_lt hi]
    rw [e1, e2, am_ce_eq (ad := ad) (ad' := va_up ad h.length q) (n := h.length) (fun k hk => if_neg (Nat.ne_of_lt hk)) (hw i c0 h0)]
  · subst hi
    have e1 : (am_w em ad ca h ++ [(q, E)])[h.length]? = some (q, E) := by
      rw [List.getElem?_append_right (by rw [am_w_len]; exact Nat.le_refl _), am_w_len]
      simp
    rw [e1, am_w_get (c := c) (by simp), hE]
    simp [va_up]
  · rw [List.getElem?_eq_none (by simp [am_w_len]; omega), List.getElem?_eq_none (by simp [am_w_len]; omega)]
/-- the heap holds the cells -/
def am_Rl (em : Int64 → Nat) (D : va_G) (cl : List vw_C) (A : Nat → Prop) (s : State) (ad : Nat → Nat) (ca : Nat → ClassId) (tys : List (ClassId × FieldType)) (h : List am_C) (H : Heap) : Prop :=
  va_P D cl (am_w em ad ca h) H ∧ va_D A (am_w em ad ca h) ∧ va_K D cl tys s ∧ (∀ (k : Nat) (c : am_C), h[k]? = some c → am_ty tys (ca k) c) ∧ ∀ (k : Nat) (c : am_C), h[k]? = some c → am_okc h.length c
theorem am_Rl.moved {em : Int64 → Nat} {D : va_G} {cl : List vw_C} {A : Nat → Prop} {u U : State} {ad : Nat → Nat} {ca : Nat → ClassId} {tys : List (ClassId × FieldType)} {h : List am_C} {H : Heap} (r : am_Rl em D cl A u ad ca tys h H) (hvm : u.vm.Alike U.vm) : am_Rl em D cl A U ad ca tys h H :=
  ⟨r.1, r.2.1, va_K.moved hvm r.2.2.1, r.2.2.2⟩
theorem am_Rl.weaken {em : Int64 → Nat} {D : va_G} {cl : List vw_C} {A B : Nat → Prop} {u : State} {ad : Nat → Nat} {ca : Nat → ClassId} {tys : List (ClassId × FieldType)} {h : List am_C} {H : Heap} (r : am_Rl em D cl A u ad ca tys h H) (hAB : ∀ q, A q → B q) : am_Rl em D cl B u ad ca tys h H :=
  ⟨r.1, r.2.1.weaken fun _ _ _ x => hAB _ x, r.2.2⟩
/-- the cells that a callee may change: all that are there, and those that it makes -/
def am_A (ad : Nat → Nat) (n sz : Nat) : Nat → Prop := fun q => (∃ k, k < n ∧ q = ad k) ∨ sz ≤ q
theorem am_Rl.own {em : Int64 → Nat} {D : va_G} {cl : List vw_C} {A : Nat → Prop} {u : State} {ad : Nat → Nat} {ca : Nat → ClassId} {tys : List (ClassId × FieldType)} {h : List am_C} {H : Heap} {sz : Nat} (r : am_Rl em D cl A u ad ca tys h H) : am_Rl em D cl (am_A ad h.length sz) u ad ca tys h H := by
  refine ⟨r.1, ⟨r.2.1.1, fun k q hk => ?_⟩, r.2.2⟩
  obtain ⟨c, h1, rfl⟩ := am_w_inv hk
  exact Or.inl ⟨k, (List.getElem?_eq_some_iff.mp h1).1, rfl⟩
theorem am_A.sub {em : Int64 → Nat} {D : va_G} {cl : List vw_C} {A : Nat → Prop} {u : State} {ad : Nat → Nat} {ca : Nat → ClassId} {tys : List (ClassId × FieldType)} {h : List am_C} {H H0 : Heap} {locs : List Loc} (r : am_Rl em D cl A u ad ca tys h H) (hS : va_S A H0 H locs) (hA : ∀ q, H0.size ≤ q → A q) : ∀ q, am_A ad h.length H.size q → A q := by
  rintro q (⟨k, hk, rfl⟩ | hq)
  · obtain ⟨c, hc⟩ : ∃ c, h[k]? = some c := ⟨_, List.getElem?_eq_getElem hk⟩
    exact r.2.1.2 k _ (am_w_get hc)
  · exact hA q (Nat.le_trans hS.1 hq)
/-- locals -/
def am_al (em : Int64 → Nat) (ad : Nat → Nat) (ls : am_V) : List (Nat × Value) := (ls.mapIdx (fun i o => o.map (fun v => (i, am_v em ad v)))).filterMap id
theorem am_al_mem {em : Int64 → Nat} {ad : Nat → Nat} {ls : am_V} {q : Nat × Value} : q ∈ am_al em ad ls ↔ ∃ v, ls[q.1]? = some (some v) ∧ q.2 = am_v em ad v := by
  simp only [am_al, List.mem_filterMap, id]
  constructor
  · rintro ⟨o, ho, rfl⟩
    obtain ⟨i, hi⟩ := List.getElem?_of_mem ho
    simp only [List.getElem?_mapIdx, Option.map_eq_some_iff] at hi
    obtain ⟨o', h1, h2⟩ := hi
    obtain ⟨v, rfl, rfl⟩ := h2
    exact ⟨v, h1, rfl⟩
  · rintro ⟨v, h1, h2⟩
    refine ⟨some (q.1, am_v em ad v), ?_, by rw [← h2]⟩
    have : (ls.mapIdx (fun i o => o.map (fun v => (i, am_v em ad v))))[q.1]? = some (some (q.1, am_v em ad v)) := by simp [List.getElem?_mapIdx, h1]
    exact List.mem_of_getElem? this
def am_lo (em : Int64 → Nat) (nL : Nat) (lsA : Array Slot) (ad : Nat → Nat) (ls : am_V) : Prop := lv_has lsA nL (am_al em ad ls) ∧ ls.length = nL
theorem am_lo.at {em : Int64 → Nat} {nL : Nat} {lsA : Array Slot} {ad : Nat → Nat} {ls : am_V} (h : am_lo em nL lsA ad ls) {i : Nat} {v : Value} (hi : ls[i]? = some (some v)) : lsA[i]? = some (.val (am_v em ad v)) :=
  h.1.2.2 (i, am_v em ad v) (am_al_mem.mpr ⟨v, hi, rfl⟩)
theorem am_lo.set {em : Int64 → Nat} {nL : Nat} {lsA lsA' : Array Slot} {ad : Nat → Nat} {ls : am_V} {i : Nat} {v : Value} (h : am_lo em nL lsA ad ls) (hc : ∀ w, ls[i - 1]? = some (some w) → (am_v em ad w).category = 1) (h' : lv_has lsA' nL ((i, am_v em ad v) :: (am_al em ad ls).filter (fun q => !(q.1 == i) && !(q.1 + 1 == i && q.2.category == 2)))) : am_lo em nL lsA' ad (ls.set i (some v)) := by
  refine ⟨⟨h'.1, h'.2.1, fun q hq => ?_⟩, by simp [h.2]⟩
  obtain ⟨w, hw, hq2⟩ := am_al_mem.mp hq
  rw [List.getElem?_set] at hw
  by_cases hi : i = q.1
  · rw [if_pos hi] at hw
    split at hw
    · cases hw
      exact h'.2.2 q (by rw [show q = (i, am_v em ad v) from Prod.ext hi.symm hq2]; exact List.mem_cons_self)
    · cases hw
  · rw [if_neg hi] at hw
    refine h'.2.2 q (List.mem_cons_of_mem _ (List.mem_filter.mpr ⟨am_al_mem.mpr ⟨w, hw, hq2⟩, ?_⟩))
    have hne : (q.1 == i) = false := by simp; exact fun z => hi z.symm
    rw [hne]
    by_cases h1 : q.1 + 1 = i
    · have : q.2.category = 1 := by rw [hq2]; exact hc w (by rw [← h1]; exact hw)
      simp [this]
    · simp [h1]
theorem am_lo.drop {em : Int64 → Nat} {nL : Nat} {lsA : Array Slot} {ad : Nat → Nat} {ls : am_V} (i : Nat) (h : am_lo em nL lsA ad ls) : am_lo em nL lsA ad (ls.set i none) := by
  refine ⟨⟨h.1.1, h.1.2.1, fun q hq => ?_⟩, by simp [h.2]⟩
  obtain ⟨w, hw, hq2⟩ := am_al_mem.mp hq
  rw [List.getElem?_set] at hw
  by_cases hi : i = q.1
  · rw [if_pos hi] at hw
    split at hw <;> cases hw
  · rw [if_neg hi] at hw
    exact h.1.2.2 q (am_al_mem.mpr ⟨w, hw, hq2⟩)
def am_okl (n : Nat) (ls : am_V) : Prop := ∀ (i : Nat) (v : Value), ls[i]? = some (some v) → am_okv n v
theorem am_okl.set {n : Nat} {ls : am_V} {i : Nat} {v : Value} (h : am_okl n ls) (hv : am_okv n v) : am_okl n (ls.set i (some v)) := by
  intro j w hw
  rw [List.getElem?_set] at hw
  split at hw
  · split at hw
    · cases hw; exact hv
    · cases hw
  · exact h j w hw
theorem am_okl.drop {n : Nat} {ls : am_V} (i : Nat) (h : am_okl n ls) : am_okl n (ls.set i none) := by
  intro j w hw
  rw [List.getElem?_set] at hw
  split at hw
  · split at hw <;> cases hw
  · exact h j w hw
theorem am_lo.agree {em : Int64 → Nat} {nL n : Nat} {lsA : Array Slot} {ad ad' : Nat → Nat} {ls : am_V} (h : am_lo em nL lsA ad ls) (ho : am_okl n ls) (ha : ∀ k, k < n → ad' k = ad k) : am_lo em nL lsA ad' ls := by
  refine ⟨⟨h.1.1, h.1.2.1, fun q hq => ?_⟩, h.2⟩
  obtain ⟨w, hw, hq2⟩ := am_al_mem.mp hq
  rw [am_v_eq ha (ho _ _ hw)] at hq2
  exact h.1.2.2 q (am_al_mem.mpr ⟨w, hw, hq2⟩)
theorem am_st_eq {em : Int64 → Nat} {ad ad' : Nat → Nat} {n : Nat} (ha : ∀ k, k < n → ad' k = ad k) {st : List Value} (h : ∀ v ∈ st, am_okv n v) : st.map (am_v em ad') = st.map (am_v em ad) :=
  List.map_congr_left fun v hv => am_v_eq ha (h v hv)
/-- the counts never fall, nor do the cells go -/
theorem am_do_up {nb : Nat → List Value} {sc : Nat × (Nat → Int32)} {op a b c d nx pc' : Nat} {x : Int32} {tab : List (Int32 × Nat)} {ls ls' : am_V} {st st' : List Value} {S S' : am_S} (h : am_do nb sc op a b c x nx tab d ls st S = some (pc', ls', st', S')) : S.2.1 ≤ S'.2.1 ∧ S.2.2 ≤ S'.2.2 ∧ S.1.length ≤ S'.1.length := by
  unfold am_do at h
  repeat' split at h
  all_goals first
    | (cases h; done)
    | (simp only [Option.some.injEq, Prod.mk.injEq] at h; obtain ⟨-, -, -, rfl⟩ := h; refine ⟨?_, ?_, ?_⟩ <;> simp <;> done)
theorem am_run_up (P : am_P) : ∀ (n d M pc : Nat) (ls : am_V) (st : List Value) (S : am_S) (o : Option (Option Value)) (S' : am_S), am_run P n d M pc ls st S = some (o, S') → S.2.1 ≤ S'.2.1 ∧ S.2.2 ≤ S'.2.2 ∧ S.1.length ≤ S'.1.length := by
  intro n
  induction n with
  | zero => intro d M pc ls st S o S' h; simp [am_run] at h
  | succ n ih =>
    intro d M pc ls st S o S' h
    have key : ∀ {S1 : am_S}, (S.2.1 ≤ S1.2.1 ∧ S.2.2 ≤ S1.2.2 ∧ S.1.length ≤ S1.1.length) → (S1.2.1 ≤ S'.2.1 ∧ S1.2.2 ≤ S'.2.2 ∧ S1.1.length ≤ S'.1.length) → S.2.1 ≤ S'.2.1 ∧ S.2.2 ≤ S'.2.2 ∧ S.1.length ≤ S'.1.length := fun a b => ⟨Nat.le_trans a.1 b.1, Nat.le_trans a.2.1 b.2.1, Nat.le_trans a.2.2 b.2.2⟩
    rw [am_run] at h
    cases hi : P.1 M pc with
    | none => rw [hi] at h; cases h
    | some i =>
      obtain ⟨op, a, b, c, x, nx, tab⟩ := i
      rw [hi] at h
      dsimp only at h
      by_cases h32 : op = 32
      · rw [if_pos h32] at h
        split at h
        · cases d with
          | zero => cases h
          | succ d' =>
            dsimp only at h
            cases hc : am_run P n d' a 0 (am_in (st.take b).reverse (P.2.2.1 a)) [] S with
            | none => rw [hc] at h; cases h
            | some q =>
              rw [hc] at h
              obtain ⟨o1, S1⟩ := q
              have u1 := ih _ _ _ _ _ _ _ _ hc
              cases o1 with
              | some v => exact key u1 (ih _ _ _ _ _ _ _ _ h)
              | none =>
                dsimp only at h
                cases hh : P.2.2.2.1 M pc with
                | none => rw [hh] at h; cases h; exact u1
                | some q => rw [hh] at h; exact key u1 (ih _ _ _ _ _ _ _ _ h)
        · cases h
      · rw [if_neg h32] at h
        by_cases h37 : op = 37
        · rw [if_pos h37] at h
          split at h
          · cases h; exact ⟨Nat.le_succ _, Nat.le_add_right _ _, Nat.le_refl _⟩
          · cases h
        · rw [if_neg h37] at h
          by_cases h33 : 33 ≤ op ∧ op ≤ 36
          · rw [if_pos h33] at h
            cases hr : am_ret op st with
            | none => rw [hr] at h; cases h
            | some v => rw [hr] at h; cases h; exact ⟨Nat.le_refl _, Nat.le_refl _, Nat.le_refl _⟩
          · rw [if_neg h33] at h
            cases hd : am_do P.2.1 P.2.2.2.2 op a b c x nx tab d ls st S with
            | none => rw [hd] at h; cases h
            | some q =>
              rw [hd] at h
              obtain ⟨pc', ls', st', S1⟩ := q
              exact key (am_do_up hd) (ih _ _ _ _ _ _ _ _ h)
