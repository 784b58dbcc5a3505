/-! OUTERS: each row of a function that is begun means a local that is there -/
def AT (k : kS) (E : List (Nat × oR)) (h : xF) (Y : List xF) (kd x id : Int32) : Prop := (kd = 1 ∧ ∃ n, x = xn n ∧ n < h.2.1.length ∧ id = k.2 27 ((kL Y).length + n)) ∨ (kd = 0 ∧ ∃ n q, x = xn n ∧ (oo E (h.1 - 1))[n]? = some q ∧ q.1 = id)
def OI (k : kS) (E : List (Nat × oR)) : List xF → Prop
  | [] => True
  | f :: r => (∀ n, n < f.2.1.length → k.2 26 ((kL r).length + n) = xn r.length) ∧ ((oo E (f.1 - 1)).map (fun q => q.1)).Nodup ∧ (∀ q ∈ oo E (f.1 - 1), ∃ h r', r = h :: r' ∧ AT k E h r' q.2.1 q.2.2 q.1) ∧ OI k E r
/-- ids of locals grow -/
def IS (k : kS) (m c : Nat) : Prop := k.1 31 = xn c ∧ (∀ i j, i < j → j < m → (k.2 27 i).toInt < (k.2 27 j).toInt) ∧ ∀ i, i < m → (k.2 27 i).toInt < c
/-- how many locals wait -/
def wX : List xF → Nat
  | [] => 0
  | f :: r => wX r + f.2.2.1.length
def OUE (E : List (Nat × oR)) (b : Nat) (s : cS) (k : kS) (X : List xF) : Prop := ∃ N c, k.1 53 = xn N ∧ (N ≤ 1000000 ∧ ∀ x, N ≤ x → 0 ≤ (s.r (.u (x + 1))).toInt) ∧ E.length ≤ b ∧ c + wX X ≤ b ∧ (∀ q ∈ E, q.1 < N) ∧ OE k E ∧ (∀ x, x < N → TR s (.u (x + 1)) ((oo E x).map (fun q => (q.2.1, q.2.2, 0, 0))) ∧ k.2 67 x = xn (oo E x).length) ∧ OI k E X ∧ IS k (kL X).length c
def OU (b : Nat) (s : cS) (k : kS) (X : List xF) : Prop := ∃ E, OUE E b s k X
section OUS
variable {k k' : kS} {E E' : List (Nat × oR)} {X Y : List xF} {f g h : xF}
theorem oo_len {n : Nat} : (oo E n).length ≤ E.length := by
  unfold oo
  rw [List.length_map]
  exact List.length_filter_le _ _
theorem IS.inj {m c i j : Nat} (z : IS k m c) (hi : i < m) (hj : j < m) (e : k.2 27 i = k.2 27 j) : i = j := by
  rcases Nat.lt_trichotomy i j with q | q | q
  · have := z.2.1 i j q hj
    rw [e] at this
    omega
  · exact q
  · have := z.2.1 j i q hi
    rw [e] at this
    omega
/-- what a row of h means lies below h's own -/
theorem OI.low : ∀ {Y : List xF} {h : xF}, OI k E (h :: Y) → ∀ q ∈ oo E (h.1 - 1), ∃ j, j < (kL Y).length ∧ q.1 = k.2 27 j := by
  intro Y
  induction Y with
  | nil =>
    rintro h ⟨_, _, h3, _⟩ q hq
    obtain ⟨_, _, e, _⟩ := h3 q hq
    cases e
  | cons y Y ih =>
    rintro h ⟨_, _, h3, h4⟩ q hq
    obtain ⟨f, r', e, h5⟩ := h3 q hq
    cases e
    rcases h5 with ⟨_, n, _, n2, n3⟩ | ⟨_, n, q', _, n2, n3⟩
    · refine ⟨(kL Y).length + n, ?_, n3⟩
      show _ < (kL Y ++ y.2.1).length
      rw [List.length_append]
      omega
    · obtain ⟨j, j1, j2⟩ := ih h4 q' (List.mem_of_getElem? n2)
      refine ⟨j, ?_, by rw [← n3]; exact j2⟩
      show _ < (kL Y ++ y.2.1).length
      rw [List.length_append]
      omega
theorem nd_get : ∀ {l : List oR}, (l.map (fun q => q.1)).Nodup → ∀ {i j : Nat} {p q : oR}, l[i]? = some p → l[j]? = some q → p.1 = q.1 → i = j := by
  intro l
  induction l with
  | nil => intro _ i j p q hi; cases hi
  | cons x l ih =>
    intro hn i j p q hi hj e
    obtain ⟨n1, n2⟩ := List.nodup_cons.mp hn
    cases i with
    | zero =>
      cases j with
      | zero => rfl
      | succ j =>
        have ex : x = p := Option.some.inj hi
        have hj' : l[j]? = some q := hj
        exact absurd (List.mem_map.mpr ⟨q, List.mem_of_getElem? hj', (by rw [ex]; exact e.symm)⟩) n1
    | succ i =>
      have hi' : l[i]? = some p := hi
      cases j with
      | zero =>
        have ex : x = q := Option.some.inj hj
        exact absurd (List.mem_map.mpr ⟨p, List.mem_of_getElem? hi', (by rw [ex]; exact e)⟩) n1
      | succ j => rw [ih n2 hi' (show l[j]? = some q from hj) e]
theorem AT_uni {c : Nat} {kd x id kd' x' id' : Int32} (hs : E.length ≤ 1000000) (hk : (kL (h :: Y)).length ≤ 1000000) (hi : OI k E (h :: Y)) (hd : IS k (kL (h :: Y)).length c) (h1 : AT k E h Y kd x id) (h2 : AT k E h Y kd' x' id') : id = id' ↔ kd = kd' ∧ x = x' := by
  have hl : (kL (h :: Y)).length = (kL Y).length + h.2.1.length := by show (kL Y ++ h.2.1).length = _; rw [List.length_append]
  have ho : (oo E (h.1 - 1)).length ≤ 1000000 := Nat.le_trans oo_len hs
  have nz : (1 : Int32) ≠ 0 := by decide
  rcases h1 with ⟨rfl, n, rfl, n2, rfl⟩ | ⟨rfl, n, q, rfl, n2, rfl⟩
  · rcases h2 with ⟨rfl, m, rfl, m2, rfl⟩ | ⟨rfl, m, q', rfl, m2, rfl⟩
    · constructor
      · intro e
        have := hd.inj (by omega) (by omega) e
        have : n = m := by omega
        rw [this]
        exact ⟨rfl, rfl⟩
      · rintro ⟨_, e⟩
        rw [xn_inj (by omega) (by omega) e]
    · constructor
      · intro e
        obtain ⟨j, j1, j2⟩ := hi.low q' (List.mem_of_getElem? m2)
        rw [j2] at e
        have := hd.inj (by omega) (by omega) e
        omega
      · rintro ⟨e, _⟩
        exact absurd e nz
  · have ln := (List.getElem?_eq_some_iff.mp n2).1
    rcases h2 with ⟨rfl, m, rfl, m2, rfl⟩ | ⟨rfl, m, q', rfl, m2, rfl⟩
    · constructor
      · intro e
        obtain ⟨j, j1, j2⟩ := hi.low q (List.mem_of_getElem? n2)
        rw [j2] at e
        have := hd.inj (by omega) (by omega) e
        omega
      · rintro ⟨e, _⟩
        exact absurd e.symm nz
    · have lm := (List.getElem?_eq_some_iff.mp m2).1
      constructor
      · intro e
        rw [nd_get hi.2.1 n2 m2 e]
        exact ⟨rfl, rfl⟩
      · rintro ⟨_, e⟩
        have := xn_inj (by omega) (by omega) e
        subst this
        rw [n2] at m2
        cases m2
        rfl
theorem AT.more {kd x id : Int32} {e : Nat × oR} (h1 : AT k E h Y kd x id) : AT k (E ++ [e]) h Y kd x id := by
  rcases h1 with z | ⟨z, n, q, n1, n2, n3⟩
  · exact Or.inl z
  · refine Or.inr ⟨z, n, q, n1, ?_, n3⟩
    rw [oo_app, List.getElem?_append_left (List.getElem?_eq_some_iff.mp n2).1]
    exact n2
theorem oo_other {n m : Nat} {w : oR} (hn : m ≠ n) : oo (E ++ [(m, w)]) n = oo E n := by
  rw [oo_app, oo_cons, if_neg hn]
  exact List.append_nil _
theorem oo_own {n : Nat} {w : oR} : oo (E ++ [(n, w)]) n = oo E n ++ [w] := by
  rw [oo_app, oo_cons, if_pos rfl]
  rfl
theorem OI.oth {n : Nat} {w : oR} : ∀ {X : List xF}, OI k E X → (∀ f ∈ X, n ≠ f.1 - 1) → OI k (E ++ [(n, w)]) X := by
  intro X
  induction X with
  | nil => intro _ _; trivial
  | cons f r ih =>
    rintro ⟨h1, h2, h3, h4⟩ hn
    have e := oo_other (E := E) (w := w) (hn f List.mem_cons_self)
    refine ⟨h1, by rw [e]; exact h2, ?_, ih h4 (fun g hg => hn g (List.mem_cons_of_mem _ hg))⟩
    rw [e]
    intro q hq
    obtain ⟨h, r', e1, e2⟩ := h3 q hq
    exact ⟨h, r', e1, e2.more⟩
/-- begun functions are different -/
def DF : List xF → Prop
  | [] => True
  | f :: r => 1 ≤ f.1 ∧ (∀ g ∈ r, g.1 ≠ f.1) ∧ DF r
theorem DF.app : ∀ {P : List xF}, DF (P ++ X) → DF X := by
  intro P
  induction P with
  | nil => intro z; exact z
  | cons p P ih => intro z; exact ih z.2.2
theorem DF.ge : ∀ {X : List xF}, DF X → ∀ f ∈ X, 1 ≤ f.1 := by
  intro X
  induction X with
  | nil => intro _ f hf; cases hf
  | cons g r ih =>
    intro z f hf
    rcases List.mem_cons.mp hf with rfl | hf
    · exact z.1
    · exact ih z.2.2 f hf
theorem OI.add {kd x id : Int32} : ∀ {P : List xF}, OI k E (P ++ g :: h :: Y) → DF (P ++ g :: h :: Y) → AT k E h Y kd x id → id ∉ (oo E (g.1 - 1)).map (fun q => q.1) → OI k (E ++ [(g.1 - 1, id, kd, x)]) (P ++ g :: h :: Y) := by
  intro P
  induction P with
  | nil =>
    rintro ⟨h1, h2, h3, h4⟩ hd ha hn
    refine ⟨h1, ?_, ?_, OI.oth h4 (fun f hf => ?_)⟩
    · rw [oo_own, List.map_append]
      refine List.nodup_append.mpr ⟨h2, List.nodup_cons.mpr ⟨List.not_mem_nil, List.nodup_nil⟩, fun a hA b hB => ?_⟩
      have : b = id := by
        rcases List.mem_cons.mp hB with z | z
        · exact z
        · cases z
      rw [this]
      intro z
      exact hn (z ▸ hA)
    · rw [oo_own]
      intro q hq
      rcases List.mem_append.mp hq with hq | hq
      · obtain ⟨h', r', e1, e2⟩ := h3 q hq
        exact ⟨h', r', e1, e2.more⟩
      · have : q = (id, kd, x) := by
          rcases List.mem_cons.mp hq with z | z
          · exact z
          · cases z
        subst this
        exact ⟨h, Y, rfl, ha.more⟩
    · have a1 := hd.2.1 f hf
      have a2 := hd.1
      have a3 := DF.ge hd.2.2 f hf
      omega
  | cons p P ih =>
    rintro ⟨h1, h2, h3, h4⟩ hd ha hn
    have a1 := hd.2.1 g (List.mem_append_right _ List.mem_cons_self)
    have a2 := hd.1
    have a3 := DF.ge hd.2.2 g (List.mem_append_right _ List.mem_cons_self)
    have e := oo_other (E := E) (w := (id, kd, x)) (n := p.1 - 1) (m := g.1 - 1) (by omega)
    refine ⟨h1, by rw [e]; exact h2, ?_, ih h4 hd.2.2 ha hn⟩
    rw [e]
    intro q hq
    obtain ⟨h', r', e1, e2⟩ := h3 q hq
    exact ⟨h', r', e1, e2.more⟩
theorem OI.app : ∀ {P : List xF}, OI k E (P ++ X) → OI k E X := by
  intro P
  induction P with
  | nil => intro z; exact z
  | cons p P ih => intro z; exact ih z.2.2.2
theorem OI.fr : ∀ {X : List xF}, OI k E X → k'.2 26 = k.2 26 → k'.2 27 = k.2 27 → OI k' E X := by
  intro X
  induction X with
  | nil => intro _ _ _; trivial
  | cons f r ih =>
    rintro ⟨h1, h2, h3, h4⟩ e1 e2
    refine ⟨by rw [e1]; exact h1, h2, fun q hq => ?_, ih h4 e1 e2⟩
    obtain ⟨h, r', a1, a2⟩ := h3 q hq
    refine ⟨h, r', a1, ?_⟩
    unfold AT
    rw [e2]
    exact a2
theorem kL_app : ∀ {P : List xF}, (kL X).length ≤ (kL (P ++ X)).length := by
  intro P
  induction P with
  | nil => exact Nat.le_refl _
  | cons p P ih =>
    show _ ≤ (kL (P ++ X) ++ p.2.1).length
    rw [List.length_append]
    omega
theorem IS.less {m m' c : Nat} (h : IS k m c) (hm : m' ≤ m) : IS k m' c := ⟨h.1, fun i j a b => h.2.1 i j a (by omega), fun i a => h.2.2 i (by omega)⟩
end OUS
