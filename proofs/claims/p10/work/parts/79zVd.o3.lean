/-! OUTERS: both find the same local -/
def LV (l : List xR) (t : Int32) (j : Nat) : Prop := ∃ q, l[j]? = some q ∧ vis t q = true ∧ ∀ i q', j < i → l[i]? = some q' → vis t q' = false
theorem LV.uni {l : List xR} {t : Int32} {i j : Nat} (hi : LV l t i) (hj : LV l t j) : i = j := by
  obtain ⟨p, p1, p2, p3⟩ := hi
  obtain ⟨q, q1, q2, q3⟩ := hj
  rcases Nat.lt_trichotomy i j with z | z | z
  · exact absurd q2 (by rw [p3 j q z q1]; exact Bool.false_ne_true)
  · exact z
  · exact absurd p2 (by rw [q3 i p z p1]; exact Bool.false_ne_true)
theorem scan {b : Int32 → Nat × Int32} {t : Int32} {L : List xR} {c : Nat} (hc : c ≠ 0) (hL : L.length ≤ 1000000) (h1 : ∀ (i : Nat) (q : xR) (x : Int32), L[i]? = some q → x.toInt = (i : Int) → b x = if vis t q = true then (1, x) else (0, x + (-1))) (h2 : ∀ x, x < 0 → b x = (c, x)) : ∀ (n : Nat) (x : Int32), n ≤ L.length → x.toInt + 1 = n → (∀ i q', n ≤ i → L[i]? = some q' → vis t q' = false) → (∃ j, LV L t j ∧ ∃ m, kwh b m x = (1, xn j)) ∨ ((∀ q ∈ L, vis t q = false) ∧ ∃ m v, kwh b m x = (c, v) ∧ v < 0) := by
  have ez : (0 : Int32).toInt = 0 := rfl
  intro n
  induction n with
  | zero =>
    intro x _ hx hn
    right
    have hx0 : x < 0 := by rw [i_lt, ez]; omega
    refine ⟨fun q hq => ?_, 1, x, by rw [kwh_out (by rw [h2 x hx0]; exact hc), h2 x hx0], hx0⟩
    obtain ⟨i, hi⟩ := List.getElem?_of_mem hq
    exact hn i q (Nat.zero_le _) hi
  | succ n ih =>
    intro x hl hx hn
    have hxn : x.toInt = (n : Int) := by omega
    have hq : L[n]? = some L[n] := List.getElem?_eq_getElem (by omega)
    have e := h1 n _ x hq hxn
    by_cases cv : vis t L[n] = true
    · left
      rw [if_pos cv] at e
      refine ⟨n, ⟨_, hq, cv, fun i q' hi hq' => hn i q' hi hq'⟩, 1, ?_⟩
      rw [kwh_out (by rw [e]; exact Nat.succ_ne_zero _), e, ← xn_eq hxn (by omega)]
    · rw [if_neg cv] at e
      have ex1 : (x + (-1)).toInt = x.toInt + (-1) := i_add rfl (show (-1 : Int32).toInt = -1 from rfl) (by omega) (by omega)
      have hn' : ∀ i q', n ≤ i → L[i]? = some q' → vis t q' = false := fun i q' hi hq' => by
        rcases Nat.lt_or_ge n i with z | z
        · exact hn i q' z hq'
        · have : i = n := by omega
          subst this
          rw [hq] at hq'
          cases hq'
          exact Bool.eq_false_iff.mpr cv
      rcases ih (x + (-1)) (by omega) (by omega) hn' with ⟨j, j1, m, j2⟩ | ⟨j1, m, v, j2, j3⟩
      · exact Or.inl ⟨j, j1, m + 1, by rw [kwh_go (by rw [e]), e]; exact j2⟩
      · exact Or.inr ⟨j1, m + 1, v, by rw [kwh_go (by rw [e]), e]; exact j2, j3⟩
theorem vis_if {α : Type} {t : Int32} {q : xR} {x y : α} : (if vis t q = true then x else y) = (if q.1 ≠ t then y else if q.2.1 &&& 1 = 0 then y else x) := by
  unfold vis
  by_cases c1 : q.1 = t
  · rw [if_neg (c := q.1 ≠ t) (fun z => z c1), decide_eq_true c1, Bool.true_and]
    by_cases c2 : q.2.1 &&& 1 = 0
    · rw [if_pos c2, decide_eq_false (p := q.2.1 &&& 1 ≠ 0) (fun z => z c2), if_neg Bool.false_ne_true]
    · rw [if_neg c2, decide_eq_true c2, if_pos rfl]
  · rw [if_pos c1, decide_eq_false c1, Bool.false_and, if_neg Bool.false_ne_true]
theorem c67_pos {e : Nat} {s : cS} {X : List xF} {t : Int32} (h : XC e s X) (hz : SZ X) : (∃ j, LV (fL X) t j ∧ c67 s t = xn j) ∨ ((∀ q ∈ fL X, vis t q = false) ∧ c67 s t = -1) := by
  have zz := hz.g.1
  have ez : (0 : Int32).toInt = 0 := rfl
  have hx : (s.r (.s 14) - 1).toInt + 1 = (fL X).length := by
    rw [i_sub h.1.1 (show (1 : Int32).toInt = 1 from rfl) (by omega) (by omega)]
    omega
  have hA : ∀ (i : Nat) (q : xR) (x : Int32), (fL X)[i]? = some q → x.toInt = (i : Int) → c67b10 s t x = if vis t q = true then (1, x) else (0, x + (-1)) := by
    intro i q x hq hxi
    rw [vis_if]
    unfold c67b10
    rw [if_neg (by rw [i_lt, ez]; omega), h.1.g0 hxi hq, h.1.g1 hxi hq]
  have hB : ∀ x, x < 0 → c67b10 s t x = (2, x) := by
    intro x hx0
    unfold c67b10
    rw [if_pos hx0]
  have hC : ∀ (i : Nat) (q' : xR), (fL X).length ≤ i → (fL X)[i]? = some q' → vis t q' = false := by
    intro i q' hi hq
    have := (List.getElem?_eq_some_iff.mp hq).1
    omega
  rcases scan (t := t) (L := fL X) (c := 2) (by decide) zz hA hB _ (s.r (.s 14) - 1) (Nat.le_refl _) hx hC with ⟨j, j1, j2⟩ | ⟨j1, m, v, j2, j3⟩
  · left
    have hk := kfin_of j2 (Nat.succ_ne_zero 0)
    exact ⟨j, j1, by unfold c67; rw [hk]; rfl⟩
  · right
    have hk := kfin_of ⟨m, j2⟩ (Nat.succ_ne_zero 1)
    exact ⟨j1, by unfold c67; rw [hk]; rfl⟩
theorem k206_pos {k : kS} {X : List xF} {t : Int32} (h : XK k X) (hz : SZ X) : (∃ j, LV (kL X) t j ∧ k206 k t = xn j) ∨ ((∀ q ∈ kL X, vis t q = false) ∧ k206 k t < 0) := by
  have zz := hz.k.1
  have ez : (0 : Int32).toInt = 0 := rfl
  have hx : (k.1 24 - 1).toInt + 1 = (kL X).length := by
    rw [h.1.1, i_sub (xn_i (by omega)) (show (1 : Int32).toInt = 1 from rfl) (by omega) (by omega)]
    omega
  have hA : ∀ (i : Nat) (q : xR) (x : Int32), (kL X)[i]? = some q → x.toInt = (i : Int) → k206b7 k t x = if vis t q = true then (1, x) else (0, x + (-1)) := by
    intro i q x hq hxi
    rw [vis_if]
    obtain ⟨g0, g1, _⟩ := h.1.2 i q hq
    have xn' : x.toNatClampNeg = i := by show x.toInt.toNat = i; omega
    have r25 : kr k 25 x = q.1 := by show k.2 25 x.toNatClampNeg = _; rw [xn']; exact g0
    have r28 : kr k 28 x = k.2 28 i := by show k.2 28 x.toNatClampNeg = _; rw [xn']
    unfold k206b7
    rw [if_neg (by rw [i_lt, ez]; omega), r25, r28]
    by_cases c1 : q.1 = t
    · rw [if_neg (c := q.1 ≠ t) (fun z => z c1), if_neg (c := q.1 ≠ t) (fun z => z c1)]
      by_cases c2 : q.2.1 &&& 1 = 0
      · rw [if_neg (fun z => g1.mp z c2), if_pos c2]
      · rw [if_pos (g1.mpr c2), if_neg c2]
    · rw [if_pos c1, if_pos c1]
  have hB : ∀ x, x < 0 → k206b7 k t x = (1, x) := by
    intro x hx0
    unfold k206b7
    rw [if_pos hx0]
  have hC : ∀ (i : Nat) (q' : xR), (kL X).length ≤ i → (kL X)[i]? = some q' → vis t q' = false := by
    intro i q' hi hq
    have := (List.getElem?_eq_some_iff.mp hq).1
    omega
  rcases scan (t := t) (L := kL X) (c := 1) (by decide) zz hA hB _ (k.1 24 - 1) (Nat.le_refl _) hx hC with ⟨j, j1, j2⟩ | ⟨j1, m, v, j2, j3⟩
  · left
    have hk := kfin_of j2 (Nat.succ_ne_zero 0)
    exact ⟨j, j1, by unfold k206; rw [hk]⟩
  · right
    have hk := kfin_of ⟨m, j2⟩ (Nat.succ_ne_zero 0)
    exact ⟨j1, by unfold k206; rw [hk]; exact j3⟩
theorem LV_dec {t : Int32} : ∀ {X : List xF} {j : Nat}, WV X → LV (fL X) t j → ∃ P f r n, X = P ++ f :: r ∧ n < f.2.1.length ∧ j = (fL r).length + n ∧ LV (kL X) t ((kL r).length + n) := by
  intro X
  induction X with
  | nil => rintro j _ ⟨q, q1, _⟩; cases q1
  | cons f r ih =>
    rintro j hw ⟨q, q1, q2, q3⟩
    have eL : fL (f :: r) = fL r ++ (f.2.1 ++ f.2.2.1) := rfl
    have eK : kL (f :: r) = kL r ++ f.2.1 := rfl
    rw [eL] at q1 q3
    have g1 : ∀ i, i < (fL r).length → (fL r ++ (f.2.1 ++ f.2.2.1))[i]? = (fL r)[i]? := fun i hi => List.getElem?_append_left hi
    have g2 : ∀ i, i < f.2.1.length → (fL r ++ (f.2.1 ++ f.2.2.1))[(fL r).length + i]? = f.2.1[i]? := fun i hi => by
      rw [List.getElem?_append_right (by omega), Nat.add_sub_cancel_left, List.getElem?_append_left hi]
    rw [eK]
    rcases Nat.lt_or_ge j (fL r).length with z | z
    · rw [g1 j z] at q1
      obtain ⟨P, f', r', n, e1, e2, e3, p, p1, p2, p3⟩ := ih hw.2 ⟨q, q1, q2, fun i q' hi hq' => q3 i q' hi (by rw [g1 i (List.getElem?_eq_some_iff.mp hq').1]; exact hq')⟩
      refine ⟨f :: P, f', r', n, by rw [e1]; rfl, e2, e3, p, ?_, p2, fun i q' hi hq' => ?_⟩
      · rw [List.getElem?_append_left (List.getElem?_eq_some_iff.mp p1).1]
        exact p1
      · rcases Nat.lt_or_ge i (kL r).length with y | y
        · rw [List.getElem?_append_left y] at hq'
          exact p3 i q' hi hq'
        · rw [List.getElem?_append_right y] at hq'
          have l1 := (List.getElem?_eq_some_iff.mp hq').1
          exact q3 ((fL r).length + (i - (kL r).length)) q' (by omega) (by rw [g2 _ l1]; exact hq')
    · rcases Nat.lt_or_ge j ((fL r).length + f.2.1.length) with y | y
      · have ej : j = (fL r).length + (j - (fL r).length) := by omega
        rw [ej, g2 _ (by omega)] at q1
        refine ⟨[], f, r, j - (fL r).length, rfl, by omega, ej, q, ?_, q2, fun i q' hi hq' => ?_⟩
        · rw [List.getElem?_append_right (by omega), Nat.add_sub_cancel_left]
          exact q1
        · rw [List.getElem?_append_right (by omega)] at hq'
          have l1 := (List.getElem?_eq_some_iff.mp hq').1
          exact q3 ((fL r).length + (i - (kL r).length)) q' (by omega) (by rw [g2 _ l1]; exact hq')
      · exfalso
        rw [List.getElem?_append_right z, List.getElem?_append_right (by omega)] at q1
        have := hw.1 q (List.mem_of_getElem? q1)
        unfold vis at q2
        rw [decide_eq_false (p := q.2.1 &&& 1 ≠ 0) (fun z => z this), Bool.and_false] at q2
        exact Bool.false_ne_true q2
theorem kL_fL : ∀ {X : List xF}, ∀ q ∈ kL X, q ∈ fL X := by
  intro X
  induction X with
  | nil => intro q hq; exact hq
  | cons f r ih =>
    intro q hq
    rcases List.mem_append.mp (show q ∈ kL r ++ f.2.1 from hq) with z | z
    · exact List.mem_append_left _ (ih q z)
    · exact List.mem_append_right _ (List.mem_append_left _ z)
theorem fnd {e : Nat} {s : cS} {k : kS} {X : List xF} {t : Int32} (h : XC e s X) (hk : XK k X) (hz : SZ X) (hw : WV X) : (∃ P f r n, X = P ++ f :: r ∧ n < f.2.1.length ∧ c67 s t = xn ((fL r).length + n) ∧ k206 k t = xn ((kL r).length + n)) ∨ (c67 s t = -1 ∧ k206 k t < 0) := by
  rcases c67_pos (t := t) h hz with ⟨j, j1, j2⟩ | ⟨j1, j2⟩
  · obtain ⟨P, f, r, n, e1, e2, e3, e4⟩ := LV_dec hw j1
    left
    refine ⟨P, f, r, n, e1, e2, by rw [j2, e3], ?_⟩
    rcases k206_pos (t := t) hk hz with ⟨i, i1, i2⟩ | ⟨i1, _⟩
    · rw [i2, i1.uni e4]
    · obtain ⟨q, q1, q2, _⟩ := e4
      exact absurd q2 (by rw [i1 q (List.mem_of_getElem? q1)]; exact Bool.false_ne_true)
  · right
    refine ⟨j2, ?_⟩
    rcases k206_pos (t := t) hk hz with ⟨i, i1, i2⟩ | ⟨_, i2⟩
    · obtain ⟨q, q1, q2, _⟩ := i1
      exact absurd q2 (by rw [j1 q (kL_fL q (List.mem_of_getElem? q1))]; exact Bool.false_ne_true)
    · exact i2
