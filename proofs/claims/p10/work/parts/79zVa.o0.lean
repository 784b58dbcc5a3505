/-! OUTERS: what both sides find in their tables -/
abbrev oR : Type := Int32 × Int32 × Int32
/-- the first place, counted from n, of which p holds -/
def fpl {α : Type} (p : α → Bool) : List α → Nat → Option Nat
  | [], _ => none
  | x :: l, n => if p x = true then some n else fpl p l (n + 1)
theorem fpl_eq {α β : Type} {p : α → Bool} {p' : β → Bool} {f : α → β} : ∀ {l : List α} {n : Nat}, (∀ q ∈ l, p q = p' (f q)) → fpl p l n = fpl p' (l.map f) n := by
  intro l
  induction l with
  | nil => intro n _; rfl
  | cons x l ih =>
    intro n h
    show (if p x = true then some n else fpl p l (n + 1)) = (if p' (f x) = true then some n else fpl p' (l.map f) (n + 1))
    rw [h x List.mem_cons_self, ih (fun q hq => h q (List.mem_cons_of_mem _ hq))]
theorem fpl_some {α : Type} {p : α → Bool} : ∀ {l : List α} {n i : Nat}, fpl p l n = some i → ∃ j q, i = n + j ∧ l[j]? = some q ∧ p q = true := by
  intro l
  induction l with
  | nil => intro n i h; cases h
  | cons x l ih =>
    intro n i h
    by_cases c : p x = true
    · have e : fpl p (x :: l) n = some n := if_pos c
      rw [e] at h
      cases h
      exact ⟨0, x, rfl, rfl, c⟩
    · have e : fpl p (x :: l) n = fpl p l (n + 1) := if_neg c
      rw [e] at h
      obtain ⟨j, q, h1, h2, h3⟩ := ih h
      exact ⟨j + 1, q, by omega, h2, h3⟩
theorem fpl_none {α : Type} {p : α → Bool} : ∀ {l : List α} {n : Nat}, fpl p l n = none → ∀ q ∈ l, p q = false := by
  intro l
  induction l with
  | nil => intro n _ q hq; cases hq
  | cons x l ih =>
    intro n h q hq
    by_cases c : p x = true
    · have e : fpl p (x :: l) n = some n := if_pos c
      rw [e] at h
      cases h
    · have e : fpl p (x :: l) n = fpl p l (n + 1) := if_neg c
      rw [e] at h
      rcases List.mem_cons.mp hq with rfl | hq
      · exact Bool.eq_false_iff.mpr c
      · exact ih h q hq
/-- the class: outerNumber -/
def cpr (a b : Int32) (q : xR) : Bool := decide (q.1 = a) && decide (q.2.1 = b)
theorem c69_go {s : cS} {x : Nat} {a b : Int32} : ∀ (L Q : List xR), TR s (.u x) (Q ++ L) → (Q ++ L).length ≤ 1000000 → (∃ i, fpl (cpr a b) L Q.length = some i ∧ ∃ m, kwh (c69b2 s x a b) m (xn Q.length) = (1, xn i)) ∨ (fpl (cpr a b) L Q.length = none ∧ ∃ m v, kwh (c69b2 s x a b) m (xn Q.length) = (2, v)) := by
  intro L
  induction L with
  | nil =>
    intro Q h hz
    right
    refine ⟨rfl, ?_⟩
    have hr : s.r (.u x) ≤ xn Q.length := by
      rw [i_le, h.1, xn_i (by rw [List.length_append] at hz; omega), List.append_nil]
      exact Int.le_refl _
    have e : c69b2 s x a b (xn Q.length) = (2, xn Q.length) := by unfold c69b2; rw [if_pos hr]
    exact ⟨1, xn Q.length, by rw [kwh_out (by rw [e]; exact Nat.succ_ne_zero _), e]⟩
  | cons q L ih =>
    intro Q h hz
    have hl : (Q ++ q :: L)[Q.length]? = some q := by
      rw [List.getElem?_append_right (Nat.le_refl _), Nat.sub_self]
      rfl
    have hlen : (Q ++ q :: L).length = Q.length + (L.length + 1) := by rw [List.length_append]; rfl
    have hi : (xn Q.length).toInt = Q.length := xn_i (by omega)
    have g0 := h.g0 hi hl
    have g1 := h.g1 hi hl
    have hr : ¬ s.r (.u x) ≤ xn Q.length := by rw [i_le, h.1, hi]; omega
    have hs : xn Q.length + 1 = xn (Q.length + 1) := xn_succ (by omega)
    have hQ : (Q ++ [q]).length = Q.length + 1 := by rw [List.length_append]; rfl
    have hap : Q ++ [q] ++ L = Q ++ q :: L := by rw [List.append_assoc]; rfl
    have rcc := ih (Q ++ [q]) (by rw [hap]; exact h) (by rw [hap]; exact hz)
    rw [hQ] at rcc
    have cont : cpr a b q = false → c69b2 s x a b (xn Q.length) = (0, xn (Q.length + 1)) → (∃ i, fpl (cpr a b) (q :: L) Q.length = some i ∧ ∃ m, kwh (c69b2 s x a b) m (xn Q.length) = (1, xn i)) ∨ (fpl (cpr a b) (q :: L) Q.length = none ∧ ∃ m v, kwh (c69b2 s x a b) m (xn Q.length) = (2, v)) := fun hv e => by
      have hf : fpl (cpr a b) (q :: L) Q.length = fpl (cpr a b) L (Q.length + 1) := if_neg (by rw [hv]; exact Bool.false_ne_true)
      rw [hf]
      rcases rcc with ⟨i, r1, m, r2⟩ | ⟨r1, m, v, r2⟩
      · exact Or.inl ⟨i, r1, m + 1, by rw [kwh_go (by rw [e]), e]; exact r2⟩
      · exact Or.inr ⟨r1, m + 1, v, by rw [kwh_go (by rw [e]), e]; exact r2⟩
    by_cases c1 : q.1 = a
    · by_cases c2 : q.2.1 = b
      · left
        have e : c69b2 s x a b (xn Q.length) = (1, xn Q.length) := by
          unfold c69b2
          rw [if_neg hr, g0, if_neg (fun z => z c1), g1, if_neg (fun z => z c2)]
        have hv : cpr a b q = true := by
          unfold cpr
          rw [decide_eq_true c1, decide_eq_true c2]
          rfl
        exact ⟨Q.length, if_pos hv, 1, by rw [kwh_out (by rw [e]; exact Nat.succ_ne_zero _), e]⟩
      · refine cont ?_ ?_
        · unfold cpr
          rw [decide_eq_false c2, Bool.and_false]
        · unfold c69b2
          rw [if_neg hr, g0, if_neg (fun z => z c1), g1, if_pos c2, hs]
    · refine cont ?_ ?_
      · unfold cpr
        rw [decide_eq_false c1, Bool.false_and]
      · unfold c69b2
        rw [if_neg hr, g0, if_pos c1, hs]
theorem c69_yes {s : cS} {x i : Nat} {a b : Int32} {l : List xR} (h : TR s (.u x) l) (hz : l.length ≤ 1000000) (hf : fpl (cpr a b) l 0 = some i) : c69 s x a b = (s, xn i) := by
  rcases c69_go (a := a) (b := b) l [] h hz with ⟨j, r1, r2⟩ | ⟨r1, _⟩
  · have ej : j = i := Option.some.inj (r1.symm.trans hf)
    subst ej
    have hk : kfin (c69b2 s x a b) 0 = (1, xn j) := kfin_of r2 (Nat.succ_ne_zero 0)
    unfold c69
    rw [hk]
    rfl
  · exact absurd (r1.symm.trans hf) (fun z => nomatch z)
theorem c69_no {s : cS} {x : Nat} {a b : Int32} {l : List xR} (h : TR s (.u x) l) (hz : l.length ≤ 1000000) (hf : fpl (cpr a b) l 0 = none) : c69 s x a b = tad s (.u x) a b 0 0 := by
  rcases c69_go (a := a) (b := b) l [] h hz with ⟨j, r1, _⟩ | ⟨_, m, v, r2⟩
  · exact absurd (r1.symm.trans hf) (fun z => nomatch z)
  · have hk : kfin (c69b2 s x a b) 0 = (2, v) := kfin_of ⟨m, r2⟩ (Nat.succ_ne_zero 1)
    unfold c69
    rw [hk]
    rfl
/-! the reference: its rows of all functions, in the order in which they were made: owner; id, kind, number -/
def OE (k : kS) (E : List (Nat × oR)) : Prop := k.1 62 = xn E.length ∧ ∀ i q, E[i]? = some q → k.2 63 i = xn q.1 ∧ k.2 64 i = q.2.1 ∧ k.2 65 i = q.2.2.1 ∧ k.2 66 i = q.2.2.2
def oo (E : List (Nat × oR)) (n : Nat) : List oR := (E.filter (fun q => decide (q.1 = n))).map (fun q => q.2)
theorem oo_cons {q : Nat × oR} {E : List (Nat × oR)} {n : Nat} : oo (q :: E) n = if q.1 = n then q.2 :: oo E n else oo E n := by
  unfold oo
  by_cases c : q.1 = n
  · rw [List.filter_cons_of_pos (by exact decide_eq_true c), if_pos c]; rfl
  · rw [List.filter_cons_of_neg (by rw [decide_eq_false c]; exact Bool.false_ne_true), if_neg c]
theorem oo_app {E E' : List (Nat × oR)} {n : Nat} : oo (E ++ E') n = oo E n ++ oo E' n := by
  unfold oo
  rw [List.filter_append, List.map_append]
theorem xn_inj {m n : Nat} (hm : m ≤ 16777216) (hn : n ≤ 16777216) (h : xn m = xn n) : m = n := by
  have := congrArg Int32.toInt h
  rw [xn_i hm, xn_i hn] at this
  omega
def kpr (id : Int32) (q : oR) : Bool := decide (q.1 = id)
theorem k207_go {k : kS} {n : Nat} {id a b : Int32} (hn : n ≤ 1000000) : ∀ (L Q : List (Nat × oR)) (c : Nat), OE k (Q ++ L) → (Q ++ L).length ≤ 1000000 → c ≤ Q.length → (∀ q ∈ L, q.1 ≤ 1000000) → (∃ i v, fpl (kpr id) (oo L n) c = some i ∧ ∃ m, kwh (k207b6 k (xn n) id a b) m (xn c, xn Q.length) = (1, (xn i, v))) ∨ (fpl (kpr id) (oo L n) c = none ∧ ∃ m v, kwh (k207b6 k (xn n) id a b) m (xn c, xn Q.length) = (2, (xn (c + (oo L n).length), v))) := by
  intro L
  induction L with
  | nil =>
    intro Q c h hz hc _
    right
    refine ⟨rfl, ?_⟩
    have hr : k.1 62 ≤ xn Q.length := by
      rw [i_le, h.1, List.append_nil]
      exact Int.le_refl _
    have e : k207b6 k (xn n) id a b (xn c, xn Q.length) = (2, (xn c, xn Q.length)) := by unfold k207b6; rw [if_pos hr]
    exact ⟨1, xn Q.length, by rw [kwh_out (by rw [e]; exact Nat.succ_ne_zero _), e]; rfl⟩
  | cons q L ih =>
    intro Q c h hz hc hL
    have hl : (Q ++ q :: L)[Q.length]? = some q := by
      rw [List.getElem?_append_right (Nat.le_refl _), Nat.sub_self]
      rfl
    have hlen : (Q ++ q :: L).length = Q.length + (L.length + 1) := by rw [List.length_append]; rfl
    have hi : (xn Q.length).toInt = Q.length := xn_i (by omega)
    have hx : (xn Q.length).toNatClampNeg = Q.length := by show (xn Q.length).toInt.toNat = _; omega
    obtain ⟨g0, g1, _, _⟩ := h.2 _ q hl
    have r63 : kr k 63 (xn Q.length) = xn q.1 := by show k.2 63 (xn Q.length).toNatClampNeg = _; rw [hx]; exact g0
    have r64 : kr k 64 (xn Q.length) = q.2.1 := by show k.2 64 (xn Q.length).toNatClampNeg = _; rw [hx]; exact g1
    have hr : ¬ k.1 62 ≤ xn Q.length := by rw [i_le, h.1, hi, xn_i (by omega)]; omega
    have hs : xn Q.length + 1 = xn (Q.length + 1) := xn_succ (by omega)
    have hs2 : xn c + 1 = xn (c + 1) := xn_succ (by omega)
    have hQ : (Q ++ [q]).length = Q.length + 1 := by rw [List.length_append]; rfl
    have hap : Q ++ [q] ++ L = Q ++ q :: L := by rw [List.append_assoc]; rfl
    have hq1 := hL q List.mem_cons_self
    have rcc := fun c' hc' => ih (Q ++ [q]) c' (by rw [hap]; exact h) (by rw [hap]; exact hz) hc' (fun q' hq' => hL q' (List.mem_cons_of_mem _ hq'))
    rw [hQ] at rcc
    rw [oo_cons]
    by_cases c1 : q.1 = n
    · rw [if_pos c1]
      by_cases c2 : q.2.1 = id
      · left
        have e : k207b6 k (xn n) id a b (xn c, xn Q.length) = (1, (xn c, xn Q.length)) := by
          unfold k207b6
          show (if k.1 62 ≤ xn Q.length then _ else if kr k 63 (xn Q.length) ≠ xn n then _ else _) = _
          rw [if_neg hr, r63, if_neg (fun z => z (by rw [c1])), r64, if_neg (fun z => z c2)]
        exact ⟨c, xn Q.length, if_pos (decide_eq_true c2), 1, by rw [kwh_out (by rw [e]; exact Nat.succ_ne_zero _), e]⟩
      · have e : k207b6 k (xn n) id a b (xn c, xn Q.length) = (0, (xn (c + 1), xn (Q.length + 1))) := by
          unfold k207b6
          show (if k.1 62 ≤ xn Q.length then _ else if kr k 63 (xn Q.length) ≠ xn n then _ else _) = _
          rw [if_neg hr, r63, if_neg (fun z => z (by rw [c1])), r64, if_pos c2, hs, hs2]
        have hf : fpl (kpr id) (q.2 :: oo L n) c = fpl (kpr id) (oo L n) (c + 1) := if_neg (by unfold kpr; rw [decide_eq_false c2]; exact Bool.false_ne_true)
        rw [hf]
        rcases rcc (c + 1) (by omega) with ⟨i, v, r1, m, r2⟩ | ⟨r1, m, v, r2⟩
        · exact Or.inl ⟨i, v, r1, m + 1, by rw [kwh_go (by rw [e]), e]; exact r2⟩
        · refine Or.inr ⟨r1, m + 1, v, ?_⟩
          rw [kwh_go (by rw [e]), e, List.length_cons, ← Nat.add_assoc, Nat.add_right_comm]
          exact r2
    · rw [if_neg c1]
      have e : k207b6 k (xn n) id a b (xn c, xn Q.length) = (0, (xn c, xn (Q.length + 1))) := by
        unfold k207b6
        show (if k.1 62 ≤ xn Q.length then _ else if kr k 63 (xn Q.length) ≠ xn n then _ else _) = _
        rw [if_neg hr, r63, if_pos (fun z => c1 (xn_inj (by omega) (by omega) z)), hs]
      rcases rcc c (by omega) with ⟨i, v, r1, m, r2⟩ | ⟨r1, m, v, r2⟩
      · exact Or.inl ⟨i, v, r1, m + 1, by rw [kwh_go (by rw [e]), e]; exact r2⟩
      · exact Or.inr ⟨r1, m + 1, v, by rw [kwh_go (by rw [e]), e]; exact r2⟩
theorem k207_yes {k : kS} {n i : Nat} {id a b : Int32} {E : List (Nat × oR)} (hn : n ≤ 1000000) (h : OE k E) (hz : E.length ≤ 1000000) (hE : ∀ q ∈ E, q.1 ≤ 1000000) (hf : fpl (kpr id) (oo E n) 0 = some i) : k207 k (xn n) id a b = (k, xn i) := by
  rcases k207_go (id := id) (a := a) (b := b) hn E [] 0 h hz (Nat.le_refl _) hE with ⟨j, v, r1, r2⟩ | ⟨r1, _⟩
  · have ej : j = i := Option.some.inj (r1.symm.trans hf)
    subst ej
    have hk : kfin (k207b6 k (xn n) id a b) (0, 0) = (1, (xn j, v)) := kfin_of r2 (Nat.succ_ne_zero 0)
    unfold k207
    rw [hk]
    rfl
  · exact absurd (r1.symm.trans hf) (fun z => nomatch z)
noncomputable def kad (k : kS) (n : Nat) (id a b : Int32) : kS := ka (kf (ka (ka (ka (ka k 63 (k.1 62) (xn n)) 64 (k.1 62) id) 65 (k.1 62) a) 66 (k.1 62) b) 62 ((k.1 62) + 1)) 67 (xn n) ((kr k 67 (xn n)) + 1)
theorem k207_no {k : kS} {n : Nat} {id a b : Int32} {E : List (Nat × oR)} (hn : n ≤ 1000000) (h : OE k E) (hz : E.length ≤ 1000000) (hE : ∀ q ∈ E, q.1 ≤ 1000000) (hf : fpl (kpr id) (oo E n) 0 = none) : k207 k (xn n) id a b = (kad k n id a b, xn (oo E n).length) := by
  rcases k207_go (id := id) (a := a) (b := b) hn E [] 0 h hz (Nat.le_refl _) hE with ⟨j, v, r1, _⟩ | ⟨_, m, v, r2⟩
  · exact absurd (r1.symm.trans hf) (fun z => nomatch z)
  · have hk : kfin (k207b6 k (xn n) id a b) (0, 0) = (2, (xn (0 + (oo E n).length), v)) := kfin_of ⟨m, r2⟩ (Nat.succ_ne_zero 1)
    unfold k207
    rw [hk, Nat.zero_add]
    rfl
theorem OE.add {k : kS} {n : Nat} {id a b : Int32} {E : List (Nat × oR)} (h : OE k E) (hz : E.length ≤ 1000000) : OE (kad k n id a b) (E ++ [(n, id, a, b)]) := by
  have hx : (xn E.length).toNatClampNeg = E.length := by show (xn E.length).toInt.toNat = _; rw [xn_i (by omega)]; omega
  have hup : ∀ (g : Nat → Int32) (v : Int32) (l : List Int32), l.length = E.length → (∀ i q, l[i]? = some q → g i = q) → ∀ i q, (l ++ [v])[i]? = some q → upd g E.length v i = q := fun g v l hl hg i q hq => by
    unfold upd
    rcases Nat.lt_or_ge i l.length with hi | hi
    · rw [List.getElem?_append_left hi] at hq
      rw [if_neg (by omega)]
      exact hg i q hq
    · have hi2 := (List.getElem?_eq_some_iff.mp hq).1
      rw [List.length_append] at hi2
      have hi3 : i = l.length := by have : [v].length = 1 := rfl; omega
      subst hi3
      rw [List.getElem?_append_right (Nat.le_refl _), Nat.sub_self] at hq
      rw [if_pos hl]
      exact Option.some.inj hq
  have e62 : k.1 62 = xn E.length := h.1
  have a63 : (kad k n id a b).2 63 = upd (k.2 63) E.length (xn n) := by rw [← hx, ← e62]; rfl
  have a64 : (kad k n id a b).2 64 = upd (k.2 64) E.length id := by rw [← hx, ← e62]; rfl
  have a65 : (kad k n id a b).2 65 = upd (k.2 65) E.length a := by rw [← hx, ← e62]; rfl
  have a66 : (kad k n id a b).2 66 = upd (k.2 66) E.length b := by rw [← hx, ← e62]; rfl
  have hmap : ∀ (f : Nat × oR → Int32) (g : Nat → Int32), (∀ i q, E[i]? = some q → g i = f q) → ∀ i q, (E.map f)[i]? = some q → g i = q := fun f g hg i q hq => by
    rw [List.getElem?_map] at hq
    cases hc : E[i]? with
    | none => rw [hc] at hq; cases hq
    | some q' => rw [hc] at hq; cases hq; exact hg i q' hc
  have hall : ∀ (f : Nat × oR → Int32) (g : Nat → Int32), (∀ i q, E[i]? = some q → g i = f q) → ∀ i q, (E ++ [(n, id, a, b)])[i]? = some q → upd g E.length (f (n, id, a, b)) i = f q := fun f g hg i q hq => by
    refine hup g _ (E.map f) (List.length_map _) (hmap f g hg) i (f q) ?_
    have : E.map f ++ [f (n, id, a, b)] = (E ++ [(n, id, a, b)]).map f := by rw [List.map_append]; rfl
    rw [this, List.getElem?_map, hq]
    rfl
  refine ⟨?_, fun i q hq => ⟨?_, ?_, ?_, ?_⟩⟩
  · rw [List.length_append]
    show k.1 62 + 1 = _
    rw [h.1]
    exact xn_succ (by omega)
  · rw [a63]; exact hall (fun q => xn q.1) _ (fun i q hq => (h.2 i q hq).1) i q hq
  · rw [a64]; exact hall (fun q => q.2.1) _ (fun i q hq => (h.2 i q hq).2.1) i q hq
  · rw [a65]; exact hall (fun q => q.2.2.1) _ (fun i q hq => (h.2 i q hq).2.2.1) i q hq
  · rw [a66]; exact hall (fun q => q.2.2.2) _ (fun i q hq => (h.2 i q hq).2.2.2) i q hq
