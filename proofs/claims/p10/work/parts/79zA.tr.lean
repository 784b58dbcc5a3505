/-! TABLES OF THE CLASS AND ARRAYS OF THE REFERENCE AS LISTS -/
abbrev xR : Type := Int32 × Int32 × Int32 × Int32
def TR (s : cS) (t : cT) (l : List xR) : Prop := (s.r t).toInt = l.length ∧ ∀ i q, l[i]? = some q → s.c t (4 * i) = q.1 ∧ s.c t (4 * i + 1) = q.2.1 ∧ s.c t (4 * i + 2) = q.2.2.1 ∧ s.c t (4 * i + 3) = q.2.2.2
theorem TR.same {s s' : cS} {t : cT} {l : List xR} (h : TR s t l) (hr : s'.r t = s.r t) (hc : s'.c t = s.c t) : TR s' t l := by
  unfold TR
  rw [hr, hc]
  exact h
theorem TR.fr {F T B G k : Nat} {s s' : cS} {l : List xR} (h : TR s (.s k) l) (hf : cFr F T B G s s') (hk : T.testBit k = false) : TR s' (.s k) l := h.same (hf.2.1 k hk).1 (hf.2.1 k hk).2
section TRL
variable {s : cS} {t : cT} {l : List xR}
theorem TR.g0 {r : Int32} {i : Nat} {q : xR} (h : TR s t l) (hi : r.toInt = i) (hq : l[i]? = some q) : tg s t r 0 = q.1 := by
  have hl := (List.getElem?_eq_some_iff.mp hq).1
  have e0 : (0 : Int32).toInt = 0 := rfl
  unfold tg
  rw [if_neg (by rw [i_lt, e0]; omega), if_neg (by rw [i_le, h.1]; omega), if_neg (by decide), if_pos (by decide)]
  have : ci r 0 = 4 * i := by unfold ci; rw [hi, e0]; omega
  rw [this]
  exact (h.2 i q hq).1
theorem TR.g1 {r : Int32} {i : Nat} {q : xR} (h : TR s t l) (hi : r.toInt = i) (hq : l[i]? = some q) : tg s t r 1 = q.2.1 := by
  have hl := (List.getElem?_eq_some_iff.mp hq).1
  have e0 : (0 : Int32).toInt = 0 := rfl
  have e1 : (1 : Int32).toInt = 1 := rfl
  unfold tg
  rw [if_neg (by rw [i_lt, e0]; omega), if_neg (by rw [i_le, h.1]; omega), if_neg (by decide), if_pos (by decide)]
  have : ci r 1 = 4 * i + 1 := by unfold ci; rw [hi, e1]; omega
  rw [this]
  exact (h.2 i q hq).2.1
theorem TR.g2 {r : Int32} {i : Nat} {q : xR} (h : TR s t l) (hi : r.toInt = i) (hq : l[i]? = some q) : tg s t r 2 = q.2.2.1 := by
  have hl := (List.getElem?_eq_some_iff.mp hq).1
  have e0 : (0 : Int32).toInt = 0 := rfl
  have e1 : (2 : Int32).toInt = 2 := rfl
  unfold tg
  rw [if_neg (by rw [i_lt, e0]; omega), if_neg (by rw [i_le, h.1]; omega), if_neg (by decide), if_pos (by decide)]
  have : ci r 2 = 4 * i + 2 := by unfold ci; rw [hi, e1]; omega
  rw [this]
  exact (h.2 i q hq).2.2.1
theorem TR.g3 {r : Int32} {i : Nat} {q : xR} (h : TR s t l) (hi : r.toInt = i) (hq : l[i]? = some q) : tg s t r 3 = q.2.2.2 := by
  have hl := (List.getElem?_eq_some_iff.mp hq).1
  have e0 : (0 : Int32).toInt = 0 := rfl
  have e1 : (3 : Int32).toInt = 3 := rfl
  unfold tg
  rw [if_neg (by rw [i_lt, e0]; omega), if_neg (by rw [i_le, h.1]; omega), if_neg (by decide), if_pos (by decide)]
  have : ci r 3 = 4 * i + 3 := by unfold ci; rw [hi, e1]; omega
  rw [this]
  exact (h.2 i q hq).2.2.2
theorem TR.out {r c : Int32} (h : TR s t l) (hi : (l.length : Int) ≤ r.toInt) : tg s t r c = 0 := by
  have e0 : (0 : Int32).toInt = 0 := rfl
  unfold tg
  rw [if_neg (by rw [i_lt, e0]; omega), if_pos (by rw [i_le, h.1]; omega)]
theorem nt_r {t : cT} {r : Int32} {g : Nat → Int32} : (nt s t r g).r t = r := if_pos rfl
theorem nt_c {t : cT} {r : Int32} {g : Nat → Int32} : (nt s t r g).c t = g := if_pos rfl
theorem nt_rn {t t' : cT} {r : Int32} {g : Nat → Int32} (h : t' ≠ t) : (nt s t r g).r t' = s.r t' := if_neg h
theorem nt_cn {t t' : cT} {r : Int32} {g : Nat → Int32} (h : t' ≠ t) : (nt s t r g).c t' = s.c t' := if_neg h
theorem TR.add {a b c d : Int32} (h : TR s t l) (hl : l.length < 1048576) : TR (tad s t a b c d).1 t (l ++ [(a, b, c, d)]) ∧ (tad s t a b c d).2.toInt = l.length := by
  have e : (1048576 : Int32).toInt = 1048576 := rfl
  have h0 : s.r t < 1048576 := by rw [i_lt, h.1, e]; omega
  unfold tad
  rw [if_pos h0]
  refine ⟨⟨?_, fun i q hq => ?_⟩, h.1⟩
  · show ((nt s t (s.r t + 1) _).r t).toInt = _
    rw [nt_r, i_add h.1 (show (1 : Int32).toInt = 1 from rfl) (by omega) (by omega), List.length_append]
    rfl
  · show (nt s t (s.r t + 1) _).c t (4 * i) = q.1 ∧ (nt s t (s.r t + 1) _).c t (4 * i + 1) = q.2.1 ∧ (nt s t (s.r t + 1) _).c t (4 * i + 2) = q.2.2.1 ∧ (nt s t (s.r t + 1) _).c t (4 * i + 3) = q.2.2.2
    rw [nt_c]
    have hn : (s.r t).toInt.toNat = l.length := by rw [h.1]; omega
    rw [hn]
    unfold upd
    rcases Nat.lt_or_ge i l.length with hi | hi
    · rw [List.getElem?_append_left hi] at hq
      obtain ⟨h1, h2, h3, h4⟩ := h.2 i q hq
      rw [if_neg (by omega), if_neg (by omega), if_neg (by omega), if_neg (by omega), if_neg (by omega), if_neg (by omega), if_neg (by omega), if_neg (by omega), if_neg (by omega), if_neg (by omega), if_neg (by omega), if_neg (by omega), if_neg (by omega), if_neg (by omega), if_neg (by omega), if_neg (by omega)]
      exact ⟨h1, h2, h3, h4⟩
    · have hi2 := (List.getElem?_eq_some_iff.mp hq).1
      rw [List.length_append] at hi2
      have hi3 : i = l.length := by have : [(a, b, c, d)].length = 1 := rfl; omega
      subst hi3
      rw [List.getElem?_append_right (Nat.le_refl _), Nat.sub_self] at hq
      have hq' : q = (a, b, c, d) := by cases hq; rfl
      subst hq'
      rw [if_neg (by omega), if_neg (by omega), if_neg (by omega), if_pos rfl, if_neg (by omega), if_neg (by omega), if_pos rfl, if_neg (by omega), if_pos rfl, if_pos rfl]
      exact ⟨rfl, rfl, rfl, rfl⟩
theorem TR.cut {n : Int32} {k : Nat} (h : TR s t l) (hn : n.toInt = k) (hk : k ≤ l.length) : TR (tct s t n) t (l.take k) := by
  have e0 : (0 : Int32).toInt = 0 := rfl
  unfold tct
  rw [if_neg (by rw [i_lt, e0]; omega)]
  have hlen : (l.take k).length = k := by rw [List.length_take]; omega
  have hget : ∀ i q, (l.take k)[i]? = some q → l[i]? = some q := fun i q hq => by
    rw [List.getElem?_take] at hq
    split at hq
    · exact hq
    · cases hq
  by_cases c1 : s.r t ≤ n
  · rw [if_pos c1]
    rw [i_le, h.1] at c1
    have : l.take k = l := List.take_of_length_le (by omega)
    rw [this]
    exact h
  · rw [if_neg c1]
    refine ⟨?_, fun i q hq => ?_⟩
    · rw [nt_r, hlen, hn]
    · rw [nt_c]
      exact h.2 i q (hget i q hq)
end TRL
def AA (k : kS) (j : Nat) (l : List Int32) : Prop := ∀ i q, l[i]? = some q → k.2 j i = q
section AAL
variable {k k' : kS} {j : Nat} {l : List Int32}
theorem AA.same (h : AA k j l) (hr : k'.2 j = k.2 j) : AA k' j l := by
  unfold AA
  rw [hr]
  exact h
theorem AA.fr {F A : Nat} (h : AA k j l) (hf : kFr F A k k') (hj : A.testBit j = false) : AA k' j l := h.same (hf.2 j hj)
theorem ka_eq {j : Nat} {i v : Int32} : (ka k j i v).2 j = upd (k.2 j) i.toNatClampNeg v := if_pos rfl
theorem ka_ne {j j' : Nat} {i v : Int32} (h : j' ≠ j) : (ka k j i v).2 j' = k.2 j' := if_neg h
theorem kf_eq {j : Nat} {v : Int32} : (kf k j v).1 j = v := if_pos rfl
theorem kf_ne {j j' : Nat} {v : Int32} (h : j' ≠ j) : (kf k j v).1 j' = k.1 j' := if_neg h
theorem AA.push {x v : Int32} (h : AA k j l) (hx : x.toInt = l.length) : AA (ka k j x v) j (l ++ [v]) := by
  have hn : x.toNatClampNeg = l.length := by show x.toInt.toNat = _; rw [hx]; omega
  intro i q hq
  rw [ka_eq, hn]
  unfold upd
  rcases Nat.lt_or_ge i l.length with hi | hi
  · rw [List.getElem?_append_left hi] at hq
    rw [if_neg (by omega)]
    exact h i q hq
  · have hi2 := (List.getElem?_eq_some_iff.mp hq).1
    rw [List.length_append] at hi2
    have hi3 : i = l.length := by have : [v].length = 1 := rfl; omega
    subst hi3
    rw [List.getElem?_append_right (Nat.le_refl _), Nat.sub_self] at hq
    rw [if_pos rfl]
    cases hq
    rfl
theorem AA.get {x q : Int32} {i : Nat} (h : AA k j l) (hx : x.toInt = i) (hq : l[i]? = some q) : kr k j x = q := by
  have hn : x.toNatClampNeg = i := by show x.toInt.toNat = _; rw [hx]; omega
  show k.2 j x.toNatClampNeg = q
  rw [hn]
  exact h i q hq
theorem AA.pre {l' : List Int32} (h : AA k j (l ++ l')) : AA k j l := by
  intro i q hq
  have hi := (List.getElem?_eq_some_iff.mp hq).1
  exact h i q (by rw [List.getElem?_append_left hi]; exact hq)
end AAL
