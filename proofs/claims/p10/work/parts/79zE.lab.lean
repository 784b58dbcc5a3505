/-! LOOPS THAT END -/
theorem kw_step {α : Type} {b : α → Nat × α} {t : α} {R : Nat × α} (h : (b t).1 = 0) (hm : ∃ m, kwh b m (b t).2 = R) : ∃ m, kwh b m t = R := by
  obtain ⟨m, hm⟩ := hm
  exact ⟨m + 1, by rw [kwh_go h]; exact hm⟩
theorem kw_stop {α : Type} {b : α → Nat × α} {t : α} (h : ¬ (b t).1 = 0) : ∃ m, kwh b m t = b t := ⟨1, kwh_out h⟩
theorem kfin_of {α : Type} {b : α → Nat × α} {t : α} {R : Nat × α} (h : ∃ m, kwh b m t = R) (hR : ¬ R.1 = 0) : kfin b t = R := by
  obtain ⟨m, hm⟩ := h
  rw [kfin_eq (by rw [hm]; exact hR), hm]
/-! THE CLASS: a block's gotos are led to its labels -/
def flab (L : List xR) (t : Int32) : Option xR := L.find? (fun l => decide (l.1 = t))
def xmin (a b : Int32) : Int32 := if a ≤ b then a else b
def xmv (v : Int32) (g : xR) : xR := (g.1, g.2.1, g.2.2.1, xmin g.2.2.2 v)
def ovr (L : List xR) (g : xR) : Prop := ∃ l, flab L g.1 = some l ∧ ¬ l.2.2.1 ≤ g.2.2.2 ∧ l.2.2.2 = 0
def mvd (L : List xR) (v : Int32) (G : List xR) : List xR := (G.filter (fun g => (flab L g.1).isNone)).map (xmv v)
theorem xn_succ {n : Nat} (h : n ≤ 16777215) : xn n + 1 = xn (n + 1) := xn_eq (by rw [i_add (xn_i (by omega)) (show (1 : Int32).toInt = 1 from rfl) (by omega) (by omega)]; omega) (by omega)
section LAB
variable {s : cS} {Q : List xR}
theorem lab_go {t : Int32} : ∀ (L Q : List xR), TR s (.s 24) (Q ++ L) → (Q ++ L).length ≤ 1000000 → (∃ j l, L[j]? = some l ∧ flab L t = some l ∧ ∃ m, kwh (c84b2 s t) m (xn Q.length) = (1, xn (Q.length + j))) ∨ (flab L t = none ∧ ∃ m v, kwh (c84b2 s t) m (xn Q.length) = (2, v)) := by
  intro L
  induction L with
  | nil =>
    intro Q h hz
    right
    rw [List.append_nil] at h hz
    refine ⟨rfl, ?_⟩
    have e : c84b2 s t (xn Q.length) = (2, xn Q.length) := by
      unfold c84b2
      rw [if_pos (by rw [i_le, h.1, xn_i (by omega)]; omega)]
    exact ⟨1, _, by rw [kwh_out (by rw [e]; exact Nat.succ_ne_zero _), e]⟩
  | cons l L ih =>
    intro Q h hz
    have hlen : (Q ++ l :: L).length = Q.length + (L.length + 1) := by rw [List.length_append]; rfl
    have hq : (Q ++ l :: L)[Q.length]? = some l := by rw [List.getElem?_append_right (Nat.le_refl _), Nat.sub_self]; rfl
    have hg := h.g0 (r := xn Q.length) (xn_i (by omega)) hq
    have hc : ¬ s.r (.s 24) ≤ xn Q.length := by rw [i_le, h.1, xn_i (by omega)]; omega
    by_cases e : l.1 = t
    · left
      have e1 : c84b2 s t (xn Q.length) = (1, xn Q.length) := by
        unfold c84b2
        rw [if_neg hc, hg, if_neg (fun z => z e)]
      refine ⟨0, l, rfl, ?_, 1, by rw [kwh_out (by rw [e1]; exact Nat.succ_ne_zero _), e1]; rfl⟩
      unfold flab
      rw [List.find?_cons, decide_eq_true e]
    · have e1 : c84b2 s t (xn Q.length) = (0, xn (Q.length + 1)) := by
        unfold c84b2
        rw [if_neg hc, hg, if_pos e, xn_succ (by omega)]
      have hf : flab (l :: L) t = flab L t := by
        unfold flab
        rw [List.find?_cons, decide_eq_false e]
      have h' : TR s (.s 24) ((Q ++ [l]) ++ L) := by rw [List.append_assoc]; exact h
      have hl1 : (Q ++ [l]).length = Q.length + 1 := by rw [List.length_append]; rfl
      rcases ih (Q ++ [l]) h' (by rw [List.append_assoc]; exact hz) with ⟨j, l', q1, q2, m, q3⟩ | ⟨q1, m, v, q2⟩
      · left
        rw [hl1] at q3
        refine ⟨j + 1, l', q1, hf.trans q2, m + 1, ?_⟩
        rw [kwh_go (by rw [e1]), e1]
        show kwh _ m (xn (Q.length + 1)) = _
        rw [q3]
        congr 2
        omega
      · right
        rw [hl1] at q2
        refine ⟨hf.trans q1, m + 1, v, ?_⟩
        rw [kwh_go (by rw [e1]), e1]
        exact q2
theorem lab_of {t : Int32} {L : List xR} (h : TR s (.s 24) (Q ++ L)) (hz : (Q ++ L).length ≤ 1000000) : (∃ j l, L[j]? = some l ∧ flab L t = some l ∧ c84 s t (xn Q.length) = xn (Q.length + j)) ∨ (flab L t = none ∧ c84 s t (xn Q.length) = -1) := by
  rcases lab_go (t := t) L Q h hz with ⟨j, l, q1, q2, q3⟩ | ⟨q1, m, v, q2⟩
  · left
    refine ⟨j, l, q1, q2, ?_⟩
    have e := kfin_of q3 (Nat.succ_ne_zero 0)
    unfold c84
    rw [e, if_pos rfl]
  · right
    refine ⟨q1, ?_⟩
    have e := kfin_of ⟨m, q2⟩ (Nat.succ_ne_zero 1)
    unfold c84
    rw [e, if_neg (show ¬ (2 : Nat) = 1 by decide)]
end LAB
/-- a goto is moved to another row -/
theorem c87_tr {s : cS} {l : List xR} {i j : Nat} {g w : xR} {v : Int32} (h : TR s (.s 26) l) (hz : l.length ≤ 1000000) (hi : l[i]? = some g) (hj : l[j]? = some w) : TR (c87 s (xn i) (xn j) v).1 (.s 26) (l.set j (xmv v g)) := by
  have il := (List.getElem?_eq_some_iff.mp hi).1
  have jl := (List.getElem?_eq_some_iff.mp hj).1
  have ei : (xn i).toInt = i := xn_i (by omega)
  have ej : (xn j).toInt = j := xn_i (by omega)
  have get : ∀ (q : xR) (l' : List xR), l' = l.set j q → l'[j]? = some q := fun q l' e => by rw [e, List.getElem?_set_self jl]
  have geti : ∀ (q : xR), i ≠ j → (l.set j q)[i]? = some g := fun q ne => by rw [List.getElem?_set_ne (fun z => ne z.symm)]; exact hi
  show TR (c87_18 (ts s (.s 26) (xn j) (xn 0) (tg s (.s 26) (xn i) 0)) (xn i) (xn j) v).1 (.s 26) _
  rw [h.g0 ei hi]
  have h1 := h.set (v := g.1) ej hj (show 0 < 4 by decide)
  generalize ts s (.s 26) (xn j) (xn 0) g.1 = s1 at h1
  have l1 : (l.set j (xcol w 0 g.1))[j]? = some (xcol w 0 g.1) := List.getElem?_set_self jl
  have r1 : tg s1 (.s 26) (xn i) 1 = g.2.1 := by
    by_cases e : i = j
    · subst e
      rw [hi] at hj
      cases hj
      exact h1.g1 ei l1
    · exact h1.g1 ei (geti _ e)
  show TR (c87_36 (ts s1 (.s 26) (xn j) (xn 1) (tg s1 (.s 26) (xn i) 1)) (xn i) (xn j) v).1 (.s 26) _
  rw [r1]
  have h2 := h1.set (v := g.2.1) ej l1 (show 1 < 4 by decide)
  rw [List.set_set] at h2
  generalize ts s1 (.s 26) (xn j) (xn 1) g.2.1 = s2 at h2
  have l2 : (l.set j (xcol (xcol w 0 g.1) 1 g.2.1))[j]? = some (xcol (xcol w 0 g.1) 1 g.2.1) := List.getElem?_set_self jl
  have r2 : tg s2 (.s 26) (xn i) 2 = g.2.2.1 := by
    by_cases e : i = j
    · subst e
      rw [hi] at hj
      cases hj
      exact h2.g2 ei l2
    · exact h2.g2 ei (geti _ e)
  show TR (c87_54 (ts s2 (.s 26) (xn j) (xn 2) (tg s2 (.s 26) (xn i) 2)) (xn i) (xn j) v).1 (.s 26) _
  rw [r2]
  have h3 := h2.set (v := g.2.2.1) ej l2 (show 2 < 4 by decide)
  rw [List.set_set] at h3
  generalize ts s2 (.s 26) (xn j) (xn 2) g.2.2.1 = s3 at h3
  have l3 : (l.set j (xcol (xcol (xcol w 0 g.1) 1 g.2.1) 2 g.2.2.1))[j]? = some (xcol (xcol (xcol w 0 g.1) 1 g.2.1) 2 g.2.2.1) := List.getElem?_set_self jl
  have r3 : tg s3 (.s 26) (xn i) 3 = g.2.2.2 := by
    by_cases e : i = j
    · subst e
      rw [hi] at hj
      cases hj
      exact h3.g3 ei l3
    · exact h3.g3 ei (geti _ e)
  show TR (ts s3 (.s 26) (xn j) (xn 3) (if tg s3 (.s 26) (xn i) 3 ≤ v then tg s3 (.s 26) (xn i) 3 else v)) (.s 26) _
  rw [r3]
  have h4 := h3.set (v := xmin g.2.2.2 v) ej l3 (show 3 < 4 by decide)
  rw [List.set_set] at h4
  exact h4
