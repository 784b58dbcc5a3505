/-! TABLES OF THE CLASS -/
def ci (r c : Int32) : Nat := 4 * r.toInt.toNat + c.toInt.toNat
def tg (s : cS) (t : cT) (r c : Int32) : Int32 := if r < 0 then 0 else if s.r t ≤ r then 0 else if c < 0 then 0 else if c < 4 then s.c t (ci r c) else 0
def ts (s : cS) (t : cT) (r c v : Int32) : cS := if r < 0 then s else if s.r t ≤ r then s else if c < 0 then s else if 4 ≤ c then s else nt s t (s.r t) (upd (s.c t) (ci r c) v)
def tct (s : cS) (t : cT) (n : Int32) : cS := if n < 0 then s else if s.r t ≤ n then s else nt s t n (s.c t)
def tad (s : cS) (t : cT) (v1 v2 v3 v4 : Int32) : cS × Int32 := if s.r t < 1048576 then (nt s t (s.r t + 1) (upd (upd (upd (upd (s.c t) (4 * (s.r t).toInt.toNat) v1) (4 * (s.r t).toInt.toNat + 1) v2) (4 * (s.r t).toInt.toNat + 2) v3) (4 * (s.r t).toInt.toNat + 3) v4), s.r t) else (s, s.r t)
def thas (s : cS) (t : cT) (r : Int32) : Int32 := if r < 0 then 0 else if s.r t ≤ r then 0 else 1
theorem p2_17 {k : Nat} (h : k ≤ 17) : 2 ^ k ≤ 131072 := Nat.pow_le_pow_right (by decide) h
theorem i_add {x y : Int32} {m n : Int} (hx : x.toInt = m) (hy : y.toInt = n) (h1 : -2147483648 ≤ m + n) (h2 : m + n ≤ 2147483647) : (x + y).toInt = m + n := by
  obtain ⟨z, h3, h4⟩ := am_addI hx hy h1 h2
  rw [show x + y = z from h3]; exact h4
theorem i_sub {x y : Int32} {m n : Int} (hx : x.toInt = m) (hy : y.toInt = n) (h1 : -2147483648 ≤ m - n) (h2 : m - n ≤ 2147483647) : (x - y).toInt = m - n := by
  obtain ⟨z, h3, h4⟩ := am_subI hx hy h1 h2
  rw [show x - y = z from h3]; exact h4
theorem i_mul {x y : Int32} {m n : Int} (hx : x.toInt = m) (hy : y.toInt = n) (h1 : -2147483648 ≤ m * n) (h2 : m * n ≤ 2147483647) : (x * y).toInt = m * n := by
  obtain ⟨z, h3, h4⟩ := am_mulI hx hy h1 h2
  rw [show x * y = z from h3]; exact h4
theorem i_nat {n : Nat} (h : n ≤ 16777216) : (Int32.ofNat n).toInt = n := by
  rw [Int32.toInt_ofNat']; exact Int.bmod_eq_of_le (by simp only [Int32.size]; omega) (by simp only [Int32.size]; omega)
theorem i_lt {x y : Int32} : x < y ↔ x.toInt < y.toInt := Int32.lt_iff_toInt_lt
theorem i_le {x y : Int32} : x ≤ y ↔ x.toInt ≤ y.toInt := Int32.le_iff_toInt_le
theorem ix {r c n : Int32} (h0 : ¬ r < 0) (h1 : ¬ n ≤ r) (hn : n.toInt ≤ 1048576) (c0 : ¬ c < 0) (c4 : c < 4) : (r * 4 + c).toNatClampNeg = ci r c ∧ (ci r c : Int) < 4 * n.toInt := by
  rw [i_lt] at h0 c0 c4
  rw [i_le] at h1
  have e0 : (0 : Int32).toInt = 0 := rfl
  have e4 : (4 : Int32).toInt = 4 := rfl
  rw [e0] at h0 c0
  rw [e4] at c4
  have h2 : (r * 4).toInt = r.toInt * 4 := i_mul rfl e4 (by omega) (by omega)
  have h3 : (r * 4 + c).toInt = r.toInt * 4 + c.toInt := i_add h2 rfl (by omega) (by omega)
  have h4 : (r * 4 + c).toNatClampNeg = (r * 4 + c).toInt.toNat := rfl
  unfold ci
  rw [h4, h3]
  omega
theorem sa_get {S : am_S} {k j : Nat} {t : Bool} {n : Nat} {f : Nat → Int32} : (cm_sa S k t n f).1[j]? = if j = k ∧ k < S.1.length then some (.inl (t, n, f)) else S.1[j]? := by
  show (S.1.set k _)[j]? = _
  by_cases e : j = k
  · subst e
    by_cases h : j < S.1.length
    · rw [if_pos ⟨rfl, h⟩, List.getElem?_set_self h]
    · rw [if_neg (fun q => h q.2), List.getElem?_eq_none (by rw [List.length_set]; omega), List.getElem?_eq_none (by omega)]
  · rw [if_neg (fun q => e q.1), List.getElem?_set_ne (fun q => e q.symm)]
theorem sa_ne {S : am_S} {k j : Nat} {t : Bool} {n : Nat} {f : Nat → Int32} (h : j ≠ k) : (cm_sa S k t n f).1[j]? = S.1[j]? := by
  rw [sa_get, if_neg (fun q => h q.1)]
theorem sa_eq {S : am_S} {k : Nat} {t : Bool} {n : Nat} {f : Nat → Int32} {c : am_C} (h : S.1[k]? = some c) : (cm_sa S k t n f).1[k]? = some (.inl (t, n, f)) := by
  rw [sa_get, if_pos ⟨rfl, am_ltl h⟩]
theorem sa_ln {S : am_S} {k : Nat} {t : Bool} {n : Nat} {f : Nat → Int32} : (cm_sa S k t n f).1.length = S.1.length := List.length_set
theorem so_ln {S : am_S} {k : Nat} {q : Nat × List Value} : (cm_so S k q).1.length = S.1.length := List.length_set
theorem so_ne {S : am_S} {k j : Nat} {q : Nat × List Value} (h : j ≠ k) : (cm_so S k q).1[j]? = S.1[j]? := by
  show (S.1.set k _)[j]? = _
  rw [List.getElem?_set_ne (fun z => h z.symm)]
section TAB
variable {sc : Nat × (Nat → Int32)} {N d : Nat} {A : Nat → Nat} {K : Nat} {S : am_S} {s : cS} {t : cT}
theorem CMB.lim {B : cT → Nat} (h : CMB A B K S s) (ht : cTl K t) : 0 ≤ (s.r t).toInt ∧ (s.r t).toInt ≤ 1048576 := by
  obtain ⟨k, g, h1, h2, h3, h4, -⟩ := h.ar t ht
  have := p2_17 h2
  omega
theorem CM.lim (h : CM A K S s) (ht : cTl K t) : 0 ≤ (s.r t).toInt ∧ (s.r t).toInt ≤ 1048576 := h.elim fun _ h => h.lim ht
theorem CMB.bt {B : cT → Nat} (h : CMB A B K S s) (ht : cTl K t) : cTa A t ≠ B t := by
  intro e
  obtain ⟨k, g, h1, -⟩ := h.ar t ht
  have h2 := am_fs_ok (h.ta t ht)
  rw [e, h1] at h2
  cases h2
theorem lc36 (hS : CM A K S s) (ht : cTl K t) : am_L (am_PP sc) N d 36 0 [some (.ref (cTa A t))] [] S (fun o S1 => o = some (some (.int (s.r t))) ∧ CM A K S1 s) := by
  obtain ⟨B, h⟩ := hS
  refine l2 (v := cTa A t) hi_36_0 rfl ?_
  refine l20r hi_36_1 (h.ta t ht) rfl ?_
  exact l33 hi_36_4 ⟨rfl, B, h⟩
theorem lc161 {r : Int32} (hS : CM A K S s) (ht : cTl K t) : am_L (am_PP sc) N d 161 0 [some (.ref (cTa A t)), some (.int r)] [] S (fun o S1 => o = some (some (.int (thas s t r))) ∧ CM A K S1 s) := by
  obtain ⟨B, h⟩ := hS
  have hq : CM A K S s := ⟨B, h⟩
  refine l1 (v := r) hi_161_0 rfl ?_
  by_cases c1 : r < 0
  · refine l12t hi_161_1 (decide_eq_true c1) ?_
    refine l0 hi_161_16 ?_
    exact l36 hi_161_17 fun _ => ⟨by unfold thas; rw [if_pos c1], hq⟩
  · refine l12f hi_161_1 (decide_eq_false c1) ?_
    refine l1 (v := r) hi_161_4 rfl ?_
    refine l2 (v := cTa A t) hi_161_5 rfl ?_
    refine l20r (v := .int (s.r t)) hi_161_6 (h.ta t ht) rfl ?_
    by_cases c2 : s.r t ≤ r
    · refine l13t hi_161_9 (decide_eq_true c2) ?_
      refine l0 hi_161_16 ?_
      exact l36 hi_161_17 fun _ => ⟨by unfold thas; rw [if_neg c1, if_pos c2], hq⟩
    · refine l13f hi_161_9 (decide_eq_false c2) ?_
      refine l0 hi_161_12 ?_
      refine l18 hi_161_13 ?_
      exact l36 hi_161_17 fun _ => ⟨by unfold thas; rw [if_neg c1, if_neg c2], hq⟩
theorem lc54 {r c : Int32} (hS : CM A K S s) (ht : cTl K t) : am_L (am_PP sc) N d 54 0 [some (.ref (cTa A t)), some (.int r), some (.int c)] [] S (fun o S1 => o = some (some (.int (tg s t r c))) ∧ CM A K S1 s) := by
  have hl := hS.lim ht
  obtain ⟨B, h⟩ := hS
  have hq : CM A K S s := ⟨B, h⟩
  refine l1 (v := r) hi_54_0 rfl ?_
  by_cases c1 : r < 0
  · refine l12t hi_54_1 (decide_eq_true c1) ?_
    refine l0 hi_54_21 ?_
    exact l33 hi_54_22 ⟨by unfold tg; rw [if_pos c1], hq⟩
  · refine l12f hi_54_1 (decide_eq_false c1) ?_
    refine l1 (v := r) hi_54_4 rfl ?_
    refine l2 (v := cTa A t) hi_54_5 rfl ?_
    refine l20r (v := .int (s.r t)) hi_54_6 (h.ta t ht) rfl ?_
    by_cases c2 : s.r t ≤ r
    · refine l13t hi_54_9 (decide_eq_true c2) ?_
      refine l0 hi_54_21 ?_
      exact l33 hi_54_22 ⟨by unfold tg; rw [if_neg c1, if_pos c2], hq⟩
    · refine l13f hi_54_9 (decide_eq_false c2) ?_
      refine l1 (v := c) hi_54_12 rfl ?_
      by_cases c3 : c < 0
      · refine l12t hi_54_13 (decide_eq_true c3) ?_
        refine l0 hi_54_21 ?_
        exact l33 hi_54_22 ⟨by unfold tg; rw [if_neg c1, if_neg c2, if_pos c3], hq⟩
      · refine l12f hi_54_13 (decide_eq_false c3) ?_
        refine l1 (v := c) hi_54_16 rfl ?_
        refine l0 hi_54_17 ?_
        by_cases c4 : c < 4
        · refine l13t hi_54_18 (decide_eq_true c4) ?_
          refine l2 (v := cTa A t) hi_54_23 rfl ?_
          refine l20r (v := .ref (B t)) hi_54_24 (h.ta t ht) rfl ?_
          refine l1 (v := r) hi_54_27 rfl ?_
          refine l0 hi_54_28 ?_
          refine l10 hi_54_29 ?_
          refine l1 (v := c) hi_54_30 rfl ?_
          refine l10 hi_54_31 ?_
          obtain ⟨k, g, g1, g2, g3, g4, g5⟩ := h.ar t ht
          refine l25r (i := r * 4 + c) hi_54_32 g1 (fun q1 q2 => ?_)
          obtain ⟨e1, e2⟩ := ix c1 c2 hl.2 c3 c4
          refine l33 hi_54_33 ⟨?_, hq⟩
          unfold tg
          rw [if_neg c1, if_neg c2, if_neg c3, if_pos c4, e1, g5 _ e2]
        · refine l13f hi_54_18 (decide_eq_false c4) ?_
          refine l0 hi_54_21 ?_
          exact l33 hi_54_22 ⟨by unfold tg; rw [if_neg c1, if_neg c2, if_neg c3, if_neg c4], hq⟩
theorem lc86 {r c v : Int32} (hS : CM A K S s) (ht : cTl K t) : am_L (am_PP sc) N d 86 0 [some (.ref (cTa A t)), some (.int r), some (.int c), some (.int v)] [] S (fun o S1 => o = some none ∧ CM A K S1 (ts s t r c v)) := by
  have hl := hS.lim ht
  obtain ⟨B, h⟩ := hS
  have hq : CM A K S s := ⟨B, h⟩
  refine l1 (v := r) hi_86_0 rfl ?_
  by_cases c1 : r < 0
  · refine l12t hi_86_1 (decide_eq_true c1) ?_
    exact l35 hi_86_32 ⟨rfl, by unfold ts; rw [if_pos c1]; exact hq⟩
  · refine l12f hi_86_1 (decide_eq_false c1) ?_
    refine l1 (v := r) hi_86_4 rfl ?_
    refine l2 (v := cTa A t) hi_86_5 rfl ?_
    refine l20r (v := .int (s.r t)) hi_86_6 (h.ta t ht) rfl ?_
    by_cases c2 : s.r t ≤ r
    · refine l13t hi_86_9 (decide_eq_true c2) ?_
      exact l35 hi_86_32 ⟨rfl, by unfold ts; rw [if_neg c1, if_pos c2]; exact hq⟩
    · refine l13f hi_86_9 (decide_eq_false c2) ?_
      refine l1 (v := c) hi_86_12 rfl ?_
      by_cases c3 : c < 0
      · refine l12t hi_86_13 (decide_eq_true c3) ?_
        exact l35 hi_86_32 ⟨rfl, by unfold ts; rw [if_neg c1, if_neg c2, if_pos c3]; exact hq⟩
      · refine l12f hi_86_13 (decide_eq_false c3) ?_
        refine l1 (v := c) hi_86_16 rfl ?_
        refine l0 hi_86_17 ?_
        by_cases c4 : 4 ≤ c
        · refine l13t hi_86_18 (decide_eq_true c4) ?_
          exact l35 hi_86_32 ⟨rfl, by unfold ts; rw [if_neg c1, if_neg c2, if_neg c3, if_pos c4]; exact hq⟩
        · refine l13f hi_86_18 (decide_eq_false c4) ?_
          refine l2 (v := cTa A t) hi_86_21 rfl ?_
          refine l20r (v := .ref (B t)) hi_86_22 (h.ta t ht) rfl ?_
          refine l1 (v := r) hi_86_25 rfl ?_
          refine l0 hi_86_26 ?_
          refine l10 hi_86_27 ?_
          refine l1 (v := c) hi_86_28 rfl ?_
          refine l10 hi_86_29 ?_
          refine l1 (v := v) hi_86_30 rfl ?_
          obtain ⟨k, g, g1, g2, g3, g4, g5⟩ := h.ar t ht
          have c4' : c < 4 := by rw [i_lt]; rw [i_le] at c4; omega
          obtain ⟨e1, e2⟩ := ix c1 c2 hl.2 c3 c4'
          refine l26r (i := r * 4 + c) hi_86_31 g1 (fun q1 q2 => ?_)
          refine l35 hi_86_32 ⟨rfl, ?_⟩
          unfold ts
          rw [if_neg c1, if_neg c2, if_neg c3, if_neg c4, e1]
          refine h.tab ht (Or.inl rfl) (Nat.le_of_eq sa_ln.symm) (fun k' _ _ h2 => sa_ne h2) ?_ (sa_eq g1) g2 g3 g4 (fun j hj => ?_)
          · rw [fs_of (sa_ne (h.bt ht))]
            exact h.ta t ht
          · unfold upd
            by_cases e : j = ci r c
            · rw [if_pos e, if_pos e]
            · rw [if_neg e, if_neg e]
              exact g5 j hj
theorem lc30 {n : Int32} (hS : CM A K S s) (ht : cTl K t) : am_L (am_PP sc) N d 30 0 [some (.ref (cTa A t)), some (.int n)] [] S (fun o S1 => o = some none ∧ CM A K S1 (tct s t n)) := by
  obtain ⟨B, h⟩ := hS
  have hq : CM A K S s := ⟨B, h⟩
  refine l1 (v := n) hi_30_0 rfl ?_
  by_cases c1 : n < 0
  · refine l12t hi_30_1 (decide_eq_true c1) ?_
    exact l35 hi_30_17 ⟨rfl, by unfold tct; rw [if_pos c1]; exact hq⟩
  · refine l12f hi_30_1 (decide_eq_false c1) ?_
    refine l1 (v := n) hi_30_4 rfl ?_
    refine l2 (v := cTa A t) hi_30_5 rfl ?_
    refine l20r (v := .int (s.r t)) hi_30_6 (h.ta t ht) rfl ?_
    by_cases c2 : s.r t ≤ n
    · refine l13t hi_30_9 (decide_eq_true c2) ?_
      exact l35 hi_30_17 ⟨rfl, by unfold tct; rw [if_neg c1, if_pos c2]; exact hq⟩
    · refine l13f hi_30_9 (decide_eq_false c2) ?_
      refine l2 (v := cTa A t) hi_30_12 rfl ?_
      refine l1 (v := n) hi_30_13 rfl ?_
      refine l21r hi_30_14 (h.ta t ht) (fun _ => ?_)
      refine l35 hi_30_17 ⟨rfl, ?_⟩
      unfold tct
      rw [if_neg c1, if_neg c2]
      obtain ⟨k, g, g1, g2, g3, g4, g5⟩ := h.ar t ht
      rw [i_lt] at c1
      rw [i_le] at c2
      have e0 : (0 : Int32).toInt = 0 := rfl
      refine h.tab ht (Or.inl rfl) (Nat.le_of_eq so_ln.symm) (fun k' _ h2 _ => so_ne h2) (cso_eq (h.ta t ht)) (cso_a (h.ta t ht) g1) g2 (by omega) (by omega) (fun j hj => g5 j (by omega))
end TAB
