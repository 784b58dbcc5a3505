/-! WHAT A NAME MEANS: the last local of that name that can be seen -/
def vis (t : Int32) (q : xR) : Bool := decide (q.1 = t) && decide (q.2.1 &&& 1 ≠ 0)
def xfd (l : List xR) (t : Int32) : Option xR := l.reverse.find? (vis t)
theorem xfd_snoc {l : List xR} {q : xR} {t : Int32} : xfd (l ++ [q]) t = if vis t q = true then some q else xfd l t := by
  unfold xfd
  rw [List.reverse_append]
  show List.find? (vis t) (q :: l.reverse) = _
  rw [List.find?_cons]
  cases vis t q with
  | true => rfl
  | false => rfl
theorem snoc_of {α : Type} {L : List α} {n : Nat} (h : L.length = n + 1) : ∃ L' l, L = L' ++ [l] ∧ L'.length = n := by
  have hne : L ≠ [] := by intro e; rw [e] at h; cases h
  refine ⟨L.dropLast, L.getLast hne, (List.dropLast_concat_getLast hne).symm, ?_⟩
  rw [List.length_dropLast]
  omega
theorem fc_go {s : cS} {t : Int32} : ∀ (n : Nat) (L R : List xR) (x : Int32), L.length = n → TR s (.s 14) (L ++ R) → (L ++ R).length ≤ 1000000 → x.toInt + 1 = L.length → (∃ j q, L[j]? = some q ∧ xfd L t = some q ∧ ∃ m, kwh (c67b10 s t) m x = (1, xn j)) ∨ (xfd L t = none ∧ ∃ m v, kwh (c67b10 s t) m x = (2, v)) := by
  intro n
  induction n with
  | zero =>
    intro L R x hL h hz hx
    have e0 : L = [] := List.eq_nil_of_length_eq_zero hL
    subst e0
    right
    have ez : (0 : Int32).toInt = 0 := rfl
    have e : c67b10 s t x = (2, x) := by
      unfold c67b10
      rw [if_pos (by rw [i_lt, ez]; have : ([] : List xR).length = 0 := rfl; omega)]
    exact ⟨rfl, 1, x, by rw [kwh_out (by rw [e]; exact Nat.succ_ne_zero _), e]⟩
  | succ n ih =>
    intro L R x hL h hz hx
    obtain ⟨L', l, rfl, hL'⟩ := snoc_of hL
    have ez : (0 : Int32).toInt = 0 := rfl
    have zz : (L' ++ [l] ++ R).length = n + 1 + R.length := by rw [List.length_append, hL]
    have hxn : x.toInt = n := by omega
    have hl : (L' ++ [l] ++ R)[n]? = some l := by
      rw [List.getElem?_append_left (by omega), List.getElem?_append_right (by omega), hL', Nat.sub_self]
      rfl
    have g0 := h.g0 hxn hl
    have g1 := h.g1 hxn hl
    have hc : ¬ x < 0 := by rw [i_lt, ez]; omega
    have ex1 : (x + (-1)).toInt = x.toInt + (-1) := i_add rfl (show (-1 : Int32).toInt = -1 from rfl) (by omega) (by omega)
    have hrec := ih L' ([l] ++ R) (x + (-1)) hL' (by rw [← List.append_assoc]; exact h) (by rw [← List.append_assoc]; exact hz) (by omega)
    have cont : vis t l = false → c67b10 s t x = (0, x + (-1)) → (∃ j q, (L' ++ [l])[j]? = some q ∧ xfd (L' ++ [l]) t = some q ∧ ∃ m, kwh (c67b10 s t) m x = (1, xn j)) ∨ (xfd (L' ++ [l]) t = none ∧ ∃ m v, kwh (c67b10 s t) m x = (2, v)) := fun hv e => by
      have hs : xfd (L' ++ [l]) t = xfd L' t := by rw [xfd_snoc, hv]; rfl
      rcases hrec with ⟨j, q, q1, q2, m, q3⟩ | ⟨q1, m, v, q2⟩
      · left
        exact (⟨j, q, by rw [List.getElem?_append_left (List.getElem?_eq_some_iff.mp q1).1]; exact q1, hs.trans q2, m + 1, by rw [kwh_go (by rw [e]), e]; exact q3⟩ : ∃ j q, (L' ++ [l])[j]? = some q ∧ xfd (L' ++ [l]) t = some q ∧ ∃ m, kwh (c67b10 s t) m x = (1, xn j))
      · right
        exact (⟨hs.trans q1, m + 1, v, by rw [kwh_go (by rw [e]), e]; exact q2⟩ : xfd (L' ++ [l]) t = none ∧ ∃ m v, kwh (c67b10 s t) m x = (2, v))
    by_cases c1 : l.1 = t
    · by_cases c2 : l.2.1 &&& 1 = 0
      · refine cont ?_ ?_
        · unfold vis
          rw [decide_eq_false (p := l.2.1 &&& 1 ≠ 0) (fun z => z c2), Bool.and_false]
        · unfold c67b10
          rw [if_neg hc, g0, if_neg (fun z => z c1), g1, if_pos c2]
      · left
        have e : c67b10 s t x = (1, x) := by
          unfold c67b10
          rw [if_neg hc, g0, if_neg (fun z => z c1), g1, if_neg c2]
        have hv : vis t l = true := by
          unfold vis
          rw [decide_eq_true c1, decide_eq_true c2]
          rfl
        refine ⟨n, l, by rw [List.getElem?_append_right (by omega), hL', Nat.sub_self]; rfl, by rw [xfd_snoc, if_pos hv], 1, ?_⟩
        rw [kwh_out (by rw [e]; exact Nat.succ_ne_zero _), e, ← xn_eq hxn (by omega)]
    · refine cont ?_ ?_
      · unfold vis
        rw [decide_eq_false c1, Bool.false_and]
      · unfold c67b10
        rw [if_neg hc, g0, if_pos c1]
theorem c67_of {e : Nat} {s : cS} {X : List xF} {t : Int32} (h : XC e s X) (hz : SZ X) : (∃ j q, (fL X)[j]? = some q ∧ xfd (fL X) t = some q ∧ c67 s t = xn j) ∨ (xfd (fL X) t = none ∧ c67 s t = -1) := by
  have zz := hz.g
  have hx : (s.r (.s 14) - 1).toInt + 1 = (fL X).length := by
    rw [i_sub h.l.1 (show (1 : Int32).toInt = 1 from rfl) (by omega) (by omega)]
    omega
  rcases fc_go (t := t) _ (fL X) [] (s.r (.s 14) - 1) rfl (by rw [List.append_nil]; exact h.l) (by rw [List.append_nil]; omega) hx with ⟨j, q, q1, q2, q3⟩ | ⟨q1, m, v, q2⟩
  · left
    have hk := kfin_of q3 (Nat.succ_ne_zero 0)
    exact ⟨j, q, q1, q2, by unfold c67; rw [hk, if_pos rfl]⟩
  · right
    have hk := kfin_of ⟨m, q2⟩ (Nat.succ_ne_zero 1)
    exact ⟨q1, by unfold c67; rw [hk, if_neg (show ¬ (2 : Nat) = 1 by decide)]⟩
theorem fk_go {k : kS} {t : Int32} : ∀ (n : Nat) (L : List xR) (x : Int32), L.length = n → L.length ≤ 1000000 → (∀ i q, L[i]? = some q → xlok k i q) → x.toInt + 1 = L.length → (∃ j q, L[j]? = some q ∧ xfd L t = some q ∧ ∃ m, kwh (k206b7 k t) m x = (1, xn j)) ∨ (xfd L t = none ∧ ∃ m v, kwh (k206b7 k t) m x = (1, v) ∧ v < 0) := by
  intro n
  induction n with
  | zero =>
    intro L x hL hz h hx
    have e0 : L = [] := List.eq_nil_of_length_eq_zero hL
    subst e0
    right
    have ez : (0 : Int32).toInt = 0 := rfl
    have hx0 : x < 0 := by rw [i_lt, ez]; have : ([] : List xR).length = 0 := rfl; omega
    have e : k206b7 k t x = (1, x) := by
      unfold k206b7
      rw [if_pos hx0]
    exact ⟨rfl, 1, x, by rw [kwh_out (by rw [e]; exact Nat.succ_ne_zero _), e], hx0⟩
  | succ n ih =>
    intro L x hL hz h hx
    obtain ⟨L', l, rfl, hL'⟩ := snoc_of hL
    have ez : (0 : Int32).toInt = 0 := rfl
    have hxn : x.toInt = n := by omega
    have hl : (L' ++ [l])[n]? = some l := by
      rw [List.getElem?_append_right (by omega), hL', Nat.sub_self]
      rfl
    obtain ⟨g0, g1, g2⟩ := h n l hl
    have xn' : x.toNatClampNeg = n := by show x.toInt.toNat = n; omega
    have r25 : kr k 25 x = l.1 := by show k.2 25 x.toNatClampNeg = _; rw [xn']; exact g0
    have r28 : kr k 28 x = k.2 28 n := by show k.2 28 x.toNatClampNeg = _; rw [xn']
    have hc : ¬ x < 0 := by rw [i_lt, ez]; omega
    have ex1 : (x + (-1)).toInt = x.toInt + (-1) := i_add rfl (show (-1 : Int32).toInt = -1 from rfl) (by omega) (by omega)
    have hrec := ih L' (x + (-1)) hL' (by omega) (fun i q hq => h i q (by rw [List.getElem?_append_left (List.getElem?_eq_some_iff.mp hq).1]; exact hq)) (by omega)
    have cont : vis t l = false → k206b7 k t x = (0, x + (-1)) → (∃ j q, (L' ++ [l])[j]? = some q ∧ xfd (L' ++ [l]) t = some q ∧ ∃ m, kwh (k206b7 k t) m x = (1, xn j)) ∨ (xfd (L' ++ [l]) t = none ∧ ∃ m v, kwh (k206b7 k t) m x = (1, v) ∧ v < 0) := fun hv e => by
      have hs : xfd (L' ++ [l]) t = xfd L' t := by rw [xfd_snoc, hv]; rfl
      rcases hrec with ⟨j, q, q1, q2, m, q3⟩ | ⟨q1, m, v, q2, q3⟩
      · left
        exact (⟨j, q, by rw [List.getElem?_append_left (List.getElem?_eq_some_iff.mp q1).1]; exact q1, hs.trans q2, m + 1, by rw [kwh_go (by rw [e]), e]; exact q3⟩ : ∃ j q, (L' ++ [l])[j]? = some q ∧ xfd (L' ++ [l]) t = some q ∧ ∃ m, kwh (k206b7 k t) m x = (1, xn j))
      · right
        exact (⟨hs.trans q1, m + 1, v, by rw [kwh_go (by rw [e]), e]; exact q2, q3⟩ : xfd (L' ++ [l]) t = none ∧ ∃ m v, kwh (k206b7 k t) m x = (1, v) ∧ v < 0)
    by_cases c1 : l.1 = t
    · by_cases c2 : l.2.1 &&& 1 = 0
      · refine cont ?_ ?_
        · unfold vis
          rw [decide_eq_false (p := l.2.1 &&& 1 ≠ 0) (fun z => z c2), Bool.and_false]
        · unfold k206b7
          rw [if_neg hc, r25, if_neg (fun z => z c1), r28, if_neg (fun z => g1.mp z c2)]
      · left
        have e : k206b7 k t x = (1, x) := by
          unfold k206b7
          rw [if_neg hc, r25, if_neg (fun z => z c1), r28, if_pos (g1.mpr c2)]
        have hv : vis t l = true := by
          unfold vis
          rw [decide_eq_true c1, decide_eq_true c2]
          rfl
        refine ⟨n, l, hl, by rw [xfd_snoc, if_pos hv], 1, ?_⟩
        rw [kwh_out (by rw [e]; exact Nat.succ_ne_zero _), e, ← xn_eq hxn (by omega)]
    · refine cont ?_ ?_
      · unfold vis
        rw [decide_eq_false c1, Bool.false_and]
      · unfold k206b7
        rw [if_neg hc, r25, if_pos c1]
theorem k206_of {k : kS} {X : List xF} {t : Int32} (h : XK k X) (hz : SZ X) : (∃ j q, (kL X)[j]? = some q ∧ xfd (kL X) t = some q ∧ k206 k t = xn j) ∨ (xfd (kL X) t = none ∧ k206 k t < 0) := by
  have zz := hz.k
  have hx : (k.1 24 - 1).toInt + 1 = (kL X).length := by
    rw [h.1.1, i_sub (xn_i (by omega)) (show (1 : Int32).toInt = 1 from rfl) (by omega) (by omega)]
    omega
  rcases fk_go (t := t) _ (kL X) (k.1 24 - 1) rfl (by omega) h.1.2 hx with ⟨j, q, q1, q2, q3⟩ | ⟨q1, m, v, q2, q3⟩
  · left
    have hk := kfin_of q3 (Nat.succ_ne_zero 0)
    exact ⟨j, q, q1, q2, by unfold k206; rw [hk]⟩
  · right
    have hk := kfin_of ⟨m, q2⟩ (Nat.succ_ne_zero 0)
    exact ⟨q1, by unfold k206; rw [hk]; exact q3⟩
/-- locals that wait can't be seen -/
def WV : List xF → Prop
  | [] => True
  | f :: r => (∀ q ∈ f.2.2.1, q.2.1 &&& 1 = 0) ∧ WV r
theorem find_app {l l' : List xR} {t : Int32} : xfd (l ++ l') t = (match xfd l' t with | some q => some q | none => xfd l t) := by
  unfold xfd
  rw [List.reverse_append, List.find?_append]
  cases List.find? (vis t) l'.reverse <;> rfl
theorem xfd_eq {t : Int32} : ∀ {X : List xF}, WV X → xfd (fL X) t = xfd (kL X) t := by
  intro X
  induction X with
  | nil => intro _; rfl
  | cons f r ih =>
    intro h
    show xfd (fL r ++ (f.2.1 ++ f.2.2.1)) t = xfd (kL r ++ f.2.1) t
    have hp : xfd f.2.2.1 t = none := by
      unfold xfd
      rw [List.find?_eq_none]
      intro q hq
      have := h.1 q (List.mem_reverse.mp hq)
      unfold vis
      rw [decide_eq_false (p := q.2.1 &&& 1 ≠ 0) (fun z => z this), Bool.and_false]
      exact Bool.false_ne_true
    rw [find_app, find_app, find_app, hp, ih h.2]
/-- a name that is constant -/
def xcon (X : List xF) (t : Int32) : Prop := ∃ q, xfd (kL X) t = some q ∧ q.2.1 &&& 2 ≠ 0
theorem xfd_vis {l : List xR} {t : Int32} {q : xR} (h : xfd l t = some q) : q.2.1 &&& 1 ≠ 0 := by
  unfold xfd at h
  have := List.find?_some h
  unfold vis at this
  rw [Bool.and_eq_true] at this
  exact of_decide_eq_true this.2
theorem c66_c {e : Nat} {s : cS} {X : List xF} {t : Int32} (h : XC e s X) (hz : SZ X) (hw : WV X) : (c66 s t).1.f 12 9 ≠ 0 ↔ xcon X t := by
  have zz := hz.g
  have h30 : ∀ (y1 y2 z0 : Int32), (c66_30 s y1 y2 z0).1.f 12 9 = z0 := fun y1 y2 z0 => by
    unfold c66_30
    split
    · split
      · have hf := fr_c68 (nf (nf s 12 9 z0) 12 7 9) y2
        show (nf (c68 (nf (nf s 12 9 z0) 12 7 9) y2).1 12 8 _).f 12 9 = z0
        rw [nf_eq]
        show upd ((c68 (nf (nf s 12 9 z0) 12 7 9) y2).1.f 12) 8 _ 9 = z0
        unfold upd
        rw [if_neg (by decide), hf.1 12 9 (by decide) (Nat.zero_testBit _)]
        rfl
      · rfl
    · rfl
  unfold c66
  rcases c67_of (t := t) h hz with ⟨j, q, q1, q2, q3⟩ | ⟨q1, q2⟩
  · have jl := (List.getElem?_eq_some_iff.mp q1).1
    have ej : (xn j).toInt = j := xn_i (by omega)
    rw [q3, if_neg (by rw [i_lt, ej]; have ez : (0 : Int32).toInt = 0 := rfl; omega), h.l.g1 ej q1]
    rw [xfd_eq hw] at q2
    by_cases c : q.2.1 &&& 2 = 0
    · rw [if_pos c]
      show (c66_30 s t (xn j) 0).1.f 12 9 ≠ 0 ↔ _
      rw [h30]
      refine ⟨fun z => absurd rfl z, ?_⟩
      rintro ⟨q', p1, p2⟩
      rw [q2] at p1
      cases p1
      exact absurd c p2
    · rw [if_neg c, h30]
      exact ⟨fun _ => ⟨q, q2, c⟩, fun _ => by decide⟩
  · rw [q2, if_pos (by decide)]
    show (c66_30 s t (-1) 0).1.f 12 9 ≠ 0 ↔ _
    rw [h30]
    refine ⟨fun z => absurd rfl z, ?_⟩
    rintro ⟨q', p1, p2⟩
    rw [xfd_eq hw] at q1
    rw [q1] at p1
    cases p1
theorem k237_c {k : kS} {X : List xF} {w : Int32} (h : XK k X) (hz : SZ X) : XK (k237 k w).1 X ∧ ((k237 k w).1.1 8 ≠ 0 ↔ k.1 8 ≠ 0 ∨ xcon X (kr k 2 w)) := by
  have zz := hz.k
  have h31 : ∀ k1 : kS, XK k1 X → XK (k237_31 k1 w).1 X ∧ (k237_31 k1 w).1.1 8 = k1.1 8 := fun k1 q => ⟨q.fr (fr_k237_31 k1 w) rfl rfl, (fr_k237_31 k1 w).1 8 rfl⟩
  unfold k237
  rcases k206_of (t := kr k 2 w) h hz with ⟨j, q, q1, q2, q3⟩ | ⟨q1, q2⟩
  · have jl := (List.getElem?_eq_some_iff.mp q1).1
    have ej : (xn j).toInt = j := xn_i (by omega)
    have hv := xfd_vis q2
    have hx := fun z => (h.1.2 j q q1).2.2 z hv
    have r29 : kr k 29 (xn j) = k.2 29 j := by show k.2 29 (xn j).toNatClampNeg = _; rw [xn_nat (by omega)]
    rw [q3, if_neg (by rw [i_lt, ej]; have ez : (0 : Int32).toInt = 0 := rfl; omega), r29]
    by_cases c : k.2 29 j = 0
    · rw [if_pos c]
      obtain ⟨a1, a2⟩ := h31 k h
      refine ⟨a1, ?_⟩
      rw [a2]
      refine ⟨Or.inl, fun z => ?_⟩
      by_cases h8 : k.1 8 = 0
      · rcases z with z | ⟨q', p1, p2⟩
        · exact z
        · rw [q2] at p1
          cases p1
          exact absurd c ((hx h8).mpr p2)
      · exact h8
    · rw [if_neg c]
      obtain ⟨a1, a2⟩ := h31 _ (h.frs (fr_k191 k 10 w) rfl rfl (fun z => absurd z (k191_f (by decide))))
      refine ⟨a1, ?_⟩
      rw [a2]
      refine ⟨fun _ => ?_, fun _ => k191_f (by decide)⟩
      by_cases h8 : k.1 8 = 0
      · exact Or.inr ⟨q, q2, (hx h8).mp c⟩
      · exact Or.inl h8
  · rw [if_pos q2]
    obtain ⟨a1, a2⟩ := h31 k h
    refine ⟨a1, ?_⟩
    rw [a2]
    refine ⟨Or.inl, fun z => z.resolve_right ?_⟩
    rintro ⟨q', p1, p2⟩
    rw [q1] at p1
    cases p1
