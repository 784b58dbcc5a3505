/-! A BREAK: is there a loop; hidden locals are dropped -/
theorem c123_f {s : cS} {f : xF} {r : List xF} {y z : Int32} (h : XC 0 s (f :: r)) (hz : SZ (f :: r)) : (c123_15 s y z).1.f 1 0 ≠ 0 ↔ s.f 1 0 ≠ 0 ∨ bLp f.2.2.2.1 = 0 := by
  have zz := hz.l
  have e28 : c50 s = xn (fLp r + bLp f.2.2.2.1) := xn_eq (by show (s.r (.s 28)).toInt = _; rw [h.lp]; rfl) (by have : fLp (f :: r) = fLp r + bLp f.2.2.2.1 := rfl; omega)
  have e12 : s.b s.now 12 = xn (fLp r) := by rw [h.nw f r rfl]; exact h.xf.2.2.2.2.1
  have zl : fLp (f :: r) = fLp r + bLp f.2.2.2.1 := rfl
  unfold c123_15
  by_cases c : bLp f.2.2.2.1 = 0
  · rw [e28, e12, c, Nat.add_zero, if_neg (fun q => q rfl)]
    exact ⟨fun _ => Or.inr rfl, fun _ => c76_f (by decide)⟩
  · have hne : c50 s ≠ s.b s.now 12 := by
      rw [e28, e12]
      intro q
      have := congrArg Int32.toInt q
      rw [xn_i (by omega), xn_i (by omega)] at this
      omega
    rw [if_pos hne]
    have key : ∀ q : cS × Option Int32, cFr 0 1073741824 0 20 s q.1 → (q.1.f 1 0 ≠ 0 ↔ s.f 1 0 ≠ 0 ∨ bLp f.2.2.2.1 = 0) := fun q hq => by
      rw [hq.1 1 0 (by decide) (Nat.zero_testBit _)]
      exact ⟨Or.inl, fun w => w.resolve_right c⟩
    split
    · exact key _ ((fr_c123_82 s).mono rfl rfl rfl rfl)
    · exact key _ (((fr_c78 s 33 (c124 s) 0 0).mono rfl rfl rfl rfl : cFr 0 1073741824 0 20 s _).trans ((fr_c123_81 (c78 s 33 (c124 s) 0 0).1 (c78 s 33 (c124 s) 0 0).2).mono rfl rfl rfl rfl))
theorem bl_go {k : kS} {w d : Int32} (hd : k.1 32 = d) : ∀ (n : Nat) (M R : List (Int32 × xR)) (x : Int32), M.length = n → (R ++ M).length ≤ 1000000 → (∀ i q, (R ++ M)[i]? = some q → k.2 41 i = q.2.2.2.1 ∧ k.2 42 i = q.2.2.2.2) → (∀ q ∈ M, q.2.2.2.1 = d) → (∀ q ∈ R, q.2.2.2.1 ≠ d) → x.toInt + 1 = (R ++ M).length → ∃ m v, kwh (k233b7 k w) m x = (1, v) ∧ ((∃ q ∈ M, q.2.2.2.2 ≠ 0) → ¬ v < 0 ∧ kr k 41 v = d) ∧ ((¬ ∃ q ∈ M, q.2.2.2.2 ≠ 0) → v < 0 ∨ kr k 41 v ≠ d) := by
  intro n
  induction n with
  | zero =>
    intro M R x hM hz h hm hr hx
    have e0 : M = [] := List.eq_nil_of_length_eq_zero hM
    subst e0
    rw [List.append_nil] at h hz hx
    have ez : (0 : Int32).toInt = 0 := rfl
    by_cases c : x < 0
    · have e : k233b7 k w x = (1, x) := by unfold k233b7; rw [if_pos c]
      exact ⟨1, x, by rw [kwh_out (by rw [e]; exact Nat.succ_ne_zero _), e], fun ⟨q, hq, _⟩ => absurd hq List.not_mem_nil, fun _ => Or.inl c⟩
    · have c' := c
      rw [i_lt, ez] at c'
      have hi : x.toInt.toNat < R.length := by omega
      have hq : R[x.toInt.toNat]? = some R[x.toInt.toNat] := List.getElem?_eq_getElem hi
      have h41 : kr k 41 x ≠ d := by
        show k.2 41 x.toInt.toNat ≠ d
        rw [(h _ _ hq).1]
        exact hr _ (List.mem_of_getElem? hq)
      have e : k233b7 k w x = (1, x) := by unfold k233b7; rw [if_neg c, if_pos (by rw [hd]; exact h41)]
      exact ⟨1, x, by rw [kwh_out (by rw [e]; exact Nat.succ_ne_zero _), e], fun ⟨q, hq, _⟩ => absurd hq List.not_mem_nil, fun _ => Or.inr h41⟩
  | succ n ih =>
    intro M R x hM hz h hm hr hx
    obtain ⟨M', l, rfl, hM'⟩ := snoc_of hM
    have ez : (0 : Int32).toInt = 0 := rfl
    have hlen : (R ++ (M' ++ [l])).length = R.length + n + 1 := by rw [List.length_append, hM]; omega
    rw [hlen] at hx hz
    have hxn : x.toInt = (R.length + n : Nat) := by omega
    have hl : (R ++ (M' ++ [l]))[R.length + n]? = some l := by
      rw [← List.append_assoc, List.getElem?_append_right (by rw [List.length_append]; omega), List.length_append, hM', Nat.sub_self]
      rfl
    have xnn : x.toNatClampNeg = R.length + n := by show x.toInt.toNat = _; omega
    have r41 : kr k 41 x = d := by
      show k.2 41 x.toNatClampNeg = d
      rw [xnn, (h _ _ hl).1]
      exact hm l (List.mem_append_right _ (List.mem_singleton.mpr rfl))
    have r42 : kr k 42 x = l.2.2.2.2 := by
      show k.2 42 x.toNatClampNeg = _
      rw [xnn]
      exact (h _ _ hl).2
    have hc : ¬ x < 0 := by rw [i_lt, ez]; omega
    by_cases c1 : l.2.2.2.2 ≠ 0
    · have e : k233b7 k w x = (1, x) := by
        unfold k233b7
        rw [if_neg hc, if_neg (by rw [r41, hd]; exact fun q => q rfl), if_pos (by rw [r42]; exact c1)]
      exact ⟨1, x, by rw [kwh_out (by rw [e]; exact Nat.succ_ne_zero _), e], fun _ => ⟨hc, r41⟩, fun q => absurd ⟨l, List.mem_append_right _ (List.mem_singleton.mpr rfl), c1⟩ q⟩
    · have e : k233b7 k w x = (0, x + (-1)) := by
        unfold k233b7
        rw [if_neg hc, if_neg (by rw [r41, hd]; exact fun q => q rfl), if_neg (by rw [r42]; exact c1)]
      have ex1 : (x + (-1)).toInt = x.toInt + (-1) := i_add rfl (show (-1 : Int32).toInt = -1 from rfl) (by omega) (by omega)
      obtain ⟨m, v, r1, r2, r3⟩ := ih M' R (x + (-1)) hM' (by rw [List.length_append, hM']; omega) (fun i q hq => h i q (by rw [← List.append_assoc, List.getElem?_append_left (List.getElem?_eq_some_iff.mp hq).1]; exact hq)) (fun q hq => hm q (List.mem_append_left _ hq)) hr (by rw [ex1, List.length_append, hM']; omega)
      refine ⟨m + 1, v, by rw [kwh_go (by rw [e]), e]; exact r1, fun ⟨q, hq, hq2⟩ => r2 ?_, fun q => r3 ?_⟩
      · rcases List.mem_append.mp hq with a | a
        · exact ⟨q, a, hq2⟩
        · rw [List.mem_singleton.mp a] at hq2
          exact absurd hq2 c1
      · rintro ⟨q', a, a2⟩
        exact q ⟨q', List.mem_append_left _ a, a2⟩
theorem kBl_d {o l g d : Nat} : ∀ bs : List xB, ∀ q ∈ kBl o l g d bs, q.2.2.2.1 = xn d := by
  intro bs
  induction bs with
  | nil => intro q hq; exact absurd hq List.not_mem_nil
  | cons b r ih =>
    intro q hq
    unfold kBl at hq
    split at hq
    · exact ih q hq
    · rcases List.mem_append.mp hq with a | a
      · exact ih q a
      · rw [List.mem_singleton.mp a]
theorem fkBl_d : ∀ X : List xF, ∀ q ∈ fkBl X, ∃ d, d < X.length ∧ q.2.2.2.1 = xn d := by
  intro X
  induction X with
  | nil => intro q hq; exact absurd hq List.not_mem_nil
  | cons f r ih =>
    intro q hq
    have hq' : q ∈ fkBl r ++ kBl (kL r).length (fLab r).length (fUm r).length r.length f.2.2.2.1 := hq
    rcases List.mem_append.mp hq' with a | a
    · obtain ⟨d, h1, h2⟩ := ih q a
      exact ⟨d, Nat.lt_succ_of_lt h1, h2⟩
    · exact ⟨r.length, Nat.lt_succ_self _, kBl_d _ q a⟩
theorem kBl_lp {o l g d : Nat} : ∀ bs : List xB, (∃ q ∈ kBl o l g d bs, q.2.2.2.2 ≠ 0) ↔ bLp bs ≠ 0 := by
  intro bs
  induction bs with
  | nil => exact ⟨fun ⟨q, hq, _⟩ => absurd hq List.not_mem_nil, fun z => absurd rfl z⟩
  | cons b r ih =>
    have e : bLp (b :: r) = bLp r + (if b.2.2.2 = 1 then 1 else 0) := rfl
    rw [e]
    unfold kBl
    by_cases c2 : b.2.2.2 = 2
    · rw [if_pos c2, if_neg (by omega), Nat.add_zero]
      exact ih
    · rw [if_neg c2]
      by_cases c1 : b.2.2.2 = 1
      · simp only [if_pos c1]
        refine ⟨fun _ => Nat.succ_ne_zero _, fun _ => ⟨_, List.mem_append_right _ (List.mem_singleton.mpr rfl), ?_⟩⟩
        show (1 : Int32) ≠ 0
        decide
      · simp only [if_neg c1, Nat.add_zero]
        rw [← ih]
        constructor
        · rintro ⟨q, hq, hq2⟩
          rcases List.mem_append.mp hq with a | a
          · exact ⟨q, a, hq2⟩
          · rw [List.mem_singleton.mp a] at hq2
            exact absurd rfl hq2
        · rintro ⟨q, hq, hq2⟩
          exact ⟨q, List.mem_append_left _ hq, hq2⟩
theorem k233_k {k : kS} {f : xF} {r : List xF} {w : Int32} (h : XK k (f :: r)) (hz : SZ (f :: r)) : XK (k233 k w).1 (f :: r) ∧ ((k233 k w).1.1 8 ≠ 0 ↔ k.1 8 ≠ 0 ∨ bLp f.2.2.2.1 = 0) := by
  have hzk := hz.k
  have hd := h.dp hz
  have hlen : (f :: r).length = r.length + 1 := rfl
  refine (fun hh : ((k233 k w).1.1 8 ≠ 0 ↔ k.1 8 ≠ 0 ∨ bLp f.2.2.2.1 = 0) => ⟨h.frs (fr_k233 k w) rfl rfl (fun z => Classical.byContradiction (fun y => hh.mpr (Or.inl y) z)), hh⟩) ?_
  have hB : fkBl (f :: r) = fkBl r ++ kBl (kL r).length (fLab r).length (fUm r).length r.length f.2.2.2.1 := rfl
  obtain ⟨m, v, r1, r2, r3⟩ := bl_go (w := w) hd _ (kBl (kL r).length (fLab r).length (fUm r).length r.length f.2.2.2.1) (fkBl r) (k.1 37 - 1) rfl (by rw [← hB]; omega) (fun i q hq => ⟨(h.2.1.2 i q hq).2.2.2.1, (h.2.1.2 i q hq).2.2.2.2⟩) (kBl_d _) (fun q hq e => by
    obtain ⟨d, h1, h2⟩ := fkBl_d r q hq
    rw [h2] at e
    have := congrArg Int32.toInt e
    rw [xn_i (by omega), xn_i (by omega)] at this
    omega) (by
    rw [h.2.1.1, i_sub (xn_i (by omega)) (show (1 : Int32).toInt = 1 from rfl) (by omega) (by omega), ← hB]
    omega)
  have hk := kfin_of ⟨m, r1⟩ (Nat.succ_ne_zero 0)
  have ek : k233 k w = k233_39 k w v := by unfold k233; rw [hk]
  rw [ek]
  unfold k233_39
  by_cases c : bLp f.2.2.2.1 = 0
  · have hno : ¬ ∃ q ∈ kBl (kL r).length (fLab r).length (fUm r).length r.length f.2.2.2.1, q.2.2.2.2 ≠ 0 := fun q => (kBl_lp _).mp q c
    have fin : (k233_56 k w).1.1 8 ≠ 0 := k191_f (by decide)
    rcases r3 hno with a | a
    · rw [if_pos a]
      exact ⟨fun _ => Or.inr c, fun _ => fin⟩
    · split
      · exact ⟨fun _ => Or.inr c, fun _ => fin⟩
      · rw [if_neg (by rw [hd]; exact a)]
        exact ⟨fun _ => Or.inr c, fun _ => fin⟩
  · obtain ⟨a1, a2⟩ := r2 ((kBl_lp _).mpr c)
    rw [if_neg a1, if_pos (by rw [hd]; exact a2)]
    have key : ∀ q : kS × Int32, q.1.1 8 = k.1 8 → (q.1.1 8 ≠ 0 ↔ k.1 8 ≠ 0 ∨ bLp f.2.2.2.1 = 0) := fun q hq => by
      rw [hq]
      exact ⟨Or.inl, fun w => w.resolve_right c⟩
    split
    · exact key _ ((fr_k233_102 k v).1 8 rfl)
    · exact key _ (((fr_k233_101 (k189 k 33 ((kr k 38 v) - (kr k 34 (k.1 32))) 0 0).1 v (k189 k 33 ((kr k 38 v) - (kr k 34 (k.1 32))) 0 0).2).1 8 rfl).trans ((fr_k189 k 33 ((kr k 38 v) - (kr k 34 (k.1 32))) 0 0).1 8 rfl))
