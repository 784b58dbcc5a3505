/-! WORDS ON BOTH SIDES: L the words, a how many are read -/
def WR (L : List xR) (a : Nat) (s : cS) (k : kS) : Prop := (TR s (.s 3) L ∧ L.length ≤ 16384 ∧ ∀ q ∈ L, q.1 ≠ 0 ∧ q.1 ≠ -1) ∧ (k.1 0 = xn L.length ∧ ∀ i q, L[i]? = some q → k.2 1 i = q.1 ∧ k.2 2 i = q.2.1) ∧ (s.f 2 2 = xn a ∧ k.1 4 = xn a ∧ a ≤ L.length) ∧ (s.f 2 3 = k.1 5 ∧ (k.1 5).toInt ≤ 48 ∧ -(a : Int) ≤ (k.1 5).toInt) ∧ k.1 6 = 0
theorem nf_o {s : cS} {k j j' : Nat} {v : Int32} (h : j' ≠ j) : (nf s k j v).f k j' = s.f k j' := by rw [nf_eq]; exact if_neg h
section WRS
variable {L : List xR} {a : Nat} {s s' : cS} {k k' : kS}
theorem WR.kat (h : WR L a s k) {i : Nat} (hi : i ≤ 1000000) : (∃ q, L[i]? = some q ∧ c93 s (xn i) = q.1 ∧ k184 k (xn i) = q.1 ∧ c104 s (xn i) = q.2.1 ∧ kr k 2 (xn i) = q.2.1 ∧ q.1 ≠ 0 ∧ q.1 ≠ -1) ∨ (L.length ≤ i ∧ c93 s (xn i) = 0 ∧ k184 k (xn i) = -1) := by
  obtain ⟨⟨h1, h2, h3⟩, ⟨h4, h5⟩, -⟩ := h
  have ei : (xn i).toInt = i := xn_i (by omega)
  rcases Nat.lt_or_ge i L.length with c | c
  · left
    have hq : L[i]? = some L[i] := List.getElem?_eq_getElem c
    refine ⟨L[i], hq, h1.g0 ei hq, ?_, h1.g1 ei hq, ?_, (h3 _ (List.mem_of_getElem? hq)).1, (h3 _ (List.mem_of_getElem? hq)).2⟩
    · unfold k184
      rw [h4, if_neg (by rw [i_le, xn_i (by omega), ei]; omega)]
      show k.2 1 (xn i).toNatClampNeg = _
      rw [xn_nat (by omega)]
      exact (h5 i _ hq).1
    · show k.2 2 (xn i).toNatClampNeg = _
      rw [xn_nat (by omega)]
      exact (h5 i _ hq).2
  · right
    refine ⟨c, h1.out (by rw [ei]; omega), ?_⟩
    unfold k184
    rw [h4, if_pos (by rw [i_le, xn_i (by omega), ei]; omega)]
theorem WR.kd (h : WR L a s k) : (∃ q, L[a]? = some q ∧ c53 s = q.1 ∧ k183 k = q.1 ∧ c104 s (s.f 2 2) = q.2.1 ∧ kr k 2 (k.1 4) = q.2.1 ∧ q.1 ≠ 0 ∧ q.1 ≠ -1) ∨ (a = L.length ∧ c53 s = 0 ∧ k183 k = -1) := by
  have hl : a ≤ L.length := h.2.2.1.2.2
  have h16 := h.1.2.1
  have e1 := h.2.2.1.1
  have e2 := h.2.2.1.2.1
  rcases h.kat (i := a) (by omega) with ⟨q, q1, q2, q3, q4, q5, q6, q7⟩ | ⟨q1, q2, q3⟩
  · left
    refine ⟨q, q1, ?_, ?_, ?_, ?_, q6, q7⟩
    · show tg s (.s 3) (s.f 2 2) 0 = _
      rw [e1]; exact q2
    · show k184 k (k.1 4) = _
      rw [e2]; exact q3
    · rw [e1]; exact q4
    · rw [e2]; exact q5
  · right
    refine ⟨by omega, ?_, ?_⟩
    · show tg s (.s 3) (s.f 2 2) 0 = _
      rw [e1]; exact q2
    · show k184 k (k.1 4) = _
      rw [e2]; exact q3
theorem WR.is {K : Int32} (h : WR L a s k) (h0 : K ≠ 0) (h1 : K ≠ -1) : c53 s = K ↔ k183 k = K := by
  rcases h.kd with ⟨q, -, q2, q3, -⟩ | ⟨-, q2, q3⟩
  · rw [q2, q3]
  · rw [q2, q3]
    exact ⟨fun z => absurd z.symm h0, fun z => absurd z.symm h1⟩
theorem WR.fr {F T B G F' A' : Nat} (h : WR L a s k) (hc : cFr F T B G s s') (hk : kFr F' A' k k') (c1 : T.testBit 3 = false) (c2 : F.testBit 34 = false) (c3 : F.testBit 35 = false) (k1 : F' &&& 113 = 0) (k2 : A' &&& 6 = 0) : WR L a s' k' := by
  have tb : ∀ (A M j : Nat), A &&& M = 0 → M.testBit j = true → A.testBit j = false := fun A M j ez hj => by
    have := congrArg (fun q => q.testBit j) ez
    simp only [Nat.testBit_and, hj, Bool.and_true, Nat.zero_testBit] at this
    exact this
  obtain ⟨⟨h1, h2, h3⟩, ⟨h4, h5⟩, ⟨h6, h7, h8⟩, ⟨h9, h10, h11⟩, h12⟩ := h
  have e0 := hk.1 0 (tb _ _ 0 k1 (by decide))
  have e4 := hk.1 4 (tb _ _ 4 k1 (by decide))
  have e5 := hk.1 5 (tb _ _ 5 k1 (by decide))
  have e6 := hk.1 6 (tb _ _ 6 k1 (by decide))
  refine ⟨⟨h1.fr hc c1, h2, h3⟩, ⟨by rw [e0]; exact h4, fun i q hq => ?_⟩, ⟨by rw [hc.1 2 2 (by decide) c2]; exact h6, by rw [e4]; exact h7, h8⟩, ⟨by rw [hc.1 2 3 (by decide) c3, e5]; exact h9, by rw [e5]; exact h10, by rw [e5]; exact h11⟩, by rw [e6]; exact h12⟩
  rw [hk.2 1 (tb _ _ 1 k2 (by decide)), hk.2 2 (tb _ _ 2 k2 (by decide))]
  exact h5 i q hq
/-- a word is read: what stays and what is new -/
theorem WR.adv {lv : Int32} (h : WR L a s k) (ha : a < L.length) (h3 : s'.r (.s 3) = s.r (.s 3)) (h4 : s'.c (.s 3) = s.c (.s 3)) (h5 : s'.f 2 2 = xn (a + 1)) (h6 : s'.f 2 3 = lv) (k0 : k'.1 0 = k.1 0) (k1 : k'.2 1 = k.2 1) (k2 : k'.2 2 = k.2 2) (k4 : k'.1 4 = k.1 4 + 1) (k5 : k'.1 5 = lv) (k6 : k'.1 6 = k.1 6) (l1 : lv.toInt ≤ 48) (l2 : (k.1 5).toInt - 1 ≤ lv.toInt) : WR L (a + 1) s' k' := by
  obtain ⟨⟨g1, g2, g3⟩, ⟨g4, g5⟩, ⟨g6, g7, g8⟩, ⟨g9, g10, g11⟩, g12⟩ := h
  refine ⟨⟨g1.same h3 h4, g2, g3⟩, ⟨by rw [k0]; exact g4, fun i q hq => by rw [k1, k2]; exact g5 i q hq⟩, ⟨h5, ?_, ha⟩, ⟨by rw [h6, k5], by rw [k5]; exact l1, by rw [k5]; omega⟩, by rw [k6]; exact g12⟩
  rw [k4, g7, xn_succ (by omega)]
theorem c55_go (h : WR L a s k) {q : xR} (hq : L[a]? = some q) : c55 s = if c56 s q.1 = 0 then c55_30 s q.1 else c55_30 (nf s 2 3 (s.f 2 3 - 1)) q.1 := by
  have hl := (List.getElem?_eq_some_iff.mp hq).1
  have h16 := h.1.2.1
  have e : tg s (.s 3) (s.f 2 2) 0 = q.1 := by
    rw [h.2.2.1.1]
    exact h.1.1.g0 (xn_i (by omega)) hq
  unfold c55
  rw [e]
theorem c55_69_go {s1 : cS} (h : WR L a s k) {q : xR} (hq : L[a]? = some q) (hr : s1.r (.s 3) = s.r (.s 3)) (hc : s1.c (.s 3) = s.c (.s 3)) (hf : s1.f 2 2 = s.f 2 2) : c55_69 s1 = (nf s1 2 2 (xn (a + 1)), some q.2.1) := by
  have hl := (List.getElem?_eq_some_iff.mp hq).1
  have h16 := h.1.2.1
  have e1 : s1.f 2 2 + 1 = xn (a + 1) := by rw [hf, h.2.2.1.1, xn_succ (by omega)]
  have e2 : xn (a + 1) - 1 = xn a := xn_eq (by rw [i_sub (xn_i (by omega)) (show (1 : Int32).toInt = 1 from rfl) (by omega) (by omega)]; omega) (by omega)
  have t : TR (nf s1 2 2 (xn (a + 1))) (.s 3) L := h.1.1.same hr hc
  unfold c55_69
  rw [e1, e2, t.g1 (xn_i (by omega)) hq]
/-- a word that neither begins nor ends a level -/
theorem WR.pl (h : WR L a s k) {q : xR} (hq : L[a]? = some q) (h1 : c56 s q.1 = 0) (h2 : c57 s q.1 = 0) : c55 s = (nf s 2 2 (xn (a + 1)), some q.2.1) ∧ WR L (a + 1) (nf s 2 2 (xn (a + 1))) (kf k 4 (k.1 4 + 1)) := by
  have hl := (List.getElem?_eq_some_iff.mp hq).1
  refine ⟨?_, ?_⟩
  · rw [c55_go h hq, if_pos h1]
    unfold c55_30
    rw [if_pos h2]
    exact c55_69_go h hq rfl rfl rfl
  · exact h.adv (lv := k.1 5) hl rfl rfl nf_at (by rw [nf_o (by decide)]; exact h.2.2.2.1.1) rfl rfl rfl rfl rfl rfl h.2.2.2.1.2.1 (by omega)
/-- a word that begins a level -/
theorem WR.en (h : WR L a s k) {q : xR} (hq : L[a]? = some q) (h1 : c56 s q.1 = 0) (h2 : c57 s q.1 ≠ 0) : (k.1 5 ≠ 48 → c55 s = (nf (nf s 2 3 (s.f 2 3 + 1)) 2 2 (xn (a + 1)), some q.2.1) ∧ WR L (a + 1) (nf (nf s 2 3 (s.f 2 3 + 1)) 2 2 (xn (a + 1))) (kf (kf k 5 (k.1 5 + 1)) 4 (k.1 4 + 1))) ∧ (k.1 5 = 48 → (c55 s).2 = none) := by
  have hl := (List.getElem?_eq_some_iff.mp hq).1
  have h16 := h.1.2.1
  obtain ⟨e1, e2, e3⟩ := h.2.2.2.1
  have e48 : (48 : Int32).toInt = 48 := rfl
  have e : c55 s = if s.f 2 3 < 48 then c55_59 s else cbd (c58 s 8 (s.f 2 2)) (fun _ w9 => c55_59 ((c58 s 8 (s.f 2 2)).1)) := by
    rw [c55_go h hq, if_pos h1]
    unfold c55_30
    rw [if_neg h2]
  refine ⟨fun hne => ?_, fun heq => ?_⟩
  · have hlt : s.f 2 3 < 48 := by
      rw [i_lt, e1, e48]
      by_cases c : (k.1 5).toInt < 48
      · exact c
      · exact absurd (Int32.toInt_inj.mp (by rw [e48]; omega)) hne
    have l5 : (k.1 5 + 1).toInt = (k.1 5).toInt + 1 := i_add rfl (show (1 : Int32).toInt = 1 from rfl) (by omega) (by omega)
    refine ⟨?_, ?_⟩
    · rw [e, if_pos hlt]
      unfold c55_59
      exact c55_69_go h hq rfl rfl (nf_o (by decide))
    · rw [i_lt, e1, e48] at hlt
      refine h.adv (lv := k.1 5 + 1) hl rfl rfl nf_at ?_ rfl rfl rfl rfl rfl rfl (by omega) (by omega)
      rw [nf_o (by decide), nf_at, e1]
  · rw [e, if_neg (by rw [i_lt, e1, heq]; omega)]
    rw [cbd_none rfl]
    rfl
/-- a word that ends a level -/
theorem WR.le (h : WR L a s k) {q : xR} (hq : L[a]? = some q) (h1 : c56 s q.1 ≠ 0) (h2 : c57 s q.1 = 0) : c55 s = (nf (nf s 2 3 (s.f 2 3 - 1)) 2 2 (xn (a + 1)), some q.2.1) ∧ WR L (a + 1) (nf (nf s 2 3 (s.f 2 3 - 1)) 2 2 (xn (a + 1))) (kf (kf k 4 (k.1 4 + 1)) 5 (k.1 5 - 1)) := by
  have hl := (List.getElem?_eq_some_iff.mp hq).1
  have h16 := h.1.2.1
  obtain ⟨e1, e2, e3⟩ := h.2.2.2.1
  have l5 : (k.1 5 - 1).toInt = (k.1 5).toInt - 1 := i_sub rfl (show (1 : Int32).toInt = 1 from rfl) (by omega) (by omega)
  refine ⟨?_, ?_⟩
  · rw [c55_go h hq, if_neg h1]
    have h2' : c57 (nf s 2 3 (s.f 2 3 - 1)) q.1 = 0 := h2
    unfold c55_30
    rw [if_pos h2']
    exact c55_69_go h hq rfl rfl (nf_o (by decide))
  · refine h.adv (lv := k.1 5 - 1) hl rfl rfl nf_at ?_ rfl rfl rfl rfl rfl rfl (by omega) (by omega)
    rw [nf_o (by decide), nf_at, e1]
theorem c64_yes {K : Int32} (h : c53 s = K) : c64 s K = c55 s := by
  have e : c65 s K = (s, some 0) := by
    unfold c65
    rw [if_pos (show tg s (.s 3) (s.f 2 2) 0 = K from h)]
  unfold c64
  rw [e, cbd_some rfl]
  show cbd (c55 s) (fun _ w10 => ((c55 s).1, some w10)) = c55 s
  cases hq : (c55 s).2 with
  | none => rw [cbd_none hq]
  | some w =>
    rw [cbd_some hq]
    show ((c55 s).1, some w) = c55 s
    rw [← hq]
theorem c65_no {K : Int32} (h : c53 s ≠ K) : (c65 s K).2 = none := by
  unfold c65
  rw [if_neg (show ¬ tg s (.s 3) (s.f 2 2) 0 = K from h), cbd_none rfl]
  rfl
theorem c64_no {K : Int32} (h : c53 s ≠ K) : (c64 s K).2 = none := by
  unfold c64
  rw [cbd_none (c65_no h)]
  exact c65_no h
/-- the reference refuses -/
theorem k194_f {c : Int32} (hc : c ≠ 0) : (k194 k c).1.1 6 ≠ 0 ∧ (k194 k c).1.1 10 = 0 ∧ (k194 k c).2 = 0 := by
  unfold k194
  by_cases h : k.1 6 ≠ 0
  · rw [if_pos h]
    exact ⟨h, rfl, rfl⟩
  · rw [if_neg h]
    exact ⟨hc, rfl, rfl⟩
end WRS
