/-! OUTER: what both answer -/
theorem l4n {P : am_P} {N d M pc a b c nx : Nat} {x : Int32} {tab : List (Int32 × Nat)} {ls ls' : am_V} {st : List Value} {S : am_S} {Q : Option (Option Value) → am_S → Prop} (hi : P.1 M pc = some (4, a, b, c, x, nx, tab)) (hn : a < ls.length) (hl : ls.set a (some .null) = ls') (k : am_L P N d M nx ls' st S Q) : am_L P N d M pc ls (.null :: st) S Q := l_eq hi (by decide) (by simp only [am_do]; rw [if_pos hn, hl]) k
theorem l14n {P : am_P} {N d M pc a b c nx : Nat} {x : Int32} {tab : List (Int32 × Nat)} {ls : am_V} {st : List Value} {S : am_S} {Q : Option (Option Value) → am_S → Prop} (hi : P.1 M pc = some (14, a, b, c, x, nx, tab)) (k : am_L P N d M b ls st S Q) : am_L P N d M pc ls (.null :: st) S Q := l_eq hi (by decide) rfl k
theorem l14r {P : am_P} {N d M pc a b c nx v : Nat} {x : Int32} {tab : List (Int32 × Nat)} {ls : am_V} {st : List Value} {S : am_S} {Q : Option (Option Value) → am_S → Prop} (hi : P.1 M pc = some (14, a, b, c, x, nx, tab)) (k : am_L P N d M nx ls st S Q) : am_L P N d M pc ls (.ref v :: st) S Q := l_eq hi (by decide) rfl k
section OUT
variable {sc : Nat × (Nat → Int32)} {N d : Nat} {A : Nat → Nat} {K : Nat} {S : am_S} {s : cS} {x1 x2 x3 : Int32}
/-- is there such a function -/
abbrev c159 (s : cS) (x1 : Int32) : Prop := ¬ x1 < 0 ∧ ¬ s.f 5 1 ≤ x1 ∧ ¬ s.f 6 1 ≤ x1
theorem lc159 (hS : CM A K S s) : am_L (am_PP sc) N d 159 0 [some (.ref 5), some (.int x1)] [] S (fun o S1 => CM A K S1 s ∧ ((c159 s x1 ∧ x1.toInt.toNat + 1 ≤ K ∧ o = some (some (.ref (A (x1.toInt.toNat + 1))))) ∨ (¬ c159 s x1 ∧ o = some (some .null)))) := by
  refine l1 (v := x1) hi_159_0 rfl ?_
  by_cases c1 : x1 < 0
  · refine l12t hi_159_1 (decide_eq_true c1) ?_
    refine l29 hi_159_37 ?_
    exact l34n hi_159_38 ⟨hS, Or.inr ⟨fun z => z.1 c1, rfl⟩⟩
  · refine l12f hi_159_1 (decide_eq_false c1) ?_
    refine l1 (v := x1) hi_159_4 rfl ?_
    refine l2 (v := 5) hi_159_5 rfl ?_
    refine l20s (v := .int (s.f 5 1)) hS cs_5 hi_159_6 rfl ?_
    by_cases c2 : s.f 5 1 ≤ x1
    · refine l13t hi_159_9 (decide_eq_true c2) ?_
      refine l29 hi_159_37 ?_
      exact l34n hi_159_38 ⟨hS, Or.inr ⟨fun z => z.2.1 c2, rfl⟩⟩
    · refine l13f hi_159_9 (decide_eq_false c2) ?_
      refine l1 (v := x1) hi_159_12 rfl ?_
      refine l2 (v := 5) hi_159_13 rfl ?_
      refine l20s (v := .ref 6) hS cs_5 hi_159_14 rfl ?_
      refine l32 (as := [.ref 6]) (la := [some (.ref 6)]) (rest := [.int x1]) hi_159_17 (am_hd0 (M := 159) (by decide) 17) rfl rfl rfl (fun N' d' _ => lc14 (N := N') (d := d') hS (Or.inl rfl)) ?_ (fun _ q => nomatch q.1)
      rintro v3 S1 ⟨ev3, h2⟩
      cases ev3
      show am_L _ _ _ _ _ [some (.ref 5), some (.int x1)] [.int (s.f 6 1), .int x1] _ _
      by_cases c3 : s.f 6 1 ≤ x1
      · refine l13t hi_159_20 (decide_eq_true c3) ?_
        refine l29 hi_159_37 ?_
        exact l34n hi_159_38 ⟨h2, Or.inr ⟨fun z => z.2.2 c3, rfl⟩⟩
      · refine l13f hi_159_20 (decide_eq_false c3) ?_
        refine l2 (v := 5) hi_159_23 rfl ?_
        refine l20s (v := .ref 6) h2 cs_5 hi_159_24 rfl ?_
        refine l1 (v := x1) hi_159_27 rfl ?_
        refine l32 (as := [.ref 6, .int x1]) (la := [some (.ref 6), some (.int x1)]) (rest := []) hi_159_28 (am_hd0 (M := 159) (by decide) 28) rfl rfl rfl (fun N' d' _ => lc25k (N := N') (d := d') h2) ?_ (fun _ q => nomatch q.1)
        rintro v4 S2 ⟨ev4, hk, h3⟩
        cases ev4
        show am_L _ _ _ _ _ [some (.ref 5), some (.int x1)] [.ref (A (x1.toInt.toNat + 1))] _ _
        refine l30 hi_159_31 ?_
        refine l18 hi_159_34 ?_
        exact l34 hi_159_38 ⟨h3, Or.inl ⟨⟨c1, c2, c3⟩, hk, rfl⟩⟩
def c160 (s : cS) (x1 x2 x3 : Int32) : Int32 := if ¬ c159 s x1 then -1 else if thas s (.u (x1.toInt.toNat + 1)) x2 = 0 then -1 else if x3 < 0 then -1 else if x3 ≤ 1 then tg s (.u (x1.toInt.toNat + 1)) x2 x3 else -1
theorem lc160 (hS : CM A K S s) : am_L (am_PP sc) N d 160 0 [some (.ref 0), some (.int x1), some (.int x2), some (.int x3), none] [] S (fun o S1 => o = some (some (.int (c160 s x1 x2 x3))) ∧ CM A K S1 s) := by
  refine l2 (v := 0) hi_160_0 rfl ?_
  refine l20s (v := .ref 5) hS cs_0 hi_160_1 rfl ?_
  refine l1 (v := x1) hi_160_4 rfl ?_
  refine l32 (as := [.ref 5, .int x1]) (la := [some (.ref 5), some (.int x1)]) (rest := []) hi_160_5 (am_hd0 (M := 160) (by decide) 5) rfl rfl rfl (fun N' d' _ => lc159 (N := N') (d := d') (x1 := x1) hS) ?_ (fun _ q => by rcases q.2 with z | z <;> exact nomatch z.2)
  rintro v3 S1 ⟨h2, (⟨g1, hk, ev3⟩ | ⟨g1, ev3⟩)⟩
  · cases ev3
    have ht : cTl K (.u (x1.toInt.toNat + 1)) := hk
    show am_L _ _ _ _ _ [some (.ref 0), some (.int x1), some (.int x2), some (.int x3), none] [.ref (A (x1.toInt.toNat + 1))] _ _
    refine l4 (ls' := [some (.ref 0), some (.int x1), some (.int x2), some (.int x3), some (.ref (A (x1.toInt.toNat + 1)))]) hi_160_8 (Nat.le_of_ble_eq_true rfl) rfl ?_
    refine l2 (v := A (x1.toInt.toNat + 1)) hi_160_10 rfl ?_
    refine l14r hi_160_12 ?_
    refine l2 (v := A (x1.toInt.toNat + 1)) hi_160_15 rfl ?_
    refine l20b (y := x1.toInt.toNat + 1) (v := .ref (A (x1.toInt.toNat + 1) + 3)) h2 hk hi_160_17 rfl ?_
    refine l1 (v := x2) hi_160_20 rfl ?_
    refine l32 (as := [.ref (A (x1.toInt.toNat + 1) + 3), .int x2]) (la := [some (.ref (A (x1.toInt.toNat + 1) + 3)), some (.int x2)]) (rest := []) hi_160_21 (am_hd0 (M := 160) (by decide) 21) rfl rfl rfl (fun N' d' _ => lc161 (N := N') (d := d') (r := x2) h2 ht) ?_ (fun _ q => nomatch q.1)
    rintro v4 S2 ⟨ev4, h3⟩
    cases ev4
    show am_L _ _ _ _ _ [some (.ref 0), some (.int x1), some (.int x2), some (.int x3), some (.ref (A (x1.toInt.toNat + 1)))] [.int (thas s (.u (x1.toInt.toNat + 1)) x2)] _ _
    by_cases c1 : thas s (.u (x1.toInt.toNat + 1)) x2 = 0
    · refine l12t hi_160_24 (decide_eq_true c1) ?_
      refine l0 hi_160_36 ?_
      exact l33 hi_160_37 ⟨by unfold c160; rw [if_neg (fun z => z g1), if_pos c1], h3⟩
    · refine l12f hi_160_24 (decide_eq_false c1) ?_
      refine l1 (v := x3) hi_160_27 rfl ?_
      by_cases c2 : x3 < 0
      · refine l12t hi_160_28 (decide_eq_true c2) ?_
        refine l0 hi_160_36 ?_
        exact l33 hi_160_37 ⟨by unfold c160; rw [if_neg (fun z => z g1), if_neg c1, if_pos c2], h3⟩
      · refine l12f hi_160_28 (decide_eq_false c2) ?_
        refine l1 (v := x3) hi_160_31 rfl ?_
        refine l0 hi_160_32 ?_
        by_cases c3 : x3 ≤ 1
        · refine l13t hi_160_33 (decide_eq_true c3) ?_
          refine l2 (v := A (x1.toInt.toNat + 1)) hi_160_38 rfl ?_
          refine l20b (y := x1.toInt.toNat + 1) (v := .ref (A (x1.toInt.toNat + 1) + 3)) h3 hk hi_160_40 rfl ?_
          refine l1 (v := x2) hi_160_43 rfl ?_
          refine l1 (v := x3) hi_160_44 rfl ?_
          refine l32 (as := [.ref (A (x1.toInt.toNat + 1) + 3), .int x2, .int x3]) (la := [some (.ref (A (x1.toInt.toNat + 1) + 3)), some (.int x2), some (.int x3)]) (rest := []) hi_160_45 (am_hd0 (M := 160) (by decide) 45) rfl rfl rfl (fun N' d' _ => lc54 (N := N') (d := d') (r := x2) (c := x3) h3 ht) ?_ (fun _ q => nomatch q.1)
          rintro v5 S3 ⟨ev5, h4⟩
          cases ev5
          show am_L _ _ _ _ _ [some (.ref 0), some (.int x1), some (.int x2), some (.int x3), some (.ref (A (x1.toInt.toNat + 1)))] [.int (tg s (.u (x1.toInt.toNat + 1)) x2 x3)] _ _
          exact l33 hi_160_48 ⟨by unfold c160; rw [if_neg (fun z => z g1), if_neg c1, if_neg c2, if_pos c3], h4⟩
        · refine l13f hi_160_33 (decide_eq_false c3) ?_
          refine l0 hi_160_36 ?_
          exact l33 hi_160_37 ⟨by unfold c160; rw [if_neg (fun z => z g1), if_neg c1, if_neg c2, if_neg c3], h3⟩
  · cases ev3
    show am_L _ _ _ _ _ [some (.ref 0), some (.int x1), some (.int x2), some (.int x3), none] [.null] _ _
    refine l4n (ls' := [some (.ref 0), some (.int x1), some (.int x2), some (.int x3), some .null]) hi_160_8 (Nat.le_of_ble_eq_true rfl) rfl ?_
    refine l2n hi_160_10 rfl ?_
    refine l14n hi_160_12 ?_
    refine l0 hi_160_36 ?_
    exact l33 hi_160_37 ⟨by unfold c160; rw [if_pos g1], h2⟩
/-- outers between two calls -/
def OK (s : cS) (k : kS) : Prop := ∃ (E : List (Nat × oR)) (N : Nat), k.1 53 = xn N ∧ N ≤ 1000000 ∧ (N : Int) ≤ (s.f 6 1).toInt ∧ E.length ≤ 1000000 ∧ (∀ q ∈ E, q.1 < N) ∧ (N ≠ 0 → OE k E) ∧ ∀ x, x < N → TR s (.u (x + 1)) ((oo E x).map (fun q => (q.2.1, q.2.2, 0, 0))) ∧ k.2 67 x = xn (oo E x).length
def OJ (s : cS) (k : kS) : Prop := OK s k ∧ ∀ x, 0 ≤ (s.r (.u x)).toInt
theorem k271_go {k : kS} {n : Nat} {y3 : Int32} (hn : n ≤ 1000000) : ∀ (L Q : List (Nat × oR)) (c : Nat) (q : oR), OE k (Q ++ L) → (Q ++ L).length ≤ 1000000 → (∀ e ∈ Q ++ L, e.1 ≤ 1000000) → (oo L n)[c]? = some q → ∃ m v g e, kwh (k271b39 k (xn n) y3) m (xn c, xn Q.length) = (1, (v, xn g)) ∧ (Q ++ L)[g]? = some e ∧ e.2 = q := by
  intro L
  induction L with
  | nil => intro Q c q _ _ _ hq; exact nomatch hq
  | cons e L ih =>
    intro Q c q hE hz hb hq
    have hlen : (Q ++ e :: L).length = Q.length + (L.length + 1) := by rw [List.length_append]; rfl
    have eg : (Q ++ e :: L)[Q.length]? = some e := by rw [List.getElem?_append_right (Nat.le_refl _), Nat.sub_self]; rfl
    have r63 : kr k 63 (xn Q.length) = xn e.1 := by
      show k.2 63 (xn Q.length).toNatClampNeg = _
      rw [xn_nat (by omega)]
      exact (hE.2 _ _ eg).1
    have he : e.1 ≤ 1000000 := hb e (List.mem_append_right _ List.mem_cons_self)
    have ea : Q ++ e :: L = (Q ++ [e]) ++ L := by rw [List.append_assoc]; rfl
    have lq : (Q ++ [e]).length = Q.length + 1 := by rw [List.length_append]; rfl
    have cc : (oo L n).length ≤ 1000000 := by have := oo_len (E := L) (n := n); omega
    rw [oo_cons] at hq
    by_cases c1 : e.1 = n
    · rw [if_pos c1] at hq
      have e63 : kr k 63 (xn Q.length) = xn n := by rw [r63, c1]
      cases c with
      | zero =>
        have eq : e.2 = q := Option.some.inj hq
        have es : k271b39 k (xn n) y3 (xn 0, xn Q.length) = (1, (xn 0, xn Q.length)) := by
          unfold k271b39
          dsimp only
          rw [if_neg (fun z => z e63), if_pos (by decide)]
        exact ⟨1, xn 0, Q.length, e, by rw [kwh_out (by rw [es]; exact Nat.succ_ne_zero _), es], eg, eq⟩
      | succ c =>
        have hq' : (oo L n)[c]? = some q := hq
        have hc := (List.getElem?_eq_some_iff.mp hq').1
        have es : k271b39 k (xn n) y3 (xn (c + 1), xn Q.length) = (0, (xn c, xn (Q.length + 1))) := by
          have e1 : xn (c + 1) - 1 = xn c := by
            have := xn_sub (n := 1) (m := c) (by omega)
            rw [Nat.add_comm 1] at this
            exact this
          unfold k271b39
          dsimp only
          rw [if_neg (fun z => z e63), if_neg (by rw [i_le, xn_i (by omega)]; have : (0 : Int32).toInt = 0 := rfl; omega), if_neg (fun z => z e63), e1, xn_succ (by omega)]
        obtain ⟨m, v, g, e', r1, r2, r3⟩ := ih (Q ++ [e]) c q (by rw [← ea]; exact hE) (by rw [← ea]; exact hz) (by rw [← ea]; exact hb) hq'
        rw [← ea] at r2
        rw [lq] at r1
        exact ⟨m + 1, v, g, e', by rw [kwh_go (by rw [es]), es]; exact r1, r2, r3⟩
    · rw [if_neg c1] at hq
      have n63 : kr k 63 (xn Q.length) ≠ xn n := by
        rw [r63]
        intro z
        exact c1 (xn_inj (by omega) (by omega) z)
      have es : k271b39 k (xn n) y3 (xn c, xn Q.length) = (0, (xn c, xn (Q.length + 1))) := by
        unfold k271b39
        dsimp only
        rw [if_pos n63, if_pos n63, Int32.sub_zero, xn_succ (by omega)]
      obtain ⟨m, v, g, e', r1, r2, r3⟩ := ih (Q ++ [e]) c q (by rw [← ea]; exact hE) (by rw [← ea]; exact hz) (by rw [← ea]; exact hb) hq
      rw [← ea] at r2
      rw [lq] at r1
      exact ⟨m + 1, v, g, e', by rw [kwh_go (by rw [es]), es]; exact r1, r2, r3⟩
/-- both answer the same -/
theorem out_eq {k : kS} (h : OK s k) (h5 : s.f 5 1 = k.1 53) : c160 s x1 x2 x3 = k271 k x1 x2 x3 := by
  obtain ⟨E, N, o1, o2, o3, o4, o5, o6, o7⟩ := h
  have z0 : (0 : Int32).toInt = 0 := rfl
  have z1 : (1 : Int32).toInt = 1 := rfl
  have iN : (k.1 53).toInt = N := by rw [o1, xn_i (by omega)]
  have k270e : k270 k x1 = 0 ↔ ¬ c159 s x1 := by
    unfold k270 c159
    rw [h5]
    by_cases c1 : x1 < 0
    · rw [if_pos c1]
      exact ⟨fun _ z => z.1 c1, fun _ => rfl⟩
    · rw [if_neg c1]
      by_cases c2 : k.1 53 ≤ x1
      · rw [if_pos c2]
        exact ⟨fun _ z => z.2.1 c2, fun _ => rfl⟩
      · rw [if_neg c2]
        refine ⟨fun z => absurd z (by decide), fun z => absurd ⟨c1, c2, ?_⟩ z⟩
        rw [i_le] at c2 ⊢
        omega
  unfold c160 k271
  by_cases g1 : c159 s x1
  · rw [if_neg (fun z => z g1), if_neg (fun z => k270e.mp z g1)]
    obtain ⟨g2, g3, g4⟩ := g1
    rw [h5, i_le] at g3
    rw [i_lt] at g2
    obtain ⟨n, hn⟩ : ∃ n : Nat, x1.toInt = n := ⟨x1.toInt.toNat, by omega⟩
    have ex : x1 = xn n := xn_eq hn (by omega)
    have hnN : n < N := by omega
    have en : x1.toInt.toNat = n := by omega
    obtain ⟨t1, t2⟩ := o7 n hnN
    have hlo : (oo E n).length ≤ 1000000 := by have := oo_len (E := E) (n := n); omega
    have lm : ((oo E n).map (fun q => ((q.2.1, q.2.2, 0, 0) : xR))).length = (oo E n).length := List.length_map _
    have er : s.r (.u (n + 1)) = xn (oo E n).length := xn_eq (by rw [t1.1, lm]) (by omega)
    have e67 : kr k 67 x1 = xn (oo E n).length := by
      rw [ex]
      show k.2 67 (xn n).toNatClampNeg = _
      rw [xn_nat (by omega), t2]
    rw [en, e67]
    unfold thas
    by_cases c1 : x2 < 0
    · rw [if_pos c1, if_pos rfl, if_pos c1]
    · rw [if_neg c1, if_neg c1, er]
      by_cases c2 : xn (oo E n).length ≤ x2
      · rw [if_pos c2, if_pos rfl, if_pos c2]
      · rw [if_neg c2, if_neg (show ¬ (1 : Int32) = 0 from by decide), if_neg c2]
        by_cases c3 : x3 < 0
        · rw [if_pos c3, if_pos c3]
        · rw [if_neg c3, if_neg c3]
          by_cases c4 : x3 ≤ 1
          · rw [if_pos c4, if_pos c4]
            rw [i_lt] at c1 c3
            rw [i_le, xn_i (by omega)] at c2
            rw [i_le] at c4
            obtain ⟨i, hi⟩ : ∃ i : Nat, x2.toInt = i := ⟨x2.toInt.toNat, by omega⟩
            have ei : x2 = xn i := xn_eq hi (by omega)
            have hil : i < (oo E n).length := by omega
            obtain ⟨q, hq⟩ : ∃ q, (oo E n)[i]? = some q := ⟨_, List.getElem?_eq_getElem hil⟩
            obtain ⟨m, v, g, e, r1, r2, r3⟩ := k271_go (k := k) (n := n) (y3 := x3) (by omega) E [] i q (o6 (by omega)) o4 (fun e he => by have := o5 e he; omega) hq
            have hg := (List.getElem?_eq_some_iff.mp r2).1
            have hgl : g < E.length := hg
            have kf1 : kfin (k271b39 k x1 x3) (x2, 0) = (1, (v, xn g)) := by
              rw [ex, ei]
              exact kfin_of ⟨m, r1⟩ (Nat.succ_ne_zero 0)
            rw [kf1]
            have hoe := (o6 (by omega)).2 g e r2
            have row := t1.2 i (q.2.1, q.2.2, 0, 0) (by rw [List.getElem?_map, hq]; rfl)
            have tge : ∀ (c : Int32) (j : Nat), c.toInt = j → j < 4 → tg s (.u (n + 1)) x2 c = s.c (.u (n + 1)) (4 * i + j) := fun c j hc hj => by
              have i4 : (4 : Int32).toInt = 4 := rfl
              unfold tg
              rw [if_neg (by rw [i_lt]; omega), if_neg (by rw [er, i_le, xn_i (by omega)]; omega), if_neg (by rw [i_lt]; omega), if_pos (by rw [i_lt]; omega)]
              have : ci x2 c = 4 * i + j := by
                unfold ci
                rw [hi, hc]
                omega
              rw [this]
            have k6 : ∀ j, kr k j (xn g) = k.2 j g := fun j => by
              show k.2 j (xn g).toNatClampNeg = _
              rw [xn_nat (by omega)]
            by_cases c5 : x3 = 0
            · rw [if_neg (fun z => z c5), k6, hoe.2.2.1, r3, c5]
              rw [tge 0 0 rfl (by decide)]
              exact row.1
            · have e1 : x3 = 1 := Int32.toInt_inj.mp (by
                have : x3.toInt ≠ 0 := fun z => c5 (Int32.toInt_inj.mp z)
                omega)
              rw [if_pos c5, k6, hoe.2.2.2, r3, e1]
              rw [tge 1 1 rfl (by decide)]
              exact row.2.1
          · rw [if_neg c4, if_neg c4]
  · rw [if_pos g1, if_pos (k270e.mpr g1)]
end OUT
