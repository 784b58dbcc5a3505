/-! CODE: what both answer -/
section COD
variable {sc : Nat × (Nat → Int32)} {N d : Nat} {A : Nat → Nat} {K : Nat} {S : am_S} {s : cS} {x1 x2 x3 : Int32}
def c162 (s : cS) (x1 x2 x3 : Int32) : Int32 := if ¬ c159 s x1 then -1 else if thas s (.i (x1.toInt.toNat + 1)) x2 = 0 then -1 else if x3 < 0 then -1 else if x3 ≤ 3 then tg s (.i (x1.toInt.toNat + 1)) x2 x3 else -1
theorem lc162 (hS : CM A K S s) : am_L (am_PP sc) N d 162 0 [some (.ref 0), some (.int x1), some (.int x2), some (.int x3), none] [] S (fun o S1 => o = some (some (.int (c162 s x1 x2 x3))) ∧ CM A K S1 s) := by
  refine l2 (v := 0) hi_162_0 rfl ?_
  refine l20s (v := .ref 5) hS cs_0 hi_162_1 rfl ?_
  refine l1 (v := x1) hi_162_4 rfl ?_
  refine l32 (as := [.ref 5, .int x1]) (la := [some (.ref 5), some (.int x1)]) (rest := []) hi_162_5 (am_hd0 (M := 162) (by decide) 5) rfl rfl rfl (fun N' d' _ => lc159 (N := N') (d := d') (x1 := x1) hS) ?_ (fun _ q => by rcases q.2 with z | z <;> exact nomatch z.2)
  rintro v3 S1 ⟨h2, (⟨g1, hk, ev3⟩ | ⟨g1, ev3⟩)⟩
  · cases ev3
    have ht : cTl K (.i (x1.toInt.toNat + 1)) := hk
    show am_L _ _ _ _ _ [some (.ref 0), some (.int x1), some (.int x2), some (.int x3), none] [.ref (A (x1.toInt.toNat + 1))] _ _
    refine l4 (ls' := [some (.ref 0), some (.int x1), some (.int x2), some (.int x3), some (.ref (A (x1.toInt.toNat + 1)))]) hi_162_8 (Nat.le_of_ble_eq_true rfl) rfl ?_
    refine l2 (v := A (x1.toInt.toNat + 1)) hi_162_10 rfl ?_
    refine l14r hi_162_12 ?_
    refine l2 (v := A (x1.toInt.toNat + 1)) hi_162_15 rfl ?_
    refine l20b (y := x1.toInt.toNat + 1) (v := .ref (cTa A (.i (x1.toInt.toNat + 1)))) h2 hk hi_162_17 rfl ?_
    refine l1 (v := x2) hi_162_20 rfl ?_
    refine l32 (as := [.ref (cTa A (.i (x1.toInt.toNat + 1))), .int x2]) (la := [some (.ref (cTa A (.i (x1.toInt.toNat + 1)))), some (.int x2)]) (rest := []) hi_162_21 (am_hd0 (M := 162) (by decide) 21) rfl rfl rfl (fun N' d' _ => lc161 (N := N') (d := d') (r := x2) h2 ht) ?_ (fun _ q => nomatch q.1)
    rintro v4 S2 ⟨ev4, h3⟩
    cases ev4
    show am_L _ _ _ _ _ [some (.ref 0), some (.int x1), some (.int x2), some (.int x3), some (.ref (A (x1.toInt.toNat + 1)))] [.int (thas s (.i (x1.toInt.toNat + 1)) x2)] _ _
    by_cases c1 : thas s (.i (x1.toInt.toNat + 1)) x2 = 0
    · refine l12t hi_162_24 (decide_eq_true c1) ?_
      refine l0 hi_162_36 ?_
      exact l33 hi_162_37 ⟨by unfold c162; rw [if_neg (fun z => z g1), if_pos c1], h3⟩
    · refine l12f hi_162_24 (decide_eq_false c1) ?_
      refine l1 (v := x3) hi_162_27 rfl ?_
      by_cases c2 : x3 < 0
      · refine l12t hi_162_28 (decide_eq_true c2) ?_
        refine l0 hi_162_36 ?_
        exact l33 hi_162_37 ⟨by unfold c162; rw [if_neg (fun z => z g1), if_neg c1, if_pos c2], h3⟩
      · refine l12f hi_162_28 (decide_eq_false c2) ?_
        refine l1 (v := x3) hi_162_31 rfl ?_
        refine l0 hi_162_32 ?_
        by_cases c3 : x3 ≤ 3
        · refine l13t hi_162_33 (decide_eq_true c3) ?_
          refine l2 (v := A (x1.toInt.toNat + 1)) hi_162_38 rfl ?_
          refine l20b (y := x1.toInt.toNat + 1) (v := .ref (cTa A (.i (x1.toInt.toNat + 1)))) h3 hk hi_162_40 rfl ?_
          refine l1 (v := x2) hi_162_43 rfl ?_
          refine l1 (v := x3) hi_162_44 rfl ?_
          refine l32 (as := [.ref (cTa A (.i (x1.toInt.toNat + 1))), .int x2, .int x3]) (la := [some (.ref (cTa A (.i (x1.toInt.toNat + 1)))), some (.int x2), some (.int x3)]) (rest := []) hi_162_45 (am_hd0 (M := 162) (by decide) 45) rfl rfl rfl (fun N' d' _ => lc54 (N := N') (d := d') (r := x2) (c := x3) h3 ht) ?_ (fun _ q => nomatch q.1)
          rintro v5 S3 ⟨ev5, h4⟩
          cases ev5
          show am_L _ _ _ _ _ [some (.ref 0), some (.int x1), some (.int x2), some (.int x3), some (.ref (A (x1.toInt.toNat + 1)))] [.int (tg s (.i (x1.toInt.toNat + 1)) x2 x3)] _ _
          exact l33 hi_162_48 ⟨by unfold c162; rw [if_neg (fun z => z g1), if_neg c1, if_neg c2, if_pos c3], h4⟩
        · refine l13f hi_162_33 (decide_eq_false c3) ?_
          refine l0 hi_162_36 ?_
          exact l33 hi_162_37 ⟨by unfold c162; rw [if_neg (fun z => z g1), if_neg c1, if_neg c2, if_neg c3], h3⟩
  · cases ev3
    show am_L _ _ _ _ _ [some (.ref 0), some (.int x1), some (.int x2), some (.int x3), none] [.null] _ _
    refine l4n (ls' := [some (.ref 0), some (.int x1), some (.int x2), some (.int x3), some .null]) hi_162_8 (Nat.le_of_ble_eq_true rfl) rfl ?_
    refine l2n hi_162_10 rfl ?_
    refine l14n hi_162_12 ?_
    refine l0 hi_162_36 ?_
    exact l33 hi_162_37 ⟨by unfold c162; rw [if_pos g1], h2⟩
/-- rows of code between two calls -/
def CK (s : cS) (k : kS) : Prop := ∀ x : Nat, (x : Int) < (k.1 53).toInt → ∃ (U : List xR) (B : Nat), (TR s (.i (x + 1)) U ∧ wfl U) ∧ U.length ≤ 100000 ∧ B ≤ 100000 ∧ k.2 60 x = xn U.length ∧ k.2 61 x = xn B ∧ ∀ (i : Nat) (u : xR), U[i]? = some u → ∃ g : Nat, g ≤ 100000 ∧ k.2 74 (B + i) = xn g ∧ kR k g = u
theorem code_eq {k : kS} (hN : (k.1 53).toInt ≤ (s.f 6 1).toInt) (h53 : (k.1 53).toInt ≤ 1000000) (hc : CK s k) (h5 : s.f 5 1 = k.1 53) : c162 s x1 x2 x3 = k272 k x1 x2 x3 := by
  have z0 : (0 : Int32).toInt = 0 := rfl
  have z1 : (1 : Int32).toInt = 1 := rfl
  have z2 : (2 : Int32).toInt = 2 := rfl
  have z3 : (3 : Int32).toInt = 3 := rfl
  have k270e : k270 k x1 = 0 ↔ ¬ c159 s x1 := by
    unfold k270 c159
    rw [h5]
    by_cases c1 : x1 < 0
    · rw [if_pos c1]
      exact ⟨fun _ z => z.1 c1, fun _ => rfl⟩
    · rw [if_neg c1]
      by_cases c2 : k.1 53 ≤ x1
      · rw [if_pos c2]
        exact ⟨fun _ z => z.2.1 c2, fun _ => rfl⟩
      · rw [if_neg c2]
        refine ⟨fun z => absurd z (by decide), fun z => absurd ⟨c1, c2, ?_⟩ z⟩
        rw [i_le] at c2 ⊢
        omega
  unfold c162 k272
  by_cases g1 : c159 s x1
  · rw [if_neg (fun z => z g1), if_neg (fun z => k270e.mp z g1)]
    obtain ⟨g2, g3, g4⟩ := g1
    rw [h5, i_le] at g3
    rw [i_lt] at g2
    obtain ⟨n, hn⟩ : ∃ n : Nat, x1.toInt = n := ⟨x1.toInt.toNat, by omega⟩
    have ex : x1 = xn n := xn_eq hn (by omega)
    have en : x1.toInt.toNat = n := by omega
    obtain ⟨U, B, ⟨u1, -⟩, u2, u3, u4, u5, u6⟩ := hc n (by omega)
    have er : s.r (.i (n + 1)) = xn U.length := xn_eq u1.1 (by omega)
    have ek : ∀ j, kr k j x1 = k.2 j n := fun j => by
      rw [ex]
      show k.2 j (xn n).toNatClampNeg = _
      rw [xn_nat (by omega)]
    rw [en, ek, ek, u4, u5]
    unfold thas
    by_cases c1 : x2 < 0
    · rw [if_pos c1, if_pos rfl, if_pos c1]
    · rw [if_neg c1, if_neg c1, er]
      by_cases c2 : xn U.length ≤ x2
      · rw [if_pos c2, if_pos rfl, if_neg (show ¬ x2 < xn U.length from by rw [i_le] at c2; rw [i_lt]; omega)]
      · rw [if_neg c2, if_neg (show ¬ (1 : Int32) = 0 from by decide), if_pos (show x2 < xn U.length from by rw [i_le] at c2; rw [i_lt]; omega)]
        have c2' := c2
        have c1' := c1
        rw [i_lt] at c1'
        rw [i_le, xn_i (by omega)] at c2'
        obtain ⟨i, hi⟩ : ∃ i : Nat, x2.toInt = i := ⟨x2.toInt.toNat, by omega⟩
        have ei : x2 = xn i := xn_eq hi (by omega)
        obtain ⟨u, hu⟩ : ∃ u, U[i]? = some u := ⟨_, List.getElem?_eq_getElem (by omega)⟩
        obtain ⟨g, v1, v2, v3⟩ := u6 i u hu
        have e74 : kr k 74 (xn B + x2) = xn g := by
          show k.2 74 (xn B + x2).toNatClampNeg = _
          rw [ei, xn_add (by omega), xn_nat (by omega), v2]
        have eg : ∀ j, kr k j (xn g) = k.2 j g := fun j => by
          show k.2 j (xn g).toNatClampNeg = _
          rw [xn_nat (by omega)]
        rw [e74, eg, eg, eg, eg]
        obtain ⟨w1, w2, w3, w4⟩ := u1.2 i u hu
        have q1 : k.2 70 g = u.1 := congrArg (fun q => q.1) v3
        have q2 : k.2 71 g = u.2.1 := congrArg (fun q => q.2.1) v3
        have q3 : k.2 72 g = u.2.2.1 := congrArg (fun q => q.2.2.1) v3
        have q4 : k.2 73 g = u.2.2.2 := congrArg (fun q => q.2.2.2) v3
        rw [q1, q2, q3, q4]
        have et : ∀ (c : Int32), ¬ c < 0 → c < 4 → tg s (.i (n + 1)) x2 c = s.c (.i (n + 1)) (4 * i + c.toInt.toNat) := fun c h1 h2 => by
          unfold tg ci
          rw [if_neg c1, er, if_neg c2, if_neg h1, if_pos h2, hi]
          rfl
        by_cases d0 : x3 = 0
        · rw [d0, if_neg (show ¬ (0 : Int32) < 0 from by decide), if_pos (show (0 : Int32) ≤ 3 from by decide), if_pos rfl, et 0 (by decide) (by decide)]
          exact w1
        by_cases d1 : x3 = 1
        · rw [d1, if_neg (show ¬ (1 : Int32) < 0 from by decide), if_pos (show (1 : Int32) ≤ 3 from by decide), if_neg (show ¬ (1 : Int32) = 0 from by decide), if_pos rfl, et 1 (by decide) (by decide)]
          exact w2
        by_cases d2 : x3 = 2
        · rw [d2, if_neg (show ¬ (2 : Int32) < 0 from by decide), if_pos (show (2 : Int32) ≤ 3 from by decide), if_neg (show ¬ (2 : Int32) = 0 from by decide), if_neg (show ¬ (2 : Int32) = 1 from by decide), if_pos rfl, et 2 (by decide) (by decide)]
          exact w3
        by_cases d3 : x3 = 3
        · rw [d3, if_neg (show ¬ (3 : Int32) < 0 from by decide), if_pos (show (3 : Int32) ≤ 3 from by decide), if_neg (show ¬ (3 : Int32) = 0 from by decide), if_neg (show ¬ (3 : Int32) = 1 from by decide), if_neg (show ¬ (3 : Int32) = 2 from by decide), if_pos rfl, et 3 (by decide) (by decide)]
          exact w4
        rw [if_neg d0, if_neg d1, if_neg d2, if_neg d3]
        by_cases e1 : x3 < 0
        · rw [if_pos e1]
        · rw [if_neg e1]
          by_cases e2 : x3 ≤ 3
          · exfalso
            rw [i_lt] at e1
            rw [i_le] at e2
            rcases (by omega : x3.toInt = 0 ∨ x3.toInt = 1 ∨ x3.toInt = 2 ∨ x3.toInt = 3) with y | y | y | y
            · exact d0 (Int32.toInt_inj.mp y)
            · exact d1 (Int32.toInt_inj.mp y)
            · exact d2 (Int32.toInt_inj.mp y)
            · exact d3 (Int32.toInt_inj.mp y)
          · rw [if_neg e2]
  · rw [if_pos g1, if_pos (k270e.mpr g1)]
end COD
