/-! THE REFERENCE: the sort, what is asked (printed by wip/p2/ref18.py) -/
theorem lp_sort3 {sc : Nat × (Nat → Int32)} {d : Nat} {S0 : am_S} {f : Nat → Int32} {g : Nat → Nat → Int32}  (hO : mj_O (f 68) (f 53) (g 69) (g 60)) (p0 : (0 : Int) ≤ (f 53).toInt) (p1 : (f 53).toInt ≤ (600 : Int)) (p2 : (0 : Int) ≤ (f 68).toInt) (p3 : (f 68).toInt ≤ (65000 : Int)) : ∀ (N : Nat) (S : am_S) (x2 : Option Value) (i : Int32) (gx : Nat → Nat → Int32), MS S0 S f gx → (∀ j, j ∉ [60, 61, 74] → gx j = g j) → (∀ x : Nat, (x : Int) ≤ (f 53).toInt → (gx 61 x).toInt = mj_s (g 69) (f 68).toNatClampNeg x) → (∀ x : Nat, (x : Int) < (f 53).toInt → (gx 60 x).toInt = mj_n (g 69) i.toNatClampNeg x) → (∀ x : Nat, (x : Int) < (f 53).toInt → ∀ j : Nat, (j : Int) < (gx 60 x).toInt → 0 ≤ (gx 74 ((gx 61 x).toInt.toNat + j)).toInt ∧ (gx 74 ((gx 61 x).toInt.toNat + j)).toInt < 65536) → (0 : Int) ≤ i.toInt → i.toInt ≤ (f 68).toInt → (f 68).toInt - i.toInt < (N : Int) → am_E (am_PP sc) (d + 0) 266 69 [some (.ref 39), some (.int i), x2] [] S (am_N fun v S1 => (∃ g' : Nat → Nat → Int32, v = none ∧ MS S0 S1 f g' ∧ (∀ j, j ∉ [60, 61, 74] → g' j = g j) ∧ (∀ x : Nat, (x : Int) < (f 53).toInt → 0 ≤ (g' 61 x).toInt ∧ 0 ≤ (g' 60 x).toInt ∧ (g' 61 x).toInt + (g' 60 x).toInt ≤ 65000) ∧ (∀ x : Nat, (x : Int) < (f 53).toInt → ∀ j : Nat, (j : Int) < (g' 60 x).toInt → 0 ≤ (g' 74 ((g' 61 x).toInt.toNat + j)).toInt ∧ (g' 74 ((g' 61 x).toInt.toNat + j)).toInt < 65536))) := by
  intro N
  induction N with
  | zero =>
    intro S x2 i gx  hS  hx hb hc hd i0 i1 hN
    exfalso
    omega
  | succ N ih =>
    intro S x2 i gx  hS  hx hb hc hd i0 i1 hN
    refine am_e1 (v := i) hi_266_69 rfl ?_
    refine am_e2 (v := 39) hi_266_70 rfl ?_
    refine mm_20 (v := .int (f 68)) hS hi_266_71 rfl ?_
    by_cases c0 : (f 68).toInt ≤ i.toInt
    · refine am_e13t hi_266_74 (am_cT (m := i.toInt) (n := (f 68).toInt) rfl rfl c0) ?_
      refine am_e35 hi_266_119 ?_
      exact ⟨_, rfl, hS, hx, (so_4 ⟨by omega, by omega⟩ hb hc (by omega)), hd⟩
    · refine am_e13f hi_266_74 (am_cF (m := i.toInt) (n := (f 68).toInt) rfl rfl c0) ?_
      refine am_e2 (v := 39) hi_266_77 rfl ?_
      refine mm_20 (v := .ref 88) hS hi_266_78 rfl ?_
      refine am_e1 (v := i) hi_266_81 rfl ?_
      refine mm_25 hS ma_69 hi_266_82 (by decide) (by omega) (by omega) ?_
      show am_E _ _ _ _ _ (.int (gx 69 i.toNatClampNeg) :: _) _ _
      rw [show gx 69 = g 69 from hx 69 (by decide)]
      show am_E _ _ _ _ [some (.ref 39), some (.int i), x2] [.int (g 69 i.toNatClampNeg)] _ _
      have r1 : 0 ≤ (g 69 i.toNatClampNeg).toInt ∧ (g 69 i.toNatClampNeg).toInt < (f 53).toInt := so_3a hO (by omega) (by omega)
      refine am_e3 (ls' := [some (.ref 39), some (.int i), some (.int (g 69 i.toNatClampNeg))]) hi_266_83 (Nat.le_of_ble_eq_true rfl) rfl ?_
      refine am_e2 (v := 39) hi_266_84 rfl ?_
      refine mm_20 (v := .ref 93) hS hi_266_85 rfl ?_
      refine am_e2 (v := 39) hi_266_88 rfl ?_
      refine mm_20 (v := .ref 82) hS hi_266_89 rfl ?_
      refine am_e1 (v := g 69 i.toNatClampNeg) hi_266_92 rfl ?_
      refine mm_25 hS ma_61 hi_266_93 (by decide) (by omega) (by omega) ?_
      show am_E _ _ _ _ [some (.ref 39), some (.int i), some (.int (g 69 i.toNatClampNeg))] [.int (gx 61 (g 69 i.toNatClampNeg).toNatClampNeg), .ref 93] _ _
      have r2 : 0 ≤ (gx 61 (g 69 i.toNatClampNeg).toNatClampNeg).toInt ∧ 0 ≤ (gx 60 (g 69 i.toNatClampNeg).toNatClampNeg).toInt ∧ (gx 61 (g 69 i.toNatClampNeg).toNatClampNeg).toInt + (gx 60 (g 69 i.toNatClampNeg).toNatClampNeg).toInt < (f 68).toInt := so_3 hO hb hc (by omega) (by omega)
      refine am_e2 (v := 39) hi_266_94 rfl ?_
      refine mm_20 (v := .ref 81) hS hi_266_95 rfl ?_
      refine am_e1 (v := g 69 i.toNatClampNeg) hi_266_98 rfl ?_
      refine mm_25 hS ma_60 hi_266_99 (by decide) (by omega) (by omega) ?_
      show am_E _ _ _ _ [some (.ref 39), some (.int i), some (.int (g 69 i.toNatClampNeg))] [.int (gx 60 (g 69 i.toNatClampNeg).toNatClampNeg), .int (gx 61 (g 69 i.toNatClampNeg).toNatClampNeg), .ref 93] _ _
      obtain ⟨z3, hz3, tz3⟩ := am_addI (x := gx 61 (g 69 i.toNatClampNeg).toNatClampNeg) (y := gx 60 (g 69 i.toNatClampNeg).toNatClampNeg) (m := (gx 61 (g 69 i.toNatClampNeg).toNatClampNeg).toInt) (n := (gx 60 (g 69 i.toNatClampNeg).toNatClampNeg).toInt) rfl rfl (by omega) (by omega)
      refine am_e10 (z := z3) hi_266_100 hz3 ?_
      refine am_e1 (v := i) hi_266_101 rfl ?_
      refine mm_26 hS ma_74 hi_266_102 (by decide) (by omega) (by omega) (fun h => nomatch h) ?_
      intro S4 hS5
      refine am_e2 (v := 39) hi_266_103 rfl ?_
      refine mm_20 (v := .ref 81) hS5 hi_266_104 rfl ?_
      refine am_e1 (v := g 69 i.toNatClampNeg) hi_266_107 rfl ?_
      refine am_e8 hi_266_108 ?_
      refine mm_25 hS5 ma_60 hi_266_109 (by decide) (by omega) (by omega) ?_
      show am_E _ _ _ _ [some (.ref 39), some (.int i), some (.int (g 69 i.toNatClampNeg))] [.int (gx 60 (g 69 i.toNatClampNeg).toNatClampNeg), .int (g 69 i.toNatClampNeg), .ref 81] _ _
      refine am_e0 hi_266_110 ?_
      obtain ⟨z6, hz6, tz6⟩ := am_addI (x := gx 60 (g 69 i.toNatClampNeg).toNatClampNeg) (y := 1) (m := (gx 60 (g 69 i.toNatClampNeg).toNatClampNeg).toInt) (n := (1 : Int)) rfl (by decide) (by omega) (by omega)
      refine am_e10 (z := z6) hi_266_111 hz6 ?_
      refine mm_26 hS5 ma_60 hi_266_112 (by decide) (by omega) (by omega) (fun h => nomatch h) ?_
      intro S7 hS8
      obtain ⟨z9, hz9, tz9⟩ := am_addI (x := i) (y := 1) (m := i.toInt) (n := (1 : Int)) rfl (by decide) (by omega) (by omega)
      refine am_e5 (v := i) (z := z9) (ls' := [some (.ref 39), some (.int z9), some (.int (g 69 i.toNatClampNeg))]) hi_266_113 rfl hz9 rfl ?_
      refine am_e18 hi_266_116 ?_
      exact ih _ (some (.int (g 69 i.toNatClampNeg))) z9 _ hS8 (fun j hj => ((show ∀ j, j ∉ [60, 61, 74] → (upg (upg gx 74 z3.toNatClampNeg i) 60 (g 69 i.toNatClampNeg).toNatClampNeg z6) j = gx j from by intro j hj; simp only [List.mem_cons, List.not_mem_nil, or_false, not_or] at hj; simp only [upg, hj, if_false]) j hj).trans (hx j hj)) hb (so_3n (c := gx 60) (z := z9) (v := z6) hO hc (by omega) (by omega) (by omega) (by omega)) (so_od (o := gx 74) (b := gx 61) (c := gx 60) (w := (g 69 i.toNatClampNeg).toNatClampNeg) (cw := z6) hd (by omega) (by omega) (by have e1 : z3.toNatClampNeg = z3.toInt.toNat := cl_toNat; omega) ⟨by omega, by omega⟩) (by show (0 : Int) ≤ z9.toInt; omega) (by show z9.toInt ≤ (f 68).toInt; omega) (by show (f 68).toInt - z9.toInt < (N : Int); omega)
theorem lp_sort2 {sc : Nat × (Nat → Int32)} {d : Nat} {S0 : am_S} {f : Nat → Int32} {g : Nat → Nat → Int32}  (hO : mj_O (f 68) (f 53) (g 69) (g 60)) (p0 : (0 : Int) ≤ (f 53).toInt) (p1 : (f 53).toInt ≤ (600 : Int)) (p2 : (0 : Int) ≤ (f 68).toInt) (p3 : (f 68).toInt ≤ (65000 : Int)) : ∀ (N : Nat) (S : am_S) (x2 : Option Value) (i : Int32) (gx : Nat → Nat → Int32), MS S0 S f gx → (∀ j, j ∉ [60, 61] → gx j = g j) → (∀ x : Nat, (x : Int) ≤ (f 53).toInt → (gx 61 x).toInt = mj_s (g 69) (f 68).toNatClampNeg x) → (∀ x : Nat, (x : Int) < i.toInt → (gx 60 x).toInt = 0) → (0 : Int) ≤ i.toInt → i.toInt ≤ (f 53).toInt → (f 53).toInt - i.toInt < (N : Int) → am_E (am_PP sc) (d + 0) 266 46 [some (.ref 39), some (.int i), x2] [] S (am_N fun v S1 => (∃ g' : Nat → Nat → Int32, v = none ∧ MS S0 S1 f g' ∧ (∀ j, j ∉ [60, 61, 74] → g' j = g j) ∧ (∀ x : Nat, (x : Int) < (f 53).toInt → 0 ≤ (g' 61 x).toInt ∧ 0 ≤ (g' 60 x).toInt ∧ (g' 61 x).toInt + (g' 60 x).toInt ≤ 65000) ∧ (∀ x : Nat, (x : Int) < (f 53).toInt → ∀ j : Nat, (j : Int) < (g' 60 x).toInt → 0 ≤ (g' 74 ((g' 61 x).toInt.toNat + j)).toInt ∧ (g' 74 ((g' 61 x).toInt.toNat + j)).toInt < 65536))) := by
  intro N
  induction N with
  | zero =>
    intro S x2 i gx  hS  hx hb hz i0 i1 hN
    exfalso
    omega
  | succ N ih =>
    intro S x2 i gx  hS  hx hb hz i0 i1 hN
    refine am_e1 (v := i) hi_266_46 rfl ?_
    refine am_e2 (v := 39) hi_266_47 rfl ?_
    refine mm_20 (v := .int (f 53)) hS hi_266_48 rfl ?_
    by_cases c0 : (f 53).toInt ≤ i.toInt
    · refine am_e13t hi_266_51 (am_cT (m := i.toInt) (n := (f 53).toInt) rfl rfl c0) ?_
      refine am_e0 hi_266_67 ?_
      refine am_e3 (ls' := [some (.ref 39), some (.int 0), x2]) hi_266_68 (Nat.le_of_ble_eq_true rfl) rfl ?_
      exact lp_sort3 hO p0 p1 p2 p3 (((f 68).toInt - (0 : Int)).toNat + 1) _ x2 0 _ hS (show ∀ j, j ∉ [60, 61, 74] → gx j = g j from fun j hj => hx j (fun q => hj (mem_sub (L := [60, 61]) (L' := [60, 61, 74]) (by decide) q))) hb (by intro x hx2; show (gx 60 x).toInt = mj_n (g 69) 0 x; rw [hz x (by omega)]; rfl) (fun x h1 j h2 => absurd h2 (by rw [hz x (by omega)]; omega)) (by show (0 : Int) ≤ (0 : Int); omega) (by show (0 : Int) ≤ (f 68).toInt; omega) (by show (f 68).toInt - (0 : Int) < _; omega)
    · refine am_e13f hi_266_51 (am_cF (m := i.toInt) (n := (f 53).toInt) rfl rfl c0) ?_
      refine am_e2 (v := 39) hi_266_54 rfl ?_
      refine mm_20 (v := .ref 81) hS hi_266_55 rfl ?_
      refine am_e1 (v := i) hi_266_58 rfl ?_
      refine am_e0 hi_266_59 ?_
      refine mm_26 hS ma_60 hi_266_60 (by decide) (by omega) (by omega) (fun h => nomatch h) ?_
      intro S1 hS2
      obtain ⟨z3, hz3, tz3⟩ := am_addI (x := i) (y := 1) (m := i.toInt) (n := (1 : Int)) rfl (by decide) (by omega) (by omega)
      refine am_e5 (v := i) (z := z3) (ls' := [some (.ref 39), some (.int z3), x2]) hi_266_61 rfl hz3 rfl ?_
      refine am_e18 hi_266_64 ?_
      exact ih _ x2 z3 _ hS2 (fun j hj => ((show ∀ j, j ∉ [60, 61] → (upg gx 60 i.toNatClampNeg 0) j = gx j from by intro j hj; simp only [List.mem_cons, List.not_mem_nil, or_false, not_or] at hj; simp only [upg, hj, if_false]) j hj).trans (hx j hj)) hb (so_2n hz (by omega) (by show z3.toInt = i.toInt + 1; omega)) (by show (0 : Int) ≤ z3.toInt; omega) (by show z3.toInt ≤ (f 53).toInt; omega) (by show (f 53).toInt - z3.toInt < (N : Int); omega)
theorem lp_sort1 {sc : Nat × (Nat → Int32)} {d : Nat} {S0 : am_S} {f : Nat → Int32} {g : Nat → Nat → Int32}  (hO : mj_O (f 68) (f 53) (g 69) (g 60)) (p0 : (0 : Int) ≤ (f 53).toInt) (p1 : (f 53).toInt ≤ (600 : Int)) (p2 : (0 : Int) ≤ (f 68).toInt) (p3 : (f 68).toInt ≤ (65000 : Int)) : ∀ (N : Nat) (S : am_S) (x2 : Option Value) (i : Int32) (gx : Nat → Nat → Int32), MS S0 S f gx → (∀ j, j ∉ [61] → gx j = g j) → (∀ x : Nat, (x : Int) ≤ i.toInt → (gx 61 x).toInt = mj_s (g 69) (f 68).toNatClampNeg x) → (0 : Int) ≤ i.toInt → i.toInt ≤ (f 53).toInt → (f 53).toInt - i.toInt < (N : Int) → am_E (am_PP sc) (d + 0) 266 9 [some (.ref 39), some (.int i), x2] [] S (am_N fun v S1 => (∃ g' : Nat → Nat → Int32, v = none ∧ MS S0 S1 f g' ∧ (∀ j, j ∉ [60, 61, 74] → g' j = g j) ∧ (∀ x : Nat, (x : Int) < (f 53).toInt → 0 ≤ (g' 61 x).toInt ∧ 0 ≤ (g' 60 x).toInt ∧ (g' 61 x).toInt + (g' 60 x).toInt ≤ 65000) ∧ (∀ x : Nat, (x : Int) < (f 53).toInt → ∀ j : Nat, (j : Int) < (g' 60 x).toInt → 0 ≤ (g' 74 ((g' 61 x).toInt.toNat + j)).toInt ∧ (g' 74 ((g' 61 x).toInt.toNat + j)).toInt < 65536))) := by
  intro N
  induction N with
  | zero =>
    intro S x2 i gx  hS  hx hb i0 i1 hN
    exfalso
    omega
  | succ N ih =>
    intro S x2 i gx  hS  hx hb i0 i1 hN
    refine am_e1 (v := i) hi_266_9 rfl ?_
    refine am_e2 (v := 39) hi_266_10 rfl ?_
    refine mm_20 (v := .int (f 53)) hS hi_266_11 rfl ?_
    by_cases c0 : (f 53).toInt ≤ i.toInt
    · refine am_e13t hi_266_14 (am_cT (m := i.toInt) (n := (f 53).toInt) rfl rfl c0) ?_
      refine am_e0 hi_266_44 ?_
      refine am_e3 (ls' := [some (.ref 39), some (.int 0), x2]) hi_266_45 (Nat.le_of_ble_eq_true rfl) rfl ?_
      exact lp_sort2 hO p0 p1 p2 p3 (((f 53).toInt - (0 : Int)).toNat + 1) _ x2 0 _ hS (show ∀ j, j ∉ [60, 61] → gx j = g j from fun j hj => hx j (fun q => hj (mem_sub (L := [61]) (L' := [60, 61]) (by decide) q))) (fun x hx2 => hb x (by omega)) (by intro x hx2; have h3 : (x : Int) < 0 := hx2; omega) (by show (0 : Int) ≤ (0 : Int); omega) (by show (0 : Int) ≤ (f 53).toInt; omega) (by show (f 53).toInt - (0 : Int) < _; omega)
    · refine am_e13f hi_266_14 (am_cF (m := i.toInt) (n := (f 53).toInt) rfl rfl c0) ?_
      refine am_e2 (v := 39) hi_266_17 rfl ?_
      refine mm_20 (v := .ref 82) hS hi_266_18 rfl ?_
      refine am_e1 (v := i) hi_266_21 rfl ?_
      refine am_e0 hi_266_22 ?_
      obtain ⟨z1, hz1, tz1⟩ := am_addI (x := i) (y := 1) (m := i.toInt) (n := (1 : Int)) rfl (by decide) (by omega) (by omega)
      refine am_e10 (z := z1) hi_266_23 hz1 ?_
      refine am_e2 (v := 39) hi_266_24 rfl ?_
      refine mm_20 (v := .ref 82) hS hi_266_25 rfl ?_
      refine am_e1 (v := i) hi_266_28 rfl ?_
      refine mm_25 hS ma_61 hi_266_29 (by decide) (by omega) (by omega) ?_
      show am_E _ _ _ _ [some (.ref 39), some (.int i), x2] [.int (gx 61 i.toNatClampNeg), .int z1, .ref 82] _ _
      have r2 : 0 ≤ (gx 61 i.toNatClampNeg).toInt ∧ 0 ≤ (g 60 i.toNatClampNeg).toInt ∧ (gx 61 i.toNatClampNeg).toInt + (g 60 i.toNatClampNeg).toInt ≤ 65000 := so_1 hO ⟨by omega, by omega⟩ hb (by omega) (by omega)
      refine am_e2 (v := 39) hi_266_30 rfl ?_
      refine mm_20 (v := .ref 81) hS hi_266_31 rfl ?_
      refine am_e1 (v := i) hi_266_34 rfl ?_
      refine mm_25 hS ma_60 hi_266_35 (by decide) (by omega) (by omega) ?_
      show am_E _ _ _ _ _ (.int (gx 60 i.toNatClampNeg) :: _) _ _
      rw [show gx 60 = g 60 from hx 60 (by decide)]
      show am_E _ _ _ _ [some (.ref 39), some (.int i), x2] [.int (g 60 i.toNatClampNeg), .int (gx 61 i.toNatClampNeg), .int z1, .ref 82] _ _
      obtain ⟨z3, hz3, tz3⟩ := am_addI (x := gx 61 i.toNatClampNeg) (y := g 60 i.toNatClampNeg) (m := (gx 61 i.toNatClampNeg).toInt) (n := (g 60 i.toNatClampNeg).toInt) rfl rfl (by omega) (by omega)
      refine am_e10 (z := z3) hi_266_36 hz3 ?_
      refine mm_26 hS ma_61 hi_266_37 (by decide) (by omega) (by omega) (fun h => nomatch h) ?_
      intro S4 hS5
      refine am_e5 (v := i) (z := z1) (ls' := [some (.ref 39), some (.int z1), x2]) hi_266_38 rfl hz1 rfl ?_
      refine am_e18 hi_266_41 ?_
      exact ih _ x2 z1 _ hS5 (fun j hj => ((show ∀ j, j ∉ [61] → (upg gx 61 z1.toNatClampNeg z3) j = gx j from by intro j hj; simp only [List.mem_cons, List.not_mem_nil, or_false, not_or] at hj; simp only [upg, hj, if_false]) j hj).trans (hx j hj)) (by have h := so_1n (z := z1) (v := z3) hO hb (by omega) (by omega) (by omega) (by omega); intro x hx2; exact h x (by have h3 : (x : Int) ≤ z1.toInt := hx2; omega)) (by show (0 : Int) ≤ z1.toInt; omega) (by show z1.toInt ≤ (f 53).toInt; omega) (by show (f 53).toInt - z1.toInt < (N : Int); omega)
theorem ct_sort {sc : Nat × (Nat → Int32)} {d : Nat} {S0 S : am_S} {f : Nat → Int32} {g : Nat → Nat → Int32} (hS : MS S0 S f g) (hO : mj_O (f 68) (f 53) (g 69) (g 60)) (p0 : (0 : Int) ≤ (f 53).toInt) (p1 : (f 53).toInt ≤ (600 : Int)) (p2 : (0 : Int) ≤ (f 68).toInt) (p3 : (f 68).toInt ≤ (65000 : Int)) : am_E (am_PP sc) (d + 0) 266 0 [some (.ref 39), none, none] [] S (am_N fun v S1 => (∃ g' : Nat → Nat → Int32, v = none ∧ MS S0 S1 f g' ∧ (∀ j, j ∉ [60, 61, 74] → g' j = g j) ∧ (∀ x : Nat, (x : Int) < (f 53).toInt → 0 ≤ (g' 61 x).toInt ∧ 0 ≤ (g' 60 x).toInt ∧ (g' 61 x).toInt + (g' 60 x).toInt ≤ 65000) ∧ (∀ x : Nat, (x : Int) < (f 53).toInt → ∀ j : Nat, (j : Int) < (g' 60 x).toInt → 0 ≤ (g' 74 ((g' 61 x).toInt.toNat + j)).toInt ∧ (g' 74 ((g' 61 x).toInt.toNat + j)).toInt < 65536))) := by
  refine am_e2 (v := 39) hi_266_0 rfl ?_
  refine mm_20 (v := .ref 82) hS hi_266_1 rfl ?_
  refine am_e0 hi_266_4 ?_
  refine am_e0 hi_266_5 ?_
  refine mm_26 hS ma_61 hi_266_6 (by decide) (by decide) (by decide) (fun h => nomatch h) ?_
  intro S0 hS1
  refine am_e0 hi_266_7 ?_
  refine am_e3 (ls' := [some (.ref 39), some (.int 0), none]) hi_266_8 (Nat.le_of_ble_eq_true rfl) rfl ?_
  exact lp_sort1 hO p0 p1 p2 p3 (((f 53).toInt - (0 : Int)).toNat + 1) _ none 0 _ hS1 (show ∀ j, j ∉ [61] → (upg g 61 0 0) j = g j from by intro j hj; simp only [List.mem_cons, List.not_mem_nil, or_false, not_or] at hj; simp only [upg, hj, if_false]) (by intro x hx2; have h3 : (x : Int) ≤ 0 := hx2; have h4 : x = 0 := (by omega); subst h4; rfl) (by show (0 : Int) ≤ (0 : Int); omega) (by show (0 : Int) ≤ (f 53).toInt; omega) (by show (f 53).toInt - (0 : Int) < _; omega)
set_option maxHeartbeats 16000000 in
theorem ct_more {sc : Nat × (Nat → Int32)} {d : Nat} {S0 S : am_S} {f : Nat → Int32} {g : Nat → Nat → Int32} {o : Int32} {a : Int32} {b : Int32} (hS : MS S0 S f g) : am_E (am_PP sc) (d + 0) 274 0 [some (.int o), some (.int a), some (.int b)] [] S (am_N fun v S1 => (∃ r : Int32, v = some (.int r) ∧ MS S0 S1 f g)) := by
  refine am_e1 (v := o) hi_274_0 rfl ?_
  refine am_e0 hi_274_1 ?_
  by_cases c0 : o.toInt ≤ (10 : Int)
  · refine am_e13t hi_274_3 (am_cT (m := o.toInt) (n := (10 : Int)) rfl (by decide) c0) ?_
    refine am_e0 hi_274_18 ?_
    refine am_e33 hi_274_19 ?_
    exact ⟨1, rfl, hS⟩
  · refine am_e13f hi_274_3 (am_cF (m := o.toInt) (n := (10 : Int)) rfl (by decide) c0) ?_
    refine am_e1 (v := o) hi_274_6 rfl ?_
    refine am_e0 hi_274_7 ?_
    by_cases c1 : o.toInt = (14 : Int)
    · refine am_e13t hi_274_9 (am_cT (m := o.toInt) (n := (14 : Int)) rfl (by decide) c1) ?_
      refine am_e0 hi_274_18 ?_
      refine am_e33 hi_274_19 ?_
      exact ⟨1, rfl, hS⟩
    · refine am_e13f hi_274_9 (am_cF (m := o.toInt) (n := (14 : Int)) rfl (by decide) c1) ?_
      refine am_e1 (v := o) hi_274_12 rfl ?_
      refine am_e0 hi_274_13 ?_
      by_cases c2 : ¬ o.toInt = (20 : Int)
      · refine am_e13t hi_274_15 (am_cT (m := o.toInt) (n := (20 : Int)) rfl (by decide) c2) ?_
        refine am_e1 (v := o) hi_274_20 rfl ?_
        by_cases c3 : o.toInt = 12
        · refine am_e19 (t := 176) hi_274_21 (am_swI (v := o) (w := 12) (by decide) (by decide) c3) ?_
          refine am_e0 hi_274_176 ?_
          refine am_e33 hi_274_177 ?_
          exact ⟨0, rfl, hS⟩
        by_cases c4 : o.toInt = 13
        · refine am_e19 (t := 178) hi_274_21 (am_swI (v := o) (w := 13) (by decide) (by decide) c4) ?_
          refine am_e1 (v := b) hi_274_178 rfl ?_
          refine am_e0 hi_274_179 ?_
          by_cases c5 : b.toInt ≤ (1 : Int)
          · refine am_e13t hi_274_180 (am_cT (m := b.toInt) (n := (1 : Int)) rfl (by decide) c5) ?_
            refine am_e0 hi_274_187 ?_
            refine am_e1 (v := a) hi_274_188 rfl ?_
            obtain ⟨z6, hz6⟩ : ∃ q__, am_bin 1 0 a = q__ := ⟨_, rfl⟩
            refine am_e10 (z := z6) hi_274_189 hz6 ?_
            refine am_e0 hi_274_190 ?_
            obtain ⟨z7, hz7⟩ : ∃ q__, am_bin 1 z6 1 = q__ := ⟨_, rfl⟩
            refine am_e10 (z := z7) hi_274_191 hz7 ?_
            refine am_e1 (v := b) hi_274_192 rfl ?_
            refine am_e0 hi_274_193 ?_
            obtain ⟨z8, hz8⟩ : ∃ q__, am_bin 3 b 1 = q__ := ⟨_, rfl⟩
            refine am_e10 (z := z8) hi_274_194 hz8 ?_
            obtain ⟨z9, hz9⟩ : ∃ q__, am_bin 1 z7 z8 = q__ := ⟨_, rfl⟩
            refine am_e10 (z := z9) hi_274_195 hz9 ?_
            refine am_e33 hi_274_196 ?_
            exact ⟨z9, rfl, hS⟩
          · refine am_e13f hi_274_180 (am_cF (m := b.toInt) (n := (1 : Int)) rfl (by decide) c5) ?_
            refine am_e0 hi_274_183 ?_
            refine am_e18 hi_274_184 ?_
            refine am_e1 (v := a) hi_274_188 rfl ?_
            obtain ⟨z10, hz10⟩ : ∃ q__, am_bin 1 1 a = q__ := ⟨_, rfl⟩
            refine am_e10 (z := z10) hi_274_189 hz10 ?_
            refine am_e0 hi_274_190 ?_
            obtain ⟨z11, hz11⟩ : ∃ q__, am_bin 1 z10 1 = q__ := ⟨_, rfl⟩
            refine am_e10 (z := z11) hi_274_191 hz11 ?_
            refine am_e1 (v := b) hi_274_192 rfl ?_
            refine am_e0 hi_274_193 ?_
            obtain ⟨z12, hz12⟩ : ∃ q__, am_bin 3 b 1 = q__ := ⟨_, rfl⟩
            refine am_e10 (z := z12) hi_274_194 hz12 ?_
            obtain ⟨z13, hz13⟩ : ∃ q__, am_bin 1 z11 z12 = q__ := ⟨_, rfl⟩
            refine am_e10 (z := z13) hi_274_195 hz13 ?_
            refine am_e33 hi_274_196 ?_
            exact ⟨z13, rfl, hS⟩
        by_cases c14 : o.toInt = 17
        · refine am_e19 (t := 176) hi_274_21 (am_swI (v := o) (w := 17) (by decide) (by decide) c14) ?_
          refine am_e0 hi_274_176 ?_
          refine am_e33 hi_274_177 ?_
          exact ⟨0, rfl, hS⟩
        by_cases c15 : o.toInt = 18
        · refine am_e19 (t := 176) hi_274_21 (am_swI (v := o) (w := 18) (by decide) (by decide) c15) ?_
          refine am_e0 hi_274_176 ?_
          refine am_e33 hi_274_177 ?_
          exact ⟨0, rfl, hS⟩
        by_cases c16 : o.toInt = 21
        · refine am_e19 (t := 207) hi_274_21 (am_swI (v := o) (w := 21) (by decide) (by decide) c16) ?_
          refine am_e0 hi_274_207 ?_
          refine am_e33 hi_274_209 ?_
          exact ⟨(-2), rfl, hS⟩
        by_cases c17 : o.toInt = 25
        · refine am_e19 (t := 197) hi_274_21 (am_swI (v := o) (w := 25) (by decide) (by decide) c17) ?_
          refine am_e1 (v := a) hi_274_197 rfl ?_
          refine am_e0 hi_274_198 ?_
          obtain ⟨z18, hz18⟩ : ∃ q__, am_bin 1 a 1 = q__ := ⟨_, rfl⟩
          refine am_e10 (z := z18) hi_274_199 hz18 ?_
          refine am_e33 hi_274_200 ?_
          exact ⟨z18, rfl, hS⟩
        by_cases c19 : o.toInt = 26
        · refine am_e19 (t := 201) hi_274_21 (am_swI (v := o) (w := 26) (by decide) (by decide) c19) ?_
          refine am_e1 (v := a) hi_274_201 rfl ?_
          obtain ⟨z20, hz20⟩ : ∃ q__, -a = q__ := ⟨_, rfl⟩
          refine am_e11 (z := z20) hi_274_202 hz20 ?_
          refine am_e33 hi_274_203 ?_
          exact ⟨z20, rfl, hS⟩
        by_cases c21 : o.toInt = 27
        · refine am_e19 (t := 204) hi_274_21 (am_swI (v := o) (w := 27) (by decide) (by decide) c21) ?_
          refine am_e1 (v := b) hi_274_204 rfl ?_
          obtain ⟨z22, hz22⟩ : ∃ q__, -b = q__ := ⟨_, rfl⟩
          refine am_e11 (z := z22) hi_274_205 hz22 ?_
          refine am_e33 hi_274_206 ?_
          exact ⟨z22, rfl, hS⟩
        by_cases c23 : o.toInt = 28
        · refine am_e19 (t := 176) hi_274_21 (am_swI (v := o) (w := 28) (by decide) (by decide) c23) ?_
          refine am_e0 hi_274_176 ?_
          refine am_e33 hi_274_177 ?_
          exact ⟨0, rfl, hS⟩
        by_cases c24 : o.toInt = 33
        · refine am_e19 (t := 176) hi_274_21 (am_swI (v := o) (w := 33) (by decide) (by decide) c24) ?_
          refine am_e0 hi_274_176 ?_
          refine am_e33 hi_274_177 ?_
          exact ⟨0, rfl, hS⟩
        by_cases c25 : o.toInt = 34
        · refine am_e19 (t := 176) hi_274_21 (am_swI (v := o) (w := 34) (by decide) (by decide) c25) ?_
          refine am_e0 hi_274_176 ?_
          refine am_e33 hi_274_177 ?_
          exact ⟨0, rfl, hS⟩
        by_cases c26 : o.toInt = 36
        · refine am_e19 (t := 176) hi_274_21 (am_swI (v := o) (w := 36) (by decide) (by decide) c26) ?_
          refine am_e0 hi_274_176 ?_
          refine am_e33 hi_274_177 ?_
          exact ⟨0, rfl, hS⟩
        by_cases c27 : o.toInt = 38
        · refine am_e19 (t := 210) hi_274_21 (am_swI (v := o) (w := 38) (by decide) (by decide) c27) ?_
          refine am_e0 hi_274_210 ?_
          refine am_e33 hi_274_212 ?_
          exact ⟨(-3), rfl, hS⟩
        by_cases c28 : o.toInt = 39
        · refine am_e19 (t := 176) hi_274_21 (am_swI (v := o) (w := 39) (by decide) (by decide) c28) ?_
          refine am_e0 hi_274_176 ?_
          refine am_e33 hi_274_177 ?_
          exact ⟨0, rfl, hS⟩
        by_cases c29 : o.toInt = 40
        · refine am_e19 (t := 176) hi_274_21 (am_swI (v := o) (w := 40) (by decide) (by decide) c29) ?_
          refine am_e0 hi_274_176 ?_
          refine am_e33 hi_274_177 ?_
          exact ⟨0, rfl, hS⟩
        by_cases c30 : o.toInt = 41
        · refine am_e19 (t := 176) hi_274_21 (am_swI (v := o) (w := 41) (by decide) (by decide) c30) ?_
          refine am_e0 hi_274_176 ?_
          refine am_e33 hi_274_177 ?_
          exact ⟨0, rfl, hS⟩
        by_cases c31 : o.toInt = 42
        · refine am_e19 (t := 213) hi_274_21 (am_swI (v := o) (w := 42) (by decide) (by decide) c31) ?_
          refine am_e0 hi_274_213 ?_
          refine am_e33 hi_274_215 ?_
          exact ⟨(-4), rfl, hS⟩
        by_cases c32 : o.toInt = 43
        · refine am_e19 (t := 176) hi_274_21 (am_swI (v := o) (w := 43) (by decide) (by decide) c32) ?_
          refine am_e0 hi_274_176 ?_
          refine am_e33 hi_274_177 ?_
          exact ⟨0, rfl, hS⟩
        by_cases c33 : o.toInt = 44
        · refine am_e19 (t := 176) hi_274_21 (am_swI (v := o) (w := 44) (by decide) (by decide) c33) ?_
          refine am_e0 hi_274_176 ?_
          refine am_e33 hi_274_177 ?_
          exact ⟨0, rfl, hS⟩
        by_cases c34 : o.toInt = 45
        · refine am_e19 (t := 216) hi_274_21 (am_swI (v := o) (w := 45) (by decide) (by decide) c34) ?_
          refine am_e1 (v := a) hi_274_216 rfl ?_
          obtain ⟨z35, hz35⟩ : ∃ q__, -a = q__ := ⟨_, rfl⟩
          refine am_e11 (z := z35) hi_274_217 hz35 ?_
          refine am_e1 (v := b) hi_274_218 rfl ?_
          obtain ⟨z36, hz36⟩ : ∃ q__, am_bin 1 z35 b = q__ := ⟨_, rfl⟩
          refine am_e10 (z := z36) hi_274_219 hz36 ?_
          refine am_e33 hi_274_220 ?_
          exact ⟨z36, rfl, hS⟩
        by_cases c37 : o.toInt = 46
        · refine am_e19 (t := 221) hi_274_21 (am_swI (v := o) (w := 46) (by decide) (by decide) c37) ?_
          refine am_e1 (v := a) hi_274_221 rfl ?_
          obtain ⟨z38, hz38⟩ : ∃ q__, -a = q__ := ⟨_, rfl⟩
          refine am_e11 (z := z38) hi_274_222 hz38 ?_
          refine am_e0 hi_274_223 ?_
          obtain ⟨z39, hz39⟩ : ∃ q__, am_bin 1 z38 1 = q__ := ⟨_, rfl⟩
          refine am_e10 (z := z39) hi_274_224 hz39 ?_
          refine am_e1 (v := b) hi_274_225 rfl ?_
          obtain ⟨z40, hz40⟩ : ∃ q__, am_bin 1 z39 b = q__ := ⟨_, rfl⟩
          refine am_e10 (z := z40) hi_274_226 hz40 ?_
          refine am_e33 hi_274_227 ?_
          exact ⟨z40, rfl, hS⟩
        refine am_e19 (t := 228) hi_274_21 (am_swD (v := o) (ks := [12, 13, 17, 18, 21, 25, 26, 27, 28, 33, 34, 36, 38, 39, 40, 41, 42, 43, 44, 45, 46]) (by decide) (by intro k hk; simp only [List.mem_cons, List.not_mem_nil, or_false] at hk; rcases hk with rfl | rfl | rfl | rfl | rfl | rfl | rfl | rfl | rfl | rfl | rfl | rfl | rfl | rfl | rfl | rfl | rfl | rfl | rfl | rfl | rfl <;> omega)) ?_
        refine am_e0 hi_274_228 ?_
        refine am_e33 hi_274_229 ?_
        exact ⟨(-1), rfl, hS⟩
      · refine am_e13f hi_274_15 (am_cF (m := o.toInt) (n := (20 : Int)) rfl (by decide) c2) ?_
        refine am_e0 hi_274_18 ?_
        refine am_e33 hi_274_19 ?_
        exact ⟨1, rfl, hS⟩
theorem ct_isIn {sc : Nat × (Nat → Int32)} {d : Nat} {S0 S : am_S} {f : Nat → Int32} {g : Nat → Nat → Int32} {o : Int32} {a : Int32} {b : Int32} (hS : MS S0 S f g) : am_E (am_PP sc) (d + 0) 277 0 [some (.int o), some (.int a), some (.int b)] [] S (am_N fun v S1 => (∃ r : Int32, v = some (.int r) ∧ MS S0 S1 f g ∧ (r = 0 ∨ r = 1))) := by
  refine am_e1 (v := o) hi_277_0 rfl ?_
  refine am_e1 (v := a) hi_277_1 rfl ?_
  by_cases c0 : o.toInt < a.toInt
  · refine am_e13t hi_277_2 (am_cT (m := o.toInt) (n := a.toInt) rfl rfl c0) ?_
    refine am_e0 hi_277_14 ?_
    refine am_e36 hi_277_15 (by decide) ?_
    exact ⟨0, rfl, hS, (by decide)⟩
  · refine am_e13f hi_277_2 (am_cF (m := o.toInt) (n := a.toInt) rfl rfl c0) ?_
    refine am_e1 (v := o) hi_277_5 rfl ?_
    refine am_e1 (v := b) hi_277_6 rfl ?_
    by_cases c1 : b.toInt ≤ o.toInt
    · refine am_e13t hi_277_7 (am_cT (m := o.toInt) (n := b.toInt) rfl rfl c1) ?_
      refine am_e0 hi_277_14 ?_
      refine am_e36 hi_277_15 (by decide) ?_
      exact ⟨0, rfl, hS, (by decide)⟩
    · refine am_e13f hi_277_7 (am_cF (m := o.toInt) (n := b.toInt) rfl rfl c1) ?_
      refine am_e0 hi_277_10 ?_
      refine am_e18 hi_277_11 ?_
      refine am_e36 hi_277_15 (by decide) ?_
      exact ⟨1, rfl, hS, (by decide)⟩
set_option maxHeartbeats 16000000 in
theorem ct_isRight {sc : Nat × (Nat → Int32)} {d : Nat} {S0 S : am_S} {f : Nat → Int32} {g : Nat → Nat → Int32} {x : Int32} {o : Int32} {a : Int32} {b : Int32} (hS : MS S0 S f g) (p0 : (0 : Int) ≤ x.toInt) (p1 : x.toInt < (f 53).toInt) (p2 : (0 : Int) ≤ (f 53).toInt) (p3 : (f 53).toInt ≤ (600 : Int)) : am_E (am_PP sc) (d + 1) 276 0 [some (.ref 39), some (.int x), some (.int o), some (.int a), some (.int b), none] [] S (am_N fun v S1 => (∃ r : Int32, v = some (.int r) ∧ MS S0 S1 f g ∧ (r = 0 ∨ r = 1))) := by
  refine am_e2 (v := 39) hi_276_0 rfl ?_
  refine mm_20 (v := .ref 79) hS hi_276_1 rfl ?_
  refine am_e1 (v := x) hi_276_4 rfl ?_
  refine mm_25 hS ma_58 hi_276_5 (by decide) (by omega) (by omega) ?_
  show am_E _ _ _ _ [some (.ref 39), some (.int x), some (.int o), some (.int a), some (.int b), none] [.int (g 58 x.toNatClampNeg)] _ _
  refine am_e3 (ls' := [some (.ref 39), some (.int x), some (.int o), some (.int a), some (.int b), some (.int (g 58 x.toNatClampNeg))]) hi_276_6 (Nat.le_of_ble_eq_true rfl) rfl ?_
  refine am_e1 (v := o) hi_276_8 rfl ?_
  by_cases c0 : o.toInt = 7
  · refine am_e19 (t := 334) hi_276_9 (am_swI (v := o) (w := 7) (by decide) (by decide) c0) ?_
    refine am_e2 (v := 39) hi_276_334 rfl ?_
    refine am_e1 (v := a) hi_276_335 rfl ?_
    refine am_e32w (as := [.ref 39, .int a]) (la := [some (.ref 39), some (.int a)]) (rest := []) hi_276_336 (am_hd0 (M := 276) (by decide) 336) (Nat.le_of_ble_eq_true rfl) (Nat.le_of_ble_eq_true rfl) (show 2 ≤ am_P0.2.2.1 270 from by decide +kernel) rfl (am_recv_ok hS.fs) rfl rfl ?_
    refine am_e1 (v := a) hi_270_0 rfl ?_
    by_cases c1 : a.toInt < (0 : Int)
    · refine am_e12t hi_270_1 (am_cT (m := a.toInt) (n := (0 : Int)) rfl (by decide) c1) ?_
      refine am_e0 hi_270_16 ?_
      refine am_e36 hi_270_17 (by decide) ?_
      show am_E _ _ _ _ [some (.ref 39), some (.int x), some (.int o), some (.int a), some (.int b), some (.int (g 58 x.toNatClampNeg))] [.int 0] _ _
      refine am_e12t hi_276_339 (by decide) ?_
      refine am_e0 hi_276_356 ?_
      refine am_e36 hi_276_357 (by decide) ?_
      exact ⟨0, rfl, hS, (by decide)⟩
    · refine am_e12f hi_270_1 (am_cF (m := a.toInt) (n := (0 : Int)) rfl (by decide) c1) ?_
      refine am_e1 (v := a) hi_270_4 rfl ?_
      refine am_e2 (v := 39) hi_270_5 rfl ?_
      refine mm_20 (v := .int (f 53)) hS hi_270_6 rfl ?_
      by_cases c2 : (f 53).toInt ≤ a.toInt
      · refine am_e13t hi_270_9 (am_cT (m := a.toInt) (n := (f 53).toInt) rfl rfl c2) ?_
        refine am_e0 hi_270_16 ?_
        refine am_e36 hi_270_17 (by decide) ?_
        show am_E _ _ _ _ [some (.ref 39), some (.int x), some (.int o), some (.int a), some (.int b), some (.int (g 58 x.toNatClampNeg))] [.int 0] _ _
        refine am_e12t hi_276_339 (by decide) ?_
        refine am_e0 hi_276_356 ?_
        refine am_e36 hi_276_357 (by decide) ?_
        exact ⟨0, rfl, hS, (by decide)⟩
      · refine am_e13f hi_270_9 (am_cF (m := a.toInt) (n := (f 53).toInt) rfl rfl c2) ?_
        refine am_e0 hi_270_12 ?_
        refine am_e18 hi_270_13 ?_
        refine am_e36 hi_270_17 (by decide) ?_
        show am_E _ _ _ _ [some (.ref 39), some (.int x), some (.int o), some (.int a), some (.int b), some (.int (g 58 x.toNatClampNeg))] [.int 1] _ _
        refine am_e12f hi_276_339 (by decide) ?_
        refine am_e2 (v := 39) hi_276_342 rfl ?_
        refine mm_20 (v := .ref 75) hS hi_276_343 rfl ?_
        refine am_e1 (v := a) hi_276_346 rfl ?_
        refine mm_25 hS ma_54 hi_276_347 (by decide) (by omega) (by omega) ?_
        show am_E _ _ _ _ [some (.ref 39), some (.int x), some (.int o), some (.int a), some (.int b), some (.int (g 58 x.toNatClampNeg))] [.int (g 54 a.toNatClampNeg)] _ _
        refine am_e1 (v := x) hi_276_348 rfl ?_
        by_cases c3 : ¬ (g 54 a.toNatClampNeg).toInt = x.toInt
        · refine am_e13t hi_276_349 (am_cT (m := (g 54 a.toNatClampNeg).toInt) (n := x.toInt) rfl rfl c3) ?_
          refine am_e0 hi_276_356 ?_
          refine am_e36 hi_276_357 (by decide) ?_
          exact ⟨0, rfl, hS, (by decide)⟩
        · refine am_e13f hi_276_349 (am_cF (m := (g 54 a.toNatClampNeg).toInt) (n := x.toInt) rfl rfl c3) ?_
          refine am_e0 hi_276_352 ?_
          refine am_e18 hi_276_353 ?_
          refine am_e36 hi_276_357 (by decide) ?_
          exact ⟨1, rfl, hS, (by decide)⟩
  by_cases c4 : o.toInt = 8
  · refine am_e19 (t := 188) hi_276_9 (am_swI (v := o) (w := 8) (by decide) (by decide) c4) ?_
    refine am_e1 (v := a) hi_276_188 rfl ?_
    refine am_e0 hi_276_189 ?_
    refine am_e1 (v := g 58 x.toNatClampNeg) hi_276_190 rfl ?_
    refine am_e32n (as := [.int a, .int 0, .int (g 58 x.toNatClampNeg)]) (la := [some (.int a), some (.int 0), some (.int (g 58 x.toNatClampNeg))]) (rest := []) hi_276_192 (am_hd0 (M := 276) (by decide) 192) (Nat.le_of_ble_eq_true rfl) (Nat.le_of_ble_eq_true rfl) (show 3 ≤ am_P0.2.2.1 277 from by decide +kernel) rfl rfl rfl rfl (ct_isIn (d := d) hS   ) ?_
    rintro v5 S6 (⟨r7, hv8, hS9, h10⟩)
    subst hv8
    have h10_ : r7 = 0 ∨ r7 = 1 := h10
    show am_E _ _ _ _ [some (.ref 39), some (.int x), some (.int o), some (.int a), some (.int b), some (.int (g 58 x.toNatClampNeg))] [.int r7] _ _
    refine am_e36 hi_276_195 h10 ?_
    exact ⟨r7, rfl, hS9, h10⟩
  by_cases c12 : o.toInt = 9
  · refine am_e19 (t := 322) hi_276_9 (am_swI (v := o) (w := 9) (by decide) (by decide) c12) ?_
    refine am_e1 (v := a) hi_276_322 rfl ?_
    refine am_e0 hi_276_323 ?_
    refine am_e2 (v := 39) hi_276_324 rfl ?_
    refine mm_20 (v := .ref 87) hS hi_276_325 rfl ?_
    refine am_e1 (v := x) hi_276_328 rfl ?_
    refine mm_25 hS ma_67 hi_276_329 (by decide) (by omega) (by omega) ?_
    show am_E _ _ _ _ [some (.ref 39), some (.int x), some (.int o), some (.int a), some (.int b), some (.int (g 58 x.toNatClampNeg))] [.int (g 67 x.toNatClampNeg), .int 0, .int a] _ _
    refine am_e32n (as := [.int a, .int 0, .int (g 67 x.toNatClampNeg)]) (la := [some (.int a), some (.int 0), some (.int (g 67 x.toNatClampNeg))]) (rest := []) hi_276_330 (am_hd0 (M := 276) (by decide) 330) (Nat.le_of_ble_eq_true rfl) (Nat.le_of_ble_eq_true rfl) (show 3 ≤ am_P0.2.2.1 277 from by decide +kernel) rfl rfl rfl rfl (ct_isIn (d := d) hS   ) ?_
    rintro v13 S14 (⟨r15, hv16, hS17, h18⟩)
    subst hv16
    have h18_ : r15 = 0 ∨ r15 = 1 := h18
    show am_E _ _ _ _ [some (.ref 39), some (.int x), some (.int o), some (.int a), some (.int b), some (.int (g 58 x.toNatClampNeg))] [.int r15] _ _
    refine am_e36 hi_276_333 h18 ?_
    exact ⟨r15, rfl, hS17, h18⟩
  by_cases c20 : o.toInt = 15
  · refine am_e19 (t := 176) hi_276_9 (am_swI (v := o) (w := 15) (by decide) (by decide) c20) ?_
    refine am_e1 (v := a) hi_276_176 rfl ?_
    refine am_e0 hi_276_177 ?_
    refine am_e2 (v := 39) hi_276_178 rfl ?_
    refine mm_20 (v := .ref 81) hS hi_276_179 rfl ?_
    refine am_e1 (v := x) hi_276_182 rfl ?_
    refine mm_25 hS ma_60 hi_276_183 (by decide) (by omega) (by omega) ?_
    show am_E _ _ _ _ [some (.ref 39), some (.int x), some (.int o), some (.int a), some (.int b), some (.int (g 58 x.toNatClampNeg))] [.int (g 60 x.toNatClampNeg), .int 0, .int a] _ _
    refine am_e32n (as := [.int a, .int 0, .int (g 60 x.toNatClampNeg)]) (la := [some (.int a), some (.int 0), some (.int (g 60 x.toNatClampNeg))]) (rest := []) hi_276_184 (am_hd0 (M := 276) (by decide) 184) (Nat.le_of_ble_eq_true rfl) (Nat.le_of_ble_eq_true rfl) (show 3 ≤ am_P0.2.2.1 277 from by decide +kernel) rfl rfl rfl rfl (ct_isIn (d := d) hS   ) ?_
    rintro v21 S22 (⟨r23, hv24, hS25, h26⟩)
    subst hv24
    have h26_ : r23 = 0 ∨ r23 = 1 := h26
    show am_E _ _ _ _ [some (.ref 39), some (.int x), some (.int o), some (.int a), some (.int b), some (.int (g 58 x.toNatClampNeg))] [.int r23] _ _
    refine am_e36 hi_276_187 h26 ?_
    exact ⟨r23, rfl, hS25, h26⟩
  by_cases c28 : o.toInt = 16
  · refine am_e19 (t := 176) hi_276_9 (am_swI (v := o) (w := 16) (by decide) (by decide) c28) ?_
    refine am_e1 (v := a) hi_276_176 rfl ?_
    refine am_e0 hi_276_177 ?_
    refine am_e2 (v := 39) hi_276_178 rfl ?_
    refine mm_20 (v := .ref 81) hS hi_276_179 rfl ?_
    refine am_e1 (v := x) hi_276_182 rfl ?_
    refine mm_25 hS ma_60 hi_276_183 (by decide) (by omega) (by omega) ?_
    show am_E _ _ _ _ [some (.ref 39), some (.int x), some (.int o), some (.int a), some (.int b), some (.int (g 58 x.toNatClampNeg))] [.int (g 60 x.toNatClampNeg), .int 0, .int a] _ _
    refine am_e32n (as := [.int a, .int 0, .int (g 60 x.toNatClampNeg)]) (la := [some (.int a), some (.int 0), some (.int (g 60 x.toNatClampNeg))]) (rest := []) hi_276_184 (am_hd0 (M := 276) (by decide) 184) (Nat.le_of_ble_eq_true rfl) (Nat.le_of_ble_eq_true rfl) (show 3 ≤ am_P0.2.2.1 277 from by decide +kernel) rfl rfl rfl rfl (ct_isIn (d := d) hS   ) ?_
    rintro v29 S30 (⟨r31, hv32, hS33, h34⟩)
    subst hv32
    have h34_ : r31 = 0 ∨ r31 = 1 := h34
    show am_E _ _ _ _ [some (.ref 39), some (.int x), some (.int o), some (.int a), some (.int b), some (.int (g 58 x.toNatClampNeg))] [.int r31] _ _
    refine am_e36 hi_276_187 h34 ?_
    exact ⟨r31, rfl, hS33, h34⟩
  by_cases c36 : o.toInt = 27
  · refine am_e19 (t := 293) hi_276_9 (am_swI (v := o) (w := 27) (by decide) (by decide) c36) ?_
    refine am_e1 (v := a) hi_276_293 rfl ?_
    by_cases c37 : a.toInt < (0 : Int)
    · refine am_e12t hi_276_294 (am_cT (m := a.toInt) (n := (0 : Int)) rfl (by decide) c37) ?_
      refine am_e0 hi_276_310 ?_
      refine am_e36 hi_276_311 (by decide) ?_
      exact ⟨0, rfl, hS, (by decide)⟩
    · refine am_e12f hi_276_294 (am_cF (m := a.toInt) (n := (0 : Int)) rfl (by decide) c37) ?_
      refine am_e1 (v := a) hi_276_297 rfl ?_
      refine am_e1 (v := b) hi_276_298 rfl ?_
      obtain ⟨z38, hz38⟩ : ∃ q__, am_bin 0 a b = q__ := ⟨_, rfl⟩
      refine am_e10 (z := z38) hi_276_300 hz38 ?_
      refine am_e1 (v := g 58 x.toNatClampNeg) hi_276_301 rfl ?_
      by_cases c39 : (g 58 x.toNatClampNeg).toInt < z38.toInt
      · refine am_e13t hi_276_303 (am_cT (m := z38.toInt) (n := (g 58 x.toNatClampNeg).toInt) rfl rfl c39) ?_
        refine am_e0 hi_276_310 ?_
        refine am_e36 hi_276_311 (by decide) ?_
        exact ⟨0, rfl, hS, (by decide)⟩
      · refine am_e13f hi_276_303 (am_cF (m := z38.toInt) (n := (g 58 x.toNatClampNeg).toInt) rfl rfl c39) ?_
        refine am_e0 hi_276_306 ?_
        refine am_e18 hi_276_307 ?_
        refine am_e36 hi_276_311 (by decide) ?_
        exact ⟨1, rfl, hS, (by decide)⟩
  by_cases c40 : o.toInt = 28
  · refine am_e19 (t := 188) hi_276_9 (am_swI (v := o) (w := 28) (by decide) (by decide) c40) ?_
    refine am_e1 (v := a) hi_276_188 rfl ?_
    refine am_e0 hi_276_189 ?_
    refine am_e1 (v := g 58 x.toNatClampNeg) hi_276_190 rfl ?_
    refine am_e32n (as := [.int a, .int 0, .int (g 58 x.toNatClampNeg)]) (la := [some (.int a), some (.int 0), some (.int (g 58 x.toNatClampNeg))]) (rest := []) hi_276_192 (am_hd0 (M := 276) (by decide) 192) (Nat.le_of_ble_eq_true rfl) (Nat.le_of_ble_eq_true rfl) (show 3 ≤ am_P0.2.2.1 277 from by decide +kernel) rfl rfl rfl rfl (ct_isIn (d := d) hS   ) ?_
    rintro v41 S42 (⟨r43, hv44, hS45, h46⟩)
    subst hv44
    have h46_ : r43 = 0 ∨ r43 = 1 := h46
    show am_E _ _ _ _ [some (.ref 39), some (.int x), some (.int o), some (.int a), some (.int b), some (.int (g 58 x.toNatClampNeg))] [.int r43] _ _
    refine am_e36 hi_276_195 h46 ?_
    exact ⟨r43, rfl, hS45, h46⟩
  by_cases c48 : o.toInt = 29
  · refine am_e19 (t := 188) hi_276_9 (am_swI (v := o) (w := 29) (by decide) (by decide) c48) ?_
    refine am_e1 (v := a) hi_276_188 rfl ?_
    refine am_e0 hi_276_189 ?_
    refine am_e1 (v := g 58 x.toNatClampNeg) hi_276_190 rfl ?_
    refine am_e32n (as := [.int a, .int 0, .int (g 58 x.toNatClampNeg)]) (la := [some (.int a), some (.int 0), some (.int (g 58 x.toNatClampNeg))]) (rest := []) hi_276_192 (am_hd0 (M := 276) (by decide) 192) (Nat.le_of_ble_eq_true rfl) (Nat.le_of_ble_eq_true rfl) (show 3 ≤ am_P0.2.2.1 277 from by decide +kernel) rfl rfl rfl rfl (ct_isIn (d := d) hS   ) ?_
    rintro v49 S50 (⟨r51, hv52, hS53, h54⟩)
    subst hv52
    have h54_ : r51 = 0 ∨ r51 = 1 := h54
    show am_E _ _ _ _ [some (.ref 39), some (.int x), some (.int o), some (.int a), some (.int b), some (.int (g 58 x.toNatClampNeg))] [.int r51] _ _
    refine am_e36 hi_276_195 h54 ?_
    exact ⟨r51, rfl, hS53, h54⟩
  by_cases c56 : o.toInt = 30
  · refine am_e19 (t := 322) hi_276_9 (am_swI (v := o) (w := 30) (by decide) (by decide) c56) ?_
    refine am_e1 (v := a) hi_276_322 rfl ?_
    refine am_e0 hi_276_323 ?_
    refine am_e2 (v := 39) hi_276_324 rfl ?_
    refine mm_20 (v := .ref 87) hS hi_276_325 rfl ?_
    refine am_e1 (v := x) hi_276_328 rfl ?_
    refine mm_25 hS ma_67 hi_276_329 (by decide) (by omega) (by omega) ?_
    show am_E _ _ _ _ [some (.ref 39), some (.int x), some (.int o), some (.int a), some (.int b), some (.int (g 58 x.toNatClampNeg))] [.int (g 67 x.toNatClampNeg), .int 0, .int a] _ _
    refine am_e32n (as := [.int a, .int 0, .int (g 67 x.toNatClampNeg)]) (la := [some (.int a), some (.int 0), some (.int (g 67 x.toNatClampNeg))]) (rest := []) hi_276_330 (am_hd0 (M := 276) (by decide) 330) (Nat.le_of_ble_eq_true rfl) (Nat.le_of_ble_eq_true rfl) (show 3 ≤ am_P0.2.2.1 277 from by decide +kernel) rfl rfl rfl rfl (ct_isIn (d := d) hS   ) ?_
    rintro v57 S58 (⟨r59, hv60, hS61, h62⟩)
    subst hv60
    have h62_ : r59 = 0 ∨ r59 = 1 := h62
    show am_E _ _ _ _ [some (.ref 39), some (.int x), some (.int o), some (.int a), some (.int b), some (.int (g 58 x.toNatClampNeg))] [.int r59] _ _
    refine am_e36 hi_276_333 h62 ?_
    exact ⟨r59, rfl, hS61, h62⟩
  by_cases c64 : o.toInt = 33
  · refine am_e19 (t := 312) hi_276_9 (am_swI (v := o) (w := 33) (by decide) (by decide) c64) ?_
    refine am_e1 (v := a) hi_276_312 rfl ?_
    refine am_e0 hi_276_313 ?_
    refine am_e1 (v := g 58 x.toNatClampNeg) hi_276_314 rfl ?_
    refine am_e0 hi_276_316 ?_
    obtain ⟨z65, hz65⟩ : ∃ q__, am_bin 0 (g 58 x.toNatClampNeg) 1 = q__ := ⟨_, rfl⟩
    refine am_e10 (z := z65) hi_276_317 hz65 ?_
    refine am_e32n (as := [.int a, .int 0, .int z65]) (la := [some (.int a), some (.int 0), some (.int z65)]) (rest := []) hi_276_318 (am_hd0 (M := 276) (by decide) 318) (Nat.le_of_ble_eq_true rfl) (Nat.le_of_ble_eq_true rfl) (show 3 ≤ am_P0.2.2.1 277 from by decide +kernel) rfl rfl rfl rfl (ct_isIn (d := d) hS   ) ?_
    rintro v66 S67 (⟨r68, hv69, hS70, h71⟩)
    subst hv69
    have h71_ : r68 = 0 ∨ r68 = 1 := h71
    show am_E _ _ _ _ [some (.ref 39), some (.int x), some (.int o), some (.int a), some (.int b), some (.int (g 58 x.toNatClampNeg))] [.int r68] _ _
    refine am_e36 hi_276_321 h71 ?_
    exact ⟨r68, rfl, hS70, h71⟩
  by_cases c73 : o.toInt = 35
  · refine am_e19 (t := 176) hi_276_9 (am_swI (v := o) (w := 35) (by decide) (by decide) c73) ?_
    refine am_e1 (v := a) hi_276_176 rfl ?_
    refine am_e0 hi_276_177 ?_
    refine am_e2 (v := 39) hi_276_178 rfl ?_
    refine mm_20 (v := .ref 81) hS hi_276_179 rfl ?_
    refine am_e1 (v := x) hi_276_182 rfl ?_
    refine mm_25 hS ma_60 hi_276_183 (by decide) (by omega) (by omega) ?_
    show am_E _ _ _ _ [some (.ref 39), some (.int x), some (.int o), some (.int a), some (.int b), some (.int (g 58 x.toNatClampNeg))] [.int (g 60 x.toNatClampNeg), .int 0, .int a] _ _
    refine am_e32n (as := [.int a, .int 0, .int (g 60 x.toNatClampNeg)]) (la := [some (.int a), some (.int 0), some (.int (g 60 x.toNatClampNeg))]) (rest := []) hi_276_184 (am_hd0 (M := 276) (by decide) 184) (Nat.le_of_ble_eq_true rfl) (Nat.le_of_ble_eq_true rfl) (show 3 ≤ am_P0.2.2.1 277 from by decide +kernel) rfl rfl rfl rfl (ct_isIn (d := d) hS   ) ?_
    rintro v74 S75 (⟨r76, hv77, hS78, h79⟩)
    subst hv77
    have h79_ : r76 = 0 ∨ r76 = 1 := h79
    show am_E _ _ _ _ [some (.ref 39), some (.int x), some (.int o), some (.int a), some (.int b), some (.int (g 58 x.toNatClampNeg))] [.int r76] _ _
    refine am_e36 hi_276_187 h79 ?_
    exact ⟨r76, rfl, hS78, h79⟩
  by_cases c81 : o.toInt = 36
  · refine am_e19 (t := 176) hi_276_9 (am_swI (v := o) (w := 36) (by decide) (by decide) c81) ?_
    refine am_e1 (v := a) hi_276_176 rfl ?_
    refine am_e0 hi_276_177 ?_
    refine am_e2 (v := 39) hi_276_178 rfl ?_
    refine mm_20 (v := .ref 81) hS hi_276_179 rfl ?_
    refine am_e1 (v := x) hi_276_182 rfl ?_
    refine mm_25 hS ma_60 hi_276_183 (by decide) (by omega) (by omega) ?_
    show am_E _ _ _ _ [some (.ref 39), some (.int x), some (.int o), some (.int a), some (.int b), some (.int (g 58 x.toNatClampNeg))] [.int (g 60 x.toNatClampNeg), .int 0, .int a] _ _
    refine am_e32n (as := [.int a, .int 0, .int (g 60 x.toNatClampNeg)]) (la := [some (.int a), some (.int 0), some (.int (g 60 x.toNatClampNeg))]) (rest := []) hi_276_184 (am_hd0 (M := 276) (by decide) 184) (Nat.le_of_ble_eq_true rfl) (Nat.le_of_ble_eq_true rfl) (show 3 ≤ am_P0.2.2.1 277 from by decide +kernel) rfl rfl rfl rfl (ct_isIn (d := d) hS   ) ?_
    rintro v82 S83 (⟨r84, hv85, hS86, h87⟩)
    subst hv85
    have h87_ : r84 = 0 ∨ r84 = 1 := h87
    show am_E _ _ _ _ [some (.ref 39), some (.int x), some (.int o), some (.int a), some (.int b), some (.int (g 58 x.toNatClampNeg))] [.int r84] _ _
    refine am_e36 hi_276_187 h87 ?_
    exact ⟨r84, rfl, hS86, h87⟩
  by_cases c89 : o.toInt = 37
  · refine am_e19 (t := 176) hi_276_9 (am_swI (v := o) (w := 37) (by decide) (by decide) c89) ?_
    refine am_e1 (v := a) hi_276_176 rfl ?_
    refine am_e0 hi_276_177 ?_
    refine am_e2 (v := 39) hi_276_178 rfl ?_
    refine mm_20 (v := .ref 81) hS hi_276_179 rfl ?_
    refine am_e1 (v := x) hi_276_182 rfl ?_
    refine mm_25 hS ma_60 hi_276_183 (by decide) (by omega) (by omega) ?_
    show am_E _ _ _ _ [some (.ref 39), some (.int x), some (.int o), some (.int a), some (.int b), some (.int (g 58 x.toNatClampNeg))] [.int (g 60 x.toNatClampNeg), .int 0, .int a] _ _
    refine am_e32n (as := [.int a, .int 0, .int (g 60 x.toNatClampNeg)]) (la := [some (.int a), some (.int 0), some (.int (g 60 x.toNatClampNeg))]) (rest := []) hi_276_184 (am_hd0 (M := 276) (by decide) 184) (Nat.le_of_ble_eq_true rfl) (Nat.le_of_ble_eq_true rfl) (show 3 ≤ am_P0.2.2.1 277 from by decide +kernel) rfl rfl rfl rfl (ct_isIn (d := d) hS   ) ?_
    rintro v90 S91 (⟨r92, hv93, hS94, h95⟩)
    subst hv93
    have h95_ : r92 = 0 ∨ r92 = 1 := h95
    show am_E _ _ _ _ [some (.ref 39), some (.int x), some (.int o), some (.int a), some (.int b), some (.int (g 58 x.toNatClampNeg))] [.int r92] _ _
    refine am_e36 hi_276_187 h95 ?_
    exact ⟨r92, rfl, hS94, h95⟩
  by_cases c97 : o.toInt = 38
  · refine am_e19 (t := 196) hi_276_9 (am_swI (v := o) (w := 38) (by decide) (by decide) c97) ?_
    refine am_e1 (v := a) hi_276_196 rfl ?_
    refine am_e0 hi_276_197 ?_
    refine am_e1 (v := g 58 x.toNatClampNeg) hi_276_198 rfl ?_
    refine am_e32n (as := [.int a, .int 0, .int (g 58 x.toNatClampNeg)]) (la := [some (.int a), some (.int 0), some (.int (g 58 x.toNatClampNeg))]) (rest := []) hi_276_200 (am_hd0 (M := 276) (by decide) 200) (Nat.le_of_ble_eq_true rfl) (Nat.le_of_ble_eq_true rfl) (show 3 ≤ am_P0.2.2.1 277 from by decide +kernel) rfl rfl rfl rfl (ct_isIn (d := d) hS   ) ?_
    rintro v98 S99 (⟨r100, hv101, hS102, h103⟩)
    subst hv101
    have h103_ : r100 = 0 ∨ r100 = 1 := h103
    show am_E _ _ _ _ [some (.ref 39), some (.int x), some (.int o), some (.int a), some (.int b), some (.int (g 58 x.toNatClampNeg))] [.int r100] _ _
    by_cases c105 : r100.toInt = (0 : Int)
    · refine am_e12t hi_276_203 (am_cT (m := r100.toInt) (n := (0 : Int)) rfl (by decide) c105) ?_
      refine am_e0 hi_276_225 ?_
      refine am_e36 hi_276_226 (by decide) ?_
      exact ⟨0, rfl, hS102, (by decide)⟩
    · refine am_e12f hi_276_203 (am_cF (m := r100.toInt) (n := (0 : Int)) rfl (by decide) c105) ?_
      refine am_e1 (v := b) hi_276_206 rfl ?_
      refine am_e0 hi_276_208 ?_
      refine am_e2 (v := 39) hi_276_209 rfl ?_
      refine mm_20 (v := .ref 81) hS102 hi_276_210 rfl ?_
      refine am_e1 (v := x) hi_276_213 rfl ?_
      refine mm_25 hS102 ma_60 hi_276_214 (by decide) (by omega) (by omega) ?_
      show am_E _ _ _ _ [some (.ref 39), some (.int x), some (.int o), some (.int a), some (.int b), some (.int (g 58 x.toNatClampNeg))] [.int (g 60 x.toNatClampNeg), .int 0, .int b] _ _
      refine am_e32n (as := [.int b, .int 0, .int (g 60 x.toNatClampNeg)]) (la := [some (.int b), some (.int 0), some (.int (g 60 x.toNatClampNeg))]) (rest := []) hi_276_215 (am_hd0 (M := 276) (by decide) 215) (Nat.le_of_ble_eq_true rfl) (Nat.le_of_ble_eq_true rfl) (show 3 ≤ am_P0.2.2.1 277 from by decide +kernel) rfl rfl rfl rfl (ct_isIn (d := d) hS102   ) ?_
      rintro v106 S107 (⟨r108, hv109, hS110, h111⟩)
      subst hv109
      have h111_ : r108 = 0 ∨ r108 = 1 := h111
      show am_E _ _ _ _ [some (.ref 39), some (.int x), some (.int o), some (.int a), some (.int b), some (.int (g 58 x.toNatClampNeg))] [.int r108] _ _
      by_cases c113 : r108.toInt = (0 : Int)
      · refine am_e12t hi_276_218 (am_cT (m := r108.toInt) (n := (0 : Int)) rfl (by decide) c113) ?_
        refine am_e0 hi_276_225 ?_
        refine am_e36 hi_276_226 (by decide) ?_
        exact ⟨0, rfl, hS110, (by decide)⟩
      · refine am_e12f hi_276_218 (am_cF (m := r108.toInt) (n := (0 : Int)) rfl (by decide) c113) ?_
        refine am_e0 hi_276_221 ?_
        refine am_e18 hi_276_222 ?_
        refine am_e36 hi_276_226 (by decide) ?_
        exact ⟨1, rfl, hS110, (by decide)⟩
  by_cases c114 : o.toInt = 39
  · refine am_e19 (t := 227) hi_276_9 (am_swI (v := o) (w := 39) (by decide) (by decide) c114) ?_
    refine am_e1 (v := a) hi_276_227 rfl ?_
    refine am_e0 hi_276_228 ?_
    refine am_e1 (v := g 58 x.toNatClampNeg) hi_276_229 rfl ?_
    refine am_e0 hi_276_231 ?_
    obtain ⟨z115, hz115⟩ : ∃ q__, am_bin 1 (g 58 x.toNatClampNeg) 3 = q__ := ⟨_, rfl⟩
    refine am_e10 (z := z115) hi_276_232 hz115 ?_
    refine am_e32n (as := [.int a, .int 0, .int z115]) (la := [some (.int a), some (.int 0), some (.int z115)]) (rest := []) hi_276_233 (am_hd0 (M := 276) (by decide) 233) (Nat.le_of_ble_eq_true rfl) (Nat.le_of_ble_eq_true rfl) (show 3 ≤ am_P0.2.2.1 277 from by decide +kernel) rfl rfl rfl rfl (ct_isIn (d := d) hS   ) ?_
    rintro v116 S117 (⟨r118, hv119, hS120, h121⟩)
    subst hv119
    have h121_ : r118 = 0 ∨ r118 = 1 := h121
    show am_E _ _ _ _ [some (.ref 39), some (.int x), some (.int o), some (.int a), some (.int b), some (.int (g 58 x.toNatClampNeg))] [.int r118] _ _
    refine am_e36 hi_276_236 h121 ?_
    exact ⟨r118, rfl, hS120, h121⟩
  by_cases c123 : o.toInt = 40
  · refine am_e19 (t := 196) hi_276_9 (am_swI (v := o) (w := 40) (by decide) (by decide) c123) ?_
    refine am_e1 (v := a) hi_276_196 rfl ?_
    refine am_e0 hi_276_197 ?_
    refine am_e1 (v := g 58 x.toNatClampNeg) hi_276_198 rfl ?_
    refine am_e32n (as := [.int a, .int 0, .int (g 58 x.toNatClampNeg)]) (la := [some (.int a), some (.int 0), some (.int (g 58 x.toNatClampNeg))]) (rest := []) hi_276_200 (am_hd0 (M := 276) (by decide) 200) (Nat.le_of_ble_eq_true rfl) (Nat.le_of_ble_eq_true rfl) (show 3 ≤ am_P0.2.2.1 277 from by decide +kernel) rfl rfl rfl rfl (ct_isIn (d := d) hS   ) ?_
    rintro v124 S125 (⟨r126, hv127, hS128, h129⟩)
    subst hv127
    have h129_ : r126 = 0 ∨ r126 = 1 := h129
    show am_E _ _ _ _ [some (.ref 39), some (.int x), some (.int o), some (.int a), some (.int b), some (.int (g 58 x.toNatClampNeg))] [.int r126] _ _
    by_cases c131 : r126.toInt = (0 : Int)
    · refine am_e12t hi_276_203 (am_cT (m := r126.toInt) (n := (0 : Int)) rfl (by decide) c131) ?_
      refine am_e0 hi_276_225 ?_
      refine am_e36 hi_276_226 (by decide) ?_
      exact ⟨0, rfl, hS128, (by decide)⟩
    · refine am_e12f hi_276_203 (am_cF (m := r126.toInt) (n := (0 : Int)) rfl (by decide) c131) ?_
      refine am_e1 (v := b) hi_276_206 rfl ?_
      refine am_e0 hi_276_208 ?_
      refine am_e2 (v := 39) hi_276_209 rfl ?_
      refine mm_20 (v := .ref 81) hS128 hi_276_210 rfl ?_
      refine am_e1 (v := x) hi_276_213 rfl ?_
      refine mm_25 hS128 ma_60 hi_276_214 (by decide) (by omega) (by omega) ?_
      show am_E _ _ _ _ [some (.ref 39), some (.int x), some (.int o), some (.int a), some (.int b), some (.int (g 58 x.toNatClampNeg))] [.int (g 60 x.toNatClampNeg), .int 0, .int b] _ _
      refine am_e32n (as := [.int b, .int 0, .int (g 60 x.toNatClampNeg)]) (la := [some (.int b), some (.int 0), some (.int (g 60 x.toNatClampNeg))]) (rest := []) hi_276_215 (am_hd0 (M := 276) (by decide) 215) (Nat.le_of_ble_eq_true rfl) (Nat.le_of_ble_eq_true rfl) (show 3 ≤ am_P0.2.2.1 277 from by decide +kernel) rfl rfl rfl rfl (ct_isIn (d := d) hS128   ) ?_
      rintro v132 S133 (⟨r134, hv135, hS136, h137⟩)
      subst hv135
      have h137_ : r134 = 0 ∨ r134 = 1 := h137
      show am_E _ _ _ _ [some (.ref 39), some (.int x), some (.int o), some (.int a), some (.int b), some (.int (g 58 x.toNatClampNeg))] [.int r134] _ _
      by_cases c139 : r134.toInt = (0 : Int)
      · refine am_e12t hi_276_218 (am_cT (m := r134.toInt) (n := (0 : Int)) rfl (by decide) c139) ?_
        refine am_e0 hi_276_225 ?_
        refine am_e36 hi_276_226 (by decide) ?_
        exact ⟨0, rfl, hS136, (by decide)⟩
      · refine am_e12f hi_276_218 (am_cF (m := r134.toInt) (n := (0 : Int)) rfl (by decide) c139) ?_
        refine am_e0 hi_276_221 ?_
        refine am_e18 hi_276_222 ?_
        refine am_e36 hi_276_226 (by decide) ?_
        exact ⟨1, rfl, hS136, (by decide)⟩
  by_cases c140 : o.toInt = 41
  · refine am_e19 (t := 188) hi_276_9 (am_swI (v := o) (w := 41) (by decide) (by decide) c140) ?_
    refine am_e1 (v := a) hi_276_188 rfl ?_
    refine am_e0 hi_276_189 ?_
    refine am_e1 (v := g 58 x.toNatClampNeg) hi_276_190 rfl ?_
    refine am_e32n (as := [.int a, .int 0, .int (g 58 x.toNatClampNeg)]) (la := [some (.int a), some (.int 0), some (.int (g 58 x.toNatClampNeg))]) (rest := []) hi_276_192 (am_hd0 (M := 276) (by decide) 192) (Nat.le_of_ble_eq_true rfl) (Nat.le_of_ble_eq_true rfl) (show 3 ≤ am_P0.2.2.1 277 from by decide +kernel) rfl rfl rfl rfl (ct_isIn (d := d) hS   ) ?_
    rintro v141 S142 (⟨r143, hv144, hS145, h146⟩)
    subst hv144
    have h146_ : r143 = 0 ∨ r143 = 1 := h146
    show am_E _ _ _ _ [some (.ref 39), some (.int x), some (.int o), some (.int a), some (.int b), some (.int (g 58 x.toNatClampNeg))] [.int r143] _ _
    refine am_e36 hi_276_195 h146 ?_
    exact ⟨r143, rfl, hS145, h146⟩
  by_cases c148 : o.toInt = 42
  · refine am_e19 (t := 237) hi_276_9 (am_swI (v := o) (w := 42) (by decide) (by decide) c148) ?_
    refine am_e1 (v := a) hi_276_237 rfl ?_
    refine am_e0 hi_276_238 ?_
    refine am_e1 (v := g 58 x.toNatClampNeg) hi_276_239 rfl ?_
    refine am_e0 hi_276_241 ?_
    obtain ⟨z149, hz149⟩ : ∃ q__, am_bin 1 (g 58 x.toNatClampNeg) 3 = q__ := ⟨_, rfl⟩
    refine am_e10 (z := z149) hi_276_242 hz149 ?_
    refine am_e32n (as := [.int a, .int 0, .int z149]) (la := [some (.int a), some (.int 0), some (.int z149)]) (rest := []) hi_276_243 (am_hd0 (M := 276) (by decide) 243) (Nat.le_of_ble_eq_true rfl) (Nat.le_of_ble_eq_true rfl) (show 3 ≤ am_P0.2.2.1 277 from by decide +kernel) rfl rfl rfl rfl (ct_isIn (d := d) hS   ) ?_
    rintro v150 S151 (⟨r152, hv153, hS154, h155⟩)
    subst hv153
    have h155_ : r152 = 0 ∨ r152 = 1 := h155
    show am_E _ _ _ _ [some (.ref 39), some (.int x), some (.int o), some (.int a), some (.int b), some (.int (g 58 x.toNatClampNeg))] [.int r152] _ _
    refine am_e36 hi_276_246 h155 ?_
    exact ⟨r152, rfl, hS154, h155⟩
  by_cases c157 : o.toInt = 43
  · refine am_e19 (t := 247) hi_276_9 (am_swI (v := o) (w := 43) (by decide) (by decide) c157) ?_
    refine am_e1 (v := a) hi_276_247 rfl ?_
    refine am_e0 hi_276_248 ?_
    refine am_e1 (v := g 58 x.toNatClampNeg) hi_276_249 rfl ?_
    refine am_e0 hi_276_251 ?_
    obtain ⟨z158, hz158⟩ : ∃ q__, am_bin 1 (g 58 x.toNatClampNeg) 3 = q__ := ⟨_, rfl⟩
    refine am_e10 (z := z158) hi_276_252 hz158 ?_
    refine am_e1 (v := b) hi_276_253 rfl ?_
    obtain ⟨z159, hz159⟩ : ∃ q__, am_bin 1 z158 b = q__ := ⟨_, rfl⟩
    refine am_e10 (z := z159) hi_276_255 hz159 ?_
    refine am_e32n (as := [.int a, .int 0, .int z159]) (la := [some (.int a), some (.int 0), some (.int z159)]) (rest := []) hi_276_256 (am_hd0 (M := 276) (by decide) 256) (Nat.le_of_ble_eq_true rfl) (Nat.le_of_ble_eq_true rfl) (show 3 ≤ am_P0.2.2.1 277 from by decide +kernel) rfl rfl rfl rfl (ct_isIn (d := d) hS   ) ?_
    rintro v160 S161 (⟨r162, hv163, hS164, h165⟩)
    subst hv163
    have h165_ : r162 = 0 ∨ r162 = 1 := h165
    show am_E _ _ _ _ [some (.ref 39), some (.int x), some (.int o), some (.int a), some (.int b), some (.int (g 58 x.toNatClampNeg))] [.int r162] _ _
    refine am_e36 hi_276_259 h165 ?_
    exact ⟨r162, rfl, hS164, h165⟩
  by_cases c167 : o.toInt = 44
  · refine am_e19 (t := 260) hi_276_9 (am_swI (v := o) (w := 44) (by decide) (by decide) c167) ?_
    refine am_e1 (v := a) hi_276_260 rfl ?_
    refine am_e0 hi_276_261 ?_
    refine am_e1 (v := g 58 x.toNatClampNeg) hi_276_262 rfl ?_
    refine am_e0 hi_276_264 ?_
    obtain ⟨z168, hz168⟩ : ∃ q__, am_bin 1 (g 58 x.toNatClampNeg) 4 = q__ := ⟨_, rfl⟩
    refine am_e10 (z := z168) hi_276_265 hz168 ?_
    refine am_e32n (as := [.int a, .int 0, .int z168]) (la := [some (.int a), some (.int 0), some (.int z168)]) (rest := []) hi_276_266 (am_hd0 (M := 276) (by decide) 266) (Nat.le_of_ble_eq_true rfl) (Nat.le_of_ble_eq_true rfl) (show 3 ≤ am_P0.2.2.1 277 from by decide +kernel) rfl rfl rfl rfl (ct_isIn (d := d) hS   ) ?_
    rintro v169 S170 (⟨r171, hv172, hS173, h174⟩)
    subst hv172
    have h174_ : r171 = 0 ∨ r171 = 1 := h174
    show am_E _ _ _ _ [some (.ref 39), some (.int x), some (.int o), some (.int a), some (.int b), some (.int (g 58 x.toNatClampNeg))] [.int r171] _ _
    by_cases c176 : r171.toInt = (0 : Int)
    · refine am_e12t hi_276_269 (am_cT (m := r171.toInt) (n := (0 : Int)) rfl (by decide) c176) ?_
      refine am_e0 hi_276_291 ?_
      refine am_e36 hi_276_292 (by decide) ?_
      exact ⟨0, rfl, hS173, (by decide)⟩
    · refine am_e12f hi_276_269 (am_cF (m := r171.toInt) (n := (0 : Int)) rfl (by decide) c176) ?_
      refine am_e1 (v := b) hi_276_272 rfl ?_
      refine am_e0 hi_276_274 ?_
      refine am_e2 (v := 39) hi_276_275 rfl ?_
      refine mm_20 (v := .ref 81) hS173 hi_276_276 rfl ?_
      refine am_e1 (v := x) hi_276_279 rfl ?_
      refine mm_25 hS173 ma_60 hi_276_280 (by decide) (by omega) (by omega) ?_
      show am_E _ _ _ _ [some (.ref 39), some (.int x), some (.int o), some (.int a), some (.int b), some (.int (g 58 x.toNatClampNeg))] [.int (g 60 x.toNatClampNeg), .int 0, .int b] _ _
      refine am_e32n (as := [.int b, .int 0, .int (g 60 x.toNatClampNeg)]) (la := [some (.int b), some (.int 0), some (.int (g 60 x.toNatClampNeg))]) (rest := []) hi_276_281 (am_hd0 (M := 276) (by decide) 281) (Nat.le_of_ble_eq_true rfl) (Nat.le_of_ble_eq_true rfl) (show 3 ≤ am_P0.2.2.1 277 from by decide +kernel) rfl rfl rfl rfl (ct_isIn (d := d) hS173   ) ?_
      rintro v177 S178 (⟨r179, hv180, hS181, h182⟩)
      subst hv180
      have h182_ : r179 = 0 ∨ r179 = 1 := h182
      show am_E _ _ _ _ [some (.ref 39), some (.int x), some (.int o), some (.int a), some (.int b), some (.int (g 58 x.toNatClampNeg))] [.int r179] _ _
      by_cases c184 : r179.toInt = (0 : Int)
      · refine am_e12t hi_276_284 (am_cT (m := r179.toInt) (n := (0 : Int)) rfl (by decide) c184) ?_
        refine am_e0 hi_276_291 ?_
        refine am_e36 hi_276_292 (by decide) ?_
        exact ⟨0, rfl, hS181, (by decide)⟩
      · refine am_e12f hi_276_284 (am_cF (m := r179.toInt) (n := (0 : Int)) rfl (by decide) c184) ?_
        refine am_e0 hi_276_287 ?_
        refine am_e18 hi_276_288 ?_
        refine am_e36 hi_276_292 (by decide) ?_
        exact ⟨1, rfl, hS181, (by decide)⟩
  refine am_e19 (t := 358) hi_276_9 (am_swD (v := o) (ks := [7, 8, 9, 15, 16, 27, 28, 29, 30, 33, 35, 36, 37, 38, 39, 40, 41, 42, 43, 44]) (by decide) (by intro k hk; simp only [List.mem_cons, List.not_mem_nil, or_false] at hk; rcases hk with rfl | rfl | rfl | rfl | rfl | rfl | rfl | rfl | rfl | rfl | rfl | rfl | rfl | rfl | rfl | rfl | rfl | rfl | rfl | rfl <;> omega)) ?_
  refine am_e0 hi_276_358 ?_
  refine am_e36 hi_276_359 (by decide) ?_
  exact ⟨1, rfl, hS, (by decide)⟩
theorem ct_place {sc : Nat × (Nat → Int32)} {d : Nat} {S0 S : am_S} {f : Nat → Int32} {g : Nat → Nat → Int32} (hS : MS S0 S f g) (hI : RI f g) (p0 : (0 : Int) ≤ (f 53).toInt) (p1 : (f 53).toInt ≤ (600 : Int)) : am_E (am_PP sc) (d + 0) 267 0 [some (.ref 39)] [] S (am_N fun v S1 => (∃ r : Int32, v = some (.int r) ∧ MS S0 S1 f g)) := by
  refine am_e2 (v := 39) hi_267_0 rfl ?_
  refine mm_20 (v := .int (f 3)) hS hi_267_1 rfl ?_
  refine am_e33 hi_267_4 ?_
  exact ⟨f 3, rfl, hS⟩
theorem ct_functions {sc : Nat × (Nat → Int32)} {d : Nat} {S0 S : am_S} {f : Nat → Int32} {g : Nat → Nat → Int32} (hS : MS S0 S f g) (hI : RI f g) (p0 : (0 : Int) ≤ (f 53).toInt) (p1 : (f 53).toInt ≤ (600 : Int)) : am_E (am_PP sc) (d + 0) 268 0 [some (.ref 39)] [] S (am_N fun v S1 => (∃ r : Int32, v = some (.int r) ∧ MS S0 S1 f g)) := by
  refine am_e2 (v := 39) hi_268_0 rfl ?_
  refine mm_20 (v := .int (f 53)) hS hi_268_1 rfl ?_
  refine am_e33 hi_268_4 ?_
  exact ⟨f 53, rfl, hS⟩
theorem ct_function {sc : Nat × (Nat → Int32)} {d : Nat} {S0 S : am_S} {f : Nat → Int32} {g : Nat → Nat → Int32} {x : Int32} {y : Int32} (hS : MS S0 S f g) (hI : RI f g) (p0 : (0 : Int) ≤ (f 53).toInt) (p1 : (f 53).toInt ≤ (600 : Int)) : am_E (am_PP sc) (d + 1) 269 0 [some (.ref 39), some (.int x), some (.int y)] [] S (am_N fun v S1 => (∃ r : Int32, v = some (.int r) ∧ MS S0 S1 f g)) := by
  refine am_e2 (v := 39) hi_269_0 rfl ?_
  refine am_e1 (v := x) hi_269_1 rfl ?_
  refine am_e32w (as := [.ref 39, .int x]) (la := [some (.ref 39), some (.int x)]) (rest := []) hi_269_2 (am_hd0 (M := 269) (by decide) 2) (Nat.le_of_ble_eq_true rfl) (Nat.le_of_ble_eq_true rfl) (show 2 ≤ am_P0.2.2.1 270 from by decide +kernel) rfl (am_recv_ok hS.fs) rfl rfl ?_
  refine am_e1 (v := x) hi_270_0 rfl ?_
  by_cases c0 : x.toInt < (0 : Int)
  · refine am_e12t hi_270_1 (am_cT (m := x.toInt) (n := (0 : Int)) rfl (by decide) c0) ?_
    refine am_e0 hi_270_16 ?_
    refine am_e36 hi_270_17 (by decide) ?_
    show am_E _ _ _ _ [some (.ref 39), some (.int x), some (.int y)] [.int 0] _ _
    refine am_e12f hi_269_5 (by decide) ?_
    refine am_e0 hi_269_8 ?_
    refine am_e33 hi_269_9 ?_
    exact ⟨(-1), rfl, hS⟩
  · refine am_e12f hi_270_1 (am_cF (m := x.toInt) (n := (0 : Int)) rfl (by decide) c0) ?_
    refine am_e1 (v := x) hi_270_4 rfl ?_
    refine am_e2 (v := 39) hi_270_5 rfl ?_
    refine mm_20 (v := .int (f 53)) hS hi_270_6 rfl ?_
    by_cases c1 : (f 53).toInt ≤ x.toInt
    · refine am_e13t hi_270_9 (am_cT (m := x.toInt) (n := (f 53).toInt) rfl rfl c1) ?_
      refine am_e0 hi_270_16 ?_
      refine am_e36 hi_270_17 (by decide) ?_
      show am_E _ _ _ _ [some (.ref 39), some (.int x), some (.int y)] [.int 0] _ _
      refine am_e12f hi_269_5 (by decide) ?_
      refine am_e0 hi_269_8 ?_
      refine am_e33 hi_269_9 ?_
      exact ⟨(-1), rfl, hS⟩
    · refine am_e13f hi_270_9 (am_cF (m := x.toInt) (n := (f 53).toInt) rfl rfl c1) ?_
      refine am_e0 hi_270_12 ?_
      refine am_e18 hi_270_13 ?_
      refine am_e36 hi_270_17 (by decide) ?_
      show am_E _ _ _ _ [some (.ref 39), some (.int x), some (.int y)] [.int 1] _ _
      refine am_e12t hi_269_5 (by decide) ?_
      refine am_e1 (v := y) hi_269_10 rfl ?_
      by_cases c2 : y.toInt = 0
      · refine am_e19 (t := 56) hi_269_11 (am_swI (v := y) (w := 0) (by decide) (by decide) c2) ?_
        refine am_e2 (v := 39) hi_269_56 rfl ?_
        refine mm_20 (v := .ref 75) hS hi_269_57 rfl ?_
        refine am_e1 (v := x) hi_269_60 rfl ?_
        refine mm_25 hS ma_54 hi_269_61 (by decide) (by omega) (by omega) ?_
        show am_E _ _ _ _ [some (.ref 39), some (.int x), some (.int y)] [.int (g 54 x.toNatClampNeg)] _ _
        refine am_e33 hi_269_62 ?_
        exact ⟨g 54 x.toNatClampNeg, rfl, hS⟩
      by_cases c3 : y.toInt = 1
      · refine am_e19 (t := 63) hi_269_11 (am_swI (v := y) (w := 1) (by decide) (by decide) c3) ?_
        refine am_e2 (v := 39) hi_269_63 rfl ?_
        refine mm_20 (v := .ref 76) hS hi_269_64 rfl ?_
        refine am_e1 (v := x) hi_269_67 rfl ?_
        refine mm_25 hS ma_55 hi_269_68 (by decide) (by omega) (by omega) ?_
        show am_E _ _ _ _ [some (.ref 39), some (.int x), some (.int y)] [.int (g 55 x.toNatClampNeg)] _ _
        refine am_e33 hi_269_69 ?_
        exact ⟨g 55 x.toNatClampNeg, rfl, hS⟩
      by_cases c4 : y.toInt = 2
      · refine am_e19 (t := 70) hi_269_11 (am_swI (v := y) (w := 2) (by decide) (by decide) c4) ?_
        refine am_e2 (v := 39) hi_269_70 rfl ?_
        refine mm_20 (v := .ref 77) hS hi_269_71 rfl ?_
        refine am_e1 (v := x) hi_269_74 rfl ?_
        refine mm_25 hS ma_56 hi_269_75 (by decide) (by omega) (by omega) ?_
        show am_E _ _ _ _ [some (.ref 39), some (.int x), some (.int y)] [.int (g 56 x.toNatClampNeg)] _ _
        refine am_e33 hi_269_76 ?_
        exact ⟨g 56 x.toNatClampNeg, rfl, hS⟩
      by_cases c5 : y.toInt = 3
      · refine am_e19 (t := 77) hi_269_11 (am_swI (v := y) (w := 3) (by decide) (by decide) c5) ?_
        refine am_e2 (v := 39) hi_269_77 rfl ?_
        refine mm_20 (v := .ref 78) hS hi_269_78 rfl ?_
        refine am_e1 (v := x) hi_269_81 rfl ?_
        refine mm_25 hS ma_57 hi_269_82 (by decide) (by omega) (by omega) ?_
        show am_E _ _ _ _ [some (.ref 39), some (.int x), some (.int y)] [.int (g 57 x.toNatClampNeg)] _ _
        refine am_e33 hi_269_83 ?_
        exact ⟨g 57 x.toNatClampNeg, rfl, hS⟩
      by_cases c6 : y.toInt = 4
      · refine am_e19 (t := 84) hi_269_11 (am_swI (v := y) (w := 4) (by decide) (by decide) c6) ?_
        refine am_e2 (v := 39) hi_269_84 rfl ?_
        refine mm_20 (v := .ref 79) hS hi_269_85 rfl ?_
        refine am_e1 (v := x) hi_269_88 rfl ?_
        refine mm_25 hS ma_58 hi_269_89 (by decide) (by omega) (by omega) ?_
        show am_E _ _ _ _ [some (.ref 39), some (.int x), some (.int y)] [.int (g 58 x.toNatClampNeg)] _ _
        refine am_e33 hi_269_90 ?_
        exact ⟨g 58 x.toNatClampNeg, rfl, hS⟩
      by_cases c7 : y.toInt = 5
      · refine am_e19 (t := 91) hi_269_11 (am_swI (v := y) (w := 5) (by decide) (by decide) c7) ?_
        refine am_e2 (v := 39) hi_269_91 rfl ?_
        refine mm_20 (v := .ref 87) hS hi_269_92 rfl ?_
        refine am_e1 (v := x) hi_269_95 rfl ?_
        refine mm_25 hS ma_67 hi_269_96 (by decide) (by omega) (by omega) ?_
        show am_E _ _ _ _ [some (.ref 39), some (.int x), some (.int y)] [.int (g 67 x.toNatClampNeg)] _ _
        have r8 : (g 67 x.toNatClampNeg).toInt = mj_n (g 63) (f 62).toNatClampNeg x.toInt := RI.oc (i := x) hI (by omega) (by omega)
        have r82 : 0 ≤ (g 67 x.toNatClampNeg).toInt ∧ (g 67 x.toNatClampNeg).toInt ≤ 65000 := by
          have h3 := mj_n_le (a := g 63) (f 62).toNatClampNeg x.toInt
          have h4 := hI.2.2.2.2.1
          have h5 : (((f 62).toNatClampNeg : Nat) : Int) = (f 62).toInt := by rw [cl_toNat]; omega
          omega
        refine am_e33 hi_269_97 ?_
        exact ⟨g 67 x.toNatClampNeg, rfl, hS⟩
      by_cases c9 : y.toInt = 6
      · refine am_e19 (t := 98) hi_269_11 (am_swI (v := y) (w := 6) (by decide) (by decide) c9) ?_
        refine am_e2 (v := 39) hi_269_98 rfl ?_
        refine mm_20 (v := .ref 81) hS hi_269_99 rfl ?_
        refine am_e1 (v := x) hi_269_102 rfl ?_
        refine mm_25 hS ma_60 hi_269_103 (by decide) (by omega) (by omega) ?_
        show am_E _ _ _ _ [some (.ref 39), some (.int x), some (.int y)] [.int (g 60 x.toNatClampNeg)] _ _
        have r10 : 0 ≤ (g 61 x.toNatClampNeg).toInt ∧ 0 ≤ (g 60 x.toNatClampNeg).toInt ∧ (g 61 x.toNatClampNeg).toInt + (g 60 x.toNatClampNeg).toInt ≤ 65000 := RI.cb (i := x) hI (by omega) (by omega)
        refine am_e33 hi_269_104 ?_
        exact ⟨g 60 x.toNatClampNeg, rfl, hS⟩
      by_cases c11 : y.toInt = 7
      · refine am_e19 (t := 105) hi_269_11 (am_swI (v := y) (w := 7) (by decide) (by decide) c11) ?_
        refine am_e2 (v := 39) hi_269_105 rfl ?_
        refine mm_20 (v := .ref 80) hS hi_269_106 rfl ?_
        refine am_e1 (v := x) hi_269_109 rfl ?_
        refine mm_25 hS ma_59 hi_269_110 (by decide) (by omega) (by omega) ?_
        show am_E _ _ _ _ [some (.ref 39), some (.int x), some (.int y)] [.int (g 59 x.toNatClampNeg)] _ _
        refine am_e33 hi_269_111 ?_
        exact ⟨g 59 x.toNatClampNeg, rfl, hS⟩
      refine am_e19 (t := 112) hi_269_11 (am_swK (v := y) (ks := [0, 1, 2, 3, 4, 5, 6, 7]) (by decide) (by intro k hk; simp only [List.mem_cons, List.not_mem_nil, or_false] at hk; rcases hk with rfl | rfl | rfl | rfl | rfl | rfl | rfl | rfl <;> omega)) ?_
      refine am_e0 hi_269_112 ?_
      refine am_e33 hi_269_113 ?_
      exact ⟨(-1), rfl, hS⟩
theorem ct_code {sc : Nat × (Nat → Int32)} {d : Nat} {S0 S : am_S} {f : Nat → Int32} {g : Nat → Nat → Int32} {x : Int32} {y : Int32} {w : Int32} (hS : MS S0 S f g) (hI : RI f g) (p0 : (0 : Int) ≤ (f 53).toInt) (p1 : (f 53).toInt ≤ (600 : Int)) : am_E (am_PP sc) (d + 1) 272 0 [some (.ref 39), some (.int x), some (.int y), some (.int w), none] [] S (am_N fun v S1 => (∃ r : Int32, v = some (.int r) ∧ MS S0 S1 f g)) := by
  refine am_e2 (v := 39) hi_272_0 rfl ?_
  refine am_e1 (v := x) hi_272_1 rfl ?_
  refine am_e32w (as := [.ref 39, .int x]) (la := [some (.ref 39), some (.int x)]) (rest := []) hi_272_2 (am_hd0 (M := 272) (by decide) 2) (Nat.le_of_ble_eq_true rfl) (Nat.le_of_ble_eq_true rfl) (show 2 ≤ am_P0.2.2.1 270 from by decide +kernel) rfl (am_recv_ok hS.fs) rfl rfl ?_
  refine am_e1 (v := x) hi_270_0 rfl ?_
  by_cases c0 : x.toInt < (0 : Int)
  · refine am_e12t hi_270_1 (am_cT (m := x.toInt) (n := (0 : Int)) rfl (by decide) c0) ?_
    refine am_e0 hi_270_16 ?_
    refine am_e36 hi_270_17 (by decide) ?_
    show am_E _ _ _ _ [some (.ref 39), some (.int x), some (.int y), some (.int w), none] [.int 0] _ _
    refine am_e12t hi_272_5 (by decide) ?_
    refine am_e0 hi_272_22 ?_
    refine am_e33 hi_272_23 ?_
    exact ⟨(-1), rfl, hS⟩
  · refine am_e12f hi_270_1 (am_cF (m := x.toInt) (n := (0 : Int)) rfl (by decide) c0) ?_
    refine am_e1 (v := x) hi_270_4 rfl ?_
    refine am_e2 (v := 39) hi_270_5 rfl ?_
    refine mm_20 (v := .int (f 53)) hS hi_270_6 rfl ?_
    by_cases c1 : (f 53).toInt ≤ x.toInt
    · refine am_e13t hi_270_9 (am_cT (m := x.toInt) (n := (f 53).toInt) rfl rfl c1) ?_
      refine am_e0 hi_270_16 ?_
      refine am_e36 hi_270_17 (by decide) ?_
      show am_E _ _ _ _ [some (.ref 39), some (.int x), some (.int y), some (.int w), none] [.int 0] _ _
      refine am_e12t hi_272_5 (by decide) ?_
      refine am_e0 hi_272_22 ?_
      refine am_e33 hi_272_23 ?_
      exact ⟨(-1), rfl, hS⟩
    · refine am_e13f hi_270_9 (am_cF (m := x.toInt) (n := (f 53).toInt) rfl rfl c1) ?_
      refine am_e0 hi_270_12 ?_
      refine am_e18 hi_270_13 ?_
      refine am_e36 hi_270_17 (by decide) ?_
      show am_E _ _ _ _ [some (.ref 39), some (.int x), some (.int y), some (.int w), none] [.int 1] _ _
      refine am_e12f hi_272_5 (by decide) ?_
      refine am_e1 (v := y) hi_272_8 rfl ?_
      by_cases c2 : y.toInt < (0 : Int)
      · refine am_e12t hi_272_9 (am_cT (m := y.toInt) (n := (0 : Int)) rfl (by decide) c2) ?_
        refine am_e0 hi_272_22 ?_
        refine am_e33 hi_272_23 ?_
        exact ⟨(-1), rfl, hS⟩
      · refine am_e12f hi_272_9 (am_cF (m := y.toInt) (n := (0 : Int)) rfl (by decide) c2) ?_
        refine am_e1 (v := y) hi_272_12 rfl ?_
        refine am_e2 (v := 39) hi_272_13 rfl ?_
        refine mm_20 (v := .ref 81) hS hi_272_14 rfl ?_
        refine am_e1 (v := x) hi_272_17 rfl ?_
        refine mm_25 hS ma_60 hi_272_18 (by decide) (by omega) (by omega) ?_
        show am_E _ _ _ _ [some (.ref 39), some (.int x), some (.int y), some (.int w), none] [.int (g 60 x.toNatClampNeg), .int y] _ _
        have r3 : 0 ≤ (g 61 x.toNatClampNeg).toInt ∧ 0 ≤ (g 60 x.toNatClampNeg).toInt ∧ (g 61 x.toNatClampNeg).toInt + (g 60 x.toNatClampNeg).toInt ≤ 65000 := RI.cb (i := x) hI (by omega) (by omega)
        by_cases c4 : y.toInt < (g 60 x.toNatClampNeg).toInt
        · refine am_e13t hi_272_19 (am_cT (m := y.toInt) (n := (g 60 x.toNatClampNeg).toInt) rfl rfl c4) ?_
          refine am_e2 (v := 39) hi_272_24 rfl ?_
          refine mm_20 (v := .ref 93) hS hi_272_25 rfl ?_
          refine am_e2 (v := 39) hi_272_28 rfl ?_
          refine mm_20 (v := .ref 82) hS hi_272_29 rfl ?_
          refine am_e1 (v := x) hi_272_32 rfl ?_
          refine mm_25 hS ma_61 hi_272_33 (by decide) (by omega) (by omega) ?_
          show am_E _ _ _ _ [some (.ref 39), some (.int x), some (.int y), some (.int w), none] [.int (g 61 x.toNatClampNeg), .ref 93] _ _
          have r5 : 0 ≤ (g 61 x.toNatClampNeg).toInt ∧ 0 ≤ (g 60 x.toNatClampNeg).toInt ∧ (g 61 x.toNatClampNeg).toInt + (g 60 x.toNatClampNeg).toInt ≤ 65000 := RI.cb (i := x) hI (by omega) (by omega)
          refine am_e1 (v := y) hi_272_34 rfl ?_
          obtain ⟨z6, hz6, tz6⟩ := am_addI (x := g 61 x.toNatClampNeg) (y := y) (m := (g 61 x.toNatClampNeg).toInt) (n := y.toInt) rfl rfl (by omega) (by omega)
          refine am_e10 (z := z6) hi_272_35 hz6 ?_
          refine mm_25 hS ma_74 hi_272_36 (by decide) (by omega) (by omega) ?_
          show am_E _ _ _ _ [some (.ref 39), some (.int x), some (.int y), some (.int w), none] [.int (g 74 z6.toNatClampNeg)] _ _
          have r7 : 0 ≤ (g 74 z6.toNatClampNeg).toInt ∧ (g 74 z6.toNatClampNeg).toInt < 65536 := RI.od (x := x) (v := y) (z := z6) hI (by omega) (by omega) (by omega) (by omega) (by omega)
          refine am_e3 (ls' := [some (.ref 39), some (.int x), some (.int y), some (.int w), some (.int (g 74 z6.toNatClampNeg))]) hi_272_37 (Nat.le_of_ble_eq_true rfl) rfl ?_
          refine am_e1 (v := w) hi_272_39 rfl ?_
          by_cases c8 : w.toInt = 0
          · refine am_e19 (t := 72) hi_272_40 (am_swI (v := w) (w := 0) (by decide) (by decide) c8) ?_
            refine am_e2 (v := 39) hi_272_72 rfl ?_
            refine mm_20 (v := .ref 89) hS hi_272_73 rfl ?_
            refine am_e1 (v := g 74 z6.toNatClampNeg) hi_272_76 rfl ?_
            refine mm_25 hS ma_70 hi_272_78 (by decide) (by omega) (by omega) ?_
            show am_E _ _ _ _ [some (.ref 39), some (.int x), some (.int y), some (.int w), some (.int (g 74 z6.toNatClampNeg))] [.int (g 70 (g 74 z6.toNatClampNeg).toNatClampNeg)] _ _
            refine am_e33 hi_272_79 ?_
            exact ⟨g 70 (g 74 z6.toNatClampNeg).toNatClampNeg, rfl, hS⟩
          by_cases c9 : w.toInt = 1
          · refine am_e19 (t := 80) hi_272_40 (am_swI (v := w) (w := 1) (by decide) (by decide) c9) ?_
            refine am_e2 (v := 39) hi_272_80 rfl ?_
            refine mm_20 (v := .ref 90) hS hi_272_81 rfl ?_
            refine am_e1 (v := g 74 z6.toNatClampNeg) hi_272_84 rfl ?_
            refine mm_25 hS ma_71 hi_272_86 (by decide) (by omega) (by omega) ?_
            show am_E _ _ _ _ [some (.ref 39), some (.int x), some (.int y), some (.int w), some (.int (g 74 z6.toNatClampNeg))] [.int (g 71 (g 74 z6.toNatClampNeg).toNatClampNeg)] _ _
            refine am_e33 hi_272_87 ?_
            exact ⟨g 71 (g 74 z6.toNatClampNeg).toNatClampNeg, rfl, hS⟩
          by_cases c10 : w.toInt = 2
          · refine am_e19 (t := 88) hi_272_40 (am_swI (v := w) (w := 2) (by decide) (by decide) c10) ?_
            refine am_e2 (v := 39) hi_272_88 rfl ?_
            refine mm_20 (v := .ref 91) hS hi_272_89 rfl ?_
            refine am_e1 (v := g 74 z6.toNatClampNeg) hi_272_92 rfl ?_
            refine mm_25 hS ma_72 hi_272_94 (by decide) (by omega) (by omega) ?_
            show am_E _ _ _ _ [some (.ref 39), some (.int x), some (.int y), some (.int w), some (.int (g 74 z6.toNatClampNeg))] [.int (g 72 (g 74 z6.toNatClampNeg).toNatClampNeg)] _ _
            refine am_e33 hi_272_95 ?_
            exact ⟨g 72 (g 74 z6.toNatClampNeg).toNatClampNeg, rfl, hS⟩
          by_cases c11 : w.toInt = 3
          · refine am_e19 (t := 96) hi_272_40 (am_swI (v := w) (w := 3) (by decide) (by decide) c11) ?_
            refine am_e2 (v := 39) hi_272_96 rfl ?_
            refine mm_20 (v := .ref 92) hS hi_272_97 rfl ?_
            refine am_e1 (v := g 74 z6.toNatClampNeg) hi_272_100 rfl ?_
            refine mm_25 hS ma_73 hi_272_102 (by decide) (by omega) (by omega) ?_
            show am_E _ _ _ _ [some (.ref 39), some (.int x), some (.int y), some (.int w), some (.int (g 74 z6.toNatClampNeg))] [.int (g 73 (g 74 z6.toNatClampNeg).toNatClampNeg)] _ _
            refine am_e33 hi_272_103 ?_
            exact ⟨g 73 (g 74 z6.toNatClampNeg).toNatClampNeg, rfl, hS⟩
          refine am_e19 (t := 104) hi_272_40 (am_swK (v := w) (ks := [0, 1, 2, 3]) (by decide) (by intro k hk; simp only [List.mem_cons, List.not_mem_nil, or_false] at hk; rcases hk with rfl | rfl | rfl | rfl <;> omega)) ?_
          refine am_e0 hi_272_104 ?_
          refine am_e33 hi_272_105 ?_
          exact ⟨(-1), rfl, hS⟩
        · refine am_e13f hi_272_19 (am_cF (m := y.toInt) (n := (g 60 x.toNatClampNeg).toInt) rfl rfl c4) ?_
          refine am_e0 hi_272_22 ?_
          refine am_e33 hi_272_23 ?_
          exact ⟨(-1), rfl, hS⟩
theorem lp_depth {sc : Nat × (Nat → Int32)} {d : Nat} {S0 : am_S} {f : Nat → Int32} {g : Nat → Nat → Int32} {x : Int32}  (hI : RI f g) (p0 : (0 : Int) ≤ (f 53).toInt) (p1 : (f 53).toInt ≤ (600 : Int)) : ∀ (N : Nat) (S : am_S) (x5 : Option Value) (v2 v3 v4 : Int32), MS S0 S f g → (0 : Int) ≤ v4.toInt → v4.toInt ≤ (65000 : Int) → (0 : Int) ≤ x.toInt → x.toInt < (f 53).toInt → 65000 - v4.toInt < (N : Int) → am_E (am_PP sc) (d + 1) 273 17 [some (.ref 39), some (.int x), some (.int v2), some (.int v3), some (.int v4), x5] [] S (am_N fun v S1 => (∃ r : Int32, v = some (.int r) ∧ MS S0 S1 f g)) := by
  intro N
  induction N with
  | zero =>
    intro S x5 v2 v3 v4   hS   i0 i1 i2 i3 hN
    exfalso
    omega
  | succ N ih =>
    intro S x5 v2 v3 v4   hS   i0 i1 i2 i3 hN
    refine am_e1 (v := v4) hi_273_17 rfl ?_
    refine am_e2 (v := 39) hi_273_19 rfl ?_
    refine mm_20 (v := .ref 81) hS hi_273_20 rfl ?_
    refine am_e1 (v := x) hi_273_23 rfl ?_
    refine mm_25 hS ma_60 hi_273_24 (by decide) (by omega) (by omega) ?_
    show am_E _ _ _ _ [some (.ref 39), some (.int x), some (.int v2), some (.int v3), some (.int v4), x5] [.int (g 60 x.toNatClampNeg), .int v4] _ _
    have r0 : 0 ≤ (g 61 x.toNatClampNeg).toInt ∧ 0 ≤ (g 60 x.toNatClampNeg).toInt ∧ (g 61 x.toNatClampNeg).toInt + (g 60 x.toNatClampNeg).toInt ≤ 65000 := RI.cb (i := x) hI (by omega) (by omega)
    by_cases c1 : (g 60 x.toNatClampNeg).toInt ≤ v4.toInt
    · refine am_e13t hi_273_25 (am_cT (m := v4.toInt) (n := (g 60 x.toNatClampNeg).toInt) rfl rfl c1) ?_
      refine am_e1 (v := v3) hi_273_88 rfl ?_
      refine am_e33 hi_273_89 ?_
      exact ⟨v3, rfl, hS⟩
    · refine am_e13f hi_273_25 (am_cF (m := v4.toInt) (n := (g 60 x.toNatClampNeg).toInt) rfl rfl c1) ?_
      refine am_e2 (v := 39) hi_273_28 rfl ?_
      refine mm_20 (v := .ref 93) hS hi_273_29 rfl ?_
      refine am_e2 (v := 39) hi_273_32 rfl ?_
      refine mm_20 (v := .ref 82) hS hi_273_33 rfl ?_
      refine am_e1 (v := x) hi_273_36 rfl ?_
      refine mm_25 hS ma_61 hi_273_37 (by decide) (by omega) (by omega) ?_
      show am_E _ _ _ _ [some (.ref 39), some (.int x), some (.int v2), some (.int v3), some (.int v4), x5] [.int (g 61 x.toNatClampNeg), .ref 93] _ _
      have r2 : 0 ≤ (g 61 x.toNatClampNeg).toInt ∧ 0 ≤ (g 60 x.toNatClampNeg).toInt ∧ (g 61 x.toNatClampNeg).toInt + (g 60 x.toNatClampNeg).toInt ≤ 65000 := RI.cb (i := x) hI (by omega) (by omega)
      refine am_e1 (v := v4) hi_273_38 rfl ?_
      obtain ⟨z3, hz3, tz3⟩ := am_addI (x := g 61 x.toNatClampNeg) (y := v4) (m := (g 61 x.toNatClampNeg).toInt) (n := v4.toInt) rfl rfl (by omega) (by omega)
      refine am_e10 (z := z3) hi_273_40 hz3 ?_
      refine mm_25 hS ma_74 hi_273_41 (by decide) (by omega) (by omega) ?_
      show am_E _ _ _ _ [some (.ref 39), some (.int x), some (.int v2), some (.int v3), some (.int v4), x5] [.int (g 74 z3.toNatClampNeg)] _ _
      have r4 : 0 ≤ (g 74 z3.toNatClampNeg).toInt ∧ (g 74 z3.toNatClampNeg).toInt < 65536 := RI.od (x := x) (v := v4) (z := z3) hI (by omega) (by omega) (by omega) (by omega) (by omega)
      refine am_e3 (ls' := [some (.ref 39), some (.int x), some (.int v2), some (.int v3), some (.int v4), some (.int (g 74 z3.toNatClampNeg))]) hi_273_42 (Nat.le_of_ble_eq_true rfl) rfl ?_
      refine am_e1 (v := v2) hi_273_44 rfl ?_
      refine am_e2 (v := 39) hi_273_45 rfl ?_
      refine mm_20 (v := .ref 89) hS hi_273_46 rfl ?_
      refine am_e1 (v := g 74 z3.toNatClampNeg) hi_273_49 rfl ?_
      refine mm_25 hS ma_70 hi_273_51 (by decide) (by omega) (by omega) ?_
      show am_E _ _ _ _ [some (.ref 39), some (.int x), some (.int v2), some (.int v3), some (.int v4), some (.int (g 74 z3.toNatClampNeg))] [.int (g 70 (g 74 z3.toNatClampNeg).toNatClampNeg), .int v2] _ _
      refine am_e2 (v := 39) hi_273_52 rfl ?_
      refine mm_20 (v := .ref 90) hS hi_273_53 rfl ?_
      refine am_e1 (v := g 74 z3.toNatClampNeg) hi_273_56 rfl ?_
      refine mm_25 hS ma_71 hi_273_58 (by decide) (by omega) (by omega) ?_
      show am_E _ _ _ _ [some (.ref 39), some (.int x), some (.int v2), some (.int v3), some (.int v4), some (.int (g 74 z3.toNatClampNeg))] [.int (g 71 (g 74 z3.toNatClampNeg).toNatClampNeg), .int (g 70 (g 74 z3.toNatClampNeg).toNatClampNeg), .int v2] _ _
      refine am_e2 (v := 39) hi_273_59 rfl ?_
      refine mm_20 (v := .ref 91) hS hi_273_60 rfl ?_
      refine am_e1 (v := g 74 z3.toNatClampNeg) hi_273_63 rfl ?_
      refine mm_25 hS ma_72 hi_273_65 (by decide) (by omega) (by omega) ?_
      show am_E _ _ _ _ [some (.ref 39), some (.int x), some (.int v2), some (.int v3), some (.int v4), some (.int (g 74 z3.toNatClampNeg))] [.int (g 72 (g 74 z3.toNatClampNeg).toNatClampNeg), .int (g 71 (g 74 z3.toNatClampNeg).toNatClampNeg), .int (g 70 (g 74 z3.toNatClampNeg).toNatClampNeg), .int v2] _ _
      refine am_e32n (as := [.int (g 70 (g 74 z3.toNatClampNeg).toNatClampNeg), .int (g 71 (g 74 z3.toNatClampNeg).toNatClampNeg), .int (g 72 (g 74 z3.toNatClampNeg).toNatClampNeg)]) (la := [some (.int (g 70 (g 74 z3.toNatClampNeg).toNatClampNeg)), some (.int (g 71 (g 74 z3.toNatClampNeg).toNatClampNeg)), some (.int (g 72 (g 74 z3.toNatClampNeg).toNatClampNeg))]) (rest := [.int v2]) hi_273_66 (am_hd0 (M := 273) (by decide) 66) (Nat.le_of_ble_eq_true rfl) (Nat.le_of_ble_eq_true rfl) (show 3 ≤ am_P0.2.2.1 274 from by decide +kernel) rfl rfl rfl rfl (ct_more (d := d) hS   ) ?_
      rintro v5 S6 (⟨r7, hv8, hS9⟩)
      subst hv8
      show am_E _ _ _ _ [some (.ref 39), some (.int x), some (.int v2), some (.int v3), some (.int v4), some (.int (g 74 z3.toNatClampNeg))] [.int r7, .int v2] _ _
      obtain ⟨z11, hz11⟩ : ∃ q__, am_bin 0 v2 r7 = q__ := ⟨_, rfl⟩
      refine am_e10 (z := z11) hi_273_69 hz11 ?_
      refine am_e3 (ls' := [some (.ref 39), some (.int x), some (.int z11), some (.int v3), some (.int v4), some (.int (g 74 z3.toNatClampNeg))]) hi_273_70 (Nat.le_of_ble_eq_true rfl) rfl ?_
      refine am_e1 (v := z11) hi_273_71 rfl ?_
      refine am_e1 (v := v3) hi_273_72 rfl ?_
      by_cases c12 : z11.toInt ≤ v3.toInt
      · refine am_e13t hi_273_73 (am_cT (m := z11.toInt) (n := v3.toInt) rfl rfl c12) ?_
        refine am_e1 (v := v3) hi_273_80 rfl ?_
        refine am_e3 (ls' := [some (.ref 39), some (.int x), some (.int z11), some (.int v3), some (.int v4), some (.int (g 74 z3.toNatClampNeg))]) hi_273_81 (Nat.le_of_ble_eq_true rfl) rfl ?_
        obtain ⟨z13, hz13, tz13⟩ := am_addI (x := v4) (y := 1) (m := v4.toInt) (n := (1 : Int)) rfl (by decide) (by omega) (by omega)
        refine am_e5 (v := v4) (z := z13) (ls' := [some (.ref 39), some (.int x), some (.int z11), some (.int v3), some (.int z13), some (.int (g 74 z3.toNatClampNeg))]) hi_273_82 rfl hz13 rfl ?_
        refine am_e18 hi_273_85 ?_
        exact ih _ (some (.int (g 74 z3.toNatClampNeg))) z11 v3 z13 hS9 (by show (0 : Int) ≤ z13.toInt; omega) (by show z13.toInt ≤ (65000 : Int); omega) (by show (0 : Int) ≤ x.toInt; omega) (by show x.toInt < (f 53).toInt; omega) (by show 65000 - z13.toInt < (N : Int); omega)
      · refine am_e13f hi_273_73 (am_cF (m := z11.toInt) (n := v3.toInt) rfl rfl c12) ?_
        refine am_e1 (v := z11) hi_273_76 rfl ?_
        refine am_e18 hi_273_77 ?_
        refine am_e3 (ls' := [some (.ref 39), some (.int x), some (.int z11), some (.int z11), some (.int v4), some (.int (g 74 z3.toNatClampNeg))]) hi_273_81 (Nat.le_of_ble_eq_true rfl) rfl ?_
        obtain ⟨z14, hz14, tz14⟩ := am_addI (x := v4) (y := 1) (m := v4.toInt) (n := (1 : Int)) rfl (by decide) (by omega) (by omega)
        refine am_e5 (v := v4) (z := z14) (ls' := [some (.ref 39), some (.int x), some (.int z11), some (.int z11), some (.int z14), some (.int (g 74 z3.toNatClampNeg))]) hi_273_82 rfl hz14 rfl ?_
        refine am_e18 hi_273_85 ?_
        exact ih _ (some (.int (g 74 z3.toNatClampNeg))) z11 z11 z14 hS9 (by show (0 : Int) ≤ z14.toInt; omega) (by show z14.toInt ≤ (65000 : Int); omega) (by show (0 : Int) ≤ x.toInt; omega) (by show x.toInt < (f 53).toInt; omega) (by show 65000 - z14.toInt < (N : Int); omega)
theorem ct_depth {sc : Nat × (Nat → Int32)} {d : Nat} {S0 S : am_S} {f : Nat → Int32} {g : Nat → Nat → Int32} {x : Int32} (hS : MS S0 S f g) (hI : RI f g) (p0 : (0 : Int) ≤ (f 53).toInt) (p1 : (f 53).toInt ≤ (600 : Int)) : am_E (am_PP sc) (d + 1) 273 0 [some (.ref 39), some (.int x), none, none, none, none] [] S (am_N fun v S1 => (∃ r : Int32, v = some (.int r) ∧ MS S0 S1 f g)) := by
  refine am_e2 (v := 39) hi_273_0 rfl ?_
  refine am_e1 (v := x) hi_273_1 rfl ?_
  refine am_e32w (as := [.ref 39, .int x]) (la := [some (.ref 39), some (.int x)]) (rest := []) hi_273_2 (am_hd0 (M := 273) (by decide) 2) (Nat.le_of_ble_eq_true rfl) (Nat.le_of_ble_eq_true rfl) (show 2 ≤ am_P0.2.2.1 270 from by decide +kernel) rfl (am_recv_ok hS.fs) rfl rfl ?_
  refine am_e1 (v := x) hi_270_0 rfl ?_
  by_cases c0 : x.toInt < (0 : Int)
  · refine am_e12t hi_270_1 (am_cT (m := x.toInt) (n := (0 : Int)) rfl (by decide) c0) ?_
    refine am_e0 hi_270_16 ?_
    refine am_e36 hi_270_17 (by decide) ?_
    show am_E _ _ _ _ [some (.ref 39), some (.int x), none, none, none, none] [.int 0] _ _
    refine am_e12f hi_273_5 (by decide) ?_
    refine am_e0 hi_273_8 ?_
    refine am_e33 hi_273_9 ?_
    exact ⟨(-1), rfl, hS⟩
  · refine am_e12f hi_270_1 (am_cF (m := x.toInt) (n := (0 : Int)) rfl (by decide) c0) ?_
    refine am_e1 (v := x) hi_270_4 rfl ?_
    refine am_e2 (v := 39) hi_270_5 rfl ?_
    refine mm_20 (v := .int (f 53)) hS hi_270_6 rfl ?_
    by_cases c1 : (f 53).toInt ≤ x.toInt
    · refine am_e13t hi_270_9 (am_cT (m := x.toInt) (n := (f 53).toInt) rfl rfl c1) ?_
      refine am_e0 hi_270_16 ?_
      refine am_e36 hi_270_17 (by decide) ?_
      show am_E _ _ _ _ [some (.ref 39), some (.int x), none, none, none, none] [.int 0] _ _
      refine am_e12f hi_273_5 (by decide) ?_
      refine am_e0 hi_273_8 ?_
      refine am_e33 hi_273_9 ?_
      exact ⟨(-1), rfl, hS⟩
    · refine am_e13f hi_270_9 (am_cF (m := x.toInt) (n := (f 53).toInt) rfl rfl c1) ?_
      refine am_e0 hi_270_12 ?_
      refine am_e18 hi_270_13 ?_
      refine am_e36 hi_270_17 (by decide) ?_
      show am_E _ _ _ _ [some (.ref 39), some (.int x), none, none, none, none] [.int 1] _ _
      refine am_e12t hi_273_5 (by decide) ?_
      refine am_e0 hi_273_10 ?_
      refine am_e3 (ls' := [some (.ref 39), some (.int x), some (.int 0), none, none, none]) hi_273_11 (Nat.le_of_ble_eq_true rfl) rfl ?_
      refine am_e0 hi_273_12 ?_
      refine am_e3 (ls' := [some (.ref 39), some (.int x), some (.int 0), some (.int 0), none, none]) hi_273_13 (Nat.le_of_ble_eq_true rfl) rfl ?_
      refine am_e0 hi_273_14 ?_
      refine am_e3 (ls' := [some (.ref 39), some (.int x), some (.int 0), some (.int 0), some (.int 0), none]) hi_273_15 (Nat.le_of_ble_eq_true rfl) rfl ?_
      exact lp_depth hI p0 p1 ((65000 - (0 : Int)).toNat + 1) _ none 0 0 0 hS (by show (0 : Int) ≤ (0 : Int); omega) (by show (0 : Int) ≤ (65000 : Int); omega) (by show (0 : Int) ≤ x.toInt; omega) (by show x.toInt < (f 53).toInt; omega) (by show 65000 - (0 : Int) < _; omega)
theorem lp_outer {sc : Nat × (Nat → Int32)} {d : Nat} {S0 : am_S} {f : Nat → Int32} {g : Nat → Nat → Int32} {x : Int32} {y : Int32} {w : Int32}  (hI : RI f g) (p0 : (0 : Int) ≤ (f 53).toInt) (p1 : (f 53).toInt ≤ (600 : Int)) : ∀ (N : Nat) (S : am_S) (v4 v5 : Int32), MS S0 S f g → mj_n (g 63) v5.toNatClampNeg x.toInt + v4.toInt = y.toInt ∧ y.toInt < mj_n (g 63) (f 62).toNatClampNeg x.toInt → (0 : Int) ≤ v4.toInt → v4.toInt ≤ (65000 : Int) → (0 : Int) ≤ v5.toInt → v5.toInt ≤ (65000 : Int) → (0 : Int) ≤ x.toInt → x.toInt < (f 53).toInt → 65000 - v5.toInt < (N : Int) → am_E (am_PP sc) (d + 1) 271 39 [some (.ref 39), some (.int x), some (.int y), some (.int w), some (.int v4), some (.int v5)] [] S (am_N fun v S1 => (∃ r : Int32, v = some (.int r) ∧ MS S0 S1 f g)) := by
  intro N
  induction N with
  | zero =>
    intro S  v4 v5   hS  hq i0 i1 i2 i3 i4 i5 hN
    exfalso
    omega
  | succ N ih =>
    intro S  v4 v5   hS  hq i0 i1 i2 i3 i4 i5 hN
    have ho : 0 ≤ (f 62).toInt ∧ (f 62).toInt ≤ 65000 := hI.2.2.2.2.1
    have hlt : v5.toInt < (f 62).toInt := by have h := mj_find hq.1 (by omega) hq.2; rw [cl_toNat, cl_toNat] at h; omega
    refine am_e2 (v := 39) hi_271_39 rfl ?_
    refine mm_20 (v := .ref 83) hS hi_271_40 rfl ?_
    refine am_e1 (v := v5) hi_271_43 rfl ?_
    refine mm_25 hS ma_63 hi_271_45 (by decide) (by omega) (by omega) ?_
    show am_E _ _ _ _ [some (.ref 39), some (.int x), some (.int y), some (.int w), some (.int v4), some (.int v5)] [.int (g 63 v5.toNatClampNeg)] _ _
    refine am_e1 (v := x) hi_271_46 rfl ?_
    by_cases c0 : ¬ (g 63 v5.toNatClampNeg).toInt = x.toInt
    · refine am_e13t hi_271_47 (am_cT (m := (g 63 v5.toNatClampNeg).toInt) (n := x.toInt) rfl rfl c0) ?_
      refine am_e1 (v := v4) hi_271_55 rfl ?_
      refine am_e2 (v := 39) hi_271_57 rfl ?_
      refine mm_20 (v := .ref 83) hS hi_271_58 rfl ?_
      refine am_e1 (v := v5) hi_271_61 rfl ?_
      refine mm_25 hS ma_63 hi_271_63 (by decide) (by omega) (by omega) ?_
      show am_E _ _ _ _ [some (.ref 39), some (.int x), some (.int y), some (.int w), some (.int v4), some (.int v5)] [.int (g 63 v5.toNatClampNeg), .int v4] _ _
      refine am_e1 (v := x) hi_271_64 rfl ?_
      refine am_e13t hi_271_65 (am_cT (m := (g 63 v5.toNatClampNeg).toInt) (n := x.toInt) rfl rfl (by simp only [am_cI]; omega)) ?_
      refine am_e0 hi_271_72 ?_
      obtain ⟨z1, hz1, tz1⟩ := am_subI (x := v4) (y := 0) (m := v4.toInt) (n := (0 : Int)) rfl (by decide) (by omega) (by omega)
      refine am_e10 (z := z1) hi_271_73 hz1 ?_
      refine am_e3 (ls' := [some (.ref 39), some (.int x), some (.int y), some (.int w), some (.int z1), some (.int v5)]) hi_271_74 (Nat.le_of_ble_eq_true rfl) rfl ?_
      obtain ⟨z2, hz2, tz2⟩ := am_addI (x := v5) (y := 1) (m := v5.toInt) (n := (1 : Int)) rfl (by decide) (by omega) (by omega)
      refine am_e5 (v := v5) (z := z2) (ls' := [some (.ref 39), some (.int x), some (.int y), some (.int w), some (.int z1), some (.int z2)]) hi_271_76 rfl hz2 rfl ?_
      refine am_e18 hi_271_79 ?_
      exact ih _ z1 z2 hS ⟨by show mj_n (g 63) z2.toNatClampNeg x.toInt + z1.toInt = y.toInt; rw [show z2.toNatClampNeg = v5.toNatClampNeg + 1 from (by rw [cl_toNat, cl_toNat]; omega)]; simp only [mj_n]; have hq1 := hq.1; split <;> omega, hq.2⟩ (by show (0 : Int) ≤ z1.toInt; omega) (by show z1.toInt ≤ (65000 : Int); omega) (by show (0 : Int) ≤ z2.toInt; omega) (by show z2.toInt ≤ (65000 : Int); omega) (by show (0 : Int) ≤ x.toInt; omega) (by show x.toInt < (f 53).toInt; omega) (by show 65000 - z2.toInt < (N : Int); omega)
    · refine am_e13f hi_271_47 (am_cF (m := (g 63 v5.toNatClampNeg).toInt) (n := x.toInt) rfl rfl c0) ?_
      refine am_e1 (v := v4) hi_271_50 rfl ?_
      by_cases c3 : v4.toInt ≤ (0 : Int)
      · refine am_e12t hi_271_52 (am_cT (m := v4.toInt) (n := (0 : Int)) rfl (by decide) c3) ?_
        refine am_e1 (v := w) hi_271_82 rfl ?_
        by_cases c4 : ¬ w.toInt = (0 : Int)
        · refine am_e12t hi_271_83 (am_cT (m := w.toInt) (n := (0 : Int)) rfl (by decide) c4) ?_
          refine am_e2 (v := 39) hi_271_96 rfl ?_
          refine mm_20 (v := .ref 86) hS hi_271_97 rfl ?_
          refine am_e1 (v := v5) hi_271_100 rfl ?_
          refine mm_25 hS ma_66 hi_271_102 (by decide) (by omega) (by omega) ?_
          show am_E _ _ _ _ [some (.ref 39), some (.int x), some (.int y), some (.int w), some (.int v4), some (.int v5)] [.int (g 66 v5.toNatClampNeg)] _ _
          refine am_e33 hi_271_103 ?_
          exact ⟨g 66 v5.toNatClampNeg, rfl, hS⟩
        · refine am_e12f hi_271_83 (am_cF (m := w.toInt) (n := (0 : Int)) rfl (by decide) c4) ?_
          refine am_e2 (v := 39) hi_271_86 rfl ?_
          refine mm_20 (v := .ref 85) hS hi_271_87 rfl ?_
          refine am_e1 (v := v5) hi_271_90 rfl ?_
          refine mm_25 hS ma_65 hi_271_92 (by decide) (by omega) (by omega) ?_
          show am_E _ _ _ _ [some (.ref 39), some (.int x), some (.int y), some (.int w), some (.int v4), some (.int v5)] [.int (g 65 v5.toNatClampNeg)] _ _
          refine am_e18 hi_271_93 ?_
          refine am_e33 hi_271_103 ?_
          exact ⟨g 65 v5.toNatClampNeg, rfl, hS⟩
      · refine am_e12f hi_271_52 (am_cF (m := v4.toInt) (n := (0 : Int)) rfl (by decide) c3) ?_
        refine am_e1 (v := v4) hi_271_55 rfl ?_
        refine am_e2 (v := 39) hi_271_57 rfl ?_
        refine mm_20 (v := .ref 83) hS hi_271_58 rfl ?_
        refine am_e1 (v := v5) hi_271_61 rfl ?_
        refine mm_25 hS ma_63 hi_271_63 (by decide) (by omega) (by omega) ?_
        show am_E _ _ _ _ [some (.ref 39), some (.int x), some (.int y), some (.int w), some (.int v4), some (.int v5)] [.int (g 63 v5.toNatClampNeg), .int v4] _ _
        refine am_e1 (v := x) hi_271_64 rfl ?_
        refine am_e13f hi_271_65 (am_cF (m := (g 63 v5.toNatClampNeg).toInt) (n := x.toInt) rfl rfl (by simp only [am_cI]; omega)) ?_
        refine am_e0 hi_271_68 ?_
        refine am_e18 hi_271_69 ?_
        obtain ⟨z5, hz5, tz5⟩ := am_subI (x := v4) (y := 1) (m := v4.toInt) (n := (1 : Int)) rfl (by decide) (by omega) (by omega)
        refine am_e10 (z := z5) hi_271_73 hz5 ?_
        refine am_e3 (ls' := [some (.ref 39), some (.int x), some (.int y), some (.int w), some (.int z5), some (.int v5)]) hi_271_74 (Nat.le_of_ble_eq_true rfl) rfl ?_
        obtain ⟨z6, hz6, tz6⟩ := am_addI (x := v5) (y := 1) (m := v5.toInt) (n := (1 : Int)) rfl (by decide) (by omega) (by omega)
        refine am_e5 (v := v5) (z := z6) (ls' := [some (.ref 39), some (.int x), some (.int y), some (.int w), some (.int z5), some (.int z6)]) hi_271_76 rfl hz6 rfl ?_
        refine am_e18 hi_271_79 ?_
        exact ih _ z5 z6 hS ⟨by show mj_n (g 63) z6.toNatClampNeg x.toInt + z5.toInt = y.toInt; rw [show z6.toNatClampNeg = v5.toNatClampNeg + 1 from (by rw [cl_toNat, cl_toNat]; omega)]; simp only [mj_n]; have hq1 := hq.1; split <;> omega, hq.2⟩ (by show (0 : Int) ≤ z5.toInt; omega) (by show z5.toInt ≤ (65000 : Int); omega) (by show (0 : Int) ≤ z6.toInt; omega) (by show z6.toInt ≤ (65000 : Int); omega) (by show (0 : Int) ≤ x.toInt; omega) (by show x.toInt < (f 53).toInt; omega) (by show 65000 - z6.toInt < (N : Int); omega)
theorem ct_outer {sc : Nat × (Nat → Int32)} {d : Nat} {S0 S : am_S} {f : Nat → Int32} {g : Nat → Nat → Int32} {x : Int32} {y : Int32} {w : Int32} (hS : MS S0 S f g) (hI : RI f g) (p0 : (0 : Int) ≤ (f 53).toInt) (p1 : (f 53).toInt ≤ (600 : Int)) : am_E (am_PP sc) (d + 1) 271 0 [some (.ref 39), some (.int x), some (.int y), some (.int w), none, none] [] S (am_N fun v S1 => (∃ r : Int32, v = some (.int r) ∧ MS S0 S1 f g)) := by
  refine am_e2 (v := 39) hi_271_0 rfl ?_
  refine am_e1 (v := x) hi_271_1 rfl ?_
  refine am_e32w (as := [.ref 39, .int x]) (la := [some (.ref 39), some (.int x)]) (rest := []) hi_271_2 (am_hd0 (M := 271) (by decide) 2) (Nat.le_of_ble_eq_true rfl) (Nat.le_of_ble_eq_true rfl) (show 2 ≤ am_P0.2.2.1 270 from by decide +kernel) rfl (am_recv_ok hS.fs) rfl rfl ?_
  refine am_e1 (v := x) hi_270_0 rfl ?_
  by_cases c0 : x.toInt < (0 : Int)
  · refine am_e12t hi_270_1 (am_cT (m := x.toInt) (n := (0 : Int)) rfl (by decide) c0) ?_
    refine am_e0 hi_270_16 ?_
    refine am_e36 hi_270_17 (by decide) ?_
    show am_E _ _ _ _ [some (.ref 39), some (.int x), some (.int y), some (.int w), none, none] [.int 0] _ _
    refine am_e12t hi_271_5 (by decide) ?_
    refine am_e0 hi_271_31 ?_
    refine am_e33 hi_271_32 ?_
    exact ⟨(-1), rfl, hS⟩
  · refine am_e12f hi_270_1 (am_cF (m := x.toInt) (n := (0 : Int)) rfl (by decide) c0) ?_
    refine am_e1 (v := x) hi_270_4 rfl ?_
    refine am_e2 (v := 39) hi_270_5 rfl ?_
    refine mm_20 (v := .int (f 53)) hS hi_270_6 rfl ?_
    by_cases c1 : (f 53).toInt ≤ x.toInt
    · refine am_e13t hi_270_9 (am_cT (m := x.toInt) (n := (f 53).toInt) rfl rfl c1) ?_
      refine am_e0 hi_270_16 ?_
      refine am_e36 hi_270_17 (by decide) ?_
      show am_E _ _ _ _ [some (.ref 39), some (.int x), some (.int y), some (.int w), none, none] [.int 0] _ _
      refine am_e12t hi_271_5 (by decide) ?_
      refine am_e0 hi_271_31 ?_
      refine am_e33 hi_271_32 ?_
      exact ⟨(-1), rfl, hS⟩
    · refine am_e13f hi_270_9 (am_cF (m := x.toInt) (n := (f 53).toInt) rfl rfl c1) ?_
      refine am_e0 hi_270_12 ?_
      refine am_e18 hi_270_13 ?_
      refine am_e36 hi_270_17 (by decide) ?_
      show am_E _ _ _ _ [some (.ref 39), some (.int x), some (.int y), some (.int w), none, none] [.int 1] _ _
      refine am_e12f hi_271_5 (by decide) ?_
      refine am_e1 (v := y) hi_271_8 rfl ?_
      by_cases c2 : y.toInt < (0 : Int)
      · refine am_e12t hi_271_9 (am_cT (m := y.toInt) (n := (0 : Int)) rfl (by decide) c2) ?_
        refine am_e0 hi_271_31 ?_
        refine am_e33 hi_271_32 ?_
        exact ⟨(-1), rfl, hS⟩
      · refine am_e12f hi_271_9 (am_cF (m := y.toInt) (n := (0 : Int)) rfl (by decide) c2) ?_
        refine am_e1 (v := y) hi_271_12 rfl ?_
        refine am_e2 (v := 39) hi_271_13 rfl ?_
        refine mm_20 (v := .ref 87) hS hi_271_14 rfl ?_
        refine am_e1 (v := x) hi_271_17 rfl ?_
        refine mm_25 hS ma_67 hi_271_18 (by decide) (by omega) (by omega) ?_
        show am_E _ _ _ _ [some (.ref 39), some (.int x), some (.int y), some (.int w), none, none] [.int (g 67 x.toNatClampNeg), .int y] _ _
        have r3 : (g 67 x.toNatClampNeg).toInt = mj_n (g 63) (f 62).toNatClampNeg x.toInt := RI.oc (i := x) hI (by omega) (by omega)
        have r32 : 0 ≤ (g 67 x.toNatClampNeg).toInt ∧ (g 67 x.toNatClampNeg).toInt ≤ 65000 := by
          have h3 := mj_n_le (a := g 63) (f 62).toNatClampNeg x.toInt
          have h4 := hI.2.2.2.2.1
          have h5 : (((f 62).toNatClampNeg : Nat) : Int) = (f 62).toInt := by rw [cl_toNat]; omega
          omega
        by_cases c4 : (g 67 x.toNatClampNeg).toInt ≤ y.toInt
        · refine am_e13t hi_271_19 (am_cT (m := y.toInt) (n := (g 67 x.toNatClampNeg).toInt) rfl rfl c4) ?_
          refine am_e0 hi_271_31 ?_
          refine am_e33 hi_271_32 ?_
          exact ⟨(-1), rfl, hS⟩
        · refine am_e13f hi_271_19 (am_cF (m := y.toInt) (n := (g 67 x.toNatClampNeg).toInt) rfl rfl c4) ?_
          refine am_e1 (v := w) hi_271_22 rfl ?_
          by_cases c5 : w.toInt < (0 : Int)
          · refine am_e12t hi_271_23 (am_cT (m := w.toInt) (n := (0 : Int)) rfl (by decide) c5) ?_
            refine am_e0 hi_271_31 ?_
            refine am_e33 hi_271_32 ?_
            exact ⟨(-1), rfl, hS⟩
          · refine am_e12f hi_271_23 (am_cF (m := w.toInt) (n := (0 : Int)) rfl (by decide) c5) ?_
            refine am_e1 (v := w) hi_271_26 rfl ?_
            refine am_e0 hi_271_27 ?_
            by_cases c6 : w.toInt ≤ (1 : Int)
            · refine am_e13t hi_271_28 (am_cT (m := w.toInt) (n := (1 : Int)) rfl (by decide) c6) ?_
              refine am_e1 (v := y) hi_271_33 rfl ?_
              refine am_e3 (ls' := [some (.ref 39), some (.int x), some (.int y), some (.int w), some (.int y), none]) hi_271_34 (Nat.le_of_ble_eq_true rfl) rfl ?_
              refine am_e0 hi_271_36 ?_
              refine am_e3 (ls' := [some (.ref 39), some (.int x), some (.int y), some (.int w), some (.int y), some (.int 0)]) hi_271_37 (Nat.le_of_ble_eq_true rfl) rfl ?_
              exact lp_outer hI p0 p1 ((65000 - (0 : Int)).toNat + 1) _ y 0 hS ⟨by show mj_n (g 63) 0 x.toInt + y.toInt = y.toInt; simp only [mj_n]; omega, by omega⟩ (by show (0 : Int) ≤ y.toInt; omega) (by show y.toInt ≤ (65000 : Int); omega) (by show (0 : Int) ≤ (0 : Int); omega) (by show (0 : Int) ≤ (65000 : Int); omega) (by show (0 : Int) ≤ x.toInt; omega) (by show x.toInt < (f 53).toInt; omega) (by show 65000 - (0 : Int) < _; omega)
            · refine am_e13f hi_271_28 (am_cF (m := w.toInt) (n := (1 : Int)) rfl (by decide) c6) ?_
              refine am_e0 hi_271_31 ?_
              refine am_e33 hi_271_32 ?_
              exact ⟨(-1), rfl, hS⟩
set_option maxHeartbeats 16000000 in
theorem fr_flaws {sc : Nat × (Nat → Int32)} {d : Nat} {S0 : am_S} {f : Nat → Int32} {g : Nat → Nat → Int32} {v2 : Int32} {Q : Option (Option Value) → am_S → Prop} (hI : RI f g) (p0 : (0 : Int) ≤ (f 53).toInt) (p1 : (f 53).toInt ≤ (600 : Int)) (p2 : (0 : Int) ≤ v2.toInt) (p3 : v2.toInt < (f 53).toInt) (hx0 : ∀ (S : am_S) (x3 : Option Value) (x4 : Option Value) (x5 : Option Value) (x6 : Option Value) (x7 : Option Value) (v1 : Int32), MS S0 S f g → am_E (am_PP sc) (d + 2) 275 178 [some (.ref 39), some (.int v1), some (.int v2), x3, x4, x5, x6, x7] [] S Q) : ∀ (N : Nat) (S : am_S) (x5 : Option Value) (x6 : Option Value) (x7 : Option Value) (v1 v3 v4 : Int32), MS S0 S f g → ((0 : Int) ≤ v4.toInt) → (v4.toInt ≤ (65000 : Int)) → 65000 - v4.toInt < (N : Int) → am_E (am_PP sc) (d + 2) 275 17 [some (.ref 39), some (.int v1), some (.int v2), some (.int v3), some (.int v4), x5, x6, x7] [] S Q := by
  intro N
  induction N with
  | zero =>
    intro S x5 x6 x7 v1 v3 v4  hS  i0 i1 hN
    exfalso
    omega
  | succ N ih =>
    intro S x5 x6 x7 v1 v3 v4  hS  i0 i1 hN
    refine am_e1 (v := v4) hi_275_17 rfl ?_
    refine am_e2 (v := 39) hi_275_19 rfl ?_
    refine mm_20 (v := .ref 81) hS hi_275_20 rfl ?_
    refine am_e1 (v := v2) hi_275_23 rfl ?_
    refine mm_25 hS ma_60 hi_275_24 (by decide) (by omega) (by omega) ?_
    show am_E _ _ _ _ [some (.ref 39), some (.int v1), some (.int v2), some (.int v3), some (.int v4), x5, x6, x7] [.int (g 60 v2.toNatClampNeg), .int v4] _ _
    have r0 : 0 ≤ (g 61 v2.toNatClampNeg).toInt ∧ 0 ≤ (g 60 v2.toNatClampNeg).toInt ∧ (g 61 v2.toNatClampNeg).toInt + (g 60 v2.toNatClampNeg).toInt ≤ 65000 := RI.cb (i := v2) hI (by omega) (by omega)
    by_cases c1 : (g 60 v2.toNatClampNeg).toInt ≤ v4.toInt
    · refine am_e13t hi_275_25 (am_cT (m := v4.toInt) (n := (g 60 v2.toNatClampNeg).toInt) rfl rfl c1) ?_
      exact hx0 _ (some (.int v3)) (some (.int v4)) x5 x6 x7 v1 hS
    · refine am_e13f hi_275_25 (am_cF (m := v4.toInt) (n := (g 60 v2.toNatClampNeg).toInt) rfl rfl c1) ?_
      refine am_e2 (v := 39) hi_275_28 rfl ?_
      refine mm_20 (v := .ref 93) hS hi_275_29 rfl ?_
      refine am_e2 (v := 39) hi_275_32 rfl ?_
      refine mm_20 (v := .ref 82) hS hi_275_33 rfl ?_
      refine am_e1 (v := v2) hi_275_36 rfl ?_
      refine mm_25 hS ma_61 hi_275_37 (by decide) (by omega) (by omega) ?_
      show am_E _ _ _ _ [some (.ref 39), some (.int v1), some (.int v2), some (.int v3), some (.int v4), x5, x6, x7] [.int (g 61 v2.toNatClampNeg), .ref 93] _ _
      have r2 : 0 ≤ (g 61 v2.toNatClampNeg).toInt ∧ 0 ≤ (g 60 v2.toNatClampNeg).toInt ∧ (g 61 v2.toNatClampNeg).toInt + (g 60 v2.toNatClampNeg).toInt ≤ 65000 := RI.cb (i := v2) hI (by omega) (by omega)
      refine am_e1 (v := v4) hi_275_38 rfl ?_
      obtain ⟨z3, hz3, tz3⟩ := am_addI (x := g 61 v2.toNatClampNeg) (y := v4) (m := (g 61 v2.toNatClampNeg).toInt) (n := v4.toInt) rfl rfl (by omega) (by omega)
      refine am_e10 (z := z3) hi_275_40 hz3 ?_
      refine mm_25 hS ma_74 hi_275_41 (by decide) (by omega) (by omega) ?_
      show am_E _ _ _ _ [some (.ref 39), some (.int v1), some (.int v2), some (.int v3), some (.int v4), x5, x6, x7] [.int (g 74 z3.toNatClampNeg)] _ _
      have r4 : 0 ≤ (g 74 z3.toNatClampNeg).toInt ∧ (g 74 z3.toNatClampNeg).toInt < 65536 := RI.od (x := v2) (v := v4) (z := z3) hI (by omega) (by omega) (by omega) (by omega) (by omega)
      refine am_e3 (ls' := [some (.ref 39), some (.int v1), some (.int v2), some (.int v3), some (.int v4), some (.int (g 74 z3.toNatClampNeg)), x6, x7]) hi_275_42 (Nat.le_of_ble_eq_true rfl) rfl ?_
      refine am_e2 (v := 39) hi_275_44 rfl ?_
      refine mm_20 (v := .ref 89) hS hi_275_45 rfl ?_
      refine am_e1 (v := g 74 z3.toNatClampNeg) hi_275_48 rfl ?_
      refine mm_25 hS ma_70 hi_275_50 (by decide) (by omega) (by omega) ?_
      show am_E _ _ _ _ [some (.ref 39), some (.int v1), some (.int v2), some (.int v3), some (.int v4), some (.int (g 74 z3.toNatClampNeg)), x6, x7] [.int (g 70 (g 74 z3.toNatClampNeg).toNatClampNeg)] _ _
      refine am_e0 hi_275_51 ?_
      by_cases c5 : ¬ (g 70 (g 74 z3.toNatClampNeg).toNatClampNeg).toInt = (34 : Int)
      · refine am_e13t hi_275_53 (am_cT (m := (g 70 (g 74 z3.toNatClampNeg).toNatClampNeg).toInt) (n := (34 : Int)) rfl (by decide) c5) ?_
        refine am_e0 hi_275_64 ?_
        refine am_e3 (ls' := [some (.ref 39), some (.int v1), some (.int v2), some (.int v3), some (.int v4), some (.int (g 74 z3.toNatClampNeg)), some (.int 0), x7]) hi_275_65 (Nat.le_of_ble_eq_true rfl) rfl ?_
        refine am_e1 (v := v3) hi_275_67 rfl ?_
        refine am_e2 (v := 39) hi_275_68 rfl ?_
        refine mm_20 (v := .ref 89) hS hi_275_69 rfl ?_
        refine am_e1 (v := g 74 z3.toNatClampNeg) hi_275_72 rfl ?_
        refine mm_25 hS ma_70 hi_275_74 (by decide) (by omega) (by omega) ?_
        show am_E _ _ _ _ [some (.ref 39), some (.int v1), some (.int v2), some (.int v3), some (.int v4), some (.int (g 74 z3.toNatClampNeg)), some (.int 0), x7] [.int (g 70 (g 74 z3.toNatClampNeg).toNatClampNeg), .int v3] _ _
        refine am_e2 (v := 39) hi_275_75 rfl ?_
        refine mm_20 (v := .ref 90) hS hi_275_76 rfl ?_
        refine am_e1 (v := g 74 z3.toNatClampNeg) hi_275_79 rfl ?_
        refine mm_25 hS ma_71 hi_275_81 (by decide) (by omega) (by omega) ?_
        show am_E _ _ _ _ [some (.ref 39), some (.int v1), some (.int v2), some (.int v3), some (.int v4), some (.int (g 74 z3.toNatClampNeg)), some (.int 0), x7] [.int (g 71 (g 74 z3.toNatClampNeg).toNatClampNeg), .int (g 70 (g 74 z3.toNatClampNeg).toNatClampNeg), .int v3] _ _
        refine am_e2 (v := 39) hi_275_82 rfl ?_
        refine mm_20 (v := .ref 91) hS hi_275_83 rfl ?_
        refine am_e1 (v := g 74 z3.toNatClampNeg) hi_275_86 rfl ?_
        refine mm_25 hS ma_72 hi_275_88 (by decide) (by omega) (by omega) ?_
        show am_E _ _ _ _ [some (.ref 39), some (.int v1), some (.int v2), some (.int v3), some (.int v4), some (.int (g 74 z3.toNatClampNeg)), some (.int 0), x7] [.int (g 72 (g 74 z3.toNatClampNeg).toNatClampNeg), .int (g 71 (g 74 z3.toNatClampNeg).toNatClampNeg), .int (g 70 (g 74 z3.toNatClampNeg).toNatClampNeg), .int v3] _ _
        refine am_e32n (as := [.int (g 70 (g 74 z3.toNatClampNeg).toNatClampNeg), .int (g 71 (g 74 z3.toNatClampNeg).toNatClampNeg), .int (g 72 (g 74 z3.toNatClampNeg).toNatClampNeg)]) (la := [some (.int (g 70 (g 74 z3.toNatClampNeg).toNatClampNeg)), some (.int (g 71 (g 74 z3.toNatClampNeg).toNatClampNeg)), some (.int (g 72 (g 74 z3.toNatClampNeg).toNatClampNeg))]) (rest := [.int v3]) hi_275_89 (am_hd0 (M := 275) (by decide) 89) (Nat.le_of_ble_eq_true rfl) (Nat.le_of_ble_eq_true rfl) (show 3 ≤ am_P0.2.2.1 274 from by decide +kernel) rfl rfl rfl rfl (ct_more (d := (d + 1)) hS   ) ?_
        rintro v6 S7 (⟨r8, hv9, hS10⟩)
        subst hv9
        show am_E _ _ _ _ [some (.ref 39), some (.int v1), some (.int v2), some (.int v3), some (.int v4), some (.int (g 74 z3.toNatClampNeg)), some (.int 0), x7] [.int r8, .int v3] _ _
        obtain ⟨z12, hz12⟩ : ∃ q__, am_bin 0 v3 r8 = q__ := ⟨_, rfl⟩
        refine am_e10 (z := z12) hi_275_92 hz12 ?_
        refine am_e3 (ls' := [some (.ref 39), some (.int v1), some (.int v2), some (.int z12), some (.int v4), some (.int (g 74 z3.toNatClampNeg)), some (.int 0), x7]) hi_275_93 (Nat.le_of_ble_eq_true rfl) rfl ?_
        refine am_e1 (v := v4) hi_275_94 rfl ?_
        refine am_e0 hi_275_96 ?_
        obtain ⟨z13, hz13, tz13⟩ := am_addI (x := v4) (y := 1) (m := v4.toInt) (n := (1 : Int)) rfl (by decide) (by omega) (by omega)
        refine am_e10 (z := z13) hi_275_97 hz13 ?_
        refine am_e2 (v := 39) hi_275_98 rfl ?_
        refine mm_20 (v := .ref 81) hS10 hi_275_99 rfl ?_
        refine am_e1 (v := v2) hi_275_102 rfl ?_
        refine mm_25 hS10 ma_60 hi_275_103 (by decide) (by omega) (by omega) ?_
        show am_E _ _ _ _ [some (.ref 39), some (.int v1), some (.int v2), some (.int z12), some (.int v4), some (.int (g 74 z3.toNatClampNeg)), some (.int 0), x7] [.int (g 60 v2.toNatClampNeg), .int z13] _ _
        have r14 : 0 ≤ (g 61 v2.toNatClampNeg).toInt ∧ 0 ≤ (g 60 v2.toNatClampNeg).toInt ∧ (g 61 v2.toNatClampNeg).toInt + (g 60 v2.toNatClampNeg).toInt ≤ 65000 := RI.cb (i := v2) hI (by omega) (by omega)
        by_cases c15 : ¬ z13.toInt = (g 60 v2.toNatClampNeg).toInt
        · refine am_e13t hi_275_104 (am_cT (m := z13.toInt) (n := (g 60 v2.toNatClampNeg).toInt) rfl rfl c15) ?_
          refine am_e0 hi_275_123 ?_
          refine am_e3 (ls' := [some (.ref 39), some (.int v1), some (.int v2), some (.int z12), some (.int v4), some (.int (g 74 z3.toNatClampNeg)), some (.int 0), some (.int 0)]) hi_275_124 (Nat.le_of_ble_eq_true rfl) rfl ?_
          refine am_e1 (v := 0) hi_275_126 rfl ?_
          refine am_e12f hi_275_128 (by decide) ?_
          refine am_e1 (v := z12) hi_275_131 rfl ?_
          by_cases c16 : z12.toInt < (0 : Int)
          · refine am_e12t hi_275_132 (am_cT (m := z12.toInt) (n := (0 : Int)) rfl (by decide) c16) ?_
            obtain ⟨z17, hz17⟩ : ∃ q__, am_bin 0 v1 1 = q__ := ⟨_, rfl⟩
            refine am_e5 (v := v1) (z := z17) (ls' := [some (.ref 39), some (.int z17), some (.int v2), some (.int z12), some (.int v4), some (.int (g 74 z3.toNatClampNeg)), some (.int 0), some (.int 0)]) hi_275_169 rfl hz17 rfl ?_
            refine am_e5 (v := v4) (z := z13) (ls' := [some (.ref 39), some (.int z17), some (.int v2), some (.int z12), some (.int z13), some (.int (g 74 z3.toNatClampNeg)), some (.int 0), some (.int 0)]) hi_275_172 rfl hz13 rfl ?_
            refine am_e18 hi_275_175 ?_
            exact ih _ (some (.int (g 74 z3.toNatClampNeg))) (some (.int 0)) (some (.int 0)) z17 z12 z13 hS10 (by show (0 : Int) ≤ z13.toInt; omega) (by show z13.toInt ≤ (65000 : Int); omega) (by show 65000 - z13.toInt < (N : Int); omega)
          · refine am_e12f hi_275_132 (am_cF (m := z12.toInt) (n := (0 : Int)) rfl (by decide) c16) ?_
            refine am_e1 (v := 0) hi_275_135 rfl ?_
            refine am_e12f hi_275_137 (by decide) ?_
            refine am_e2 (v := 39) hi_275_140 rfl ?_
            refine am_e1 (v := v2) hi_275_141 rfl ?_
            refine am_e2 (v := 39) hi_275_142 rfl ?_
            refine mm_20 (v := .ref 89) hS10 hi_275_143 rfl ?_
            refine am_e1 (v := g 74 z3.toNatClampNeg) hi_275_146 rfl ?_
            refine mm_25 hS10 ma_70 hi_275_148 (by decide) (by omega) (by omega) ?_
            show am_E _ _ _ _ [some (.ref 39), some (.int v1), some (.int v2), some (.int z12), some (.int v4), some (.int (g 74 z3.toNatClampNeg)), some (.int 0), some (.int 0)] [.int (g 70 (g 74 z3.toNatClampNeg).toNatClampNeg), .int v2, .ref 39] _ _
            refine am_e2 (v := 39) hi_275_149 rfl ?_
            refine mm_20 (v := .ref 90) hS10 hi_275_150 rfl ?_
            refine am_e1 (v := g 74 z3.toNatClampNeg) hi_275_153 rfl ?_
            refine mm_25 hS10 ma_71 hi_275_155 (by decide) (by omega) (by omega) ?_
            show am_E _ _ _ _ [some (.ref 39), some (.int v1), some (.int v2), some (.int z12), some (.int v4), some (.int (g 74 z3.toNatClampNeg)), some (.int 0), some (.int 0)] [.int (g 71 (g 74 z3.toNatClampNeg).toNatClampNeg), .int (g 70 (g 74 z3.toNatClampNeg).toNatClampNeg), .int v2, .ref 39] _ _
            refine am_e2 (v := 39) hi_275_156 rfl ?_
            refine mm_20 (v := .ref 91) hS10 hi_275_157 rfl ?_
            refine am_e1 (v := g 74 z3.toNatClampNeg) hi_275_160 rfl ?_
            refine mm_25 hS10 ma_72 hi_275_162 (by decide) (by omega) (by omega) ?_
            show am_E _ _ _ _ [some (.ref 39), some (.int v1), some (.int v2), some (.int z12), some (.int v4), some (.int (g 74 z3.toNatClampNeg)), some (.int 0), some (.int 0)] [.int (g 72 (g 74 z3.toNatClampNeg).toNatClampNeg), .int (g 71 (g 74 z3.toNatClampNeg).toNatClampNeg), .int (g 70 (g 74 z3.toNatClampNeg).toNatClampNeg), .int v2, .ref 39] _ _
            refine am_e32n (as := [.ref 39, .int v2, .int (g 70 (g 74 z3.toNatClampNeg).toNatClampNeg), .int (g 71 (g 74 z3.toNatClampNeg).toNatClampNeg), .int (g 72 (g 74 z3.toNatClampNeg).toNatClampNeg)]) (la := [some (.ref 39), some (.int v2), some (.int (g 70 (g 74 z3.toNatClampNeg).toNatClampNeg)), some (.int (g 71 (g 74 z3.toNatClampNeg).toNatClampNeg)), some (.int (g 72 (g 74 z3.toNatClampNeg).toNatClampNeg)), none]) (rest := []) hi_275_163 (am_hd0 (M := 275) (by decide) 163) (Nat.le_of_ble_eq_true rfl) (Nat.le_of_ble_eq_true rfl) (show 5 ≤ am_P0.2.2.1 276 from by decide +kernel) rfl (am_recv_ok hS10.fs) rfl rfl (ct_isRight (d := d) hS10   (by show (0 : Int) ≤ v2.toInt; omega) (by show v2.toInt < (f 53).toInt; omega) (by show (0 : Int) ≤ (f 53).toInt; omega) (by show (f 53).toInt ≤ (600 : Int); omega)) ?_
            rintro v18 S19 (⟨r20, hv21, hS22, h23⟩)
            subst hv21
            have h23_ : r20 = 0 ∨ r20 = 1 := h23
            show am_E _ _ _ _ [some (.ref 39), some (.int v1), some (.int v2), some (.int z12), some (.int v4), some (.int (g 74 z3.toNatClampNeg)), some (.int 0), some (.int 0)] [.int r20] _ _
            by_cases c25 : ¬ r20.toInt = (0 : Int)
            · refine am_e12t hi_275_166 (am_cT (m := r20.toInt) (n := (0 : Int)) rfl (by decide) c25) ?_
              refine am_e5 (v := v4) (z := z13) (ls' := [some (.ref 39), some (.int v1), some (.int v2), some (.int z12), some (.int z13), some (.int (g 74 z3.toNatClampNeg)), some (.int 0), some (.int 0)]) hi_275_172 rfl hz13 rfl ?_
              refine am_e18 hi_275_175 ?_
              exact ih _ (some (.int (g 74 z3.toNatClampNeg))) (some (.int 0)) (some (.int 0)) v1 z12 z13 hS22 (by show (0 : Int) ≤ z13.toInt; omega) (by show z13.toInt ≤ (65000 : Int); omega) (by show 65000 - z13.toInt < (N : Int); omega)
            · refine am_e12f hi_275_166 (am_cF (m := r20.toInt) (n := (0 : Int)) rfl (by decide) c25) ?_
              obtain ⟨z26, hz26⟩ : ∃ q__, am_bin 0 v1 1 = q__ := ⟨_, rfl⟩
              refine am_e5 (v := v1) (z := z26) (ls' := [some (.ref 39), some (.int z26), some (.int v2), some (.int z12), some (.int v4), some (.int (g 74 z3.toNatClampNeg)), some (.int 0), some (.int 0)]) hi_275_169 rfl hz26 rfl ?_
              refine am_e5 (v := v4) (z := z13) (ls' := [some (.ref 39), some (.int z26), some (.int v2), some (.int z12), some (.int z13), some (.int (g 74 z3.toNatClampNeg)), some (.int 0), some (.int 0)]) hi_275_172 rfl hz13 rfl ?_
              refine am_e18 hi_275_175 ?_
              exact ih _ (some (.int (g 74 z3.toNatClampNeg))) (some (.int 0)) (some (.int 0)) z26 z12 z13 hS22 (by show (0 : Int) ≤ z13.toInt; omega) (by show z13.toInt ≤ (65000 : Int); omega) (by show 65000 - z13.toInt < (N : Int); omega)
        · refine am_e13f hi_275_104 (am_cF (m := z13.toInt) (n := (g 60 v2.toNatClampNeg).toInt) rfl rfl c15) ?_
          refine am_e2 (v := 39) hi_275_107 rfl ?_
          refine mm_20 (v := .ref 89) hS10 hi_275_108 rfl ?_
          refine am_e1 (v := g 74 z3.toNatClampNeg) hi_275_111 rfl ?_
          refine mm_25 hS10 ma_70 hi_275_113 (by decide) (by omega) (by omega) ?_
          show am_E _ _ _ _ [some (.ref 39), some (.int v1), some (.int v2), some (.int z12), some (.int v4), some (.int (g 74 z3.toNatClampNeg)), some (.int 0), x7] [.int (g 70 (g 74 z3.toNatClampNeg).toNatClampNeg)] _ _
          refine am_e0 hi_275_114 ?_
          by_cases c27 : (g 70 (g 74 z3.toNatClampNeg).toNatClampNeg).toInt = (45 : Int)
          · refine am_e13t hi_275_116 (am_cT (m := (g 70 (g 74 z3.toNatClampNeg).toNatClampNeg).toInt) (n := (45 : Int)) rfl (by decide) c27) ?_
            refine am_e0 hi_275_123 ?_
            refine am_e3 (ls' := [some (.ref 39), some (.int v1), some (.int v2), some (.int z12), some (.int v4), some (.int (g 74 z3.toNatClampNeg)), some (.int 0), some (.int 0)]) hi_275_124 (Nat.le_of_ble_eq_true rfl) rfl ?_
            refine am_e1 (v := 0) hi_275_126 rfl ?_
            refine am_e12f hi_275_128 (by decide) ?_
            refine am_e1 (v := z12) hi_275_131 rfl ?_
            by_cases c28 : z12.toInt < (0 : Int)
            · refine am_e12t hi_275_132 (am_cT (m := z12.toInt) (n := (0 : Int)) rfl (by decide) c28) ?_
              obtain ⟨z29, hz29⟩ : ∃ q__, am_bin 0 v1 1 = q__ := ⟨_, rfl⟩
              refine am_e5 (v := v1) (z := z29) (ls' := [some (.ref 39), some (.int z29), some (.int v2), some (.int z12), some (.int v4), some (.int (g 74 z3.toNatClampNeg)), some (.int 0), some (.int 0)]) hi_275_169 rfl hz29 rfl ?_
              refine am_e5 (v := v4) (z := z13) (ls' := [some (.ref 39), some (.int z29), some (.int v2), some (.int z12), some (.int z13), some (.int (g 74 z3.toNatClampNeg)), some (.int 0), some (.int 0)]) hi_275_172 rfl hz13 rfl ?_
              refine am_e18 hi_275_175 ?_
              exact ih _ (some (.int (g 74 z3.toNatClampNeg))) (some (.int 0)) (some (.int 0)) z29 z12 z13 hS10 (by show (0 : Int) ≤ z13.toInt; omega) (by show z13.toInt ≤ (65000 : Int); omega) (by show 65000 - z13.toInt < (N : Int); omega)
            · refine am_e12f hi_275_132 (am_cF (m := z12.toInt) (n := (0 : Int)) rfl (by decide) c28) ?_
              refine am_e1 (v := 0) hi_275_135 rfl ?_
              refine am_e12f hi_275_137 (by decide) ?_
              refine am_e2 (v := 39) hi_275_140 rfl ?_
              refine am_e1 (v := v2) hi_275_141 rfl ?_
              refine am_e2 (v := 39) hi_275_142 rfl ?_
              refine mm_20 (v := .ref 89) hS10 hi_275_143 rfl ?_
              refine am_e1 (v := g 74 z3.toNatClampNeg) hi_275_146 rfl ?_
              refine mm_25 hS10 ma_70 hi_275_148 (by decide) (by omega) (by omega) ?_
              show am_E _ _ _ _ [some (.ref 39), some (.int v1), some (.int v2), some (.int z12), some (.int v4), some (.int (g 74 z3.toNatClampNeg)), some (.int 0), some (.int 0)] [.int (g 70 (g 74 z3.toNatClampNeg).toNatClampNeg), .int v2, .ref 39] _ _
              refine am_e2 (v := 39) hi_275_149 rfl ?_
              refine mm_20 (v := .ref 90) hS10 hi_275_150 rfl ?_
              refine am_e1 (v := g 74 z3.toNatClampNeg) hi_275_153 rfl ?_
              refine mm_25 hS10 ma_71 hi_275_155 (by decide) (by omega) (by omega) ?_
              show am_E _ _ _ _ [some (.ref 39), some (.int v1), some (.int v2), some (.int z12), some (.int v4), some (.int (g 74 z3.toNatClampNeg)), some (.int 0), some (.int 0)] [.int (g 71 (g 74 z3.toNatClampNeg).toNatClampNeg), .int (g 70 (g 74 z3.toNatClampNeg).toNatClampNeg), .int v2, .ref 39] _ _
              refine am_e2 (v := 39) hi_275_156 rfl ?_
              refine mm_20 (v := .ref 91) hS10 hi_275_157 rfl ?_
              refine am_e1 (v := g 74 z3.toNatClampNeg) hi_275_160 rfl ?_
              refine mm_25 hS10 ma_72 hi_275_162 (by decide) (by omega) (by omega) ?_
              show am_E _ _ _ _ [some (.ref 39), some (.int v1), some (.int v2), some (.int z12), some (.int v4), some (.int (g 74 z3.toNatClampNeg)), some (.int 0), some (.int 0)] [.int (g 72 (g 74 z3.toNatClampNeg).toNatClampNeg), .int (g 71 (g 74 z3.toNatClampNeg).toNatClampNeg), .int (g 70 (g 74 z3.toNatClampNeg).toNatClampNeg), .int v2, .ref 39] _ _
              refine am_e32n (as := [.ref 39, .int v2, .int (g 70 (g 74 z3.toNatClampNeg).toNatClampNeg), .int (g 71 (g 74 z3.toNatClampNeg).toNatClampNeg), .int (g 72 (g 74 z3.toNatClampNeg).toNatClampNeg)]) (la := [some (.ref 39), some (.int v2), some (.int (g 70 (g 74 z3.toNatClampNeg).toNatClampNeg)), some (.int (g 71 (g 74 z3.toNatClampNeg).toNatClampNeg)), some (.int (g 72 (g 74 z3.toNatClampNeg).toNatClampNeg)), none]) (rest := []) hi_275_163 (am_hd0 (M := 275) (by decide) 163) (Nat.le_of_ble_eq_true rfl) (Nat.le_of_ble_eq_true rfl) (show 5 ≤ am_P0.2.2.1 276 from by decide +kernel) rfl (am_recv_ok hS10.fs) rfl rfl (ct_isRight (d := d) hS10   (by show (0 : Int) ≤ v2.toInt; omega) (by show v2.toInt < (f 53).toInt; omega) (by show (0 : Int) ≤ (f 53).toInt; omega) (by show (f 53).toInt ≤ (600 : Int); omega)) ?_
              rintro v30 S31 (⟨r32, hv33, hS34, h35⟩)
              subst hv33
              have h35_ : r32 = 0 ∨ r32 = 1 := h35
              show am_E _ _ _ _ [some (.ref 39), some (.int v1), some (.int v2), some (.int z12), some (.int v4), some (.int (g 74 z3.toNatClampNeg)), some (.int 0), some (.int 0)] [.int r32] _ _
              by_cases c37 : ¬ r32.toInt = (0 : Int)
              · refine am_e12t hi_275_166 (am_cT (m := r32.toInt) (n := (0 : Int)) rfl (by decide) c37) ?_
                refine am_e5 (v := v4) (z := z13) (ls' := [some (.ref 39), some (.int v1), some (.int v2), some (.int z12), some (.int z13), some (.int (g 74 z3.toNatClampNeg)), some (.int 0), some (.int 0)]) hi_275_172 rfl hz13 rfl ?_
                refine am_e18 hi_275_175 ?_
                exact ih _ (some (.int (g 74 z3.toNatClampNeg))) (some (.int 0)) (some (.int 0)) v1 z12 z13 hS34 (by show (0 : Int) ≤ z13.toInt; omega) (by show z13.toInt ≤ (65000 : Int); omega) (by show 65000 - z13.toInt < (N : Int); omega)
              · refine am_e12f hi_275_166 (am_cF (m := r32.toInt) (n := (0 : Int)) rfl (by decide) c37) ?_
                obtain ⟨z38, hz38⟩ : ∃ q__, am_bin 0 v1 1 = q__ := ⟨_, rfl⟩
                refine am_e5 (v := v1) (z := z38) (ls' := [some (.ref 39), some (.int z38), some (.int v2), some (.int z12), some (.int v4), some (.int (g 74 z3.toNatClampNeg)), some (.int 0), some (.int 0)]) hi_275_169 rfl hz38 rfl ?_
                refine am_e5 (v := v4) (z := z13) (ls' := [some (.ref 39), some (.int z38), some (.int v2), some (.int z12), some (.int z13), some (.int (g 74 z3.toNatClampNeg)), some (.int 0), some (.int 0)]) hi_275_172 rfl hz13 rfl ?_
                refine am_e18 hi_275_175 ?_
                exact ih _ (some (.int (g 74 z3.toNatClampNeg))) (some (.int 0)) (some (.int 0)) z38 z12 z13 hS34 (by show (0 : Int) ≤ z13.toInt; omega) (by show z13.toInt ≤ (65000 : Int); omega) (by show 65000 - z13.toInt < (N : Int); omega)
          · refine am_e13f hi_275_116 (am_cF (m := (g 70 (g 74 z3.toNatClampNeg).toNatClampNeg).toInt) (n := (45 : Int)) rfl (by decide) c27) ?_
            refine am_e0 hi_275_119 ?_
            refine am_e18 hi_275_120 ?_
            refine am_e3 (ls' := [some (.ref 39), some (.int v1), some (.int v2), some (.int z12), some (.int v4), some (.int (g 74 z3.toNatClampNeg)), some (.int 0), some (.int 1)]) hi_275_124 (Nat.le_of_ble_eq_true rfl) rfl ?_
            refine am_e1 (v := 0) hi_275_126 rfl ?_
            refine am_e12f hi_275_128 (by decide) ?_
            refine am_e1 (v := z12) hi_275_131 rfl ?_
            by_cases c39 : z12.toInt < (0 : Int)
            · refine am_e12t hi_275_132 (am_cT (m := z12.toInt) (n := (0 : Int)) rfl (by decide) c39) ?_
              obtain ⟨z40, hz40⟩ : ∃ q__, am_bin 0 v1 1 = q__ := ⟨_, rfl⟩
              refine am_e5 (v := v1) (z := z40) (ls' := [some (.ref 39), some (.int z40), some (.int v2), some (.int z12), some (.int v4), some (.int (g 74 z3.toNatClampNeg)), some (.int 0), some (.int 1)]) hi_275_169 rfl hz40 rfl ?_
              refine am_e5 (v := v4) (z := z13) (ls' := [some (.ref 39), some (.int z40), some (.int v2), some (.int z12), some (.int z13), some (.int (g 74 z3.toNatClampNeg)), some (.int 0), some (.int 1)]) hi_275_172 rfl hz13 rfl ?_
              refine am_e18 hi_275_175 ?_
              exact ih _ (some (.int (g 74 z3.toNatClampNeg))) (some (.int 0)) (some (.int 1)) z40 z12 z13 hS10 (by show (0 : Int) ≤ z13.toInt; omega) (by show z13.toInt ≤ (65000 : Int); omega) (by show 65000 - z13.toInt < (N : Int); omega)
            · refine am_e12f hi_275_132 (am_cF (m := z12.toInt) (n := (0 : Int)) rfl (by decide) c39) ?_
              refine am_e1 (v := 1) hi_275_135 rfl ?_
              refine am_e12t hi_275_137 (by decide) ?_
              obtain ⟨z41, hz41⟩ : ∃ q__, am_bin 0 v1 1 = q__ := ⟨_, rfl⟩
              refine am_e5 (v := v1) (z := z41) (ls' := [some (.ref 39), some (.int z41), some (.int v2), some (.int z12), some (.int v4), some (.int (g 74 z3.toNatClampNeg)), some (.int 0), some (.int 1)]) hi_275_169 rfl hz41 rfl ?_
              refine am_e5 (v := v4) (z := z13) (ls' := [some (.ref 39), some (.int z41), some (.int v2), some (.int z12), some (.int z13), some (.int (g 74 z3.toNatClampNeg)), some (.int 0), some (.int 1)]) hi_275_172 rfl hz13 rfl ?_
              refine am_e18 hi_275_175 ?_
              exact ih _ (some (.int (g 74 z3.toNatClampNeg))) (some (.int 0)) (some (.int 1)) z41 z12 z13 hS10 (by show (0 : Int) ≤ z13.toInt; omega) (by show z13.toInt ≤ (65000 : Int); omega) (by show 65000 - z13.toInt < (N : Int); omega)
      · refine am_e13f hi_275_53 (am_cF (m := (g 70 (g 74 z3.toNatClampNeg).toNatClampNeg).toInt) (n := (34 : Int)) rfl (by decide) c5) ?_
        refine am_e1 (v := v3) hi_275_56 rfl ?_
        by_cases c42 : v3.toInt = (0 : Int)
        · refine am_e12t hi_275_57 (am_cT (m := v3.toInt) (n := (0 : Int)) rfl (by decide) c42) ?_
          refine am_e0 hi_275_64 ?_
          refine am_e3 (ls' := [some (.ref 39), some (.int v1), some (.int v2), some (.int v3), some (.int v4), some (.int (g 74 z3.toNatClampNeg)), some (.int 0), x7]) hi_275_65 (Nat.le_of_ble_eq_true rfl) rfl ?_
          refine am_e1 (v := v3) hi_275_67 rfl ?_
          refine am_e2 (v := 39) hi_275_68 rfl ?_
          refine mm_20 (v := .ref 89) hS hi_275_69 rfl ?_
          refine am_e1 (v := g 74 z3.toNatClampNeg) hi_275_72 rfl ?_
          refine mm_25 hS ma_70 hi_275_74 (by decide) (by omega) (by omega) ?_
          show am_E _ _ _ _ [some (.ref 39), some (.int v1), some (.int v2), some (.int v3), some (.int v4), some (.int (g 74 z3.toNatClampNeg)), some (.int 0), x7] [.int (g 70 (g 74 z3.toNatClampNeg).toNatClampNeg), .int v3] _ _
          refine am_e2 (v := 39) hi_275_75 rfl ?_
          refine mm_20 (v := .ref 90) hS hi_275_76 rfl ?_
          refine am_e1 (v := g 74 z3.toNatClampNeg) hi_275_79 rfl ?_
          refine mm_25 hS ma_71 hi_275_81 (by decide) (by omega) (by omega) ?_
          show am_E _ _ _ _ [some (.ref 39), some (.int v1), some (.int v2), some (.int v3), some (.int v4), some (.int (g 74 z3.toNatClampNeg)), some (.int 0), x7] [.int (g 71 (g 74 z3.toNatClampNeg).toNatClampNeg), .int (g 70 (g 74 z3.toNatClampNeg).toNatClampNeg), .int v3] _ _
          refine am_e2 (v := 39) hi_275_82 rfl ?_
          refine mm_20 (v := .ref 91) hS hi_275_83 rfl ?_
          refine am_e1 (v := g 74 z3.toNatClampNeg) hi_275_86 rfl ?_
          refine mm_25 hS ma_72 hi_275_88 (by decide) (by omega) (by omega) ?_
          show am_E _ _ _ _ [some (.ref 39), some (.int v1), some (.int v2), some (.int v3), some (.int v4), some (.int (g 74 z3.toNatClampNeg)), some (.int 0), x7] [.int (g 72 (g 74 z3.toNatClampNeg).toNatClampNeg), .int (g 71 (g 74 z3.toNatClampNeg).toNatClampNeg), .int (g 70 (g 74 z3.toNatClampNeg).toNatClampNeg), .int v3] _ _
          refine am_e32n (as := [.int (g 70 (g 74 z3.toNatClampNeg).toNatClampNeg), .int (g 71 (g 74 z3.toNatClampNeg).toNatClampNeg), .int (g 72 (g 74 z3.toNatClampNeg).toNatClampNeg)]) (la := [some (.int (g 70 (g 74 z3.toNatClampNeg).toNatClampNeg)), some (.int (g 71 (g 74 z3.toNatClampNeg).toNatClampNeg)), some (.int (g 72 (g 74 z3.toNatClampNeg).toNatClampNeg))]) (rest := [.int v3]) hi_275_89 (am_hd0 (M := 275) (by decide) 89) (Nat.le_of_ble_eq_true rfl) (Nat.le_of_ble_eq_true rfl) (show 3 ≤ am_P0.2.2.1 274 from by decide +kernel) rfl rfl rfl rfl (ct_more (d := (d + 1)) hS   ) ?_
          rintro v43 S44 (⟨r45, hv46, hS47⟩)
          subst hv46
          show am_E _ _ _ _ [some (.ref 39), some (.int v1), some (.int v2), some (.int v3), some (.int v4), some (.int (g 74 z3.toNatClampNeg)), some (.int 0), x7] [.int r45, .int v3] _ _
          obtain ⟨z49, hz49⟩ : ∃ q__, am_bin 0 v3 r45 = q__ := ⟨_, rfl⟩
          refine am_e10 (z := z49) hi_275_92 hz49 ?_
          refine am_e3 (ls' := [some (.ref 39), some (.int v1), some (.int v2), some (.int z49), some (.int v4), some (.int (g 74 z3.toNatClampNeg)), some (.int 0), x7]) hi_275_93 (Nat.le_of_ble_eq_true rfl) rfl ?_
          refine am_e1 (v := v4) hi_275_94 rfl ?_
          refine am_e0 hi_275_96 ?_
          obtain ⟨z50, hz50, tz50⟩ := am_addI (x := v4) (y := 1) (m := v4.toInt) (n := (1 : Int)) rfl (by decide) (by omega) (by omega)
          refine am_e10 (z := z50) hi_275_97 hz50 ?_
          refine am_e2 (v := 39) hi_275_98 rfl ?_
          refine mm_20 (v := .ref 81) hS47 hi_275_99 rfl ?_
          refine am_e1 (v := v2) hi_275_102 rfl ?_
          refine mm_25 hS47 ma_60 hi_275_103 (by decide) (by omega) (by omega) ?_
          show am_E _ _ _ _ [some (.ref 39), some (.int v1), some (.int v2), some (.int z49), some (.int v4), some (.int (g 74 z3.toNatClampNeg)), some (.int 0), x7] [.int (g 60 v2.toNatClampNeg), .int z50] _ _
          have r51 : 0 ≤ (g 61 v2.toNatClampNeg).toInt ∧ 0 ≤ (g 60 v2.toNatClampNeg).toInt ∧ (g 61 v2.toNatClampNeg).toInt + (g 60 v2.toNatClampNeg).toInt ≤ 65000 := RI.cb (i := v2) hI (by omega) (by omega)
          by_cases c52 : ¬ z50.toInt = (g 60 v2.toNatClampNeg).toInt
          · refine am_e13t hi_275_104 (am_cT (m := z50.toInt) (n := (g 60 v2.toNatClampNeg).toInt) rfl rfl c52) ?_
            refine am_e0 hi_275_123 ?_
            refine am_e3 (ls' := [some (.ref 39), some (.int v1), some (.int v2), some (.int z49), some (.int v4), some (.int (g 74 z3.toNatClampNeg)), some (.int 0), some (.int 0)]) hi_275_124 (Nat.le_of_ble_eq_true rfl) rfl ?_
            refine am_e1 (v := 0) hi_275_126 rfl ?_
            refine am_e12f hi_275_128 (by decide) ?_
            refine am_e1 (v := z49) hi_275_131 rfl ?_
            by_cases c53 : z49.toInt < (0 : Int)
            · refine am_e12t hi_275_132 (am_cT (m := z49.toInt) (n := (0 : Int)) rfl (by decide) c53) ?_
              obtain ⟨z54, hz54⟩ : ∃ q__, am_bin 0 v1 1 = q__ := ⟨_, rfl⟩
              refine am_e5 (v := v1) (z := z54) (ls' := [some (.ref 39), some (.int z54), some (.int v2), some (.int z49), some (.int v4), some (.int (g 74 z3.toNatClampNeg)), some (.int 0), some (.int 0)]) hi_275_169 rfl hz54 rfl ?_
              refine am_e5 (v := v4) (z := z50) (ls' := [some (.ref 39), some (.int z54), some (.int v2), some (.int z49), some (.int z50), some (.int (g 74 z3.toNatClampNeg)), some (.int 0), some (.int 0)]) hi_275_172 rfl hz50 rfl ?_
              refine am_e18 hi_275_175 ?_
              exact ih _ (some (.int (g 74 z3.toNatClampNeg))) (some (.int 0)) (some (.int 0)) z54 z49 z50 hS47 (by show (0 : Int) ≤ z50.toInt; omega) (by show z50.toInt ≤ (65000 : Int); omega) (by show 65000 - z50.toInt < (N : Int); omega)
            · refine am_e12f hi_275_132 (am_cF (m := z49.toInt) (n := (0 : Int)) rfl (by decide) c53) ?_
              refine am_e1 (v := 0) hi_275_135 rfl ?_
              refine am_e12f hi_275_137 (by decide) ?_
              refine am_e2 (v := 39) hi_275_140 rfl ?_
              refine am_e1 (v := v2) hi_275_141 rfl ?_
              refine am_e2 (v := 39) hi_275_142 rfl ?_
              refine mm_20 (v := .ref 89) hS47 hi_275_143 rfl ?_
              refine am_e1 (v := g 74 z3.toNatClampNeg) hi_275_146 rfl ?_
              refine mm_25 hS47 ma_70 hi_275_148 (by decide) (by omega) (by omega) ?_
              show am_E _ _ _ _ [some (.ref 39), some (.int v1), some (.int v2), some (.int z49), some (.int v4), some (.int (g 74 z3.toNatClampNeg)), some (.int 0), some (.int 0)] [.int (g 70 (g 74 z3.toNatClampNeg).toNatClampNeg), .int v2, .ref 39] _ _
              refine am_e2 (v := 39) hi_275_149 rfl ?_
              refine mm_20 (v := .ref 90) hS47 hi_275_150 rfl ?_
              refine am_e1 (v := g 74 z3.toNatClampNeg) hi_275_153 rfl ?_
              refine mm_25 hS47 ma_71 hi_275_155 (by decide) (by omega) (by omega) ?_
              show am_E _ _ _ _ [some (.ref 39), some (.int v1), some (.int v2), some (.int z49), some (.int v4), some (.int (g 74 z3.toNatClampNeg)), some (.int 0), some (.int 0)] [.int (g 71 (g 74 z3.toNatClampNeg).toNatClampNeg), .int (g 70 (g 74 z3.toNatClampNeg).toNatClampNeg), .int v2, .ref 39] _ _
              refine am_e2 (v := 39) hi_275_156 rfl ?_
              refine mm_20 (v := .ref 91) hS47 hi_275_157 rfl ?_
              refine am_e1 (v := g 74 z3.toNatClampNeg) hi_275_160 rfl ?_
              refine mm_25 hS47 ma_72 hi_275_162 (by decide) (by omega) (by omega) ?_
              show am_E _ _ _ _ [some (.ref 39), some (.int v1), some (.int v2), some (.int z49), some (.int v4), some (.int (g 74 z3.toNatClampNeg)), some (.int 0), some (.int 0)] [.int (g 72 (g 74 z3.toNatClampNeg).toNatClampNeg), .int (g 71 (g 74 z3.toNatClampNeg).toNatClampNeg), .int (g 70 (g 74 z3.toNatClampNeg).toNatClampNeg), .int v2, .ref 39] _ _
              refine am_e32n (as := [.ref 39, .int v2, .int (g 70 (g 74 z3.toNatClampNeg).toNatClampNeg), .int (g 71 (g 74 z3.toNatClampNeg).toNatClampNeg), .int (g 72 (g 74 z3.toNatClampNeg).toNatClampNeg)]) (la := [some (.ref 39), some (.int v2), some (.int (g 70 (g 74 z3.toNatClampNeg).toNatClampNeg)), some (.int (g 71 (g 74 z3.toNatClampNeg).toNatClampNeg)), some (.int (g 72 (g 74 z3.toNatClampNeg).toNatClampNeg)), none]) (rest := []) hi_275_163 (am_hd0 (M := 275) (by decide) 163) (Nat.le_of_ble_eq_true rfl) (Nat.le_of_ble_eq_true rfl) (show 5 ≤ am_P0.2.2.1 276 from by decide +kernel) rfl (am_recv_ok hS47.fs) rfl rfl (ct_isRight (d := d) hS47   (by show (0 : Int) ≤ v2.toInt; omega) (by show v2.toInt < (f 53).toInt; omega) (by show (0 : Int) ≤ (f 53).toInt; omega) (by show (f 53).toInt ≤ (600 : Int); omega)) ?_
              rintro v55 S56 (⟨r57, hv58, hS59, h60⟩)
              subst hv58
              have h60_ : r57 = 0 ∨ r57 = 1 := h60
              show am_E _ _ _ _ [some (.ref 39), some (.int v1), some (.int v2), some (.int z49), some (.int v4), some (.int (g 74 z3.toNatClampNeg)), some (.int 0), some (.int 0)] [.int r57] _ _
              by_cases c62 : ¬ r57.toInt = (0 : Int)
              · refine am_e12t hi_275_166 (am_cT (m := r57.toInt) (n := (0 : Int)) rfl (by decide) c62) ?_
                refine am_e5 (v := v4) (z := z50) (ls' := [some (.ref 39), some (.int v1), some (.int v2), some (.int z49), some (.int z50), some (.int (g 74 z3.toNatClampNeg)), some (.int 0), some (.int 0)]) hi_275_172 rfl hz50 rfl ?_
                refine am_e18 hi_275_175 ?_
                exact ih _ (some (.int (g 74 z3.toNatClampNeg))) (some (.int 0)) (some (.int 0)) v1 z49 z50 hS59 (by show (0 : Int) ≤ z50.toInt; omega) (by show z50.toInt ≤ (65000 : Int); omega) (by show 65000 - z50.toInt < (N : Int); omega)
              · refine am_e12f hi_275_166 (am_cF (m := r57.toInt) (n := (0 : Int)) rfl (by decide) c62) ?_
                obtain ⟨z63, hz63⟩ : ∃ q__, am_bin 0 v1 1 = q__ := ⟨_, rfl⟩
                refine am_e5 (v := v1) (z := z63) (ls' := [some (.ref 39), some (.int z63), some (.int v2), some (.int z49), some (.int v4), some (.int (g 74 z3.toNatClampNeg)), some (.int 0), some (.int 0)]) hi_275_169 rfl hz63 rfl ?_
                refine am_e5 (v := v4) (z := z50) (ls' := [some (.ref 39), some (.int z63), some (.int v2), some (.int z49), some (.int z50), some (.int (g 74 z3.toNatClampNeg)), some (.int 0), some (.int 0)]) hi_275_172 rfl hz50 rfl ?_
                refine am_e18 hi_275_175 ?_
                exact ih _ (some (.int (g 74 z3.toNatClampNeg))) (some (.int 0)) (some (.int 0)) z63 z49 z50 hS59 (by show (0 : Int) ≤ z50.toInt; omega) (by show z50.toInt ≤ (65000 : Int); omega) (by show 65000 - z50.toInt < (N : Int); omega)
          · refine am_e13f hi_275_104 (am_cF (m := z50.toInt) (n := (g 60 v2.toNatClampNeg).toInt) rfl rfl c52) ?_
            refine am_e2 (v := 39) hi_275_107 rfl ?_
            refine mm_20 (v := .ref 89) hS47 hi_275_108 rfl ?_
            refine am_e1 (v := g 74 z3.toNatClampNeg) hi_275_111 rfl ?_
            refine mm_25 hS47 ma_70 hi_275_113 (by decide) (by omega) (by omega) ?_
            show am_E _ _ _ _ [some (.ref 39), some (.int v1), some (.int v2), some (.int z49), some (.int v4), some (.int (g 74 z3.toNatClampNeg)), some (.int 0), x7] [.int (g 70 (g 74 z3.toNatClampNeg).toNatClampNeg)] _ _
            refine am_e0 hi_275_114 ?_
            refine am_e13f hi_275_116 (am_cF (m := (g 70 (g 74 z3.toNatClampNeg).toNatClampNeg).toInt) (n := (45 : Int)) rfl (by decide) (by simp only [am_cI]; omega)) ?_
            refine am_e0 hi_275_119 ?_
            refine am_e18 hi_275_120 ?_
            refine am_e3 (ls' := [some (.ref 39), some (.int v1), some (.int v2), some (.int z49), some (.int v4), some (.int (g 74 z3.toNatClampNeg)), some (.int 0), some (.int 1)]) hi_275_124 (Nat.le_of_ble_eq_true rfl) rfl ?_
            refine am_e1 (v := 0) hi_275_126 rfl ?_
            refine am_e12f hi_275_128 (by decide) ?_
            refine am_e1 (v := z49) hi_275_131 rfl ?_
            by_cases c64 : z49.toInt < (0 : Int)
            · refine am_e12t hi_275_132 (am_cT (m := z49.toInt) (n := (0 : Int)) rfl (by decide) c64) ?_
              obtain ⟨z65, hz65⟩ : ∃ q__, am_bin 0 v1 1 = q__ := ⟨_, rfl⟩
              refine am_e5 (v := v1) (z := z65) (ls' := [some (.ref 39), some (.int z65), some (.int v2), some (.int z49), some (.int v4), some (.int (g 74 z3.toNatClampNeg)), some (.int 0), some (.int 1)]) hi_275_169 rfl hz65 rfl ?_
              refine am_e5 (v := v4) (z := z50) (ls' := [some (.ref 39), some (.int z65), some (.int v2), some (.int z49), some (.int z50), some (.int (g 74 z3.toNatClampNeg)), some (.int 0), some (.int 1)]) hi_275_172 rfl hz50 rfl ?_
              refine am_e18 hi_275_175 ?_
              exact ih _ (some (.int (g 74 z3.toNatClampNeg))) (some (.int 0)) (some (.int 1)) z65 z49 z50 hS47 (by show (0 : Int) ≤ z50.toInt; omega) (by show z50.toInt ≤ (65000 : Int); omega) (by show 65000 - z50.toInt < (N : Int); omega)
            · refine am_e12f hi_275_132 (am_cF (m := z49.toInt) (n := (0 : Int)) rfl (by decide) c64) ?_
              refine am_e1 (v := 1) hi_275_135 rfl ?_
              refine am_e12t hi_275_137 (by decide) ?_
              obtain ⟨z66, hz66⟩ : ∃ q__, am_bin 0 v1 1 = q__ := ⟨_, rfl⟩
              refine am_e5 (v := v1) (z := z66) (ls' := [some (.ref 39), some (.int z66), some (.int v2), some (.int z49), some (.int v4), some (.int (g 74 z3.toNatClampNeg)), some (.int 0), some (.int 1)]) hi_275_169 rfl hz66 rfl ?_
              refine am_e5 (v := v4) (z := z50) (ls' := [some (.ref 39), some (.int z66), some (.int v2), some (.int z49), some (.int z50), some (.int (g 74 z3.toNatClampNeg)), some (.int 0), some (.int 1)]) hi_275_172 rfl hz50 rfl ?_
              refine am_e18 hi_275_175 ?_
              exact ih _ (some (.int (g 74 z3.toNatClampNeg))) (some (.int 0)) (some (.int 1)) z66 z49 z50 hS47 (by show (0 : Int) ≤ z50.toInt; omega) (by show z50.toInt ≤ (65000 : Int); omega) (by show 65000 - z50.toInt < (N : Int); omega)
        · refine am_e12f hi_275_57 (am_cF (m := v3.toInt) (n := (0 : Int)) rfl (by decide) c42) ?_
          refine am_e0 hi_275_60 ?_
          refine am_e18 hi_275_61 ?_
          refine am_e3 (ls' := [some (.ref 39), some (.int v1), some (.int v2), some (.int v3), some (.int v4), some (.int (g 74 z3.toNatClampNeg)), some (.int 1), x7]) hi_275_65 (Nat.le_of_ble_eq_true rfl) rfl ?_
          refine am_e1 (v := v3) hi_275_67 rfl ?_
          refine am_e2 (v := 39) hi_275_68 rfl ?_
          refine mm_20 (v := .ref 89) hS hi_275_69 rfl ?_
          refine am_e1 (v := g 74 z3.toNatClampNeg) hi_275_72 rfl ?_
          refine mm_25 hS ma_70 hi_275_74 (by decide) (by omega) (by omega) ?_
          show am_E _ _ _ _ [some (.ref 39), some (.int v1), some (.int v2), some (.int v3), some (.int v4), some (.int (g 74 z3.toNatClampNeg)), some (.int 1), x7] [.int (g 70 (g 74 z3.toNatClampNeg).toNatClampNeg), .int v3] _ _
          refine am_e2 (v := 39) hi_275_75 rfl ?_
          refine mm_20 (v := .ref 90) hS hi_275_76 rfl ?_
          refine am_e1 (v := g 74 z3.toNatClampNeg) hi_275_79 rfl ?_
          refine mm_25 hS ma_71 hi_275_81 (by decide) (by omega) (by omega) ?_
          show am_E _ _ _ _ [some (.ref 39), some (.int v1), some (.int v2), some (.int v3), some (.int v4), some (.int (g 74 z3.toNatClampNeg)), some (.int 1), x7] [.int (g 71 (g 74 z3.toNatClampNeg).toNatClampNeg), .int (g 70 (g 74 z3.toNatClampNeg).toNatClampNeg), .int v3] _ _
          refine am_e2 (v := 39) hi_275_82 rfl ?_
          refine mm_20 (v := .ref 91) hS hi_275_83 rfl ?_
          refine am_e1 (v := g 74 z3.toNatClampNeg) hi_275_86 rfl ?_
          refine mm_25 hS ma_72 hi_275_88 (by decide) (by omega) (by omega) ?_
          show am_E _ _ _ _ [some (.ref 39), some (.int v1), some (.int v2), some (.int v3), some (.int v4), some (.int (g 74 z3.toNatClampNeg)), some (.int 1), x7] [.int (g 72 (g 74 z3.toNatClampNeg).toNatClampNeg), .int (g 71 (g 74 z3.toNatClampNeg).toNatClampNeg), .int (g 70 (g 74 z3.toNatClampNeg).toNatClampNeg), .int v3] _ _
          refine am_e32n (as := [.int (g 70 (g 74 z3.toNatClampNeg).toNatClampNeg), .int (g 71 (g 74 z3.toNatClampNeg).toNatClampNeg), .int (g 72 (g 74 z3.toNatClampNeg).toNatClampNeg)]) (la := [some (.int (g 70 (g 74 z3.toNatClampNeg).toNatClampNeg)), some (.int (g 71 (g 74 z3.toNatClampNeg).toNatClampNeg)), some (.int (g 72 (g 74 z3.toNatClampNeg).toNatClampNeg))]) (rest := [.int v3]) hi_275_89 (am_hd0 (M := 275) (by decide) 89) (Nat.le_of_ble_eq_true rfl) (Nat.le_of_ble_eq_true rfl) (show 3 ≤ am_P0.2.2.1 274 from by decide +kernel) rfl rfl rfl rfl (ct_more (d := (d + 1)) hS   ) ?_
          rintro v67 S68 (⟨r69, hv70, hS71⟩)
          subst hv70
          show am_E _ _ _ _ [some (.ref 39), some (.int v1), some (.int v2), some (.int v3), some (.int v4), some (.int (g 74 z3.toNatClampNeg)), some (.int 1), x7] [.int r69, .int v3] _ _
          obtain ⟨z73, hz73⟩ : ∃ q__, am_bin 0 v3 r69 = q__ := ⟨_, rfl⟩
          refine am_e10 (z := z73) hi_275_92 hz73 ?_
          refine am_e3 (ls' := [some (.ref 39), some (.int v1), some (.int v2), some (.int z73), some (.int v4), some (.int (g 74 z3.toNatClampNeg)), some (.int 1), x7]) hi_275_93 (Nat.le_of_ble_eq_true rfl) rfl ?_
          refine am_e1 (v := v4) hi_275_94 rfl ?_
          refine am_e0 hi_275_96 ?_
          obtain ⟨z74, hz74, tz74⟩ := am_addI (x := v4) (y := 1) (m := v4.toInt) (n := (1 : Int)) rfl (by decide) (by omega) (by omega)
          refine am_e10 (z := z74) hi_275_97 hz74 ?_
          refine am_e2 (v := 39) hi_275_98 rfl ?_
          refine mm_20 (v := .ref 81) hS71 hi_275_99 rfl ?_
          refine am_e1 (v := v2) hi_275_102 rfl ?_
          refine mm_25 hS71 ma_60 hi_275_103 (by decide) (by omega) (by omega) ?_
          show am_E _ _ _ _ [some (.ref 39), some (.int v1), some (.int v2), some (.int z73), some (.int v4), some (.int (g 74 z3.toNatClampNeg)), some (.int 1), x7] [.int (g 60 v2.toNatClampNeg), .int z74] _ _
          have r75 : 0 ≤ (g 61 v2.toNatClampNeg).toInt ∧ 0 ≤ (g 60 v2.toNatClampNeg).toInt ∧ (g 61 v2.toNatClampNeg).toInt + (g 60 v2.toNatClampNeg).toInt ≤ 65000 := RI.cb (i := v2) hI (by omega) (by omega)
          by_cases c76 : ¬ z74.toInt = (g 60 v2.toNatClampNeg).toInt
          · refine am_e13t hi_275_104 (am_cT (m := z74.toInt) (n := (g 60 v2.toNatClampNeg).toInt) rfl rfl c76) ?_
            refine am_e0 hi_275_123 ?_
            refine am_e3 (ls' := [some (.ref 39), some (.int v1), some (.int v2), some (.int z73), some (.int v4), some (.int (g 74 z3.toNatClampNeg)), some (.int 1), some (.int 0)]) hi_275_124 (Nat.le_of_ble_eq_true rfl) rfl ?_
            refine am_e1 (v := 1) hi_275_126 rfl ?_
            refine am_e12t hi_275_128 (by decide) ?_
            obtain ⟨z77, hz77⟩ : ∃ q__, am_bin 0 v1 1 = q__ := ⟨_, rfl⟩
            refine am_e5 (v := v1) (z := z77) (ls' := [some (.ref 39), some (.int z77), some (.int v2), some (.int z73), some (.int v4), some (.int (g 74 z3.toNatClampNeg)), some (.int 1), some (.int 0)]) hi_275_169 rfl hz77 rfl ?_
            refine am_e5 (v := v4) (z := z74) (ls' := [some (.ref 39), some (.int z77), some (.int v2), some (.int z73), some (.int z74), some (.int (g 74 z3.toNatClampNeg)), some (.int 1), some (.int 0)]) hi_275_172 rfl hz74 rfl ?_
            refine am_e18 hi_275_175 ?_
            exact ih _ (some (.int (g 74 z3.toNatClampNeg))) (some (.int 1)) (some (.int 0)) z77 z73 z74 hS71 (by show (0 : Int) ≤ z74.toInt; omega) (by show z74.toInt ≤ (65000 : Int); omega) (by show 65000 - z74.toInt < (N : Int); omega)
          · refine am_e13f hi_275_104 (am_cF (m := z74.toInt) (n := (g 60 v2.toNatClampNeg).toInt) rfl rfl c76) ?_
            refine am_e2 (v := 39) hi_275_107 rfl ?_
            refine mm_20 (v := .ref 89) hS71 hi_275_108 rfl ?_
            refine am_e1 (v := g 74 z3.toNatClampNeg) hi_275_111 rfl ?_
            refine mm_25 hS71 ma_70 hi_275_113 (by decide) (by omega) (by omega) ?_
            show am_E _ _ _ _ [some (.ref 39), some (.int v1), some (.int v2), some (.int z73), some (.int v4), some (.int (g 74 z3.toNatClampNeg)), some (.int 1), x7] [.int (g 70 (g 74 z3.toNatClampNeg).toNatClampNeg)] _ _
            refine am_e0 hi_275_114 ?_
            refine am_e13f hi_275_116 (am_cF (m := (g 70 (g 74 z3.toNatClampNeg).toNatClampNeg).toInt) (n := (45 : Int)) rfl (by decide) (by simp only [am_cI]; omega)) ?_
            refine am_e0 hi_275_119 ?_
            refine am_e18 hi_275_120 ?_
            refine am_e3 (ls' := [some (.ref 39), some (.int v1), some (.int v2), some (.int z73), some (.int v4), some (.int (g 74 z3.toNatClampNeg)), some (.int 1), some (.int 1)]) hi_275_124 (Nat.le_of_ble_eq_true rfl) rfl ?_
            refine am_e1 (v := 1) hi_275_126 rfl ?_
            refine am_e12t hi_275_128 (by decide) ?_
            obtain ⟨z78, hz78⟩ : ∃ q__, am_bin 0 v1 1 = q__ := ⟨_, rfl⟩
            refine am_e5 (v := v1) (z := z78) (ls' := [some (.ref 39), some (.int z78), some (.int v2), some (.int z73), some (.int v4), some (.int (g 74 z3.toNatClampNeg)), some (.int 1), some (.int 1)]) hi_275_169 rfl hz78 rfl ?_
            refine am_e5 (v := v4) (z := z74) (ls' := [some (.ref 39), some (.int z78), some (.int v2), some (.int z73), some (.int z74), some (.int (g 74 z3.toNatClampNeg)), some (.int 1), some (.int 1)]) hi_275_172 rfl hz74 rfl ?_
            refine am_e18 hi_275_175 ?_
            exact ih _ (some (.int (g 74 z3.toNatClampNeg))) (some (.int 1)) (some (.int 1)) z78 z73 z74 hS71 (by show (0 : Int) ≤ z74.toInt; omega) (by show z74.toInt ≤ (65000 : Int); omega) (by show 65000 - z74.toInt < (N : Int); omega)
theorem lp_flaws {sc : Nat × (Nat → Int32)} {d : Nat} {S0 : am_S} {f : Nat → Int32} {g : Nat → Nat → Int32}  (hI : RI f g) (p0 : (0 : Int) ≤ (f 53).toInt) (p1 : (f 53).toInt ≤ (600 : Int)) : ∀ (N : Nat) (S : am_S) (x3 : Option Value) (x4 : Option Value) (x5 : Option Value) (x6 : Option Value) (x7 : Option Value) (v1 v2 : Int32), MS S0 S f g → (0 : Int) ≤ v2.toInt → v2.toInt ≤ (f 53).toInt → (f 53).toInt - v2.toInt < (N : Int) → am_E (am_PP sc) (d + 2) 275 4 [some (.ref 39), some (.int v1), some (.int v2), x3, x4, x5, x6, x7] [] S (am_N fun v S1 => (∃ r : Int32, v = some (.int r) ∧ MS S0 S1 f g)) := by
  intro N
  induction N with
  | zero =>
    intro S x3 x4 x5 x6 x7 v1 v2   hS   i0 i1 hN
    exfalso
    omega
  | succ N ih =>
    intro S x3 x4 x5 x6 x7 v1 v2   hS   i0 i1 hN
    refine am_e1 (v := v2) hi_275_4 rfl ?_
    refine am_e2 (v := 39) hi_275_5 rfl ?_
    refine mm_20 (v := .int (f 53)) hS hi_275_6 rfl ?_
    by_cases c0 : (f 53).toInt ≤ v2.toInt
    · refine am_e13t hi_275_9 (am_cT (m := v2.toInt) (n := (f 53).toInt) rfl rfl c0) ?_
      refine am_e1 (v := v1) hi_275_184 rfl ?_
      refine am_e33 hi_275_185 ?_
      exact ⟨v1, rfl, hS⟩
    · refine am_e13f hi_275_9 (am_cF (m := v2.toInt) (n := (f 53).toInt) rfl rfl c0) ?_
      refine am_e0 hi_275_12 ?_
      refine am_e3 (ls' := [some (.ref 39), some (.int v1), some (.int v2), some (.int 0), x4, x5, x6, x7]) hi_275_13 (Nat.le_of_ble_eq_true rfl) rfl ?_
      refine am_e0 hi_275_14 ?_
      refine am_e3 (ls' := [some (.ref 39), some (.int v1), some (.int v2), some (.int 0), some (.int 0), x5, x6, x7]) hi_275_15 (Nat.le_of_ble_eq_true rfl) rfl ?_
      refine fr_flaws (d := d) (f := f) (g := g) (v2 := v2) (hI) (by show (0 : Int) ≤ (f 53).toInt; omega) (by show (f 53).toInt ≤ (600 : Int); omega) (by show (0 : Int) ≤ v2.toInt; omega) (by show v2.toInt < (f 53).toInt; omega) ?_ ((65000 - (0 : Int)).toNat + 1) _ x5 x6 x7 v1 0 0 hS (by show (0 : Int) ≤ (0 : Int); omega) (by show (0 : Int) ≤ (65000 : Int); omega) (by show 65000 - (0 : Int) < _; omega)
      · intro S2 x35 x46 x57 x68 x79 v11 hS3
        show am_E _ _ _ _ [some (.ref 39), some (.int v11), some (.int v2), x35, x46, x57, x68, x79] [] _ _
        obtain ⟨z10, hz10, tz10⟩ := am_addI (x := v2) (y := 1) (m := v2.toInt) (n := (1 : Int)) rfl (by decide) (by omega) (by omega)
        refine am_e5 (v := v2) (z := z10) (ls' := [some (.ref 39), some (.int v11), some (.int z10), x35, x46, x57, x68, x79]) hi_275_178 rfl hz10 rfl ?_
        refine am_e18 hi_275_181 ?_
        exact ih _ x35 x46 x57 x68 x79 v11 z10 hS3 (by show (0 : Int) ≤ z10.toInt; omega) (by show z10.toInt ≤ (f 53).toInt; omega) (by show (f 53).toInt - z10.toInt < (N : Int); omega)
theorem ct_flaws {sc : Nat × (Nat → Int32)} {d : Nat} {S0 S : am_S} {f : Nat → Int32} {g : Nat → Nat → Int32} (hS : MS S0 S f g) (hI : RI f g) (p0 : (0 : Int) ≤ (f 53).toInt) (p1 : (f 53).toInt ≤ (600 : Int)) : am_E (am_PP sc) (d + 2) 275 0 [some (.ref 39), none, none, none, none, none, none, none] [] S (am_N fun v S1 => (∃ r : Int32, v = some (.int r) ∧ MS S0 S1 f g)) := by
  refine am_e0 hi_275_0 ?_
  refine am_e3 (ls' := [some (.ref 39), some (.int 0), none, none, none, none, none, none]) hi_275_1 (Nat.le_of_ble_eq_true rfl) rfl ?_
  refine am_e0 hi_275_2 ?_
  refine am_e3 (ls' := [some (.ref 39), some (.int 0), some (.int 0), none, none, none, none, none]) hi_275_3 (Nat.le_of_ble_eq_true rfl) rfl ?_
  exact lp_flaws hI p0 p1 (((f 53).toInt - (0 : Int)).toNat + 1) _ none none none none none 0 0 hS (by show (0 : Int) ≤ (0 : Int); omega) (by show (0 : Int) ≤ (f 53).toInt; omega) (by show (f 53).toInt - (0 : Int) < _; omega)
theorem ct_word {sc : Nat × (Nat → Int32)} {d : Nat} {S0 S : am_S} {f : Nat → Int32} {g : Nat → Nat → Int32} {x : Int32} {y : Int32} (hS : MS S0 S f g) (p0 : (0 : Int) ≤ (f 0).toInt) (p1 : (f 0).toInt ≤ (16383 : Int)) : am_E (am_PP sc) (d + 0) 174 0 [some (.ref 39), some (.int x), some (.int y), none] [] S (am_N fun v S1 => (∃ r : Int32, ∃ z : Int32, ∃ g' : Nat → Nat → Int32, v = some (.int r) ∧ MS S0 S1 (upd f 0 z) g' ∧ (∀ j, j ∉ [1, 2] → g' j = g j) ∧ (r.toInt = (if mw_ok x.toInt then (f 0).toInt + 1 else -1) ∧ z.toInt = (if mw_ok x.toInt then (f 0).toInt + 1 else (f 0).toInt)))) := by
  refine am_e1 (v := x) hi_174_0 rfl ?_
  refine am_e0 hi_174_1 ?_
  by_cases c0 : x.toInt < (1 : Int)
  · refine am_e13t hi_174_2 (am_cT (m := x.toInt) (n := (1 : Int)) rfl (by decide) c0) ?_
    refine am_e1 (v := x) hi_174_10 rfl ?_
    refine am_e0 hi_174_11 ?_
    refine am_e13t hi_174_13 (am_cT (m := x.toInt) (n := (10 : Int)) rfl (by decide) (by simp only [am_cI]; omega)) ?_
    refine am_e1 (v := x) hi_174_22 rfl ?_
    refine am_e0 hi_174_23 ?_
    refine am_e13t hi_174_25 (am_cT (m := x.toInt) (n := (40 : Int)) rfl (by decide) (by simp only [am_cI]; omega)) ?_
    refine am_e0 hi_174_38 ?_
    refine am_e3 (ls' := [some (.ref 39), some (.int x), some (.int y), some (.int 0)]) hi_174_39 (Nat.le_of_ble_eq_true rfl) rfl ?_
    refine am_e1 (v := 0) hi_174_40 rfl ?_
    refine am_e12f hi_174_41 (by decide) ?_
    refine am_e0 hi_174_44 ?_
    refine am_e33 hi_174_45 ?_
    exact ⟨(-1), (f 0), g, rfl, (by rw [upd_self]; exact hS), (fun _ _ => rfl), (mw_no (by show ¬ mw_ok x.toInt; unfold mw_ok; omega))⟩
  · refine am_e13f hi_174_2 (am_cF (m := x.toInt) (n := (1 : Int)) rfl (by decide) c0) ?_
    refine am_e1 (v := x) hi_174_5 rfl ?_
    refine am_e0 hi_174_6 ?_
    by_cases c1 : x.toInt ≤ (3 : Int)
    · refine am_e13t hi_174_7 (am_cT (m := x.toInt) (n := (3 : Int)) rfl (by decide) c1) ?_
      refine am_e0 hi_174_34 ?_
      refine am_e18 hi_174_35 ?_
      refine am_e3 (ls' := [some (.ref 39), some (.int x), some (.int y), some (.int 1)]) hi_174_39 (Nat.le_of_ble_eq_true rfl) rfl ?_
      refine am_e1 (v := 1) hi_174_40 rfl ?_
      refine am_e12t hi_174_41 (by decide) ?_
      refine am_e2 (v := 39) hi_174_46 rfl ?_
      refine mm_20 (v := .int (f 0)) hS hi_174_47 rfl ?_
      refine am_e0 hi_174_50 ?_
      refine am_e13t hi_174_53 (am_cT (m := (f 0).toInt) (n := (16384 : Int)) rfl (by decide) (by simp only [am_cI]; omega)) ?_
      refine am_e2 (v := 39) hi_174_59 rfl ?_
      refine mm_20 (v := .ref 40) hS hi_174_60 rfl ?_
      refine am_e2 (v := 39) hi_174_63 rfl ?_
      refine mm_20 (v := .int (f 0)) hS hi_174_64 rfl ?_
      refine am_e1 (v := x) hi_174_67 rfl ?_
      refine mm_26 hS ma_1 hi_174_68 (by decide) (by omega) (by omega) (fun h => nomatch h) ?_
      intro S2 hS3
      refine am_e2 (v := 39) hi_174_69 rfl ?_
      refine mm_20 (v := .ref 41) hS3 hi_174_70 rfl ?_
      refine am_e2 (v := 39) hi_174_73 rfl ?_
      refine mm_20 (v := .int (f 0)) hS3 hi_174_74 rfl ?_
      refine am_e1 (v := y) hi_174_77 rfl ?_
      refine mm_26 hS3 ma_2 hi_174_78 (by decide) (by omega) (by omega) (fun h => nomatch h) ?_
      intro S4 hS5
      refine am_e2 (v := 39) hi_174_79 rfl ?_
      refine am_e7 hi_174_80 ?_
      refine mm_20 (v := .int (f 0)) hS5 hi_174_81 rfl ?_
      refine am_e0 hi_174_84 ?_
      obtain ⟨z6, hz6, tz6⟩ := am_addI (x := f 0) (y := 1) (m := (f 0).toInt) (n := (1 : Int)) rfl (by decide) (by omega) (by omega)
      refine am_e10 (z := z6) hi_174_85 hz6 ?_
      refine mm_21 (v := z6) hS5 hi_174_86 rfl (Nat.le_of_ble_eq_true rfl) ms_0 ?_
      intro S7 hS8
      refine am_e2 (v := 39) hi_174_89 rfl ?_
      refine mm_20 (v := .int z6) hS8 hi_174_90 rfl ?_
      refine am_e33 hi_174_93 ?_
      exact ⟨z6, z6, _, rfl, hS8, (show ∀ j, j ∉ [1, 2] → (upg (upg g 1 (f 0).toNatClampNeg x) 2 (f 0).toNatClampNeg y) j = g j from by intro j hj; simp only [List.mem_cons, List.not_mem_nil, or_false, not_or] at hj; simp only [upg, hj, if_false]), (mw_yes (by show mw_ok x.toInt; unfold mw_ok; omega) (by omega) (by omega))⟩
    · refine am_e13f hi_174_7 (am_cF (m := x.toInt) (n := (3 : Int)) rfl (by decide) c1) ?_
      refine am_e1 (v := x) hi_174_10 rfl ?_
      refine am_e0 hi_174_11 ?_
      by_cases c9 : x.toInt < (10 : Int)
      · refine am_e13t hi_174_13 (am_cT (m := x.toInt) (n := (10 : Int)) rfl (by decide) c9) ?_
        refine am_e1 (v := x) hi_174_22 rfl ?_
        refine am_e0 hi_174_23 ?_
        refine am_e13t hi_174_25 (am_cT (m := x.toInt) (n := (40 : Int)) rfl (by decide) (by simp only [am_cI]; omega)) ?_
        refine am_e0 hi_174_38 ?_
        refine am_e3 (ls' := [some (.ref 39), some (.int x), some (.int y), some (.int 0)]) hi_174_39 (Nat.le_of_ble_eq_true rfl) rfl ?_
        refine am_e1 (v := 0) hi_174_40 rfl ?_
        refine am_e12f hi_174_41 (by decide) ?_
        refine am_e0 hi_174_44 ?_
        refine am_e33 hi_174_45 ?_
        exact ⟨(-1), (f 0), g, rfl, (by rw [upd_self]; exact hS), (fun _ _ => rfl), (mw_no (by show ¬ mw_ok x.toInt; unfold mw_ok; omega))⟩
      · refine am_e13f hi_174_13 (am_cF (m := x.toInt) (n := (10 : Int)) rfl (by decide) c9) ?_
        refine am_e1 (v := x) hi_174_16 rfl ?_
        refine am_e0 hi_174_17 ?_
        by_cases c10 : x.toInt ≤ (31 : Int)
        · refine am_e13t hi_174_19 (am_cT (m := x.toInt) (n := (31 : Int)) rfl (by decide) c10) ?_
          refine am_e0 hi_174_34 ?_
          refine am_e18 hi_174_35 ?_
          refine am_e3 (ls' := [some (.ref 39), some (.int x), some (.int y), some (.int 1)]) hi_174_39 (Nat.le_of_ble_eq_true rfl) rfl ?_
          refine am_e1 (v := 1) hi_174_40 rfl ?_
          refine am_e12t hi_174_41 (by decide) ?_
          refine am_e2 (v := 39) hi_174_46 rfl ?_
          refine mm_20 (v := .int (f 0)) hS hi_174_47 rfl ?_
          refine am_e0 hi_174_50 ?_
          refine am_e13t hi_174_53 (am_cT (m := (f 0).toInt) (n := (16384 : Int)) rfl (by decide) (by simp only [am_cI]; omega)) ?_
          refine am_e2 (v := 39) hi_174_59 rfl ?_
          refine mm_20 (v := .ref 40) hS hi_174_60 rfl ?_
          refine am_e2 (v := 39) hi_174_63 rfl ?_
          refine mm_20 (v := .int (f 0)) hS hi_174_64 rfl ?_
          refine am_e1 (v := x) hi_174_67 rfl ?_
          refine mm_26 hS ma_1 hi_174_68 (by decide) (by omega) (by omega) (fun h => nomatch h) ?_
          intro S11 hS12
          refine am_e2 (v := 39) hi_174_69 rfl ?_
          refine mm_20 (v := .ref 41) hS12 hi_174_70 rfl ?_
          refine am_e2 (v := 39) hi_174_73 rfl ?_
          refine mm_20 (v := .int (f 0)) hS12 hi_174_74 rfl ?_
          refine am_e1 (v := y) hi_174_77 rfl ?_
          refine mm_26 hS12 ma_2 hi_174_78 (by decide) (by omega) (by omega) (fun h => nomatch h) ?_
          intro S13 hS14
          refine am_e2 (v := 39) hi_174_79 rfl ?_
          refine am_e7 hi_174_80 ?_
          refine mm_20 (v := .int (f 0)) hS14 hi_174_81 rfl ?_
          refine am_e0 hi_174_84 ?_
          obtain ⟨z15, hz15, tz15⟩ := am_addI (x := f 0) (y := 1) (m := (f 0).toInt) (n := (1 : Int)) rfl (by decide) (by omega) (by omega)
          refine am_e10 (z := z15) hi_174_85 hz15 ?_
          refine mm_21 (v := z15) hS14 hi_174_86 rfl (Nat.le_of_ble_eq_true rfl) ms_0 ?_
          intro S16 hS17
          refine am_e2 (v := 39) hi_174_89 rfl ?_
          refine mm_20 (v := .int z15) hS17 hi_174_90 rfl ?_
          refine am_e33 hi_174_93 ?_
          exact ⟨z15, z15, _, rfl, hS17, (show ∀ j, j ∉ [1, 2] → (upg (upg g 1 (f 0).toNatClampNeg x) 2 (f 0).toNatClampNeg y) j = g j from by intro j hj; simp only [List.mem_cons, List.not_mem_nil, or_false, not_or] at hj; simp only [upg, hj, if_false]), (mw_yes (by show mw_ok x.toInt; unfold mw_ok; omega) (by omega) (by omega))⟩
        · refine am_e13f hi_174_19 (am_cF (m := x.toInt) (n := (31 : Int)) rfl (by decide) c10) ?_
          refine am_e1 (v := x) hi_174_22 rfl ?_
          refine am_e0 hi_174_23 ?_
          by_cases c18 : x.toInt < (40 : Int)
          · refine am_e13t hi_174_25 (am_cT (m := x.toInt) (n := (40 : Int)) rfl (by decide) c18) ?_
            refine am_e0 hi_174_38 ?_
            refine am_e3 (ls' := [some (.ref 39), some (.int x), some (.int y), some (.int 0)]) hi_174_39 (Nat.le_of_ble_eq_true rfl) rfl ?_
            refine am_e1 (v := 0) hi_174_40 rfl ?_
            refine am_e12f hi_174_41 (by decide) ?_
            refine am_e0 hi_174_44 ?_
            refine am_e33 hi_174_45 ?_
            exact ⟨(-1), (f 0), g, rfl, (by rw [upd_self]; exact hS), (fun _ _ => rfl), (mw_no (by show ¬ mw_ok x.toInt; unfold mw_ok; omega))⟩
          · refine am_e13f hi_174_25 (am_cF (m := x.toInt) (n := (40 : Int)) rfl (by decide) c18) ?_
            refine am_e1 (v := x) hi_174_28 rfl ?_
            refine am_e0 hi_174_29 ?_
            by_cases c19 : (72 : Int) < x.toInt
            · refine am_e13t hi_174_31 (am_cT (m := x.toInt) (n := (72 : Int)) rfl (by decide) c19) ?_
              refine am_e0 hi_174_38 ?_
              refine am_e3 (ls' := [some (.ref 39), some (.int x), some (.int y), some (.int 0)]) hi_174_39 (Nat.le_of_ble_eq_true rfl) rfl ?_
              refine am_e1 (v := 0) hi_174_40 rfl ?_
              refine am_e12f hi_174_41 (by decide) ?_
              refine am_e0 hi_174_44 ?_
              refine am_e33 hi_174_45 ?_
              exact ⟨(-1), (f 0), g, rfl, (by rw [upd_self]; exact hS), (fun _ _ => rfl), (mw_no (by show ¬ mw_ok x.toInt; unfold mw_ok; omega))⟩
            · refine am_e13f hi_174_31 (am_cF (m := x.toInt) (n := (72 : Int)) rfl (by decide) c19) ?_
              refine am_e0 hi_174_34 ?_
              refine am_e18 hi_174_35 ?_
              refine am_e3 (ls' := [some (.ref 39), some (.int x), some (.int y), some (.int 1)]) hi_174_39 (Nat.le_of_ble_eq_true rfl) rfl ?_
              refine am_e1 (v := 1) hi_174_40 rfl ?_
              refine am_e12t hi_174_41 (by decide) ?_
              refine am_e2 (v := 39) hi_174_46 rfl ?_
              refine mm_20 (v := .int (f 0)) hS hi_174_47 rfl ?_
              refine am_e0 hi_174_50 ?_
              refine am_e13t hi_174_53 (am_cT (m := (f 0).toInt) (n := (16384 : Int)) rfl (by decide) (by simp only [am_cI]; omega)) ?_
              refine am_e2 (v := 39) hi_174_59 rfl ?_
              refine mm_20 (v := .ref 40) hS hi_174_60 rfl ?_
              refine am_e2 (v := 39) hi_174_63 rfl ?_
              refine mm_20 (v := .int (f 0)) hS hi_174_64 rfl ?_
              refine am_e1 (v := x) hi_174_67 rfl ?_
              refine mm_26 hS ma_1 hi_174_68 (by decide) (by omega) (by omega) (fun h => nomatch h) ?_
              intro S20 hS21
              refine am_e2 (v := 39) hi_174_69 rfl ?_
              refine mm_20 (v := .ref 41) hS21 hi_174_70 rfl ?_
              refine am_e2 (v := 39) hi_174_73 rfl ?_
              refine mm_20 (v := .int (f 0)) hS21 hi_174_74 rfl ?_
              refine am_e1 (v := y) hi_174_77 rfl ?_
              refine mm_26 hS21 ma_2 hi_174_78 (by decide) (by omega) (by omega) (fun h => nomatch h) ?_
              intro S22 hS23
              refine am_e2 (v := 39) hi_174_79 rfl ?_
              refine am_e7 hi_174_80 ?_
              refine mm_20 (v := .int (f 0)) hS23 hi_174_81 rfl ?_
              refine am_e0 hi_174_84 ?_
              obtain ⟨z24, hz24, tz24⟩ := am_addI (x := f 0) (y := 1) (m := (f 0).toInt) (n := (1 : Int)) rfl (by decide) (by omega) (by omega)
              refine am_e10 (z := z24) hi_174_85 hz24 ?_
              refine mm_21 (v := z24) hS23 hi_174_86 rfl (Nat.le_of_ble_eq_true rfl) ms_0 ?_
              intro S25 hS26
              refine am_e2 (v := 39) hi_174_89 rfl ?_
              refine mm_20 (v := .int z24) hS26 hi_174_90 rfl ?_
              refine am_e33 hi_174_93 ?_
              exact ⟨z24, z24, _, rfl, hS26, (show ∀ j, j ∉ [1, 2] → (upg (upg g 1 (f 0).toNatClampNeg x) 2 (f 0).toNatClampNeg y) j = g j from by intro j hj; simp only [List.mem_cons, List.not_mem_nil, or_false, not_or] at hj; simp only [upg, hj, if_false]), (mw_yes (by show mw_ok x.toInt; unfold mw_ok; omega) (by omega) (by omega))⟩
