/-! THE REFERENCE: the begins of the functions are the sums of their counts (printed by wip/p6/gen_srt.py) -/
def SQ (f : Nat → Int32) (g : Nat → Nat → Int32) : Prop := ∀ x : Nat, (x : Int) < (f 53).toInt → (g 61 (x + 1)).toInt = (g 61 x).toInt + (g 60 x).toInt
/-- the begins; how many rows there are -/
def SQ8 (f : Nat → Int32) (g : Nat → Nat → Int32) : Prop := SQ f g ∧ (((0 : Nat) : Int) < (f 53).toInt → (f 68).toInt < 65536)
theorem sq_0 {x : Nat} (h : (x : Int) < (0 : Int32).toInt) : False := by
  have z : (0 : Int32).toInt = 0 := rfl
  omega
theorem so_q {b c o : Nat → Int32} {F I : Int32} {M : Int} (e : I = F) (hb : ∀ x : Nat, (x : Int) ≤ M → (b x).toInt = mj_s o F.toNatClampNeg x) (hc : ∀ x : Nat, (x : Int) < M → (c x).toInt = mj_n o I.toNatClampNeg x) : ∀ x : Nat, (x : Int) < M → (b (x + 1)).toInt = (b x).toInt + (c x).toInt := by
  intro x hx
  rw [hb (x + 1) (by omega), hb x (by omega), hc x hx, e]
  rfl
theorem lp_srt3 {sc : Nat × (Nat → Int32)} {d : Nat} {S0 : am_S} {f : Nat → Int32} {g : Nat → Nat → Int32}  (hO : mj_O (f 68) (f 53) (g 69) (g 60)) (p0 : (0 : Int) ≤ (f 53).toInt) (p1 : (f 53).toInt ≤ (600 : Int)) (p2 : (0 : Int) ≤ (f 68).toInt) (p3 : (f 68).toInt ≤ (65000 : Int)) : ∀ (N : Nat) (S : am_S) (x2 : Option Value) (i : Int32) (gx : Nat → Nat → Int32), MS S0 S f gx → (∀ j, j ∉ [60, 61, 74] → gx j = g j) → (∀ x : Nat, (x : Int) ≤ (f 53).toInt → (gx 61 x).toInt = mj_s (g 69) (f 68).toNatClampNeg x) → (∀ x : Nat, (x : Int) < (f 53).toInt → (gx 60 x).toInt = mj_n (g 69) i.toNatClampNeg x) → (∀ x : Nat, (x : Int) < (f 53).toInt → ∀ j : Nat, (j : Int) < (gx 60 x).toInt → 0 ≤ (gx 74 ((gx 61 x).toInt.toNat + j)).toInt ∧ (gx 74 ((gx 61 x).toInt.toNat + j)).toInt < 65536) → (0 : Int) ≤ i.toInt → i.toInt ≤ (f 68).toInt → (f 68).toInt - i.toInt < (N : Int) → am_E (am_PP sc) (d + 0) 266 69 [some (.ref 39), some (.int i), x2] [] S (am_N fun v S1 => (∃ g' : Nat → Nat → Int32, v = none ∧ MS S0 S1 f g' ∧ (∀ j, j ∉ [60, 61, 74] → g' j = g j) ∧ (∀ x : Nat, (x : Int) < (f 53).toInt → 0 ≤ (g' 61 x).toInt ∧ 0 ≤ (g' 60 x).toInt ∧ (g' 61 x).toInt + (g' 60 x).toInt ≤ 65000) ∧ (∀ x : Nat, (x : Int) < (f 53).toInt → ∀ j : Nat, (j : Int) < (g' 60 x).toInt → 0 ≤ (g' 74 ((g' 61 x).toInt.toNat + j)).toInt ∧ (g' 74 ((g' 61 x).toInt.toNat + j)).toInt < 65536) ∧ (∀ x : Nat, (x : Int) < (f 53).toInt → (g' 61 (x + 1)).toInt = (g' 61 x).toInt + (g' 60 x).toInt))) := by
  intro N
  induction N with
  | zero =>
    intro S x2 i gx  hS  hx hb hc hd i0 i1 hN
    exfalso
    omega
  | succ N ih =>
    intro S x2 i gx  hS  hx hb hc hd i0 i1 hN
    refine am_e1 (v := i) hi_266_69 rfl ?_
    refine am_e2 (v := 39) hi_266_70 rfl ?_
    refine mm_20 (v := .int (f 68)) hS hi_266_71 rfl ?_
    by_cases c0 : (f 68).toInt ≤ i.toInt
    · refine am_e13t hi_266_74 (am_cT (m := i.toInt) (n := (f 68).toInt) rfl rfl c0) ?_
      refine am_e35 hi_266_119 ?_
      exact ⟨_, rfl, hS, hx, (so_4 ⟨by omega, by omega⟩ hb hc (by omega)), hd, so_q (Int32.toInt_inj.mp (by omega)) hb hc⟩
    · refine am_e13f hi_266_74 (am_cF (m := i.toInt) (n := (f 68).toInt) rfl rfl c0) ?_
      refine am_e2 (v := 39) hi_266_77 rfl ?_
      refine mm_20 (v := .ref 88) hS hi_266_78 rfl ?_
      refine am_e1 (v := i) hi_266_81 rfl ?_
      refine mm_25 hS ma_69 hi_266_82 (by decide) (by omega) (by omega) ?_
      show am_E _ _ _ _ _ (.int (gx 69 i.toNatClampNeg) :: _) _ _
      rw [show gx 69 = g 69 from hx 69 (by decide)]
      show am_E _ _ _ _ [some (.ref 39), some (.int i), x2] [.int (g 69 i.toNatClampNeg)] _ _
      have r1 : 0 ≤ (g 69 i.toNatClampNeg).toInt ∧ (g 69 i.toNatClampNeg).toInt < (f 53).toInt := so_3a hO (by omega) (by omega)
      refine am_e3 (ls' := [some (.ref 39), some (.int i), some (.int (g 69 i.toNatClampNeg))]) hi_266_83 (Nat.le_of_ble_eq_true rfl) rfl ?_
      refine am_e2 (v := 39) hi_266_84 rfl ?_
      refine mm_20 (v := .ref 93) hS hi_266_85 rfl ?_
      refine am_e2 (v := 39) hi_266_88 rfl ?_
      refine mm_20 (v := .ref 82) hS hi_266_89 rfl ?_
      refine am_e1 (v := g 69 i.toNatClampNeg) hi_266_92 rfl ?_
      refine mm_25 hS ma_61 hi_266_93 (by decide) (by omega) (by omega) ?_
      show am_E _ _ _ _ [some (.ref 39), some (.int i), some (.int (g 69 i.toNatClampNeg))] [.int (gx 61 (g 69 i.toNatClampNeg).toNatClampNeg), .ref 93] _ _
      have r2 : 0 ≤ (gx 61 (g 69 i.toNatClampNeg).toNatClampNeg).toInt ∧ 0 ≤ (gx 60 (g 69 i.toNatClampNeg).toNatClampNeg).toInt ∧ (gx 61 (g 69 i.toNatClampNeg).toNatClampNeg).toInt + (gx 60 (g 69 i.toNatClampNeg).toNatClampNeg).toInt < (f 68).toInt := so_3 hO hb hc (by omega) (by omega)
      refine am_e2 (v := 39) hi_266_94 rfl ?_
      refine mm_20 (v := .ref 81) hS hi_266_95 rfl ?_
      refine am_e1 (v := g 69 i.toNatClampNeg) hi_266_98 rfl ?_
      refine mm_25 hS ma_60 hi_266_99 (by decide) (by omega) (by omega) ?_
      show am_E _ _ _ _ [some (.ref 39), some (.int i), some (.int (g 69 i.toNatClampNeg))] [.int (gx 60 (g 69 i.toNatClampNeg).toNatClampNeg), .int (gx 61 (g 69 i.toNatClampNeg).toNatClampNeg), .ref 93] _ _
      obtain ⟨z3, hz3, tz3⟩ := am_addI (x := gx 61 (g 69 i.toNatClampNeg).toNatClampNeg) (y := gx 60 (g 69 i.toNatClampNeg).toNatClampNeg) (m := (gx 61 (g 69 i.toNatClampNeg).toNatClampNeg).toInt) (n := (gx 60 (g 69 i.toNatClampNeg).toNatClampNeg).toInt) rfl rfl (by omega) (by omega)
      refine am_e10 (z := z3) hi_266_100 hz3 ?_
      refine am_e1 (v := i) hi_266_101 rfl ?_
      refine mm_26 hS ma_74 hi_266_102 (by decide) (by omega) (by omega) (fun h => nomatch h) ?_
      intro S4 hS5
      refine am_e2 (v := 39) hi_266_103 rfl ?_
      refine mm_20 (v := .ref 81) hS5 hi_266_104 rfl ?_
      refine am_e1 (v := g 69 i.toNatClampNeg) hi_266_107 rfl ?_
      refine am_e8 hi_266_108 ?_
      refine mm_25 hS5 ma_60 hi_266_109 (by decide) (by omega) (by omega) ?_
      show am_E _ _ _ _ [some (.ref 39), some (.int i), some (.int (g 69 i.toNatClampNeg))] [.int (gx 60 (g 69 i.toNatClampNeg).toNatClampNeg), .int (g 69 i.toNatClampNeg), .ref 81] _ _
      refine am_e0 hi_266_110 ?_
      obtain ⟨z6, hz6, tz6⟩ := am_addI (x := gx 60 (g 69 i.toNatClampNeg).toNatClampNeg) (y := 1) (m := (gx 60 (g 69 i.toNatClampNeg).toNatClampNeg).toInt) (n := (1 : Int)) rfl (by decide) (by omega) (by omega)
      refine am_e10 (z := z6) hi_266_111 hz6 ?_
      refine mm_26 hS5 ma_60 hi_266_112 (by decide) (by omega) (by omega) (fun h => nomatch h) ?_
      intro S7 hS8
      obtain ⟨z9, hz9, tz9⟩ := am_addI (x := i) (y := 1) (m := i.toInt) (n := (1 : Int)) rfl (by decide) (by omega) (by omega)
      refine am_e5 (v := i) (z := z9) (ls' := [some (.ref 39), some (.int z9), some (.int (g 69 i.toNatClampNeg))]) hi_266_113 rfl hz9 rfl ?_
      refine am_e18 hi_266_116 ?_
      exact ih _ (some (.int (g 69 i.toNatClampNeg))) z9 _ hS8 (fun j hj => ((show ∀ j, j ∉ [60, 61, 74] → (upg (upg gx 74 z3.toNatClampNeg i) 60 (g 69 i.toNatClampNeg).toNatClampNeg z6) j = gx j from by intro j hj; simp only [List.mem_cons, List.not_mem_nil, or_false, not_or] at hj; simp only [upg, hj, if_false]) j hj).trans (hx j hj)) hb (so_3n (c := gx 60) (z := z9) (v := z6) hO hc (by omega) (by omega) (by omega) (by omega)) (so_od (o := gx 74) (b := gx 61) (c := gx 60) (w := (g 69 i.toNatClampNeg).toNatClampNeg) (cw := z6) hd (by omega) (by omega) (by have e1 : z3.toNatClampNeg = z3.toInt.toNat := cl_toNat; omega) ⟨by omega, by omega⟩) (by show (0 : Int) ≤ z9.toInt; omega) (by show z9.toInt ≤ (f 68).toInt; omega) (by show (f 68).toInt - z9.toInt < (N : Int); omega)
theorem lp_srt2 {sc : Nat × (Nat → Int32)} {d : Nat} {S0 : am_S} {f : Nat → Int32} {g : Nat → Nat → Int32}  (hO : mj_O (f 68) (f 53) (g 69) (g 60)) (p0 : (0 : Int) ≤ (f 53).toInt) (p1 : (f 53).toInt ≤ (600 : Int)) (p2 : (0 : Int) ≤ (f 68).toInt) (p3 : (f 68).toInt ≤ (65000 : Int)) : ∀ (N : Nat) (S : am_S) (x2 : Option Value) (i : Int32) (gx : Nat → Nat → Int32), MS S0 S f gx → (∀ j, j ∉ [60, 61] → gx j = g j) → (∀ x : Nat, (x : Int) ≤ (f 53).toInt → (gx 61 x).toInt = mj_s (g 69) (f 68).toNatClampNeg x) → (∀ x : Nat, (x : Int) < i.toInt → (gx 60 x).toInt = 0) → (0 : Int) ≤ i.toInt → i.toInt ≤ (f 53).toInt → (f 53).toInt - i.toInt < (N : Int) → am_E (am_PP sc) (d + 0) 266 46 [some (.ref 39), some (.int i), x2] [] S (am_N fun v S1 => (∃ g' : Nat → Nat → Int32, v = none ∧ MS S0 S1 f g' ∧ (∀ j, j ∉ [60, 61, 74] → g' j = g j) ∧ (∀ x : Nat, (x : Int) < (f 53).toInt → 0 ≤ (g' 61 x).toInt ∧ 0 ≤ (g' 60 x).toInt ∧ (g' 61 x).toInt + (g' 60 x).toInt ≤ 65000) ∧ (∀ x : Nat, (x : Int) < (f 53).toInt → ∀ j : Nat, (j : Int) < (g' 60 x).toInt → 0 ≤ (g' 74 ((g' 61 x).toInt.toNat + j)).toInt ∧ (g' 74 ((g' 61 x).toInt.toNat + j)).toInt < 65536) ∧ (∀ x : Nat, (x : Int) < (f 53).toInt → (g' 61 (x + 1)).toInt = (g' 61 x).toInt + (g' 60 x).toInt))) := by
  intro N
  induction N with
  | zero =>
    intro S x2 i gx  hS  hx hb hz i0 i1 hN
    exfalso
    omega
  | succ N ih =>
    intro S x2 i gx  hS  hx hb hz i0 i1 hN
    refine am_e1 (v := i) hi_266_46 rfl ?_
    refine am_e2 (v := 39) hi_266_47 rfl ?_
    refine mm_20 (v := .int (f 53)) hS hi_266_48 rfl ?_
    by_cases c0 : (f 53).toInt ≤ i.toInt
    · refine am_e13t hi_266_51 (am_cT (m := i.toInt) (n := (f 53).toInt) rfl rfl c0) ?_
      refine am_e0 hi_266_67 ?_
      refine am_e3 (ls' := [some (.ref 39), some (.int 0), x2]) hi_266_68 (Nat.le_of_ble_eq_true rfl) rfl ?_
      exact lp_srt3 hO p0 p1 p2 p3 (((f 68).toInt - (0 : Int)).toNat + 1) _ x2 0 _ hS (show ∀ j, j ∉ [60, 61, 74] → gx j = g j from fun j hj => hx j (fun q => hj (mem_sub (L := [60, 61]) (L' := [60, 61, 74]) (by decide) q))) hb (by intro x hx2; show (gx 60 x).toInt = mj_n (g 69) 0 x; rw [hz x (by omega)]; rfl) (fun x h1 j h2 => absurd h2 (by rw [hz x (by omega)]; omega)) (by show (0 : Int) ≤ (0 : Int); omega) (by show (0 : Int) ≤ (f 68).toInt; omega) (by show (f 68).toInt - (0 : Int) < _; omega)
    · refine am_e13f hi_266_51 (am_cF (m := i.toInt) (n := (f 53).toInt) rfl rfl c0) ?_
      refine am_e2 (v := 39) hi_266_54 rfl ?_
      refine mm_20 (v := .ref 81) hS hi_266_55 rfl ?_
      refine am_e1 (v := i) hi_266_58 rfl ?_
      refine am_e0 hi_266_59 ?_
      refine mm_26 hS ma_60 hi_266_60 (by decide) (by omega) (by omega) (fun h => nomatch h) ?_
      intro S1 hS2
      obtain ⟨z3, hz3, tz3⟩ := am_addI (x := i) (y := 1) (m := i.toInt) (n := (1 : Int)) rfl (by decide) (by omega) (by omega)
      refine am_e5 (v := i) (z := z3) (ls' := [some (.ref 39), some (.int z3), x2]) hi_266_61 rfl hz3 rfl ?_
      refine am_e18 hi_266_64 ?_
      exact ih _ x2 z3 _ hS2 (fun j hj => ((show ∀ j, j ∉ [60, 61] → (upg gx 60 i.toNatClampNeg 0) j = gx j from by intro j hj; simp only [List.mem_cons, List.not_mem_nil, or_false, not_or] at hj; simp only [upg, hj, if_false]) j hj).trans (hx j hj)) hb (so_2n hz (by omega) (by show z3.toInt = i.toInt + 1; omega)) (by show (0 : Int) ≤ z3.toInt; omega) (by show z3.toInt ≤ (f 53).toInt; omega) (by show (f 53).toInt - z3.toInt < (N : Int); omega)
theorem lp_srt1 {sc : Nat × (Nat → Int32)} {d : Nat} {S0 : am_S} {f : Nat → Int32} {g : Nat → Nat → Int32}  (hO : mj_O (f 68) (f 53) (g 69) (g 60)) (p0 : (0 : Int) ≤ (f 53).toInt) (p1 : (f 53).toInt ≤ (600 : Int)) (p2 : (0 : Int) ≤ (f 68).toInt) (p3 : (f 68).toInt ≤ (65000 : Int)) : ∀ (N : Nat) (S : am_S) (x2 : Option Value) (i : Int32) (gx : Nat → Nat → Int32), MS S0 S f gx → (∀ j, j ∉ [61] → gx j = g j) → (∀ x : Nat, (x : Int) ≤ i.toInt → (gx 61 x).toInt = mj_s (g 69) (f 68).toNatClampNeg x) → (0 : Int) ≤ i.toInt → i.toInt ≤ (f 53).toInt → (f 53).toInt - i.toInt < (N : Int) → am_E (am_PP sc) (d + 0) 266 9 [some (.ref 39), some (.int i), x2] [] S (am_N fun v S1 => (∃ g' : Nat → Nat → Int32, v = none ∧ MS S0 S1 f g' ∧ (∀ j, j ∉ [60, 61, 74] → g' j = g j) ∧ (∀ x : Nat, (x : Int) < (f 53).toInt → 0 ≤ (g' 61 x).toInt ∧ 0 ≤ (g' 60 x).toInt ∧ (g' 61 x).toInt + (g' 60 x).toInt ≤ 65000) ∧ (∀ x : Nat, (x : Int) < (f 53).toInt → ∀ j : Nat, (j : Int) < (g' 60 x).toInt → 0 ≤ (g' 74 ((g' 61 x).toInt.toNat + j)).toInt ∧ (g' 74 ((g' 61 x).toInt.toNat + j)).toInt < 65536) ∧ (∀ x : Nat, (x : Int) < (f 53).toInt → (g' 61 (x + 1)).toInt = (g' 61 x).toInt + (g' 60 x).toInt))) := by
  intro N
  induction N with
  | zero =>
    intro S x2 i gx  hS  hx hb i0 i1 hN
    exfalso
    omega
  | succ N ih =>
    intro S x2 i gx  hS  hx hb i0 i1 hN
    refine am_e1 (v := i) hi_266_9 rfl ?_
    refine am_e2 (v := 39) hi_266_10 rfl ?_
    refine mm_20 (v := .int (f 53)) hS hi_266_11 rfl ?_
    by_cases c0 : (f 53).toInt ≤ i.toInt
    · refine am_e13t hi_266_14 (am_cT (m := i.toInt) (n := (f 53).toInt) rfl rfl c0) ?_
      refine am_e0 hi_266_44 ?_
      refine am_e3 (ls' := [some (.ref 39), some (.int 0), x2]) hi_266_45 (Nat.le_of_ble_eq_true rfl) rfl ?_
      exact lp_srt2 hO p0 p1 p2 p3 (((f 53).toInt - (0 : Int)).toNat + 1) _ x2 0 _ hS (show ∀ j, j ∉ [60, 61] → gx j = g j from fun j hj => hx j (fun q => hj (mem_sub (L := [61]) (L' := [60, 61]) (by decide) q))) (fun x hx2 => hb x (by omega)) (by intro x hx2; have h3 : (x : Int) < 0 := hx2; omega) (by show (0 : Int) ≤ (0 : Int); omega) (by show (0 : Int) ≤ (f 53).toInt; omega) (by show (f 53).toInt - (0 : Int) < _; omega)
    · refine am_e13f hi_266_14 (am_cF (m := i.toInt) (n := (f 53).toInt) rfl rfl c0) ?_
      refine am_e2 (v := 39) hi_266_17 rfl ?_
      refine mm_20 (v := .ref 82) hS hi_266_18 rfl ?_
      refine am_e1 (v := i) hi_266_21 rfl ?_
      refine am_e0 hi_266_22 ?_
      obtain ⟨z1, hz1, tz1⟩ := am_addI (x := i) (y := 1) (m := i.toInt) (n := (1 : Int)) rfl (by decide) (by omega) (by omega)
      refine am_e10 (z := z1) hi_266_23 hz1 ?_
      refine am_e2 (v := 39) hi_266_24 rfl ?_
      refine mm_20 (v := .ref 82) hS hi_266_25 rfl ?_
      refine am_e1 (v := i) hi_266_28 rfl ?_
      refine mm_25 hS ma_61 hi_266_29 (by decide) (by omega) (by omega) ?_
      show am_E _ _ _ _ [some (.ref 39), some (.int i), x2] [.int (gx 61 i.toNatClampNeg), .int z1, .ref 82] _ _
      have r2 : 0 ≤ (gx 61 i.toNatClampNeg).toInt ∧ 0 ≤ (g 60 i.toNatClampNeg).toInt ∧ (gx 61 i.toNatClampNeg).toInt + (g 60 i.toNatClampNeg).toInt ≤ 65000 := so_1 hO ⟨by omega, by omega⟩ hb (by omega) (by omega)
      refine am_e2 (v := 39) hi_266_30 rfl ?_
      refine mm_20 (v := .ref 81) hS hi_266_31 rfl ?_
      refine am_e1 (v := i) hi_266_34 rfl ?_
      refine mm_25 hS ma_60 hi_266_35 (by decide) (by omega) (by omega) ?_
      show am_E _ _ _ _ _ (.int (gx 60 i.toNatClampNeg) :: _) _ _
      rw [show gx 60 = g 60 from hx 60 (by decide)]
      show am_E _ _ _ _ [some (.ref 39), some (.int i), x2] [.int (g 60 i.toNatClampNeg), .int (gx 61 i.toNatClampNeg), .int z1, .ref 82] _ _
      obtain ⟨z3, hz3, tz3⟩ := am_addI (x := gx 61 i.toNatClampNeg) (y := g 60 i.toNatClampNeg) (m := (gx 61 i.toNatClampNeg).toInt) (n := (g 60 i.toNatClampNeg).toInt) rfl rfl (by omega) (by omega)
      refine am_e10 (z := z3) hi_266_36 hz3 ?_
      refine mm_26 hS ma_61 hi_266_37 (by decide) (by omega) (by omega) (fun h => nomatch h) ?_
      intro S4 hS5
      refine am_e5 (v := i) (z := z1) (ls' := [some (.ref 39), some (.int z1), x2]) hi_266_38 rfl hz1 rfl ?_
      refine am_e18 hi_266_41 ?_
      exact ih _ x2 z1 _ hS5 (fun j hj => ((show ∀ j, j ∉ [61] → (upg gx 61 z1.toNatClampNeg z3) j = gx j from by intro j hj; simp only [List.mem_cons, List.not_mem_nil, or_false, not_or] at hj; simp only [upg, hj, if_false]) j hj).trans (hx j hj)) (by have h := so_1n (z := z1) (v := z3) hO hb (by omega) (by omega) (by omega) (by omega); intro x hx2; exact h x (by have h3 : (x : Int) ≤ z1.toInt := hx2; omega)) (by show (0 : Int) ≤ z1.toInt; omega) (by show z1.toInt ≤ (f 53).toInt; omega) (by show (f 53).toInt - z1.toInt < (N : Int); omega)
theorem ct_srt {sc : Nat × (Nat → Int32)} {d : Nat} {S0 S : am_S} {f : Nat → Int32} {g : Nat → Nat → Int32} (hS : MS S0 S f g) (hO : mj_O (f 68) (f 53) (g 69) (g 60)) (p0 : (0 : Int) ≤ (f 53).toInt) (p1 : (f 53).toInt ≤ (600 : Int)) (p2 : (0 : Int) ≤ (f 68).toInt) (p3 : (f 68).toInt ≤ (65000 : Int)) : am_E (am_PP sc) (d + 0) 266 0 [some (.ref 39), none, none] [] S (am_N fun v S1 => (∃ g' : Nat → Nat → Int32, v = none ∧ MS S0 S1 f g' ∧ (∀ j, j ∉ [60, 61, 74] → g' j = g j) ∧ (∀ x : Nat, (x : Int) < (f 53).toInt → 0 ≤ (g' 61 x).toInt ∧ 0 ≤ (g' 60 x).toInt ∧ (g' 61 x).toInt + (g' 60 x).toInt ≤ 65000) ∧ (∀ x : Nat, (x : Int) < (f 53).toInt → ∀ j : Nat, (j : Int) < (g' 60 x).toInt → 0 ≤ (g' 74 ((g' 61 x).toInt.toNat + j)).toInt ∧ (g' 74 ((g' 61 x).toInt.toNat + j)).toInt < 65536) ∧ (∀ x : Nat, (x : Int) < (f 53).toInt → (g' 61 (x + 1)).toInt = (g' 61 x).toInt + (g' 60 x).toInt))) := by
  refine am_e2 (v := 39) hi_266_0 rfl ?_
  refine mm_20 (v := .ref 82) hS hi_266_1 rfl ?_
  refine am_e0 hi_266_4 ?_
  refine am_e0 hi_266_5 ?_
  refine mm_26 hS ma_61 hi_266_6 (by decide) (by decide) (by decide) (fun h => nomatch h) ?_
  intro S0 hS1
  refine am_e0 hi_266_7 ?_
  refine am_e3 (ls' := [some (.ref 39), some (.int 0), none]) hi_266_8 (Nat.le_of_ble_eq_true rfl) rfl ?_
  exact lp_srt1 hO p0 p1 p2 p3 (((f 53).toInt - (0 : Int)).toNat + 1) _ none 0 _ hS1 (show ∀ j, j ∉ [61] → (upg g 61 0 0) j = g j from by intro j hj; simp only [List.mem_cons, List.not_mem_nil, or_false, not_or] at hj; simp only [upg, hj, if_false]) (by intro x hx2; have h3 : (x : Int) ≤ 0 := hx2; have h4 : x = 0 := (by omega); subst h4; rfl) (by show (0 : Int) ≤ (0 : Int); omega) (by show (0 : Int) ≤ (f 53).toInt; omega) (by show (f 53).toInt - (0 : Int) < _; omega)
set_option maxHeartbeats 16000000 in
theorem ct_cmp2 {sc : Nat × (Nat → Int32)} {d : Nat} {S0 S : am_S} {f : Nat → Int32} {g : Nat → Nat → Int32} (hS : MS S0 S f g) (hI : RI f g) (p0 : 0 ≤ (f 0).toInt) (p1 : (f 0).toInt ≤ 512) : am_E (am_PP sc) (d + 9) 175 0 [some (.ref 39), none] [] S (am_N fun v S1 => ∃ (r : Int32) (f' : Nat → Int32) (g' : Nat → Nat → Int32), v = some (.int r) ∧ MS S0 S1 f' g' ∧ RI f' g' ∧ (f' 0).toInt = 0 ∧ SQ8 f' g') := by
  obtain ⟨hI1, hI2, hI3, hI4⟩ := hI
  refine am_e2 (v := 39) hi_175_0 rfl ?_
  refine am_e32w (as := [.ref 39]) (la := [some (.ref 39)]) (rest := []) hi_175_1 (am_hd0 (M := 175) (by decide) 1) (Nat.le_of_ble_eq_true rfl) (Nat.le_of_ble_eq_true rfl) (show 1 ≤ am_P0.2.2.1 176 from by decide +kernel) rfl (am_recv_ok hS.fs) rfl rfl ?_
  refine am_e2 (v := 39) hi_176_0 rfl ?_
  refine am_e0 hi_176_1 ?_
  refine mm_21 (v := 0) hS hi_176_2 rfl (Nat.le_of_ble_eq_true rfl) ms_4 ?_
  intro S1 hS2
  refine am_e2 (v := 39) hi_176_5 rfl ?_
  refine am_e0 hi_176_6 ?_
  refine mm_21 (v := 0) hS2 hi_176_7 rfl (Nat.le_of_ble_eq_true rfl) ms_5 ?_
  intro S3 hS4
  refine am_e2 (v := 39) hi_176_10 rfl ?_
  refine am_e0 hi_176_11 ?_
  refine mm_21 (v := 0) hS4 hi_176_12 rfl (Nat.le_of_ble_eq_true rfl) ms_6 ?_
  intro S5 hS6
  refine am_e2 (v := 39) hi_176_15 rfl ?_
  refine am_e0 hi_176_16 ?_
  refine mm_21 (v := 0) hS6 hi_176_17 rfl (Nat.le_of_ble_eq_true rfl) ms_8 ?_
  intro S7 hS8
  refine am_e2 (v := 39) hi_176_20 rfl ?_
  refine am_e0 hi_176_21 ?_
  refine mm_21 (v := 0) hS8 hi_176_22 rfl (Nat.le_of_ble_eq_true rfl) ms_10 ?_
  intro S9 hS10
  refine am_e2 (v := 39) hi_176_25 rfl ?_
  refine am_e0 hi_176_26 ?_
  refine mm_21 (v := 0) hS10 hi_176_27 rfl (Nat.le_of_ble_eq_true rfl) ms_15 ?_
  intro S11 hS12
  refine am_e2 (v := 39) hi_176_30 rfl ?_
  refine am_e0 hi_176_31 ?_
  refine mm_21 (v := 0) hS12 hi_176_32 rfl (Nat.le_of_ble_eq_true rfl) ms_20 ?_
  intro S13 hS14
  refine am_e2 (v := 39) hi_176_35 rfl ?_
  refine am_e0 hi_176_36 ?_
  refine mm_21 (v := 0) hS14 hi_176_37 rfl (Nat.le_of_ble_eq_true rfl) ms_24 ?_
  intro S15 hS16
  refine am_e2 (v := 39) hi_176_40 rfl ?_
  refine am_e0 hi_176_41 ?_
  refine mm_21 (v := 0) hS16 hi_176_42 rfl (Nat.le_of_ble_eq_true rfl) ms_31 ?_
  intro S17 hS18
  refine am_e2 (v := 39) hi_176_45 rfl ?_
  refine am_e0 hi_176_46 ?_
  refine mm_21 (v := 0) hS18 hi_176_47 rfl (Nat.le_of_ble_eq_true rfl) ms_32 ?_
  intro S19 hS20
  refine am_e2 (v := 39) hi_176_50 rfl ?_
  refine mm_20 (v := .ref 58) hS20 hi_176_51 rfl ?_
  refine am_e0 hi_176_54 ?_
  refine am_e0 hi_176_55 ?_
  refine mm_26 hS20 ma_33 hi_176_56 (by decide) (by decide) (by decide) (fun h => nomatch h) ?_
  intro S21 hS22
  refine am_e2 (v := 39) hi_176_57 rfl ?_
  refine mm_20 (v := .ref 59) hS22 hi_176_58 rfl ?_
  refine am_e0 hi_176_61 ?_
  refine am_e0 hi_176_62 ?_
  refine mm_26 hS22 ma_34 hi_176_63 (by decide) (by decide) (by decide) (fun h => nomatch h) ?_
  intro S23 hS24
  refine am_e2 (v := 39) hi_176_64 rfl ?_
  refine mm_20 (v := .ref 60) hS24 hi_176_65 rfl ?_
  refine am_e0 hi_176_68 ?_
  refine am_e0 hi_176_69 ?_
  refine mm_26 hS24 ma_35 hi_176_70 (by decide) (by decide) (by decide) (fun h => nomatch h) ?_
  intro S25 hS26
  refine am_e2 (v := 39) hi_176_71 rfl ?_
  refine mm_20 (v := .ref 61) hS26 hi_176_72 rfl ?_
  refine am_e0 hi_176_75 ?_
  refine am_e0 hi_176_76 ?_
  refine mm_26 hS26 ma_36 hi_176_77 (by decide) (by decide) (by decide) (fun h => nomatch h) ?_
  intro S27 hS28
  refine am_e2 (v := 39) hi_176_78 rfl ?_
  refine am_e0 hi_176_79 ?_
  refine mm_21 (v := 0) hS28 hi_176_80 rfl (Nat.le_of_ble_eq_true rfl) ms_37 ?_
  intro S29 hS30
  refine am_e2 (v := 39) hi_176_83 rfl ?_
  refine am_e0 hi_176_84 ?_
  refine mm_21 (v := 0) hS30 hi_176_85 rfl (Nat.le_of_ble_eq_true rfl) ms_44 ?_
  intro S31 hS32
  refine am_e2 (v := 39) hi_176_88 rfl ?_
  refine am_e0 hi_176_89 ?_
  refine mm_21 (v := 0) hS32 hi_176_90 rfl (Nat.le_of_ble_eq_true rfl) ms_48 ?_
  intro S33 hS34
  refine am_e2 (v := 39) hi_176_93 rfl ?_
  refine am_e0 hi_176_94 ?_
  refine mm_21 (v := 1) hS34 hi_176_95 rfl (Nat.le_of_ble_eq_true rfl) ms_53 ?_
  intro S35 hS36
  refine am_e2 (v := 39) hi_176_98 rfl ?_
  refine mm_20 (v := .ref 75) hS36 hi_176_99 rfl ?_
  refine am_e0 hi_176_102 ?_
  refine am_e0 hi_176_103 ?_
  refine mm_26 hS36 ma_54 hi_176_104 (by decide) (by decide) (by decide) (fun h => nomatch h) ?_
  intro S37 hS38
  refine am_e2 (v := 39) hi_176_105 rfl ?_
  refine mm_20 (v := .ref 80) hS38 hi_176_106 rfl ?_
  refine am_e0 hi_176_109 ?_
  refine am_e0 hi_176_110 ?_
  refine mm_26 hS38 ma_59 hi_176_111 (by decide) (by decide) (by decide) (fun h => nomatch h) ?_
  intro S39 hS40
  refine am_e2 (v := 39) hi_176_112 rfl ?_
  refine mm_20 (v := .ref 76) hS40 hi_176_113 rfl ?_
  refine am_e0 hi_176_116 ?_
  refine am_e0 hi_176_117 ?_
  refine mm_26 hS40 ma_55 hi_176_118 (by decide) (by decide) (by decide) (fun h => nomatch h) ?_
  intro S41 hS42
  refine am_e2 (v := 39) hi_176_119 rfl ?_
  refine mm_20 (v := .ref 77) hS42 hi_176_120 rfl ?_
  refine am_e0 hi_176_123 ?_
  refine am_e0 hi_176_124 ?_
  refine mm_26 hS42 ma_56 hi_176_125 (by decide) (by decide) (by decide) (fun h => nomatch h) ?_
  intro S43 hS44
  refine am_e2 (v := 39) hi_176_126 rfl ?_
  refine mm_20 (v := .ref 79) hS44 hi_176_127 rfl ?_
  refine am_e0 hi_176_130 ?_
  refine am_e0 hi_176_131 ?_
  refine mm_26 hS44 ma_58 hi_176_132 (by decide) (by decide) (by decide) (fun h => nomatch h) ?_
  intro S45 hS46
  refine am_e2 (v := 39) hi_176_133 rfl ?_
  refine mm_20 (v := .ref 81) hS46 hi_176_134 rfl ?_
  refine am_e0 hi_176_137 ?_
  refine am_e0 hi_176_138 ?_
  refine mm_26 hS46 ma_60 hi_176_139 (by decide) (by decide) (by decide) (fun h => nomatch h) ?_
  intro S47 hS48
  refine am_e2 (v := 39) hi_176_140 rfl ?_
  refine mm_20 (v := .ref 87) hS48 hi_176_141 rfl ?_
  refine am_e0 hi_176_144 ?_
  refine am_e0 hi_176_145 ?_
  refine mm_26 hS48 ma_67 hi_176_146 (by decide) (by decide) (by decide) (fun h => nomatch h) ?_
  intro S49 hS50
  refine am_e2 (v := 39) hi_176_147 rfl ?_
  refine am_e0 hi_176_148 ?_
  refine mm_21 (v := 0) hS50 hi_176_149 rfl (Nat.le_of_ble_eq_true rfl) ms_62 ?_
  intro S51 hS52
  refine am_e2 (v := 39) hi_176_152 rfl ?_
  refine am_e0 hi_176_153 ?_
  refine mm_21 (v := 0) hS52 hi_176_154 rfl (Nat.le_of_ble_eq_true rfl) ms_68 ?_
  intro S53 hS54
  have hR55 : RJ (upd (upd (upd (upd (upd (upd (upd (upd (upd (upd (upd (upd (upd (upd (upd (upd f 4 0) 5 0) 6 0) 8 0) 10 0) 15 0) 20 0) 24 0) 31 0) 32 0) 37 0) 44 0) 48 0) 53 1) 62 0) 68 0) (upg (upg (upg (upg (upg (upg (upg (upg (upg (upg (upg g 33 0 0) 34 0 0) 35 0 0) 36 0 0) 54 0 (-1)) 59 0 (-1)) 55 0 0) 56 0 1) 58 0 0) 60 0 0) 67 0 0) [] [] [] 0 [] := rj_zero hI1 (mj_U_zero hI2) (show (0 : Int32).toInt = 0 from by decide) (show (0 : Int32).toInt = 0 from by decide) (show (1 : Int32).toInt = 1 from by decide) (show (0 : Int32).toInt = 0 from by decide) (show (0 : Int32).toInt = 0 from by decide) (show (0 : Int32).toInt = 0 from by decide) (show (0 : Int32).toInt = 0 from by decide) (show (0 : Int32).toInt = 0 from by decide) (show (0 : Int32).toInt = 0 from by decide) (show (0 : Int32).toInt = 0 from by decide) (show (0 : Int32).toInt = 0 from by decide) (show (0 : Int32).toInt = 0 from by decide)
  refine am_e35 hi_176_157 ?_
  show am_E _ _ _ _ [some (.ref 39), none] [] _ _
  refine am_e2 (v := 39) hi_175_4 rfl ?_
  refine am_e0 hi_175_5 ?_
  refine am_e32n (as := [.ref 39, .int 0]) (la := [some (.ref 39), some (.int 0)]) (rest := []) hi_175_6 (am_hd0 (M := 175) (by decide) 6) (Nat.le_of_ble_eq_true rfl) (Nat.le_of_ble_eq_true rfl) (show 2 ≤ am_P0.2.2.1 177 from by decide +kernel) rfl (am_recv_ok hS54.fs) rfl rfl (ct_beginBlock (d := (d + 8)) hS54 hR55 (by decide)  (by show (0 : Int) ≤ (0 : Int); omega) (by show (0 : Int) ≤ (127 : Int); omega) (by show (0 : Int) ≤ (0 : Int); omega) (by show (0 : Int) ≤ (0 : Int); omega) (by show (0 : Int) ≤ (0 : Int); omega) (by show (0 : Int) ≤ (0 : Int); omega)) ?_
  rintro v56 S57 (⟨z58, g'59, hv60, hS61, hR64, h62, h63⟩)
  subst hv60
  have h62_ : z58.toInt = (0 : Int) + 1 := h62
  have h63_ : ∀ j, j ∉ [38, 39, 40, 41, 42, 43] → g'59 j = (upg (upg (upg (upg (upg (upg (upg (upg (upg (upg (upg g 33 0 0) 34 0 0) 35 0 0) 36 0 0) 54 0 (-1)) 59 0 (-1)) 55 0 0) 56 0 1) 58 0 0) 60 0 0) 67 0 0) j := h63
  replace hS61 : MS S0 S57 (upd (upd (upd (upd (upd (upd (upd (upd (upd (upd (upd (upd (upd (upd (upd (upd f 4 0) 5 0) 6 0) 8 0) 10 0) 15 0) 20 0) 24 0) 31 0) 32 0) 37 z58) 44 0) 48 0) 53 1) 62 0) 68 0) g'59 := hS61
  have hR64_ : RJ (upd (upd (upd (upd (upd (upd (upd (upd (upd (upd (upd (upd (upd (upd (upd (upd f 4 0) 5 0) 6 0) 8 0) 10 0) 15 0) 20 0) 24 0) 31 0) 32 0) 37 z58) 44 0) 48 0) 53 1) 62 0) 68 0) g'59 [] ([] :: []) [] 0 [] := hR64
  show am_E _ _ _ _ [some (.ref 39), none] [] _ _
  refine am_e2 (v := 39) hi_175_9 rfl ?_
  refine am_e32w (as := [.ref 39]) (la := [some (.ref 39)]) (rest := []) hi_175_10 (am_hd0 (M := 175) (by decide) 10) (Nat.le_of_ble_eq_true rfl) (Nat.le_of_ble_eq_true rfl) (show 1 ≤ am_P0.2.2.1 178 from by decide +kernel) rfl (am_recv_ok hS61.fs) rfl rfl ?_
  refine am_e2 (v := 39) hi_178_0 rfl ?_
  refine am_e0 hi_178_1 ?_
  refine am_e0 hi_178_2 ?_
  refine am_e0 hi_178_3 ?_
  refine am_e0 hi_178_4 ?_
  refine am_e32n (as := [.ref 39, .int 1, .int 0, .int 0, .int 0]) (la := [some (.ref 39), some (.int 1), some (.int 0), some (.int 0), some (.int 0)]) (rest := []) hi_178_5 (am_hd0 (M := 178) (by decide) 5) (Nat.le_of_ble_eq_true rfl) (Nat.le_of_ble_eq_true rfl) (show 5 ≤ am_P0.2.2.1 179 from by decide +kernel) rfl (am_recv_ok hS61.fs) rfl rfl (ct_pile (d := (d + 7)) hS61 hR64_ (mj_e_plain (by decide)) (by show (0 : Int) ≤ (0 : Int); omega) (by show (0 : Int) ≤ (65535 : Int); omega)) ?_
  rintro v65 S66 (⟨z67, g'68, hv69, hS70, hR73, h71, h72⟩)
  subst hv69
  have h71_ : z67.toInt = (0 : Int) + 1 := h71
  have h72_ : ∀ j, j ∉ [11, 12, 13, 14] → g'68 j = g'59 j := h72
  replace hS70 : MS S0 S66 (upd (upd (upd (upd (upd (upd (upd (upd (upd (upd (upd (upd (upd (upd (upd (upd f 4 0) 5 0) 6 0) 8 0) 10 z67) 15 0) 20 0) 24 0) 31 0) 32 0) 37 z58) 44 0) 48 0) 53 1) 62 0) 68 0) g'68 := hS70
  have hR73_ : RJ (upd (upd (upd (upd (upd (upd (upd (upd (upd (upd (upd (upd (upd (upd (upd (upd f 4 0) 5 0) 6 0) 8 0) 10 z67) 15 0) 20 0) 24 0) 31 0) 32 0) 37 z58) 44 0) 48 0) 53 1) 62 0) 68 0) g'68 (((1 : Int), (0 : Int), (0 : Int), (0 : Int), []) :: []) ([] :: []) [] 0 [] := hR73
  show am_E _ _ _ _ [some (.ref 39)] [] _ _
  refine am_e35 hi_178_8 ?_
  show am_E _ _ _ _ [some (.ref 39), none] [] _ _
  have q1 : mg_p1 (((1 : Int), (0 : Int), (0 : Int), (0 : Int), []) :: []) = 0 := rfl
  have q2 : mg_p2 (((1 : Int), (0 : Int), (0 : Int), (0 : Int), []) :: []) = 0 := rfl
  have q3 : mg_p3 (((1 : Int), (0 : Int), (0 : Int), (0 : Int), []) :: []) = 1 := rfl
  have q4 : mg_p4 (((1 : Int), (0 : Int), (0 : Int), (0 : Int), []) :: []) = 0 := rfl
  have hB : BI (upd (upd (upd (upd (upd (upd (upd (upd (upd (upd (upd (upd (upd (upd (upd (upd f 4 0) 5 0) 6 0) 8 0) 10 z67) 15 0) 20 0) 24 0) 31 0) 32 0) 37 z58) 44 0) 48 0) 53 1) 62 0) 68 0) g'68 (((1 : Int), (0 : Int), (0 : Int), (0 : Int), []) :: []) ([] :: []) := ⟨hR73_, ⟨⟨(show mg_k 1 from by decide), (show (0 : Int) ≤ (0 : Int) from by omega), (show 0 ≤ (0 : Int) from by omega), (show 1 ≤ z58.toInt from by omega), (show 0 ≤ (0 : Int) from by omega), (show (0 : Int) ≤ (0 : Int) from by omega), (show (0 : Int) ≤ 48 from by omega), (show z58.toInt ≤ 2 * (0 : Int) + 1 from by omega), trivial⟩, (show 0 ≤ (0 : Int) + 0 ∧ 0 ≤ (0 : Int) ∧ 1 ≤ z58.toInt + 0 ∧ 0 ≤ (0 : Int) + 0 ∧ (0 : Int) + 0 ≤ (0 : Int) + 0 ∧ (0 : Int) + 0 ≤ 48 ∧ z58.toInt + 0 ≤ 2 * ((0 : Int) + 0) + 2 from by omega)⟩, (by show 0 ≤ (0 : Int); omega), (by show (0 : Int) ≤ (f 0).toInt; omega), (by show (f 0).toInt ≤ 512; omega), (by show 0 ≤ (0 : Int); omega), (by show (0 : Int) + (0 : Int) + mg_p1 (((1 : Int), (0 : Int), (0 : Int), (0 : Int), []) :: []) ≤ 4 * (0 : Int); omega), (by show (0 : Int) ≤ (0 : Int); omega), (by show (0 : Int) + mg_p2 (((1 : Int), (0 : Int), (0 : Int), (0 : Int), []) :: []) ≤ (0 : Int); omega), (by show mg_p3 (((1 : Int), (0 : Int), (0 : Int), (0 : Int), []) :: []) ≤ 20 * (0 : Int) + 20; omega), (by show 0 ≤ (0 : Int); omega), (by show (0 : Int) + 3 * (0 : Int) + mg_p4 (((1 : Int), (0 : Int), (0 : Int), (0 : Int), []) :: []) ≤ 60 * (0 : Int) + 60; omega), (by show 0 ≤ (0 : Int); omega), (by show (0 : Int) + 64 * (0 : Int) ≤ 64 * (0 : Int); omega), (by show 0 ≤ (0 : Int); omega), (by show (0 : Int) ≤ (0 : Int); omega), (by show 0 ≤ (0 : Int); omega), (by show (0 : Int) ≤ (0 : Int); omega), (by show 1 ≤ (1 : Int); omega), (by show (1 : Int) ≤ (0 : Int) + 1; omega), (by show 0 ≤ (f 19).toInt; omega), (by show (f 19).toInt ≤ 600; omega), (by show 0 ≤ (0 : Int); omega), (by show 0 ≤ (0 : Int); omega)⟩
  refine lp_comp (d := d) (f0 := (upd (upd (upd (upd (upd (upd (upd (upd (upd (upd (upd (upd (upd (upd (upd (upd f 4 0) 5 0) 6 0) 8 0) 10 z67) 15 0) 20 0) 24 0) 31 0) 32 0) 37 z58) 44 0) 48 0) 53 1) 62 0) 68 0)) ?_ ((100 * ((f 0).toInt - (0 : Int)) + mg_p3 (((1 : Int), (0 : Int), (0 : Int), (0 : Int), []) :: [])).toNat + 1) _ _ _ _ _ hS70 hB rfl (by show 100 * ((f 0).toInt - (0 : Int)) + mg_p3 (((1 : Int), (0 : Int), (0 : Int), (0 : Int), []) :: []) < _; omega)
  intro S1 f1 g1 bc1 hS1 hoff
  obtain ⟨hR1, o0, o1, o2, o3, o4, o5, o6, o7, o8, o9, o10, o11, o12, o13, o14, o15, o16, o17, o18⟩ := hoff
  have o0_ : (f1 0).toInt = (f 0).toInt := by rw [o0]; rfl
  have o2_ : (f1 4).toInt ≤ (f 0).toInt := o2
  refine am_e2 (v := 39) hi_175_73 rfl ?_
  refine mm_20 (v := .int (f1 6)) hS1 hi_175_74 rfl ?_
  by_cases c74 : ¬ (f1 6).toInt = (0 : Int)
  · refine am_e12t hi_175_77 (am_cT (m := (f1 6).toInt) (n := (0 : Int)) rfl (by decide) c74) ?_
    refine am_e2 (v := 39) hi_175_98 rfl ?_
    refine mm_20 (v := .int (f1 6)) hS1 hi_175_99 rfl ?_
    refine am_e12t hi_175_102 (am_cT (m := (f1 6).toInt) (n := (0 : Int)) rfl (by decide) (by simp only [am_cI]; omega)) ?_
    refine am_e2 (v := 39) hi_175_122 rfl ?_
    refine mm_20 (v := .int (f1 6)) hS1 hi_175_123 rfl ?_
    refine am_e12f hi_175_126 (am_cF (m := (f1 6).toInt) (n := (0 : Int)) rfl (by decide) (by simp only [am_cI]; omega)) ?_
    refine am_e2 (v := 39) hi_175_129 rfl ?_
    refine mm_20 (v := .int (f1 6)) hS1 hi_175_130 rfl ?_
    refine am_e18 hi_175_133 ?_
    refine am_e3 (ls' := [some (.ref 39), some (.int (f1 6))]) hi_175_140 (Nat.le_of_ble_eq_true rfl) rfl ?_
    refine am_e2 (v := 39) hi_175_141 rfl ?_
    refine am_e2 (v := 39) hi_175_142 rfl ?_
    refine mm_20 (v := .int (f1 6)) hS1 hi_175_143 rfl ?_
    refine am_e12f hi_175_146 (am_cF (m := (f1 6).toInt) (n := (0 : Int)) rfl (by decide) (by simp only [am_cI]; omega)) ?_
    refine am_e2 (v := 39) hi_175_149 rfl ?_
    refine mm_20 (v := .int (f1 7)) hS1 hi_175_150 rfl ?_
    refine am_e18 hi_175_153 ?_
    refine mm_21 (v := f1 7) hS1 hi_175_174 rfl (Nat.le_of_ble_eq_true rfl) ms_3 ?_
    intro S75 hS76
    refine am_e2 (v := 39) hi_175_177 rfl ?_
    refine mm_20 (v := .ref 78) hS76 hi_175_178 rfl ?_
    refine am_e0 hi_175_181 ?_
    refine am_e2 (v := 39) hi_175_182 rfl ?_
    refine mm_20 (v := .int (f1 0)) hS76 hi_175_183 rfl ?_
    refine mm_26 hS76 ma_57 hi_175_186 (by decide) (by decide) (by decide) (fun h => nomatch h) ?_
    intro S77 hS78
    refine am_e2 (v := 39) hi_175_187 rfl ?_
    refine am_e0 hi_175_188 ?_
    refine mm_21 (v := 0) hS78 hi_175_189 rfl (Nat.le_of_ble_eq_true rfl) ms_0 ?_
    intro S79 hS80
    replace hS80 : MS S0 S79 (upd (upd f1 0 0) 3 (f1 7)) (upg g1 57 0 (f1 0)) := hS80
    refine am_e2 (v := 39) hi_175_192 rfl ?_
    refine am_e1 (v := f1 6) hi_175_193 rfl ?_
    refine am_e12f hi_175_194 (am_cF (m := (f1 6).toInt) (n := (0 : Int)) rfl (by decide) (by simp only [am_cI]; omega)) ?_
    refine am_e0 hi_175_197 ?_
    refine am_e18 hi_175_198 ?_
    refine mm_21 (v := 0) hS80 hi_175_205 rfl (Nat.le_of_ble_eq_true rfl) ms_53 ?_
    intro S81 hS82
    refine am_e1 (v := f1 6) hi_175_208 rfl ?_
    refine am_e12t hi_175_209 (am_cT (m := (f1 6).toInt) (n := (0 : Int)) rfl (by decide) (by simp only [am_cI]; omega)) ?_
    refine am_e1 (v := f1 6) hi_175_216 rfl ?_
    refine am_e12f hi_175_217 (am_cF (m := (f1 6).toInt) (n := (0 : Int)) rfl (by decide) (by simp only [am_cI]; omega)) ?_
    refine am_e1 (v := f1 6) hi_175_220 rfl ?_
    obtain ⟨z83, hz83⟩ : ∃ q__, -(f1 6) = q__ := ⟨_, rfl⟩
    refine am_e11 (z := z83) hi_175_221 hz83 ?_
    refine am_e18 hi_175_222 ?_
    refine am_e33 hi_175_229 ?_
    exact ⟨_, _, _, rfl, hS82, ri_bad (F := (upd (upd (upd f1 0 0) 3 (f1 7)) 53 0)) (f := f1) (g := g1) hR1 (show (0 : Int32).toInt = 0 from by decide) ⟨(show 0 ≤ (f1 19).toInt from by omega), (show (f1 19).toInt ≤ 600 from by omega)⟩ ⟨(show 0 ≤ (f1 62).toInt from by omega), (show (f1 62).toInt ≤ 65000 from by omega)⟩ (show ∀ j, j ∉ [57, 60, 61, 74] → (upg g1 57 0 (f1 0)) j = g1 j from by intro j hj; simp only [List.mem_cons, List.not_mem_nil, or_false, not_or] at hj; simp only [upg, hj, if_false]), (show (0 : Int32).toInt = 0 from by decide), (fun x hx => (sq_0 (show (x : Int) < (0 : Int32).toInt from hx)).elim), fun hx => (sq_0 (show ((0 : Nat) : Int) < (0 : Int32).toInt from hx)).elim⟩
  · refine am_e12f hi_175_77 (am_cF (m := (f1 6).toInt) (n := (0 : Int)) rfl (by decide) c74) ?_
    refine am_e2 (v := 39) hi_175_80 rfl ?_
    refine mm_20 (v := .int (f1 4)) hS1 hi_175_81 rfl ?_
    refine am_e2 (v := 39) hi_175_84 rfl ?_
    refine mm_20 (v := .int (f1 0)) hS1 hi_175_85 rfl ?_
    by_cases c84 : (f1 0).toInt ≤ (f1 4).toInt
    · refine am_e13t hi_175_88 (am_cT (m := (f1 4).toInt) (n := (f1 0).toInt) rfl rfl c84) ?_
      refine am_e2 (v := 39) hi_175_98 rfl ?_
      refine mm_20 (v := .int (f1 6)) hS1 hi_175_99 rfl ?_
      refine am_e12f hi_175_102 (am_cF (m := (f1 6).toInt) (n := (0 : Int)) rfl (by decide) (by simp only [am_cI]; omega)) ?_
      refine am_e2 (v := 39) hi_175_105 rfl ?_
      refine am_e0 hi_175_106 ?_
      refine am_e0 hi_175_108 ?_
      refine am_e0 hi_175_109 ?_
      refine am_e2 (v := 39) hi_175_110 rfl ?_
      refine mm_20 (v := .int (f1 0)) hS1 hi_175_111 rfl ?_
      refine am_e32n (as := [.ref 39, .int 45, .int 0, .int 0, .int (f1 0)]) (la := [some (.ref 39), some (.int 45), some (.int 0), some (.int 0), some (.int (f1 0))]) (rest := []) hi_175_114 (am_hd0 (M := 175) (by decide) 114) (Nat.le_of_ble_eq_true rfl) (Nat.le_of_ble_eq_true rfl) (show 5 ≤ am_P0.2.2.1 189 from by decide +kernel) rfl (am_recv_ok hS1.fs) rfl rfl (ct_put (d := (d + 8)) hS1 hR1  (by show (0 : Int) ≤ (f1 32).toInt; omega) (by show (f1 32).toInt ≤ (63 : Int); omega) (by show (f1 53).toInt ≤ (4096 : Int); omega) (by show (0 : Int) ≤ (f1 68).toInt; omega) (by show (f1 68).toInt ≤ (65534 : Int); omega)) ?_
      rintro v85 S86 (⟨z87, r88, g'89, hv90, hS91, hR95, h92, h93, h94⟩)
      subst hv90
      have h92_ : z87.toInt = (f1 68).toInt + 1 := h92
      have h93_ : r88.toInt = (f1 68).toInt := h93
      have h94_ : ∀ j, j ∉ [60, 69, 70, 71, 72, 73] → g'89 j = g1 j := h94
      have hR95_ : RJ (upd f1 68 z87) g'89 [] bc1 [] 0 ((f1 68).toNatClampNeg :: []) := hR95
      show am_E _ _ _ _ [some (.ref 39), none] [.int r88] _ _
      refine am_e6i hi_175_117 ?_
      refine am_e2 (v := 39) hi_175_118 rfl ?_
      refine am_e32n (as := [.ref 39]) (la := [some (.ref 39), none]) (rest := []) hi_175_119 (am_hd0 (M := 175) (by decide) 119) (Nat.le_of_ble_eq_true rfl) (Nat.le_of_ble_eq_true rfl) (show 1 ≤ am_P0.2.2.1 223 from by decide +kernel) rfl (am_recv_ok hS91.fs) rfl rfl (ct_lostGotos (d := (d + 7)) hS91 hR95_  (by show (0 : Int) ≤ (f1 32).toInt; omega) (by show (f1 32).toInt ≤ (63 : Int); omega) (by show (0 : Int) ≤ (f1 48).toInt; omega) (by show (f1 48).toInt ≤ (8192 : Int); omega) (by show (f1 4).toInt ≤ (8192 : Int); omega) (by show (0 : Int) ≤ (f1 8).toInt; omega)) ?_
      rintro v96 S97 (⟨a98, b99, z100, hv101, hS102, hR106, h103, h104, h105⟩)
      subst hv101
      have h103_ : (0 : Int) ≤ z100.toInt := h103
      have h104_ : z100.toInt ≤ (f1 4).toInt := h104
      have h105_ : (0 : Int) ≤ a98.toInt := h105
      replace hS102 : MS S0 S97 (upd (upd (upd (upd f1 8 a98) 9 b99) 48 z100) 68 z87) g'89 := hS102
      have hR106_ : RJ (upd (upd (upd (upd f1 8 a98) 9 b99) 48 z100) 68 z87) g'89 [] bc1 [] 0 ((f1 68).toNatClampNeg :: []) := hR106
      show am_E _ _ _ _ [some (.ref 39), none] [] _ _
      refine am_e2 (v := 39) hi_175_122 rfl ?_
      refine mm_20 (v := .int (f1 6)) hS102 hi_175_123 rfl ?_
      refine am_e12t hi_175_126 (am_cT (m := (f1 6).toInt) (n := (0 : Int)) rfl (by decide) (by simp only [am_cI]; omega)) ?_
      refine am_e2 (v := 39) hi_175_136 rfl ?_
      refine mm_20 (v := .int a98) hS102 hi_175_137 rfl ?_
      refine am_e3 (ls' := [some (.ref 39), some (.int a98)]) hi_175_140 (Nat.le_of_ble_eq_true rfl) rfl ?_
      refine am_e2 (v := 39) hi_175_141 rfl ?_
      refine am_e2 (v := 39) hi_175_142 rfl ?_
      refine mm_20 (v := .int (f1 6)) hS102 hi_175_143 rfl ?_
      refine am_e12t hi_175_146 (am_cT (m := (f1 6).toInt) (n := (0 : Int)) rfl (by decide) (by simp only [am_cI]; omega)) ?_
      refine am_e2 (v := 39) hi_175_156 rfl ?_
      refine mm_20 (v := .int a98) hS102 hi_175_157 rfl ?_
      by_cases c107 : a98.toInt ≤ (0 : Int)
      · refine am_e12t hi_175_160 (am_cT (m := a98.toInt) (n := (0 : Int)) rfl (by decide) c107) ?_
        refine am_e2 (v := 39) hi_175_170 rfl ?_
        refine mm_20 (v := .int (f1 0)) hS102 hi_175_171 rfl ?_
        refine mm_21 (v := f1 0) hS102 hi_175_174 rfl (Nat.le_of_ble_eq_true rfl) ms_3 ?_
        intro S108 hS109
        replace hS109 : MS S0 S108 (upd (upd (upd (upd (upd f1 3 (f1 0)) 8 a98) 9 b99) 48 z100) 68 z87) g'89 := hS109
        refine am_e2 (v := 39) hi_175_177 rfl ?_
        refine mm_20 (v := .ref 78) hS109 hi_175_178 rfl ?_
        refine am_e0 hi_175_181 ?_
        refine am_e2 (v := 39) hi_175_182 rfl ?_
        refine mm_20 (v := .int (f1 0)) hS109 hi_175_183 rfl ?_
        refine mm_26 hS109 ma_57 hi_175_186 (by decide) (by decide) (by decide) (fun h => nomatch h) ?_
        intro S110 hS111
        refine am_e2 (v := 39) hi_175_187 rfl ?_
        refine am_e0 hi_175_188 ?_
        refine mm_21 (v := 0) hS111 hi_175_189 rfl (Nat.le_of_ble_eq_true rfl) ms_0 ?_
        intro S112 hS113
        replace hS113 : MS S0 S112 (upd (upd (upd (upd (upd (upd f1 0 0) 3 (f1 0)) 8 a98) 9 b99) 48 z100) 68 z87) (upg g'89 57 0 (f1 0)) := hS113
        refine am_e2 (v := 39) hi_175_192 rfl ?_
        refine am_e1 (v := a98) hi_175_193 rfl ?_
        refine am_e12t hi_175_194 (am_cT (m := a98.toInt) (n := (0 : Int)) rfl (by decide) (by simp only [am_cI]; omega)) ?_
        refine am_e2 (v := 39) hi_175_201 rfl ?_
        refine mm_20 (v := .int (f1 53)) hS113 hi_175_202 rfl ?_
        refine mm_21 (v := f1 53) hS113 hi_175_205 rfl (Nat.le_of_ble_eq_true rfl) ms_53 ?_
        intro S114 hS115
        replace hS115 : MS S0 S114 (upd (upd (upd (upd (upd (upd (upd f1 0 0) 3 (f1 0)) 8 a98) 9 b99) 48 z100) 53 (f1 53)) 68 z87) (upg g'89 57 0 (f1 0)) := hS115
        refine am_e1 (v := a98) hi_175_208 rfl ?_
        refine am_e12f hi_175_209 (am_cF (m := a98.toInt) (n := (0 : Int)) rfl (by decide) (by simp only [am_cI]; omega)) ?_
        refine am_e2 (v := 39) hi_175_212 rfl ?_
        refine am_e32n (as := [.ref 39]) (la := [some (.ref 39), none, none]) (rest := []) hi_175_213 (am_hd0 (M := 175) (by decide) 213) (Nat.le_of_ble_eq_true rfl) (Nat.le_of_ble_eq_true rfl) (show 1 ≤ am_P0.2.2.1 266 from by decide +kernel) rfl (am_recv_ok hS115.fs) rfl rfl (ct_srt (d := (d + 8)) hS115  (RJ.o2 hR106_) (by show (0 : Int) ≤ (f1 53).toInt; omega) (by show (f1 53).toInt ≤ (600 : Int); omega) (by show (0 : Int) ≤ z87.toInt; omega) (by show z87.toInt ≤ (65000 : Int); omega)) ?_
        rintro v116 S117 (⟨g'118, hv119, hS120, h121, h122, h123, hqs⟩)
        have hqs_ : ∀ x : Nat, (x : Int) < (f1 53).toInt → (g'118 61 (x + 1)).toInt = (g'118 61 x).toInt + (g'118 60 x).toInt := hqs
        subst hv119
        have h121_ : ∀ j, j ∉ [60, 61, 74] → g'118 j = (upg g'89 57 0 (f1 0)) j := h121
        have h122_ : ∀ x : Nat, (x : Int) < (f1 53).toInt → 0 ≤ (g'118 61 x).toInt ∧ 0 ≤ (g'118 60 x).toInt ∧ (g'118 61 x).toInt + (g'118 60 x).toInt ≤ 65000 := h122
        have h123_ : ∀ x : Nat, (x : Int) < (f1 53).toInt → ∀ j : Nat, (j : Int) < (g'118 60 x).toInt → 0 ≤ (g'118 74 ((g'118 61 x).toInt.toNat + j)).toInt ∧ (g'118 74 ((g'118 61 x).toInt.toNat + j)).toInt < 65536 := h123
        show am_E _ _ _ _ [some (.ref 39), some (.int a98)] [] _ _
        refine am_e1 (v := a98) hi_175_216 rfl ?_
        refine am_e12t hi_175_217 (am_cT (m := a98.toInt) (n := (0 : Int)) rfl (by decide) (by simp only [am_cI]; omega)) ?_
        refine am_e2 (v := 39) hi_175_225 rfl ?_
        refine mm_20 (v := .int (f1 53)) hS120 hi_175_226 rfl ?_
        refine am_e33 hi_175_229 ?_
        exact ⟨_, _, _, rfl, hS120, ri_good (F := (upd (upd (upd (upd (upd (upd (upd f1 0 0) 3 (f1 0)) 8 a98) 9 b99) 48 z100) 53 (f1 53)) 68 z87)) (f := (upd (upd (upd (upd f1 8 a98) 9 b99) 48 z100) 68 z87)) (g := g'89) hR106_ rfl rfl ⟨(show 0 ≤ (f1 19).toInt from by omega), (show (f1 19).toInt ≤ 600 from by omega)⟩ ⟨(show 0 ≤ (f1 53).toInt from by omega), (show (f1 53).toInt ≤ 600 from by omega)⟩ ⟨(show 0 ≤ (f1 62).toInt from by omega), (show (f1 62).toInt ≤ 65000 from by omega)⟩ (fun j hj => ((show ∀ j, j ∉ [57, 60, 61, 74] → g'118 j = (upg g'89 57 0 (f1 0)) j from fun j hj => h121_ j (fun q => hj (mem_sub (L := [60, 61, 74]) (L' := [57, 60, 61, 74]) (by decide) q))) j hj).trans ((show ∀ j, j ∉ [57, 60, 61, 74] → (upg g'89 57 0 (f1 0)) j = g'89 j from by intro j hj; simp only [List.mem_cons, List.not_mem_nil, or_false, not_or] at hj; simp only [upg, hj, if_false]) j hj)) h122_ h123_, (show (0 : Int32).toInt = 0 from by decide), hqs_, fun _ => (show (z87).toInt < 65536 from by omega)⟩
      · refine am_e12f hi_175_160 (am_cF (m := a98.toInt) (n := (0 : Int)) rfl (by decide) c107) ?_
        refine am_e2 (v := 39) hi_175_163 rfl ?_
        refine mm_20 (v := .int b99) hS102 hi_175_164 rfl ?_
        refine am_e18 hi_175_167 ?_
        refine mm_21 (v := b99) hS102 hi_175_174 rfl (Nat.le_of_ble_eq_true rfl) ms_3 ?_
        intro S125 hS126
        replace hS126 : MS S0 S125 (upd (upd (upd (upd (upd f1 3 b99) 8 a98) 9 b99) 48 z100) 68 z87) g'89 := hS126
        refine am_e2 (v := 39) hi_175_177 rfl ?_
        refine mm_20 (v := .ref 78) hS126 hi_175_178 rfl ?_
        refine am_e0 hi_175_181 ?_
        refine am_e2 (v := 39) hi_175_182 rfl ?_
        refine mm_20 (v := .int (f1 0)) hS126 hi_175_183 rfl ?_
        refine mm_26 hS126 ma_57 hi_175_186 (by decide) (by decide) (by decide) (fun h => nomatch h) ?_
        intro S127 hS128
        refine am_e2 (v := 39) hi_175_187 rfl ?_
        refine am_e0 hi_175_188 ?_
        refine mm_21 (v := 0) hS128 hi_175_189 rfl (Nat.le_of_ble_eq_true rfl) ms_0 ?_
        intro S129 hS130
        replace hS130 : MS S0 S129 (upd (upd (upd (upd (upd (upd f1 0 0) 3 b99) 8 a98) 9 b99) 48 z100) 68 z87) (upg g'89 57 0 (f1 0)) := hS130
        refine am_e2 (v := 39) hi_175_192 rfl ?_
        refine am_e1 (v := a98) hi_175_193 rfl ?_
        refine am_e12f hi_175_194 (am_cF (m := a98.toInt) (n := (0 : Int)) rfl (by decide) (by simp only [am_cI]; omega)) ?_
        refine am_e0 hi_175_197 ?_
        refine am_e18 hi_175_198 ?_
        refine mm_21 (v := 0) hS130 hi_175_205 rfl (Nat.le_of_ble_eq_true rfl) ms_53 ?_
        intro S131 hS132
        replace hS132 : MS S0 S131 (upd (upd (upd (upd (upd (upd (upd f1 0 0) 3 b99) 8 a98) 9 b99) 48 z100) 53 0) 68 z87) (upg g'89 57 0 (f1 0)) := hS132
        refine am_e1 (v := a98) hi_175_208 rfl ?_
        refine am_e12t hi_175_209 (am_cT (m := a98.toInt) (n := (0 : Int)) rfl (by decide) (by simp only [am_cI]; omega)) ?_
        refine am_e1 (v := a98) hi_175_216 rfl ?_
        refine am_e12f hi_175_217 (am_cF (m := a98.toInt) (n := (0 : Int)) rfl (by decide) (by simp only [am_cI]; omega)) ?_
        refine am_e1 (v := a98) hi_175_220 rfl ?_
        obtain ⟨z133, hz133⟩ : ∃ q__, -a98 = q__ := ⟨_, rfl⟩
        refine am_e11 (z := z133) hi_175_221 hz133 ?_
        refine am_e18 hi_175_222 ?_
        refine am_e33 hi_175_229 ?_
        exact ⟨_, _, _, rfl, hS132, ri_bad (F := (upd (upd (upd (upd (upd (upd (upd f1 0 0) 3 b99) 8 a98) 9 b99) 48 z100) 53 0) 68 z87)) (f := (upd (upd (upd (upd f1 8 a98) 9 b99) 48 z100) 68 z87)) (g := g'89) hR106_ (show (0 : Int32).toInt = 0 from by decide) ⟨(show 0 ≤ (f1 19).toInt from by omega), (show (f1 19).toInt ≤ 600 from by omega)⟩ ⟨(show 0 ≤ (f1 62).toInt from by omega), (show (f1 62).toInt ≤ 65000 from by omega)⟩ (show ∀ j, j ∉ [57, 60, 61, 74] → (upg g'89 57 0 (f1 0)) j = g'89 j from by intro j hj; simp only [List.mem_cons, List.not_mem_nil, or_false, not_or] at hj; simp only [upg, hj, if_false]), (show (0 : Int32).toInt = 0 from by decide), (fun x hx => (sq_0 (show (x : Int) < (0 : Int32).toInt from hx)).elim), fun hx => (sq_0 (show ((0 : Nat) : Int) < (0 : Int32).toInt from hx)).elim⟩
    · refine am_e13f hi_175_88 (am_cF (m := (f1 4).toInt) (n := (f1 0).toInt) rfl rfl c84) ?_
      refine am_e2 (v := 39) hi_175_91 rfl ?_
      refine am_e0 hi_175_92 ?_
      refine am_e32n (as := [.ref 39, .int 7]) (la := [some (.ref 39), some (.int 7)]) (rest := []) hi_175_94 (am_hd0 (M := 175) (by decide) 94) (Nat.le_of_ble_eq_true rfl) (Nat.le_of_ble_eq_true rfl) (show 2 ≤ am_P0.2.2.1 194 from by decide +kernel) rfl (am_recv_ok hS1.fs) rfl rfl (ct_fail (d := (d + 8)) hS1   (by show (0 : Int) ≤ (7 : Int); omega) (by show (0 : Int) ≤ (f1 6).toInt; omega)) ?_
      rintro v134 S135 (⟨a136, b137, hv138, hS139, h140⟩)
      subst hv138
      have h140_ : (0 : Int) ≤ a136.toInt := h140
      have hR142 := rj_clear0 hR1
      have hR143 : RJ (upd (upd (upd f1 6 a136) 7 b137) 10 0) g1 [] bc1 [] 0 [] := hR142
      show am_E _ _ _ _ [some (.ref 39), none] [.int 0] _ _
      refine am_e6i hi_175_97 ?_
      refine am_e2 (v := 39) hi_175_98 rfl ?_
      refine mm_20 (v := .int a136) hS139 hi_175_99 rfl ?_
      by_cases c144 : ¬ a136.toInt = (0 : Int)
      · refine am_e12t hi_175_102 (am_cT (m := a136.toInt) (n := (0 : Int)) rfl (by decide) c144) ?_
        refine am_e2 (v := 39) hi_175_122 rfl ?_
        refine mm_20 (v := .int a136) hS139 hi_175_123 rfl ?_
        refine am_e12f hi_175_126 (am_cF (m := a136.toInt) (n := (0 : Int)) rfl (by decide) (by simp only [am_cI]; omega)) ?_
        refine am_e2 (v := 39) hi_175_129 rfl ?_
        refine mm_20 (v := .int a136) hS139 hi_175_130 rfl ?_
        refine am_e18 hi_175_133 ?_
        refine am_e3 (ls' := [some (.ref 39), some (.int a136)]) hi_175_140 (Nat.le_of_ble_eq_true rfl) rfl ?_
        refine am_e2 (v := 39) hi_175_141 rfl ?_
        refine am_e2 (v := 39) hi_175_142 rfl ?_
        refine mm_20 (v := .int a136) hS139 hi_175_143 rfl ?_
        refine am_e12f hi_175_146 (am_cF (m := a136.toInt) (n := (0 : Int)) rfl (by decide) (by simp only [am_cI]; omega)) ?_
        refine am_e2 (v := 39) hi_175_149 rfl ?_
        refine mm_20 (v := .int b137) hS139 hi_175_150 rfl ?_
        refine am_e18 hi_175_153 ?_
        refine mm_21 (v := b137) hS139 hi_175_174 rfl (Nat.le_of_ble_eq_true rfl) ms_3 ?_
        intro S145 hS146
        replace hS146 : MS S0 S145 (upd (upd (upd (upd f1 3 b137) 6 a136) 7 b137) 10 0) g1 := hS146
        refine am_e2 (v := 39) hi_175_177 rfl ?_
        refine mm_20 (v := .ref 78) hS146 hi_175_178 rfl ?_
        refine am_e0 hi_175_181 ?_
        refine am_e2 (v := 39) hi_175_182 rfl ?_
        refine mm_20 (v := .int (f1 0)) hS146 hi_175_183 rfl ?_
        refine mm_26 hS146 ma_57 hi_175_186 (by decide) (by decide) (by decide) (fun h => nomatch h) ?_
        intro S147 hS148
        refine am_e2 (v := 39) hi_175_187 rfl ?_
        refine am_e0 hi_175_188 ?_
        refine mm_21 (v := 0) hS148 hi_175_189 rfl (Nat.le_of_ble_eq_true rfl) ms_0 ?_
        intro S149 hS150
        replace hS150 : MS S0 S149 (upd (upd (upd (upd (upd f1 0 0) 3 b137) 6 a136) 7 b137) 10 0) (upg g1 57 0 (f1 0)) := hS150
        refine am_e2 (v := 39) hi_175_192 rfl ?_
        refine am_e1 (v := a136) hi_175_193 rfl ?_
        refine am_e12f hi_175_194 (am_cF (m := a136.toInt) (n := (0 : Int)) rfl (by decide) (by simp only [am_cI]; omega)) ?_
        refine am_e0 hi_175_197 ?_
        refine am_e18 hi_175_198 ?_
        refine mm_21 (v := 0) hS150 hi_175_205 rfl (Nat.le_of_ble_eq_true rfl) ms_53 ?_
        intro S151 hS152
        refine am_e1 (v := a136) hi_175_208 rfl ?_
        refine am_e12t hi_175_209 (am_cT (m := a136.toInt) (n := (0 : Int)) rfl (by decide) (by simp only [am_cI]; omega)) ?_
        refine am_e1 (v := a136) hi_175_216 rfl ?_
        refine am_e12f hi_175_217 (am_cF (m := a136.toInt) (n := (0 : Int)) rfl (by decide) (by simp only [am_cI]; omega)) ?_
        refine am_e1 (v := a136) hi_175_220 rfl ?_
        obtain ⟨z153, hz153⟩ : ∃ q__, -a136 = q__ := ⟨_, rfl⟩
        refine am_e11 (z := z153) hi_175_221 hz153 ?_
        refine am_e18 hi_175_222 ?_
        refine am_e33 hi_175_229 ?_
        exact ⟨_, _, _, rfl, hS152, ri_bad (F := (upd (upd (upd (upd (upd (upd f1 0 0) 3 b137) 6 a136) 7 b137) 10 0) 53 0)) (f := (upd (upd (upd f1 6 a136) 7 b137) 10 0)) (g := g1) hR143 (show (0 : Int32).toInt = 0 from by decide) ⟨(show 0 ≤ (f1 19).toInt from by omega), (show (f1 19).toInt ≤ 600 from by omega)⟩ ⟨(show 0 ≤ (f1 62).toInt from by omega), (show (f1 62).toInt ≤ 65000 from by omega)⟩ (show ∀ j, j ∉ [57, 60, 61, 74] → (upg g1 57 0 (f1 0)) j = g1 j from by intro j hj; simp only [List.mem_cons, List.not_mem_nil, or_false, not_or] at hj; simp only [upg, hj, if_false]), (show (0 : Int32).toInt = 0 from by decide), (fun x hx => (sq_0 (show (x : Int) < (0 : Int32).toInt from hx)).elim), fun hx => (sq_0 (show ((0 : Nat) : Int) < (0 : Int32).toInt from hx)).elim⟩
      · refine am_e12f hi_175_102 (am_cF (m := a136.toInt) (n := (0 : Int)) rfl (by decide) c144) ?_
        refine am_e2 (v := 39) hi_175_105 rfl ?_
        refine am_e0 hi_175_106 ?_
        refine am_e0 hi_175_108 ?_
        refine am_e0 hi_175_109 ?_
        refine am_e2 (v := 39) hi_175_110 rfl ?_
        refine mm_20 (v := .int (f1 0)) hS139 hi_175_111 rfl ?_
        refine am_e32n (as := [.ref 39, .int 45, .int 0, .int 0, .int (f1 0)]) (la := [some (.ref 39), some (.int 45), some (.int 0), some (.int 0), some (.int (f1 0))]) (rest := []) hi_175_114 (am_hd0 (M := 175) (by decide) 114) (Nat.le_of_ble_eq_true rfl) (Nat.le_of_ble_eq_true rfl) (show 5 ≤ am_P0.2.2.1 189 from by decide +kernel) rfl (am_recv_ok hS139.fs) rfl rfl (ct_put (d := (d + 8)) hS139 hR143  (by show (0 : Int) ≤ (f1 32).toInt; omega) (by show (f1 32).toInt ≤ (63 : Int); omega) (by show (f1 53).toInt ≤ (4096 : Int); omega) (by show (0 : Int) ≤ (f1 68).toInt; omega) (by show (f1 68).toInt ≤ (65534 : Int); omega)) ?_
        rintro v154 S155 (⟨z156, r157, g'158, hv159, hS160, hR164, h161, h162, h163⟩)
        subst hv159
        have h161_ : z156.toInt = (f1 68).toInt + 1 := h161
        have h162_ : r157.toInt = (f1 68).toInt := h162
        have h163_ : ∀ j, j ∉ [60, 69, 70, 71, 72, 73] → g'158 j = g1 j := h163
        have hR164_ : RJ (upd (upd (upd (upd f1 6 a136) 7 b137) 10 0) 68 z156) g'158 [] bc1 [] 0 ((f1 68).toNatClampNeg :: []) := hR164
        show am_E _ _ _ _ [some (.ref 39), none] [.int r157] _ _
        refine am_e6i hi_175_117 ?_
        refine am_e2 (v := 39) hi_175_118 rfl ?_
        refine am_e32n (as := [.ref 39]) (la := [some (.ref 39), none]) (rest := []) hi_175_119 (am_hd0 (M := 175) (by decide) 119) (Nat.le_of_ble_eq_true rfl) (Nat.le_of_ble_eq_true rfl) (show 1 ≤ am_P0.2.2.1 223 from by decide +kernel) rfl (am_recv_ok hS160.fs) rfl rfl (ct_lostGotos (d := (d + 7)) hS160 hR164_  (by show (0 : Int) ≤ (f1 32).toInt; omega) (by show (f1 32).toInt ≤ (63 : Int); omega) (by show (0 : Int) ≤ (f1 48).toInt; omega) (by show (f1 48).toInt ≤ (8192 : Int); omega) (by show (f1 4).toInt ≤ (8192 : Int); omega) (by show (0 : Int) ≤ (f1 8).toInt; omega)) ?_
        rintro v165 S166 (⟨a167, b168, z169, hv170, hS171, hR175, h172, h173, h174⟩)
        subst hv170
        have h172_ : (0 : Int) ≤ z169.toInt := h172
        have h173_ : z169.toInt ≤ (f1 4).toInt := h173
        have h174_ : (0 : Int) ≤ a167.toInt := h174
        replace hS171 : MS S0 S166 (upd (upd (upd (upd (upd (upd (upd f1 6 a136) 7 b137) 8 a167) 9 b168) 10 0) 48 z169) 68 z156) g'158 := hS171
        have hR175_ : RJ (upd (upd (upd (upd (upd (upd (upd f1 6 a136) 7 b137) 8 a167) 9 b168) 10 0) 48 z169) 68 z156) g'158 [] bc1 [] 0 ((f1 68).toNatClampNeg :: []) := hR175
        show am_E _ _ _ _ [some (.ref 39), none] [] _ _
        refine am_e2 (v := 39) hi_175_122 rfl ?_
        refine mm_20 (v := .int a136) hS171 hi_175_123 rfl ?_
        refine am_e12t hi_175_126 (am_cT (m := a136.toInt) (n := (0 : Int)) rfl (by decide) (by simp only [am_cI]; omega)) ?_
        refine am_e2 (v := 39) hi_175_136 rfl ?_
        refine mm_20 (v := .int a167) hS171 hi_175_137 rfl ?_
        refine am_e3 (ls' := [some (.ref 39), some (.int a167)]) hi_175_140 (Nat.le_of_ble_eq_true rfl) rfl ?_
        refine am_e2 (v := 39) hi_175_141 rfl ?_
        refine am_e2 (v := 39) hi_175_142 rfl ?_
        refine mm_20 (v := .int a136) hS171 hi_175_143 rfl ?_
        refine am_e12t hi_175_146 (am_cT (m := a136.toInt) (n := (0 : Int)) rfl (by decide) (by simp only [am_cI]; omega)) ?_
        refine am_e2 (v := 39) hi_175_156 rfl ?_
        refine mm_20 (v := .int a167) hS171 hi_175_157 rfl ?_
        by_cases c176 : a167.toInt ≤ (0 : Int)
        · refine am_e12t hi_175_160 (am_cT (m := a167.toInt) (n := (0 : Int)) rfl (by decide) c176) ?_
          refine am_e2 (v := 39) hi_175_170 rfl ?_
          refine mm_20 (v := .int (f1 0)) hS171 hi_175_171 rfl ?_
          refine mm_21 (v := f1 0) hS171 hi_175_174 rfl (Nat.le_of_ble_eq_true rfl) ms_3 ?_
          intro S177 hS178
          replace hS178 : MS S0 S177 (upd (upd (upd (upd (upd (upd (upd (upd f1 3 (f1 0)) 6 a136) 7 b137) 8 a167) 9 b168) 10 0) 48 z169) 68 z156) g'158 := hS178
          refine am_e2 (v := 39) hi_175_177 rfl ?_
          refine mm_20 (v := .ref 78) hS178 hi_175_178 rfl ?_
          refine am_e0 hi_175_181 ?_
          refine am_e2 (v := 39) hi_175_182 rfl ?_
          refine mm_20 (v := .int (f1 0)) hS178 hi_175_183 rfl ?_
          refine mm_26 hS178 ma_57 hi_175_186 (by decide) (by decide) (by decide) (fun h => nomatch h) ?_
          intro S179 hS180
          refine am_e2 (v := 39) hi_175_187 rfl ?_
          refine am_e0 hi_175_188 ?_
          refine mm_21 (v := 0) hS180 hi_175_189 rfl (Nat.le_of_ble_eq_true rfl) ms_0 ?_
          intro S181 hS182
          replace hS182 : MS S0 S181 (upd (upd (upd (upd (upd (upd (upd (upd (upd f1 0 0) 3 (f1 0)) 6 a136) 7 b137) 8 a167) 9 b168) 10 0) 48 z169) 68 z156) (upg g'158 57 0 (f1 0)) := hS182
          refine am_e2 (v := 39) hi_175_192 rfl ?_
          refine am_e1 (v := a167) hi_175_193 rfl ?_
          refine am_e12t hi_175_194 (am_cT (m := a167.toInt) (n := (0 : Int)) rfl (by decide) (by simp only [am_cI]; omega)) ?_
          refine am_e2 (v := 39) hi_175_201 rfl ?_
          refine mm_20 (v := .int (f1 53)) hS182 hi_175_202 rfl ?_
          refine mm_21 (v := f1 53) hS182 hi_175_205 rfl (Nat.le_of_ble_eq_true rfl) ms_53 ?_
          intro S183 hS184
          replace hS184 : MS S0 S183 (upd (upd (upd (upd (upd (upd (upd (upd (upd (upd f1 0 0) 3 (f1 0)) 6 a136) 7 b137) 8 a167) 9 b168) 10 0) 48 z169) 53 (f1 53)) 68 z156) (upg g'158 57 0 (f1 0)) := hS184
          refine am_e1 (v := a167) hi_175_208 rfl ?_
          refine am_e12f hi_175_209 (am_cF (m := a167.toInt) (n := (0 : Int)) rfl (by decide) (by simp only [am_cI]; omega)) ?_
          refine am_e2 (v := 39) hi_175_212 rfl ?_
          refine am_e32n (as := [.ref 39]) (la := [some (.ref 39), none, none]) (rest := []) hi_175_213 (am_hd0 (M := 175) (by decide) 213) (Nat.le_of_ble_eq_true rfl) (Nat.le_of_ble_eq_true rfl) (show 1 ≤ am_P0.2.2.1 266 from by decide +kernel) rfl (am_recv_ok hS184.fs) rfl rfl (ct_srt (d := (d + 8)) hS184  (RJ.o2 hR175_) (by show (0 : Int) ≤ (f1 53).toInt; omega) (by show (f1 53).toInt ≤ (600 : Int); omega) (by show (0 : Int) ≤ z156.toInt; omega) (by show z156.toInt ≤ (65000 : Int); omega)) ?_
          rintro v185 S186 (⟨g'187, hv188, hS189, h190, h191, h192, hqs⟩)
          have hqs_ : ∀ x : Nat, (x : Int) < (f1 53).toInt → (g'187 61 (x + 1)).toInt = (g'187 61 x).toInt + (g'187 60 x).toInt := hqs
          subst hv188
          have h190_ : ∀ j, j ∉ [60, 61, 74] → g'187 j = (upg g'158 57 0 (f1 0)) j := h190
          have h191_ : ∀ x : Nat, (x : Int) < (f1 53).toInt → 0 ≤ (g'187 61 x).toInt ∧ 0 ≤ (g'187 60 x).toInt ∧ (g'187 61 x).toInt + (g'187 60 x).toInt ≤ 65000 := h191
          have h192_ : ∀ x : Nat, (x : Int) < (f1 53).toInt → ∀ j : Nat, (j : Int) < (g'187 60 x).toInt → 0 ≤ (g'187 74 ((g'187 61 x).toInt.toNat + j)).toInt ∧ (g'187 74 ((g'187 61 x).toInt.toNat + j)).toInt < 65536 := h192
          show am_E _ _ _ _ [some (.ref 39), some (.int a167)] [] _ _
          refine am_e1 (v := a167) hi_175_216 rfl ?_
          refine am_e12t hi_175_217 (am_cT (m := a167.toInt) (n := (0 : Int)) rfl (by decide) (by simp only [am_cI]; omega)) ?_
          refine am_e2 (v := 39) hi_175_225 rfl ?_
          refine mm_20 (v := .int (f1 53)) hS189 hi_175_226 rfl ?_
          refine am_e33 hi_175_229 ?_
          exact ⟨_, _, _, rfl, hS189, ri_good (F := (upd (upd (upd (upd (upd (upd (upd (upd (upd (upd f1 0 0) 3 (f1 0)) 6 a136) 7 b137) 8 a167) 9 b168) 10 0) 48 z169) 53 (f1 53)) 68 z156)) (f := (upd (upd (upd (upd (upd (upd (upd f1 6 a136) 7 b137) 8 a167) 9 b168) 10 0) 48 z169) 68 z156)) (g := g'158) hR175_ rfl rfl ⟨(show 0 ≤ (f1 19).toInt from by omega), (show (f1 19).toInt ≤ 600 from by omega)⟩ ⟨(show 0 ≤ (f1 53).toInt from by omega), (show (f1 53).toInt ≤ 600 from by omega)⟩ ⟨(show 0 ≤ (f1 62).toInt from by omega), (show (f1 62).toInt ≤ 65000 from by omega)⟩ (fun j hj => ((show ∀ j, j ∉ [57, 60, 61, 74] → g'187 j = (upg g'158 57 0 (f1 0)) j from fun j hj => h190_ j (fun q => hj (mem_sub (L := [60, 61, 74]) (L' := [57, 60, 61, 74]) (by decide) q))) j hj).trans ((show ∀ j, j ∉ [57, 60, 61, 74] → (upg g'158 57 0 (f1 0)) j = g'158 j from by intro j hj; simp only [List.mem_cons, List.not_mem_nil, or_false, not_or] at hj; simp only [upg, hj, if_false]) j hj)) h191_ h192_, (show (0 : Int32).toInt = 0 from by decide), hqs_, fun _ => (show (z156).toInt < 65536 from by omega)⟩
        · refine am_e12f hi_175_160 (am_cF (m := a167.toInt) (n := (0 : Int)) rfl (by decide) c176) ?_
          refine am_e2 (v := 39) hi_175_163 rfl ?_
          refine mm_20 (v := .int b168) hS171 hi_175_164 rfl ?_
          refine am_e18 hi_175_167 ?_
          refine mm_21 (v := b168) hS171 hi_175_174 rfl (Nat.le_of_ble_eq_true rfl) ms_3 ?_
          intro S194 hS195
          replace hS195 : MS S0 S194 (upd (upd (upd (upd (upd (upd (upd (upd f1 3 b168) 6 a136) 7 b137) 8 a167) 9 b168) 10 0) 48 z169) 68 z156) g'158 := hS195
          refine am_e2 (v := 39) hi_175_177 rfl ?_
          refine mm_20 (v := .ref 78) hS195 hi_175_178 rfl ?_
          refine am_e0 hi_175_181 ?_
          refine am_e2 (v := 39) hi_175_182 rfl ?_
          refine mm_20 (v := .int (f1 0)) hS195 hi_175_183 rfl ?_
          refine mm_26 hS195 ma_57 hi_175_186 (by decide) (by decide) (by decide) (fun h => nomatch h) ?_
          intro S196 hS197
          refine am_e2 (v := 39) hi_175_187 rfl ?_
          refine am_e0 hi_175_188 ?_
          refine mm_21 (v := 0) hS197 hi_175_189 rfl (Nat.le_of_ble_eq_true rfl) ms_0 ?_
          intro S198 hS199
          replace hS199 : MS S0 S198 (upd (upd (upd (upd (upd (upd (upd (upd (upd f1 0 0) 3 b168) 6 a136) 7 b137) 8 a167) 9 b168) 10 0) 48 z169) 68 z156) (upg g'158 57 0 (f1 0)) := hS199
          refine am_e2 (v := 39) hi_175_192 rfl ?_
          refine am_e1 (v := a167) hi_175_193 rfl ?_
          refine am_e12f hi_175_194 (am_cF (m := a167.toInt) (n := (0 : Int)) rfl (by decide) (by simp only [am_cI]; omega)) ?_
          refine am_e0 hi_175_197 ?_
          refine am_e18 hi_175_198 ?_
          refine mm_21 (v := 0) hS199 hi_175_205 rfl (Nat.le_of_ble_eq_true rfl) ms_53 ?_
          intro S200 hS201
          replace hS201 : MS S0 S200 (upd (upd (upd (upd (upd (upd (upd (upd (upd (upd f1 0 0) 3 b168) 6 a136) 7 b137) 8 a167) 9 b168) 10 0) 48 z169) 53 0) 68 z156) (upg g'158 57 0 (f1 0)) := hS201
          refine am_e1 (v := a167) hi_175_208 rfl ?_
          refine am_e12t hi_175_209 (am_cT (m := a167.toInt) (n := (0 : Int)) rfl (by decide) (by simp only [am_cI]; omega)) ?_
          refine am_e1 (v := a167) hi_175_216 rfl ?_
          refine am_e12f hi_175_217 (am_cF (m := a167.toInt) (n := (0 : Int)) rfl (by decide) (by simp only [am_cI]; omega)) ?_
          refine am_e1 (v := a167) hi_175_220 rfl ?_
          obtain ⟨z202, hz202⟩ : ∃ q__, -a167 = q__ := ⟨_, rfl⟩
          refine am_e11 (z := z202) hi_175_221 hz202 ?_
          refine am_e18 hi_175_222 ?_
          refine am_e33 hi_175_229 ?_
          exact ⟨_, _, _, rfl, hS201, ri_bad (F := (upd (upd (upd (upd (upd (upd (upd (upd (upd (upd f1 0 0) 3 b168) 6 a136) 7 b137) 8 a167) 9 b168) 10 0) 48 z169) 53 0) 68 z156)) (f := (upd (upd (upd (upd (upd (upd (upd f1 6 a136) 7 b137) 8 a167) 9 b168) 10 0) 48 z169) 68 z156)) (g := g'158) hR175_ (show (0 : Int32).toInt = 0 from by decide) ⟨(show 0 ≤ (f1 19).toInt from by omega), (show (f1 19).toInt ≤ 600 from by omega)⟩ ⟨(show 0 ≤ (f1 62).toInt from by omega), (show (f1 62).toInt ≤ 65000 from by omega)⟩ (show ∀ j, j ∉ [57, 60, 61, 74] → (upg g'158 57 0 (f1 0)) j = g'158 j from by intro j hj; simp only [List.mem_cons, List.not_mem_nil, or_false, not_or] at hj; simp only [upg, hj, if_false]), (show (0 : Int32).toInt = 0 from by decide), (fun x hx => (sq_0 (show (x : Int) < (0 : Int32).toInt from hx)).elim), fun hx => (sq_0 (show ((0 : Nat) : Int) < (0 : Int32).toInt from hx)).elim⟩
