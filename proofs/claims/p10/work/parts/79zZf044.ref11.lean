/-! THE REFERENCE: goals piled (printed by wip/p2/ref11.py) -/
theorem ct_pile {sc : Nat × (Nat → Int32)} {d : Nat} {S0 S : am_S} {f : Nat → Int32} {g : Nat → Nat → Int32} {go : Int32} {on : Int32} {tw : Int32} {th : Int32} {gs : List mg_E} {bc : List (List Nat)} {fl : List Nat} {fk : Int} {pj : List Nat} (hS : MS S0 S f g) (hR : RJ f g gs bc fl fk pj) (he : mj_e (f 68) (g 71) (mj_all gs bc fl) (go.toInt, on.toInt, tw.toInt, th.toInt, [])) (p0 : (0 : Int) ≤ (f 10).toInt) (p1 : (f 10).toInt ≤ (65535 : Int)) : am_E (am_PP sc) (d + 0) 179 0 [some (.ref 39), some (.int go), some (.int on), some (.int tw), some (.int th)] [] S (am_N fun v S1 => (∃ z : Int32, ∃ g' : Nat → Nat → Int32, v = none ∧ MS S0 S1 (upd f 10 z) g' ∧ (RJ (upd f 10 z) g' ((go.toInt, on.toInt, tw.toInt, th.toInt, []) :: gs) bc fl fk pj) ∧ (z.toInt = (f 10).toInt + 1) ∧ (∀ j, j ∉ [11, 12, 13, 14] → g' j = g j))) := by
  refine am_e2 (v := 39) hi_179_0 rfl ?_
  refine mm_20 (v := .ref 42) hS hi_179_1 rfl ?_
  refine am_e2 (v := 39) hi_179_4 rfl ?_
  refine mm_20 (v := .int (f 10)) hS hi_179_5 rfl ?_
  refine am_e1 (v := go) hi_179_8 rfl ?_
  refine mm_26 hS ma_11 hi_179_9 (by decide) (by omega) (by omega) (fun h => nomatch h) ?_
  intro S0 hS1
  refine am_e2 (v := 39) hi_179_10 rfl ?_
  refine mm_20 (v := .ref 43) hS1 hi_179_11 rfl ?_
  refine am_e2 (v := 39) hi_179_14 rfl ?_
  refine mm_20 (v := .int (f 10)) hS1 hi_179_15 rfl ?_
  refine am_e1 (v := on) hi_179_18 rfl ?_
  refine mm_26 hS1 ma_12 hi_179_19 (by decide) (by omega) (by omega) (fun h => nomatch h) ?_
  intro S2 hS3
  refine am_e2 (v := 39) hi_179_20 rfl ?_
  refine mm_20 (v := .ref 44) hS3 hi_179_21 rfl ?_
  refine am_e2 (v := 39) hi_179_24 rfl ?_
  refine mm_20 (v := .int (f 10)) hS3 hi_179_25 rfl ?_
  refine am_e1 (v := tw) hi_179_28 rfl ?_
  refine mm_26 hS3 ma_13 hi_179_29 (by decide) (by omega) (by omega) (fun h => nomatch h) ?_
  intro S4 hS5
  refine am_e2 (v := 39) hi_179_30 rfl ?_
  refine mm_20 (v := .ref 45) hS5 hi_179_31 rfl ?_
  refine am_e2 (v := 39) hi_179_34 rfl ?_
  refine mm_20 (v := .int (f 10)) hS5 hi_179_35 rfl ?_
  refine am_e1 (v := th) hi_179_38 rfl ?_
  refine mm_26 hS5 ma_14 hi_179_40 (by decide) (by omega) (by omega) (fun h => nomatch h) ?_
  intro S6 hS7
  refine am_e2 (v := 39) hi_179_41 rfl ?_
  refine am_e7 hi_179_42 ?_
  refine mm_20 (v := .int (f 10)) hS7 hi_179_43 rfl ?_
  refine am_e0 hi_179_46 ?_
  obtain ⟨z8, hz8, tz8⟩ := am_addI (x := f 10) (y := 1) (m := (f 10).toInt) (n := (1 : Int)) rfl (by decide) (by omega) (by omega)
  refine am_e10 (z := z8) hi_179_47 hz8 ?_
  refine mm_21 (v := z8) hS7 hi_179_48 rfl (Nat.le_of_ble_eq_true rfl) ms_10 ?_
  intro S9 hS10
  refine am_e35 hi_179_51 ?_
  exact ⟨z8, _, rfl, hS10, (rj_pile0 hR (by omega) he), (by show z8.toInt = (f 10).toInt + 1; omega), (by intro j hj; simp only [List.mem_cons, List.not_mem_nil, or_false, not_or] at hj; simp only [upg, hj, if_false])⟩
theorem ct_pilec {sc : Nat × (Nat → Int32)} {d : Nat} {S0 S : am_S} {f : Nat → Int32} {g : Nat → Nat → Int32} {go : Int32} {on : Int32} {tw : Int32} {th : Int32} {gs : List mg_E} {bc : List (List Nat)} {fl : List Nat} {fk : Int} {pj : List Nat} (hS : MS S0 S f g) (hR : RJ f g gs bc fl fk pj) (he : mj_e (f 68) (g 71) (mj_all gs bc fl) (go.toInt, on.toInt, tw.toInt, th.toInt, fl)) (p0 : (0 : Int) ≤ (f 10).toInt) (p1 : (f 10).toInt ≤ (65535 : Int)) : am_E (am_PP sc) (d + 0) 179 0 [some (.ref 39), some (.int go), some (.int on), some (.int tw), some (.int th)] [] S (am_N fun v S1 => (∃ z : Int32, ∃ g' : Nat → Nat → Int32, v = none ∧ MS S0 S1 (upd f 10 z) g' ∧ (RJ (upd f 10 z) g' ((go.toInt, on.toInt, tw.toInt, th.toInt, fl) :: gs) bc [] 0 pj) ∧ (z.toInt = (f 10).toInt + 1) ∧ (∀ j, j ∉ [11, 12, 13, 14] → g' j = g j))) := by
  refine am_e2 (v := 39) hi_179_0 rfl ?_
  refine mm_20 (v := .ref 42) hS hi_179_1 rfl ?_
  refine am_e2 (v := 39) hi_179_4 rfl ?_
  refine mm_20 (v := .int (f 10)) hS hi_179_5 rfl ?_
  refine am_e1 (v := go) hi_179_8 rfl ?_
  refine mm_26 hS ma_11 hi_179_9 (by decide) (by omega) (by omega) (fun h => nomatch h) ?_
  intro S0 hS1
  refine am_e2 (v := 39) hi_179_10 rfl ?_
  refine mm_20 (v := .ref 43) hS1 hi_179_11 rfl ?_
  refine am_e2 (v := 39) hi_179_14 rfl ?_
  refine mm_20 (v := .int (f 10)) hS1 hi_179_15 rfl ?_
  refine am_e1 (v := on) hi_179_18 rfl ?_
  refine mm_26 hS1 ma_12 hi_179_19 (by decide) (by omega) (by omega) (fun h => nomatch h) ?_
  intro S2 hS3
  refine am_e2 (v := 39) hi_179_20 rfl ?_
  refine mm_20 (v := .ref 44) hS3 hi_179_21 rfl ?_
  refine am_e2 (v := 39) hi_179_24 rfl ?_
  refine mm_20 (v := .int (f 10)) hS3 hi_179_25 rfl ?_
  refine am_e1 (v := tw) hi_179_28 rfl ?_
  refine mm_26 hS3 ma_13 hi_179_29 (by decide) (by omega) (by omega) (fun h => nomatch h) ?_
  intro S4 hS5
  refine am_e2 (v := 39) hi_179_30 rfl ?_
  refine mm_20 (v := .ref 45) hS5 hi_179_31 rfl ?_
  refine am_e2 (v := 39) hi_179_34 rfl ?_
  refine mm_20 (v := .int (f 10)) hS5 hi_179_35 rfl ?_
  refine am_e1 (v := th) hi_179_38 rfl ?_
  refine mm_26 hS5 ma_14 hi_179_40 (by decide) (by omega) (by omega) (fun h => nomatch h) ?_
  intro S6 hS7
  refine am_e2 (v := 39) hi_179_41 rfl ?_
  refine am_e7 hi_179_42 ?_
  refine mm_20 (v := .int (f 10)) hS7 hi_179_43 rfl ?_
  refine am_e0 hi_179_46 ?_
  obtain ⟨z8, hz8, tz8⟩ := am_addI (x := f 10) (y := 1) (m := (f 10).toInt) (n := (1 : Int)) rfl (by decide) (by omega) (by omega)
  refine am_e10 (z := z8) hi_179_47 hz8 ?_
  refine mm_21 (v := z8) hS7 hi_179_48 rfl (Nat.le_of_ble_eq_true rfl) ms_10 ?_
  intro S9 hS10
  refine am_e35 hi_179_51 ?_
  exact ⟨z8, _, rfl, hS10, (rj_pile1 hR (by omega) he), (by show z8.toInt = (f 10).toInt + 1; omega), (by intro j hj; simp only [List.mem_cons, List.not_mem_nil, or_false, not_or] at hj; simp only [upg, hj, if_false])⟩
