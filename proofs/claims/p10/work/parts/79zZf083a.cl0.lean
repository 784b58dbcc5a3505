/-! THE CLASS: the lesser, the greater (printed by wip/p2/cl0.py) -/
theorem ck_min {sc : Nat × (Nat → Int32)} {d aw : Nat} {S : am_S} {x : Int32} {y : Int32} (h : SH aw S) : am_E (am_PP sc) (d + 0) 24 0 [some (.int x), some (.int y)] [] S (am_N fun v S1 => ∃ r : Int32, v = some (.int r) ∧ S = S1 ∧ (r.toInt ≤ x.toInt) ∧ (r.toInt ≤ y.toInt) ∧ (r.toInt = x.toInt ∨ r.toInt = y.toInt)) := by
  refine am_e1 (v := x) hi_24_0 rfl ?_
  refine am_e1 (v := y) hi_24_1 rfl ?_
  by_cases c1 : y.toInt < x.toInt
  · refine am_e13t hi_24_2 (am_cT (m := x.toInt) (n := y.toInt) rfl rfl c1) ?_
    refine am_e1 (v := y) hi_24_9 rfl ?_
    refine am_e33 hi_24_10 ?_
    exact ⟨y, rfl, rfl, (by show y.toInt ≤ x.toInt; omega), (by show y.toInt ≤ y.toInt; omega), (by show y.toInt = x.toInt ∨ y.toInt = y.toInt; omega)⟩
  · refine am_e13f hi_24_2 (am_cF (m := x.toInt) (n := y.toInt) rfl rfl c1) ?_
    refine am_e1 (v := x) hi_24_5 rfl ?_
    refine am_e18 hi_24_6 ?_
    refine am_e33 hi_24_10 ?_
    exact ⟨x, rfl, rfl, (by show x.toInt ≤ x.toInt; omega), (by show x.toInt ≤ y.toInt; omega), (by show x.toInt = x.toInt ∨ x.toInt = y.toInt; omega)⟩
theorem ck_max {sc : Nat × (Nat → Int32)} {d aw : Nat} {S : am_S} {x : Int32} {y : Int32} (h : SH aw S) : am_E (am_PP sc) (d + 0) 20 0 [some (.int x), some (.int y)] [] S (am_N fun v S1 => ∃ r : Int32, v = some (.int r) ∧ S = S1 ∧ (x.toInt ≤ r.toInt) ∧ (y.toInt ≤ r.toInt) ∧ (r.toInt = x.toInt ∨ r.toInt = y.toInt)) := by
  refine am_e1 (v := x) hi_20_0 rfl ?_
  refine am_e1 (v := y) hi_20_1 rfl ?_
  by_cases c1 : x.toInt < y.toInt
  · refine am_e13t hi_20_2 (am_cT (m := x.toInt) (n := y.toInt) rfl rfl c1) ?_
    refine am_e1 (v := y) hi_20_9 rfl ?_
    refine am_e33 hi_20_10 ?_
    exact ⟨y, rfl, rfl, (by show x.toInt ≤ y.toInt; omega), (by show y.toInt ≤ y.toInt; omega), (by show y.toInt = x.toInt ∨ y.toInt = y.toInt; omega)⟩
  · refine am_e13f hi_20_2 (am_cF (m := x.toInt) (n := y.toInt) rfl rfl c1) ?_
    refine am_e1 (v := x) hi_20_5 rfl ?_
    refine am_e18 hi_20_6 ?_
    refine am_e33 hi_20_10 ?_
    exact ⟨x, rfl, rfl, (by show x.toInt ≤ x.toInt; omega), (by show y.toInt ≤ x.toInt; omega), (by show x.toInt = x.toInt ∨ x.toInt = y.toInt; omega)⟩
