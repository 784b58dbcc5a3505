/-! THE CLASS: tables (printed by wip/p2/cl1.py) -/
theorem ck_rows {sc : Nat × (Nat → Int32)} {d aw : Nat} {S : am_S} {t : Nat} (h : SH aw S) (hc_t : cl (am_fs S) t = some 3) : am_E (am_PP sc) (d + 0) 36 0 [some (.ref t)] [] S (am_N fun v S1 => ∃ r : Int32, v = some (.int r) ∧ S1 = S ∧ (r.toInt = iv S t 1)) := by
  refine am_e2 (v := t) hi_36_0 rfl ?_
  refine cm_20i h hi_36_1 hc_t (by decide) rfl fun v1 hv1 => ?_
  have hv1_ : v1.toInt = iv S t 1 := hv1
  refine am_e33 hi_36_4 ?_
  exact ⟨v1, rfl, rfl, (by show v1.toInt = iv S t 1; omega)⟩
theorem ck_has {sc : Nat × (Nat → Int32)} {d aw : Nat} {S : am_S} {t : Nat} {x : Int32} (h : SH aw S) (hc_t : cl (am_fs S) t = some 3) : am_E (am_PP sc) (d + 0) 161 0 [some (.ref t), some (.int x)] [] S (am_N fun v S1 => ∃ r : Int32, v = some (.int r) ∧ (r = 0 ∨ r = 1) ∧ S1 = S) := by
  refine am_e1 (v := x) hi_161_0 rfl ?_
  by_cases c1 : x.toInt < (0 : Int)
  · refine am_e12t hi_161_1 (am_cT (m := x.toInt) (n := (0 : Int)) rfl (by decide) c1) ?_
    refine am_e0 hi_161_16 ?_
    refine am_e36 hi_161_17 (by decide) ?_
    exact ⟨0, rfl, (by decide), rfl⟩
  · refine am_e12f hi_161_1 (am_cF (m := x.toInt) (n := (0 : Int)) rfl (by decide) c1) ?_
    refine am_e1 (v := x) hi_161_4 rfl ?_
    refine am_e2 (v := t) hi_161_5 rfl ?_
    refine cm_20i h hi_161_6 hc_t (by decide) rfl fun v2 hv2 => ?_
    have hv2_ : v2.toInt = iv S t 1 := hv2
    by_cases c3 : v2.toInt ≤ x.toInt
    · refine am_e13t hi_161_9 (am_cT (m := x.toInt) (n := v2.toInt) rfl rfl c3) ?_
      refine am_e0 hi_161_16 ?_
      refine am_e36 hi_161_17 (by decide) ?_
      exact ⟨0, rfl, (by decide), rfl⟩
    · refine am_e13f hi_161_9 (am_cF (m := x.toInt) (n := v2.toInt) rfl rfl c3) ?_
      refine am_e0 hi_161_12 ?_
      refine am_e18 hi_161_13 ?_
      refine am_e36 hi_161_17 (by decide) ?_
      exact ⟨1, rfl, (by decide), rfl⟩
theorem ck_get {sc : Nat × (Nat → Int32)} {d aw : Nat} {S : am_S} {t : Nat} {x : Int32} {y : Int32} (h : SH aw S) (hc_t : cl (am_fs S) t = some 3) : am_E (am_PP sc) (d + 0) 54 0 [some (.ref t), some (.int x), some (.int y)] [] S (am_N fun v S1 => ∃ r : Int32, v = some (.int r) ∧ S1 = S) := by
  obtain ⟨a, r, n, hfs, hA, b0, b1, b2, b3, b4, b5, b6, b7⟩ := h.tab hc_t
  refine am_e1 (v := x) hi_54_0 rfl ?_
  by_cases c1 : x.toInt < (0 : Int)
  · refine am_e12t hi_54_1 (am_cT (m := x.toInt) (n := (0 : Int)) rfl (by decide) c1) ?_
    refine am_e0 hi_54_21 ?_
    refine am_e33 hi_54_22 ?_
    exact ⟨0, rfl, rfl⟩
  · refine am_e12f hi_54_1 (am_cF (m := x.toInt) (n := (0 : Int)) rfl (by decide) c1) ?_
    refine am_e1 (v := x) hi_54_4 rfl ?_
    refine am_e2 (v := t) hi_54_5 rfl ?_
    refine am_e20 (v := .int r) hi_54_6 hfs rfl ?_
    by_cases c2 : r.toInt ≤ x.toInt
    · refine am_e13t hi_54_9 (am_cT (m := x.toInt) (n := r.toInt) rfl rfl c2) ?_
      refine am_e0 hi_54_21 ?_
      refine am_e33 hi_54_22 ?_
      exact ⟨0, rfl, rfl⟩
    · refine am_e13f hi_54_9 (am_cF (m := x.toInt) (n := r.toInt) rfl rfl c2) ?_
      refine am_e1 (v := y) hi_54_12 rfl ?_
      by_cases c3 : y.toInt < (0 : Int)
      · refine am_e12t hi_54_13 (am_cT (m := y.toInt) (n := (0 : Int)) rfl (by decide) c3) ?_
        refine am_e0 hi_54_21 ?_
        refine am_e33 hi_54_22 ?_
        exact ⟨0, rfl, rfl⟩
      · refine am_e12f hi_54_13 (am_cF (m := y.toInt) (n := (0 : Int)) rfl (by decide) c3) ?_
        refine am_e1 (v := y) hi_54_16 rfl ?_
        refine am_e0 hi_54_17 ?_
        by_cases c4 : y.toInt < (4 : Int)
        · refine am_e13t hi_54_18 (am_cT (m := y.toInt) (n := (4 : Int)) rfl (by decide) c4) ?_
          refine am_e2 (v := t) hi_54_23 rfl ?_
          refine am_e20 (v := .ref a) hi_54_24 hfs rfl ?_
          refine am_e1 (v := x) hi_54_27 rfl ?_
          refine am_e0 hi_54_28 ?_
          obtain ⟨z5, hz5, tz5⟩ := am_mulI (x := x) (y := 4) (m := x.toInt) (n := (4 : Int)) rfl (by decide) (by omega) (by omega)
          refine am_e10 (z := z5) hi_54_29 hz5 ?_
          refine am_e1 (v := y) hi_54_30 rfl ?_
          obtain ⟨z6, hz6, tz6⟩ := am_addI (x := z5) (y := y) (m := z5.toInt) (n := y.toInt) rfl rfl (by omega) (by omega)
          refine am_e10 (z := z6) hi_54_31 hz6 ?_
          refine cm_25 hi_54_32 hA (by omega) (by omega) ?_
          refine am_e33 hi_54_33 ?_
          exact ⟨(am_arf S a z6.toNatClampNeg), rfl, rfl⟩
        · refine am_e13f hi_54_18 (am_cF (m := y.toInt) (n := (4 : Int)) rfl (by decide) c4) ?_
          refine am_e0 hi_54_21 ?_
          refine am_e33 hi_54_22 ?_
          exact ⟨0, rfl, rfl⟩
