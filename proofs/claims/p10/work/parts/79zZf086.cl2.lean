/-! THE CLASS: kinds, faults, words (printed by wip/p2/cl2.py) -/
theorem ck_isKnown {sc : Nat × (Nat → Int32)} {d aw : Nat} {S : am_S} {k : Int32} (h : SH aw S) : am_E (am_PP sc) (d + 0) 34 0 [some (.int k)] [] S (am_N fun v S1 => ∃ r : Int32, v = some (.int r) ∧ (r = 0 ∨ r = 1) ∧ S = S1) := by
  refine am_e1 (v := k) hi_34_0 rfl ?_
  refine am_e0 hi_34_1 ?_
  by_cases c1 : k.toInt < (1 : Int)
  · refine am_e13t hi_34_2 (am_cT (m := k.toInt) (n := (1 : Int)) rfl (by decide) c1) ?_
    refine am_e1 (v := k) hi_34_10 rfl ?_
    refine am_e0 hi_34_11 ?_
    refine am_e13t hi_34_13 (am_cT (m := k.toInt) (n := (10 : Int)) rfl (by decide) (by simp only [am_cI]; omega)) ?_
    refine am_e1 (v := k) hi_34_22 rfl ?_
    refine am_e0 hi_34_23 ?_
    refine am_e13t hi_34_25 (am_cT (m := k.toInt) (n := (40 : Int)) rfl (by decide) (by simp only [am_cI]; omega)) ?_
    refine am_e0 hi_34_38 ?_
    refine am_e36 hi_34_39 (by decide) ?_
    exact ⟨0, rfl, (by decide), rfl⟩
  · refine am_e13f hi_34_2 (am_cF (m := k.toInt) (n := (1 : Int)) rfl (by decide) c1) ?_
    refine am_e1 (v := k) hi_34_5 rfl ?_
    refine am_e0 hi_34_6 ?_
    by_cases c2 : k.toInt ≤ (3 : Int)
    · refine am_e13t hi_34_7 (am_cT (m := k.toInt) (n := (3 : Int)) rfl (by decide) c2) ?_
      refine am_e0 hi_34_34 ?_
      refine am_e18 hi_34_35 ?_
      refine am_e36 hi_34_39 (by decide) ?_
      exact ⟨1, rfl, (by decide), rfl⟩
    · refine am_e13f hi_34_7 (am_cF (m := k.toInt) (n := (3 : Int)) rfl (by decide) c2) ?_
      refine am_e1 (v := k) hi_34_10 rfl ?_
      refine am_e0 hi_34_11 ?_
      by_cases c3 : k.toInt < (10 : Int)
      · refine am_e13t hi_34_13 (am_cT (m := k.toInt) (n := (10 : Int)) rfl (by decide) c3) ?_
        refine am_e1 (v := k) hi_34_22 rfl ?_
        refine am_e0 hi_34_23 ?_
        refine am_e13t hi_34_25 (am_cT (m := k.toInt) (n := (40 : Int)) rfl (by decide) (by simp only [am_cI]; omega)) ?_
        refine am_e0 hi_34_38 ?_
        refine am_e36 hi_34_39 (by decide) ?_
        exact ⟨0, rfl, (by decide), rfl⟩
      · refine am_e13f hi_34_13 (am_cF (m := k.toInt) (n := (10 : Int)) rfl (by decide) c3) ?_
        refine am_e1 (v := k) hi_34_16 rfl ?_
        refine am_e0 hi_34_17 ?_
        by_cases c4 : k.toInt ≤ (31 : Int)
        · refine am_e13t hi_34_19 (am_cT (m := k.toInt) (n := (31 : Int)) rfl (by decide) c4) ?_
          refine am_e0 hi_34_34 ?_
          refine am_e18 hi_34_35 ?_
          refine am_e36 hi_34_39 (by decide) ?_
          exact ⟨1, rfl, (by decide), rfl⟩
        · refine am_e13f hi_34_19 (am_cF (m := k.toInt) (n := (31 : Int)) rfl (by decide) c4) ?_
          refine am_e1 (v := k) hi_34_22 rfl ?_
          refine am_e0 hi_34_23 ?_
          by_cases c5 : k.toInt < (40 : Int)
          · refine am_e13t hi_34_25 (am_cT (m := k.toInt) (n := (40 : Int)) rfl (by decide) c5) ?_
            refine am_e0 hi_34_38 ?_
            refine am_e36 hi_34_39 (by decide) ?_
            exact ⟨0, rfl, (by decide), rfl⟩
          · refine am_e13f hi_34_25 (am_cF (m := k.toInt) (n := (40 : Int)) rfl (by decide) c5) ?_
            refine am_e1 (v := k) hi_34_28 rfl ?_
            refine am_e0 hi_34_29 ?_
            by_cases c6 : (72 : Int) < k.toInt
            · refine am_e13t hi_34_31 (am_cT (m := k.toInt) (n := (72 : Int)) rfl (by decide) c6) ?_
              refine am_e0 hi_34_38 ?_
              refine am_e36 hi_34_39 (by decide) ?_
              exact ⟨0, rfl, (by decide), rfl⟩
            · refine am_e13f hi_34_31 (am_cF (m := k.toInt) (n := (72 : Int)) rfl (by decide) c6) ?_
              refine am_e0 hi_34_34 ?_
              refine am_e18 hi_34_35 ?_
              refine am_e36 hi_34_39 (by decide) ?_
              exact ⟨1, rfl, (by decide), rfl⟩
theorem ck_closes {sc : Nat × (Nat → Int32)} {d aw : Nat} {S : am_S} {k : Int32} (h : SH aw S) : am_E (am_PP sc) (d + 0) 56 0 [some (.int k)] [] S (am_N fun v S1 => ∃ r : Int32, v = some (.int r) ∧ (r = 0 ∨ r = 1) ∧ S = S1 ∧ ((r.toInt = 1 ∧ (k.toInt = 61 ∨ k.toInt = 65 ∨ k.toInt = 63 ∨ k.toInt = 15 ∨ k.toInt = 30 ∨ k.toInt = 14 ∨ k.toInt = 13)) ∨ (r.toInt = 0 ∧ ¬ (k.toInt = 61 ∨ k.toInt = 65 ∨ k.toInt = 63 ∨ k.toInt = 15 ∨ k.toInt = 30 ∨ k.toInt = 14 ∨ k.toInt = 13)))) := by
  refine am_e1 (v := k) hi_56_0 rfl ?_
  refine am_e0 hi_56_1 ?_
  by_cases c1 : k.toInt = (61 : Int)
  · refine am_e13t hi_56_3 (am_cT (m := k.toInt) (n := (61 : Int)) rfl (by decide) c1) ?_
    refine am_e0 hi_56_42 ?_
    refine am_e18 hi_56_43 ?_
    refine am_e36 hi_56_47 (by decide) ?_
    exact ⟨1, rfl, (by decide), rfl, (by show ((1 : Int) = 1 ∧ (k.toInt = 61 ∨ k.toInt = 65 ∨ k.toInt = 63 ∨ k.toInt = 15 ∨ k.toInt = 30 ∨ k.toInt = 14 ∨ k.toInt = 13)) ∨ ((1 : Int) = 0 ∧ ¬ (k.toInt = 61 ∨ k.toInt = 65 ∨ k.toInt = 63 ∨ k.toInt = 15 ∨ k.toInt = 30 ∨ k.toInt = 14 ∨ k.toInt = 13)); omega)⟩
  · refine am_e13f hi_56_3 (am_cF (m := k.toInt) (n := (61 : Int)) rfl (by decide) c1) ?_
    refine am_e1 (v := k) hi_56_6 rfl ?_
    refine am_e0 hi_56_7 ?_
    by_cases c2 : k.toInt = (65 : Int)
    · refine am_e13t hi_56_9 (am_cT (m := k.toInt) (n := (65 : Int)) rfl (by decide) c2) ?_
      refine am_e0 hi_56_42 ?_
      refine am_e18 hi_56_43 ?_
      refine am_e36 hi_56_47 (by decide) ?_
      exact ⟨1, rfl, (by decide), rfl, (by show ((1 : Int) = 1 ∧ (k.toInt = 61 ∨ k.toInt = 65 ∨ k.toInt = 63 ∨ k.toInt = 15 ∨ k.toInt = 30 ∨ k.toInt = 14 ∨ k.toInt = 13)) ∨ ((1 : Int) = 0 ∧ ¬ (k.toInt = 61 ∨ k.toInt = 65 ∨ k.toInt = 63 ∨ k.toInt = 15 ∨ k.toInt = 30 ∨ k.toInt = 14 ∨ k.toInt = 13)); omega)⟩
    · refine am_e13f hi_56_9 (am_cF (m := k.toInt) (n := (65 : Int)) rfl (by decide) c2) ?_
      refine am_e1 (v := k) hi_56_12 rfl ?_
      refine am_e0 hi_56_13 ?_
      by_cases c3 : k.toInt = (63 : Int)
      · refine am_e13t hi_56_15 (am_cT (m := k.toInt) (n := (63 : Int)) rfl (by decide) c3) ?_
        refine am_e0 hi_56_42 ?_
        refine am_e18 hi_56_43 ?_
        refine am_e36 hi_56_47 (by decide) ?_
        exact ⟨1, rfl, (by decide), rfl, (by show ((1 : Int) = 1 ∧ (k.toInt = 61 ∨ k.toInt = 65 ∨ k.toInt = 63 ∨ k.toInt = 15 ∨ k.toInt = 30 ∨ k.toInt = 14 ∨ k.toInt = 13)) ∨ ((1 : Int) = 0 ∧ ¬ (k.toInt = 61 ∨ k.toInt = 65 ∨ k.toInt = 63 ∨ k.toInt = 15 ∨ k.toInt = 30 ∨ k.toInt = 14 ∨ k.toInt = 13)); omega)⟩
      · refine am_e13f hi_56_15 (am_cF (m := k.toInt) (n := (63 : Int)) rfl (by decide) c3) ?_
        refine am_e1 (v := k) hi_56_18 rfl ?_
        refine am_e0 hi_56_19 ?_
        by_cases c4 : k.toInt = (15 : Int)
        · refine am_e13t hi_56_21 (am_cT (m := k.toInt) (n := (15 : Int)) rfl (by decide) c4) ?_
          refine am_e0 hi_56_42 ?_
          refine am_e18 hi_56_43 ?_
          refine am_e36 hi_56_47 (by decide) ?_
          exact ⟨1, rfl, (by decide), rfl, (by show ((1 : Int) = 1 ∧ (k.toInt = 61 ∨ k.toInt = 65 ∨ k.toInt = 63 ∨ k.toInt = 15 ∨ k.toInt = 30 ∨ k.toInt = 14 ∨ k.toInt = 13)) ∨ ((1 : Int) = 0 ∧ ¬ (k.toInt = 61 ∨ k.toInt = 65 ∨ k.toInt = 63 ∨ k.toInt = 15 ∨ k.toInt = 30 ∨ k.toInt = 14 ∨ k.toInt = 13)); omega)⟩
        · refine am_e13f hi_56_21 (am_cF (m := k.toInt) (n := (15 : Int)) rfl (by decide) c4) ?_
          refine am_e1 (v := k) hi_56_24 rfl ?_
          refine am_e0 hi_56_25 ?_
          by_cases c5 : k.toInt = (30 : Int)
          · refine am_e13t hi_56_27 (am_cT (m := k.toInt) (n := (30 : Int)) rfl (by decide) c5) ?_
            refine am_e0 hi_56_42 ?_
            refine am_e18 hi_56_43 ?_
            refine am_e36 hi_56_47 (by decide) ?_
            exact ⟨1, rfl, (by decide), rfl, (by show ((1 : Int) = 1 ∧ (k.toInt = 61 ∨ k.toInt = 65 ∨ k.toInt = 63 ∨ k.toInt = 15 ∨ k.toInt = 30 ∨ k.toInt = 14 ∨ k.toInt = 13)) ∨ ((1 : Int) = 0 ∧ ¬ (k.toInt = 61 ∨ k.toInt = 65 ∨ k.toInt = 63 ∨ k.toInt = 15 ∨ k.toInt = 30 ∨ k.toInt = 14 ∨ k.toInt = 13)); omega)⟩
          · refine am_e13f hi_56_27 (am_cF (m := k.toInt) (n := (30 : Int)) rfl (by decide) c5) ?_
            refine am_e1 (v := k) hi_56_30 rfl ?_
            refine am_e0 hi_56_31 ?_
            by_cases c6 : k.toInt = (14 : Int)
            · refine am_e13t hi_56_33 (am_cT (m := k.toInt) (n := (14 : Int)) rfl (by decide) c6) ?_
              refine am_e0 hi_56_42 ?_
              refine am_e18 hi_56_43 ?_
              refine am_e36 hi_56_47 (by decide) ?_
              exact ⟨1, rfl, (by decide), rfl, (by show ((1 : Int) = 1 ∧ (k.toInt = 61 ∨ k.toInt = 65 ∨ k.toInt = 63 ∨ k.toInt = 15 ∨ k.toInt = 30 ∨ k.toInt = 14 ∨ k.toInt = 13)) ∨ ((1 : Int) = 0 ∧ ¬ (k.toInt = 61 ∨ k.toInt = 65 ∨ k.toInt = 63 ∨ k.toInt = 15 ∨ k.toInt = 30 ∨ k.toInt = 14 ∨ k.toInt = 13)); omega)⟩
            · refine am_e13f hi_56_33 (am_cF (m := k.toInt) (n := (14 : Int)) rfl (by decide) c6) ?_
              refine am_e1 (v := k) hi_56_36 rfl ?_
              refine am_e0 hi_56_37 ?_
              by_cases c7 : ¬ k.toInt = (13 : Int)
              · refine am_e13t hi_56_39 (am_cT (m := k.toInt) (n := (13 : Int)) rfl (by decide) c7) ?_
                refine am_e0 hi_56_46 ?_
                refine am_e36 hi_56_47 (by decide) ?_
                exact ⟨0, rfl, (by decide), rfl, (by show ((0 : Int) = 1 ∧ (k.toInt = 61 ∨ k.toInt = 65 ∨ k.toInt = 63 ∨ k.toInt = 15 ∨ k.toInt = 30 ∨ k.toInt = 14 ∨ k.toInt = 13)) ∨ ((0 : Int) = 0 ∧ ¬ (k.toInt = 61 ∨ k.toInt = 65 ∨ k.toInt = 63 ∨ k.toInt = 15 ∨ k.toInt = 30 ∨ k.toInt = 14 ∨ k.toInt = 13)); omega)⟩
              · refine am_e13f hi_56_39 (am_cF (m := k.toInt) (n := (13 : Int)) rfl (by decide) c7) ?_
                refine am_e0 hi_56_42 ?_
                refine am_e18 hi_56_43 ?_
                refine am_e36 hi_56_47 (by decide) ?_
                exact ⟨1, rfl, (by decide), rfl, (by show ((1 : Int) = 1 ∧ (k.toInt = 61 ∨ k.toInt = 65 ∨ k.toInt = 63 ∨ k.toInt = 15 ∨ k.toInt = 30 ∨ k.toInt = 14 ∨ k.toInt = 13)) ∨ ((1 : Int) = 0 ∧ ¬ (k.toInt = 61 ∨ k.toInt = 65 ∨ k.toInt = 63 ∨ k.toInt = 15 ∨ k.toInt = 30 ∨ k.toInt = 14 ∨ k.toInt = 13)); omega)⟩
theorem ck_opens {sc : Nat × (Nat → Int32)} {d aw : Nat} {S : am_S} {k : Int32} (h : SH aw S) : am_E (am_PP sc) (d + 0) 57 0 [some (.int k)] [] S (am_N fun v S1 => ∃ r : Int32, v = some (.int r) ∧ (r = 0 ∨ r = 1) ∧ S = S1 ∧ ((r.toInt = 1 ∧ (k.toInt = 60 ∨ k.toInt = 64 ∨ k.toInt = 62 ∨ k.toInt = 12 ∨ k.toInt = 28 ∨ k.toInt = 13 ∨ k.toInt = 26 ∨ k.toInt = 18)) ∨ (r.toInt = 0 ∧ ¬ (k.toInt = 60 ∨ k.toInt = 64 ∨ k.toInt = 62 ∨ k.toInt = 12 ∨ k.toInt = 28 ∨ k.toInt = 13 ∨ k.toInt = 26 ∨ k.toInt = 18)))) := by
  refine am_e1 (v := k) hi_57_0 rfl ?_
  refine am_e0 hi_57_1 ?_
  by_cases c1 : k.toInt = (60 : Int)
  · refine am_e13t hi_57_3 (am_cT (m := k.toInt) (n := (60 : Int)) rfl (by decide) c1) ?_
    refine am_e0 hi_57_48 ?_
    refine am_e18 hi_57_49 ?_
    refine am_e36 hi_57_53 (by decide) ?_
    exact ⟨1, rfl, (by decide), rfl, (by show ((1 : Int) = 1 ∧ (k.toInt = 60 ∨ k.toInt = 64 ∨ k.toInt = 62 ∨ k.toInt = 12 ∨ k.toInt = 28 ∨ k.toInt = 13 ∨ k.toInt = 26 ∨ k.toInt = 18)) ∨ ((1 : Int) = 0 ∧ ¬ (k.toInt = 60 ∨ k.toInt = 64 ∨ k.toInt = 62 ∨ k.toInt = 12 ∨ k.toInt = 28 ∨ k.toInt = 13 ∨ k.toInt = 26 ∨ k.toInt = 18)); omega)⟩
  · refine am_e13f hi_57_3 (am_cF (m := k.toInt) (n := (60 : Int)) rfl (by decide) c1) ?_
    refine am_e1 (v := k) hi_57_6 rfl ?_
    refine am_e0 hi_57_7 ?_
    by_cases c2 : k.toInt = (64 : Int)
    · refine am_e13t hi_57_9 (am_cT (m := k.toInt) (n := (64 : Int)) rfl (by decide) c2) ?_
      refine am_e0 hi_57_48 ?_
      refine am_e18 hi_57_49 ?_
      refine am_e36 hi_57_53 (by decide) ?_
      exact ⟨1, rfl, (by decide), rfl, (by show ((1 : Int) = 1 ∧ (k.toInt = 60 ∨ k.toInt = 64 ∨ k.toInt = 62 ∨ k.toInt = 12 ∨ k.toInt = 28 ∨ k.toInt = 13 ∨ k.toInt = 26 ∨ k.toInt = 18)) ∨ ((1 : Int) = 0 ∧ ¬ (k.toInt = 60 ∨ k.toInt = 64 ∨ k.toInt = 62 ∨ k.toInt = 12 ∨ k.toInt = 28 ∨ k.toInt = 13 ∨ k.toInt = 26 ∨ k.toInt = 18)); omega)⟩
    · refine am_e13f hi_57_9 (am_cF (m := k.toInt) (n := (64 : Int)) rfl (by decide) c2) ?_
      refine am_e1 (v := k) hi_57_12 rfl ?_
      refine am_e0 hi_57_13 ?_
      by_cases c3 : k.toInt = (62 : Int)
      · refine am_e13t hi_57_15 (am_cT (m := k.toInt) (n := (62 : Int)) rfl (by decide) c3) ?_
        refine am_e0 hi_57_48 ?_
        refine am_e18 hi_57_49 ?_
        refine am_e36 hi_57_53 (by decide) ?_
        exact ⟨1, rfl, (by decide), rfl, (by show ((1 : Int) = 1 ∧ (k.toInt = 60 ∨ k.toInt = 64 ∨ k.toInt = 62 ∨ k.toInt = 12 ∨ k.toInt = 28 ∨ k.toInt = 13 ∨ k.toInt = 26 ∨ k.toInt = 18)) ∨ ((1 : Int) = 0 ∧ ¬ (k.toInt = 60 ∨ k.toInt = 64 ∨ k.toInt = 62 ∨ k.toInt = 12 ∨ k.toInt = 28 ∨ k.toInt = 13 ∨ k.toInt = 26 ∨ k.toInt = 18)); omega)⟩
      · refine am_e13f hi_57_15 (am_cF (m := k.toInt) (n := (62 : Int)) rfl (by decide) c3) ?_
        refine am_e1 (v := k) hi_57_18 rfl ?_
        refine am_e0 hi_57_19 ?_
        by_cases c4 : k.toInt = (12 : Int)
        · refine am_e13t hi_57_21 (am_cT (m := k.toInt) (n := (12 : Int)) rfl (by decide) c4) ?_
          refine am_e0 hi_57_48 ?_
          refine am_e18 hi_57_49 ?_
          refine am_e36 hi_57_53 (by decide) ?_
          exact ⟨1, rfl, (by decide), rfl, (by show ((1 : Int) = 1 ∧ (k.toInt = 60 ∨ k.toInt = 64 ∨ k.toInt = 62 ∨ k.toInt = 12 ∨ k.toInt = 28 ∨ k.toInt = 13 ∨ k.toInt = 26 ∨ k.toInt = 18)) ∨ ((1 : Int) = 0 ∧ ¬ (k.toInt = 60 ∨ k.toInt = 64 ∨ k.toInt = 62 ∨ k.toInt = 12 ∨ k.toInt = 28 ∨ k.toInt = 13 ∨ k.toInt = 26 ∨ k.toInt = 18)); omega)⟩
        · refine am_e13f hi_57_21 (am_cF (m := k.toInt) (n := (12 : Int)) rfl (by decide) c4) ?_
          refine am_e1 (v := k) hi_57_24 rfl ?_
          refine am_e0 hi_57_25 ?_
          by_cases c5 : k.toInt = (28 : Int)
          · refine am_e13t hi_57_27 (am_cT (m := k.toInt) (n := (28 : Int)) rfl (by decide) c5) ?_
            refine am_e0 hi_57_48 ?_
            refine am_e18 hi_57_49 ?_
            refine am_e36 hi_57_53 (by decide) ?_
            exact ⟨1, rfl, (by decide), rfl, (by show ((1 : Int) = 1 ∧ (k.toInt = 60 ∨ k.toInt = 64 ∨ k.toInt = 62 ∨ k.toInt = 12 ∨ k.toInt = 28 ∨ k.toInt = 13 ∨ k.toInt = 26 ∨ k.toInt = 18)) ∨ ((1 : Int) = 0 ∧ ¬ (k.toInt = 60 ∨ k.toInt = 64 ∨ k.toInt = 62 ∨ k.toInt = 12 ∨ k.toInt = 28 ∨ k.toInt = 13 ∨ k.toInt = 26 ∨ k.toInt = 18)); omega)⟩
          · refine am_e13f hi_57_27 (am_cF (m := k.toInt) (n := (28 : Int)) rfl (by decide) c5) ?_
            refine am_e1 (v := k) hi_57_30 rfl ?_
            refine am_e0 hi_57_31 ?_
            by_cases c6 : k.toInt = (13 : Int)
            · refine am_e13t hi_57_33 (am_cT (m := k.toInt) (n := (13 : Int)) rfl (by decide) c6) ?_
              refine am_e0 hi_57_48 ?_
              refine am_e18 hi_57_49 ?_
              refine am_e36 hi_57_53 (by decide) ?_
              exact ⟨1, rfl, (by decide), rfl, (by show ((1 : Int) = 1 ∧ (k.toInt = 60 ∨ k.toInt = 64 ∨ k.toInt = 62 ∨ k.toInt = 12 ∨ k.toInt = 28 ∨ k.toInt = 13 ∨ k.toInt = 26 ∨ k.toInt = 18)) ∨ ((1 : Int) = 0 ∧ ¬ (k.toInt = 60 ∨ k.toInt = 64 ∨ k.toInt = 62 ∨ k.toInt = 12 ∨ k.toInt = 28 ∨ k.toInt = 13 ∨ k.toInt = 26 ∨ k.toInt = 18)); omega)⟩
            · refine am_e13f hi_57_33 (am_cF (m := k.toInt) (n := (13 : Int)) rfl (by decide) c6) ?_
              refine am_e1 (v := k) hi_57_36 rfl ?_
              refine am_e0 hi_57_37 ?_
              by_cases c7 : k.toInt = (26 : Int)
              · refine am_e13t hi_57_39 (am_cT (m := k.toInt) (n := (26 : Int)) rfl (by decide) c7) ?_
                refine am_e0 hi_57_48 ?_
                refine am_e18 hi_57_49 ?_
                refine am_e36 hi_57_53 (by decide) ?_
                exact ⟨1, rfl, (by decide), rfl, (by show ((1 : Int) = 1 ∧ (k.toInt = 60 ∨ k.toInt = 64 ∨ k.toInt = 62 ∨ k.toInt = 12 ∨ k.toInt = 28 ∨ k.toInt = 13 ∨ k.toInt = 26 ∨ k.toInt = 18)) ∨ ((1 : Int) = 0 ∧ ¬ (k.toInt = 60 ∨ k.toInt = 64 ∨ k.toInt = 62 ∨ k.toInt = 12 ∨ k.toInt = 28 ∨ k.toInt = 13 ∨ k.toInt = 26 ∨ k.toInt = 18)); omega)⟩
              · refine am_e13f hi_57_39 (am_cF (m := k.toInt) (n := (26 : Int)) rfl (by decide) c7) ?_
                refine am_e1 (v := k) hi_57_42 rfl ?_
                refine am_e0 hi_57_43 ?_
                by_cases c8 : ¬ k.toInt = (18 : Int)
                · refine am_e13t hi_57_45 (am_cT (m := k.toInt) (n := (18 : Int)) rfl (by decide) c8) ?_
                  refine am_e0 hi_57_52 ?_
                  refine am_e36 hi_57_53 (by decide) ?_
                  exact ⟨0, rfl, (by decide), rfl, (by show ((0 : Int) = 1 ∧ (k.toInt = 60 ∨ k.toInt = 64 ∨ k.toInt = 62 ∨ k.toInt = 12 ∨ k.toInt = 28 ∨ k.toInt = 13 ∨ k.toInt = 26 ∨ k.toInt = 18)) ∨ ((0 : Int) = 0 ∧ ¬ (k.toInt = 60 ∨ k.toInt = 64 ∨ k.toInt = 62 ∨ k.toInt = 12 ∨ k.toInt = 28 ∨ k.toInt = 13 ∨ k.toInt = 26 ∨ k.toInt = 18)); omega)⟩
                · refine am_e13f hi_57_45 (am_cF (m := k.toInt) (n := (18 : Int)) rfl (by decide) c8) ?_
                  refine am_e0 hi_57_48 ?_
                  refine am_e18 hi_57_49 ?_
                  refine am_e36 hi_57_53 (by decide) ?_
                  exact ⟨1, rfl, (by decide), rfl, (by show ((1 : Int) = 1 ∧ (k.toInt = 60 ∨ k.toInt = 64 ∨ k.toInt = 62 ∨ k.toInt = 12 ∨ k.toInt = 28 ∨ k.toInt = 13 ∨ k.toInt = 26 ∨ k.toInt = 18)) ∨ ((1 : Int) = 0 ∧ ¬ (k.toInt = 60 ∨ k.toInt = 64 ∨ k.toInt = 62 ∨ k.toInt = 12 ∨ k.toInt = 28 ∨ k.toInt = 13 ∨ k.toInt = 26 ∨ k.toInt = 18)); omega)⟩
theorem ck_ends {sc : Nat × (Nat → Int32)} {d aw : Nat} {S : am_S} {k : Int32} (h : SH aw S) : am_E (am_PP sc) (d + 0) 121 0 [some (.int k)] [] S (am_N fun v S1 => ∃ r : Int32, v = some (.int r) ∧ (r = 0 ∨ r = 1) ∧ S = S1 ∧ ((r.toInt = 1 ∧ (k.toInt = 0 ∨ k.toInt = 15 ∨ k.toInt = 13 ∨ k.toInt = 14 ∨ k.toInt = 30)) ∨ (r.toInt = 0 ∧ ¬ (k.toInt = 0 ∨ k.toInt = 15 ∨ k.toInt = 13 ∨ k.toInt = 14 ∨ k.toInt = 30)))) := by
  refine am_e1 (v := k) hi_121_0 rfl ?_
  by_cases c1 : k.toInt = (0 : Int)
  · refine am_e12t hi_121_1 (am_cT (m := k.toInt) (n := (0 : Int)) rfl (by decide) c1) ?_
    refine am_e0 hi_121_28 ?_
    refine am_e18 hi_121_29 ?_
    refine am_e36 hi_121_33 (by decide) ?_
    exact ⟨1, rfl, (by decide), rfl, (by show ((1 : Int) = 1 ∧ (k.toInt = 0 ∨ k.toInt = 15 ∨ k.toInt = 13 ∨ k.toInt = 14 ∨ k.toInt = 30)) ∨ ((1 : Int) = 0 ∧ ¬ (k.toInt = 0 ∨ k.toInt = 15 ∨ k.toInt = 13 ∨ k.toInt = 14 ∨ k.toInt = 30)); omega)⟩
  · refine am_e12f hi_121_1 (am_cF (m := k.toInt) (n := (0 : Int)) rfl (by decide) c1) ?_
    refine am_e1 (v := k) hi_121_4 rfl ?_
    refine am_e0 hi_121_5 ?_
    by_cases c2 : k.toInt = (15 : Int)
    · refine am_e13t hi_121_7 (am_cT (m := k.toInt) (n := (15 : Int)) rfl (by decide) c2) ?_
      refine am_e0 hi_121_28 ?_
      refine am_e18 hi_121_29 ?_
      refine am_e36 hi_121_33 (by decide) ?_
      exact ⟨1, rfl, (by decide), rfl, (by show ((1 : Int) = 1 ∧ (k.toInt = 0 ∨ k.toInt = 15 ∨ k.toInt = 13 ∨ k.toInt = 14 ∨ k.toInt = 30)) ∨ ((1 : Int) = 0 ∧ ¬ (k.toInt = 0 ∨ k.toInt = 15 ∨ k.toInt = 13 ∨ k.toInt = 14 ∨ k.toInt = 30)); omega)⟩
    · refine am_e13f hi_121_7 (am_cF (m := k.toInt) (n := (15 : Int)) rfl (by decide) c2) ?_
      refine am_e1 (v := k) hi_121_10 rfl ?_
      refine am_e0 hi_121_11 ?_
      by_cases c3 : k.toInt = (13 : Int)
      · refine am_e13t hi_121_13 (am_cT (m := k.toInt) (n := (13 : Int)) rfl (by decide) c3) ?_
        refine am_e0 hi_121_28 ?_
        refine am_e18 hi_121_29 ?_
        refine am_e36 hi_121_33 (by decide) ?_
        exact ⟨1, rfl, (by decide), rfl, (by show ((1 : Int) = 1 ∧ (k.toInt = 0 ∨ k.toInt = 15 ∨ k.toInt = 13 ∨ k.toInt = 14 ∨ k.toInt = 30)) ∨ ((1 : Int) = 0 ∧ ¬ (k.toInt = 0 ∨ k.toInt = 15 ∨ k.toInt = 13 ∨ k.toInt = 14 ∨ k.toInt = 30)); omega)⟩
      · refine am_e13f hi_121_13 (am_cF (m := k.toInt) (n := (13 : Int)) rfl (by decide) c3) ?_
        refine am_e1 (v := k) hi_121_16 rfl ?_
        refine am_e0 hi_121_17 ?_
        by_cases c4 : k.toInt = (14 : Int)
        · refine am_e13t hi_121_19 (am_cT (m := k.toInt) (n := (14 : Int)) rfl (by decide) c4) ?_
          refine am_e0 hi_121_28 ?_
          refine am_e18 hi_121_29 ?_
          refine am_e36 hi_121_33 (by decide) ?_
          exact ⟨1, rfl, (by decide), rfl, (by show ((1 : Int) = 1 ∧ (k.toInt = 0 ∨ k.toInt = 15 ∨ k.toInt = 13 ∨ k.toInt = 14 ∨ k.toInt = 30)) ∨ ((1 : Int) = 0 ∧ ¬ (k.toInt = 0 ∨ k.toInt = 15 ∨ k.toInt = 13 ∨ k.toInt = 14 ∨ k.toInt = 30)); omega)⟩
        · refine am_e13f hi_121_19 (am_cF (m := k.toInt) (n := (14 : Int)) rfl (by decide) c4) ?_
          refine am_e1 (v := k) hi_121_22 rfl ?_
          refine am_e0 hi_121_23 ?_
          by_cases c5 : ¬ k.toInt = (30 : Int)
          · refine am_e13t hi_121_25 (am_cT (m := k.toInt) (n := (30 : Int)) rfl (by decide) c5) ?_
            refine am_e0 hi_121_32 ?_
            refine am_e36 hi_121_33 (by decide) ?_
            exact ⟨0, rfl, (by decide), rfl, (by show ((0 : Int) = 1 ∧ (k.toInt = 0 ∨ k.toInt = 15 ∨ k.toInt = 13 ∨ k.toInt = 14 ∨ k.toInt = 30)) ∨ ((0 : Int) = 0 ∧ ¬ (k.toInt = 0 ∨ k.toInt = 15 ∨ k.toInt = 13 ∨ k.toInt = 14 ∨ k.toInt = 30)); omega)⟩
          · refine am_e13f hi_121_25 (am_cF (m := k.toInt) (n := (30 : Int)) rfl (by decide) c5) ?_
            refine am_e0 hi_121_28 ?_
            refine am_e18 hi_121_29 ?_
            refine am_e36 hi_121_33 (by decide) ?_
            exact ⟨1, rfl, (by decide), rfl, (by show ((1 : Int) = 1 ∧ (k.toInt = 0 ∨ k.toInt = 15 ∨ k.toInt = 13 ∨ k.toInt = 14 ∨ k.toInt = 30)) ∨ ((1 : Int) = 0 ∧ ¬ (k.toInt = 0 ∨ k.toInt = 15 ∨ k.toInt = 13 ∨ k.toInt = 14 ∨ k.toInt = 30)); omega)⟩
theorem ck_unary {sc : Nat × (Nat → Int32)} {d aw : Nat} {S : am_S} {k : Int32} (h : SH aw S) : am_E (am_PP sc) (d + 0) 72 0 [some (.int k)] [] S (am_N fun v S1 => ∃ r : Int32, v = some (.int r) ∧ (r = 0 ∨ r = 1) ∧ S = S1 ∧ ((r.toInt = 1 ∧ (k.toInt = 24 ∨ k.toInt = 46 ∨ k.toInt = 41 ∨ k.toInt = 48)) ∨ (r.toInt = 0 ∧ ¬ (k.toInt = 24 ∨ k.toInt = 46 ∨ k.toInt = 41 ∨ k.toInt = 48)))) := by
  refine am_e1 (v := k) hi_72_0 rfl ?_
  refine am_e0 hi_72_1 ?_
  by_cases c1 : k.toInt = (24 : Int)
  · refine am_e13t hi_72_3 (am_cT (m := k.toInt) (n := (24 : Int)) rfl (by decide) c1) ?_
    refine am_e0 hi_72_24 ?_
    refine am_e18 hi_72_25 ?_
    refine am_e36 hi_72_29 (by decide) ?_
    exact ⟨1, rfl, (by decide), rfl, (by show ((1 : Int) = 1 ∧ (k.toInt = 24 ∨ k.toInt = 46 ∨ k.toInt = 41 ∨ k.toInt = 48)) ∨ ((1 : Int) = 0 ∧ ¬ (k.toInt = 24 ∨ k.toInt = 46 ∨ k.toInt = 41 ∨ k.toInt = 48)); omega)⟩
  · refine am_e13f hi_72_3 (am_cF (m := k.toInt) (n := (24 : Int)) rfl (by decide) c1) ?_
    refine am_e1 (v := k) hi_72_6 rfl ?_
    refine am_e0 hi_72_7 ?_
    by_cases c2 : k.toInt = (46 : Int)
    · refine am_e13t hi_72_9 (am_cT (m := k.toInt) (n := (46 : Int)) rfl (by decide) c2) ?_
      refine am_e0 hi_72_24 ?_
      refine am_e18 hi_72_25 ?_
      refine am_e36 hi_72_29 (by decide) ?_
      exact ⟨1, rfl, (by decide), rfl, (by show ((1 : Int) = 1 ∧ (k.toInt = 24 ∨ k.toInt = 46 ∨ k.toInt = 41 ∨ k.toInt = 48)) ∨ ((1 : Int) = 0 ∧ ¬ (k.toInt = 24 ∨ k.toInt = 46 ∨ k.toInt = 41 ∨ k.toInt = 48)); omega)⟩
    · refine am_e13f hi_72_9 (am_cF (m := k.toInt) (n := (46 : Int)) rfl (by decide) c2) ?_
      refine am_e1 (v := k) hi_72_12 rfl ?_
      refine am_e0 hi_72_13 ?_
      by_cases c3 : k.toInt = (41 : Int)
      · refine am_e13t hi_72_15 (am_cT (m := k.toInt) (n := (41 : Int)) rfl (by decide) c3) ?_
        refine am_e0 hi_72_24 ?_
        refine am_e18 hi_72_25 ?_
        refine am_e36 hi_72_29 (by decide) ?_
        exact ⟨1, rfl, (by decide), rfl, (by show ((1 : Int) = 1 ∧ (k.toInt = 24 ∨ k.toInt = 46 ∨ k.toInt = 41 ∨ k.toInt = 48)) ∨ ((1 : Int) = 0 ∧ ¬ (k.toInt = 24 ∨ k.toInt = 46 ∨ k.toInt = 41 ∨ k.toInt = 48)); omega)⟩
      · refine am_e13f hi_72_15 (am_cF (m := k.toInt) (n := (41 : Int)) rfl (by decide) c3) ?_
        refine am_e1 (v := k) hi_72_18 rfl ?_
        refine am_e0 hi_72_19 ?_
        by_cases c4 : ¬ k.toInt = (48 : Int)
        · refine am_e13t hi_72_21 (am_cT (m := k.toInt) (n := (48 : Int)) rfl (by decide) c4) ?_
          refine am_e0 hi_72_28 ?_
          refine am_e36 hi_72_29 (by decide) ?_
          exact ⟨0, rfl, (by decide), rfl, (by show ((0 : Int) = 1 ∧ (k.toInt = 24 ∨ k.toInt = 46 ∨ k.toInt = 41 ∨ k.toInt = 48)) ∨ ((0 : Int) = 0 ∧ ¬ (k.toInt = 24 ∨ k.toInt = 46 ∨ k.toInt = 41 ∨ k.toInt = 48)); omega)⟩
        · refine am_e13f hi_72_21 (am_cF (m := k.toInt) (n := (48 : Int)) rfl (by decide) c4) ?_
          refine am_e0 hi_72_24 ?_
          refine am_e18 hi_72_25 ?_
          refine am_e36 hi_72_29 (by decide) ?_
          exact ⟨1, rfl, (by decide), rfl, (by show ((1 : Int) = 1 ∧ (k.toInt = 24 ∨ k.toInt = 46 ∨ k.toInt = 41 ∨ k.toInt = 48)) ∨ ((1 : Int) = 0 ∧ ¬ (k.toInt = 24 ∨ k.toInt = 46 ∨ k.toInt = 41 ∨ k.toInt = 48)); omega)⟩
theorem ck_right {sc : Nat × (Nat → Int32)} {d aw : Nat} {S : am_S} {k : Int32} (h : SH aw S) : am_E (am_PP sc) (d + 0) 107 0 [some (.int k)] [] S (am_N fun v S1 => ∃ r : Int32, v = some (.int r) ∧ (r = 0 ∨ r = 1) ∧ S = S1) := by
  refine am_e1 (v := k) hi_107_0 rfl ?_
  refine am_e0 hi_107_1 ?_
  by_cases c1 : k.toInt = (71 : Int)
  · refine am_e13t hi_107_3 (am_cT (m := k.toInt) (n := (71 : Int)) rfl (by decide) c1) ?_
    refine am_e0 hi_107_12 ?_
    refine am_e18 hi_107_13 ?_
    refine am_e36 hi_107_17 (by decide) ?_
    exact ⟨1, rfl, (by decide), rfl⟩
  · refine am_e13f hi_107_3 (am_cF (m := k.toInt) (n := (71 : Int)) rfl (by decide) c1) ?_
    refine am_e1 (v := k) hi_107_6 rfl ?_
    refine am_e0 hi_107_7 ?_
    by_cases c2 : ¬ k.toInt = (45 : Int)
    · refine am_e13t hi_107_9 (am_cT (m := k.toInt) (n := (45 : Int)) rfl (by decide) c2) ?_
      refine am_e0 hi_107_16 ?_
      refine am_e36 hi_107_17 (by decide) ?_
      exact ⟨0, rfl, (by decide), rfl⟩
    · refine am_e13f hi_107_9 (am_cF (m := k.toInt) (n := (45 : Int)) rfl (by decide) c2) ?_
      refine am_e0 hi_107_12 ?_
      refine am_e18 hi_107_13 ?_
      refine am_e36 hi_107_17 (by decide) ?_
      exact ⟨1, rfl, (by decide), rfl⟩
theorem ck_sep {sc : Nat × (Nat → Int32)} {d aw : Nat} {S : am_S} {k : Int32} (h : SH aw S) : am_E (am_PP sc) (d + 0) 95 0 [some (.int k)] [] S (am_N fun v S1 => ∃ r : Int32, v = some (.int r) ∧ (r = 0 ∨ r = 1) ∧ S = S1 ∧ ((r.toInt = 1 ∧ (k.toInt = 69 ∨ k.toInt = 67)) ∨ (r.toInt = 0 ∧ ¬ (k.toInt = 69 ∨ k.toInt = 67)))) := by
  refine am_e1 (v := k) hi_95_0 rfl ?_
  refine am_e0 hi_95_1 ?_
  by_cases c1 : k.toInt = (69 : Int)
  · refine am_e13t hi_95_3 (am_cT (m := k.toInt) (n := (69 : Int)) rfl (by decide) c1) ?_
    refine am_e0 hi_95_12 ?_
    refine am_e18 hi_95_13 ?_
    refine am_e36 hi_95_17 (by decide) ?_
    exact ⟨1, rfl, (by decide), rfl, (by show ((1 : Int) = 1 ∧ (k.toInt = 69 ∨ k.toInt = 67)) ∨ ((1 : Int) = 0 ∧ ¬ (k.toInt = 69 ∨ k.toInt = 67)); omega)⟩
  · refine am_e13f hi_95_3 (am_cF (m := k.toInt) (n := (69 : Int)) rfl (by decide) c1) ?_
    refine am_e1 (v := k) hi_95_6 rfl ?_
    refine am_e0 hi_95_7 ?_
    by_cases c2 : ¬ k.toInt = (67 : Int)
    · refine am_e13t hi_95_9 (am_cT (m := k.toInt) (n := (67 : Int)) rfl (by decide) c2) ?_
      refine am_e0 hi_95_16 ?_
      refine am_e36 hi_95_17 (by decide) ?_
      exact ⟨0, rfl, (by decide), rfl, (by show ((0 : Int) = 1 ∧ (k.toInt = 69 ∨ k.toInt = 67)) ∨ ((0 : Int) = 0 ∧ ¬ (k.toInt = 69 ∨ k.toInt = 67)); omega)⟩
    · refine am_e13f hi_95_9 (am_cF (m := k.toInt) (n := (67 : Int)) rfl (by decide) c2) ?_
      refine am_e0 hi_95_12 ?_
      refine am_e18 hi_95_13 ?_
      refine am_e36 hi_95_17 (by decide) ?_
      exact ⟨1, rfl, (by decide), rfl, (by show ((1 : Int) = 1 ∧ (k.toInt = 69 ∨ k.toInt = 67)) ∨ ((1 : Int) = 0 ∧ ¬ (k.toInt = 69 ∨ k.toInt = 67)); omega)⟩
theorem ck_rank {sc : Nat × (Nat → Int32)} {d aw : Nat} {S : am_S} {k : Int32} (h : SH aw S) : am_E (am_PP sc) (d + 0) 106 0 [some (.int k)] [] S (am_N fun v S1 => ∃ r : Int32, v = some (.int r) ∧ S = S1 ∧ (r.toInt = 0 ∨ (k.toInt = 25 ∨ k.toInt = 10 ∨ (40 ≤ k.toInt ∧ k.toInt ≤ 45) ∨ (47 ≤ k.toInt ∧ k.toInt ≤ 58) ∨ k.toInt = 71))) := by
  refine am_e1 (v := k) hi_106_0 rfl ?_
  by_cases c1 : k.toInt = 10
  · refine am_e19 (t := 266) hi_106_1 (am_swI (v := k) (w := 10) (by decide) (by decide) c1) ?_
    refine am_e0 hi_106_266 ?_
    refine am_e33 hi_106_267 ?_
    exact ⟨2, rfl, rfl, (by show (2 : Int) = 0 ∨ (k.toInt = 25 ∨ k.toInt = 10 ∨ (40 ≤ k.toInt ∧ k.toInt ≤ 45) ∨ (47 ≤ k.toInt ∧ k.toInt ≤ 58) ∨ k.toInt = 71); omega)⟩
  · have c1_ : True := trivial
    by_cases c2 : k.toInt = 25
    · refine am_e19 (t := 264) hi_106_1 (am_swI (v := k) (w := 25) (by decide) (by decide) c2) ?_
      refine am_e0 hi_106_264 ?_
      refine am_e33 hi_106_265 ?_
      exact ⟨1, rfl, rfl, (by show (1 : Int) = 0 ∨ (k.toInt = 25 ∨ k.toInt = 10 ∨ (40 ≤ k.toInt ∧ k.toInt ≤ 45) ∨ (47 ≤ k.toInt ∧ k.toInt ≤ 58) ∨ k.toInt = 71); omega)⟩
    · have c2_ : True := trivial
      by_cases c3 : k.toInt = 40
      · refine am_e19 (t := 283) hi_106_1 (am_swI (v := k) (w := 40) (by decide) (by decide) c3) ?_
        refine am_e0 hi_106_283 ?_
        refine am_e33 hi_106_285 ?_
        exact ⟨9, rfl, rfl, (by show (9 : Int) = 0 ∨ (k.toInt = 25 ∨ k.toInt = 10 ∨ (40 ≤ k.toInt ∧ k.toInt ≤ 45) ∨ (47 ≤ k.toInt ∧ k.toInt ≤ 58) ∨ k.toInt = 71); omega)⟩
      · have c3_ : True := trivial
        by_cases c4 : k.toInt = 41
        · refine am_e19 (t := 283) hi_106_1 (am_swI (v := k) (w := 41) (by decide) (by decide) c4) ?_
          refine am_e0 hi_106_283 ?_
          refine am_e33 hi_106_285 ?_
          exact ⟨9, rfl, rfl, (by show (9 : Int) = 0 ∨ (k.toInt = 25 ∨ k.toInt = 10 ∨ (40 ≤ k.toInt ∧ k.toInt ≤ 45) ∨ (47 ≤ k.toInt ∧ k.toInt ≤ 58) ∨ k.toInt = 71); omega)⟩
        · have c4_ : True := trivial
          by_cases c5 : k.toInt = 42
          · refine am_e19 (t := 286) hi_106_1 (am_swI (v := k) (w := 42) (by decide) (by decide) c5) ?_
            refine am_e0 hi_106_286 ?_
            refine am_e33 hi_106_288 ?_
            exact ⟨10, rfl, rfl, (by show (10 : Int) = 0 ∨ (k.toInt = 25 ∨ k.toInt = 10 ∨ (40 ≤ k.toInt ∧ k.toInt ≤ 45) ∨ (47 ≤ k.toInt ∧ k.toInt ≤ 58) ∨ k.toInt = 71); omega)⟩
          · have c5_ : True := trivial
            by_cases c6 : k.toInt = 43
            · refine am_e19 (t := 286) hi_106_1 (am_swI (v := k) (w := 43) (by decide) (by decide) c6) ?_
              refine am_e0 hi_106_286 ?_
              refine am_e33 hi_106_288 ?_
              exact ⟨10, rfl, rfl, (by show (10 : Int) = 0 ∨ (k.toInt = 25 ∨ k.toInt = 10 ∨ (40 ≤ k.toInt ∧ k.toInt ≤ 45) ∨ (47 ≤ k.toInt ∧ k.toInt ≤ 58) ∨ k.toInt = 71); omega)⟩
            · have c6_ : True := trivial
              by_cases c7 : k.toInt = 44
              · refine am_e19 (t := 286) hi_106_1 (am_swI (v := k) (w := 44) (by decide) (by decide) c7) ?_
                refine am_e0 hi_106_286 ?_
                refine am_e33 hi_106_288 ?_
                exact ⟨10, rfl, rfl, (by show (10 : Int) = 0 ∨ (k.toInt = 25 ∨ k.toInt = 10 ∨ (40 ≤ k.toInt ∧ k.toInt ≤ 45) ∨ (47 ≤ k.toInt ∧ k.toInt ≤ 58) ∨ k.toInt = 71); omega)⟩
              · have c7_ : True := trivial
                by_cases c8 : k.toInt = 45
                · refine am_e19 (t := 289) hi_106_1 (am_swI (v := k) (w := 45) (by decide) (by decide) c8) ?_
                  refine am_e0 hi_106_289 ?_
                  refine am_e33 hi_106_291 ?_
                  exact ⟨12, rfl, rfl, (by show (12 : Int) = 0 ∨ (k.toInt = 25 ∨ k.toInt = 10 ∨ (40 ≤ k.toInt ∧ k.toInt ≤ 45) ∨ (47 ≤ k.toInt ∧ k.toInt ≤ 58) ∨ k.toInt = 71); omega)⟩
                · have c8_ : True := trivial
                  by_cases c9 : k.toInt = 47
                  · refine am_e19 (t := 274) hi_106_1 (am_swI (v := k) (w := 47) (by decide) (by decide) c9) ?_
                    refine am_e0 hi_106_274 ?_
                    refine am_e33 hi_106_276 ?_
                    exact ⟨6, rfl, rfl, (by show (6 : Int) = 0 ∨ (k.toInt = 25 ∨ k.toInt = 10 ∨ (40 ≤ k.toInt ∧ k.toInt ≤ 45) ∨ (47 ≤ k.toInt ∧ k.toInt ≤ 58) ∨ k.toInt = 71); omega)⟩
                  · have c9_ : True := trivial
                    by_cases c10 : k.toInt = 48
                    · refine am_e19 (t := 272) hi_106_1 (am_swI (v := k) (w := 48) (by decide) (by decide) c10) ?_
                      refine am_e0 hi_106_272 ?_
                      refine am_e33 hi_106_273 ?_
                      exact ⟨5, rfl, rfl, (by show (5 : Int) = 0 ∨ (k.toInt = 25 ∨ k.toInt = 10 ∨ (40 ≤ k.toInt ∧ k.toInt ≤ 45) ∨ (47 ≤ k.toInt ∧ k.toInt ≤ 58) ∨ k.toInt = 71); omega)⟩
                    · have c10_ : True := trivial
                      by_cases c11 : k.toInt = 49
                      · refine am_e19 (t := 270) hi_106_1 (am_swI (v := k) (w := 49) (by decide) (by decide) c11) ?_
                        refine am_e0 hi_106_270 ?_
                        refine am_e33 hi_106_271 ?_
                        exact ⟨4, rfl, rfl, (by show (4 : Int) = 0 ∨ (k.toInt = 25 ∨ k.toInt = 10 ∨ (40 ≤ k.toInt ∧ k.toInt ≤ 45) ∨ (47 ≤ k.toInt ∧ k.toInt ≤ 58) ∨ k.toInt = 71); omega)⟩
                      · have c11_ : True := trivial
                        by_cases c12 : k.toInt = 50
                        · refine am_e19 (t := 277) hi_106_1 (am_swI (v := k) (w := 50) (by decide) (by decide) c12) ?_
                          refine am_e0 hi_106_277 ?_
                          refine am_e33 hi_106_279 ?_
                          exact ⟨7, rfl, rfl, (by show (7 : Int) = 0 ∨ (k.toInt = 25 ∨ k.toInt = 10 ∨ (40 ≤ k.toInt ∧ k.toInt ≤ 45) ∨ (47 ≤ k.toInt ∧ k.toInt ≤ 58) ∨ k.toInt = 71); omega)⟩
                        · have c12_ : True := trivial
                          by_cases c13 : k.toInt = 51
                          · refine am_e19 (t := 277) hi_106_1 (am_swI (v := k) (w := 51) (by decide) (by decide) c13) ?_
                            refine am_e0 hi_106_277 ?_
                            refine am_e33 hi_106_279 ?_
                            exact ⟨7, rfl, rfl, (by show (7 : Int) = 0 ∨ (k.toInt = 25 ∨ k.toInt = 10 ∨ (40 ≤ k.toInt ∧ k.toInt ≤ 45) ∨ (47 ≤ k.toInt ∧ k.toInt ≤ 58) ∨ k.toInt = 71); omega)⟩
                          · have c13_ : True := trivial
                            by_cases c14 : k.toInt = 52
                            · refine am_e19 (t := 286) hi_106_1 (am_swI (v := k) (w := 52) (by decide) (by decide) c14) ?_
                              refine am_e0 hi_106_286 ?_
                              refine am_e33 hi_106_288 ?_
                              exact ⟨10, rfl, rfl, (by show (10 : Int) = 0 ∨ (k.toInt = 25 ∨ k.toInt = 10 ∨ (40 ≤ k.toInt ∧ k.toInt ≤ 45) ∨ (47 ≤ k.toInt ∧ k.toInt ≤ 58) ∨ k.toInt = 71); omega)⟩
                            · have c14_ : True := trivial
                              by_cases c15 : k.toInt = 53
                              · refine am_e19 (t := 268) hi_106_1 (am_swI (v := k) (w := 53) (by decide) (by decide) c15) ?_
                                refine am_e0 hi_106_268 ?_
                                refine am_e33 hi_106_269 ?_
                                exact ⟨3, rfl, rfl, (by show (3 : Int) = 0 ∨ (k.toInt = 25 ∨ k.toInt = 10 ∨ (40 ≤ k.toInt ∧ k.toInt ≤ 45) ∨ (47 ≤ k.toInt ∧ k.toInt ≤ 58) ∨ k.toInt = 71); omega)⟩
                              · have c15_ : True := trivial
                                by_cases c16 : k.toInt = 54
                                · refine am_e19 (t := 268) hi_106_1 (am_swI (v := k) (w := 54) (by decide) (by decide) c16) ?_
                                  refine am_e0 hi_106_268 ?_
                                  refine am_e33 hi_106_269 ?_
                                  exact ⟨3, rfl, rfl, (by show (3 : Int) = 0 ∨ (k.toInt = 25 ∨ k.toInt = 10 ∨ (40 ≤ k.toInt ∧ k.toInt ≤ 45) ∨ (47 ≤ k.toInt ∧ k.toInt ≤ 58) ∨ k.toInt = 71); omega)⟩
                                · have c16_ : True := trivial
                                  by_cases c17 : k.toInt = 55
                                  · refine am_e19 (t := 268) hi_106_1 (am_swI (v := k) (w := 55) (by decide) (by decide) c17) ?_
                                    refine am_e0 hi_106_268 ?_
                                    refine am_e33 hi_106_269 ?_
                                    exact ⟨3, rfl, rfl, (by show (3 : Int) = 0 ∨ (k.toInt = 25 ∨ k.toInt = 10 ∨ (40 ≤ k.toInt ∧ k.toInt ≤ 45) ∨ (47 ≤ k.toInt ∧ k.toInt ≤ 58) ∨ k.toInt = 71); omega)⟩
                                  · have c17_ : True := trivial
                                    by_cases c18 : k.toInt = 56
                                    · refine am_e19 (t := 268) hi_106_1 (am_swI (v := k) (w := 56) (by decide) (by decide) c18) ?_
                                      refine am_e0 hi_106_268 ?_
                                      refine am_e33 hi_106_269 ?_
                                      exact ⟨3, rfl, rfl, (by show (3 : Int) = 0 ∨ (k.toInt = 25 ∨ k.toInt = 10 ∨ (40 ≤ k.toInt ∧ k.toInt ≤ 45) ∨ (47 ≤ k.toInt ∧ k.toInt ≤ 58) ∨ k.toInt = 71); omega)⟩
                                    · have c18_ : True := trivial
                                      by_cases c19 : k.toInt = 57
                                      · refine am_e19 (t := 268) hi_106_1 (am_swI (v := k) (w := 57) (by decide) (by decide) c19) ?_
                                        refine am_e0 hi_106_268 ?_
                                        refine am_e33 hi_106_269 ?_
                                        exact ⟨3, rfl, rfl, (by show (3 : Int) = 0 ∨ (k.toInt = 25 ∨ k.toInt = 10 ∨ (40 ≤ k.toInt ∧ k.toInt ≤ 45) ∨ (47 ≤ k.toInt ∧ k.toInt ≤ 58) ∨ k.toInt = 71); omega)⟩
                                      · have c19_ : True := trivial
                                        by_cases c20 : k.toInt = 58
                                        · refine am_e19 (t := 268) hi_106_1 (am_swI (v := k) (w := 58) (by decide) (by decide) c20) ?_
                                          refine am_e0 hi_106_268 ?_
                                          refine am_e33 hi_106_269 ?_
                                          exact ⟨3, rfl, rfl, (by show (3 : Int) = 0 ∨ (k.toInt = 25 ∨ k.toInt = 10 ∨ (40 ≤ k.toInt ∧ k.toInt ≤ 45) ∨ (47 ≤ k.toInt ∧ k.toInt ≤ 58) ∨ k.toInt = 71); omega)⟩
                                        · have c20_ : True := trivial
                                          by_cases c21 : k.toInt = 71
                                          · refine am_e19 (t := 280) hi_106_1 (am_swI (v := k) (w := 71) (by decide) (by decide) c21) ?_
                                            refine am_e0 hi_106_280 ?_
                                            refine am_e33 hi_106_282 ?_
                                            exact ⟨8, rfl, rfl, (by show (8 : Int) = 0 ∨ (k.toInt = 25 ∨ k.toInt = 10 ∨ (40 ≤ k.toInt ∧ k.toInt ≤ 45) ∨ (47 ≤ k.toInt ∧ k.toInt ≤ 58) ∨ k.toInt = 71); omega)⟩
                                          · have c21_ : True := trivial
                                            refine am_e19 (t := 292) hi_106_1 (am_swD (v := k) (ks := [10, 25, 40, 41, 42, 43, 44, 45, 47, 48, 49, 50, 51, 52, 53, 54, 55, 56, 57, 58, 71]) (by decide) (by intro k hk; simp only [List.mem_cons, List.not_mem_nil, or_false] at hk; rcases hk with rfl | rfl | rfl | rfl | rfl | rfl | rfl | rfl | rfl | rfl | rfl | rfl | rfl | rfl | rfl | rfl | rfl | rfl | rfl | rfl | rfl <;> omega)) ?_
                                            refine am_e0 hi_106_292 ?_
                                            refine am_e33 hi_106_293 ?_
                                            exact ⟨0, rfl, rfl, (by show (0 : Int) = 0 ∨ (k.toInt = 25 ∨ k.toInt = 10 ∨ (40 ≤ k.toInt ∧ k.toInt ≤ 45) ∨ (47 ≤ k.toInt ∧ k.toInt ≤ 58) ∨ k.toInt = 71); omega)⟩
theorem ck_setting {sc : Nat × (Nat → Int32)} {d aw : Nat} {S : am_S} {k : Int32} (h : SH aw S) : am_E (am_PP sc) (d + 0) 116 0 [some (.int k)] [] S (am_N fun v S1 => ∃ r : Int32, v = some (.int r) ∧ S = S1) := by
  refine am_e1 (v := k) hi_116_0 rfl ?_
  refine am_e0 hi_116_1 ?_
  obtain ⟨z1, hz1⟩ : ∃ q__, am_bin 1 k 8 = q__ := ⟨_, rfl⟩
  refine am_e10 (z := z1) hi_116_3 hz1 ?_
  refine am_e0 hi_116_4 ?_
  obtain ⟨z2, hz2⟩ : ∃ q__, am_bin 0 z1 29 = q__ := ⟨_, rfl⟩
  refine am_e10 (z := z2) hi_116_6 hz2 ?_
  refine am_e33 hi_116_7 ?_
  exact ⟨z2, rfl, rfl⟩
theorem ck_note {sc : Nat × (Nat → Int32)} {d aw : Nat} {S : am_S} {x : Int32} {y : Int32} (h : SH aw S) : am_E (am_PP sc) (d + 0) 76 0 [some (.ref 1), some (.int x), some (.int y)] [] S (am_N fun v S1 => v = none ∧ Sm aw S S1) := by
  refine am_e2 (v := 1) hi_76_0 rfl ?_
  refine cm_20i h hi_76_1 (h.1.s (1, 1) (by decide)) (by decide) rfl fun v1 hv1 => ?_
  have hv1_ : v1.toInt = iv S 1 0 := hv1
  by_cases c2 : v1.toInt = (0 : Int)
  · refine am_e12t hi_76_4 (am_cT (m := v1.toInt) (n := (0 : Int)) rfl (by decide) c2) ?_
    refine am_e2 (v := 1) hi_76_15 rfl ?_
    refine am_e1 (v := x) hi_76_16 rfl ?_
    refine cm_21 (v := .int x) h hi_76_17 (h.1.s (1, 1) (by decide)) (by decide) (by decide) rfl ⟨_, rfl⟩ rfl fun S3 h4 => ?_
    obtain ⟨h5, h6, ⟨h7, h8, h9, h10⟩, ⟨h11, h12, h13⟩, h14, h15⟩ := h4
    have h16 : kd aw S3 = kd aw S := kd_eq h7 h10
    refine am_e2 (v := 1) hi_76_20 rfl ?_
    refine am_e1 (v := y) hi_76_21 rfl ?_
    refine cm_21 (v := .int y) h5 hi_76_22 (h5.1.s (1, 1) (by decide)) (by decide) (by decide) rfl ⟨_, rfl⟩ rfl fun S17 h18 => ?_
    obtain ⟨h19, h20, ⟨h21, h22, h23, h24⟩, ⟨h25, h26, h27⟩, h28, h29⟩ := h18
    have h30 : kd aw S17 = kd aw S3 := kd_eq h21 h24
    refine am_e35 hi_76_25 ?_
    exact ⟨rfl, ⟨h19, (h6.trans h20), ⟨(by show nx S17 = nx S; omega), (by show lv S17 = lv S; omega), (by show wr S17 = wr S; omega), (h24.trans h10)⟩, ⟨(h25.trans h11), (h26.trans h12), (by show fl S17 = fl S; omega)⟩, (fun t ht => ((h28 t (h6.1 _ _ ht)).trans (h14 t ht))), (by show EN S17 ≤ EN S; omega)⟩⟩
  · refine am_e12f hi_76_4 (am_cF (m := v1.toInt) (n := (0 : Int)) rfl (by decide) c2) ?_
    refine am_e1 (v := y) hi_76_7 rfl ?_
    refine am_e2 (v := 1) hi_76_8 rfl ?_
    refine cm_20i h hi_76_9 (h.1.s (1, 1) (by decide)) (by decide) rfl fun v31 hv31 => ?_
    have hv31_ : v31.toInt = iv S 1 1 := hv31
    by_cases c32 : v31.toInt ≤ y.toInt
    · refine am_e13t hi_76_12 (am_cT (m := y.toInt) (n := v31.toInt) rfl rfl c32) ?_
      refine am_e35 hi_76_25 ?_
      exact ⟨rfl, ⟨h, (Ex.refl S), ⟨(by show nx S = nx S; omega), (by show lv S = lv S; omega), (by show wr S = wr S; omega), rfl⟩, ⟨rfl, rfl, (by show fl S = fl S; omega)⟩, (fun _ _ => rfl), (by show EN S ≤ EN S; omega)⟩⟩
    · refine am_e13f hi_76_12 (am_cF (m := y.toInt) (n := v31.toInt) rfl rfl c32) ?_
      refine am_e2 (v := 1) hi_76_15 rfl ?_
      refine am_e1 (v := x) hi_76_16 rfl ?_
      refine cm_21 (v := .int x) h hi_76_17 (h.1.s (1, 1) (by decide)) (by decide) (by decide) rfl ⟨_, rfl⟩ rfl fun S33 h34 => ?_
      obtain ⟨h35, h36, ⟨h37, h38, h39, h40⟩, ⟨h41, h42, h43⟩, h44, h45⟩ := h34
      have h46 : kd aw S33 = kd aw S := kd_eq h37 h40
      refine am_e2 (v := 1) hi_76_20 rfl ?_
      refine am_e1 (v := y) hi_76_21 rfl ?_
      refine cm_21 (v := .int y) h35 hi_76_22 (h35.1.s (1, 1) (by decide)) (by decide) (by decide) rfl ⟨_, rfl⟩ rfl fun S47 h48 => ?_
      obtain ⟨h49, h50, ⟨h51, h52, h53, h54⟩, ⟨h55, h56, h57⟩, h58, h59⟩ := h48
      have h60 : kd aw S47 = kd aw S33 := kd_eq h51 h54
      refine am_e35 hi_76_25 ?_
      exact ⟨rfl, ⟨h49, (h36.trans h50), ⟨(by show nx S47 = nx S; omega), (by show lv S47 = lv S; omega), (by show wr S47 = wr S; omega), (h54.trans h40)⟩, ⟨(h55.trans h41), (h56.trans h42), (by show fl S47 = fl S; omega)⟩, (fun t ht => ((h58 t (h36.1 _ _ ht)).trans (h44 t ht))), (by show EN S47 ≤ EN S; omega)⟩⟩
theorem ck_fclear {sc : Nat × (Nat → Int32)} {d aw : Nat} {S : am_S} (h : SH aw S) : am_E (am_PP sc) (d + 0) 39 0 [some (.ref 1)] [] S (am_N fun v S1 => v = none ∧ Sm aw S S1) := by
  refine am_e2 (v := 1) hi_39_0 rfl ?_
  refine am_e0 hi_39_1 ?_
  refine cm_21 (v := .int 0) h hi_39_2 (h.1.s (1, 1) (by decide)) (by decide) (by decide) rfl ⟨_, rfl⟩ rfl fun S1 h2 => ?_
  obtain ⟨h3, h4, ⟨h5, h6, h7, h8⟩, ⟨h9, h10, h11⟩, h12, h13⟩ := h2
  have h14 : kd aw S1 = kd aw S := kd_eq h5 h8
  refine am_e2 (v := 1) hi_39_5 rfl ?_
  refine am_e0 hi_39_6 ?_
  refine cm_21 (v := .int 0) h3 hi_39_7 (h3.1.s (1, 1) (by decide)) (by decide) (by decide) rfl ⟨_, rfl⟩ rfl fun S15 h16 => ?_
  obtain ⟨h17, h18, ⟨h19, h20, h21, h22⟩, ⟨h23, h24, h25⟩, h26, h27⟩ := h16
  have h28 : kd aw S15 = kd aw S1 := kd_eq h19 h22
  refine am_e35 hi_39_10 ?_
  exact ⟨rfl, ⟨h17, (h4.trans h18), ⟨(by show nx S15 = nx S; omega), (by show lv S15 = lv S; omega), (by show wr S15 = wr S; omega), (h22.trans h8)⟩, ⟨(h23.trans h9), (h24.trans h10), (by show fl S15 = fl S; omega)⟩, (fun t ht => ((h26 t (h4.1 _ _ ht)).trans (h12 t ht))), (by show EN S15 ≤ EN S; omega)⟩⟩
theorem ck_refuse {sc : Nat × (Nat → Int32)} {d aw : Nat} {S : am_S} {x : Int32} {y : Int32} (h : SH aw S) (p0 : 0 ≤ nx S) (p1 : nx S ≤ wr S) : am_E (am_PP sc) (d + 12) 58 0 [some (.ref 1), some (.int x), some (.int y)] [] S (am_T (fun _ _ => False) (fun S1 => TH aw 134 S S1)) := by
  refine am_e2 (v := 1) hi_58_0 rfl ?_
  refine am_e1 (v := x) hi_58_1 rfl ?_
  refine cm_21 (v := .int x) h hi_58_2 (h.1.s (1, 1) (by decide)) (by decide) (by decide) rfl ⟨_, rfl⟩ rfl fun S1 h2 => ?_
  obtain ⟨h3, h4, ⟨h5, h6, h7, h8⟩, ⟨h9, h10, h11⟩, h12, h13⟩ := h2
  have h14 : kd aw S1 = kd aw S := kd_eq h5 h8
  refine am_e2 (v := 1) hi_58_5 rfl ?_
  refine am_e1 (v := y) hi_58_6 rfl ?_
  refine cm_21 (v := .int y) h3 hi_58_7 (h3.1.s (1, 1) (by decide)) (by decide) (by decide) rfl ⟨_, rfl⟩ rfl fun S15 h16 => ?_
  obtain ⟨h17, h18, ⟨h19, h20, h21, h22⟩, ⟨h23, h24, h25⟩, h26, h27⟩ := h16
  have h28 : kd aw S15 = kd aw S1 := kd_eq h19 h22
  refine am_e37T hi_58_10 (by omega) (by decide) ?_
  have h29 := th_new h17 (by omega) (by omega)
  exact (show TH aw 134 S (S15.1, S15.2.1 + 1, S15.2.2 + 6) from ⟨h29.1, (h4.trans h18).trans h29.2.1, ⟨(by have q := h29.2.2.1.1; omega), h29.2.2.1.2.trans (h22.trans h8)⟩, h29.2.2.2.1, h29.2.2.2.2.1, (by have q := h29.2.2.2.2.2; omega)⟩)
theorem ck_getw {sc : Nat × (Nat → Int32)} {d aw : Nat} {S : am_S} {x : Int32} {y : Int32} (h : SH aw S) : am_E (am_PP sc) (d + 0) 54 0 [some (.ref 3), some (.int x), some (.int y)] [] S (am_N fun v S1 => ∃ r : Int32, v = some (.int r) ∧ S = S1 ∧ (y.toInt = 0 → r.toInt = kA aw S x.toInt)) := by
  obtain ⟨a, r, n, hfs, hA, b0, b1, b2, b3, b4, b5, b6, b7⟩ := h.tab (h.1.s (3, 3) (by decide))
  have b8 : r.toInt = wr S := b6
  refine am_e1 (v := x) hi_54_0 rfl ?_
  by_cases c1 : x.toInt < (0 : Int)
  · refine am_e12t hi_54_1 (am_cT (m := x.toInt) (n := (0 : Int)) rfl (by decide) c1) ?_
    refine am_e0 hi_54_21 ?_
    refine am_e33 hi_54_22 ?_
    exact ⟨0, rfl, rfl, (getw_out (by omega) (by decide))⟩
  · refine am_e12f hi_54_1 (am_cF (m := x.toInt) (n := (0 : Int)) rfl (by decide) c1) ?_
    refine am_e1 (v := x) hi_54_4 rfl ?_
    refine am_e2 (v := 3) hi_54_5 rfl ?_
    refine am_e20 (v := .int r) hi_54_6 hfs rfl ?_
    by_cases c2 : r.toInt ≤ x.toInt
    · refine am_e13t hi_54_9 (am_cT (m := x.toInt) (n := r.toInt) rfl rfl c2) ?_
      refine am_e0 hi_54_21 ?_
      refine am_e33 hi_54_22 ?_
      exact ⟨0, rfl, rfl, (getw_out (by omega) (by decide))⟩
    · refine am_e13f hi_54_9 (am_cF (m := x.toInt) (n := r.toInt) rfl rfl c2) ?_
      refine am_e1 (v := y) hi_54_12 rfl ?_
      by_cases c3 : y.toInt < (0 : Int)
      · refine am_e12t hi_54_13 (am_cT (m := y.toInt) (n := (0 : Int)) rfl (by decide) c3) ?_
        refine am_e0 hi_54_21 ?_
        refine am_e33 hi_54_22 ?_
        exact ⟨0, rfl, rfl, (getw_out (by omega) (by decide))⟩
      · refine am_e12f hi_54_13 (am_cF (m := y.toInt) (n := (0 : Int)) rfl (by decide) c3) ?_
        refine am_e1 (v := y) hi_54_16 rfl ?_
        refine am_e0 hi_54_17 ?_
        by_cases c4 : y.toInt < (4 : Int)
        · refine am_e13t hi_54_18 (am_cT (m := y.toInt) (n := (4 : Int)) rfl (by decide) c4) ?_
          refine am_e2 (v := 3) hi_54_23 rfl ?_
          refine am_e20 (v := .ref a) hi_54_24 hfs rfl ?_
          refine am_e1 (v := x) hi_54_27 rfl ?_
          refine am_e0 hi_54_28 ?_
          obtain ⟨z5, hz5, tz5⟩ := am_mulI (x := x) (y := 4) (m := x.toInt) (n := (4 : Int)) rfl (by decide) (by omega) (by omega)
          refine am_e10 (z := z5) hi_54_29 hz5 ?_
          refine am_e1 (v := y) hi_54_30 rfl ?_
          obtain ⟨z6, hz6, tz6⟩ := am_addI (x := z5) (y := y) (m := z5.toInt) (n := y.toInt) rfl rfl (by omega) (by omega)
          refine am_e10 (z := z6) hi_54_31 hz6 ?_
          refine cm_25 hi_54_32 hA (by omega) (by omega) ?_
          refine am_e33 hi_54_33 ?_
          exact ⟨(am_arf S a z6.toNatClampNeg), rfl, rfl, (getw_in (b7 rfl) (by omega) (by omega) (z := z6) (by omega) rfl)⟩
        · refine am_e13f hi_54_18 (am_cF (m := y.toInt) (n := (4 : Int)) rfl (by decide) c4) ?_
          refine am_e0 hi_54_21 ?_
          refine am_e33 hi_54_22 ?_
          exact ⟨0, rfl, rfl, (getw_out (by omega) (by decide))⟩
theorem ck_kind {sc : Nat × (Nat → Int32)} {d aw : Nat} {S : am_S} (h : SH aw S) : am_E (am_PP sc) (d + 1) 53 0 [some (.ref 2)] [] S (am_N fun v S1 => ∃ r : Int32, v = some (.int r) ∧ S = S1 ∧ (r.toInt = kd aw S)) := by
  refine am_e2 (v := 2) hi_53_0 rfl ?_
  refine cm_20f (r := 3) h hi_53_1 (h.1.s (2, 2) (by decide)) (by decide) rfl ?_
  refine am_e2 (v := 2) hi_53_4 rfl ?_
  refine cm_20i h hi_53_5 (h.1.s (2, 2) (by decide)) (by decide) rfl fun v1 hv1 => ?_
  have hv1_ : v1.toInt = nx S := hv1
  refine am_e0 hi_53_8 ?_
  refine am_e32n (as := [.ref 3, .int v1, .int 0]) (la := [some (.ref 3), some (.int v1), some (.int 0)]) (rest := []) hi_53_9 (am_hd0 (M := 53) (by decide) 9) (Nat.le_of_ble_eq_true rfl) (Nat.le_of_ble_eq_true rfl) (show 3 ≤ am_P0.2.2.1 54 from by decide +kernel) rfl (cl_recv (h.1.s (3, 3) (by decide))) rfl rfl (ck_getw (d := d) h   ) ?_
  rintro v2 S3 ⟨r4, rfl, rfl, h6⟩
  have h6_ : (0 : Int) = 0 → r4.toInt = kA aw S v1.toInt := h6
  have h8 : r4.toInt = kd aw S := by have q := h6_ rfl; rw [show v1.toInt = nx S from by omega] at q; exact q
  show am_E _ _ _ _ [some (.ref 2)] [.int r4] _ _
  refine am_e33 hi_53_12 ?_
  exact ⟨r4, rfl, rfl, (by show r4.toInt = kd aw S; omega)⟩
theorem ck_kindAt {sc : Nat × (Nat → Int32)} {d aw : Nat} {S : am_S} {x : Int32} (h : SH aw S) : am_E (am_PP sc) (d + 1) 93 0 [some (.ref 2), some (.int x)] [] S (am_N fun v S1 => ∃ r : Int32, v = some (.int r) ∧ S = S1 ∧ (r.toInt = kA aw S x.toInt)) := by
  refine am_e2 (v := 2) hi_93_0 rfl ?_
  refine cm_20f (r := 3) h hi_93_1 (h.1.s (2, 2) (by decide)) (by decide) rfl ?_
  refine am_e1 (v := x) hi_93_4 rfl ?_
  refine am_e0 hi_93_5 ?_
  refine am_e32n (as := [.ref 3, .int x, .int 0]) (la := [some (.ref 3), some (.int x), some (.int 0)]) (rest := []) hi_93_6 (am_hd0 (M := 93) (by decide) 6) (Nat.le_of_ble_eq_true rfl) (Nat.le_of_ble_eq_true rfl) (show 3 ≤ am_P0.2.2.1 54 from by decide +kernel) rfl (cl_recv (h.1.s (3, 3) (by decide))) rfl rfl (ck_getw (d := d) h   ) ?_
  rintro v1 S2 ⟨r3, rfl, rfl, h5⟩
  have h5_ : (0 : Int) = 0 → r3.toInt = kA aw S x.toInt := h5
  show am_E _ _ _ _ [some (.ref 2), some (.int x)] [.int r3] _ _
  refine am_e33 hi_93_9 ?_
  exact ⟨r3, rfl, rfl, (h5_ rfl)⟩
theorem ck_textAt {sc : Nat × (Nat → Int32)} {d aw : Nat} {S : am_S} {x : Int32} (h : SH aw S) : am_E (am_PP sc) (d + 1) 104 0 [some (.ref 2), some (.int x)] [] S (am_N fun v S1 => ∃ r : Int32, v = some (.int r) ∧ S = S1) := by
  refine am_e2 (v := 2) hi_104_0 rfl ?_
  refine cm_20f (r := 3) h hi_104_1 (h.1.s (2, 2) (by decide)) (by decide) rfl ?_
  refine am_e1 (v := x) hi_104_4 rfl ?_
  refine am_e0 hi_104_5 ?_
  refine am_e32n (as := [.ref 3, .int x, .int 1]) (la := [some (.ref 3), some (.int x), some (.int 1)]) (rest := []) hi_104_6 (am_hd0 (M := 104) (by decide) 6) (Nat.le_of_ble_eq_true rfl) (Nat.le_of_ble_eq_true rfl) (show 3 ≤ am_P0.2.2.1 54 from by decide +kernel) rfl (cl_recv (h.1.s (3, 3) (by decide))) rfl rfl (ck_getw (d := d) h   ) ?_
  rintro v1 S2 ⟨r3, rfl, rfl, h5⟩
  have h5_ : (1 : Int) = 0 → r3.toInt = kA aw S x.toInt := h5
  show am_E _ _ _ _ [some (.ref 2), some (.int x)] [.int r3] _ _
  refine am_e33 hi_104_9 ?_
  exact ⟨r3, rfl, rfl⟩
theorem ck_count {sc : Nat × (Nat → Int32)} {d aw : Nat} {S : am_S} (h : SH aw S) : am_E (am_PP sc) (d + 1) 35 0 [some (.ref 2)] [] S (am_N fun v S1 => ∃ r : Int32, v = some (.int r) ∧ S = S1 ∧ (r.toInt = wr S)) := by
  refine am_e2 (v := 2) hi_35_0 rfl ?_
  refine cm_20f (r := 3) h hi_35_1 (h.1.s (2, 2) (by decide)) (by decide) rfl ?_
  refine am_e32n (as := [.ref 3]) (la := [some (.ref 3)]) (rest := []) hi_35_4 (am_hd0 (M := 35) (by decide) 4) (Nat.le_of_ble_eq_true rfl) (Nat.le_of_ble_eq_true rfl) (show 1 ≤ am_P0.2.2.1 36 from by decide +kernel) rfl (cl_recv (h.1.s (3, 3) (by decide))) rfl rfl (ck_rows (d := d) h (h.1.s (3, 3) (by decide))  ) ?_
  rintro v1 S2 ⟨r3, rfl, rfl, h5, h6, h7⟩
  have h5_ : r3.toInt = iv S 3 1 := h5
  have h6_ : 0 ≤ r3.toInt := h6
  have h7_ : r3.toInt ≤ 2097154 := h7
  have h9 : iv S 3 1 = wr S := rfl
  show am_E _ _ _ _ [some (.ref 2)] [.int r3] _ _
  refine am_e33 hi_35_7 ?_
  exact ⟨r3, rfl, rfl, (by show r3.toInt = wr S; omega)⟩
theorem ck_need {sc : Nat × (Nat → Int32)} {d aw : Nat} {S : am_S} {k : Int32} (h : SH aw S) (p0 : 0 ≤ nx S) (p1 : nx S ≤ wr S) : am_E (am_PP sc) (d + 13) 65 0 [some (.ref 2), some (.int k)] [] S (am_T (fun v S1 => v = none ∧ S = S1 ∧ (kd aw S = k.toInt)) (fun S1 => TH aw 134 S S1)) := by
  refine am_e2 (v := 2) hi_65_0 rfl ?_
  refine cm_20f (r := 3) h hi_65_1 (h.1.s (2, 2) (by decide)) (by decide) rfl ?_
  refine am_e2 (v := 2) hi_65_4 rfl ?_
  refine cm_20i h hi_65_5 (h.1.s (2, 2) (by decide)) (by decide) rfl fun v1 hv1 => ?_
  have hv1_ : v1.toInt = nx S := hv1
  refine am_e0 hi_65_8 ?_
  refine am_e32n (as := [.ref 3, .int v1, .int 0]) (la := [some (.ref 3), some (.int v1), some (.int 0)]) (rest := []) hi_65_9 (am_hd0 (M := 65) (by decide) 9) (Nat.le_of_ble_eq_true rfl) (Nat.le_of_ble_eq_true rfl) (show 3 ≤ am_P0.2.2.1 54 from by decide +kernel) rfl (cl_recv (h.1.s (3, 3) (by decide))) rfl rfl (ck_getw (d := (d + 12)) h   ) ?_
  rintro v2 S3 ⟨r4, rfl, rfl, h6⟩
  have h6_ : (0 : Int) = 0 → r4.toInt = kA aw S v1.toInt := h6
  have h8 : r4.toInt = kd aw S := by have q := h6_ rfl; rw [show v1.toInt = nx S from by omega] at q; exact q
  show am_E _ _ _ _ [some (.ref 2), some (.int k)] [.int r4] _ _
  refine am_e1 (v := k) hi_65_12 rfl ?_
  by_cases c9 : r4.toInt = k.toInt
  · refine am_e13t hi_65_13 (am_cT (m := r4.toInt) (n := k.toInt) rfl rfl c9) ?_
    refine am_e35 hi_65_29 ?_
    exact ⟨rfl, rfl, (by show kd aw S = k.toInt; omega)⟩
  · refine am_e13f hi_65_13 (am_cF (m := r4.toInt) (n := k.toInt) rfl rfl c9) ?_
    refine am_e2 (v := 2) hi_65_16 rfl ?_
    refine cm_20f (r := 1) h hi_65_17 (h.1.s (2, 2) (by decide)) (by decide) rfl ?_
    refine am_e0 hi_65_20 ?_
    refine am_e2 (v := 2) hi_65_22 rfl ?_
    refine cm_20i h hi_65_23 (h.1.s (2, 2) (by decide)) (by decide) rfl fun v10 hv10 => ?_
    have hv10_ : v10.toInt = nx S := hv10
    refine am_e32t (as := [.ref 1, .int 7, .int v10]) (la := [some (.ref 1), some (.int 7), some (.int v10)]) (rest := []) hi_65_26 (am_hd0 (M := 65) (by decide) 26) (Nat.le_of_ble_eq_true rfl) (Nat.le_of_ble_eq_true rfl) (show 3 ≤ am_P0.2.2.1 58 from by decide +kernel) rfl (cl_recv (h.1.s (1, 1) (by decide))) rfl rfl (ck_refuse (d := d) h (by show 0 ≤ nx S; omega) (by show nx S ≤ wr S; omega)) (fun S11 h12 => (show TH aw 134 S S11 from ⟨h12.1, (Ex.refl S).trans h12.2.1, ⟨(by have q := h12.2.2.1.1; omega), h12.2.2.1.2.trans rfl⟩, h12.2.2.2.1, h12.2.2.2.2.1, (by have q := h12.2.2.2.2.2; omega)⟩)) (fun _ _ q => q.elim)
theorem ck_skip {sc : Nat × (Nat → Int32)} {d aw : Nat} {S : am_S} (h : SH aw S) (p0 : 0 ≤ nx S) (p1 : nx S ≤ wr S) (p2 : wr S ≤ 600) (p3 : 0 ≤ lv S) (p4 : lv S ≤ 48) (p5 : kd aw S ≠ 0) : am_E (am_PP sc) (d + 13) 55 0 [some (.ref 2), none] [] S (am_T (fun v S1 => ∃ r : Int32, v = some (.int r) ∧ Wd aw S S1 ∧ (nx S1 = nx S + 1) ∧ (lv S1 = lv S + c_dl (kd aw S)) ∧ (lv S1 ≤ 48) ∧ (nx S1 ≤ wr S1)) (fun S1 => TH aw 134 S S1)) := by
  have hkl := kd_lt p5
  refine am_e2 (v := 2) hi_55_0 rfl ?_
  refine cm_20f (r := 3) h hi_55_1 (h.1.s (2, 2) (by decide)) (by decide) rfl ?_
  refine am_e2 (v := 2) hi_55_4 rfl ?_
  refine cm_20i h hi_55_5 (h.1.s (2, 2) (by decide)) (by decide) rfl fun v1 hv1 => ?_
  have hv1_ : v1.toInt = nx S := hv1
  refine am_e0 hi_55_8 ?_
  refine am_e32n (as := [.ref 3, .int v1, .int 0]) (la := [some (.ref 3), some (.int v1), some (.int 0)]) (rest := []) hi_55_9 (am_hd0 (M := 55) (by decide) 9) (Nat.le_of_ble_eq_true rfl) (Nat.le_of_ble_eq_true rfl) (show 3 ≤ am_P0.2.2.1 54 from by decide +kernel) rfl (cl_recv (h.1.s (3, 3) (by decide))) rfl rfl (ck_getw (d := (d + 12)) h   ) ?_
  rintro v2 S3 ⟨r4, rfl, rfl, h6⟩
  have h6_ : (0 : Int) = 0 → r4.toInt = kA aw S v1.toInt := h6
  have h8 : r4.toInt = kd aw S := by have q := h6_ rfl; rw [show v1.toInt = nx S from by omega] at q; exact q
  show am_E _ _ _ _ [some (.ref 2), none] [.int r4] _ _
  refine am_e3 (ls' := [some (.ref 2), some (.int r4)]) hi_55_12 (Nat.le_of_ble_eq_true rfl) rfl ?_
  refine am_e1 (v := r4) hi_55_13 rfl ?_
  refine am_e32n (as := [.int r4]) (la := [some (.int r4)]) (rest := []) hi_55_14 (am_hd0 (M := 55) (by decide) 14) (Nat.le_of_ble_eq_true rfl) (Nat.le_of_ble_eq_true rfl) (show 1 ≤ am_P0.2.2.1 56 from by decide +kernel) rfl rfl rfl rfl (ck_closes (d := (d + 12)) h   ) ?_
  rintro v9 S10 ⟨r11, rfl, hb14, rfl, h13⟩
  have h13_ : (r11.toInt = 1 ∧ (r4.toInt = 61 ∨ r4.toInt = 65 ∨ r4.toInt = 63 ∨ r4.toInt = 15 ∨ r4.toInt = 30 ∨ r4.toInt = 14 ∨ r4.toInt = 13)) ∨ (r11.toInt = 0 ∧ ¬ (r4.toInt = 61 ∨ r4.toInt = 65 ∨ r4.toInt = 63 ∨ r4.toInt = 15 ∨ r4.toInt = 30 ∨ r4.toInt = 14 ∨ r4.toInt = 13)) := h13
  have hb14_ : r11.toInt = 0 ∨ r11.toInt = 1 := hb14.elim (fun e => Or.inl (by rw [e]; rfl)) (fun e => Or.inr (by rw [e]; rfl))
  show am_E _ _ _ _ [some (.ref 2), some (.int r4)] [.int r11] _ _
  by_cases c15 : r11.toInt = (0 : Int)
  · refine am_e12t hi_55_17 (am_cT (m := r11.toInt) (n := (0 : Int)) rfl (by decide) c15) ?_
    refine am_e1 (v := r4) hi_55_30 rfl ?_
    refine am_e32n (as := [.int r4]) (la := [some (.int r4)]) (rest := []) hi_55_31 (am_hd0 (M := 55) (by decide) 31) (Nat.le_of_ble_eq_true rfl) (Nat.le_of_ble_eq_true rfl) (show 1 ≤ am_P0.2.2.1 57 from by decide +kernel) rfl rfl rfl rfl (ck_opens (d := (d + 12)) h   ) ?_
    rintro v16 S17 ⟨r18, rfl, hb21, rfl, h20⟩
    have h20_ : (r18.toInt = 1 ∧ (r4.toInt = 60 ∨ r4.toInt = 64 ∨ r4.toInt = 62 ∨ r4.toInt = 12 ∨ r4.toInt = 28 ∨ r4.toInt = 13 ∨ r4.toInt = 26 ∨ r4.toInt = 18)) ∨ (r18.toInt = 0 ∧ ¬ (r4.toInt = 60 ∨ r4.toInt = 64 ∨ r4.toInt = 62 ∨ r4.toInt = 12 ∨ r4.toInt = 28 ∨ r4.toInt = 13 ∨ r4.toInt = 26 ∨ r4.toInt = 18)) := h20
    have hb21_ : r18.toInt = 0 ∨ r18.toInt = 1 := hb21.elim (fun e => Or.inl (by rw [e]; rfl)) (fun e => Or.inr (by rw [e]; rfl))
    show am_E _ _ _ _ [some (.ref 2), some (.int r4)] [.int r18] _ _
    by_cases c22 : r18.toInt = (0 : Int)
    · refine am_e12t hi_55_34 (am_cT (m := r18.toInt) (n := (0 : Int)) rfl (by decide) c22) ?_
      refine am_e2 (v := 2) hi_55_69 rfl ?_
      refine am_e7 hi_55_70 ?_
      refine cm_20i h hi_55_71 (h.1.s (2, 2) (by decide)) (by decide) rfl fun v23 hv23 => ?_
      have hv23_ : v23.toInt = nx S := hv23
      refine am_e0 hi_55_74 ?_
      obtain ⟨z24, hz24, tz24⟩ := am_addI (x := v23) (y := 1) (m := v23.toInt) (n := (1 : Int)) rfl (by decide) (by omega) (by omega)
      refine am_e10 (z := z24) hi_55_75 hz24 ?_
      refine cm_21w h hi_55_76 (by decide) rfl fun S25 h26 h27 h28 h29 h30 h31 h32 h33 => ?_
      have h34 : nx S25 = z24.toInt := h29
      have h35 : lv S25 = lv S := h28 2 3 (by decide)
      have h36 : wr S25 = wr S := h28 3 1 (by decide)
      have h38 : fl S25 = fl S := by unfold fl; rw [h31]; exact h28 _ _ (Or.inl (by intro z; have z2 := h.nwc; rw [z] at z2; have z3 := h.1.s (2, 2) (by decide); rw [show ((2, 2) : Nat × Nat).1 = 2 from rfl, z2] at z3; cases z3))
      have h39 : ∀ t, cl (am_fs S) t = some 3 → iv S25 t 1 = iv S t 1 := fun t _ => h28 t 1 (Or.inr (by decide))
      refine am_e2 (v := 2) hi_55_79 rfl ?_
      refine cm_20f (r := 3) h26 hi_55_80 (h26.1.s (2, 2) (by decide)) (by decide) rfl ?_
      refine am_e2 (v := 2) hi_55_83 rfl ?_
      refine cm_20i h26 hi_55_84 (h26.1.s (2, 2) (by decide)) (by decide) rfl fun v41 hv41 => ?_
      have hv41_ : v41.toInt = nx S25 := hv41
      refine am_e0 hi_55_87 ?_
      obtain ⟨z42, hz42, tz42⟩ := am_subI (x := v41) (y := 1) (m := v41.toInt) (n := (1 : Int)) rfl (by decide) (by omega) (by omega)
      refine am_e10 (z := z42) hi_55_88 hz42 ?_
      refine am_e0 hi_55_89 ?_
      refine am_e32n (as := [.ref 3, .int z42, .int 1]) (la := [some (.ref 3), some (.int z42), some (.int 1)]) (rest := []) hi_55_90 (am_hd0 (M := 55) (by decide) 90) (Nat.le_of_ble_eq_true rfl) (Nat.le_of_ble_eq_true rfl) (show 3 ≤ am_P0.2.2.1 54 from by decide +kernel) rfl (cl_recv (h26.1.s (3, 3) (by decide))) rfl rfl (ck_getw (d := (d + 12)) h26   ) ?_
      rintro v43 S44 ⟨r45, rfl, rfl, h47⟩
      have h47_ : (1 : Int) = 0 → r45.toInt = kA aw S25 z42.toInt := h47
      show am_E _ _ _ _ [some (.ref 2), some (.int r4)] [.int r45] _ _
      refine am_e33 hi_55_93 ?_
      exact ⟨r45, rfl, ⟨h26, h27, ⟨(by show wr S25 = wr S; omega), h30⟩, ⟨h32, h31, (by show fl S25 = fl S; omega)⟩, (fun t ht => (h39 t ht)), (by show EN S25 ≤ EN S; omega)⟩, (by show nx S25 = nx S + 1; omega), (by show lv S25 = lv S + c_dl (kd aw S); unfold c_dl; split <;> split <;> omega), (by show lv S25 ≤ 48; omega), (by show nx S25 ≤ wr S25; omega)⟩
    · refine am_e12f hi_55_34 (am_cF (m := r18.toInt) (n := (0 : Int)) rfl (by decide) c22) ?_
      refine am_e2 (v := 2) hi_55_37 rfl ?_
      refine cm_20i h hi_55_38 (h.1.s (2, 2) (by decide)) (by decide) rfl fun v49 hv49 => ?_
      have hv49_ : v49.toInt = lv S := hv49
      refine am_e0 hi_55_41 ?_
      by_cases c50 : v49.toInt < (48 : Int)
      · refine am_e13t hi_55_43 (am_cT (m := v49.toInt) (n := (48 : Int)) rfl (by decide) c50) ?_
        refine am_e2 (v := 2) hi_55_59 rfl ?_
        refine am_e7 hi_55_60 ?_
        refine cm_20i h hi_55_61 (h.1.s (2, 2) (by decide)) (by decide) rfl fun v51 hv51 => ?_
        have hv51_ : v51.toInt = lv S := hv51
        refine am_e0 hi_55_64 ?_
        obtain ⟨z52, hz52, tz52⟩ := am_addI (x := v51) (y := 1) (m := v51.toInt) (n := (1 : Int)) rfl (by decide) (by omega) (by omega)
        refine am_e10 (z := z52) hi_55_65 hz52 ?_
        refine cm_21w h hi_55_66 (by decide) rfl fun S53 h54 h55 h56 h57 h58 h59 h60 h61 => ?_
        have h62 : lv S53 = z52.toInt := h57
        have h63 : nx S53 = nx S := h56 2 2 (by decide)
        have h64 : wr S53 = wr S := h56 3 1 (by decide)
        have h66 : fl S53 = fl S := by unfold fl; rw [h59]; exact h56 _ _ (Or.inl (by intro z; have z2 := h.nwc; rw [z] at z2; have z3 := h.1.s (2, 2) (by decide); rw [show ((2, 2) : Nat × Nat).1 = 2 from rfl, z2] at z3; cases z3))
        have h67 : ∀ t, cl (am_fs S) t = some 3 → iv S53 t 1 = iv S t 1 := fun t _ => h56 t 1 (Or.inr (by decide))
        refine am_e2 (v := 2) hi_55_69 rfl ?_
        refine am_e7 hi_55_70 ?_
        refine cm_20i h54 hi_55_71 (h54.1.s (2, 2) (by decide)) (by decide) rfl fun v69 hv69 => ?_
        have hv69_ : v69.toInt = nx S53 := hv69
        refine am_e0 hi_55_74 ?_
        obtain ⟨z70, hz70, tz70⟩ := am_addI (x := v69) (y := 1) (m := v69.toInt) (n := (1 : Int)) rfl (by decide) (by omega) (by omega)
        refine am_e10 (z := z70) hi_55_75 hz70 ?_
        refine cm_21w h54 hi_55_76 (by decide) rfl fun S71 h72 h73 h74 h75 h76 h77 h78 h79 => ?_
        have h80 : nx S71 = z70.toInt := h75
        have h81 : lv S71 = lv S53 := h74 2 3 (by decide)
        have h82 : wr S71 = wr S53 := h74 3 1 (by decide)
        have h84 : fl S71 = fl S53 := by unfold fl; rw [h77]; exact h74 _ _ (Or.inl (by intro z; have z2 := h54.nwc; rw [z] at z2; have z3 := h54.1.s (2, 2) (by decide); rw [show ((2, 2) : Nat × Nat).1 = 2 from rfl, z2] at z3; cases z3))
        have h85 : ∀ t, cl (am_fs S53) t = some 3 → iv S71 t 1 = iv S53 t 1 := fun t _ => h74 t 1 (Or.inr (by decide))
        refine am_e2 (v := 2) hi_55_79 rfl ?_
        refine cm_20f (r := 3) h72 hi_55_80 (h72.1.s (2, 2) (by decide)) (by decide) rfl ?_
        refine am_e2 (v := 2) hi_55_83 rfl ?_
        refine cm_20i h72 hi_55_84 (h72.1.s (2, 2) (by decide)) (by decide) rfl fun v87 hv87 => ?_
        have hv87_ : v87.toInt = nx S71 := hv87
        refine am_e0 hi_55_87 ?_
        obtain ⟨z88, hz88, tz88⟩ := am_subI (x := v87) (y := 1) (m := v87.toInt) (n := (1 : Int)) rfl (by decide) (by omega) (by omega)
        refine am_e10 (z := z88) hi_55_88 hz88 ?_
        refine am_e0 hi_55_89 ?_
        refine am_e32n (as := [.ref 3, .int z88, .int 1]) (la := [some (.ref 3), some (.int z88), some (.int 1)]) (rest := []) hi_55_90 (am_hd0 (M := 55) (by decide) 90) (Nat.le_of_ble_eq_true rfl) (Nat.le_of_ble_eq_true rfl) (show 3 ≤ am_P0.2.2.1 54 from by decide +kernel) rfl (cl_recv (h72.1.s (3, 3) (by decide))) rfl rfl (ck_getw (d := (d + 12)) h72   ) ?_
        rintro v89 S90 ⟨r91, rfl, rfl, h93⟩
        have h93_ : (1 : Int) = 0 → r91.toInt = kA aw S71 z88.toInt := h93
        show am_E _ _ _ _ [some (.ref 2), some (.int r4)] [.int r91] _ _
        refine am_e33 hi_55_93 ?_
        exact ⟨r91, rfl, ⟨h72, (h55.trans h73), ⟨(by show wr S71 = wr S; omega), (h76.trans h58)⟩, ⟨(h78.trans h60), (h77.trans h59), (by show fl S71 = fl S; omega)⟩, (fun t ht => ((h85 t (h55.1 _ _ ht)).trans (h67 t ht))), (by show EN S71 ≤ EN S; omega)⟩, (by show nx S71 = nx S + 1; omega), (by show lv S71 = lv S + c_dl (kd aw S); unfold c_dl; split <;> split <;> omega), (by show lv S71 ≤ 48; omega), (by show nx S71 ≤ wr S71; omega)⟩
      · refine am_e13f hi_55_43 (am_cF (m := v49.toInt) (n := (48 : Int)) rfl (by decide) c50) ?_
        refine am_e2 (v := 2) hi_55_46 rfl ?_
        refine cm_20f (r := 1) h hi_55_47 (h.1.s (2, 2) (by decide)) (by decide) rfl ?_
        refine am_e0 hi_55_50 ?_
        refine am_e2 (v := 2) hi_55_52 rfl ?_
        refine cm_20i h hi_55_53 (h.1.s (2, 2) (by decide)) (by decide) rfl fun v95 hv95 => ?_
        have hv95_ : v95.toInt = nx S := hv95
        refine am_e32t (as := [.ref 1, .int 8, .int v95]) (la := [some (.ref 1), some (.int 8), some (.int v95)]) (rest := []) hi_55_56 (am_hd0 (M := 55) (by decide) 56) (Nat.le_of_ble_eq_true rfl) (Nat.le_of_ble_eq_true rfl) (show 3 ≤ am_P0.2.2.1 58 from by decide +kernel) rfl (cl_recv (h.1.s (1, 1) (by decide))) rfl rfl (ck_refuse (d := d) h (by show 0 ≤ nx S; omega) (by show nx S ≤ wr S; omega)) (fun S96 h97 => (show TH aw 134 S S96 from ⟨h97.1, (Ex.refl S).trans h97.2.1, ⟨(by have q := h97.2.2.1.1; omega), h97.2.2.1.2.trans rfl⟩, h97.2.2.2.1, h97.2.2.2.2.1, (by have q := h97.2.2.2.2.2; omega)⟩)) (fun _ _ q => q.elim)
  · refine am_e12f hi_55_17 (am_cF (m := r11.toInt) (n := (0 : Int)) rfl (by decide) c15) ?_
    refine am_e2 (v := 2) hi_55_20 rfl ?_
    refine am_e7 hi_55_21 ?_
    refine cm_20i h hi_55_22 (h.1.s (2, 2) (by decide)) (by decide) rfl fun v98 hv98 => ?_
    have hv98_ : v98.toInt = lv S := hv98
    refine am_e0 hi_55_25 ?_
    obtain ⟨z99, hz99, tz99⟩ := am_subI (x := v98) (y := 1) (m := v98.toInt) (n := (1 : Int)) rfl (by decide) (by omega) (by omega)
    refine am_e10 (z := z99) hi_55_26 hz99 ?_
    refine cm_21w h hi_55_27 (by decide) rfl fun S100 h101 h102 h103 h104 h105 h106 h107 h108 => ?_
    have h109 : lv S100 = z99.toInt := h104
    have h110 : nx S100 = nx S := h103 2 2 (by decide)
    have h111 : wr S100 = wr S := h103 3 1 (by decide)
    have h113 : fl S100 = fl S := by unfold fl; rw [h106]; exact h103 _ _ (Or.inl (by intro z; have z2 := h.nwc; rw [z] at z2; have z3 := h.1.s (2, 2) (by decide); rw [show ((2, 2) : Nat × Nat).1 = 2 from rfl, z2] at z3; cases z3))
    have h114 : ∀ t, cl (am_fs S) t = some 3 → iv S100 t 1 = iv S t 1 := fun t _ => h103 t 1 (Or.inr (by decide))
    refine am_e1 (v := r4) hi_55_30 rfl ?_
    refine am_e32n (as := [.int r4]) (la := [some (.int r4)]) (rest := []) hi_55_31 (am_hd0 (M := 55) (by decide) 31) (Nat.le_of_ble_eq_true rfl) (Nat.le_of_ble_eq_true rfl) (show 1 ≤ am_P0.2.2.1 57 from by decide +kernel) rfl rfl rfl rfl (ck_opens (d := (d + 12)) h101   ) ?_
    rintro v116 S117 ⟨r118, rfl, hb121, rfl, h120⟩
    have h120_ : (r118.toInt = 1 ∧ (r4.toInt = 60 ∨ r4.toInt = 64 ∨ r4.toInt = 62 ∨ r4.toInt = 12 ∨ r4.toInt = 28 ∨ r4.toInt = 13 ∨ r4.toInt = 26 ∨ r4.toInt = 18)) ∨ (r118.toInt = 0 ∧ ¬ (r4.toInt = 60 ∨ r4.toInt = 64 ∨ r4.toInt = 62 ∨ r4.toInt = 12 ∨ r4.toInt = 28 ∨ r4.toInt = 13 ∨ r4.toInt = 26 ∨ r4.toInt = 18)) := h120
    have hb121_ : r118.toInt = 0 ∨ r118.toInt = 1 := hb121.elim (fun e => Or.inl (by rw [e]; rfl)) (fun e => Or.inr (by rw [e]; rfl))
    show am_E _ _ _ _ [some (.ref 2), some (.int r4)] [.int r118] _ _
    by_cases c122 : r118.toInt = (0 : Int)
    · refine am_e12t hi_55_34 (am_cT (m := r118.toInt) (n := (0 : Int)) rfl (by decide) c122) ?_
      refine am_e2 (v := 2) hi_55_69 rfl ?_
      refine am_e7 hi_55_70 ?_
      refine cm_20i h101 hi_55_71 (h101.1.s (2, 2) (by decide)) (by decide) rfl fun v123 hv123 => ?_
      have hv123_ : v123.toInt = nx S100 := hv123
      refine am_e0 hi_55_74 ?_
      obtain ⟨z124, hz124, tz124⟩ := am_addI (x := v123) (y := 1) (m := v123.toInt) (n := (1 : Int)) rfl (by decide) (by omega) (by omega)
      refine am_e10 (z := z124) hi_55_75 hz124 ?_
      refine cm_21w h101 hi_55_76 (by decide) rfl fun S125 h126 h127 h128 h129 h130 h131 h132 h133 => ?_
      have h134 : nx S125 = z124.toInt := h129
      have h135 : lv S125 = lv S100 := h128 2 3 (by decide)
      have h136 : wr S125 = wr S100 := h128 3 1 (by decide)
      have h138 : fl S125 = fl S100 := by unfold fl; rw [h131]; exact h128 _ _ (Or.inl (by intro z; have z2 := h101.nwc; rw [z] at z2; have z3 := h101.1.s (2, 2) (by decide); rw [show ((2, 2) : Nat × Nat).1 = 2 from rfl, z2] at z3; cases z3))
      have h139 : ∀ t, cl (am_fs S100) t = some 3 → iv S125 t 1 = iv S100 t 1 := fun t _ => h128 t 1 (Or.inr (by decide))
      refine am_e2 (v := 2) hi_55_79 rfl ?_
      refine cm_20f (r := 3) h126 hi_55_80 (h126.1.s (2, 2) (by decide)) (by decide) rfl ?_
      refine am_e2 (v := 2) hi_55_83 rfl ?_
      refine cm_20i h126 hi_55_84 (h126.1.s (2, 2) (by decide)) (by decide) rfl fun v141 hv141 => ?_
      have hv141_ : v141.toInt = nx S125 := hv141
      refine am_e0 hi_55_87 ?_
      obtain ⟨z142, hz142, tz142⟩ := am_subI (x := v141) (y := 1) (m := v141.toInt) (n := (1 : Int)) rfl (by decide) (by omega) (by omega)
      refine am_e10 (z := z142) hi_55_88 hz142 ?_
      refine am_e0 hi_55_89 ?_
      refine am_e32n (as := [.ref 3, .int z142, .int 1]) (la := [some (.ref 3), some (.int z142), some (.int 1)]) (rest := []) hi_55_90 (am_hd0 (M := 55) (by decide) 90) (Nat.le_of_ble_eq_true rfl) (Nat.le_of_ble_eq_true rfl) (show 3 ≤ am_P0.2.2.1 54 from by decide +kernel) rfl (cl_recv (h126.1.s (3, 3) (by decide))) rfl rfl (ck_getw (d := (d + 12)) h126   ) ?_
      rintro v143 S144 ⟨r145, rfl, rfl, h147⟩
      have h147_ : (1 : Int) = 0 → r145.toInt = kA aw S125 z142.toInt := h147
      show am_E _ _ _ _ [some (.ref 2), some (.int r4)] [.int r145] _ _
      refine am_e33 hi_55_93 ?_
      exact ⟨r145, rfl, ⟨h126, (h102.trans h127), ⟨(by show wr S125 = wr S; omega), (h130.trans h105)⟩, ⟨(h132.trans h107), (h131.trans h106), (by show fl S125 = fl S; omega)⟩, (fun t ht => ((h139 t (h102.1 _ _ ht)).trans (h114 t ht))), (by show EN S125 ≤ EN S; omega)⟩, (by show nx S125 = nx S + 1; omega), (by show lv S125 = lv S + c_dl (kd aw S); unfold c_dl; split <;> split <;> omega), (by show lv S125 ≤ 48; omega), (by show nx S125 ≤ wr S125; omega)⟩
    · refine am_e12f hi_55_34 (am_cF (m := r118.toInt) (n := (0 : Int)) rfl (by decide) c122) ?_
      refine am_e2 (v := 2) hi_55_37 rfl ?_
      refine cm_20i h101 hi_55_38 (h101.1.s (2, 2) (by decide)) (by decide) rfl fun v149 hv149 => ?_
      have hv149_ : v149.toInt = lv S100 := hv149
      refine am_e0 hi_55_41 ?_
      refine am_e13t hi_55_43 (am_cT (m := v149.toInt) (n := (48 : Int)) rfl (by decide) (by simp only [am_cI]; omega)) ?_
      refine am_e2 (v := 2) hi_55_59 rfl ?_
      refine am_e7 hi_55_60 ?_
      refine cm_20i h101 hi_55_61 (h101.1.s (2, 2) (by decide)) (by decide) rfl fun v150 hv150 => ?_
      have hv150_ : v150.toInt = lv S100 := hv150
      refine am_e0 hi_55_64 ?_
      obtain ⟨z151, hz151, tz151⟩ := am_addI (x := v150) (y := 1) (m := v150.toInt) (n := (1 : Int)) rfl (by decide) (by omega) (by omega)
      refine am_e10 (z := z151) hi_55_65 hz151 ?_
      refine cm_21w h101 hi_55_66 (by decide) rfl fun S152 h153 h154 h155 h156 h157 h158 h159 h160 => ?_
      have h161 : lv S152 = z151.toInt := h156
      have h162 : nx S152 = nx S100 := h155 2 2 (by decide)
      have h163 : wr S152 = wr S100 := h155 3 1 (by decide)
      have h165 : fl S152 = fl S100 := by unfold fl; rw [h158]; exact h155 _ _ (Or.inl (by intro z; have z2 := h101.nwc; rw [z] at z2; have z3 := h101.1.s (2, 2) (by decide); rw [show ((2, 2) : Nat × Nat).1 = 2 from rfl, z2] at z3; cases z3))
      have h166 : ∀ t, cl (am_fs S100) t = some 3 → iv S152 t 1 = iv S100 t 1 := fun t _ => h155 t 1 (Or.inr (by decide))
      refine am_e2 (v := 2) hi_55_69 rfl ?_
      refine am_e7 hi_55_70 ?_
      refine cm_20i h153 hi_55_71 (h153.1.s (2, 2) (by decide)) (by decide) rfl fun v168 hv168 => ?_
      have hv168_ : v168.toInt = nx S152 := hv168
      refine am_e0 hi_55_74 ?_
      obtain ⟨z169, hz169, tz169⟩ := am_addI (x := v168) (y := 1) (m := v168.toInt) (n := (1 : Int)) rfl (by decide) (by omega) (by omega)
      refine am_e10 (z := z169) hi_55_75 hz169 ?_
      refine cm_21w h153 hi_55_76 (by decide) rfl fun S170 h171 h172 h173 h174 h175 h176 h177 h178 => ?_
      have h179 : nx S170 = z169.toInt := h174
      have h180 : lv S170 = lv S152 := h173 2 3 (by decide)
      have h181 : wr S170 = wr S152 := h173 3 1 (by decide)
      have h183 : fl S170 = fl S152 := by unfold fl; rw [h176]; exact h173 _ _ (Or.inl (by intro z; have z2 := h153.nwc; rw [z] at z2; have z3 := h153.1.s (2, 2) (by decide); rw [show ((2, 2) : Nat × Nat).1 = 2 from rfl, z2] at z3; cases z3))
      have h184 : ∀ t, cl (am_fs S152) t = some 3 → iv S170 t 1 = iv S152 t 1 := fun t _ => h173 t 1 (Or.inr (by decide))
      refine am_e2 (v := 2) hi_55_79 rfl ?_
      refine cm_20f (r := 3) h171 hi_55_80 (h171.1.s (2, 2) (by decide)) (by decide) rfl ?_
      refine am_e2 (v := 2) hi_55_83 rfl ?_
      refine cm_20i h171 hi_55_84 (h171.1.s (2, 2) (by decide)) (by decide) rfl fun v186 hv186 => ?_
      have hv186_ : v186.toInt = nx S170 := hv186
      refine am_e0 hi_55_87 ?_
      obtain ⟨z187, hz187, tz187⟩ := am_subI (x := v186) (y := 1) (m := v186.toInt) (n := (1 : Int)) rfl (by decide) (by omega) (by omega)
      refine am_e10 (z := z187) hi_55_88 hz187 ?_
      refine am_e0 hi_55_89 ?_
      refine am_e32n (as := [.ref 3, .int z187, .int 1]) (la := [some (.ref 3), some (.int z187), some (.int 1)]) (rest := []) hi_55_90 (am_hd0 (M := 55) (by decide) 90) (Nat.le_of_ble_eq_true rfl) (Nat.le_of_ble_eq_true rfl) (show 3 ≤ am_P0.2.2.1 54 from by decide +kernel) rfl (cl_recv (h171.1.s (3, 3) (by decide))) rfl rfl (ck_getw (d := (d + 12)) h171   ) ?_
      rintro v188 S189 ⟨r190, rfl, rfl, h192⟩
      have h192_ : (1 : Int) = 0 → r190.toInt = kA aw S170 z187.toInt := h192
      show am_E _ _ _ _ [some (.ref 2), some (.int r4)] [.int r190] _ _
      refine am_e33 hi_55_93 ?_
      exact ⟨r190, rfl, ⟨h171, ((h102.trans h154).trans h172), ⟨(by show wr S170 = wr S; omega), (h175.trans (h157.trans h105))⟩, ⟨(h177.trans (h159.trans h107)), (h176.trans (h158.trans h106)), (by show fl S170 = fl S; omega)⟩, (fun t ht => ((h184 t (h154.1 _ _ (h102.1 _ _ ht))).trans ((h166 t (h102.1 _ _ ht)).trans (h114 t ht)))), (by show EN S170 ≤ EN S; omega)⟩, (by show nx S170 = nx S + 1; omega), (by show lv S170 = lv S + c_dl (kd aw S); unfold c_dl; split <;> split <;> omega), (by show lv S170 ≤ 48; omega), (by show nx S170 ≤ wr S170; omega)⟩
theorem ck_take {sc : Nat × (Nat → Int32)} {d aw : Nat} {S : am_S} {k : Int32} (h : SH aw S) (p0 : 0 ≤ nx S) (p1 : nx S ≤ wr S) (p2 : wr S ≤ 600) (p3 : 0 ≤ lv S) (p4 : lv S ≤ 48) (p5 : ¬ k.toInt = 0) : am_E (am_PP sc) (d + 14) 64 0 [some (.ref 2), some (.int k)] [] S (am_T (fun v S1 => ∃ r : Int32, v = some (.int r) ∧ Wd aw S S1 ∧ (kd aw S = k.toInt) ∧ (nx S1 = nx S + 1) ∧ (lv S1 = lv S + c_dl (kd aw S)) ∧ (lv S1 ≤ 48) ∧ (nx S1 ≤ wr S1)) (fun S1 => TH aw 134 S S1)) := by
  refine am_e2 (v := 2) hi_64_0 rfl ?_
  refine am_e1 (v := k) hi_64_1 rfl ?_
  refine am_e32t (as := [.ref 2, .int k]) (la := [some (.ref 2), some (.int k)]) (rest := []) hi_64_2 (am_hd0 (M := 64) (by decide) 2) (Nat.le_of_ble_eq_true rfl) (Nat.le_of_ble_eq_true rfl) (show 2 ≤ am_P0.2.2.1 65 from by decide +kernel) rfl (cl_recv (h.1.s (2, 2) (by decide))) rfl rfl (ck_need (d := d) h   (by show 0 ≤ nx S; omega) (by show nx S ≤ wr S; omega)) (fun S14 h15 => (show TH aw 134 S S14 from ⟨h15.1, (Ex.refl S).trans h15.2.1, ⟨(by have q := h15.2.2.1.1; omega), h15.2.2.1.2.trans rfl⟩, h15.2.2.2.1, h15.2.2.2.2.1, (by have q := h15.2.2.2.2.2; omega)⟩)) ?_
  rintro v1 S2 ⟨rfl, rfl, h5⟩
  have h5_ : kd aw S = k.toInt := h5
  show am_E _ _ _ _ [some (.ref 2), some (.int k)] [] _ _
  refine am_e2 (v := 2) hi_64_5 rfl ?_
  refine am_e32t (as := [.ref 2]) (la := [some (.ref 2), none]) (rest := []) hi_64_6 (am_hd0 (M := 64) (by decide) 6) (Nat.le_of_ble_eq_true rfl) (Nat.le_of_ble_eq_true rfl) (show 1 ≤ am_P0.2.2.1 55 from by decide +kernel) rfl (cl_recv (h.1.s (2, 2) (by decide))) rfl rfl (ck_skip (d := d) h   (by show 0 ≤ nx S; omega) (by show nx S ≤ wr S; omega) (by show wr S ≤ 600; omega) (by show 0 ≤ lv S; omega) (by show lv S ≤ 48; omega) (by show kd aw S ≠ 0; omega)) (fun S32 h33 => (show TH aw 134 S S32 from ⟨h33.1, (Ex.refl S).trans h33.2.1, ⟨(by have q := h33.2.2.1.1; omega), h33.2.2.1.2.trans rfl⟩, h33.2.2.2.1, h33.2.2.2.2.1, (by have q := h33.2.2.2.2.2; omega)⟩)) ?_
  rintro v16 S17 ⟨r18, rfl, h19, h20, h21, h22, h23⟩
  have h20_ : nx S17 = nx S + 1 := h20
  have h21_ : lv S17 = lv S + c_dl (kd aw S) := h21
  have h22_ : lv S17 ≤ 48 := h22
  have h23_ : nx S17 ≤ wr S17 := h23
  obtain ⟨h34, h35, ⟨h38, h39⟩, ⟨h40, h41, h42⟩, h43, h44⟩ := h19
  show am_E _ _ _ _ [some (.ref 2), some (.int k)] [.int r18] _ _
  refine am_e33 hi_64_9 ?_
  exact ⟨r18, rfl, ⟨h34, h35, ⟨(by show wr S17 = wr S; omega), h39⟩, ⟨h40, h41, (by show fl S17 = fl S; omega)⟩, (fun t ht => (h43 t ht)), (by show EN S17 ≤ EN S; omega)⟩, (by show kd aw S = k.toInt; omega), (by show nx S17 = nx S + 1; omega), (by show lv S17 = lv S + c_dl (kd aw S); omega), (by show lv S17 ≤ 48; omega), (by show nx S17 ≤ wr S17; omega)⟩
