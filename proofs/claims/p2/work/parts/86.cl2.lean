/-! THE CLASS: kinds, faults, words (printed by wip/p2/cl2.py) -/
theorem ck_isKnown {sc : Nat × (Nat → Int32)} {d aw : Nat} {S : am_S} {k : Int32} (h : SH aw S) : am_E (am_PP sc) (d + 0) 34 0 [some (.int k)] [] S (am_N fun v S1 => ∃ r : Int32, v = some (.int r) ∧ (r = 0 ∨ r = 1) ∧ S = S1) := by
  refine am_e1 (v := k) hi_34_0 rfl ?_
  refine am_e0 hi_34_1 ?_
  by_cases c1 : k.toInt < (1 : Int)
  · refine am_e13t hi_34_2 (am_cT (m := k.toInt) (n := (1 : Int)) rfl (by decide) c1) ?_
    refine am_e1 (v := k) hi_34_10 rfl ?_
    refine am_e0 hi_34_11 ?_
    refine am_e13t hi_34_13 (am_cT (m := k.toInt) (n := (10 : Int)) rfl (by decide) (by simp only [am_cI]; omega)) ?_
    refine am_e1 (v := k) hi_34_22 rfl ?_
    refine am_e0 hi_34_23 ?_
    refine am_e13t hi_34_25 (am_cT (m := k.toInt) (n := (40 : Int)) rfl (by decide) (by simp only [am_cI]; omega)) ?_
    refine am_e0 hi_34_38 ?_
    refine am_e36 hi_34_39 (by decide) ?_
    exact ⟨0, rfl, (by decide), rfl⟩
  · refine am_e13f hi_34_2 (am_cF (m := k.toInt) (n := (1 : Int)) rfl (by decide) c1) ?_
    refine am_e1 (v := k) hi_34_5 rfl ?_
    refine am_e0 hi_34_6 ?_
    by_cases c2 : k.toInt ≤ (3 : Int)
    · refine am_e13t hi_34_7 (am_cT (m := k.toInt) (n := (3 : Int)) rfl (by decide) c2) ?_
      refine am_e0 hi_34_34 ?_
      refine am_e18 hi_34_35 ?_
      refine am_e36 hi_34_39 (by decide) ?_
      exact ⟨1, rfl, (by decide), rfl⟩
    · refine am_e13f hi_34_7 (am_cF (m := k.toInt) (n := (3 : Int)) rfl (by decide) c2) ?_
      refine am_e1 (v := k) hi_34_10 rfl ?_
      refine am_e0 hi_34_11 ?_
      by_cases c3 : k.toInt < (10 : Int)
      · refine am_e13t hi_34_13 (am_cT (m := k.toInt) (n := (10 : Int)) rfl (by decide) c3) ?_
        refine am_e1 (v := k) hi_34_22 rfl ?_
        refine am_e0 hi_34_23 ?_
        refine am_e13t hi_34_25 (am_cT (m := k.toInt) (n := (40 : Int)) rfl (by decide) (by simp only [am_cI]; omega)) ?_
        refine am_e0 hi_34_38 ?_
        refine am_e36 hi_34_39 (by decide) ?_
        exact ⟨0, rfl, (by decide), rfl⟩
      · refine am_e13f hi_34_13 (am_cF (m := k.toInt) (n := (10 : Int)) rfl (by decide) c3) ?_
        refine am_e1 (v := k) hi_34_16 rfl ?_
        refine am_e0 hi_34_17 ?_
        by_cases c4 : k.toInt ≤ (31 : Int)
        · refine am_e13t hi_34_19 (am_cT (m := k.toInt) (n := (31 : Int)) rfl (by decide) c4) ?_
          refine am_e0 hi_34_34 ?_
          refine am_e18 hi_34_35 ?_
          refine am_e36 hi_34_39 (by decide) ?_
          exact ⟨1, rfl, (by decide), rfl⟩
        · refine am_e13f hi_34_19 (am_cF (m := k.toInt) (n := (31 : Int)) rfl (by decide) c4) ?_
          refine am_e1 (v := k) hi_34_22 rfl ?_
          refine am_e0 hi_34_23 ?_
          by_cases c5 : k.toInt < (40 : Int)
          · refine am_e13t hi_34_25 (am_cT (m := k.toInt) (n := (40 : Int)) rfl (by decide) c5) ?_
            refine am_e0 hi_34_38 ?_
            refine am_e36 hi_34_39 (by decide) ?_
            exact ⟨0, rfl, (by decide), rfl⟩
          · refine am_e13f hi_34_25 (am_cF (m := k.toInt) (n := (40 : Int)) rfl (by decide) c5) ?_
            refine am_e1 (v := k) hi_34_28 rfl ?_
            refine am_e0 hi_34_29 ?_
            by_cases c6 : (72 : Int) < k.toInt
            · refine am_e13t hi_34_31 (am_cT (m := k.toInt) (n := (72 : Int)) rfl (by decide) c6) ?_
              refine am_e0 hi_34_38 ?_
              refine am_e36 hi_34_39 (by decide) ?_
              exact ⟨0, rfl, (by decide), rfl⟩
            · refine am_e13f hi_34_31 (am_cF (m := k.toInt) (n := (72 : Int)) rfl (by decide) c6) ?_
              refine am_e0 hi_34_34 ?_
              refine am_e18 hi_34_35 ?_
              refine am_e36 hi_34_39 (by decide) ?_
              exact ⟨1, rfl, (by decide), rfl⟩
theorem ck_closes {sc : Nat × (Nat → Int32)} {d aw : Nat} {S : am_S} {k : Int32} (h : SH aw S) : am_E (am_PP sc) (d + 0) 56 0 [some (.int k)] [] S (am_N fun v S1 => ∃ r : Int32, v = some (.int r) ∧ (r = 0 ∨ r = 1) ∧ S = S1 ∧ ((r.toInt = 1 ∧ (k.toInt = 61 ∨ k.toInt = 65 ∨ k.toInt = 63 ∨ k.toInt = 15 ∨ k.toInt = 30 ∨ k.toInt = 14 ∨ k.toInt = 13)) ∨ (r.toInt = 0 ∧ ¬ (k.toInt = 61 ∨ k.toInt = 65 ∨ k.toInt = 63 ∨ k.toInt = 15 ∨ k.toInt = 30 ∨ k.toInt = 14 ∨ k.toInt = 13)))) := by
  refine am_e1 (v := k) hi_56_0 rfl ?_
  refine am_e0 hi_56_1 ?_
  by_cases c1 : k.toInt = (61 : Int)
  · refine am_e13t hi_56_3 (am_cT (m := k.toInt) (n := (61 : Int)) rfl (by decide) c1) ?_
    refine am_e0 hi_56_42 ?_
    refine am_e18 hi_56_43 ?_
    refine am_e36 hi_56_47 (by decide) ?_
    exact ⟨1, rfl, (by decide), rfl, (by show ((1 : Int) = 1 ∧ (k.toInt = 61 ∨ k.toInt = 65 ∨ k.toInt = 63 ∨ k.toInt = 15 ∨ k.toInt = 30 ∨ k.toInt = 14 ∨ k.toInt = 13)) ∨ ((1 : Int) = 0 ∧ ¬ (k.toInt = 61 ∨ k.toInt = 65 ∨ k.toInt = 63 ∨ k.toInt = 15 ∨ k.toInt = 30 ∨ k.toInt = 14 ∨ k.toInt = 13)); omega)⟩
  · refine am_e13f hi_56_3 (am_cF (m := k.toInt) (n := (61 : Int)) rfl (by decide) c1) ?_
    refine am_e1 (v := k) hi_56_6 rfl ?_
    refine am_e0 hi_56_7 ?_
    by_cases c2 : k.toInt = (65 : Int)
    · refine am_e13t hi_56_9 (am_cT (m := k.toInt) (n := (65 : Int)) rfl (by decide) c2) ?_
      refine am_e0 hi_56_42 ?_
      refine am_e18 hi_56_43 ?_
      refine am_e36 hi_56_47 (by decide) ?_
      exact ⟨1, rfl, (by decide), rfl, (by show ((1 : Int) = 1 ∧ (k.toInt = 61 ∨ k.toInt = 65 ∨ k.toInt = 63 ∨ k.toInt = 15 ∨ k.toInt = 30 ∨ k.toInt = 14 ∨ k.toInt = 13)) ∨ ((1 : Int) = 0 ∧ ¬ (k.toInt = 61 ∨ k.toInt = 65 ∨ k.toInt = 63 ∨ k.toInt = 15 ∨ k.toInt = 30 ∨ k.toInt = 14 ∨ k.toInt = 13)); omega)⟩
    · refine am_e13f hi_56_9 (am_cF (m := k.toInt) (n := (65 : Int)) rfl (by decide) c2) ?_
      refine am_e1 (v := k) hi_56_12 rfl ?_
      refine am_e0 hi_56_13 ?_
      by_cases c3 : k.toInt = (63 : Int)
      · refine am_e13t hi_56_15 (am_cT (m := k.toInt) (n := (63 : Int)) rfl (by decide) c3) ?_
        refine am_e0 hi_56_42 ?_
        refine am_e18 hi_56_43 ?_
        refine am_e36 hi_56_47 (by decide) ?_
        exact ⟨1, rfl, (by decide), rfl, (by show ((1 : Int) = 1 ∧ (k.toInt = 61 ∨ k.toInt = 65 ∨ k.toInt = 63 ∨ k.toInt = 15 ∨ k.toInt = 30 ∨ k.toInt = 14 ∨ k.toInt = 13)) ∨ ((1 : Int) = 0 ∧ ¬ (k.toInt = 61 ∨ k.toInt = 65 ∨ k.toInt = 63 ∨ k.toInt = 15 ∨ k.toInt = 30 ∨ k.toInt = 14 ∨ k.toInt = 13)); omega)⟩
      · refine am_e13f hi_56_15 (am_cF (m := k.toInt) (n := (63 : Int)) rfl (by decide) c3) ?_
        refine am_e1 (v := k) hi_56_18 rfl ?_
        refine am_e0 hi_56_19 ?_
        by_cases c4 : k.toInt = (15 : Int)
        · refine am_e13t hi_56_21 (am_cT (m := k.toInt) (n := (15 : Int)) rfl (by decide) c4) ?_
          refine am_e0 hi_56_42 ?_
          refine am_e18 hi_56_43 ?_
          refine am_e36 hi_56_47 (by decide) ?_
          exact ⟨1, rfl, (by decide), rfl, (by show ((1 : Int) = 1 ∧ (k.toInt = 61 ∨ k.toInt = 65 ∨ k.toInt = 63 ∨ k.toInt = 15 ∨ k.toInt = 30 ∨ k.toInt = 14 ∨ k.toInt = 13)) ∨ ((1 : Int) = 0 ∧ ¬ (k.toInt = 61 ∨ k.toInt = 65 ∨ k.toInt = 63 ∨ k.toInt = 15 ∨ k.toInt = 30 ∨ k.toInt = 14 ∨ k.toInt = 13)); omega)⟩
        · refine am_e13f hi_56_21 (am_cF (m := k.toInt) (n := (15 : Int)) rfl (by decide) c4) ?_
          refine am_e1 (v := k) hi_56_24 rfl ?_
          refine am_e0 hi_56_25 ?_
          by_cases c5 : k.toInt = (30 : Int)
          · refine am_e13t hi_56_27 (am_cT (m := k.toInt) (n := (30 : Int)) rfl (by decide) c5) ?_
            refine am_e0 hi_56_42 ?_
            refine am_e18 hi_56_43 ?_
            refine am_e36 hi_56_47 (by decide) ?_
            exact ⟨1, rfl, (by decide), rfl, (by show ((1 : Int) = 1 ∧ (k.toInt = 61 ∨ k.toInt = 65 ∨ k.toInt = 63 ∨ k.toInt = 15 ∨ k.toInt = 30 ∨ k.toInt = 14 ∨ k.toInt = 13)) ∨ ((1 : Int) = 0 ∧ ¬ (k.toInt = 61 ∨ k.toInt = 65 ∨ k.toInt = 63 ∨ k.toInt = 15 ∨ k.toInt = 30 ∨ k.toInt = 14 ∨ k.toInt = 13)); omega)⟩
          · refine am_e13f hi_56_27 (am_cF (m := k.toInt) (n := (30 : Int)) rfl (by decide) c5) ?_
            refine am_e1 (v := k) hi_56_30 rfl ?_
            refine am_e0 hi_56_31 ?_
            by_cases c6 : k.toInt = (14 : Int)
            · refine am_e13t hi_56_33 (am_cT (m := k.toInt) (n := (14 : Int)) rfl (by decide) c6) ?_
              refine am_e0 hi_56_42 ?_
              refine am_e18 hi_56_43 ?_
              refine am_e36 hi_56_47 (by decide) ?_
              exact ⟨1, rfl, (by decide), rfl, (by show ((1 : Int) = 1 ∧ (k.toInt = 61 ∨ k.toInt = 65 ∨ k.toInt = 63 ∨ k.toInt = 15 ∨ k.toInt = 30 ∨ k.toInt = 14 ∨ k.toInt = 13)) ∨ ((1 : Int) = 0 ∧ ¬ (k.toInt = 61 ∨ k.toInt = 65 ∨ k.toInt = 63 ∨ k.toInt = 15 ∨ k.toInt = 30 ∨ k.toInt = 14 ∨ k.toInt = 13)); omega)⟩
            · refine am_e13f hi_56_33 (am_cF (m := k.toInt) (n := (14 : Int)) rfl (by decide) c6) ?_
              refine am_e1 (v := k) hi_56_36 rfl ?_
              refine am_e0 hi_56_37 ?_
              by_cases c7 : ¬ k.toInt = (13 : Int)
              · refine am_e13t hi_56_39 (am_cT (m := k.toInt) (n := (13 : Int)) rfl (by decide) c7) ?_
                refine am_e0 hi_56_46 ?_
                refine am_e36 hi_56_47 (by decide) ?_
                exact ⟨0, rfl, (by decide), rfl, (by show ((0 : Int) = 1 ∧ (k.toInt = 61 ∨ k.toInt = 65 ∨ k.toInt = 63 ∨ k.toInt = 15 ∨ k.toInt = 30 ∨ k.toInt = 14 ∨ k.toInt = 13)) ∨ ((0 : Int) = 0 ∧ ¬ (k.toInt = 61 ∨ k.toInt = 65 ∨ k.toInt = 63 ∨ k.toInt = 15 ∨ k.toInt = 30 ∨ k.toInt = 14 ∨ k.toInt = 13)); omega)⟩
              · refine am_e13f hi_56_39 (am_cF (m := k.toInt) (n := (13 : Int)) rfl (by decide) c7) ?_
                refine am_e0 hi_56_42 ?_
                refine am_e18 hi_56_43 ?_
                refine am_e36 hi_56_47 (by decide) ?_
                exact ⟨1, rfl, (by decide), rfl, (by show ((1 : Int) = 1 ∧ (k.toInt = 61 ∨ k.toInt = 65 ∨ k.toInt = 63 ∨ k.toInt = 15 ∨ k.toInt = 30 ∨ k.toInt = 14 ∨ k.toInt = 13)) ∨ ((1 : Int) = 0 ∧ ¬ (k.toInt = 61 ∨ k.toInt = 65 ∨ k.toInt = 63 ∨ k.toInt = 15 ∨ k.toInt = 30 ∨ k.toInt = 14 ∨ k.toInt = 13)); omega)⟩
theorem ck_opens {sc : Nat × (Nat → Int32)} {d aw : Nat} {S : am_S} {k : Int32} (h : SH aw S) : am_E (am_PP sc) (d + 0) 57 0 [some (.int k)] [] S (am_N fun v S1 => ∃ r : Int32, v = some (.int r) ∧ (r = 0 ∨ r = 1) ∧ S = S1 ∧ ((r.toInt = 1 ∧ (k.toInt = 60 ∨ k.toInt = 64 ∨ k.toInt = 62 ∨ k.toInt = 12 ∨ k.toInt = 28 ∨ k.toInt = 13 ∨ k.toInt = 26 ∨ k.toInt = 18)) ∨ (r.toInt = 0 ∧ ¬ (k.toInt = 60 ∨ k.toInt = 64 ∨ k.toInt = 62 ∨ k.toInt = 12 ∨ k.toInt = 28 ∨ k.toInt = 13 ∨ k.toInt = 26 ∨ k.toInt = 18)))) := by
  refine am_e1 (v := k) hi_57_0 rfl ?_
  refine am_e0 hi_57_1 ?_
  by_cases c1 : k.toInt = (60 : Int)
  · refine am_e13t hi_57_3 (am_cT (m := k.toInt) (n := (60 : Int)) rfl (by decide) c1) ?_
    refine am_e0 hi_57_48 ?_
    refine am_e18 hi_57_49 ?_
    refine am_e36 hi_57_53 (by decide) ?_
    exact ⟨1, rfl, (by decide), rfl, (by show ((1 : Int) = 1 ∧ (k.toInt = 60 ∨ k.toInt = 64 ∨ k.toInt = 62 ∨ k.toInt = 12 ∨ k.toInt = 28 ∨ k.toInt = 13 ∨ k.toInt = 26 ∨ k.toInt = 18)) ∨ ((1 : Int) = 0 ∧ ¬ (k.toInt = 60 ∨ k.toInt = 64 ∨ k.toInt = 62 ∨ k.toInt = 12 ∨ k.toInt = 28 ∨ k.toInt = 13 ∨ k.toInt = 26 ∨ k.toInt = 18)); omega)⟩
  · refine am_e13f hi_57_3 (am_cF (m := k.toInt) (n := (60 : Int)) rfl (by decide) c1) ?_
    refine am_e1 (v := k) hi_57_6 rfl ?_
    refine am_e0 hi_57_7 ?_
    by_cases c2 : k.toInt = (64 : Int)
    · refine am_e13t hi_57_9 (am_cT (m := k.toInt) (n := (64 : Int)) rfl (by decide) c2) ?_
      refine am_e0 hi_57_48 ?_
      refine am_e18 hi_57_49 ?_
      refine am_e36 hi_57_53 (by decide) ?_
      exact ⟨1, rfl, (by decide), rfl, (by show ((1 : Int) = 1 ∧ (k.toInt = 60 ∨ k.toInt = 64 ∨ k.toInt = 62 ∨ k.toInt = 12 ∨ k.toInt = 28 ∨ k.toInt = 13 ∨ k.toInt = 26 ∨ k.toInt = 18)) ∨ ((1 : Int) = 0 ∧ ¬ (k.toInt = 60 ∨ k.toInt = 64 ∨ k.toInt = 62 ∨ k.toInt = 12 ∨ k.toInt = 28 ∨ k.toInt = 13 ∨ k.toInt = 26 ∨ k.toInt = 18)); omega)⟩
    · refine am_e13f hi_57_9 (am_cF (m := k.toInt) (n := (64 : Int)) rfl (by decide) c2) ?_
      refine am_e1 (v := k) hi_57_12 rfl ?_
      refine am_e0 hi_57_13 ?_
      by_cases c3 : k.toInt = (62 : Int)
      · refine am_e13t hi_57_15 (am_cT (m := k.toInt) (n := (62 : Int)) rfl (by decide) c3) ?_
        refine am_e0 hi_57_48 ?_
        refine am_e18 hi_57_49 ?_
        refine am_e36 hi_57_53 (by decide) ?_
        exact ⟨1, rfl, (by decide), rfl, (by show ((1 : Int) = 1 ∧ (k.toInt = 60 ∨ k.toInt = 64 ∨ k.toInt = 62 ∨ k.toInt = 12 ∨ k.toInt = 28 ∨ k.toInt = 13 ∨ k.toInt = 26 ∨ k.toInt = 18)) ∨ ((1 : Int) = 0 ∧ ¬ (k.toInt = 60 ∨ k.toInt = 64 ∨ k.toInt = 62 ∨ k.toInt = 12 ∨ k.toInt = 28 ∨ k.toInt = 13 ∨ k.toInt = 26 ∨ k.toInt = 18)); omega)⟩
      · refine am_e13f hi_57_15 (am_cF (m := k.toInt) (n := (62 : Int)) rfl (by decide) c3) ?_
        refine am_e1 (v := k) hi_57_18 rfl ?_
        refine am_e0 hi_57_19 ?_
        by_cases c4 : k.toInt = (12 : Int)
        · refine am_e13t hi_57_21 (am_cT (m := k.toInt) (n := (12 : Int)) rfl (by decide) c4) ?_
          refine am_e0 hi_57_48 ?_
          refine am_e18 hi_57_49 ?_
          refine am_e36 hi_57_53 (by decide) ?_
          exact ⟨1, rfl, (by decide), rfl, (by show ((1 : Int) = 1 ∧ (k.toInt = 60 ∨ k.toInt = 64 ∨ k.toInt = 62 ∨ k.toInt = 12 ∨ k.toInt = 28 ∨ k.toInt = 13 ∨ k.toInt = 26 ∨ k.toInt = 18)) ∨ ((1 : Int) = 0 ∧ ¬ (k.toInt = 60 ∨ k.toInt = 64 ∨ k.toInt = 62 ∨ k.toInt = 12 ∨ k.toInt = 28 ∨ k.toInt = 13 ∨ k.toInt = 26 ∨ k.toInt = 18)); omega)⟩
        · refine am_e13f hi_57_21 (am_cF (m := k.toInt) (n := (12 : Int)) rfl (by decide) c4) ?_
          refine am_e1 (v := k) hi_57_24 rfl ?_
          refine am_e0 hi_57_25 ?_
          by_cases c5 : k.toInt = (28 : Int)
          · refine am_e13t hi_57_27 (am_cT (m := k.toInt) (n := (28 : Int)) rfl (by decide) c5) ?_
            refine am_e0 hi_57_48 ?_
            refine am_e18 hi_57_49 ?_
            refine am_e36 hi_57_53 (by decide) ?_
            exact ⟨1, rfl, (by decide), rfl, (by show ((1 : Int) = 1 ∧ (k.toInt = 60 ∨ k.toInt = 64 ∨ k.toInt = 62 ∨ k.toInt = 12 ∨ k.toInt = 28 ∨ k.toInt = 13 ∨ k.toInt = 26 ∨ k.toInt = 18)) ∨ ((1 : Int) = 0 ∧ ¬ (k.toInt = 60 ∨ k.toInt = 64 ∨ k.toInt = 62 ∨ k.toInt = 12 ∨ k.toInt = 28 ∨ k.toInt = 13 ∨ k.toInt = 26 ∨ k.toInt = 18)); omega)⟩
          · refine am_e13f hi_57_27 (am_cF (m := k.toInt) (n := (28 : Int)) rfl (by decide) c5) ?_
            refine am_e1 (v := k) hi_57_30 rfl ?_
            refine am_e0 hi_57_31 ?_
            by_cases c6 : k.toInt = (13 : Int)
            · refine am_e13t hi_57_33 (am_cT (m := k.toInt) (n := (13 : Int)) rfl (by decide) c6) ?_
              refine am_e0 hi_57_48 ?_
              refine am_e18 hi_57_49 ?_
              refine am_e36 hi_57_53 (by decide) ?_
              exact ⟨1, rfl, (by decide), rfl, (by show ((1 : Int) = 1 ∧ (k.toInt = 60 ∨ k.toInt = 64 ∨ k.toInt = 62 ∨ k.toInt = 12 ∨ k.toInt = 28 ∨ k.toInt = 13 ∨ k.toInt = 26 ∨ k.toInt = 18)) ∨ ((1 : Int) = 0 ∧ ¬ (k.toInt = 60 ∨ k.toInt = 64 ∨ k.toInt = 62 ∨ k.toInt = 12 ∨ k.toInt = 28 ∨ k.toInt = 13 ∨ k.toInt = 26 ∨ k.toInt = 18)); omega)⟩
            · refine am_e13f hi_57_33 (am_cF (m := k.toInt) (n := (13 : Int)) rfl (by decide) c6) ?_
              refine am_e1 (v := k) hi_57_36 rfl ?_
              refine am_e0 hi_57_37 ?_
              by_cases c7 : k.toInt = (26 : Int)
              · refine am_e13t hi_57_39 (am_cT (m := k.toInt) (n := (26 : Int)) rfl (by decide) c7) ?_
                refine am_e0 hi_57_48 ?_
                refine am_e18 hi_57_49 ?_
                refine am_e36 hi_57_53 (by decide) ?_
                exact ⟨1, rfl, (by decide), rfl, (by show ((1 : Int) = 1 ∧ (k.toInt = 60 ∨ k.toInt = 64 ∨ k.toInt = 62 ∨ k.toInt = 12 ∨ k.toInt = 28 ∨ k.toInt = 13 ∨ k.toInt = 26 ∨ k.toInt = 18)) ∨ ((1 : Int) = 0 ∧ ¬ (k.toInt = 60 ∨ k.toInt = 64 ∨ k.toInt = 62 ∨ k.toInt = 12 ∨ k.toInt = 28 ∨ k.toInt = 13 ∨ k.toInt = 26 ∨ k.toInt = 18)); omega)⟩
              · refine am_e13f hi_57_39 (am_cF (m := k.toInt) (n := (26 : Int)) rfl (by decide) c7) ?_
                refine am_e1 (v := k) hi_57_42 rfl ?_
                refine am_e0 hi_57_43 ?_
                by_cases c8 : ¬ k.toInt = (18 : Int)
                · refine am_e13t hi_57_45 (am_cT (m := k.toInt) (n := (18 : Int)) rfl (by decide) c8) ?_
                  refine am_e0 hi_57_52 ?_
                  refine am_e36 hi_57_53 (by decide) ?_
                  exact ⟨0, rfl, (by decide), rfl, (by show ((0 : Int) = 1 ∧ (k.toInt = 60 ∨ k.toInt = 64 ∨ k.toInt = 62 ∨ k.toInt = 12 ∨ k.toInt = 28 ∨ k.toInt = 13 ∨ k.toInt = 26 ∨ k.toInt = 18)) ∨ ((0 : Int) = 0 ∧ ¬ (k.toInt = 60 ∨ k.toInt = 64 ∨ k.toInt = 62 ∨ k.toInt = 12 ∨ k.toInt = 28 ∨ k.toInt = 13 ∨ k.toInt = 26 ∨ k.toInt = 18)); omega)⟩
                · refine am_e13f hi_57_45 (am_cF (m := k.toInt) (n := (18 : Int)) rfl (by decide) c8) ?_
                  refine am_e0 hi_57_48 ?_
                  refine am_e18 hi_57_49 ?_
                  refine am_e36 hi_57_53 (by decide) ?_
                  exact ⟨1, rfl, (by decide), rfl, (by show ((1 : Int) = 1 ∧ (k.toInt = 60 ∨ k.toInt = 64 ∨ k.toInt = 62 ∨ k.toInt = 12 ∨ k.toInt = 28 ∨ k.toInt = 13 ∨ k.toInt = 26 ∨ k.toInt = 18)) ∨ ((1 : Int) = 0 ∧ ¬ (k.toInt = 60 ∨ k.toInt = 64 ∨ k.toInt = 62 ∨ k.toInt = 12 ∨ k.toInt = 28 ∨ k.toInt = 13 ∨ k.toInt = 26 ∨ k.toInt = 18)); omega)⟩
theorem ck_ends {sc : Nat × (Nat → Int32)} {d aw : Nat} {S : am_S} {k : Int32} (h : SH aw S) : am_E (am_PP sc) (d + 0) 121 0 [some (.int k)] [] S (am_N fun v S1 => ∃ r : Int32, v = some (.int r) ∧ (r = 0 ∨ r = 1) ∧ S = S1 ∧ ((r.toInt = 1 ∧ (k.toInt = 0 ∨ k.toInt = 15 ∨ k.toInt = 13 ∨ k.toInt = 14 ∨ k.toInt = 30)) ∨ (r.toInt = 0 ∧ ¬ (k.toInt = 0 ∨ k.toInt = 15 ∨ k.toInt = 13 ∨ k.toInt = 14 ∨ k.toInt = 30)))) := by
  refine am_e1 (v := k) hi_121_0 rfl ?_
  by_cases c1 : k.toInt = (0 : Int)
  · refine am_e12t hi_121_1 (am_cT (m := k.toInt) (n := (0 : Int)) rfl (by decide) c1) ?_
    refine am_e0 hi_121_28 ?_
    refine am_e18 hi_121_29 ?_
    refine am_e36 hi_121_33 (by decide) ?_
    exact ⟨1, rfl, (by decide), rfl, (by show ((1 : Int) = 1 ∧ (k.toInt = 0 ∨ k.toInt = 15 ∨ k.toInt = 13 ∨ k.toInt = 14 ∨ k.toInt = 30)) ∨ ((1 : Int) = 0 ∧ ¬ (k.toInt = 0 ∨ k.toInt = 15 ∨ k.toInt = 13 ∨ k.toInt = 14 ∨ k.toInt = 30)); omega)⟩
  · refine am_e12f hi_121_1 (am_cF (m := k.toInt) (n := (0 : Int)) rfl (by decide) c1) ?_
    refine am_e1 (v := k) hi_121_4 rfl ?_
    refine am_e0 hi_121_5 ?_
    by_cases c2 : k.toInt = (15 : Int)
    · refine am_e13t hi_121_7 (am_cT (m := k.toInt) (n := (15 : Int)) rfl (by decide) c2) ?_
      refine am_e0 hi_121_28 ?_
      refine am_e18 hi_121_29 ?_
      refine am_e36 hi_121_33 (by decide) ?_
      exact ⟨1, rfl, (by decide), rfl, (by show ((1 : Int) = 1 ∧ (k.toInt = 0 ∨ k.toInt = 15 ∨ k.toInt = 13 ∨ k.toInt = 14 ∨ k.toInt = 30)) ∨ ((1 : Int) = 0 ∧ ¬ (k.toInt = 0 ∨ k.toInt = 15 ∨ k.toInt = 13 ∨ k.toInt = 14 ∨ k.toInt = 30)); omega)⟩
    · refine am_e13f hi_121_7 (am_cF (m := k.toInt) (n := (15 : Int)) rfl (by decide) c2) ?_
      refine am_e1 (v := k) hi_121_10 rfl ?_
      refine am_e0 hi_121_11 ?_
      by_cases c3 : k.toInt = (13 : Int)
      · refine am_e13t hi_121_13 (am_cT (m := k.toInt) (n := (13 : Int)) rfl (by decide) c3) ?_
        refine am_e0 hi_121_28 ?_
        refine am_e18 hi_121_29 ?_
        refine am_e36 hi_121_33 (by decide) ?_
        exact ⟨1, rfl, (by decide), rfl, (by show ((1 : Int) = 1 ∧ (k.toInt = 0 ∨ k.toInt = 15 ∨ k.toInt = 13 ∨ k.toInt = 14 ∨ k.toInt = 30)) ∨ ((1 : Int) = 0 ∧ ¬ (k.toInt = 0 ∨ k.toInt = 15 ∨ k.toInt = 13 ∨ k.toInt = 14 ∨ k.toInt = 30)); omega)⟩
      · refine am_e13f hi_121_13 (am_cF (m := k.toInt) (n := (13 : Int)) rfl (by decide) c3) ?_
        refine am_e1 (v := k) hi_121_16 rfl ?_
        refine am_e0 hi_121_17 ?_
        by_cases c4 : k.toInt = (14 : Int)
        · refine am_e13t hi_121_19 (am_cT (m := k.toInt) (n := (14 : Int)) rfl (by decide) c4) ?_
          refine am_e0 hi_121_28 ?_
          refine am_e18 hi_121_29 ?_
          refine am_e36 hi_121_33 (by decide) ?_
          exact ⟨1, rfl, (by decide), rfl, (by show ((1 : Int) = 1 ∧ (k.toInt = 0 ∨ k.toInt = 15 ∨ k.toInt = 13 ∨ k.toInt = 14 ∨ k.toInt = 30)) ∨ ((1 : Int) = 0 ∧ ¬ (k.toInt = 0 ∨ k.toInt = 15 ∨ k.toInt = 13 ∨ k.toInt = 14 ∨ k.toInt = 30)); omega)⟩
        · refine am_e13f hi_121_19 (am_cF (m := k.toInt) (n := (14 : Int)) rfl (by decide) c4) ?_
          refine am_e1 (v := k) hi_121_22 rfl ?_
          refine am_e0 hi_121_23 ?_
          by_cases c5 : ¬ k.toInt = (30 : Int)
          · refine am_e13t hi_121_25 (am_cT (m := k.toInt) (n := (30 : Int)) rfl (by decide) c5) ?_
            refine am_e0 hi_121_32 ?_
            refine am_e36 hi_121_33 (by decide) ?_
            exact ⟨0, rfl, (by decide), rfl, (by show ((0 : Int) = 1 ∧ (k.toInt = 0 ∨ k.toInt = 15 ∨ k.toInt = 13 ∨ k.toInt = 14 ∨ k.toInt = 30)) ∨ ((0 : Int) = 0 ∧ ¬ (k.toInt = 0 ∨ k.toInt = 15 ∨ k.toInt = 13 ∨ k.toInt = 14 ∨ k.toInt = 30)); omega)⟩
          · refine am_e13f hi_121_25 (am_cF (m := k.toInt) (n := (30 : Int)) rfl (by decide) c5) ?_
            refine am_e0 hi_121_28 ?_
            refine am_e18 hi_121_29 ?_
            refine am_e36 hi_121_33 (by decide) ?_
            exact ⟨1, rfl, (by decide), rfl, (by show ((1 : Int) = 1 ∧ (k.toInt = 0 ∨ k.toInt = 15 ∨ k.toInt = 13 ∨ k.toInt = 14 ∨ k.toInt = 30)) ∨ ((1 : Int) = 0 ∧ ¬ (k.toInt = 0 ∨ k.toInt = 15 ∨ k.toInt = 13 ∨ k.toInt = 14 ∨ k.toInt = 30)); omega)⟩
theorem ck_unary {sc : Nat × (Nat → Int32)} {d aw : Nat} {S : am_S} {k : Int32} (h : SH aw S) : am_E (am_PP sc) (d + 0) 72 0 [some (.int k)] [] S (am_N fun v S1 => ∃ r : Int32, v = some (.int r) ∧ (r = 0 ∨ r = 1) ∧ S = S1 ∧ ((r.toInt = 1 ∧ (k.toInt = 24 ∨ k.toInt = 46 ∨ k.toInt = 41 ∨ k.toInt = 48)) ∨ (r.toInt = 0 ∧ ¬ (k.toInt = 24 ∨ k.toInt = 46 ∨ k.toInt = 41 ∨ k.toInt = 48)))) := by
  refine am_e1 (v := k) hi_72_0 rfl ?_
  refine am_e0 hi_72_1 ?_
  by_cases c1 : k.toInt = (24 : Int)
  · refine am_e13t hi_72_3 (am_cT (m := k.toInt) (n := (24 : Int)) rfl (by decide) c1) ?_
    refine am_e0 hi_72_24 ?_
    refine am_e18 hi_72_25 ?_
    refine am_e36 hi_72_29 (by decide) ?_
    exact ⟨1, rfl, (by decide), rfl, (by show ((1 : Int) = 1 ∧ (k.toInt = 24 ∨ k.toInt = 46 ∨ k.toInt = 41 ∨ k.toInt = 48)) ∨ ((1 : Int) = 0 ∧ ¬ (k.toInt = 24 ∨ k.toInt = 46 ∨ k.toInt = 41 ∨ k.toInt = 48)); omega)⟩
  · refine am_e13f hi_72_3 (am_cF (m := k.toInt) (n := (24 : Int)) rfl (by decide) c1) ?_
    refine am_e1 (v := k) hi_72_6 rfl ?_
    refine am_e0 hi_72_7 ?_
    by_cases c2 : k.toInt = (46 : Int)
    · refine am_e13t hi_72_9 (am_cT (m := k.toInt) (n := (46 : Int)) rfl (by decide) c2) ?_
      refine am_e0 hi_72_24 ?_
      refine am_e18 hi_72_25 ?_
      refine am_e36 hi_72_29 (by decide) ?_
      exact ⟨1, rfl, (by decide), rfl, (by show ((1 : Int) = 1 ∧ (k.toInt = 24 ∨ k.toInt = 46 ∨ k.toInt = 41 ∨ k.toInt = 48)) ∨ ((1 : Int) = 0 ∧ ¬ (k.toInt = 24 ∨ k.toInt = 46 ∨ k.toInt = 41 ∨ k.toInt = 48)); omega)⟩
    · refine am_e13f hi_72_9 (am_cF (m := k.toInt) (n := (46 : Int)) rfl (by decide) c2) ?_
      refine am_e1 (v := k) hi_72_12 rfl ?_
      refine am_e0 hi_72_13 ?_
      by_cases c3 : k.toInt = (41 : Int)
      · refine am_e13t hi_72_15 (am_cT (m := k.toInt) (n := (41 : Int)) rfl (by decide) c3) ?_
        refine am_e0 hi_72_24 ?_
        refine am_e18 hi_72_25 ?_
        refine am_e36 hi_72_29 (by decide) ?_
        exact ⟨1, rfl, (by decide), rfl, (by show ((1 : Int) = 1 ∧ (k.toInt = 24 ∨ k.toInt = 46 ∨ k.toInt = 41 ∨ k.toInt = 48)) ∨ ((1 : Int) = 0 ∧ ¬ (k.toInt = 24 ∨ k.toInt = 46 ∨ k.toInt = 41 ∨ k.toInt = 48)); omega)⟩
      · refine am_e13f hi_72_15 (am_cF (m := k.toInt) (n := (41 : Int)) rfl (by decide) c3) ?_
        refine am_e1 (v := k) hi_72_18 rfl ?_
        refine am_e0 hi_72_19 ?_
        by_cases c4 : ¬ k.toInt = (48 : Int)
        · refine am_e13t hi_72_21 (am_cT (m := k.toInt) (n := (48 : Int)) rfl (by decide) c4) ?_
          refine am_e0 hi_72_28 ?_
          refine am_e36 hi_72_29 (by decide) ?_
          exact ⟨0, rfl, (by decide), rfl, (by show ((0 : Int) = 1 ∧ (k.toInt = 24 ∨ k.toInt = 46 ∨ k.toInt = 41 ∨ k.toInt = 48)) ∨ ((0 : Int) = 0 ∧ ¬ (k.toInt = 24 ∨ k.toInt = 46 ∨ k.toInt = 41 ∨ k.toInt = 48)); omega)⟩
        · refine am_e13f hi_72_21 (am_cF (m := k.toInt) (n := (48 : Int)) rfl (by decide) c4) ?_
          refine am_e0 hi_72_24 ?_
          refine am_e18 hi_72_25 ?_
          refine am_e36 hi_72_29 (by decide) ?_
          exact ⟨1, rfl, (by decide), rfl, (by show ((1 : Int) = 1 ∧ (k.toInt = 24 ∨ k.toInt = 46 ∨ k.toInt = 41 ∨ k.toInt = 48)) ∨ ((1 : Int) = 0 ∧ ¬ (k.toInt = 24 ∨ k.toInt = 46 ∨ k.toInt = 41 ∨ k.toInt = 48)); omega)⟩
theorem ck_right {sc : Nat × (Nat → Int32)} {d aw : Nat} {S : am_S} {k : Int32} (h : SH aw S) : am_E (am_PP sc) (d + 0) 107 0 [some (.int k)] [] S (am_N fun v S1 => ∃ r : Int32, v = some (.int r) ∧ (r = 0 ∨ r = 1) ∧ S = S1) := by
  refine am_e1 (v := k) hi_107_0 rfl ?_
  refine am_e0 hi_107_1 ?_
  by_cases c1 : k.toInt = (71 : Int)
  · refine am_e13t hi_107_3 (am_cT (m := k.toInt) (n := (71 : Int)) rfl (by decide) c1) ?_
    refine am_e0 hi_107_12 ?_
    refine am_e18 hi_107_13 ?_
    refine am_e36 hi_107_17 (by decide) ?_
    exact ⟨1, rfl, (by decide), rfl⟩
  · refine am_e13f hi_107_3 (am_cF (m := k.toInt) (n := (71 : Int)) rfl (by decide) c1) ?_
    refine am_e1 (v := k) hi_107_6 rfl ?_
    refine am_e0 hi_107_7 ?_
    by_cases c2 : ¬ k.toInt = (45 : Int)
    · refine am_e13t hi_107_9 (am_cT (m := k.toInt) (n := (45 : Int)) rfl (by decide) c2) ?_
      refine am_e0 hi_107_16 ?_
      refine am_e36 hi_107_17 (by decide) ?_
      exact ⟨0, rfl, (by decide), rfl⟩
    · refine am_e13f hi_107_9 (am_cF (m := k.toInt) (n := (45 : Int)) rfl (by decide) c2) ?_
      refine am_e0 hi_107_12 ?_
      refine am_e18 hi_107_13 ?_
      refine am_e36 hi_107_17 (by decide) ?_
      exact ⟨1, rfl, (by decide), rfl⟩
theorem ck_sep {sc : Nat × (Nat → Int32)} {d aw : Nat} {S : am_S} {k : Int32} (h : SH aw S) : am_E (am_PP sc) (d + 0) 95 0 [some (.int k)] [] S (am_N fun v S1 => ∃ r : Int32, v = some (.int r) ∧ (r = 0 ∨ r = 1) ∧ S = S1 ∧ ((r.toInt = 1 ∧ (k.toInt = 69 ∨ k.toInt = 67)) ∨ (r.toInt = 0 ∧ ¬ (k.toInt = 69 ∨ k.toInt = 67)))) := by
  refine am_e1 (v := k) hi_95_0 rfl ?_
  refine am_e0 hi_95_1 ?_
  by_cases c1 : k.toInt = (69 : Int)
  · refine am_e13t hi_95_3 (am_cT (m := k.toInt) (n := (69 : Int)) rfl (by decide) c1) ?_
    refine am_e0 hi_95_12 ?_
    refine am_e18 hi_95_13 ?_
    refine am_e36 hi_95_17 (by decide) ?_
    exact ⟨1, rfl, (by decide), rfl, (by show ((1 : Int) = 1 ∧ (k.toInt = 69 ∨ k.toInt = 67)) ∨ ((1 : Int) = 0 ∧ ¬ (k.toInt = 69 ∨ k.toInt = 67)); omega)⟩
  · refine am_e13f hi_95_3 (am_cF (m := k.toInt) (n := (69 : Int)) rfl (by decide) c1) ?_
    refine am_e1 (v := k) hi_95_6 rfl ?_
    refine am_e0 hi_95_7 ?_
    by_cases c2 : ¬ k.toInt = (67 : Int)
    · refine am_e13t hi_95_9 (am_cT (m := k.toInt) (n := (67 : Int)) rfl (by decide) c2) ?_
      refine am_e0 hi_95_16 ?_
      refine am_e36 hi_95_17 (by decide) ?_
      exact ⟨0, rfl, (by decide), rfl, (by show ((0 : Int) = 1 ∧ (k.toInt = 69 ∨ k.toInt = 67)) ∨ ((0 : Int) = 0 ∧ ¬ (k.toInt = 69 ∨ k.toInt = 67)); omega)⟩
    · refine am_e13f hi_95_9 (am_cF (m := k.toInt) (n := (67 : Int)) rfl (by decide) c2) ?_
      refine am_e0 hi_95_12 ?_
      refine am_e18 hi_95_13 ?_
      refine am_e36 hi_95_17 (by decide) ?_
      exact ⟨1, rfl, (by decide), rfl, (by show ((1 : Int) = 1 ∧ (k.toInt = 69 ∨ k.toInt = 67)) ∨ ((1 : Int) = 0 ∧ ¬ (k.toInt = 69 ∨ k.toInt = 67)); omega)⟩
theorem ck_rank {sc : Nat × (Nat → Int32)} {d aw : Nat} {S : am_S} {k : Int32} (h : SH aw S) : am_E (am_PP sc) (d + 0) 106 0 [some (.int k)] [] S (am_N fun v S1 => ∃ r : Int32, v = some (.int r) ∧ S = S1 ∧ (r.toInt = 0 ∨ (k.toInt = 25 ∨ k.toInt = 10 ∨ (40 ≤ k.toInt ∧ k.toInt ≤ 45) ∨ (47 ≤ k.toInt ∧ k.toInt ≤ 58) ∨ k.toInt = 71))) := by
  refine am_e1 (v := k) hi_106_0 rfl ?_
  by_cases c1 : k.toInt = 10
  · refine am_e19 (t := 266) hi_106_1 (am_swI (v := k) (w := 10) (by decide) (by decide) c1) ?_
    refine am_e0 hi_106_266 ?_
    refine am_e33 hi_106_267 ?_
    exact ⟨2, rfl, rfl, (by show (2 : Int) = 0 ∨ (k.toInt = 25 ∨ k.toInt = 10 ∨ (40 ≤ k.toInt ∧ k.toInt ≤ 45) ∨ (47 ≤ k.toInt ∧ k.toInt ≤ 58) ∨ k.toInt = 71); omega)⟩
  · have c1_ : True := trivial
    by_cases c2 : k.toInt = 25
    · refine am_e19 (t := 264) hi_106_1 (am_swI (v := k) (w := 25) (by decide) (by decide) c2) ?_
      refine am_e0 hi_106_264 ?_
      refine am_e33 hi_106_265 ?_
      exact ⟨1, rfl, rfl, (by show (1 : Int) = 0 ∨ (k.toInt = 25 ∨ k.toInt = 10 ∨ (40 ≤ k.toInt ∧ k.toInt ≤ 45) ∨ (47 ≤ k.toInt ∧ k.toInt ≤ 58) ∨ k.toInt = 71); omega)⟩
    · have c2_ : True := trivial
      by_cases c3 : k.toInt = 40
      · refine am_e19 (t := 283) hi_106_1 (am_swI (v := k) (w := 40) (by decide) (by decide) c3) ?_
        refine am_e0 hi_106_283 ?_
        refine am_e33 hi_106_285 ?_
        exact ⟨9, rfl, rfl, (by show (9 : Int) = 0 ∨ (k.toInt = 25 ∨ k.toInt = 10 ∨ (40 ≤ k.toInt ∧ k.toInt ≤ 45) ∨ (47 ≤ k.toInt ∧ k.toInt ≤ 58) ∨ k.toInt = 71); omega)⟩
      · have c3_ : True := trivial
        by_cases c4 : k.toInt = 41
        · refine am_e19 (t := 283) hi_106_1 (am_swI (v := k) (w := 41) (by decide) (by decide) c4) ?_
          refine am_e0 hi_106_283 ?_
          refine am_e33 hi_106_285 ?_
          exact ⟨9, rfl, rfl, (by show (9 : Int) = 0 ∨ (k.toInt = 25 ∨ k.toInt = 10 ∨ (40 ≤ k.toInt ∧ k.toInt ≤ 45) ∨ (47 ≤ k.toInt ∧ k.toInt ≤ 58) ∨ k.toInt = 71); omega)⟩
        · have c4_ : True := trivial
          by_cases c5 : k.toInt = 42
          · refine am_e19 (t := 286) hi_106_1 (am_swI (v := k) (w := 42) (by decide) (by decide) c5) ?_
            refine am_e0 hi_106_286 ?_
            refine am_e33 hi_106_288 ?_
            exact ⟨10, rfl, rfl, (by show (10 : Int) = 0 ∨ (k.toInt = 25 ∨ k.toInt = 10 ∨ (40 ≤ k.toInt ∧ k.toInt ≤ 45) ∨ (47 ≤ k.toInt ∧ k.toInt ≤ 58) ∨ k.toInt = 71); omega)⟩
          · have c5_ : True := trivial
            by_cases c6 : k.toInt = 43
            · refine am_e19 (t := 286) hi_106_1 (am_swI (v := k) (w := 43) (by decide) (by decide) c6) ?_
              refine am_e0 hi_106_286 ?_
              refine am_e33 hi_106_288 ?_
              exact ⟨10, rfl, rfl, (by show (10 : Int) = 0 ∨ (k.toInt = 25 ∨ k.toInt = 10 ∨ (40 ≤ k.toInt ∧ k.toInt ≤ 45) ∨ (47 ≤ k.toInt ∧ k.toInt ≤ 58) ∨ k.toInt = 71); omega)⟩
            · have c6_ : True := trivial
              by_cases c7 : k.toInt = 44
              · refine am_e19 (t := 286) hi_106_1 (am_swI (v := k) (w := 44) (by decide) (by decide) c7) ?_
                refine am_e0 hi_106_286 ?_
                refine am_e33 hi_106_288 ?_
                exact ⟨10, rfl, rfl, (by show (10 : Int) = 0 ∨ (k.toInt = 25 ∨ k.toInt = 10 ∨ (40 ≤ k.toInt ∧ k.toInt ≤ 45) ∨ (47 ≤ k.toInt ∧ k.toInt ≤ 58) ∨ k.toInt = 71); omega)⟩
              · have c7_ : True := trivial
                by_cases c8 : k.toInt = 45
                · refine am_e19 (t := 289) hi_106_1 (am_swI (v := k) (w := 45) (by decide) (by decide) c8) ?_
                  refine am_e0 hi_106_289 ?_
                  refine am_e33 hi_106_291 ?_
                  exact ⟨12, rfl, rfl, (by show (12 : Int) = 0 ∨ (k.toInt = 25 ∨ k.toInt = 10 ∨ (40 ≤ k.toInt ∧ k.toInt ≤ 45) ∨ (47 ≤ k.toInt ∧ k.toInt ≤ 58) ∨ k.toInt = 71); omega)⟩
                · have c8_ : True := trivial
                  by_cases c9 : k.toInt = 47
                  · refine am_e19 (t := 274) hi_106_1 (am_swI (v := k) (w := 47) (by decide) (by decide) c9) ?_
                    refine am_e0 hi_106_274 ?_
                    refine am_e33 hi_106_276 ?_
                    exact ⟨6, rfl, rfl, (by show (6 : Int) = 0 ∨ (k.toInt = 25 ∨ k.toInt = 10 ∨ (40 ≤ k.toInt ∧ k.toInt ≤ 45) ∨ (47 ≤ k.toInt ∧ k.toInt ≤ 58) ∨ k.toInt = 71); omega)⟩
                  · have c9_ : True := trivial
                    by_cases c10 : k.toInt = 48
                    · refine am_e19 (t := 272) hi_106_1 (am_swI (v := k) (w := 48) (by decide) (by decide) c10) ?_
                      refine am_e0 hi_106_272 ?_
                      refine am_e33 hi_106_273 ?_
                      exact ⟨5, rfl, rfl, (by show (5 : Int) = 0 ∨ (k.toInt = 25 ∨ k.toInt = 10 ∨ (40 ≤ k.toInt ∧ k.toInt ≤ 45) ∨ (47 ≤ k.toInt ∧ k.toInt ≤ 58) ∨ k.toInt = 71); omega)⟩
                    · have c10_ : True := trivial
                      by_cases c11 : k.toInt = 49
                      · refine am_e19 (t := 270) hi_106_1 (am_swI (v := k) (w := 49) (by decide) (by decide) c11) ?_
                        refine am_e0 hi_106_270 ?_
                        refine am_e33 hi_106_271 ?_
                        exact ⟨4, rfl, rfl, (by show (4 : Int) = 0 ∨ (k.toInt = 25 ∨ k.toInt = 10 ∨ (40 ≤ k.toInt ∧ k.toInt ≤ 45) ∨ (47 ≤ k.toInt ∧ k.toInt ≤ 58) ∨ k.toInt = 71); omega)⟩
                      · have c11_ : True := trivial
                        by_cases c12 : k.toInt = 50
                        · refine am_e19 (t := 277) hi_106_1 (am_swI (v := k) (w := 50) (by decide) (by decide) c12) ?_
                          refine am_e0 hi_106_277 ?_
                          refine am_e33 hi_106_279 ?_
                          exact ⟨7, rfl, rfl, (by show (7 : Int) = 0 ∨ (k.toInt = 25 ∨ k.toInt = 10 ∨ (40 ≤ k.toInt ∧ k.toInt ≤ 45) ∨ (47 ≤ k.toInt ∧ k.toInt ≤ 58) ∨ k.toInt = 71); omega)⟩
                        · have c12_ : True := trivial
                          by_cases c13 : k.toInt = 51
                          · refine am_e19 (t := 277) hi_106_1 (am_swI (v := k) (w := 51) (by decide) (by decide) c13) ?_
                            refine am_e0 hi_106_277 ?_
                            refine am_e33 hi_106_279 ?_
                            exact ⟨7, rfl, rfl, (by show (7 : Int) = 0 ∨ (k.toInt = 25 ∨ k.toInt = 10 ∨ (40 ≤ k.toInt ∧ k.toInt ≤ 45) ∨ (47 ≤ k.toInt ∧ k.toInt ≤ 58) ∨ k.toInt = 71); omega)⟩
                          · have c13_ : True := trivial
                            by_cases c14 : k.toInt = 52
                            · refine am_e19 (t := 286) hi_106_1 (am_swI (v := k) (w := 52) (by decide) (by decide) c14) ?_
                              refine am_e0 hi_106_286 ?_
                              refine am_e33 hi_106_288 ?_
                              exact ⟨10, rfl, rfl, (by show (10 : Int) = 0 ∨ (k.toInt = 25 ∨ k.toInt = 10 ∨ (40 ≤ k.toInt ∧ k.toInt ≤ 45) ∨ (47 ≤ k.toInt ∧ k.toInt ≤ 58) ∨ k.toInt = 71); omega)⟩
                            · have c14_ : True := trivial
                              by_cases c15 : k.toInt = 53
                              · refine am_e19 (t := 268) hi_106_1 (am_swI (v := k) (w := 53) (by decide) (by decide) c15) ?_
                                refine am_e0 hi_106_268 ?_
                                refine am_e33 hi_106_269 ?_
                                exact ⟨3, rfl, rfl, (by show (3 : Int) = 0 ∨ (k.toInt = 25 ∨ k.toInt = 10 ∨ (40 ≤ k.toInt ∧ k.toInt ≤ 45) ∨ (47 ≤ k.toInt ∧ k.toInt ≤ 58) ∨ k.toInt = 71); omega)⟩
                              · have c15_ : True := trivial
                                by_cases c16 : k.toInt = 54
                                · refine am_e19 (t := 268) hi_106_1 (am_swI (v := k) (w := 54) (by decide) (by decide) c16) ?_
                                  refine am_e0 hi_106_268 ?_
                                  refine am_e33 hi_106_269 ?_
                                  exact ⟨3, rfl, rfl, (by show (3 : Int) = 0 ∨ (k.toInt = 25 ∨ k.toInt = 10 ∨ (40 ≤ k.toInt ∧ k.toInt ≤ 45) ∨ (47 ≤ k.toInt ∧ k.toInt ≤ 58) ∨ k.toInt = 71); omega)⟩
                                · have c16_ : True := trivial
                                  by_cases c17 : k.toInt = 55
                                  · refine am_e19 (t := 268) hi_106_1 (am_swI (v := k) (w := 55) (by decide) (by decide) c17) ?_
                                    refine am_e0 hi_106_268 ?_
                                    refine am_e33 hi_106_269 ?_
                                    exact ⟨3, rfl, rfl, (by show (3 : Int) = 0 ∨ (k.toInt = 25 ∨ k.toInt = 10 ∨ (40 ≤ k.toInt ∧ k.toInt ≤ 45) ∨ (47 ≤ k.toInt ∧ k.toInt ≤ 58) ∨ k.toInt = 71); omega)⟩
                                  · have c17_ : True := trivial
                                    by_cases c18 : k.toInt = 56
                                    · refine am_e19 (t := 268) hi_106_1 (am_swI (v := k) (w := 56) (by decide) (by decide) c18) ?_
                                      refine am_e0 hi_106_268 ?_
                                      refine am_e33 hi_106_269 ?_
                                      exact ⟨3, rfl, rfl, (by show (3 : Int) = 0 ∨ (k.toInt = 25 ∨ k.toInt = 10 ∨ (40 ≤ k.toInt ∧ k.toInt ≤ 45) ∨ (47 ≤ k.toInt ∧ k.toInt ≤ 58) ∨ k.toInt = 71); omega)⟩
                                    · have c18_ : True := trivial
                                      by_cases c19 : k.toInt = 57
                                      · refine am_e19 (t := 268) hi_106_1 (am_swI (v := k) (w := 57) (by decide) (by decide) c19) ?_
                                        refine am_e0 hi_106_268 ?_
                                        refine am_e33 hi_106_269 ?_
                                        exact ⟨3, rfl, rfl, (by show (3 : Int) = 0 ∨ (k.toInt = 25 ∨ k.toInt = 10 ∨ (40 ≤ k.toInt ∧ k.toInt ≤ 45) ∨ (47 ≤ k.toInt ∧ k.toInt ≤ 58) ∨ k.toInt = 71); omega)⟩
                                      · have c19_ : True := trivial
                                        by_cases c20 : k.toInt = 58
                                        · refine am_e19 (t := 268) hi_106_1 (am_swI (v := k) (w := 58) (by decide) (by decide) c20) ?_
                                          refine am_e0 hi_106_268 ?_
                                          refine am_e33 hi_106_269 ?_
                                          exact ⟨3, rfl, rfl, (by show (3 : Int) = 0 ∨ (k.toInt = 25 ∨ k.toInt = 10 ∨ (40 ≤ k.toInt ∧ k.toInt ≤ 45) ∨ (47 ≤ k.toInt ∧ k.toInt ≤ 58) ∨ k.toInt = 71); omega)⟩
                                        · have c20_ : True := trivial
                                          by_cases c21 : k.toInt = 71
                                          · refine am_e19 (t := 280) hi_106_1 (am_swI (v := k) (w := 71) (by decide) (by decide) c21) ?_
                                            refine am_e0 hi_106_280 ?_
                                            refine am_e33 hi_106_282 ?_
                                            exact ⟨8, rfl, rfl, (by show (8 : Int) = 0 ∨ (k.toInt = 25 ∨ k.toInt = 10 ∨ (40 ≤ k.toInt ∧ k.toInt ≤ 45) ∨ (47 ≤ k.toInt ∧ k.toInt ≤ 58) ∨ k.toInt = 71); omega)⟩
                                          · have c21_ : True := trivial
                                            refine am_e19 (t := 292) hi_106_1 (am_swD (v := k) (ks := [10, 25, 40, 41, 42, 43, 44, 45, 47, 48, 49, 50, 51, 52, 53, 54, 55, 56, 57, 58, 71]) (by decide) (by intro k hk; simp only [List.mem_cons, List.not_mem_nil, or_false] at hk; rcases hk with rfl | rfl | rfl | rfl | rfl | rfl | rfl | rfl | rfl | rfl | rfl | rfl | rfl | rfl | rfl | rfl | rfl | rfl | rfl | rfl | rfl <;> omega)) ?_
                                            refine am_e0 hi_106_292 ?_
                                            refine am_e33 hi_106_293 ?_
                                            exact ⟨0, rfl, rfl, (by show (0 : Int) = 0 ∨ (k.toInt = 25 ∨ k.toInt = 10 ∨ (40 ≤ k.toInt ∧ k.toInt ≤ 45) ∨ (47 ≤ k.toInt ∧ k.toInt ≤ 58) ∨ k.toInt = 71); omega)⟩
theorem ck_setting {sc : Nat × (Nat → Int32)} {d aw : Nat} {S : am_S} {k : Int32} (h : SH aw S) : am_E (am_PP sc) (d + 0) 116 0 [some (.int k)] [] S (am_N fun v S1 => ∃ r : Int32, v = some (.int r) ∧ S = S1) := by
  refine am_e1 (v := k) hi_116_0 rfl ?_
  refine am_e0 hi_116_1 ?_
  obtain ⟨z1, hz1⟩ : ∃ q__, am_bin 1 k 8 = q__ := ⟨_, rfl⟩
  refine am_e10 (z := z1) hi_116_3 hz1 ?_
  refine am_e0 hi_116_4 ?_
  obtain ⟨z2, hz2⟩ : ∃ q__, am_bin 0 z1 29 = q__ := ⟨_, rfl⟩
  refine am_e10 (z := z2) hi_116_6 hz2 ?_
  refine am_e33 hi_116_7 ?_
  exact ⟨z2, rfl, rfl⟩
theorem ck_note {sc : Nat × (Nat → Int32)} {d aw : Nat} {S : am_S} {x : Int32} {y : Int32} (h : SH aw S) : am_E (am_PP sc) (d + 0) 76 0 [some (.ref 1), some (.int x), some (.int y)] [] S (am_N fun v S1 => v = none ∧ Sm aw S S1) := by
  refine am_e2 (v := 1) hi_76_0 rfl ?_
  refine cm_20i h hi_76_1 (h.1.s (1, 1) (by decide)) (by decide) rfl fun v1 hv1 => ?_
  have hv1_ : v1.toInt = iv S 1 0 := hv1
  by_cases c2 : v1.toInt = (0 : Int)
  · refine am_e12t hi_76_4 (am_cT (m := v1.toInt) (n := (0 : Int)) rfl (by decide) c2) ?_
    refine am_e2 (v := 1) hi_76_15 rfl ?_
    refine am_e1 (v := x) hi_76_16 rfl ?_
    refine cm_21 (v := .int x) h hi_76_17 (h.1.s (1, 1) (by decide)) (by decide) (by decide) rfl ⟨_, rfl⟩ rfl fun S3 h4 => ?_
    obtain ⟨h5, h6, ⟨h7, h8, h9, h10⟩, ⟨h11, h12, h13⟩, h14, h15⟩ := h4
    have h16 : kd aw S3 = kd aw S := kd_eq h7 h10
    refine am_e2 (v := 1) hi_76_20 rfl ?_
    refine am_e1 (v := y) hi_76_21 rfl ?_
    refine cm_21 (v := .int y) h5 hi_76_22 (h5.1.s (1, 1) (by decide)) (by decide) (by decide) rfl ⟨_, rfl⟩ rfl fun S17 h18 => ?_
    obtain ⟨h19, h20, ⟨h21, h22, h23, h24⟩, ⟨h25, h26, h27⟩, h28, h29⟩ := h18
    have h30 : kd aw S17 = kd aw S3 := kd_eq h21 h24
    refine am_e35 hi_76_25 ?_
    exact ⟨rfl, ⟨h19, (h6.trans h20), ⟨(by show nx S17 = nx S; omega), (by show lv S17 = lv S; omega), (by show wr S17 = wr S; omega), (h24.trans h10)⟩, ⟨(by show os S17 = os S; omega), (h26.trans h12), (by show fl S17 = fl S; omega)⟩, (fun t ht => ((h28 t (h6.1 _ _ ht)).trans (h14 t ht))), (by show EN S17 ≤ EN S; omega)⟩⟩
  · refine am_e12f hi_76_4 (am_cF (m := v1.toInt) (n := (0 : Int)) rfl (by decide) c2) ?_
    refine am_e1 (v := y) hi_76_7 rfl ?_
    refine am_e2 (v := 1) hi_76_8 rfl ?_
    refine cm_20i h hi_76_9 (h.1.s (1, 1) (by decide)) (by decide) rfl fun v31 hv31 => ?_
    have hv31_ : v31.toInt = iv S 1 1 := hv31
    by_cases c32 : v31.toInt ≤ y.toInt
    · refine am_e13t hi_76_12 (am_cT (m := y.toInt) (n := v31.toInt) rfl rfl c32) ?_
      refine am_e35 hi_76_25 ?_
      exact ⟨rfl, ⟨h, (Ex.refl S), ⟨(by show nx S = nx S; omega), (by show lv S = lv S; omega), (by show wr S = wr S; omega), rfl⟩, ⟨(by show os S = os S; omega), rfl, (by show fl S = fl S; omega)⟩, (fun _ _ => rfl), (by show EN S ≤ EN S; omega)⟩⟩
    · refine am_e13f hi_76_12 (am_cF (m := y.toInt) (n := v31.toInt) rfl rfl c32) ?_
      refine am_e2 (v := 1) hi_76_15 rfl ?_
      refine am_e1 (v := x) hi_76_16 rfl ?_
      refine cm_21 (v := .int x) h hi_76_17 (h.1.s (1, 1) (by decide)) (by decide) (by decide) rfl ⟨_, rfl⟩ rfl fun S33 h34 => ?_
      obtain ⟨h35, h36, ⟨h37, h38, h39, h40⟩, ⟨h41, h42, h43⟩, h44, h45⟩ := h34
      have h46 : kd aw S33 = kd aw S := kd_eq h37 h40
      refine am_e2 (v := 1) hi_76_20 rfl ?_
      refine am_e1 (v := y) hi_76_21 rfl ?_
      refine cm_21 (v := .int y) h35 hi_76_22 (h35.1.s (1, 1) (by decide)) (by decide) (by decide) rfl ⟨_, rfl⟩ rfl fun S47 h48 => ?_
      obtain ⟨h49, h50, ⟨h51, h52, h53, h54⟩, ⟨h55, h56, h57⟩, h58, h59⟩ := h48
      have h60 : kd aw S47 = kd aw S33 := kd_eq h51 h54
      refine am_e35 hi_76_25 ?_
      exact ⟨rfl, ⟨h49, (h36.trans h50), ⟨(by show nx S47 = nx S; omega), (by show lv S47 = lv S; omega), (by show wr S47 = wr S; omega), (h54.trans h40)⟩, ⟨(by show os S47 = os S; omega), (h56.trans h42), (by show fl S47 = fl S; omega)⟩, (fun t ht => ((h58 t (h36.1 _ _ ht)).trans (h44 t ht))), (by show EN S47 ≤ EN S; omega)⟩⟩
theorem ck_fclear {sc : Nat × (Nat → Int32)} {d aw : Nat} {S : am_S} (h : SH aw S) : am_E (am_PP sc) (d + 0) 39 0 [some (.ref 1)] [] S (am_N fun v S1 => v = none ∧ Sm aw S S1) := by
  refine am_e2 (v := 1) hi_39_0 rfl ?_
  refine am_e0 hi_39_1 ?_
  refine cm_21 (v := .int 0) h hi_39_2 (h.1.s (1, 1) (by decide)) (by decide) (by decide) rfl ⟨_, rfl⟩ rfl fun S1 h2 => ?_
  obtain ⟨h3, h4, ⟨h5, h6, h7, h8⟩, ⟨h9, h10, h11⟩, h12, h13⟩ := h2
  have h14 : kd aw S1 = kd aw S := kd_eq h5 h8
  refine am_e2 (v := 1) hi_39_5 rfl ?_
  refine am_e0 hi_39_6 ?_
  refine cm_21 (v := .int 0) h3 hi_39_7 (h3.1.s (1, 1) (by decide)) (by decide) (by decide) rfl ⟨_, rfl⟩ rfl fun S15 h16 => ?_
  obtain ⟨h17, h18, ⟨h19, h20, h21, h22⟩, ⟨h23, h24, h25⟩, h26, h27⟩ := h16
  have h28 : kd aw S15 = kd aw S1 := kd_eq h19 h22
  refine am_e35 hi_39_10 ?_
  exact ⟨rfl, ⟨h17, (h4.trans h18), ⟨(by show nx S15 = nx S; omega), (by show lv S15 = lv S; omega), (by show wr S15 = wr S; omega), (h22.trans h8)⟩, ⟨(by show os S15 = os S; omega), (h24.trans h10), (by show fl S15 = fl S; omega)⟩, (fun t ht => ((h26 t (h4.1 _ _ ht)).trans (h12 t ht))), (by show EN S15 ≤ EN S; omega)⟩⟩
theorem ck_refuse {sc : Nat × (Nat → Int32)} {d aw : Nat} {S : am_S} {x : Int32} {y : Int32} (h : SH aw S) (p0 : 0 ≤ nx S) (p1 : nx S ≤ wr S) : am_E (am_PP sc) (d + 12) 58 0 [some (.ref 1), some (.int x), some (.int y)] [] S (am_T (fun _ _ => False) (fun S1 => TH aw 134 S S1)) := by
  refine am_e2 (v := 1) hi_58_0 rfl ?_
  refine am_e1 (v := x) hi_58_1 rfl ?_
  refine cm_21 (v := .int x) h hi_58_2 (h.1.s (1, 1) (by decide)) (by decide) (by decide) rfl ⟨_, rfl⟩ rfl fun S1 h2 => ?_
  obtain ⟨h3, h4, ⟨h5, h6, h7, h8⟩, ⟨h9, h10, h11⟩, h12, h13⟩ := h2
  have h14 : kd aw S1 = kd aw S := kd_eq h5 h8
  refine am_e2 (v := 1) hi_58_5 rfl ?_
  refine am_e1 (v := y) hi_58_6 rfl ?_
  refine cm_21 (v := .int y) h3 hi_58_7 (h3.1.s (1, 1) (by decide)) (by decide) (by decide) rfl ⟨_, rfl⟩ rfl fun S15 h16 => ?_
  obtain ⟨h17, h18, ⟨h19, h20, h21, h22⟩, ⟨h23, h24, h25⟩, h26, h27⟩ := h16
  have h28 : kd aw S15 = kd aw S1 := kd_eq h19 h22
  refine am_e37T hi_58_10 (by omega) (by decide) ?_
  have h29 := th_new h17 (by omega) (by omega)
  exact (show TH aw 134 S (S15.1, S15.2.1 + 1, S15.2.2 + 6) from ⟨h29.1, (h4.trans h18).trans h29.2.1, ⟨(by have q := h29.2.2.1.1; omega), h29.2.2.1.2.trans (h22.trans h8)⟩, h29.2.2.2.1, h29.2.2.2.2.1, (by have q := h29.2.2.2.2.2; omega)⟩)
theorem ck_getw {sc : Nat × (Nat → Int32)} {d aw : Nat} {S : am_S} {x : Int32} {y : Int32} (h : SH aw S) : am_E (am_PP sc) (d + 0) 54 0 [some (.ref 3), some (.int x), some (.int y)] [] S (am_N fun v S1 => ∃ r : Int32, v = some (.int r) ∧ S = S1 ∧ (y.toInt = 0 → r.toInt = kA aw S x.toInt)) := by
  obtain ⟨a, r, n, hfs, hA, b0, b1, b2, b3, b4, b5, b6, b7⟩ := h.tab (h.1.s (3, 3) (by decide))
  have b8 : r.toInt = wr S := b6
  refine am_e1 (v := x) hi_54_0 rfl ?_
  by_cases c1 : x.toInt < (0 : Int)
  · refine am_e12t hi_54_1 (am_cT (m := x.toInt) (n := (0 : Int)) rfl (by decide) c1) ?_
    refine am_e0 hi_54_21 ?_
    refine am_e33 hi_54_22 ?_
    exact ⟨0, rfl, rfl, (getw_out (by omega) (by decide))⟩
  · refine am_e12f hi_54_1 (am_cF (m := x.toInt) (n := (0 : Int)) rfl (by decide) c1) ?_
    refine am_e1 (v := x) hi_54_4 rfl ?_
    refine am_e2 (v := 3) hi_54_5 rfl ?_
    refine am_e20 (v := .int r) hi_54_6 hfs rfl ?_
    by_cases c2 : r.toInt ≤ x.toInt
    · refine am_e13t hi_54_9 (am_cT (m := x.toInt) (n := r.toInt) rfl rfl c2) ?_
      refine am_e0 hi_54_21 ?_
      refine am_e33 hi_54_22 ?_
      exact ⟨0, rfl, rfl, (getw_out (by omega) (by decide))⟩
    · refine am_e13f hi_54_9 (am_cF (m := x.toInt) (n := r.toInt) rfl rfl c2) ?_
      refine am_e1 (v := y) hi_54_12 rfl ?_
      by_cases c3 : y.toInt < (0 : Int)
      · refine am_e12t hi_54_13 (am_cT (m := y.toInt) (n := (0 : Int)) rfl (by decide) c3) ?_
        refine am_e0 hi_54_21 ?_
        refine am_e33 hi_54_22 ?_
        exact ⟨0, rfl, rfl, (getw_out (by omega) (by decide))⟩
      · refine am_e12f hi_54_13 (am_cF (m := y.toInt) (n := (0 : Int)) rfl (by decide) c3) ?_
        refine am_e1 (v := y) hi_54_16 rfl ?_
        refine am_e0 hi_54_17 ?_
        by_cases c4 : y.toInt < (4 : Int)
        · refine am_e13t hi_54_18 (am_cT (m := y.toInt) (n := (4 : Int)) rfl (by decide) c4) ?_
          refine am_e2 (v := 3) hi_54_23 rfl ?_
          refine am_e20 (v := .ref a) hi_54_24 hfs rfl ?_
          refine am_e1 (v := x) hi_54_27 rfl ?_
          refine am_e0 hi_54_28 ?_
          obtain ⟨z5, hz5, tz5⟩ := am_mulI (x := x) (y := 4) (m := x.toInt) (n := (4 : Int)) rfl (by decide) (by omega) (by omega)
          refine am_e10 (z := z5) hi_54_29 hz5 ?_
          refine am_e1 (v := y) hi_54_30 rfl ?_
          obtain ⟨z6, hz6, tz6⟩ := am_addI (x := z5) (y := y) (m := z5.toInt) (n := y.toInt) rfl rfl (by omega) (by omega)
          refine am_e10 (z := z6) hi_54_31 hz6 ?_
          refine cm_25 hi_54_32 hA (by omega) (by omega) ?_
          refine am_e33 hi_54_33 ?_
          exact ⟨(am_arf S a z6.toNatClampNeg), rfl, rfl, (getw_in (b7 rfl) (by omega) (by omega) (z := z6) (by omega) rfl)⟩
        · refine am_e13f hi_54_18 (am_cF (m := y.toInt) (n := (4 : Int)) rfl (by decide) c4) ?_
          refine am_e0 hi_54_21 ?_
          refine am_e33 hi_54_22 ?_
          exact ⟨0, rfl, rfl, (getw_out (by omega) (by decide))⟩
theorem ck_kind {sc : Nat × (Nat → Int32)} {d aw : Nat} {S : am_S} (h : SH aw S) : am_E (am_PP sc) (d + 1) 53 0 [some (.ref 2)] [] S (am_N fun v S1 => ∃ r : Int32, v = some (.int r) ∧ S = S1 ∧ (r.toInt = kd aw S)) := by
  refine am_e2 (v := 2) hi_53_0 rfl ?_
  refine cm_20f (r := 3) h hi_53_1 (h.1.s (2, 2) (by decide)) (by decide) rfl ?_
  refine am_e2 (v := 2) hi_53_4 rfl ?_
  refine cm_20i h hi_53_5 (h.1.s (2, 2) (by decide)) (by decide) rfl fun v1 hv1 => ?_
  have hv1_ : v1.toInt = nx S := hv1
  refine am_e0 hi_53_8 ?_
  refine am_e32n (as := [.ref 3, .int v1, .int 0]) (la := [some (.ref 3), some (.int v1), some (.int 0)]) (rest := []) hi_53_9 (am_hd0 (M := 53) (by decide) 9) (Nat.le_of_ble_eq_true rfl) (Nat.le_of_ble_eq_true rfl) (show 3 ≤ am_P0.2.2.1 54 from by decide +kernel) rfl (cl_recv (h.1.s (3, 3) (by decide))) rfl rfl (ck_getw (d := d) h   ) ?_
  rintro v2 S3 ⟨r4, rfl, rfl, h6⟩
  have h6_ : (0 : Int) = 0 → r4.toInt = kA aw S v1.toInt := h6
  have h8 : r4.toInt = kd aw S := by have q := h6_ rfl; rw [show v1.toInt = nx S from by omega] at q; exact q
  show am_E _ _ _ _ [some (.ref 2)] [.int r4] _ _
  refine am_e33 hi_53_12 ?_
  exact ⟨r4, rfl, rfl, (by show r4.toInt = kd aw S; omega)⟩
theorem ck_kindAt {sc : Nat × (Nat → Int32)} {d aw : Nat} {S : am_S} {x : Int32} (h : SH aw S) : am_E (am_PP sc) (d + 1) 93 0 [some (.ref 2), some (.int x)] [] S (am_N fun v S1 => ∃ r : Int32, v = some (.int r) ∧ S = S1 ∧ (r.toInt = kA aw S x.toInt)) := by
  refine am_e2 (v := 2) hi_93_0 rfl ?_
  refine cm_20f (r := 3) h hi_93_1 (h.1.s (2, 2) (by decide)) (by decide) rfl ?_
  refine am_e1 (v := x) hi_93_4 rfl ?_
  refine am_e0 hi_93_5 ?_
  refine am_e32n (as := [.ref 3, .int x, .int 0]) (la := [some (.ref 3), some (.int x), some (.int 0)]) (rest := []) hi_93_6 (am_hd0 (M := 93) (by decide) 6) (Nat.le_of_ble_eq_true rfl) (Nat.le_of_ble_eq_true rfl) (show 3 ≤ am_P0.2.2.1 54 from by decide +kernel) rfl (cl_recv (h.1.s (3, 3) (by decide))) rfl rfl (ck_getw (d := d) h   ) ?_
  rintro v1 S2 ⟨r3, rfl, rfl, h5⟩
  have h5_ : (0 : Int) = 0 → r3.toInt = kA aw S x.toInt := h5
  show am_E _ _ _ _ [some (.ref 2), some (.int x)] [.int r3] _ _
  refine am_e33 hi_93_9 ?_
  exact ⟨r3, rfl, rfl, (h5_ rfl)⟩
theorem ck_textAt {sc : Nat × (Nat → Int32)} {d aw : Nat} {S : am_S} {x : Int32} (h : SH aw S) : am_E (am_PP sc) (d + 1) 104 0 [some (.ref 2), some (.int x)] [] S (am_N fun v S1 => ∃ r : Int32, v = some (.int r) ∧ S = S1) := by
  refine am_e2 (v := 2) hi_104_0 rfl ?_
  refine cm_20f (r := 3) h hi_104_1 (h.1.s (2, 2) (by decide)) (by decide) rfl ?_
  refine am_e1 (v := x) hi_104_4 rfl ?_
  refine am_e0 hi_104_5 ?_
  refine am_e32n (as := [.ref 3, .int x, .int 1]) (la := [some (.ref 3), some (.int x), some (.int 1)]) (rest := []) hi_104_6 (am_hd0 (M := 104) (by decide) 6) (Nat.le_of_ble_eq_true rfl) (Nat.le_of_ble_eq_true rfl) (show 3 ≤ am_P0.2.2.1 54 from by decide +kernel) rfl (cl_recv (h.1.s (3, 3) (by decide))) rfl rfl (ck_getw (d := d) h   ) ?_
  rintro v1 S2 ⟨r3, rfl, rfl, h5⟩
  have h5_ : (1 : Int) = 0 → r3.toInt = kA aw S x.toInt := h5
  show am_E _ _ _ _ [some (.ref 2), some (.int x)] [.int r3] _ _
  refine am_e33 hi_104_9 ?_
  exact ⟨r3, rfl, rfl⟩
theorem ck_count {sc : Nat × (Nat → Int32)} {d aw : Nat} {S : am_S} (h : SH aw S) : am_E (am_PP sc) (d + 1) 35 0 [some (.ref 2)] [] S (am_N fun v S1 => ∃ r : Int32, v = some (.int r) ∧ S = S1 ∧ (r.toInt = wr S)) := by
  refine am_e2 (v := 2) hi_35_0 rfl ?_
  refine cm_20f (r := 3) h hi_35_1 (h.1.s (2, 2) (by decide)) (by decide) rfl ?_
  refine am_e32n (as := [.ref 3]) (la := [some (.ref 3)]) (rest := []) hi_35_4 (am_hd0 (M := 35) (by decide) 4) (Nat.le_of_ble_eq_true rfl) (Nat.le_of_ble_eq_true rfl) (show 1 ≤ am_P0.2.2.1 36 from by decide +kernel) rfl (cl_recv (h.1.s (3, 3) (by decide))) rfl rfl (ck_rows (d := d) h (h.1.s (3, 3) (by decide))  ) ?_
  rintro v1 S2 ⟨r3, rfl, rfl, h5, h6, h7⟩
  have h5_ : r3.toInt = iv S 3 1 := h5
  have h6_ : 0 ≤ r3.toInt := h6
  have h7_ : r3.toInt ≤ 2097154 := h7
  have h9 : iv S 3 1 = wr S := rfl
  show am_E _ _ _ _ [some (.ref 2)] [.int r3] _ _
  refine am_e33 hi_35_7 ?_
  exact ⟨r3, rfl, rfl, (by show r3.toInt = wr S; omega)⟩
theorem ck_need {sc : Nat × (Nat → Int32)} {d aw : Nat} {S : am_S} {k : Int32} (h : SH aw S) (p0 : 0 ≤ nx S) (p1 : nx S ≤ wr S) : am_E (am_PP sc) (d + 13) 65 0 [some (.ref 2), some (.int k)] [] S (am_T (fun v S1 => v = none ∧ S = S1 ∧ (kd aw S = k.toInt)) (fun S1 => TH aw 134 S S1)) := by
  refine am_e2 (v := 2) hi_65_0 rfl ?_
  refine cm_20f (r := 3) h hi_65_1 (h.1.s (2, 2) (by decide)) (by decide) rfl ?_
  refine am_e2 (v := 2) hi_65_4 rfl ?_
  refine cm_20i h hi_65_5 (h.1.s (2, 2) (by decide)) (by decide) rfl fun v1 hv1 => ?_
  have hv1_ : v1.toInt = nx S := hv1
  refine am_e0 hi_65_8 ?_
  refine am_e32n (as := [.ref 3, .int v1, .int 0]) (la := [some (.ref 3), some (.int v1), some (.int 0)]) (rest := []) hi_65_9 (am_hd0 (M := 65) (by decide) 9) (Nat.le_of_ble_eq_true rfl) (Nat.le_of_ble_eq_true rfl) (show 3 ≤ am_P0.2.2.1 54 from by decide +kernel) rfl (cl_recv (h.1.s (3, 3) (by decide))) rfl rfl (ck_getw (d := (d + 12)) h   ) ?_
  rintro v2 S3 ⟨r4, rfl, rfl, h6⟩
  have h6_ : (0 : Int) = 0 → r4.toInt = kA aw S v1.toInt := h6
  have h8 : r4.toInt = kd aw S := by have q := h6_ rfl; rw [show v1.toInt = nx S from by omega] at q; exact q
  show am_E _ _ _ _ [some (.ref 2), some (.int k)] [.int r4] _ _
  refine am_e1 (v := k) hi_65_12 rfl ?_
  by_cases c9 : r4.toInt = k.toInt
  · refine am_e13t hi_65_13 (am_cT (m := r4.toInt) (n := k.toInt) rfl rfl c9) ?_
    refine am_e35 hi_65_29 ?_
    exact ⟨rfl, rfl, (by show kd aw S = k.toInt; omega)⟩
  · refine am_e13f hi_65_13 (am_cF (m := r4.toInt) (n := k.toInt) rfl rfl c9) ?_
    refine am_e2 (v := 2) hi_65_16 rfl ?_
    refine cm_20f (r := 1) h hi_65_17 (h.1.s (2, 2) (by decide)) (by decide) rfl ?_
    refine am_e0 hi_65_20 ?_
    refine am_e2 (v := 2) hi_65_22 rfl ?_
    refine cm_20i h hi_65_23 (h.1.s (2, 2) (by decide)) (by decide) rfl fun v10 hv10 => ?_
    have hv10_ : v10.toInt = nx S := hv10
    refine am_e32t (as := [.ref 1, .int 7, .int v10]) (la := [some (.ref 1), some (.int 7), some (.int v10)]) (rest := []) hi_65_26 (am_hd0 (M := 65) (by decide) 26) (Nat.le_of_ble_eq_true rfl) (Nat.le_of_ble_eq_true rfl) (show 3 ≤ am_P0.2.2.1 58 from by decide +kernel) rfl (cl_recv (h.1.s (1, 1) (by decide))) rfl rfl (ck_refuse (d := d) h (by show 0 ≤ nx S; omega) (by show nx S ≤ wr S; omega)) (fun S11 h12 => (show TH aw 134 S S11 from ⟨h12.1, (Ex.refl S).trans h12.2.1, ⟨(by have q := h12.2.2.1.1; omega), h12.2.2.1.2.trans rfl⟩, h12.2.2.2.1, h12.2.2.2.2.1, (by have q := h12.2.2.2.2.2; omega)⟩)) (fun _ _ q => q.elim)
theorem ck_skip {sc : Nat × (Nat → Int32)} {d aw : Nat} {S : am_S} (h : SH aw S) (p0 : 0 ≤ nx S) (p1 : nx S ≤ wr S) (p2 : wr S ≤ 600) (p3 : 0 ≤ lv S) (p4 : lv S ≤ 48) (p5 : kd aw S ≠ 0) : am_E (am_PP sc) (d + 13) 55 0 [some (.ref 2), none] [] S (am_T (fun v S1 => ∃ r : Int32, v = some (.int r) ∧ Wd aw S S1 ∧ (nx S1 = nx S + 1) ∧ (lv S1 = lv S + c_dl (kd aw S)) ∧ (lv S1 ≤ 48) ∧ (nx S1 ≤ wr S1)) (fun S1 => TH aw 134 S S1)) := by
  have hkl := kd_lt p5
  refine am_e2 (v := 2) hi_55_0 rfl ?_
  refine cm_20f (r := 3) h hi_55_1 (h.1.s (2, 2) (by decide)) (by decide) rfl ?_
  refine am_e2 (v := 2) hi_55_4 rfl ?_
  refine cm_20i h hi_55_5 (h.1.s (2, 2) (by decide)) (by decide) rfl fun v1 hv1 => ?_
  have hv1_ : v1.toInt = nx S := hv1
  refine am_e0 hi_55_8 ?_
  refine am_e32n (as := [.ref 3, .int v1, .int 0]) (la := [some (.ref 3), some (.int v1), some (.int 0)]) (rest := []) hi_55_9 (am_hd0 (M := 55) (by decide) 9) (Nat.le_of_ble_eq_true rfl) (Nat.le_of_ble_eq_true rfl) (show 3 ≤ am_P0.2.2.1 54 from by decide +kernel) rfl (cl_recv (h.1.s (3, 3) (by decide))) rfl rfl (ck_getw (d := (d + 12)) h   ) ?_
  rintro v2 S3 ⟨r4, rfl, rfl, h6⟩
  have h6_ : (0 : Int) = 0 → r4.toInt = kA aw S v1.toInt := h6
  have h8 : r4.toInt = kd aw S := by have q := h6_ rfl; rw [show v1.toInt = nx S from by omega] at q; exact q
  show am_E _ _ _ _ [some (.ref 2), none] [.int r4] _ _
  refine am_e3 (ls' := [some (.ref 2), some (.int r4)]) hi_55_12 (Nat.le_of_ble_eq_true rfl) rfl ?_
  refine am_e1 (v := r4) hi_55_13 rfl ?_
  refine am_e32n (as := [.int r4]) (la := [some (.int r4)]) (rest := []) hi_55_14 (am_hd0 (M := 55) (by decide) 14) (Nat.le_of_ble_eq_true rfl) (Nat.le_of_ble_eq_true rfl) (show 1 ≤ am_P0.2.2.1 56 from by decide +kernel) rfl rfl rfl rfl (ck_closes (d := (d + 12)) h   ) ?_
  rintro v9 S10 ⟨r11, rfl, hb14, rfl, h13⟩
  have h13_ : (r11.toInt = 1 ∧ (r4.toInt = 61 ∨ r4.toInt = 65 ∨ r4.toInt = 63 ∨ r4.toInt = 15 ∨ r4.toInt = 30 ∨ r4.toInt = 14 ∨ r4.toInt = 13)) ∨ (r11.toInt = 0 ∧ ¬ (r4.toInt = 61 ∨ r4.toInt = 65 ∨ r4.toInt = 63 ∨ r4.toInt = 15 ∨ r4.toInt = 30 ∨ r4.toInt = 14 ∨ r4.toInt = 13)) := h13
  have hb14_ : r11.toInt = 0 ∨ r11.toInt = 1 := hb14.elim (fun e => Or.inl (by rw [e]; rfl)) (fun e => Or.inr (by rw [e]; rfl))
  show am_E _ _ _ _ [some (.ref 2), some (.int r4)] [.int r11] _ _
  by_cases c15 : r11.toInt = (0 : Int)
  · refine am_e12t hi_55_17 (am_cT (m := r11.toInt) (n := (0 : Int)) rfl (by decide) c15) ?_
    refine am_e1 (v := r4) hi_55_30 rfl ?_
    refine am_e32n (as := [.int r4]) (la := [some (.int r4)]) (rest := []) hi_55_31 (am_hd0 (M := 55) (by decide) 31) (Nat.le_of_ble_eq_true rfl) (Nat.le_of_ble_eq_true rfl) (show 1 ≤ am_P0.2.2.1 57 from by decide +kernel) rfl rfl rfl rfl (ck_opens (d := (d + 12)) h   ) ?_
    rintro v16 S17 ⟨r18, rfl, hb21, rfl, h20⟩
    have h20_ : (r18.toInt = 1 ∧ (r4.toInt = 60 ∨ r4.toInt = 64 ∨ r4.toInt = 62 ∨ r4.toInt = 12 ∨ r4.toInt = 28 ∨ r4.toInt = 13 ∨ r4.toInt = 26 ∨ r4.toInt = 18)) ∨ (r18.toInt = 0 ∧ ¬ (r4.toInt = 60 ∨ r4.toInt = 64 ∨ r4.toInt = 62 ∨ r4.toInt = 12 ∨ r4.toInt = 28 ∨ r4.toInt = 13 ∨ r4.toInt = 26 ∨ r4.toInt = 18)) := h20
    have hb21_ : r18.toInt = 0 ∨ r18.toInt = 1 := hb21.elim (fun e => Or.inl (by rw [e]; rfl)) (fun e => Or.inr (by rw [e]; rfl))
    show am_E _ _ _ _ [some (.ref 2), some (.int r4)] [.int r18] _ _
    by_cases c22 : r18.toInt = (0 : Int)
    · refine am_e12t hi_55_34 (am_cT (m := r18.toInt) (n := (0 : Int)) rfl (by decide) c22) ?_
      refine am_e2 (v := 2) hi_55_69 rfl ?_
      refine am_e7 hi_55_70 ?_
      refine cm_20i h hi_55_71 (h.1.s (2, 2) (by decide)) (by decide) rfl fun v23 hv23 => ?_
      have hv23_ : v23.toInt = nx S := hv23
      refine am_e0 hi_55_74 ?_
      obtain ⟨z24, hz24, tz24⟩ := am_addI (x := v23) (y := 1) (m := v23.toInt) (n := (1 : Int)) rfl (by decide) (by omega) (by omega)
      refine am_e10 (z := z24) hi_55_75 hz24 ?_
      refine cm_21w h hi_55_76 (by decide) rfl fun S25 h26 h27 h28 h29 h30 h31 h32 => ?_
      have h33 : nx S25 = z24.toInt := h29
      have h34 : lv S25 = lv S := h28 2 3 (by decide)
      have h35 : wr S25 = wr S := h28 3 1 (by decide)
      have h36 : os S25 = os S := h28 13 1 (by decide)
      have h37 : fl S25 = fl S := by unfold fl; rw [h31]; exact h28 _ _ (Or.inl (by intro z; have z2 := h.nwc; rw [z] at z2; have z3 := h.1.s (2, 2) (by decide); rw [show ((2, 2) : Nat × Nat).1 = 2 from rfl, z2] at z3; cases z3))
      have h38 : ∀ t, cl (am_fs S) t = some 3 → iv S25 t 1 = iv S t 1 := fun t _ => h28 t 1 (Or.inr (by decide))
      refine am_e2 (v := 2) hi_55_79 rfl ?_
      refine cm_20f (r := 3) h26 hi_55_80 (h26.1.s (2, 2) (by decide)) (by decide) rfl ?_
      refine am_e2 (v := 2) hi_55_83 rfl ?_
      refine cm_20i h26 hi_55_84 (h26.1.s (2, 2) (by decide)) (by decide) rfl fun v40 hv40 => ?_
      have hv40_ : v40.toInt = nx S25 := hv40
      refine am_e0 hi_55_87 ?_
      obtain ⟨z41, hz41, tz41⟩ := am_subI (x := v40) (y := 1) (m := v40.toInt) (n := (1 : Int)) rfl (by decide) (by omega) (by omega)
      refine am_e10 (z := z41) hi_55_88 hz41 ?_
      refine am_e0 hi_55_89 ?_
      refine am_e32n (as := [.ref 3, .int z41, .int 1]) (la := [some (.ref 3), some (.int z41), some (.int 1)]) (rest := []) hi_55_90 (am_hd0 (M := 55) (by decide) 90) (Nat.le_of_ble_eq_true rfl) (Nat.le_of_ble_eq_true rfl) (show 3 ≤ am_P0.2.2.1 54 from by decide +kernel) rfl (cl_recv (h26.1.s (3, 3) (by decide))) rfl rfl (ck_getw (d := (d + 12)) h26   ) ?_
      rintro v42 S43 ⟨r44, rfl, rfl, h46⟩
      have h46_ : (1 : Int) = 0 → r44.toInt = kA aw S25 z41.toInt := h46
      show am_E _ _ _ _ [some (.ref 2), some (.int r4)] [.int r44] _ _
      refine am_e33 hi_55_93 ?_
      exact ⟨r44, rfl, ⟨h26, h27, ⟨(by show wr S25 = wr S; omega), h30⟩, ⟨(by show os S25 = os S; omega), h31, (by show fl S25 = fl S; omega)⟩, (fun t ht => (h38 t ht)), (by show EN S25 ≤ EN S; omega)⟩, (by show nx S25 = nx S + 1; omega), (by show lv S25 = lv S + c_dl (kd aw S); unfold c_dl; split <;> split <;> omega), (by show lv S25 ≤ 48; omega), (by show nx S25 ≤ wr S25; omega)⟩
    · refine am_e12f hi_55_34 (am_cF (m := r18.toInt) (n := (0 : Int)) rfl (by decide) c22) ?_
      refine am_e2 (v := 2) hi_55_37 rfl ?_
      refine cm_20i h hi_55_38 (h.1.s (2, 2) (by decide)) (by decide) rfl fun v48 hv48 => ?_
      have hv48_ : v48.toInt = lv S := hv48
      refine am_e0 hi_55_41 ?_
      by_cases c49 : v48.toInt < (48 : Int)
      · refine am_e13t hi_55_43 (am_cT (m := v48.toInt) (n := (48 : Int)) rfl (by decide) c49) ?_
        refine am_e2 (v := 2) hi_55_59 rfl ?_
        refine am_e7 hi_55_60 ?_
        refine cm_20i h hi_55_61 (h.1.s (2, 2) (by decide)) (by decide) rfl fun v50 hv50 => ?_
        have hv50_ : v50.toInt = lv S := hv50
        refine am_e0 hi_55_64 ?_
        obtain ⟨z51, hz51, tz51⟩ := am_addI (x := v50) (y := 1) (m := v50.toInt) (n := (1 : Int)) rfl (by decide) (by omega) (by omega)
        refine am_e10 (z := z51) hi_55_65 hz51 ?_
        refine cm_21w h hi_55_66 (by decide) rfl fun S52 h53 h54 h55 h56 h57 h58 h59 => ?_
        have h60 : lv S52 = z51.toInt := h56
        have h61 : nx S52 = nx S := h55 2 2 (by decide)
        have h62 : wr S52 = wr S := h55 3 1 (by decide)
        have h63 : os S52 = os S := h55 13 1 (by decide)
        have h64 : fl S52 = fl S := by unfold fl; rw [h58]; exact h55 _ _ (Or.inl (by intro z; have z2 := h.nwc; rw [z] at z2; have z3 := h.1.s (2, 2) (by decide); rw [show ((2, 2) : Nat × Nat).1 = 2 from rfl, z2] at z3; cases z3))
        have h65 : ∀ t, cl (am_fs S) t = some 3 → iv S52 t 1 = iv S t 1 := fun t _ => h55 t 1 (Or.inr (by decide))
        refine am_e2 (v := 2) hi_55_69 rfl ?_
        refine am_e7 hi_55_70 ?_
        refine cm_20i h53 hi_55_71 (h53.1.s (2, 2) (by decide)) (by decide) rfl fun v67 hv67 => ?_
        have hv67_ : v67.toInt = nx S52 := hv67
        refine am_e0 hi_55_74 ?_
        obtain ⟨z68, hz68, tz68⟩ := am_addI (x := v67) (y := 1) (m := v67.toInt) (n := (1 : Int)) rfl (by decide) (by omega) (by omega)
        refine am_e10 (z := z68) hi_55_75 hz68 ?_
        refine cm_21w h53 hi_55_76 (by decide) rfl fun S69 h70 h71 h72 h73 h74 h75 h76 => ?_
        have h77 : nx S69 = z68.toInt := h73
        have h78 : lv S69 = lv S52 := h72 2 3 (by decide)
        have h79 : wr S69 = wr S52 := h72 3 1 (by decide)
        have h80 : os S69 = os S52 := h72 13 1 (by decide)
        have h81 : fl S69 = fl S52 := by unfold fl; rw [h75]; exact h72 _ _ (Or.inl (by intro z; have z2 := h53.nwc; rw [z] at z2; have z3 := h53.1.s (2, 2) (by decide); rw [show ((2, 2) : Nat × Nat).1 = 2 from rfl, z2] at z3; cases z3))
        have h82 : ∀ t, cl (am_fs S52) t = some 3 → iv S69 t 1 = iv S52 t 1 := fun t _ => h72 t 1 (Or.inr (by decide))
        refine am_e2 (v := 2) hi_55_79 rfl ?_
        refine cm_20f (r := 3) h70 hi_55_80 (h70.1.s (2, 2) (by decide)) (by decide) rfl ?_
        refine am_e2 (v := 2) hi_55_83 rfl ?_
        refine cm_20i h70 hi_55_84 (h70.1.s (2, 2) (by decide)) (by decide) rfl fun v84 hv84 => ?_
        have hv84_ : v84.toInt = nx S69 := hv84
        refine am_e0 hi_55_87 ?_
        obtain ⟨z85, hz85, tz85⟩ := am_subI (x := v84) (y := 1) (m := v84.toInt) (n := (1 : Int)) rfl (by decide) (by omega) (by omega)
        refine am_e10 (z := z85) hi_55_88 hz85 ?_
        refine am_e0 hi_55_89 ?_
        refine am_e32n (as := [.ref 3, .int z85, .int 1]) (la := [some (.ref 3), some (.int z85), some (.int 1)]) (rest := []) hi_55_90 (am_hd0 (M := 55) (by decide) 90) (Nat.le_of_ble_eq_true rfl) (Nat.le_of_ble_eq_true rfl) (show 3 ≤ am_P0.2.2.1 54 from by decide +kernel) rfl (cl_recv (h70.1.s (3, 3) (by decide))) rfl rfl (ck_getw (d := (d + 12)) h70   ) ?_
        rintro v86 S87 ⟨r88, rfl, rfl, h90⟩
        have h90_ : (1 : Int) = 0 → r88.toInt = kA aw S69 z85.toInt := h90
        show am_E _ _ _ _ [some (.ref 2), some (.int r4)] [.int r88] _ _
        refine am_e33 hi_55_93 ?_
        exact ⟨r88, rfl, ⟨h70, (h54.trans h71), ⟨(by show wr S69 = wr S; omega), (h74.trans h57)⟩, ⟨(by show os S69 = os S; omega), (h75.trans h58), (by show fl S69 = fl S; omega)⟩, (fun t ht => ((h82 t (h54.1 _ _ ht)).trans (h65 t ht))), (by show EN S69 ≤ EN S; omega)⟩, (by show nx S69 = nx S + 1; omega), (by show lv S69 = lv S + c_dl (kd aw S); unfold c_dl; split <;> split <;> omega), (by show lv S69 ≤ 48; omega), (by show nx S69 ≤ wr S69; omega)⟩
      · refine am_e13f hi_55_43 (am_cF (m := v48.toInt) (n := (48 : Int)) rfl (by decide) c49) ?_
        refine am_e2 (v := 2) hi_55_46 rfl ?_
        refine cm_20f (r := 1) h hi_55_47 (h.1.s (2, 2) (by decide)) (by decide) rfl ?_
        refine am_e0 hi_55_50 ?_
        refine am_e2 (v := 2) hi_55_52 rfl ?_
        refine cm_20i h hi_55_53 (h.1.s (2, 2) (by decide)) (by decide) rfl fun v92 hv92 => ?_
        have hv92_ : v92.toInt = nx S := hv92
        refine am_e32t (as := [.ref 1, .int 8, .int v92]) (la := [some (.ref 1), some (.int 8), some (.int v92)]) (rest := []) hi_55_56 (am_hd0 (M := 55) (by decide) 56) (Nat.le_of_ble_eq_true rfl) (Nat.le_of_ble_eq_true rfl) (show 3 ≤ am_P0.2.2.1 58 from by decide +kernel) rfl (cl_recv (h.1.s (1, 1) (by decide))) rfl rfl (ck_refuse (d := d) h (by show 0 ≤ nx S; omega) (by show nx S ≤ wr S; omega)) (fun S93 h94 => (show TH aw 134 S S93 from ⟨h94.1, (Ex.refl S).trans h94.2.1, ⟨(by have q := h94.2.2.1.1; omega), h94.2.2.1.2.trans rfl⟩, h94.2.2.2.1, h94.2.2.2.2.1, (by have q := h94.2.2.2.2.2; omega)⟩)) (fun _ _ q => q.elim)
  · refine am_e12f hi_55_17 (am_cF (m := r11.toInt) (n := (0 : Int)) rfl (by decide) c15) ?_
    refine am_e2 (v := 2) hi_55_20 rfl ?_
    refine am_e7 hi_55_21 ?_
    refine cm_20i h hi_55_22 (h.1.s (2, 2) (by decide)) (by decide) rfl fun v95 hv95 => ?_
    have hv95_ : v95.toInt = lv S := hv95
    refine am_e0 hi_55_25 ?_
    obtain ⟨z96, hz96, tz96⟩ := am_subI (x := v95) (y := 1) (m := v95.toInt) (n := (1 : Int)) rfl (by decide) (by omega) (by omega)
    refine am_e10 (z := z96) hi_55_26 hz96 ?_
    refine cm_21w h hi_55_27 (by decide) rfl fun S97 h98 h99 h100 h101 h102 h103 h104 => ?_
    have h105 : lv S97 = z96.toInt := h101
    have h106 : nx S97 = nx S := h100 2 2 (by decide)
    have h107 : wr S97 = wr S := h100 3 1 (by decide)
    have h108 : os S97 = os S := h100 13 1 (by decide)
    have h109 : fl S97 = fl S := by unfold fl; rw [h103]; exact h100 _ _ (Or.inl (by intro z; have z2 := h.nwc; rw [z] at z2; have z3 := h.1.s (2, 2) (by decide); rw [show ((2, 2) : Nat × Nat).1 = 2 from rfl, z2] at z3; cases z3))
    have h110 : ∀ t, cl (am_fs S) t = some 3 → iv S97 t 1 = iv S t 1 := fun t _ => h100 t 1 (Or.inr (by decide))
    refine am_e1 (v := r4) hi_55_30 rfl ?_
    refine am_e32n (as := [.int r4]) (la := [some (.int r4)]) (rest := []) hi_55_31 (am_hd0 (M := 55) (by decide) 31) (Nat.le_of_ble_eq_true rfl) (Nat.le_of_ble_eq_true rfl) (show 1 ≤ am_P0.2.2.1 57 from by decide +kernel) rfl rfl rfl rfl (ck_opens (d := (d + 12)) h98   ) ?_
    rintro v112 S113 ⟨r114, rfl, hb117, rfl, h116⟩
    have h116_ : (r114.toInt = 1 ∧ (r4.toInt = 60 ∨ r4.toInt = 64 ∨ r4.toInt = 62 ∨ r4.toInt = 12 ∨ r4.toInt = 28 ∨ r4.toInt = 13 ∨ r4.toInt = 26 ∨ r4.toInt = 18)) ∨ (r114.toInt = 0 ∧ ¬ (r4.toInt = 60 ∨ r4.toInt = 64 ∨ r4.toInt = 62 ∨ r4.toInt = 12 ∨ r4.toInt = 28 ∨ r4.toInt = 13 ∨ r4.toInt = 26 ∨ r4.toInt = 18)) := h116
    have hb117_ : r114.toInt = 0 ∨ r114.toInt = 1 := hb117.elim (fun e => Or.inl (by rw [e]; rfl)) (fun e => Or.inr (by rw [e]; rfl))
    show am_E _ _ _ _ [some (.ref 2), some (.int r4)] [.int r114] _ _
    by_cases c118 : r114.toInt = (0 : Int)
    · refine am_e12t hi_55_34 (am_cT (m := r114.toInt) (n := (0 : Int)) rfl (by decide) c118) ?_
      refine am_e2 (v := 2) hi_55_69 rfl ?_
      refine am_e7 hi_55_70 ?_
      refine cm_20i h98 hi_55_71 (h98.1.s (2, 2) (by decide)) (by decide) rfl fun v119 hv119 => ?_
      have hv119_ : v119.toInt = nx S97 := hv119
      refine am_e0 hi_55_74 ?_
      obtain ⟨z120, hz120, tz120⟩ := am_addI (x := v119) (y := 1) (m := v119.toInt) (n := (1 : Int)) rfl (by decide) (by omega) (by omega)
      refine am_e10 (z := z120) hi_55_75 hz120 ?_
      refine cm_21w h98 hi_55_76 (by decide) rfl fun S121 h122 h123 h124 h125 h126 h127 h128 => ?_
      have h129 : nx S121 = z120.toInt := h125
      have h130 : lv S121 = lv S97 := h124 2 3 (by decide)
      have h131 : wr S121 = wr S97 := h124 3 1 (by decide)
      have h132 : os S121 = os S97 := h124 13 1 (by decide)
      have h133 : fl S121 = fl S97 := by unfold fl; rw [h127]; exact h124 _ _ (Or.inl (by intro z; have z2 := h98.nwc; rw [z] at z2; have z3 := h98.1.s (2, 2) (by decide); rw [show ((2, 2) : Nat × Nat).1 = 2 from rfl, z2] at z3; cases z3))
      have h134 : ∀ t, cl (am_fs S97) t = some 3 → iv S121 t 1 = iv S97 t 1 := fun t _ => h124 t 1 (Or.inr (by decide))
      refine am_e2 (v := 2) hi_55_79 rfl ?_
      refine cm_20f (r := 3) h122 hi_55_80 (h122.1.s (2, 2) (by decide)) (by decide) rfl ?_
      refine am_e2 (v := 2) hi_55_83 rfl ?_
      refine cm_20i h122 hi_55_84 (h122.1.s (2, 2) (by decide)) (by decide) rfl fun v136 hv136 => ?_
      have hv136_ : v136.toInt = nx S121 := hv136
      refine am_e0 hi_55_87 ?_
      obtain ⟨z137, hz137, tz137⟩ := am_subI (x := v136) (y := 1) (m := v136.toInt) (n := (1 : Int)) rfl (by decide) (by omega) (by omega)
      refine am_e10 (z := z137) hi_55_88 hz137 ?_
      refine am_e0 hi_55_89 ?_
      refine am_e32n (as := [.ref 3, .int z137, .int 1]) (la := [some (.ref 3), some (.int z137), some (.int 1)]) (rest := []) hi_55_90 (am_hd0 (M := 55) (by decide) 90) (Nat.le_of_ble_eq_true rfl) (Nat.le_of_ble_eq_true rfl) (show 3 ≤ am_P0.2.2.1 54 from by decide +kernel) rfl (cl_recv (h122.1.s (3, 3) (by decide))) rfl rfl (ck_getw (d := (d + 12)) h122   ) ?_
      rintro v138 S139 ⟨r140, rfl, rfl, h142⟩
      have h142_ : (1 : Int) = 0 → r140.toInt = kA aw S121 z137.toInt := h142
      show am_E _ _ _ _ [some (.ref 2), some (.int r4)] [.int r140] _ _
      refine am_e33 hi_55_93 ?_
      exact ⟨r140, rfl, ⟨h122, (h99.trans h123), ⟨(by show wr S121 = wr S; omega), (h126.trans h102)⟩, ⟨(by show os S121 = os S; omega), (h127.trans h103), (by show fl S121 = fl S; omega)⟩, (fun t ht => ((h134 t (h99.1 _ _ ht)).trans (h110 t ht))), (by show EN S121 ≤ EN S; omega)⟩, (by show nx S121 = nx S + 1; omega), (by show lv S121 = lv S + c_dl (kd aw S); unfold c_dl; split <;> split <;> omega), (by show lv S121 ≤ 48; omega), (by show nx S121 ≤ wr S121; omega)⟩
    · refine am_e12f hi_55_34 (am_cF (m := r114.toInt) (n := (0 : Int)) rfl (by decide) c118) ?_
      refine am_e2 (v := 2) hi_55_37 rfl ?_
      refine cm_20i h98 hi_55_38 (h98.1.s (2, 2) (by decide)) (by decide) rfl fun v144 hv144 => ?_
      have hv144_ : v144.toInt = lv S97 := hv144
      refine am_e0 hi_55_41 ?_
      refine am_e13t hi_55_43 (am_cT (m := v144.toInt) (n := (48 : Int)) rfl (by decide) (by simp only [am_cI]; omega)) ?_
      refine am_e2 (v := 2) hi_55_59 rfl ?_
      refine am_e7 hi_55_60 ?_
      refine cm_20i h98 hi_55_61 (h98.1.s (2, 2) (by decide)) (by decide) rfl fun v145 hv145 => ?_
      have hv145_ : v145.toInt = lv S97 := hv145
      refine am_e0 hi_55_64 ?_
      obtain ⟨z146, hz146, tz146⟩ := am_addI (x := v145) (y := 1) (m := v145.toInt) (n := (1 : Int)) rfl (by decide) (by omega) (by omega)
      refine am_e10 (z := z146) hi_55_65 hz146 ?_
      refine cm_21w h98 hi_55_66 (by decide) rfl fun S147 h148 h149 h150 h151 h152 h153 h154 => ?_
      have h155 : lv S147 = z146.toInt := h151
      have h156 : nx S147 = nx S97 := h150 2 2 (by decide)
      have h157 : wr S147 = wr S97 := h150 3 1 (by decide)
      have h158 : os S147 = os S97 := h150 13 1 (by decide)
      have h159 : fl S147 = fl S97 := by unfold fl; rw [h153]; exact h150 _ _ (Or.inl (by intro z; have z2 := h98.nwc; rw [z] at z2; have z3 := h98.1.s (2, 2) (by decide); rw [show ((2, 2) : Nat × Nat).1 = 2 from rfl, z2] at z3; cases z3))
      have h160 : ∀ t, cl (am_fs S97) t = some 3 → iv S147 t 1 = iv S97 t 1 := fun t _ => h150 t 1 (Or.inr (by decide))
      refine am_e2 (v := 2) hi_55_69 rfl ?_
      refine am_e7 hi_55_70 ?_
      refine cm_20i h148 hi_55_71 (h148.1.s (2, 2) (by decide)) (by decide) rfl fun v162 hv162 => ?_
      have hv162_ : v162.toInt = nx S147 := hv162
      refine am_e0 hi_55_74 ?_
      obtain ⟨z163, hz163, tz163⟩ := am_addI (x := v162) (y := 1) (m := v162.toInt) (n := (1 : Int)) rfl (by decide) (by omega) (by omega)
      refine am_e10 (z := z163) hi_55_75 hz163 ?_
      refine cm_21w h148 hi_55_76 (by decide) rfl fun S164 h165 h166 h167 h168 h169 h170 h171 => ?_
      have h172 : nx S164 = z163.toInt := h168
      have h173 : lv S164 = lv S147 := h167 2 3 (by decide)
      have h174 : wr S164 = wr S147 := h167 3 1 (by decide)
      have h175 : os S164 = os S147 := h167 13 1 (by decide)
      have h176 : fl S164 = fl S147 := by unfold fl; rw [h170]; exact h167 _ _ (Or.inl (by intro z; have z2 := h148.nwc; rw [z] at z2; have z3 := h148.1.s (2, 2) (by decide); rw [show ((2, 2) : Nat × Nat).1 = 2 from rfl, z2] at z3; cases z3))
      have h177 : ∀ t, cl (am_fs S147) t = some 3 → iv S164 t 1 = iv S147 t 1 := fun t _ => h167 t 1 (Or.inr (by decide))
      refine am_e2 (v := 2) hi_55_79 rfl ?_
      refine cm_20f (r := 3) h165 hi_55_80 (h165.1.s (2, 2) (by decide)) (by decide) rfl ?_
      refine am_e2 (v := 2) hi_55_83 rfl ?_
      refine cm_20i h165 hi_55_84 (h165.1.s (2, 2) (by decide)) (by decide) rfl fun v179 hv179 => ?_
      have hv179_ : v179.toInt = nx S164 := hv179
      refine am_e0 hi_55_87 ?_
      obtain ⟨z180, hz180, tz180⟩ := am_subI (x := v179) (y := 1) (m := v179.toInt) (n := (1 : Int)) rfl (by decide) (by omega) (by omega)
      refine am_e10 (z := z180) hi_55_88 hz180 ?_
      refine am_e0 hi_55_89 ?_
      refine am_e32n (as := [.ref 3, .int z180, .int 1]) (la := [some (.ref 3), some (.int z180), some (.int 1)]) (rest := []) hi_55_90 (am_hd0 (M := 55) (by decide) 90) (Nat.le_of_ble_eq_true rfl) (Nat.le_of_ble_eq_true rfl) (show 3 ≤ am_P0.2.2.1 54 from by decide +kernel) rfl (cl_recv (h165.1.s (3, 3) (by decide))) rfl rfl (ck_getw (d := (d + 12)) h165   ) ?_
      rintro v181 S182 ⟨r183, rfl, rfl, h185⟩
      have h185_ : (1 : Int) = 0 → r183.toInt = kA aw S164 z180.toInt := h185
      show am_E _ _ _ _ [some (.ref 2), some (.int r4)] [.int r183] _ _
      refine am_e33 hi_55_93 ?_
      exact ⟨r183, rfl, ⟨h165, ((h99.trans h149).trans h166), ⟨(by show wr S164 = wr S; omega), (h169.trans (h152.trans h102))⟩, ⟨(by show os S164 = os S; omega), (h170.trans (h153.trans h103)), (by show fl S164 = fl S; omega)⟩, (fun t ht => ((h177 t (h149.1 _ _ (h99.1 _ _ ht))).trans ((h160 t (h99.1 _ _ ht)).trans (h110 t ht)))), (by show EN S164 ≤ EN S; omega)⟩, (by show nx S164 = nx S + 1; omega), (by show lv S164 = lv S + c_dl (kd aw S); unfold c_dl; split <;> split <;> omega), (by show lv S164 ≤ 48; omega), (by show nx S164 ≤ wr S164; omega)⟩
theorem ck_take {sc : Nat × (Nat → Int32)} {d aw : Nat} {S : am_S} {k : Int32} (h : SH aw S) (p0 : 0 ≤ nx S) (p1 : nx S ≤ wr S) (p2 : wr S ≤ 600) (p3 : 0 ≤ lv S) (p4 : lv S ≤ 48) (p5 : ¬ k.toInt = 0) : am_E (am_PP sc) (d + 14) 64 0 [some (.ref 2), some (.int k)] [] S (am_T (fun v S1 => ∃ r : Int32, v = some (.int r) ∧ Wd aw S S1 ∧ (kd aw S = k.toInt) ∧ (nx S1 = nx S + 1) ∧ (lv S1 = lv S + c_dl (kd aw S)) ∧ (lv S1 ≤ 48) ∧ (nx S1 ≤ wr S1)) (fun S1 => TH aw 134 S S1)) := by
  refine am_e2 (v := 2) hi_64_0 rfl ?_
  refine am_e1 (v := k) hi_64_1 rfl ?_
  refine am_e32t (as := [.ref 2, .int k]) (la := [some (.ref 2), some (.int k)]) (rest := []) hi_64_2 (am_hd0 (M := 64) (by decide) 2) (Nat.le_of_ble_eq_true rfl) (Nat.le_of_ble_eq_true rfl) (show 2 ≤ am_P0.2.2.1 65 from by decide +kernel) rfl (cl_recv (h.1.s (2, 2) (by decide))) rfl rfl (ck_need (d := d) h   (by show 0 ≤ nx S; omega) (by show nx S ≤ wr S; omega)) (fun S14 h15 => (show TH aw 134 S S14 from ⟨h15.1, (Ex.refl S).trans h15.2.1, ⟨(by have q := h15.2.2.1.1; omega), h15.2.2.1.2.trans rfl⟩, h15.2.2.2.1, h15.2.2.2.2.1, (by have q := h15.2.2.2.2.2; omega)⟩)) ?_
  rintro v1 S2 ⟨rfl, rfl, h5⟩
  have h5_ : kd aw S = k.toInt := h5
  show am_E _ _ _ _ [some (.ref 2), some (.int k)] [] _ _
  refine am_e2 (v := 2) hi_64_5 rfl ?_
  refine am_e32t (as := [.ref 2]) (la := [some (.ref 2), none]) (rest := []) hi_64_6 (am_hd0 (M := 64) (by decide) 6) (Nat.le_of_ble_eq_true rfl) (Nat.le_of_ble_eq_true rfl) (show 1 ≤ am_P0.2.2.1 55 from by decide +kernel) rfl (cl_recv (h.1.s (2, 2) (by decide))) rfl rfl (ck_skip (d := d) h   (by show 0 ≤ nx S; omega) (by show nx S ≤ wr S; omega) (by show wr S ≤ 600; omega) (by show 0 ≤ lv S; omega) (by show lv S ≤ 48; omega) (by show kd aw S ≠ 0; omega)) (fun S32 h33 => (show TH aw 134 S S32 from ⟨h33.1, (Ex.refl S).trans h33.2.1, ⟨(by have q := h33.2.2.1.1; omega), h33.2.2.1.2.trans rfl⟩, h33.2.2.2.1, h33.2.2.2.2.1, (by have q := h33.2.2.2.2.2; omega)⟩)) ?_
  rintro v16 S17 ⟨r18, rfl, h19, h20, h21, h22, h23⟩
  have h20_ : nx S17 = nx S + 1 := h20
  have h21_ : lv S17 = lv S + c_dl (kd aw S) := h21
  have h22_ : lv S17 ≤ 48 := h22
  have h23_ : nx S17 ≤ wr S17 := h23
  obtain ⟨h34, h35, ⟨h38, h39⟩, ⟨h40, h41, h42⟩, h43, h44⟩ := h19
  show am_E _ _ _ _ [some (.ref 2), some (.int k)] [.int r18] _ _
  refine am_e33 hi_64_9 ?_
  exact ⟨r18, rfl, ⟨h34, h35, ⟨(by show wr S17 = wr S; omega), h39⟩, ⟨(by show os S17 = os S; omega), h41, (by show fl S17 = fl S; omega)⟩, (fun t ht => (h43 t ht)), (by show EN S17 ≤ EN S; omega)⟩, (by show kd aw S = k.toInt; omega), (by show nx S17 = nx S + 1; omega), (by show lv S17 = lv S + c_dl (kd aw S); omega), (by show lv S17 ≤ 48; omega), (by show nx S17 ≤ wr S17; omega)⟩
