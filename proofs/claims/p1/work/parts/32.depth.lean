/-! depth ON A NEW OBJECT: every path, class and reference (printed by wip/p1/gen26.py) -/
set_option maxRecDepth 10000 in
theorem pw_depth_0 {sc : Nat × (Nat → Int32)} {S : am_S} {a : Int32} (F : am_F0 S) (ahi : a.toInt ≤ -1) : ∃ (v : Int32) (S1 S2 : am_S) (fs : List Value), am_R (am_PP sc) 59 163 0 [some (.ref 0), some (.int a), none] [] S (some (some (.int v))) S1 ∧ am_R (am_PP sc) 59 273 0 [some (.ref 39), some (.int a), none, none, none, none] [] S1 (some (some (.int v))) S2 ∧ S2.2 = S.2 ∧ am_fs S1 39 = some (11, fs) := by
  obtain ⟨⟨e35_0, e35_1, e35_2, e35_3, e75_0, e76_0, e77_0, e78_0, e79_0, e80_0⟩, ⟨e81_0, e82_0, e87_0, e89_0, e90_0, e91_0, e92_0, e93_0, g38, h38_0⟩, ⟨o0, o2, o3, o32, o33, o34, o36, o39, o5, o6⟩, ⟨q35, q4, q40, q41, q75, q76, q77, q78, q79, q80⟩, ⟨q81, q82, q87, q89, q90, q91, q92, q93⟩⟩ := F
  refine ⟨(-1), S, S, _, ?_, ?_, rfl, o39⟩
  · refine am_q2 (v := 0) hi_163_0 rfl ?_
    refine am_q20 (v := .ref 5) hi_163_1 o0 rfl ?_
    refine am_q1 (v := a) hi_163_4 rfl ?_
    refine am_q32 (v := some .null) (S1 := S) (as := [.ref 5, .int a]) (la := [some (.ref 5), some (.int a)]) (rest := []) hi_163_5 (Nat.le_of_ble_eq_true rfl) (Nat.le_of_ble_eq_true rfl) (show 2 ≤ am_P0.2.2.1 159 from by decide +kernel) rfl (am_recv_ok o5) rfl rfl ?_ ?_
    · refine am_q1 (v := a) hi_159_0 rfl ?_
      refine am_q12t hi_159_1 (am_cT (m := a.toInt) (n := (0 : Int)) rfl (by decide) (by simp only [am_cI]; omega)) ?_
      refine am_q29 hi_159_37 ?_
      exact am_q34n hi_159_38
    show am_R _ _ _ _ [some (.ref 0), some (.int a), none] [.null] _ _ _
    refine am_q4n (ls' := [some (.ref 0), some (.int a), some .null]) hi_163_8 (Nat.le_of_ble_eq_true rfl) rfl ?_
    refine am_q2n hi_163_9 rfl ?_
    refine am_q15n hi_163_10 ?_
    refine am_q0 hi_163_13 ?_
    refine am_q18 hi_163_14 ?_
    exact am_q33 hi_163_25
  · refine am_q2 (v := 39) hi_273_0 rfl ?_
    refine am_q1 (v := a) hi_273_1 rfl ?_
    refine am_q32 (v := some (.int 0)) (S1 := S) (as := [.ref 39, .int a]) (la := [some (.ref 39), some (.int a)]) (rest := []) hi_273_2 (Nat.le_of_ble_eq_true rfl) (Nat.le_of_ble_eq_true rfl) (show 2 ≤ am_P0.2.2.1 270 from by decide +kernel) rfl (am_recv_ok o39) rfl rfl ?_ ?_
    · refine am_q1 (v := a) hi_270_0 rfl ?_
      refine am_q12t hi_270_1 (am_cT (m := a.toInt) (n := (0 : Int)) rfl (by decide) (by simp only [am_cI]; omega)) ?_
      refine am_q0 hi_270_16 ?_
      exact am_q36 hi_270_17 (by decide)
    show am_R _ _ _ _ [some (.ref 39), some (.int a), none, none, none, none] [.int 0] _ _ _
    refine am_q12f hi_273_5 (by decide) ?_
    refine am_q0 hi_273_8 ?_
    exact am_q33 hi_273_9
set_option maxRecDepth 10000 in
theorem pw_depth_1 {sc : Nat × (Nat → Int32)} {S : am_S} (F : am_F0 S) : ∃ (v : Int32) (S1 S2 : am_S) (fs : List Value), am_R (am_PP sc) 59 163 0 [some (.ref 0), some (.int 0), none] [] S (some (some (.int v))) S1 ∧ am_R (am_PP sc) 59 273 0 [some (.ref 39), some (.int 0), none, none, none, none] [] S1 (some (some (.int v))) S2 ∧ S2.2 = S.2 ∧ am_fs S1 39 = some (11, fs) := by
  obtain ⟨⟨e35_0, e35_1, e35_2, e35_3, e75_0, e76_0, e77_0, e78_0, e79_0, e80_0⟩, ⟨e81_0, e82_0, e87_0, e89_0, e90_0, e91_0, e92_0, e93_0, g38, h38_0⟩, ⟨o0, o2, o3, o32, o33, o34, o36, o39, o5, o6⟩, ⟨q35, q4, q40, q41, q75, q76, q77, q78, q79, q80⟩, ⟨q81, q82, q87, q89, q90, q91, q92, q93⟩⟩ := F
  refine ⟨0, S, S, _, ?_, ?_, rfl, o39⟩
  · refine am_q2 (v := 0) hi_163_0 rfl ?_
    refine am_q20 (v := .ref 5) hi_163_1 o0 rfl ?_
    refine am_q1 (v := 0) hi_163_4 rfl ?_
    refine am_q32 (v := some (.ref 33)) (S1 := S) (as := [.ref 5, .int 0]) (la := [some (.ref 5), some (.int 0)]) (rest := []) hi_163_5 (Nat.le_of_ble_eq_true rfl) (Nat.le_of_ble_eq_true rfl) (show 2 ≤ am_P0.2.2.1 159 from by decide +kernel) rfl (am_recv_ok o5) rfl rfl ?_ ?_
    · refine am_q1 (v := 0) hi_159_0 rfl ?_
      refine am_q12f hi_159_1 (by decide) ?_
      refine am_q1 (v := 0) hi_159_4 rfl ?_
      refine am_q2 (v := 5) hi_159_5 rfl ?_
      refine am_q20 (v := .int 1) hi_159_6 o5 rfl ?_
      refine am_q13f hi_159_9 (by decide) ?_
      refine am_q1 (v := 0) hi_159_12 rfl ?_
      refine am_q2 (v := 5) hi_159_13 rfl ?_
      refine am_q20 (v := .ref 6) hi_159_14 o5 rfl ?_
      refine am_q32 (v := some (.int 1)) (S1 := S) (as := [.ref 6]) (la := [some (.ref 6)]) (rest := [.int 0]) hi_159_17 (Nat.le_of_ble_eq_true rfl) (Nat.le_of_ble_eq_true rfl) (show 1 ≤ am_P0.2.2.1 14 from by decide +kernel) rfl (am_recv_ok o6) rfl rfl ?_ ?_
      · refine am_q2 (v := 6) hi_14_0 rfl ?_
        refine am_q20 (v := .int 1) hi_14_1 o6 rfl ?_
        exact am_q33 hi_14_4
      show am_R _ _ _ _ [some (.ref 5), some (.int 0)] [.int 1, .int 0] _ _ _
      refine am_q13f hi_159_20 (by decide) ?_
      refine am_q2 (v := 5) hi_159_23 rfl ?_
      refine am_q20 (v := .ref 6) hi_159_24 o5 rfl ?_
      refine am_q1 (v := 0) hi_159_27 rfl ?_
      refine am_q32 (v := some (.ref 33)) (S1 := S) (as := [.ref 6, .int 0]) (la := [some (.ref 6), some (.int 0)]) (rest := []) hi_159_28 (Nat.le_of_ble_eq_true rfl) (Nat.le_of_ble_eq_true rfl) (show 2 ≤ am_P0.2.2.1 25 from by decide +kernel) rfl (am_recv_ok o6) rfl rfl ?_ ?_
      · refine am_q1 (v := 0) hi_25_0 rfl ?_
        refine am_q2 (v := 6) hi_25_1 rfl ?_
        refine am_q20 (v := .int 1) hi_25_2 o6 rfl ?_
        refine am_q32 (v := some (.int 0)) (S1 := S) (as := [.int 0, .int 1]) (la := [some (.int 0), some (.int 1)]) (rest := []) hi_25_5 (Nat.le_of_ble_eq_true rfl) (Nat.le_of_ble_eq_true rfl) (show 2 ≤ am_P0.2.2.1 26 from by decide +kernel) rfl rfl rfl rfl ?_ ?_
        · refine am_q1 (v := 0) hi_26_0 rfl ?_
          refine am_q1 (v := 1) hi_26_1 rfl ?_
          refine am_q29 hi_26_2 ?_
          refine am_q32 (v := some (.int 0)) (S1 := S) (as := [.int 0, .int 1, .null]) (la := [some (.int 0), some (.int 1), some .null]) (rest := []) hi_26_3 (Nat.le_of_ble_eq_true rfl) (Nat.le_of_ble_eq_true rfl) (show 3 ≤ am_P0.2.2.1 27 from by decide +kernel) rfl rfl rfl rfl ?_ ?_
          · refine am_q1 (v := 0) hi_27_0 rfl ?_
            refine am_q12f hi_27_1 (by decide) ?_
            refine am_q1 (v := 0) hi_27_4 rfl ?_
            refine am_q1 (v := 1) hi_27_5 rfl ?_
            refine am_q13t hi_27_6 (by decide) ?_
            refine am_q1 (v := 0) hi_27_16 rfl ?_
            exact am_q33 hi_27_17
          show am_R _ _ _ _ [some (.int 0), some (.int 1)] [.int 0] _ _ _
          exact am_q33 hi_26_6
        show am_R _ _ _ _ [some (.ref 6), some (.int 0)] [.int 0] _ _ _
        refine am_q6i hi_25_8 ?_
        refine am_q2 (v := 6) hi_25_9 rfl ?_
        refine am_q1 (v := 0) hi_25_10 rfl ?_
        refine am_q32 (v := some (.ref 33)) (S1 := S) (as := [.ref 6, .int 0]) (la := [some (.ref 6), some (.int 0)]) (rest := []) hi_25_11 (Nat.le_of_ble_eq_true rfl) (Nat.le_of_ble_eq_true rfl) (show 2 ≤ am_P0.2.2.1 28 from by decide +kernel) rfl (am_recv_ok o6) rfl rfl ?_ ?_
        · refine am_q2 (v := 6) hi_28_0 rfl ?_
          refine am_q20 (v := .ref 38) hi_28_1 o6 rfl ?_
          refine am_q1 (v := 0) hi_28_4 rfl ?_
          refine am_q39 (j := 0) hi_28_5 g38 (by decide) (by decide) (by decide) h38_0 ?_
          exact am_q34 hi_28_6
        show am_R _ _ _ _ [some (.ref 6), some (.int 0)] [.ref 33] _ _ _
        exact am_q34 hi_25_14
      show am_R _ _ _ _ [some (.ref 5), some (.int 0)] [.ref 33] _ _ _
      refine am_q30 hi_159_31 o33 ?_
      refine am_q18 hi_159_34 ?_
      exact am_q34 hi_159_38
    show am_R _ _ _ _ [some (.ref 0), some (.int 0), none] [.ref 33] _ _ _
    refine am_q4 (ls' := [some (.ref 0), some (.int 0), some (.ref 33)]) hi_163_8 (Nat.le_of_ble_eq_true rfl) rfl ?_
    refine am_q2 (v := 33) hi_163_9 rfl ?_
    refine am_q15r hi_163_10 ?_
    refine am_q2 (v := 0) hi_163_17 rfl ?_
    refine am_q20 (v := .ref 32) hi_163_18 o0 rfl ?_
    refine am_q2 (v := 33) hi_163_21 rfl ?_
    refine am_q32 (v := some (.int 0)) (S1 := S) (as := [.ref 32, .ref 33]) (la := [some (.ref 32), some (.ref 33), none, none, none]) (rest := []) hi_163_22 (Nat.le_of_ble_eq_true rfl) (Nat.le_of_ble_eq_true rfl) (show 2 ≤ am_P0.2.2.1 164 from by decide +kernel) rfl (am_recv_ok o32) rfl rfl ?_ ?_
    · refine am_q0 hi_164_0 ?_
      refine am_q3 (ls' := [some (.ref 32), some (.ref 33), some (.int 0), none, none]) hi_164_1 (Nat.le_of_ble_eq_true rfl) rfl ?_
      refine am_q0 hi_164_2 ?_
      refine am_q3 (ls' := [some (.ref 32), some (.ref 33), some (.int 0), some (.int 0), none]) hi_164_3 (Nat.le_of_ble_eq_true rfl) rfl ?_
      refine am_q0 hi_164_4 ?_
      refine am_q3 (ls' := [some (.ref 32), some (.ref 33), some (.int 0), some (.int 0), some (.int 0)]) hi_164_5 (Nat.le_of_ble_eq_true rfl) rfl ?_
      refine am_q1 (v := 0) hi_164_7 rfl ?_
      refine am_q2 (v := 33) hi_164_9 rfl ?_
      refine am_q20 (v := .ref 34) hi_164_10 o33 rfl ?_
      refine am_q32 (v := some (.int 1)) (S1 := S) (as := [.ref 34]) (la := [some (.ref 34)]) (rest := [.int 0]) hi_164_13 (Nat.le_of_ble_eq_true rfl) (Nat.le_of_ble_eq_true rfl) (show 1 ≤ am_P0.2.2.1 36 from by decide +kernel) rfl (am_recv_ok o34) rfl rfl ?_ ?_
      · refine am_q2 (v := 34) hi_36_0 rfl ?_
        refine am_q20 (v := .int 1) hi_36_1 o34 rfl ?_
        exact am_q33 hi_36_4
      show am_R _ _ _ _ [some (.ref 32), some (.ref 33), some (.int 0), some (.int 0), some (.int 0)] [.int 1, .int 0] _ _ _
      refine am_q13f hi_164_16 (by decide) ?_
      refine am_q1 (v := 0) hi_164_19 rfl ?_
      refine am_q2 (v := 33) hi_164_20 rfl ?_
      refine am_q1 (v := 0) hi_164_21 rfl ?_
      refine am_q32 (v := some (.int 0)) (S1 := S) (as := [.ref 33, .int 0]) (la := [some (.ref 33), some (.int 0), none, none, none]) (rest := [.int 0]) hi_164_23 (Nat.le_of_ble_eq_true rfl) (Nat.le_of_ble_eq_true rfl) (show 2 ≤ am_P0.2.2.1 165 from by decide +kernel) rfl rfl rfl rfl ?_ ?_
      · refine am_q2 (v := 33) hi_165_0 rfl ?_
        refine am_q20 (v := .ref 34) hi_165_1 o33 rfl ?_
        refine am_q1 (v := 0) hi_165_4 rfl ?_
        refine am_q0 hi_165_5 ?_
        refine am_q32 (v := some (.int 45)) (S1 := S) (as := [.ref 34, .int 0, .int 0]) (la := [some (.ref 34), some (.int 0), some (.int 0)]) (rest := []) hi_165_6 (Nat.le_of_ble_eq_true rfl) (Nat.le_of_ble_eq_true rfl) (show 3 ≤ am_P0.2.2.1 54 from by decide +kernel) rfl (am_recv_ok o34) rfl rfl ?_ ?_
        · refine am_q1 (v := 0) hi_54_0 rfl ?_
          refine am_q12f hi_54_1 (by decide) ?_
          refine am_q1 (v := 0) hi_54_4 rfl ?_
          refine am_q2 (v := 34) hi_54_5 rfl ?_
          refine am_q20 (v := .int 1) hi_54_6 o34 rfl ?_
          refine am_q13f hi_54_9 (by decide) ?_
          refine am_q1 (v := 0) hi_54_12 rfl ?_
          refine am_q12f hi_54_13 (by decide) ?_
          refine am_q1 (v := 0) hi_54_16 rfl ?_
          refine am_q0 hi_54_17 ?_
          refine am_q13t hi_54_18 (by decide) ?_
          refine am_q2 (v := 34) hi_54_23 rfl ?_
          refine am_q20 (v := .ref 35) hi_54_24 o34 rfl ?_
          refine am_q1 (v := 0) hi_54_27 rfl ?_
          refine am_q0 hi_54_28 ?_
          refine am_q10 (z := 0) hi_54_29 (by decide) ?_
          refine am_q1 (v := 0) hi_54_30 rfl ?_
          refine am_q10 (z := 0) hi_54_31 (by decide) ?_
          refine am_q25 (v := 45) (j := 0) hi_54_32 q35 (by decide) (by decide) (by decide) (by decide) e35_0 ?_
          exact am_q33 hi_54_33
        show am_R _ _ _ _ [some (.ref 33), some (.int 0), none, none, none] [.int 45] _ _ _
        refine am_q3 (ls' := [some (.ref 33), some (.int 0), some (.int 45), none, none]) hi_165_9 (Nat.le_of_ble_eq_true rfl) rfl ?_
        refine am_q2 (v := 33) hi_165_10 rfl ?_
        refine am_q20 (v := .ref 34) hi_165_11 o33 rfl ?_
        refine am_q1 (v := 0) hi_165_14 rfl ?_
        refine am_q0 hi_165_15 ?_
        refine am_q32 (v := some (.int 0)) (S1 := S) (as := [.ref 34, .int 0, .int 1]) (la := [some (.ref 34), some (.int 0), some (.int 1)]) (rest := []) hi_165_16 (Nat.le_of_ble_eq_true rfl) (Nat.le_of_ble_eq_true rfl) (show 3 ≤ am_P0.2.2.1 54 from by decide +kernel) rfl (am_recv_ok o34) rfl rfl ?_ ?_
        · refine am_q1 (v := 0) hi_54_0 rfl ?_
          refine am_q12f hi_54_1 (by decide) ?_
          refine am_q1 (v := 0) hi_54_4 rfl ?_
          refine am_q2 (v := 34) hi_54_5 rfl ?_
          refine am_q20 (v := .int 1) hi_54_6 o34 rfl ?_
          refine am_q13f hi_54_9 (by decide) ?_
          refine am_q1 (v := 1) hi_54_12 rfl ?_
          refine am_q12f hi_54_13 (by decide) ?_
          refine am_q1 (v := 1) hi_54_16 rfl ?_
          refine am_q0 hi_54_17 ?_
          refine am_q13t hi_54_18 (by decide) ?_
          refine am_q2 (v := 34) hi_54_23 rfl ?_
          refine am_q20 (v := .ref 35) hi_54_24 o34 rfl ?_
          refine am_q1 (v := 0) hi_54_27 rfl ?_
          refine am_q0 hi_54_28 ?_
          refine am_q10 (z := 0) hi_54_29 (by decide) ?_
          refine am_q1 (v := 1) hi_54_30 rfl ?_
          refine am_q10 (z := 1) hi_54_31 (by decide) ?_
          refine am_q25 (v := 0) (j := 1) hi_54_32 q35 (by decide) (by decide) (by decide) (by decide) e35_1 ?_
          exact am_q33 hi_54_33
        show am_R _ _ _ _ [some (.ref 33), some (.int 0), some (.int 45), none, none] [.int 0] _ _ _
        refine am_q3 (ls' := [some (.ref 33), some (.int 0), some (.int 45), some (.int 0), none]) hi_165_19 (Nat.le_of_ble_eq_true rfl) rfl ?_
        refine am_q2 (v := 33) hi_165_20 rfl ?_
        refine am_q20 (v := .ref 34) hi_165_21 o33 rfl ?_
        refine am_q1 (v := 0) hi_165_24 rfl ?_
        refine am_q0 hi_165_25 ?_
        refine am_q32 (v := some (.int 0)) (S1 := S) (as := [.ref 34, .int 0, .int 2]) (la := [some (.ref 34), some (.int 0), some (.int 2)]) (rest := []) hi_165_26 (Nat.le_of_ble_eq_true rfl) (Nat.le_of_ble_eq_true rfl) (show 3 ≤ am_P0.2.2.1 54 from by decide +kernel) rfl (am_recv_ok o34) rfl rfl ?_ ?_
        · refine am_q1 (v := 0) hi_54_0 rfl ?_
          refine am_q12f hi_54_1 (by decide) ?_
          refine am_q1 (v := 0) hi_54_4 rfl ?_
          refine am_q2 (v := 34) hi_54_5 rfl ?_
          refine am_q20 (v := .int 1) hi_54_6 o34 rfl ?_
          refine am_q13f hi_54_9 (by decide) ?_
          refine am_q1 (v := 2) hi_54_12 rfl ?_
          refine am_q12f hi_54_13 (by decide) ?_
          refine am_q1 (v := 2) hi_54_16 rfl ?_
          refine am_q0 hi_54_17 ?_
          refine am_q13t hi_54_18 (by decide) ?_
          refine am_q2 (v := 34) hi_54_23 rfl ?_
          refine am_q20 (v := .ref 35) hi_54_24 o34 rfl ?_
          refine am_q1 (v := 0) hi_54_27 rfl ?_
          refine am_q0 hi_54_28 ?_
          refine am_q10 (z := 0) hi_54_29 (by decide) ?_
          refine am_q1 (v := 2) hi_54_30 rfl ?_
          refine am_q10 (z := 2) hi_54_31 (by decide) ?_
          refine am_q25 (v := 0) (j := 2) hi_54_32 q35 (by decide) (by decide) (by decide) (by decide) e35_2 ?_
          exact am_q33 hi_54_33
        show am_R _ _ _ _ [some (.ref 33), some (.int 0), some (.int 45), some (.int 0), none] [.int 0] _ _ _
        refine am_q3 (ls' := [some (.ref 33), some (.int 0), some (.int 45), some (.int 0), some (.int 0)]) hi_165_29 (Nat.le_of_ble_eq_true rfl) rfl ?_
        refine am_q1 (v := 45) hi_165_31 rfl ?_
        refine am_q0 hi_165_32 ?_
        refine am_q13f hi_165_33 (by decide) ?_
        refine am_q1 (v := 45) hi_165_36 rfl ?_
        refine am_q0 hi_165_37 ?_
        refine am_q13t hi_165_39 (by decide) ?_
        refine am_q1 (v := 45) hi_165_44 rfl ?_
        refine am_q19 (t := 247) hi_165_45 (by decide) ?_
        refine am_q1 (v := 0) hi_165_247 rfl ?_
        refine am_q11 (z := 0) hi_165_248 (by decide) ?_
        refine am_q1 (v := 0) hi_165_249 rfl ?_
        refine am_q10 (z := 0) hi_165_251 (by decide) ?_
        exact am_q33 hi_165_252
      show am_R _ _ _ _ [some (.ref 32), some (.ref 33), some (.int 0), some (.int 0), some (.int 0)] [.int 0, .int 0] _ _ _
      refine am_q10 (z := 0) hi_164_26 (by decide) ?_
      refine am_q3 (ls' := [some (.ref 32), some (.ref 33), some (.int 0), some (.int 0), some (.int 0)]) hi_164_27 (Nat.le_of_ble_eq_true rfl) rfl ?_
      refine am_q1 (v := 0) hi_164_28 rfl ?_
      refine am_q1 (v := 0) hi_164_29 rfl ?_
      refine am_q32 (v := some (.int 0)) (S1 := S) (as := [.int 0, .int 0]) (la := [some (.int 0), some (.int 0)]) (rest := []) hi_164_30 (Nat.le_of_ble_eq_true rfl) (Nat.le_of_ble_eq_true rfl) (show 2 ≤ am_P0.2.2.1 20 from by decide +kernel) rfl rfl rfl rfl ?_ ?_
      · refine am_q1 (v := 0) hi_20_0 rfl ?_
        refine am_q1 (v := 0) hi_20_1 rfl ?_
        refine am_q13f hi_20_2 (by decide) ?_
        refine am_q1 (v := 0) hi_20_5 rfl ?_
        refine am_q18 hi_20_6 ?_
        exact am_q33 hi_20_10
      show am_R _ _ _ _ [some (.ref 32), some (.ref 33), some (.int 0), some (.int 0), some (.int 0)] [.int 0] _ _ _
      refine am_q3 (ls' := [some (.ref 32), some (.ref 33), some (.int 0), some (.int 0), some (.int 0)]) hi_164_33 (Nat.le_of_ble_eq_true rfl) rfl ?_
      refine am_q5 (v := 0) (z := 1) (ls' := [some (.ref 32), some (.ref 33), some (.int 0), some (.int 0), some (.int 1)]) hi_164_34 rfl (by decide) rfl ?_
      refine am_q18 hi_164_37 ?_
      refine am_q1 (v := 1) hi_164_7 rfl ?_
      refine am_q2 (v := 33) hi_164_9 rfl ?_
      refine am_q20 (v := .ref 34) hi_164_10 o33 rfl ?_
      refine am_q32 (v := some (.int 1)) (S1 := S) (as := [.ref 34]) (la := [some (.ref 34)]) (rest := [.int 1]) hi_164_13 (Nat.le_of_ble_eq_true rfl) (Nat.le_of_ble_eq_true rfl) (show 1 ≤ am_P0.2.2.1 36 from by decide +kernel) rfl (am_recv_ok o34) rfl rfl ?_ ?_
      · refine am_q2 (v := 34) hi_36_0 rfl ?_
        refine am_q20 (v := .int 1) hi_36_1 o34 rfl ?_
        exact am_q33 hi_36_4
      show am_R _ _ _ _ [some (.ref 32), some (.ref 33), some (.int 0), some (.int 0), some (.int 1)] [.int 1, .int 1] _ _ _
      refine am_q13t hi_164_16 (by decide) ?_
      refine am_q1 (v := 0) hi_164_40 rfl ?_
      exact am_q33 hi_164_41
    show am_R _ _ _ _ [some (.ref 0), some (.int 0), some (.ref 33)] [.int 0] _ _ _
    exact am_q33 hi_163_25
  · refine am_q2 (v := 39) hi_273_0 rfl ?_
    refine am_q1 (v := 0) hi_273_1 rfl ?_
    refine am_q32 (v := some (.int 1)) (S1 := S) (as := [.ref 39, .int 0]) (la := [some (.ref 39), some (.int 0)]) (rest := []) hi_273_2 (Nat.le_of_ble_eq_true rfl) (Nat.le_of_ble_eq_true rfl) (show 2 ≤ am_P0.2.2.1 270 from by decide +kernel) rfl (am_recv_ok o39) rfl rfl ?_ ?_
    · refine am_q1 (v := 0) hi_270_0 rfl ?_
      refine am_q12f hi_270_1 (by decide) ?_
      refine am_q1 (v := 0) hi_270_4 rfl ?_
      refine am_q2 (v := 39) hi_270_5 rfl ?_
      refine am_q20 (v := .int 1) hi_270_6 o39 rfl ?_
      refine am_q13f hi_270_9 (by decide) ?_
      refine am_q0 hi_270_12 ?_
      refine am_q18 hi_270_13 ?_
      exact am_q36 hi_270_17 (by decide)
    show am_R _ _ _ _ [some (.ref 39), some (.int 0), none, none, none, none] [.int 1] _ _ _
    refine am_q12t hi_273_5 (by decide) ?_
    refine am_q0 hi_273_10 ?_
    refine am_q3 (ls' := [some (.ref 39), some (.int 0), some (.int 0), none, none, none]) hi_273_11 (Nat.le_of_ble_eq_true rfl) rfl ?_
    refine am_q0 hi_273_12 ?_
    refine am_q3 (ls' := [some (.ref 39), some (.int 0), some (.int 0), some (.int 0), none, none]) hi_273_13 (Nat.le_of_ble_eq_true rfl) rfl ?_
    refine am_q0 hi_273_14 ?_
    refine am_q3 (ls' := [some (.ref 39), some (.int 0), some (.int 0), some (.int 0), some (.int 0), none]) hi_273_15 (Nat.le_of_ble_eq_true rfl) rfl ?_
    refine am_q1 (v := 0) hi_273_17 rfl ?_
    refine am_q2 (v := 39) hi_273_19 rfl ?_
    refine am_q20 (v := .ref 81) hi_273_20 o39 rfl ?_
    refine am_q1 (v := 0) hi_273_23 rfl ?_
    refine am_q25 (v := 1) (j := 0) hi_273_24 q81 (by decide) (by decide) (by decide) (by decide) e81_0 ?_
    refine am_q13f hi_273_25 (by decide) ?_
    refine am_q2 (v := 39) hi_273_28 rfl ?_
    refine am_q20 (v := .ref 93) hi_273_29 o39 rfl ?_
    refine am_q2 (v := 39) hi_273_32 rfl ?_
    refine am_q20 (v := .ref 82) hi_273_33 o39 rfl ?_
    refine am_q1 (v := 0) hi_273_36 rfl ?_
    refine am_q25 (v := 0) (j := 0) hi_273_37 q82 (by decide) (by decide) (by decide) (by decide) e82_0 ?_
    refine am_q1 (v := 0) hi_273_38 rfl ?_
    refine am_q10 (z := 0) hi_273_40 (by decide) ?_
    refine am_q25 (v := 0) (j := 0) hi_273_41 q93 (by decide) (by decide) (by decide) (by decide) e93_0 ?_
    refine am_q3 (ls' := [some (.ref 39), some (.int 0), some (.int 0), some (.int 0), some (.int 0), some (.int 0)]) hi_273_42 (Nat.le_of_ble_eq_true rfl) rfl ?_
    refine am_q1 (v := 0) hi_273_44 rfl ?_
    refine am_q2 (v := 39) hi_273_45 rfl ?_
    refine am_q20 (v := .ref 89) hi_273_46 o39 rfl ?_
    refine am_q1 (v := 0) hi_273_49 rfl ?_
    refine am_q25 (v := 45) (j := 0) hi_273_51 q89 (by decide) (by decide) (by decide) (by decide) e89_0 ?_
    refine am_q2 (v := 39) hi_273_52 rfl ?_
    refine am_q20 (v := .ref 90) hi_273_53 o39 rfl ?_
    refine am_q1 (v := 0) hi_273_56 rfl ?_
    refine am_q25 (v := 0) (j := 0) hi_273_58 q90 (by decide) (by decide) (by decide) (by decide) e90_0 ?_
    refine am_q2 (v := 39) hi_273_59 rfl ?_
    refine am_q20 (v := .ref 91) hi_273_60 o39 rfl ?_
    refine am_q1 (v := 0) hi_273_63 rfl ?_
    refine am_q25 (v := 0) (j := 0) hi_273_65 q91 (by decide) (by decide) (by decide) (by decide) e91_0 ?_
    refine am_q32 (v := some (.int 0)) (S1 := S) (as := [.int 45, .int 0, .int 0]) (la := [some (.int 45), some (.int 0), some (.int 0)]) (rest := [.int 0]) hi_273_66 (Nat.le_of_ble_eq_true rfl) (Nat.le_of_ble_eq_true rfl) (show 3 ≤ am_P0.2.2.1 274 from by decide +kernel) rfl rfl rfl rfl ?_ ?_
    · refine am_q1 (v := 45) hi_274_0 rfl ?_
      refine am_q0 hi_274_1 ?_
      refine am_q13f hi_274_3 (by decide) ?_
      refine am_q1 (v := 45) hi_274_6 rfl ?_
      refine am_q0 hi_274_7 ?_
      refine am_q13f hi_274_9 (by decide) ?_
      refine am_q1 (v := 45) hi_274_12 rfl ?_
      refine am_q0 hi_274_13 ?_
      refine am_q13t hi_274_15 (by decide) ?_
      refine am_q1 (v := 45) hi_274_20 rfl ?_
      refine am_q19 (t := 216) hi_274_21 (by decide) ?_
      refine am_q1 (v := 0) hi_274_216 rfl ?_
      refine am_q11 (z := 0) hi_274_217 (by decide) ?_
      refine am_q1 (v := 0) hi_274_218 rfl ?_
      refine am_q10 (z := 0) hi_274_219 (by decide) ?_
      exact am_q33 hi_274_220
    show am_R _ _ _ _ [some (.ref 39), some (.int 0), some (.int 0), some (.int 0), some (.int 0), some (.int 0)] [.int 0, .int 0] _ _ _
    refine am_q10 (z := 0) hi_273_69 (by decide) ?_
    refine am_q3 (ls' := [some (.ref 39), some (.int 0), some (.int 0), some (.int 0), some (.int 0), some (.int 0)]) hi_273_70 (Nat.le_of_ble_eq_true rfl) rfl ?_
    refine am_q1 (v := 0) hi_273_71 rfl ?_
    refine am_q1 (v := 0) hi_273_72 rfl ?_
    refine am_q13t hi_273_73 (by decide) ?_
    refine am_q1 (v := 0) hi_273_80 rfl ?_
    refine am_q3 (ls' := [some (.ref 39), some (.int 0), some (.int 0), some (.int 0), some (.int 0), some (.int 0)]) hi_273_81 (Nat.le_of_ble_eq_true rfl) rfl ?_
    refine am_q5 (v := 0) (z := 1) (ls' := [some (.ref 39), some (.int 0), some (.int 0), some (.int 0), some (.int 1), some (.int 0)]) hi_273_82 rfl (by decide) rfl ?_
    refine am_q18 hi_273_85 ?_
    refine am_q1 (v := 1) hi_273_17 rfl ?_
    refine am_q2 (v := 39) hi_273_19 rfl ?_
    refine am_q20 (v := .ref 81) hi_273_20 o39 rfl ?_
    refine am_q1 (v := 0) hi_273_23 rfl ?_
    refine am_q25 (v := 1) (j := 0) hi_273_24 q81 (by decide) (by decide) (by decide) (by decide) e81_0 ?_
    refine am_q13t hi_273_25 (by decide) ?_
    refine am_q1 (v := 0) hi_273_88 rfl ?_
    exact am_q33 hi_273_89
set_option maxRecDepth 10000 in
theorem pw_depth_2 {sc : Nat × (Nat → Int32)} {S : am_S} {a : Int32} (F : am_F0 S) (alo : 1 ≤ a.toInt) : ∃ (v : Int32) (S1 S2 : am_S) (fs : List Value), am_R (am_PP sc) 59 163 0 [some (.ref 0), some (.int a), none] [] S (some (some (.int v))) S1 ∧ am_R (am_PP sc) 59 273 0 [some (.ref 39), some (.int a), none, none, none, none] [] S1 (some (some (.int v))) S2 ∧ S2.2 = S.2 ∧ am_fs S1 39 = some (11, fs) := by
  obtain ⟨⟨e35_0, e35_1, e35_2, e35_3, e75_0, e76_0, e77_0, e78_0, e79_0, e80_0⟩, ⟨e81_0, e82_0, e87_0, e89_0, e90_0, e91_0, e92_0, e93_0, g38, h38_0⟩, ⟨o0, o2, o3, o32, o33, o34, o36, o39, o5, o6⟩, ⟨q35, q4, q40, q41, q75, q76, q77, q78, q79, q80⟩, ⟨q81, q82, q87, q89, q90, q91, q92, q93⟩⟩ := F
  refine ⟨(-1), S, S, _, ?_, ?_, rfl, o39⟩
  · refine am_q2 (v := 0) hi_163_0 rfl ?_
    refine am_q20 (v := .ref 5) hi_163_1 o0 rfl ?_
    refine am_q1 (v := a) hi_163_4 rfl ?_
    refine am_q32 (v := some .null) (S1 := S) (as := [.ref 5, .int a]) (la := [some (.ref 5), some (.int a)]) (rest := []) hi_163_5 (Nat.le_of_ble_eq_true rfl) (Nat.le_of_ble_eq_true rfl) (show 2 ≤ am_P0.2.2.1 159 from by decide +kernel) rfl (am_recv_ok o5) rfl rfl ?_ ?_
    · refine am_q1 (v := a) hi_159_0 rfl ?_
      refine am_q12f hi_159_1 (am_cF (m := a.toInt) (n := (0 : Int)) rfl (by decide) (by simp only [am_cI]; omega)) ?_
      refine am_q1 (v := a) hi_159_4 rfl ?_
      refine am_q2 (v := 5) hi_159_5 rfl ?_
      refine am_q20 (v := .int 1) hi_159_6 o5 rfl ?_
      refine am_q13t hi_159_9 (am_cT (m := a.toInt) (n := (1 : Int)) rfl (by decide) (by simp only [am_cI]; omega)) ?_
      refine am_q29 hi_159_37 ?_
      exact am_q34n hi_159_38
    show am_R _ _ _ _ [some (.ref 0), some (.int a), none] [.null] _ _ _
    refine am_q4n (ls' := [some (.ref 0), some (.int a), some .null]) hi_163_8 (Nat.le_of_ble_eq_true rfl) rfl ?_
    refine am_q2n hi_163_9 rfl ?_
    refine am_q15n hi_163_10 ?_
    refine am_q0 hi_163_13 ?_
    refine am_q18 hi_163_14 ?_
    exact am_q33 hi_163_25
  · refine am_q2 (v := 39) hi_273_0 rfl ?_
    refine am_q1 (v := a) hi_273_1 rfl ?_
    refine am_q32 (v := some (.int 0)) (S1 := S) (as := [.ref 39, .int a]) (la := [some (.ref 39), some (.int a)]) (rest := []) hi_273_2 (Nat.le_of_ble_eq_true rfl) (Nat.le_of_ble_eq_true rfl) (show 2 ≤ am_P0.2.2.1 270 from by decide +kernel) rfl (am_recv_ok o39) rfl rfl ?_ ?_
    · refine am_q1 (v := a) hi_270_0 rfl ?_
      refine am_q12f hi_270_1 (am_cF (m := a.toInt) (n := (0 : Int)) rfl (by decide) (by simp only [am_cI]; omega)) ?_
      refine am_q1 (v := a) hi_270_4 rfl ?_
      refine am_q2 (v := 39) hi_270_5 rfl ?_
      refine am_q20 (v := .int 1) hi_270_6 o39 rfl ?_
      refine am_q13t hi_270_9 (am_cT (m := a.toInt) (n := (1 : Int)) rfl (by decide) (by simp only [am_cI]; omega)) ?_
      refine am_q0 hi_270_16 ?_
      exact am_q36 hi_270_17 (by decide)
    show am_R _ _ _ _ [some (.ref 39), some (.int a), none, none, none, none] [.int 0] _ _ _
    refine am_q12f hi_273_5 (by decide) ?_
    refine am_q0 hi_273_8 ?_
    exact am_q33 hi_273_9
theorem pw_depth {sc : Nat × (Nat → Int32)} {S : am_S} (F : am_F0 S) (a : Int32) : ∃ (v : Int32) (S1 S2 : am_S) (fs : List Value), am_R (am_PP sc) 59 163 0 [some (.ref 0), some (.int a), none] [] S (some (some (.int v))) S1 ∧ am_R (am_PP sc) 59 273 0 [some (.ref 39), some (.int a), none, none, none, none] [] S1 (some (some (.int v))) S2 ∧ S2.2 = S.2 ∧ am_fs S1 39 = some (11, fs) := by
  by_cases h : a.toInt < 0
  · exact pw_depth_0 F (by omega)
  · by_cases h : a.toInt < 1
    · obtain rfl : a = 0 := Int32.toInt_inj.mp (by have e : (0 : Int32).toInt = 0 := (by decide); omega)
      exact pw_depth_1 F
    · exact pw_depth_2 F (by omega)
