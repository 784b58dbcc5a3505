/-! code ON A NEW OBJECT: every path, class and reference (printed by wip/p1/gen26.py) -/
set_option maxRecDepth 10000 in
theorem pw_code_0 {sc : Nat × (Nat → Int32)} {S : am_S} {a : Int32} {b : Int32} {c : Int32} (F : am_F0 S) (ahi : a.toInt ≤ -1) : ∃ (v : Int32) (S1 S2 : am_S) (fs : List Value), am_R (am_PP sc) 59 162 0 [some (.ref 0), some (.int a), some (.int b), some (.int c), none] [] S (some (some (.int v))) S1 ∧ am_R (am_PP sc) 59 272 0 [some (.ref 39), some (.int a), some (.int b), some (.int c), none] [] S1 (some (some (.int v))) S2 ∧ S2.2 = S.2 ∧ am_fs S1 39 = some (11, fs) := by
  obtain ⟨⟨e35_0, e35_1, e35_2, e35_3, e75_0, e76_0, e77_0, e78_0, e79_0, e80_0⟩, ⟨e81_0, e82_0, e87_0, e89_0, e90_0, e91_0, e92_0, e93_0, g38, h38_0⟩, ⟨o0, o2, o3, o32, o33, o34, o36, o39, o5, o6⟩, ⟨q35, q4, q40, q41, q75, q76, q77, q78, q79, q80⟩, ⟨q81, q82, q87, q89, q90, q91, q92, q93⟩⟩ := F
  refine ⟨(-1), S, S, _, ?_, ?_, rfl, o39⟩
  · refine am_q2 (v := 0) hi_162_0 rfl ?_
    refine am_q20 (v := .ref 5) hi_162_1 o0 rfl ?_
    refine am_q1 (v := a) hi_162_4 rfl ?_
    refine am_q32 (v := some .null) (S1 := S) (as := [.ref 5, .int a]) (la := [some (.ref 5), some (.int a)]) (rest := []) hi_162_5 (Nat.le_of_ble_eq_true rfl) (Nat.le_of_ble_eq_true rfl) (show 2 ≤ am_P0.2.2.1 159 from by decide +kernel) rfl (am_recv_ok o5) rfl rfl ?_ ?_
    · refine am_q1 (v := a) hi_159_0 rfl ?_
      refine am_q12t hi_159_1 (am_cT (m := a.toInt) (n := (0 : Int)) rfl (by decide) (by simp only [am_cI]; omega)) ?_
      refine am_q29 hi_159_37 ?_
      exact am_q34n hi_159_38
    show am_R _ _ _ _ [some (.ref 0), some (.int a), some (.int b), some (.int c), none] [.null] _ _ _
    refine am_q4n (ls' := [some (.ref 0), some (.int a), some (.int b), some (.int c), some .null]) hi_162_8 (Nat.le_of_ble_eq_true rfl) rfl ?_
    refine am_q2n hi_162_10 rfl ?_
    refine am_q14n hi_162_12 ?_
    refine am_q0 hi_162_36 ?_
    exact am_q33 hi_162_37
  · refine am_q2 (v := 39) hi_272_0 rfl ?_
    refine am_q1 (v := a) hi_272_1 rfl ?_
    refine am_q32 (v := some (.int 0)) (S1 := S) (as := [.ref 39, .int a]) (la := [some (.ref 39), some (.int a)]) (rest := []) hi_272_2 (Nat.le_of_ble_eq_true rfl) (Nat.le_of_ble_eq_true rfl) (show 2 ≤ am_P0.2.2.1 270 from by decide +kernel) rfl (am_recv_ok o39) rfl rfl ?_ ?_
    · refine am_q1 (v := a) hi_270_0 rfl ?_
      refine am_q12t hi_270_1 (am_cT (m := a.toInt) (n := (0 : Int)) rfl (by decide) (by simp only [am_cI]; omega)) ?_
      refine am_q0 hi_270_16 ?_
      exact am_q36 hi_270_17 (by decide)
    show am_R _ _ _ _ [some (.ref 39), some (.int a), some (.int b), some (.int c), none] [.int 0] _ _ _
    refine am_q12t hi_272_5 (by decide) ?_
    refine am_q0 hi_272_22 ?_
    exact am_q33 hi_272_23
set_option maxRecDepth 10000 in
theorem pw_code_1 {sc : Nat × (Nat → Int32)} {S : am_S} {b : Int32} {c : Int32} (F : am_F0 S) (bhi : b.toInt ≤ -1) : ∃ (v : Int32) (S1 S2 : am_S) (fs : List Value), am_R (am_PP sc) 59 162 0 [some (.ref 0), some (.int 0), some (.int b), some (.int c), none] [] S (some (some (.int v))) S1 ∧ am_R (am_PP sc) 59 272 0 [some (.ref 39), some (.int 0), some (.int b), some (.int c), none] [] S1 (some (some (.int v))) S2 ∧ S2.2 = S.2 ∧ am_fs S1 39 = some (11, fs) := by
  obtain ⟨⟨e35_0, e35_1, e35_2, e35_3, e75_0, e76_0, e77_0, e78_0, e79_0, e80_0⟩, ⟨e81_0, e82_0, e87_0, e89_0, e90_0, e91_0, e92_0, e93_0, g38, h38_0⟩, ⟨o0, o2, o3, o32, o33, o34, o36, o39, o5, o6⟩, ⟨q35, q4, q40, q41, q75, q76, q77, q78, q79, q80⟩, ⟨q81, q82, q87, q89, q90, q91, q92, q93⟩⟩ := F
  refine ⟨(-1), S, S, _, ?_, ?_, rfl, o39⟩
  · refine am_q2 (v := 0) hi_162_0 rfl ?_
    refine am_q20 (v := .ref 5) hi_162_1 o0 rfl ?_
    refine am_q1 (v := 0) hi_162_4 rfl ?_
    refine am_q32 (v := some (.ref 33)) (S1 := S) (as := [.ref 5, .int 0]) (la := [some (.ref 5), some (.int 0)]) (rest := []) hi_162_5 (Nat.le_of_ble_eq_true rfl) (Nat.le_of_ble_eq_true rfl) (show 2 ≤ am_P0.2.2.1 159 from by decide +kernel) rfl (am_recv_ok o5) rfl rfl ?_ ?_
    · refine am_q1 (v := 0) hi_159_0 rfl ?_
      refine am_q12f hi_159_1 (by decide) ?_
      refine am_q1 (v := 0) hi_159_4 rfl ?_
      refine am_q2 (v := 5) hi_159_5 rfl ?_
      refine am_q20 (v := .int 1) hi_159_6 o5 rfl ?_
      refine am_q13f hi_159_9 (by decide) ?_
      refine am_q1 (v := 0) hi_159_12 rfl ?_
      refine am_q2 (v := 5) hi_159_13 rfl ?_
      refine am_q20 (v := .ref 6) hi_159_14 o5 rfl ?_
      refine am_q32 (v := some (.int 1)) (S1 := S) (as := [.ref 6]) (la := [some (.ref 6)]) (rest := [.int 0]) hi_159_17 (Nat.le_of_ble_eq_true rfl) (Nat.le_of_ble_eq_true rfl) (show 1 ≤ am_P0.2.2.1 14 from by decide +kernel) rfl (am_recv_ok o6) rfl rfl ?_ ?_
      · refine am_q2 (v := 6) hi_14_0 rfl ?_
        refine am_q20 (v := .int 1) hi_14_1 o6 rfl ?_
        exact am_q33 hi_14_4
      show am_R _ _ _ _ [some (.ref 5), some (.int 0)] [.int 1, .int 0] _ _ _
      refine am_q13f hi_159_20 (by decide) ?_
      refine am_q2 (v := 5) hi_159_23 rfl ?_
      refine am_q20 (v := .ref 6) hi_159_24 o5 rfl ?_
      refine am_q1 (v := 0) hi_159_27 rfl ?_
      refine am_q32 (v := some (.ref 33)) (S1 := S) (as := [.ref 6, .int 0]) (la := [some (.ref 6), some (.int 0)]) (rest := []) hi_159_28 (Nat.le_of_ble_eq_true rfl) (Nat.le_of_ble_eq_true rfl) (show 2 ≤ am_P0.2.2.1 25 from by decide +kernel) rfl (am_recv_ok o6) rfl rfl ?_ ?_
      · refine am_q1 (v := 0) hi_25_0 rfl ?_
        refine am_q2 (v := 6) hi_25_1 rfl ?_
        refine am_q20 (v := .int 1) hi_25_2 o6 rfl ?_
        refine am_q32 (v := some (.int 0)) (S1 := S) (as := [.int 0, .int 1]) (la := [some (.int 0), some (.int 1)]) (rest := []) hi_25_5 (Nat.le_of_ble_eq_true rfl) (Nat.le_of_ble_eq_true rfl) (show 2 ≤ am_P0.2.2.1 26 from by decide +kernel) rfl rfl rfl rfl ?_ ?_
        · refine am_q1 (v := 0) hi_26_0 rfl ?_
          refine am_q1 (v := 1) hi_26_1 rfl ?_
          refine am_q29 hi_26_2 ?_
          refine am_q32 (v := some (.int 0)) (S1 := S) (as := [.int 0, .int 1, .null]) (la := [some (.int 0), some (.int 1), some .null]) (rest := []) hi_26_3 (Nat.le_of_ble_eq_true rfl) (Nat.le_of_ble_eq_true rfl) (show 3 ≤ am_P0.2.2.1 27 from by decide +kernel) rfl rfl rfl rfl ?_ ?_
          · refine am_q1 (v := 0) hi_27_0 rfl ?_
            refine am_q12f hi_27_1 (by decide) ?_
            refine am_q1 (v := 0) hi_27_4 rfl ?_
            refine am_q1 (v := 1) hi_27_5 rfl ?_
            refine am_q13t hi_27_6 (by decide) ?_
            refine am_q1 (v := 0) hi_27_16 rfl ?_
            exact am_q33 hi_27_17
          show am_R _ _ _ _ [some (.int 0), some (.int 1)] [.int 0] _ _ _
          exact am_q33 hi_26_6
        show am_R _ _ _ _ [some (.ref 6), some (.int 0)] [.int 0] _ _ _
        refine am_q6i hi_25_8 ?_
        refine am_q2 (v := 6) hi_25_9 rfl ?_
        refine am_q1 (v := 0) hi_25_10 rfl ?_
        refine am_q32 (v := some (.ref 33)) (S1 := S) (as := [.ref 6, .int 0]) (la := [some (.ref 6), some (.int 0)]) (rest := []) hi_25_11 (Nat.le_of_ble_eq_true rfl) (Nat.le_of_ble_eq_true rfl) (show 2 ≤ am_P0.2.2.1 28 from by decide +kernel) rfl (am_recv_ok o6) rfl rfl ?_ ?_
        · refine am_q2 (v := 6) hi_28_0 rfl ?_
          refine am_q20 (v := .ref 38) hi_28_1 o6 rfl ?_
          refine am_q1 (v := 0) hi_28_4 rfl ?_
          refine am_q39 (j := 0) hi_28_5 g38 (by decide) (by decide) (by decide) h38_0 ?_
          exact am_q34 hi_28_6
        show am_R _ _ _ _ [some (.ref 6), some (.int 0)] [.ref 33] _ _ _
        exact am_q34 hi_25_14
      show am_R _ _ _ _ [some (.ref 5), some (.int 0)] [.ref 33] _ _ _
      refine am_q30 hi_159_31 o33 ?_
      refine am_q18 hi_159_34 ?_
      exact am_q34 hi_159_38
    show am_R _ _ _ _ [some (.ref 0), some (.int 0), some (.int b), some (.int c), none] [.ref 33] _ _ _
    refine am_q4 (ls' := [some (.ref 0), some (.int 0), some (.int b), some (.int c), some (.ref 33)]) hi_162_8 (Nat.le_of_ble_eq_true rfl) rfl ?_
    refine am_q2 (v := 33) hi_162_10 rfl ?_
    refine am_q14r hi_162_12 ?_
    refine am_q2 (v := 33) hi_162_15 rfl ?_
    refine am_q20 (v := .ref 34) hi_162_17 o33 rfl ?_
    refine am_q1 (v := b) hi_162_20 rfl ?_
    refine am_q32 (v := some (.int 0)) (S1 := S) (as := [.ref 34, .int b]) (la := [some (.ref 34), some (.int b)]) (rest := []) hi_162_21 (Nat.le_of_ble_eq_true rfl) (Nat.le_of_ble_eq_true rfl) (show 2 ≤ am_P0.2.2.1 161 from by decide +kernel) rfl (am_recv_ok o34) rfl rfl ?_ ?_
    · refine am_q1 (v := b) hi_161_0 rfl ?_
      refine am_q12t hi_161_1 (am_cT (m := b.toInt) (n := (0 : Int)) rfl (by decide) (by simp only [am_cI]; omega)) ?_
      refine am_q0 hi_161_16 ?_
      exact am_q36 hi_161_17 (by decide)
    show am_R _ _ _ _ [some (.ref 0), some (.int 0), some (.int b), some (.int c), some (.ref 33)] [.int 0] _ _ _
    refine am_q12t hi_162_24 (by decide) ?_
    refine am_q0 hi_162_36 ?_
    exact am_q33 hi_162_37
  · refine am_q2 (v := 39) hi_272_0 rfl ?_
    refine am_q1 (v := 0) hi_272_1 rfl ?_
    refine am_q32 (v := some (.int 1)) (S1 := S) (as := [.ref 39, .int 0]) (la := [some (.ref 39), some (.int 0)]) (rest := []) hi_272_2 (Nat.le_of_ble_eq_true rfl) (Nat.le_of_ble_eq_true rfl) (show 2 ≤ am_P0.2.2.1 270 from by decide +kernel) rfl (am_recv_ok o39) rfl rfl ?_ ?_
    · refine am_q1 (v := 0) hi_270_0 rfl ?_
      refine am_q12f hi_270_1 (by decide) ?_
      refine am_q1 (v := 0) hi_270_4 rfl ?_
      refine am_q2 (v := 39) hi_270_5 rfl ?_
      refine am_q20 (v := .int 1) hi_270_6 o39 rfl ?_
      refine am_q13f hi_270_9 (by decide) ?_
      refine am_q0 hi_270_12 ?_
      refine am_q18 hi_270_13 ?_
      exact am_q36 hi_270_17 (by decide)
    show am_R _ _ _ _ [some (.ref 39), some (.int 0), some (.int b), some (.int c), none] [.int 1] _ _ _
    refine am_q12f hi_272_5 (by decide) ?_
    refine am_q1 (v := b) hi_272_8 rfl ?_
    refine am_q12t hi_272_9 (am_cT (m := b.toInt) (n := (0 : Int)) rfl (by decide) (by simp only [am_cI]; omega)) ?_
    refine am_q0 hi_272_22 ?_
    exact am_q33 hi_272_23
set_option maxRecDepth 10000 in
theorem pw_code_2 {sc : Nat × (Nat → Int32)} {S : am_S} {c : Int32} (F : am_F0 S) (chi : c.toInt ≤ -1) : ∃ (v : Int32) (S1 S2 : am_S) (fs : List Value), am_R (am_PP sc) 59 162 0 [some (.ref 0), some (.int 0), some (.int 0), some (.int c), none] [] S (some (some (.int v))) S1 ∧ am_R (am_PP sc) 59 272 0 [some (.ref 39), some (.int 0), some (.int 0), some (.int c), none] [] S1 (some (some (.int v))) S2 ∧ S2.2 = S.2 ∧ am_fs S1 39 = some (11, fs) := by
  obtain ⟨⟨e35_0, e35_1, e35_2, e35_3, e75_0, e76_0, e77_0, e78_0, e79_0, e80_0⟩, ⟨e81_0, e82_0, e87_0, e89_0, e90_0, e91_0, e92_0, e93_0, g38, h38_0⟩, ⟨o0, o2, o3, o32, o33, o34, o36, o39, o5, o6⟩, ⟨q35, q4, q40, q41, q75, q76, q77, q78, q79, q80⟩, ⟨q81, q82, q87, q89, q90, q91, q92, q93⟩⟩ := F
  refine ⟨(-1), S, S, _, ?_, ?_, rfl, o39⟩
  · refine am_q2 (v := 0) hi_162_0 rfl ?_
    refine am_q20 (v := .ref 5) hi_162_1 o0 rfl ?_
    refine am_q1 (v := 0) hi_162_4 rfl ?_
    refine am_q32 (v := some (.ref 33)) (S1 := S) (as := [.ref 5, .int 0]) (la := [some (.ref 5), some (.int 0)]) (rest := []) hi_162_5 (Nat.le_of_ble_eq_true rfl) (Nat.le_of_ble_eq_true rfl) (show 2 ≤ am_P0.2.2.1 159 from by decide +kernel) rfl (am_recv_ok o5) rfl rfl ?_ ?_
    · refine am_q1 (v := 0) hi_159_0 rfl ?_
      refine am_q12f hi_159_1 (by decide) ?_
      refine am_q1 (v := 0) hi_159_4 rfl ?_
      refine am_q2 (v := 5) hi_159_5 rfl ?_
      refine am_q20 (v := .int 1) hi_159_6 o5 rfl ?_
      refine am_q13f hi_159_9 (by decide) ?_
      refine am_q1 (v := 0) hi_159_12 rfl ?_
      refine am_q2 (v := 5) hi_159_13 rfl ?_
      refine am_q20 (v := .ref 6) hi_159_14 o5 rfl ?_
      refine am_q32 (v := some (.int 1)) (S1 := S) (as := [.ref 6]) (la := [some (.ref 6)]) (rest := [.int 0]) hi_159_17 (Nat.le_of_ble_eq_true rfl) (Nat.le_of_ble_eq_true rfl) (show 1 ≤ am_P0.2.2.1 14 from by decide +kernel) rfl (am_recv_ok o6) rfl rfl ?_ ?_
      · refine am_q2 (v := 6) hi_14_0 rfl ?_
        refine am_q20 (v := .int 1) hi_14_1 o6 rfl ?_
        exact am_q33 hi_14_4
      show am_R _ _ _ _ [some (.ref 5), some (.int 0)] [.int 1, .int 0] _ _ _
      refine am_q13f hi_159_20 (by decide) ?_
      refine am_q2 (v := 5) hi_159_23 rfl ?_
      refine am_q20 (v := .ref 6) hi_159_24 o5 rfl ?_
      refine am_q1 (v := 0) hi_159_27 rfl ?_
      refine am_q32 (v := some (.ref 33)) (S1 := S) (as := [.ref 6, .int 0]) (la := [some (.ref 6), some (.int 0)]) (rest := []) hi_159_28 (Nat.le_of_ble_eq_true rfl) (Nat.le_of_ble_eq_true rfl) (show 2 ≤ am_P0.2.2.1 25 from by decide +kernel) rfl (am_recv_ok o6) rfl rfl ?_ ?_
      · refine am_q1 (v := 0) hi_25_0 rfl ?_
        refine am_q2 (v := 6) hi_25_1 rfl ?_
        refine am_q20 (v := .int 1) hi_25_2 o6 rfl ?_
        refine am_q32 (v := some (.int 0)) (S1 := S) (as := [.int 0, .int 1]) (la := [some (.int 0), some (.int 1)]) (rest := []) hi_25_5 (Nat.le_of_ble_eq_true rfl) (Nat.le_of_ble_eq_true rfl) (show 2 ≤ am_P0.2.2.1 26 from by decide +kernel) rfl rfl rfl rfl ?_ ?_
        · refine am_q1 (v := 0) hi_26_0 rfl ?_
          refine am_q1 (v := 1) hi_26_1 rfl ?_
          refine am_q29 hi_26_2 ?_
          refine am_q32 (v := some (.int 0)) (S1 := S) (as := [.int 0, .int 1, .null]) (la := [some (.int 0), some (.int 1), some .null]) (rest := []) hi_26_3 (Nat.le_of_ble_eq_true rfl) (Nat.le_of_ble_eq_true rfl) (show 3 ≤ am_P0.2.2.1 27 from by decide +kernel) rfl rfl rfl rfl ?_ ?_
          · refine am_q1 (v := 0) hi_27_0 rfl ?_
            refine am_q12f hi_27_1 (by decide) ?_
            refine am_q1 (v := 0) hi_27_4 rfl ?_
            refine am_q1 (v := 1) hi_27_5 rfl ?_
            refine am_q13t hi_27_6 (by decide) ?_
            refine am_q1 (v := 0) hi_27_16 rfl ?_
            exact am_q33 hi_27_17
          show am_R _ _ _ _ [some (.int 0), some (.int 1)] [.int 0] _ _ _
          exact am_q33 hi_26_6
        show am_R _ _ _ _ [some (.ref 6), some (.int 0)] [.int 0] _ _ _
        refine am_q6i hi_25_8 ?_
        refine am_q2 (v := 6) hi_25_9 rfl ?_
        refine am_q1 (v := 0) hi_25_10 rfl ?_
        refine am_q32 (v := some (.ref 33)) (S1 := S) (as := [.ref 6, .int 0]) (la := [some (.ref 6), some (.int 0)]) (rest := []) hi_25_11 (Nat.le_of_ble_eq_true rfl) (Nat.le_of_ble_eq_true rfl) (show 2 ≤ am_P0.2.2.1 28 from by decide +kernel) rfl (am_recv_ok o6) rfl rfl ?_ ?_
        · refine am_q2 (v := 6) hi_28_0 rfl ?_
          refine am_q20 (v := .ref 38) hi_28_1 o6 rfl ?_
          refine am_q1 (v := 0) hi_28_4 rfl ?_
          refine am_q39 (j := 0) hi_28_5 g38 (by decide) (by decide) (by decide) h38_0 ?_
          exact am_q34 hi_28_6
        show am_R _ _ _ _ [some (.ref 6), some (.int 0)] [.ref 33] _ _ _
        exact am_q34 hi_25_14
      show am_R _ _ _ _ [some (.ref 5), some (.int 0)] [.ref 33] _ _ _
      refine am_q30 hi_159_31 o33 ?_
      refine am_q18 hi_159_34 ?_
      exact am_q34 hi_159_38
    show am_R _ _ _ _ [some (.ref 0), some (.int 0), some (.int 0), some (.int c), none] [.ref 33] _ _ _
    refine am_q4 (ls' := [some (.ref 0), some (.int 0), some (.int 0), some (.int c), some (.ref 33)]) hi_162_8 (Nat.le_of_ble_eq_true rfl) rfl ?_
    refine am_q2 (v := 33) hi_162_10 rfl ?_
    refine am_q14r hi_162_12 ?_
    refine am_q2 (v := 33) hi_162_15 rfl ?_
    refine am_q20 (v := .ref 34) hi_162_17 o33 rfl ?_
    refine am_q1 (v := 0) hi_162_20 rfl ?_
    refine am_q32 (v := some (.int 1)) (S1 := S) (as := [.ref 34, .int 0]) (la := [some (.ref 34), some (.int 0)]) (rest := []) hi_162_21 (Nat.le_of_ble_eq_true rfl) (Nat.le_of_ble_eq_true rfl) (show 2 ≤ am_P0.2.2.1 161 from by decide +kernel) rfl (am_recv_ok o34) rfl rfl ?_ ?_
    · refine am_q1 (v := 0) hi_161_0 rfl ?_
      refine am_q12f hi_161_1 (by decide) ?_
      refine am_q1 (v := 0) hi_161_4 rfl ?_
      refine am_q2 (v := 34) hi_161_5 rfl ?_
      refine am_q20 (v := .int 1) hi_161_6 o34 rfl ?_
      refine am_q13f hi_161_9 (by decide) ?_
      refine am_q0 hi_161_12 ?_
      refine am_q18 hi_161_13 ?_
      exact am_q36 hi_161_17 (by decide)
    show am_R _ _ _ _ [some (.ref 0), some (.int 0), some (.int 0), some (.int c), some (.ref 33)] [.int 1] _ _ _
    refine am_q12f hi_162_24 (by decide) ?_
    refine am_q1 (v := c) hi_162_27 rfl ?_
    refine am_q12t hi_162_28 (am_cT (m := c.toInt) (n := (0 : Int)) rfl (by decide) (by simp only [am_cI]; omega)) ?_
    refine am_q0 hi_162_36 ?_
    exact am_q33 hi_162_37
  · refine am_q2 (v := 39) hi_272_0 rfl ?_
    refine am_q1 (v := 0) hi_272_1 rfl ?_
    refine am_q32 (v := some (.int 1)) (S1 := S) (as := [.ref 39, .int 0]) (la := [some (.ref 39), some (.int 0)]) (rest := []) hi_272_2 (Nat.le_of_ble_eq_true rfl) (Nat.le_of_ble_eq_true rfl) (show 2 ≤ am_P0.2.2.1 270 from by decide +kernel) rfl (am_recv_ok o39) rfl rfl ?_ ?_
    · refine am_q1 (v := 0) hi_270_0 rfl ?_
      refine am_q12f hi_270_1 (by decide) ?_
      refine am_q1 (v := 0) hi_270_4 rfl ?_
      refine am_q2 (v := 39) hi_270_5 rfl ?_
      refine am_q20 (v := .int 1) hi_270_6 o39 rfl ?_
      refine am_q13f hi_270_9 (by decide) ?_
      refine am_q0 hi_270_12 ?_
      refine am_q18 hi_270_13 ?_
      exact am_q36 hi_270_17 (by decide)
    show am_R _ _ _ _ [some (.ref 39), some (.int 0), some (.int 0), some (.int c), none] [.int 1] _ _ _
    refine am_q12f hi_272_5 (by decide) ?_
    refine am_q1 (v := 0) hi_272_8 rfl ?_
    refine am_q12f hi_272_9 (by decide) ?_
    refine am_q1 (v := 0) hi_272_12 rfl ?_
    refine am_q2 (v := 39) hi_272_13 rfl ?_
    refine am_q20 (v := .ref 81) hi_272_14 o39 rfl ?_
    refine am_q1 (v := 0) hi_272_17 rfl ?_
    refine am_q25 (v := 1) (j := 0) hi_272_18 q81 (by decide) (by decide) (by decide) (by decide) e81_0 ?_
    refine am_q13t hi_272_19 (by decide) ?_
    refine am_q2 (v := 39) hi_272_24 rfl ?_
    refine am_q20 (v := .ref 93) hi_272_25 o39 rfl ?_
    refine am_q2 (v := 39) hi_272_28 rfl ?_
    refine am_q20 (v := .ref 82) hi_272_29 o39 rfl ?_
    refine am_q1 (v := 0) hi_272_32 rfl ?_
    refine am_q25 (v := 0) (j := 0) hi_272_33 q82 (by decide) (by decide) (by decide) (by decide) e82_0 ?_
    refine am_q1 (v := 0) hi_272_34 rfl ?_
    refine am_q10 (z := 0) hi_272_35 (by decide) ?_
    refine am_q25 (v := 0) (j := 0) hi_272_36 q93 (by decide) (by decide) (by decide) (by decide) e93_0 ?_
    refine am_q3 (ls' := [some (.ref 39), some (.int 0), some (.int 0), some (.int c), some (.int 0)]) hi_272_37 (Nat.le_of_ble_eq_true rfl) rfl ?_
    refine am_q1 (v := c) hi_272_39 rfl ?_
    refine am_q19 (t := 104) hi_272_40 (am_swO (lo := 0) (hi := 3) (by decide) (by omega)) ?_
    refine am_q0 hi_272_104 ?_
    exact am_q33 hi_272_105
set_option maxRecDepth 10000 in
theorem pw_code_3 {sc : Nat × (Nat → Int32)} {S : am_S} (F : am_F0 S) : ∃ (v : Int32) (S1 S2 : am_S) (fs : List Value), am_R (am_PP sc) 59 162 0 [some (.ref 0), some (.int 0), some (.int 0), some (.int 0), none] [] S (some (some (.int v))) S1 ∧ am_R (am_PP sc) 59 272 0 [some (.ref 39), some (.int 0), some (.int 0), some (.int 0), none] [] S1 (some (some (.int v))) S2 ∧ S2.2 = S.2 ∧ am_fs S1 39 = some (11, fs) := by
  obtain ⟨⟨e35_0, e35_1, e35_2, e35_3, e75_0, e76_0, e77_0, e78_0, e79_0, e80_0⟩, ⟨e81_0, e82_0, e87_0, e89_0, e90_0, e91_0, e92_0, e93_0, g38, h38_0⟩, ⟨o0, o2, o3, o32, o33, o34, o36, o39, o5, o6⟩, ⟨q35, q4, q40, q41, q75, q76, q77, q78, q79, q80⟩, ⟨q81, q82, q87, q89, q90, q91, q92, q93⟩⟩ := F
  refine ⟨45, S, S, _, ?_, ?_, rfl, o39⟩
  · refine am_q2 (v := 0) hi_162_0 rfl ?_
    refine am_q20 (v := .ref 5) hi_162_1 o0 rfl ?_
    refine am_q1 (v := 0) hi_162_4 rfl ?_
    refine am_q32 (v := some (.ref 33)) (S1 := S) (as := [.ref 5, .int 0]) (la := [some (.ref 5), some (.int 0)]) (rest := []) hi_162_5 (Nat.le_of_ble_eq_true rfl) (Nat.le_of_ble_eq_true rfl) (show 2 ≤ am_P0.2.2.1 159 from by decide +kernel) rfl (am_recv_ok o5) rfl rfl ?_ ?_
    · refine am_q1 (v := 0) hi_159_0 rfl ?_
      refine am_q12f hi_159_1 (by decide) ?_
      refine am_q1 (v := 0) hi_159_4 rfl ?_
      refine am_q2 (v := 5) hi_159_5 rfl ?_
      refine am_q20 (v := .int 1) hi_159_6 o5 rfl ?_
      refine am_q13f hi_159_9 (by decide) ?_
      refine am_q1 (v := 0) hi_159_12 rfl ?_
      refine am_q2 (v := 5) hi_159_13 rfl ?_
      refine am_q20 (v := .ref 6) hi_159_14 o5 rfl ?_
      refine am_q32 (v := some (.int 1)) (S1 := S) (as := [.ref 6]) (la := [some (.ref 6)]) (rest := [.int 0]) hi_159_17 (Nat.le_of_ble_eq_true rfl) (Nat.le_of_ble_eq_true rfl) (show 1 ≤ am_P0.2.2.1 14 from by decide +kernel) rfl (am_recv_ok o6) rfl rfl ?_ ?_
      · refine am_q2 (v := 6) hi_14_0 rfl ?_
        refine am_q20 (v := .int 1) hi_14_1 o6 rfl ?_
        exact am_q33 hi_14_4
      show am_R _ _ _ _ [some (.ref 5), some (.int 0)] [.int 1, .int 0] _ _ _
      refine am_q13f hi_159_20 (by decide) ?_
      refine am_q2 (v := 5) hi_159_23 rfl ?_
      refine am_q20 (v := .ref 6) hi_159_24 o5 rfl ?_
      refine am_q1 (v := 0) hi_159_27 rfl ?_
      refine am_q32 (v := some (.ref 33)) (S1 := S) (as := [.ref 6, .int 0]) (la := [some (.ref 6), some (.int 0)]) (rest := []) hi_159_28 (Nat.le_of_ble_eq_true rfl) (Nat.le_of_ble_eq_true rfl) (show 2 ≤ am_P0.2.2.1 25 from by decide +kernel) rfl (am_recv_ok o6) rfl rfl ?_ ?_
      · refine am_q1 (v := 0) hi_25_0 rfl ?_
        refine am_q2 (v := 6) hi_25_1 rfl ?_
        refine am_q20 (v := .int 1) hi_25_2 o6 rfl ?_
        refine am_q32 (v := some (.int 0)) (S1 := S) (as := [.int 0, .int 1]) (la := [some (.int 0), some (.int 1)]) (rest := []) hi_25_5 (Nat.le_of_ble_eq_true rfl) (Nat.le_of_ble_eq_true rfl) (show 2 ≤ am_P0.2.2.1 26 from by decide +kernel) rfl rfl rfl rfl ?_ ?_
        · refine am_q1 (v := 0) hi_26_0 rfl ?_
          refine am_q1 (v := 1) hi_26_1 rfl ?_
          refine am_q29 hi_26_2 ?_
          refine am_q32 (v := some (.int 0)) (S1 := S) (as := [.int 0, .int 1, .null]) (la := [some (.int 0), some (.int 1), some .null]) (rest := []) hi_26_3 (Nat.le_of_ble_eq_true rfl) (Nat.le_of_ble_eq_true rfl) (show 3 ≤ am_P0.2.2.1 27 from by decide +kernel) rfl rfl rfl rfl ?_ ?_
          · refine am_q1 (v := 0) hi_27_0 rfl ?_
            refine am_q12f hi_27_1 (by decide) ?_
            refine am_q1 (v := 0) hi_27_4 rfl ?_
            refine am_q1 (v := 1) hi_27_5 rfl ?_
            refine am_q13t hi_27_6 (by decide) ?_
            refine am_q1 (v := 0) hi_27_16 rfl ?_
            exact am_q33 hi_27_17
          show am_R _ _ _ _ [some (.int 0), some (.int 1)] [.int 0] _ _ _
          exact am_q33 hi_26_6
        show am_R _ _ _ _ [some (.ref 6), some (.int 0)] [.int 0] _ _ _
        refine am_q6i hi_25_8 ?_
        refine am_q2 (v := 6) hi_25_9 rfl ?_
        refine am_q1 (v := 0) hi_25_10 rfl ?_
        refine am_q32 (v := some (.ref 33)) (S1 := S) (as := [.ref 6, .int 0]) (la := [some (.ref 6), some (.int 0)]) (rest := []) hi_25_11 (Nat.le_of_ble_eq_true rfl) (Nat.le_of_ble_eq_true rfl) (show 2 ≤ am_P0.2.2.1 28 from by decide +kernel) rfl (am_recv_ok o6) rfl rfl ?_ ?_
        · refine am_q2 (v := 6) hi_28_0 rfl ?_
          refine am_q20 (v := .ref 38) hi_28_1 o6 rfl ?_
          refine am_q1 (v := 0) hi_28_4 rfl ?_
          refine am_q39 (j := 0) hi_28_5 g38 (by decide) (by decide) (by decide) h38_0 ?_
          exact am_q34 hi_28_6
        show am_R _ _ _ _ [some (.ref 6), some (.int 0)] [.ref 33] _ _ _
        exact am_q34 hi_25_14
      show am_R _ _ _ _ [some (.ref 5), some (.int 0)] [.ref 33] _ _ _
      refine am_q30 hi_159_31 o33 ?_
      refine am_q18 hi_159_34 ?_
      exact am_q34 hi_159_38
    show am_R _ _ _ _ [some (.ref 0), some (.int 0), some (.int 0), some (.int 0), none] [.ref 33] _ _ _
    refine am_q4 (ls' := [some (.ref 0), some (.int 0), some (.int 0), some (.int 0), some (.ref 33)]) hi_162_8 (Nat.le_of_ble_eq_true rfl) rfl ?_
    refine am_q2 (v := 33) hi_162_10 rfl ?_
    refine am_q14r hi_162_12 ?_
    refine am_q2 (v := 33) hi_162_15 rfl ?_
    refine am_q20 (v := .ref 34) hi_162_17 o33 rfl ?_
    refine am_q1 (v := 0) hi_162_20 rfl ?_
    refine am_q32 (v := some (.int 1)) (S1 := S) (as := [.ref 34, .int 0]) (la := [some (.ref 34), some (.int 0)]) (rest := []) hi_162_21 (Nat.le_of_ble_eq_true rfl) (Nat.le_of_ble_eq_true rfl) (show 2 ≤ am_P0.2.2.1 161 from by decide +kernel) rfl (am_recv_ok o34) rfl rfl ?_ ?_
    · refine am_q1 (v := 0) hi_161_0 rfl ?_
      refine am_q12f hi_161_1 (by decide) ?_
      refine am_q1 (v := 0) hi_161_4 rfl ?_
      refine am_q2 (v := 34) hi_161_5 rfl ?_
      refine am_q20 (v := .int 1) hi_161_6 o34 rfl ?_
      refine am_q13f hi_161_9 (by decide) ?_
      refine am_q0 hi_161_12 ?_
      refine am_q18 hi_161_13 ?_
      exact am_q36 hi_161_17 (by decide)
    show am_R _ _ _ _ [some (.ref 0), some (.int 0), some (.int 0), some (.int 0), some (.ref 33)] [.int 1] _ _ _
    refine am_q12f hi_162_24 (by decide) ?_
    refine am_q1 (v := 0) hi_162_27 rfl ?_
    refine am_q12f hi_162_28 (by decide) ?_
    refine am_q1 (v := 0) hi_162_31 rfl ?_
    refine am_q0 hi_162_32 ?_
    refine am_q13t hi_162_33 (by decide) ?_
    refine am_q2 (v := 33) hi_162_38 rfl ?_
    refine am_q20 (v := .ref 34) hi_162_40 o33 rfl ?_
    refine am_q1 (v := 0) hi_162_43 rfl ?_
    refine am_q1 (v := 0) hi_162_44 rfl ?_
    refine am_q32 (v := some (.int 45)) (S1 := S) (as := [.ref 34, .int 0, .int 0]) (la := [some (.ref 34), some (.int 0), some (.int 0)]) (rest := []) hi_162_45 (Nat.le_of_ble_eq_true rfl) (Nat.le_of_ble_eq_true rfl) (show 3 ≤ am_P0.2.2.1 54 from by decide +kernel) rfl (am_recv_ok o34) rfl rfl ?_ ?_
    · refine am_q1 (v := 0) hi_54_0 rfl ?_
      refine am_q12f hi_54_1 (by decide) ?_
      refine am_q1 (v := 0) hi_54_4 rfl ?_
      refine am_q2 (v := 34) hi_54_5 rfl ?_
      refine am_q20 (v := .int 1) hi_54_6 o34 rfl ?_
      refine am_q13f hi_54_9 (by decide) ?_
      refine am_q1 (v := 0) hi_54_12 rfl ?_
      refine am_q12f hi_54_13 (by decide) ?_
      refine am_q1 (v := 0) hi_54_16 rfl ?_
      refine am_q0 hi_54_17 ?_
      refine am_q13t hi_54_18 (by decide) ?_
      refine am_q2 (v := 34) hi_54_23 rfl ?_
      refine am_q20 (v := .ref 35) hi_54_24 o34 rfl ?_
      refine am_q1 (v := 0) hi_54_27 rfl ?_
      refine am_q0 hi_54_28 ?_
      refine am_q10 (z := 0) hi_54_29 (by decide) ?_
      refine am_q1 (v := 0) hi_54_30 rfl ?_
      refine am_q10 (z := 0) hi_54_31 (by decide) ?_
      refine am_q25 (v := 45) (j := 0) hi_54_32 q35 (by decide) (by decide) (by decide) (by decide) e35_0 ?_
      exact am_q33 hi_54_33
    show am_R _ _ _ _ [some (.ref 0), some (.int 0), some (.int 0), some (.int 0), some (.ref 33)] [.int 45] _ _ _
    exact am_q33 hi_162_48
  · refine am_q2 (v := 39) hi_272_0 rfl ?_
    refine am_q1 (v := 0) hi_272_1 rfl ?_
    refine am_q32 (v := some (.int 1)) (S1 := S) (as := [.ref 39, .int 0]) (la := [some (.ref 39), some (.int 0)]) (rest := []) hi_272_2 (Nat.le_of_ble_eq_true rfl) (Nat.le_of_ble_eq_true rfl) (show 2 ≤ am_P0.2.2.1 270 from by decide +kernel) rfl (am_recv_ok o39) rfl rfl ?_ ?_
    · refine am_q1 (v := 0) hi_270_0 rfl ?_
      refine am_q12f hi_270_1 (by decide) ?_
      refine am_q1 (v := 0) hi_270_4 rfl ?_
      refine am_q2 (v := 39) hi_270_5 rfl ?_
      refine am_q20 (v := .int 1) hi_270_6 o39 rfl ?_
      refine am_q13f hi_270_9 (by decide) ?_
      refine am_q0 hi_270_12 ?_
      refine am_q18 hi_270_13 ?_
      exact am_q36 hi_270_17 (by decide)
    show am_R _ _ _ _ [some (.ref 39), some (.int 0), some (.int 0), some (.int 0), none] [.int 1] _ _ _
    refine am_q12f hi_272_5 (by decide) ?_
    refine am_q1 (v := 0) hi_272_8 rfl ?_
    refine am_q12f hi_272_9 (by decide) ?_
    refine am_q1 (v := 0) hi_272_12 rfl ?_
    refine am_q2 (v := 39) hi_272_13 rfl ?_
    refine am_q20 (v := .ref 81) hi_272_14 o39 rfl ?_
    refine am_q1 (v := 0) hi_272_17 rfl ?_
    refine am_q25 (v := 1) (j := 0) hi_272_18 q81 (by decide) (by decide) (by decide) (by decide) e81_0 ?_
    refine am_q13t hi_272_19 (by decide) ?_
    refine am_q2 (v := 39) hi_272_24 rfl ?_
    refine am_q20 (v := .ref 93) hi_272_25 o39 rfl ?_
    refine am_q2 (v := 39) hi_272_28 rfl ?_
    refine am_q20 (v := .ref 82) hi_272_29 o39 rfl ?_
    refine am_q1 (v := 0) hi_272_32 rfl ?_
    refine am_q25 (v := 0) (j := 0) hi_272_33 q82 (by decide) (by decide) (by decide) (by decide) e82_0 ?_
    refine am_q1 (v := 0) hi_272_34 rfl ?_
    refine am_q10 (z := 0) hi_272_35 (by decide) ?_
    refine am_q25 (v := 0) (j := 0) hi_272_36 q93 (by decide) (by decide) (by decide) (by decide) e93_0 ?_
    refine am_q3 (ls' := [some (.ref 39), some (.int 0), some (.int 0), some (.int 0), some (.int 0)]) hi_272_37 (Nat.le_of_ble_eq_true rfl) rfl ?_
    refine am_q1 (v := 0) hi_272_39 rfl ?_
    refine am_q19 (t := 72) hi_272_40 (by decide) ?_
    refine am_q2 (v := 39) hi_272_72 rfl ?_
    refine am_q20 (v := .ref 89) hi_272_73 o39 rfl ?_
    refine am_q1 (v := 0) hi_272_76 rfl ?_
    refine am_q25 (v := 45) (j := 0) hi_272_78 q89 (by decide) (by decide) (by decide) (by decide) e89_0 ?_
    exact am_q33 hi_272_79
set_option maxRecDepth 10000 in
theorem pw_code_4 {sc : Nat × (Nat → Int32)} {S : am_S} (F : am_F0 S) : ∃ (v : Int32) (S1 S2 : am_S) (fs : List Value), am_R (am_PP sc) 59 162 0 [some (.ref 0), some (.int 0), some (.int 0), some (.int 1), none] [] S (some (some (.int v))) S1 ∧ am_R (am_PP sc) 59 272 0 [some (.ref 39), some (.int 0), some (.int 0), some (.int 1), none] [] S1 (some (some (.int v))) S2 ∧ S2.2 = S.2 ∧ am_fs S1 39 = some (11, fs) := by
  obtain ⟨⟨e35_0, e35_1, e35_2, e35_3, e75_0, e76_0, e77_0, e78_0, e79_0, e80_0⟩, ⟨e81_0, e82_0, e87_0, e89_0, e90_0, e91_0, e92_0, e93_0, g38, h38_0⟩, ⟨o0, o2, o3, o32, o33, o34, o36, o39, o5, o6⟩, ⟨q35, q4, q40, q41, q75, q76, q77, q78, q79, q80⟩, ⟨q81, q82, q87, q89, q90, q91, q92, q93⟩⟩ := F
  refine ⟨0, S, S, _, ?_, ?_, rfl, o39⟩
  · refine am_q2 (v := 0) hi_162_0 rfl ?_
    refine am_q20 (v := .ref 5) hi_162_1 o0 rfl ?_
    refine am_q1 (v := 0) hi_162_4 rfl ?_
    refine am_q32 (v := some (.ref 33)) (S1 := S) (as := [.ref 5, .int 0]) (la := [some (.ref 5), some (.int 0)]) (rest := []) hi_162_5 (Nat.le_of_ble_eq_true rfl) (Nat.le_of_ble_eq_true rfl) (show 2 ≤ am_P0.2.2.1 159 from by decide +kernel) rfl (am_recv_ok o5) rfl rfl ?_ ?_
    · refine am_q1 (v := 0) hi_159_0 rfl ?_
      refine am_q12f hi_159_1 (by decide) ?_
      refine am_q1 (v := 0) hi_159_4 rfl ?_
      refine am_q2 (v := 5) hi_159_5 rfl ?_
      refine am_q20 (v := .int 1) hi_159_6 o5 rfl ?_
      refine am_q13f hi_159_9 (by decide) ?_
      refine am_q1 (v := 0) hi_159_12 rfl ?_
      refine am_q2 (v := 5) hi_159_13 rfl ?_
      refine am_q20 (v := .ref 6) hi_159_14 o5 rfl ?_
      refine am_q32 (v := some (.int 1)) (S1 := S) (as := [.ref 6]) (la := [some (.ref 6)]) (rest := [.int 0]) hi_159_17 (Nat.le_of_ble_eq_true rfl) (Nat.le_of_ble_eq_true rfl) (show 1 ≤ am_P0.2.2.1 14 from by decide +kernel) rfl (am_recv_ok o6) rfl rfl ?_ ?_
      · refine am_q2 (v := 6) hi_14_0 rfl ?_
        refine am_q20 (v := .int 1) hi_14_1 o6 rfl ?_
        exact am_q33 hi_14_4
      show am_R _ _ _ _ [some (.ref 5), some (.int 0)] [.int 1, .int 0] _ _ _
      refine am_q13f hi_159_20 (by decide) ?_
      refine am_q2 (v := 5) hi_159_23 rfl ?_
      refine am_q20 (v := .ref 6) hi_159_24 o5 rfl ?_
      refine am_q1 (v := 0) hi_159_27 rfl ?_
      refine am_q32 (v := some (.ref 33)) (S1 := S) (as := [.ref 6, .int 0]) (la := [some (.ref 6), some (.int 0)]) (rest := []) hi_159_28 (Nat.le_of_ble_eq_true rfl) (Nat.le_of_ble_eq_true rfl) (show 2 ≤ am_P0.2.2.1 25 from by decide +kernel) rfl (am_recv_ok o6) rfl rfl ?_ ?_
      · refine am_q1 (v := 0) hi_25_0 rfl ?_
        refine am_q2 (v := 6) hi_25_1 rfl ?_
        refine am_q20 (v := .int 1) hi_25_2 o6 rfl ?_
        refine am_q32 (v := some (.int 0)) (S1 := S) (as := [.int 0, .int 1]) (la := [some (.int 0), some (.int 1)]) (rest := []) hi_25_5 (Nat.le_of_ble_eq_true rfl) (Nat.le_of_ble_eq_true rfl) (show 2 ≤ am_P0.2.2.1 26 from by decide +kernel) rfl rfl rfl rfl ?_ ?_
        · refine am_q1 (v := 0) hi_26_0 rfl ?_
          refine am_q1 (v := 1) hi_26_1 rfl ?_
          refine am_q29 hi_26_2 ?_
          refine am_q32 (v := some (.int 0)) (S1 := S) (as := [.int 0, .int 1, .null]) (la := [some (.int 0), some (.int 1), some .null]) (rest := []) hi_26_3 (Nat.le_of_ble_eq_true rfl) (Nat.le_of_ble_eq_true rfl) (show 3 ≤ am_P0.2.2.1 27 from by decide +kernel) rfl rfl rfl rfl ?_ ?_
          · refine am_q1 (v := 0) hi_27_0 rfl ?_
            refine am_q12f hi_27_1 (by decide) ?_
            refine am_q1 (v := 0) hi_27_4 rfl ?_
            refine am_q1 (v := 1) hi_27_5 rfl ?_
            refine am_q13t hi_27_6 (by decide) ?_
            refine am_q1 (v := 0) hi_27_16 rfl ?_
            exact am_q33 hi_27_17
          show am_R _ _ _ _ [some (.int 0), some (.int 1)] [.int 0] _ _ _
          exact am_q33 hi_26_6
        show am_R _ _ _ _ [some (.ref 6), some (.int 0)] [.int 0] _ _ _
        refine am_q6i hi_25_8 ?_
        refine am_q2 (v := 6) hi_25_9 rfl ?_
        refine am_q1 (v := 0) hi_25_10 rfl ?_
        refine am_q32 (v := some (.ref 33)) (S1 := S) (as := [.ref 6, .int 0]) (la := [some (.ref 6), some (.int 0)]) (rest := []) hi_25_11 (Nat.le_of_ble_eq_true rfl) (Nat.le_of_ble_eq_true rfl) (show 2 ≤ am_P0.2.2.1 28 from by decide +kernel) rfl (am_recv_ok o6) rfl rfl ?_ ?_
        · refine am_q2 (v := 6) hi_28_0 rfl ?_
          refine am_q20 (v := .ref 38) hi_28_1 o6 rfl ?_
          refine am_q1 (v := 0) hi_28_4 rfl ?_
          refine am_q39 (j := 0) hi_28_5 g38 (by decide) (by decide) (by decide) h38_0 ?_
          exact am_q34 hi_28_6
        show am_R _ _ _ _ [some (.ref 6), some (.int 0)] [.ref 33] _ _ _
        exact am_q34 hi_25_14
      show am_R _ _ _ _ [some (.ref 5), some (.int 0)] [.ref 33] _ _ _
      refine am_q30 hi_159_31 o33 ?_
      refine am_q18 hi_159_34 ?_
      exact am_q34 hi_159_38
    show am_R _ _ _ _ [some (.ref 0), some (.int 0), some (.int 0), some (.int 1), none] [.ref 33] _ _ _
    refine am_q4 (ls' := [some (.ref 0), some (.int 0), some (.int 0), some (.int 1), some (.ref 33)]) hi_162_8 (Nat.le_of_ble_eq_true rfl) rfl ?_
    refine am_q2 (v := 33) hi_162_10 rfl ?_
    refine am_q14r hi_162_12 ?_
    refine am_q2 (v := 33) hi_162_15 rfl ?_
    refine am_q20 (v := .ref 34) hi_162_17 o33 rfl ?_
    refine am_q1 (v := 0) hi_162_20 rfl ?_
    refine am_q32 (v := some (.int 1)) (S1 := S) (as := [.ref 34, .int 0]) (la := [some (.ref 34), some (.int 0)]) (rest := []) hi_162_21 (Nat.le_of_ble_eq_true rfl) (Nat.le_of_ble_eq_true rfl) (show 2 ≤ am_P0.2.2.1 161 from by decide +kernel) rfl (am_recv_ok o34) rfl rfl ?_ ?_
    · refine am_q1 (v := 0) hi_161_0 rfl ?_
      refine am_q12f hi_161_1 (by decide) ?_
      refine am_q1 (v := 0) hi_161_4 rfl ?_
      refine am_q2 (v := 34) hi_161_5 rfl ?_
      refine am_q20 (v := .int 1) hi_161_6 o34 rfl ?_
      refine am_q13f hi_161_9 (by decide) ?_
      refine am_q0 hi_161_12 ?_
      refine am_q18 hi_161_13 ?_
      exact am_q36 hi_161_17 (by decide)
    show am_R _ _ _ _ [some (.ref 0), some (.int 0), some (.int 0), some (.int 1), some (.ref 33)] [.int 1] _ _ _
    refine am_q12f hi_162_24 (by decide) ?_
    refine am_q1 (v := 1) hi_162_27 rfl ?_
    refine am_q12f hi_162_28 (by decide) ?_
    refine am_q1 (v := 1) hi_162_31 rfl ?_
    refine am_q0 hi_162_32 ?_
    refine am_q13t hi_162_33 (by decide) ?_
    refine am_q2 (v := 33) hi_162_38 rfl ?_
    refine am_q20 (v := .ref 34) hi_162_40 o33 rfl ?_
    refine am_q1 (v := 0) hi_162_43 rfl ?_
    refine am_q1 (v := 1) hi_162_44 rfl ?_
    refine am_q32 (v := some (.int 0)) (S1 := S) (as := [.ref 34, .int 0, .int 1]) (la := [some (.ref 34), some (.int 0), some (.int 1)]) (rest := []) hi_162_45 (Nat.le_of_ble_eq_true rfl) (Nat.le_of_ble_eq_true rfl) (show 3 ≤ am_P0.2.2.1 54 from by decide +kernel) rfl (am_recv_ok o34) rfl rfl ?_ ?_
    · refine am_q1 (v := 0) hi_54_0 rfl ?_
      refine am_q12f hi_54_1 (by decide) ?_
      refine am_q1 (v := 0) hi_54_4 rfl ?_
      refine am_q2 (v := 34) hi_54_5 rfl ?_
      refine am_q20 (v := .int 1) hi_54_6 o34 rfl ?_
      refine am_q13f hi_54_9 (by decide) ?_
      refine am_q1 (v := 1) hi_54_12 rfl ?_
      refine am_q12f hi_54_13 (by decide) ?_
      refine am_q1 (v := 1) hi_54_16 rfl ?_
      refine am_q0 hi_54_17 ?_
      refine am_q13t hi_54_18 (by decide) ?_
      refine am_q2 (v := 34) hi_54_23 rfl ?_
      refine am_q20 (v := .ref 35) hi_54_24 o34 rfl ?_
      refine am_q1 (v := 0) hi_54_27 rfl ?_
      refine am_q0 hi_54_28 ?_
      refine am_q10 (z := 0) hi_54_29 (by decide) ?_
      refine am_q1 (v := 1) hi_54_30 rfl ?_
      refine am_q10 (z := 1) hi_54_31 (by decide) ?_
      refine am_q25 (v := 0) (j := 1) hi_54_32 q35 (by decide) (by decide) (by decide) (by decide) e35_1 ?_
      exact am_q33 hi_54_33
    show am_R _ _ _ _ [some (.ref 0), some (.int 0), some (.int 0), some (.int 1), some (.ref 33)] [.int 0] _ _ _
    exact am_q33 hi_162_48
  · refine am_q2 (v := 39) hi_272_0 rfl ?_
    refine am_q1 (v := 0) hi_272_1 rfl ?_
    refine am_q32 (v := some (.int 1)) (S1 := S) (as := [.ref 39, .int 0]) (la := [some (.ref 39), some (.int 0)]) (rest := []) hi_272_2 (Nat.le_of_ble_eq_true rfl) (Nat.le_of_ble_eq_true rfl) (show 2 ≤ am_P0.2.2.1 270 from by decide +kernel) rfl (am_recv_ok o39) rfl rfl ?_ ?_
    · refine am_q1 (v := 0) hi_270_0 rfl ?_
      refine am_q12f hi_270_1 (by decide) ?_
      refine am_q1 (v := 0) hi_270_4 rfl ?_
      refine am_q2 (v := 39) hi_270_5 rfl ?_
      refine am_q20 (v := .int 1) hi_270_6 o39 rfl ?_
      refine am_q13f hi_270_9 (by decide) ?_
      refine am_q0 hi_270_12 ?_
      refine am_q18 hi_270_13 ?_
      exact am_q36 hi_270_17 (by decide)
    show am_R _ _ _ _ [some (.ref 39), some (.int 0), some (.int 0), some (.int 1), none] [.int 1] _ _ _
    refine am_q12f hi_272_5 (by decide) ?_
    refine am_q1 (v := 0) hi_272_8 rfl ?_
    refine am_q12f hi_272_9 (by decide) ?_
    refine am_q1 (v := 0) hi_272_12 rfl ?_
    refine am_q2 (v := 39) hi_272_13 rfl ?_
    refine am_q20 (v := .ref 81) hi_272_14 o39 rfl ?_
    refine am_q1 (v := 0) hi_272_17 rfl ?_
    refine am_q25 (v := 1) (j := 0) hi_272_18 q81 (by decide) (by decide) (by decide) (by decide) e81_0 ?_
    refine am_q13t hi_272_19 (by decide) ?_
    refine am_q2 (v := 39) hi_272_24 rfl ?_
    refine am_q20 (v := .ref 93) hi_272_25 o39 rfl ?_
    refine am_q2 (v := 39) hi_272_28 rfl ?_
    refine am_q20 (v := .ref 82) hi_272_29 o39 rfl ?_
    refine am_q1 (v := 0) hi_272_32 rfl ?_
    refine am_q25 (v := 0) (j := 0) hi_272_33 q82 (by decide) (by decide) (by decide) (by decide) e82_0 ?_
    refine am_q1 (v := 0) hi_272_34 rfl ?_
    refine am_q10 (z := 0) hi_272_35 (by decide) ?_
    refine am_q25 (v := 0) (j := 0) hi_272_36 q93 (by decide) (by decide) (by decide) (by decide) e93_0 ?_
    refine am_q3 (ls' := [some (.ref 39), some (.int 0), some (.int 0), some (.int 1), some (.int 0)]) hi_272_37 (Nat.le_of_ble_eq_true rfl) rfl ?_
    refine am_q1 (v := 1) hi_272_39 rfl ?_
    refine am_q19 (t := 80) hi_272_40 (by decide) ?_
    refine am_q2 (v := 39) hi_272_80 rfl ?_
    refine am_q20 (v := .ref 90) hi_272_81 o39 rfl ?_
    refine am_q1 (v := 0) hi_272_84 rfl ?_
    refine am_q25 (v := 0) (j := 0) hi_272_86 q90 (by decide) (by decide) (by decide) (by decide) e90_0 ?_
    exact am_q33 hi_272_87
set_option maxRecDepth 10000 in
theorem pw_code_5 {sc : Nat × (Nat → Int32)} {S : am_S} (F : am_F0 S) : ∃ (v : Int32) (S1 S2 : am_S) (fs : List Value), am_R (am_PP sc) 59 162 0 [some (.ref 0), some (.int 0), some (.int 0), some (.int 2), none] [] S (some (some (.int v))) S1 ∧ am_R (am_PP sc) 59 272 0 [some (.ref 39), some (.int 0), some (.int 0), some (.int 2), none] [] S1 (some (some (.int v))) S2 ∧ S2.2 = S.2 ∧ am_fs S1 39 = some (11, fs) := by
  obtain ⟨⟨e35_0, e35_1, e35_2, e35_3, e75_0, e76_0, e77_0, e78_0, e79_0, e80_0⟩, ⟨e81_0, e82_0, e87_0, e89_0, e90_0, e91_0, e92_0, e93_0, g38, h38_0⟩, ⟨o0, o2, o3, o32, o33, o34, o36, o39, o5, o6⟩, ⟨q35, q4, q40, q41, q75, q76, q77, q78, q79, q80⟩, ⟨q81, q82, q87, q89, q90, q91, q92, q93⟩⟩ := F
  refine ⟨0, S, S, _, ?_, ?_, rfl, o39⟩
  · refine am_q2 (v := 0) hi_162_0 rfl ?_
    refine am_q20 (v := .ref 5) hi_162_1 o0 rfl ?_
    refine am_q1 (v := 0) hi_162_4 rfl ?_
    refine am_q32 (v := some (.ref 33)) (S1 := S) (as := [.ref 5, .int 0]) (la := [some (.ref 5), some (.int 0)]) (rest := []) hi_162_5 (Nat.le_of_ble_eq_true rfl) (Nat.le_of_ble_eq_true rfl) (show 2 ≤ am_P0.2.2.1 159 from by decide +kernel) rfl (am_recv_ok o5) rfl rfl ?_ ?_
    · refine am_q1 (v := 0) hi_159_0 rfl ?_
      refine am_q12f hi_159_1 (by decide) ?_
      refine am_q1 (v := 0) hi_159_4 rfl ?_
      refine am_q2 (v := 5) hi_159_5 rfl ?_
      refine am_q20 (v := .int 1) hi_159_6 o5 rfl ?_
      refine am_q13f hi_159_9 (by decide) ?_
      refine am_q1 (v := 0) hi_159_12 rfl ?_
      refine am_q2 (v := 5) hi_159_13 rfl ?_
      refine am_q20 (v := .ref 6) hi_159_14 o5 rfl ?_
      refine am_q32 (v := some (.int 1)) (S1 := S) (as := [.ref 6]) (la := [some (.ref 6)]) (rest := [.int 0]) hi_159_17 (Nat.le_of_ble_eq_true rfl) (Nat.le_of_ble_eq_true rfl) (show 1 ≤ am_P0.2.2.1 14 from by decide +kernel) rfl (am_recv_ok o6) rfl rfl ?_ ?_
      · refine am_q2 (v := 6) hi_14_0 rfl ?_
        refine am_q20 (v := .int 1) hi_14_1 o6 rfl ?_
        exact am_q33 hi_14_4
      show am_R _ _ _ _ [some (.ref 5), some (.int 0)] [.int 1, .int 0] _ _ _
      refine am_q13f hi_159_20 (by decide) ?_
      refine am_q2 (v := 5) hi_159_23 rfl ?_
      refine am_q20 (v := .ref 6) hi_159_24 o5 rfl ?_
      refine am_q1 (v := 0) hi_159_27 rfl ?_
      refine am_q32 (v := some (.ref 33)) (S1 := S) (as := [.ref 6, .int 0]) (la := [some (.ref 6), some (.int 0)]) (rest := []) hi_159_28 (Nat.le_of_ble_eq_true rfl) (Nat.le_of_ble_eq_true rfl) (show 2 ≤ am_P0.2.2.1 25 from by decide +kernel) rfl (am_recv_ok o6) rfl rfl ?_ ?_
      · refine am_q1 (v := 0) hi_25_0 rfl ?_
        refine am_q2 (v := 6) hi_25_1 rfl ?_
        refine am_q20 (v := .int 1) hi_25_2 o6 rfl ?_
        refine am_q32 (v := some (.int 0)) (S1 := S) (as := [.int 0, .int 1]) (la := [some (.int 0), some (.int 1)]) (rest := []) hi_25_5 (Nat.le_of_ble_eq_true rfl) (Nat.le_of_ble_eq_true rfl) (show 2 ≤ am_P0.2.2.1 26 from by decide +kernel) rfl rfl rfl rfl ?_ ?_
        · refine am_q1 (v := 0) hi_26_0 rfl ?_
          refine am_q1 (v := 1) hi_26_1 rfl ?_
          refine am_q29 hi_26_2 ?_
          refine am_q32 (v := some (.int 0)) (S1 := S) (as := [.int 0, .int 1, .null]) (la := [some (.int 0), some (.int 1), some .null]) (rest := []) hi_26_3 (Nat.le_of_ble_eq_true rfl) (Nat.le_of_ble_eq_true rfl) (show 3 ≤ am_P0.2.2.1 27 from by decide +kernel) rfl rfl rfl rfl ?_ ?_
          · refine am_q1 (v := 0) hi_27_0 rfl ?_
            refine am_q12f hi_27_1 (by decide) ?_
            refine am_q1 (v := 0) hi_27_4 rfl ?_
            refine am_q1 (v := 1) hi_27_5 rfl ?_
            refine am_q13t hi_27_6 (by decide) ?_
            refine am_q1 (v := 0) hi_27_16 rfl ?_
            exact am_q33 hi_27_17
          show am_R _ _ _ _ [some (.int 0), some (.int 1)] [.int 0] _ _ _
          exact am_q33 hi_26_6
        show am_R _ _ _ _ [some (.ref 6), some (.int 0)] [.int 0] _ _ _
        refine am_q6i hi_25_8 ?_
        refine am_q2 (v := 6) hi_25_9 rfl ?_
        refine am_q1 (v := 0) hi_25_10 rfl ?_
        refine am_q32 (v := some (.ref 33)) (S1 := S) (as := [.ref 6, .int 0]) (la := [some (.ref 6), some (.int 0)]) (rest := []) hi_25_11 (Nat.le_of_ble_eq_true rfl) (Nat.le_of_ble_eq_true rfl) (show 2 ≤ am_P0.2.2.1 28 from by decide +kernel) rfl (am_recv_ok o6) rfl rfl ?_ ?_
        · refine am_q2 (v := 6) hi_28_0 rfl ?_
          refine am_q20 (v := .ref 38) hi_28_1 o6 rfl ?_
          refine am_q1 (v := 0) hi_28_4 rfl ?_
          refine am_q39 (j := 0) hi_28_5 g38 (by decide) (by decide) (by decide) h38_0 ?_
          exact am_q34 hi_28_6
        show am_R _ _ _ _ [some (.ref 6), some (.int 0)] [.ref 33] _ _ _
        exact am_q34 hi_25_14
      show am_R _ _ _ _ [some (.ref 5), some (.int 0)] [.ref 33] _ _ _
      refine am_q30 hi_159_31 o33 ?_
      refine am_q18 hi_159_34 ?_
      exact am_q34 hi_159_38
    show am_R _ _ _ _ [some (.ref 0), some (.int 0), some (.int 0), some (.int 2), none] [.ref 33] _ _ _
    refine am_q4 (ls' := [some (.ref 0), some (.int 0), some (.int 0), some (.int 2), some (.ref 33)]) hi_162_8 (Nat.le_of_ble_eq_true rfl) rfl ?_
    refine am_q2 (v := 33) hi_162_10 rfl ?_
    refine am_q14r hi_162_12 ?_
    refine am_q2 (v := 33) hi_162_15 rfl ?_
    refine am_q20 (v := .ref 34) hi_162_17 o33 rfl ?_
    refine am_q1 (v := 0) hi_162_20 rfl ?_
    refine am_q32 (v := some (.int 1)) (S1 := S) (as := [.ref 34, .int 0]) (la := [some (.ref 34), some (.int 0)]) (rest := []) hi_162_21 (Nat.le_of_ble_eq_true rfl) (Nat.le_of_ble_eq_true rfl) (show 2 ≤ am_P0.2.2.1 161 from by decide +kernel) rfl (am_recv_ok o34) rfl rfl ?_ ?_
    · refine am_q1 (v := 0) hi_161_0 rfl ?_
      refine am_q12f hi_161_1 (by decide) ?_
      refine am_q1 (v := 0) hi_161_4 rfl ?_
      refine am_q2 (v := 34) hi_161_5 rfl ?_
      refine am_q20 (v := .int 1) hi_161_6 o34 rfl ?_
      refine am_q13f hi_161_9 (by decide) ?_
      refine am_q0 hi_161_12 ?_
      refine am_q18 hi_161_13 ?_
      exact am_q36 hi_161_17 (by decide)
    show am_R _ _ _ _ [some (.ref 0), some (.int 0), some (.int 0), some (.int 2), some (.ref 33)] [.int 1] _ _ _
    refine am_q12f hi_162_24 (by decide) ?_
    refine am_q1 (v := 2) hi_162_27 rfl ?_
    refine am_q12f hi_162_28 (by decide) ?_
    refine am_q1 (v := 2) hi_162_31 rfl ?_
    refine am_q0 hi_162_32 ?_
    refine am_q13t hi_162_33 (by decide) ?_
    refine am_q2 (v := 33) hi_162_38 rfl ?_
    refine am_q20 (v := .ref 34) hi_162_40 o33 rfl ?_
    refine am_q1 (v := 0) hi_162_43 rfl ?_
    refine am_q1 (v := 2) hi_162_44 rfl ?_
    refine am_q32 (v := some (.int 0)) (S1 := S) (as := [.ref 34, .int 0, .int 2]) (la := [some (.ref 34), some (.int 0), some (.int 2)]) (rest := []) hi_162_45 (Nat.le_of_ble_eq_true rfl) (Nat.le_of_ble_eq_true rfl) (show 3 ≤ am_P0.2.2.1 54 from by decide +kernel) rfl (am_recv_ok o34) rfl rfl ?_ ?_
    · refine am_q1 (v := 0) hi_54_0 rfl ?_
      refine am_q12f hi_54_1 (by decide) ?_
      refine am_q1 (v := 0) hi_54_4 rfl ?_
      refine am_q2 (v := 34) hi_54_5 rfl ?_
      refine am_q20 (v := .int 1) hi_54_6 o34 rfl ?_
      refine am_q13f hi_54_9 (by decide) ?_
      refine am_q1 (v := 2) hi_54_12 rfl ?_
      refine am_q12f hi_54_13 (by decide) ?_
      refine am_q1 (v := 2) hi_54_16 rfl ?_
      refine am_q0 hi_54_17 ?_
      refine am_q13t hi_54_18 (by decide) ?_
      refine am_q2 (v := 34) hi_54_23 rfl ?_
      refine am_q20 (v := .ref 35) hi_54_24 o34 rfl ?_
      refine am_q1 (v := 0) hi_54_27 rfl ?_
      refine am_q0 hi_54_28 ?_
      refine am_q10 (z := 0) hi_54_29 (by decide) ?_
      refine am_q1 (v := 2) hi_54_30 rfl ?_
      refine am_q10 (z := 2) hi_54_31 (by decide) ?_
      refine am_q25 (v := 0) (j := 2) hi_54_32 q35 (by decide) (by decide) (by decide) (by decide) e35_2 ?_
      exact am_q33 hi_54_33
    show am_R _ _ _ _ [some (.ref 0), some (.int 0), some (.int 0), some (.int 2), some (.ref 33)] [.int 0] _ _ _
    exact am_q33 hi_162_48
  · refine am_q2 (v := 39) hi_272_0 rfl ?_
    refine am_q1 (v := 0) hi_272_1 rfl ?_
    refine am_q32 (v := some (.int 1)) (S1 := S) (as := [.ref 39, .int 0]) (la := [some (.ref 39), some (.int 0)]) (rest := []) hi_272_2 (Nat.le_of_ble_eq_true rfl) (Nat.le_of_ble_eq_true rfl) (show 2 ≤ am_P0.2.2.1 270 from by decide +kernel) rfl (am_recv_ok o39) rfl rfl ?_ ?_
    · refine am_q1 (v := 0) hi_270_0 rfl ?_
      refine am_q12f hi_270_1 (by decide) ?_
      refine am_q1 (v := 0) hi_270_4 rfl ?_
      refine am_q2 (v := 39) hi_270_5 rfl ?_
      refine am_q20 (v := .int 1) hi_270_6 o39 rfl ?_
      refine am_q13f hi_270_9 (by decide) ?_
      refine am_q0 hi_270_12 ?_
      refine am_q18 hi_270_13 ?_
      exact am_q36 hi_270_17 (by decide)
    show am_R _ _ _ _ [some (.ref 39), some (.int 0), some (.int 0), some (.int 2), none] [.int 1] _ _ _
    refine am_q12f hi_272_5 (by decide) ?_
    refine am_q1 (v := 0) hi_272_8 rfl ?_
    refine am_q12f hi_272_9 (by decide) ?_
    refine am_q1 (v := 0) hi_272_12 rfl ?_
    refine am_q2 (v := 39) hi_272_13 rfl ?_
    refine am_q20 (v := .ref 81) hi_272_14 o39 rfl ?_
    refine am_q1 (v := 0) hi_272_17 rfl ?_
    refine am_q25 (v := 1) (j := 0) hi_272_18 q81 (by decide) (by decide) (by decide) (by decide) e81_0 ?_
    refine am_q13t hi_272_19 (by decide) ?_
    refine am_q2 (v := 39) hi_272_24 rfl ?_
    refine am_q20 (v := .ref 93) hi_272_25 o39 rfl ?_
    refine am_q2 (v := 39) hi_272_28 rfl ?_
    refine am_q20 (v := .ref 82) hi_272_29 o39 rfl ?_
    refine am_q1 (v := 0) hi_272_32 rfl ?_
    refine am_q25 (v := 0) (j := 0) hi_272_33 q82 (by decide) (by decide) (by decide) (by decide) e82_0 ?_
    refine am_q1 (v := 0) hi_272_34 rfl ?_
    refine am_q10 (z := 0) hi_272_35 (by decide) ?_
    refine am_q25 (v := 0) (j := 0) hi_272_36 q93 (by decide) (by decide) (by decide) (by decide) e93_0 ?_
    refine am_q3 (ls' := [some (.ref 39), some (.int 0), some (.int 0), some (.int 2), some (.int 0)]) hi_272_37 (Nat.le_of_ble_eq_true rfl) rfl ?_
    refine am_q1 (v := 2) hi_272_39 rfl ?_
    refine am_q19 (t := 88) hi_272_40 (by decide) ?_
    refine am_q2 (v := 39) hi_272_88 rfl ?_
    refine am_q20 (v := .ref 91) hi_272_89 o39 rfl ?_
    refine am_q1 (v := 0) hi_272_92 rfl ?_
    refine am_q25 (v := 0) (j := 0) hi_272_94 q91 (by decide) (by decide) (by decide) (by decide) e91_0 ?_
    exact am_q33 hi_272_95
set_option maxRecDepth 10000 in
theorem pw_code_6 {sc : Nat × (Nat → Int32)} {S : am_S} (F : am_F0 S) : ∃ (v : Int32) (S1 S2 : am_S) (fs : List Value), am_R (am_PP sc) 59 162 0 [some (.ref 0), some (.int 0), some (.int 0), some (.int 3), none] [] S (some (some (.int v))) S1 ∧ am_R (am_PP sc) 59 272 0 [some (.ref 39), some (.int 0), some (.int 0), some (.int 3), none] [] S1 (some (some (.int v))) S2 ∧ S2.2 = S.2 ∧ am_fs S1 39 = some (11, fs) := by
  obtain ⟨⟨e35_0, e35_1, e35_2, e35_3, e75_0, e76_0, e77_0, e78_0, e79_0, e80_0⟩, ⟨e81_0, e82_0, e87_0, e89_0, e90_0, e91_0, e92_0, e93_0, g38, h38_0⟩, ⟨o0, o2, o3, o32, o33, o34, o36, o39, o5, o6⟩, ⟨q35, q4, q40, q41, q75, q76, q77, q78, q79, q80⟩, ⟨q81, q82, q87, q89, q90, q91, q92, q93⟩⟩ := F
  refine ⟨0, S, S, _, ?_, ?_, rfl, o39⟩
  · refine am_q2 (v := 0) hi_162_0 rfl ?_
    refine am_q20 (v := .ref 5) hi_162_1 o0 rfl ?_
    refine am_q1 (v := 0) hi_162_4 rfl ?_
    refine am_q32 (v := some (.ref 33)) (S1 := S) (as := [.ref 5, .int 0]) (la := [some (.ref 5), some (.int 0)]) (rest := []) hi_162_5 (Nat.le_of_ble_eq_true rfl) (Nat.le_of_ble_eq_true rfl) (show 2 ≤ am_P0.2.2.1 159 from by decide +kernel) rfl (am_recv_ok o5) rfl rfl ?_ ?_
    · refine am_q1 (v := 0) hi_159_0 rfl ?_
      refine am_q12f hi_159_1 (by decide) ?_
      refine am_q1 (v := 0) hi_159_4 rfl ?_
      refine am_q2 (v := 5) hi_159_5 rfl ?_
      refine am_q20 (v := .int 1) hi_159_6 o5 rfl ?_
      refine am_q13f hi_159_9 (by decide) ?_
      refine am_q1 (v := 0) hi_159_12 rfl ?_
      refine am_q2 (v := 5) hi_159_13 rfl ?_
      refine am_q20 (v := .ref 6) hi_159_14 o5 rfl ?_
      refine am_q32 (v := some (.int 1)) (S1 := S) (as := [.ref 6]) (la := [some (.ref 6)]) (rest := [.int 0]) hi_159_17 (Nat.le_of_ble_eq_true rfl) (Nat.le_of_ble_eq_true rfl) (show 1 ≤ am_P0.2.2.1 14 from by decide +kernel) rfl (am_recv_ok o6) rfl rfl ?_ ?_
      · refine am_q2 (v := 6) hi_14_0 rfl ?_
        refine am_q20 (v := .int 1) hi_14_1 o6 rfl ?_
        exact am_q33 hi_14_4
      show am_R _ _ _ _ [some (.ref 5), some (.int 0)] [.int 1, .int 0] _ _ _
      refine am_q13f hi_159_20 (by decide) ?_
      refine am_q2 (v := 5) hi_159_23 rfl ?_
      refine am_q20 (v := .ref 6) hi_159_24 o5 rfl ?_
      refine am_q1 (v := 0) hi_159_27 rfl ?_
      refine am_q32 (v := some (.ref 33)) (S1 := S) (as := [.ref 6, .int 0]) (la := [some (.ref 6), some (.int 0)]) (rest := []) hi_159_28 (Nat.le_of_ble_eq_true rfl) (Nat.le_of_ble_eq_true rfl) (show 2 ≤ am_P0.2.2.1 25 from by decide +kernel) rfl (am_recv_ok o6) rfl rfl ?_ ?_
      · refine am_q1 (v := 0) hi_25_0 rfl ?_
        refine am_q2 (v := 6) hi_25_1 rfl ?_
        refine am_q20 (v := .int 1) hi_25_2 o6 rfl ?_
        refine am_q32 (v := some (.int 0)) (S1 := S) (as := [.int 0, .int 1]) (la := [some (.int 0), some (.int 1)]) (rest := []) hi_25_5 (Nat.le_of_ble_eq_true rfl) (Nat.le_of_ble_eq_true rfl) (show 2 ≤ am_P0.2.2.1 26 from by decide +kernel) rfl rfl rfl rfl ?_ ?_
        · refine am_q1 (v := 0) hi_26_0 rfl ?_
          refine am_q1 (v := 1) hi_26_1 rfl ?_
          refine am_q29 hi_26_2 ?_
          refine am_q32 (v := some (.int 0)) (S1 := S) (as := [.int 0, .int 1, .null]) (la := [some (.int 0), some (.int 1), some .null]) (rest := []) hi_26_3 (Nat.le_of_ble_eq_true rfl) (Nat.le_of_ble_eq_true rfl) (show 3 ≤ am_P0.2.2.1 27 from by decide +kernel) rfl rfl rfl rfl ?_ ?_
          · refine am_q1 (v := 0) hi_27_0 rfl ?_
            refine am_q12f hi_27_1 (by decide) ?_
            refine am_q1 (v := 0) hi_27_4 rfl ?_
            refine am_q1 (v := 1) hi_27_5 rfl ?_
            refine am_q13t hi_27_6 (by decide) ?_
            refine am_q1 (v := 0) hi_27_16 rfl ?_
            exact am_q33 hi_27_17
          show am_R _ _ _ _ [some (.int 0), some (.int 1)] [.int 0] _ _ _
          exact am_q33 hi_26_6
        show am_R _ _ _ _ [some (.ref 6), some (.int 0)] [.int 0] _ _ _
        refine am_q6i hi_25_8 ?_
        refine am_q2 (v := 6) hi_25_9 rfl ?_
        refine am_q1 (v := 0) hi_25_10 rfl ?_
        refine am_q32 (v := some (.ref 33)) (S1 := S) (as := [.ref 6, .int 0]) (la := [some (.ref 6), some (.int 0)]) (rest := []) hi_25_11 (Nat.le_of_ble_eq_true rfl) (Nat.le_of_ble_eq_true rfl) (show 2 ≤ am_P0.2.2.1 28 from by decide +kernel) rfl (am_recv_ok o6) rfl rfl ?_ ?_
        · refine am_q2 (v := 6) hi_28_0 rfl ?_
          refine am_q20 (v := .ref 38) hi_28_1 o6 rfl ?_
          refine am_q1 (v := 0) hi_28_4 rfl ?_
          refine am_q39 (j := 0) hi_28_5 g38 (by decide) (by decide) (by decide) h38_0 ?_
          exact am_q34 hi_28_6
        show am_R _ _ _ _ [some (.ref 6), some (.int 0)] [.ref 33] _ _ _
        exact am_q34 hi_25_14
      show am_R _ _ _ _ [some (.ref 5), some (.int 0)] [.ref 33] _ _ _
      refine am_q30 hi_159_31 o33 ?_
      refine am_q18 hi_159_34 ?_
      exact am_q34 hi_159_38
    show am_R _ _ _ _ [some (.ref 0), some (.int 0), some (.int 0), some (.int 3), none] [.ref 33] _ _ _
    refine am_q4 (ls' := [some (.ref 0), some (.int 0), some (.int 0), some (.int 3), some (.ref 33)]) hi_162_8 (Nat.le_of_ble_eq_true rfl) rfl ?_
    refine am_q2 (v := 33) hi_162_10 rfl ?_
    refine am_q14r hi_162_12 ?_
    refine am_q2 (v := 33) hi_162_15 rfl ?_
    refine am_q20 (v := .ref 34) hi_162_17 o33 rfl ?_
    refine am_q1 (v := 0) hi_162_20 rfl ?_
    refine am_q32 (v := some (.int 1)) (S1 := S) (as := [.ref 34, .int 0]) (la := [some (.ref 34), some (.int 0)]) (rest := []) hi_162_21 (Nat.le_of_ble_eq_true rfl) (Nat.le_of_ble_eq_true rfl) (show 2 ≤ am_P0.2.2.1 161 from by decide +kernel) rfl (am_recv_ok o34) rfl rfl ?_ ?_
    · refine am_q1 (v := 0) hi_161_0 rfl ?_
      refine am_q12f hi_161_1 (by decide) ?_
      refine am_q1 (v := 0) hi_161_4 rfl ?_
      refine am_q2 (v := 34) hi_161_5 rfl ?_
      refine am_q20 (v := .int 1) hi_161_6 o34 rfl ?_
      refine am_q13f hi_161_9 (by decide) ?_
      refine am_q0 hi_161_12 ?_
      refine am_q18 hi_161_13 ?_
      exact am_q36 hi_161_17 (by decide)
    show am_R _ _ _ _ [some (.ref 0), some (.int 0), some (.int 0), some (.int 3), some (.ref 33)] [.int 1] _ _ _
    refine am_q12f hi_162_24 (by decide) ?_
    refine am_q1 (v := 3) hi_162_27 rfl ?_
    refine am_q12f hi_162_28 (by decide) ?_
    refine am_q1 (v := 3) hi_162_31 rfl ?_
    refine am_q0 hi_162_32 ?_
    refine am_q13t hi_162_33 (by decide) ?_
    refine am_q2 (v := 33) hi_162_38 rfl ?_
    refine am_q20 (v := .ref 34) hi_162_40 o33 rfl ?_
    refine am_q1 (v := 0) hi_162_43 rfl ?_
    refine am_q1 (v := 3) hi_162_44 rfl ?_
    refine am_q32 (v := some (.int 0)) (S1 := S) (as := [.ref 34, .int 0, .int 3]) (la := [some (.ref 34), some (.int 0), some (.int 3)]) (rest := []) hi_162_45 (Nat.le_of_ble_eq_true rfl) (Nat.le_of_ble_eq_true rfl) (show 3 ≤ am_P0.2.2.1 54 from by decide +kernel) rfl (am_recv_ok o34) rfl rfl ?_ ?_
    · refine am_q1 (v := 0) hi_54_0 rfl ?_
      refine am_q12f hi_54_1 (by decide) ?_
      refine am_q1 (v := 0) hi_54_4 rfl ?_
      refine am_q2 (v := 34) hi_54_5 rfl ?_
      refine am_q20 (v := .int 1) hi_54_6 o34 rfl ?_
      refine am_q13f hi_54_9 (by decide) ?_
      refine am_q1 (v := 3) hi_54_12 rfl ?_
      refine am_q12f hi_54_13 (by decide) ?_
      refine am_q1 (v := 3) hi_54_16 rfl ?_
      refine am_q0 hi_54_17 ?_
      refine am_q13t hi_54_18 (by decide) ?_
      refine am_q2 (v := 34) hi_54_23 rfl ?_
      refine am_q20 (v := .ref 35) hi_54_24 o34 rfl ?_
      refine am_q1 (v := 0) hi_54_27 rfl ?_
      refine am_q0 hi_54_28 ?_
      refine am_q10 (z := 0) hi_54_29 (by decide) ?_
      refine am_q1 (v := 3) hi_54_30 rfl ?_
      refine am_q10 (z := 3) hi_54_31 (by decide) ?_
      refine am_q25 (v := 0) (j := 3) hi_54_32 q35 (by decide) (by decide) (by decide) (by decide) e35_3 ?_
      exact am_q33 hi_54_33
    show am_R _ _ _ _ [some (.ref 0), some (.int 0), some (.int 0), some (.int 3), some (.ref 33)] [.int 0] _ _ _
    exact am_q33 hi_162_48
  · refine am_q2 (v := 39) hi_272_0 rfl ?_
    refine am_q1 (v := 0) hi_272_1 rfl ?_
    refine am_q32 (v := some (.int 1)) (S1 := S) (as := [.ref 39, .int 0]) (la := [some (.ref 39), some (.int 0)]) (rest := []) hi_272_2 (Nat.le_of_ble_eq_true rfl) (Nat.le_of_ble_eq_true rfl) (show 2 ≤ am_P0.2.2.1 270 from by decide +kernel) rfl (am_recv_ok o39) rfl rfl ?_ ?_
    · refine am_q1 (v := 0) hi_270_0 rfl ?_
      refine am_q12f hi_270_1 (by decide) ?_
      refine am_q1 (v := 0) hi_270_4 rfl ?_
      refine am_q2 (v := 39) hi_270_5 rfl ?_
      refine am_q20 (v := .int 1) hi_270_6 o39 rfl ?_
      refine am_q13f hi_270_9 (by decide) ?_
      refine am_q0 hi_270_12 ?_
      refine am_q18 hi_270_13 ?_
      exact am_q36 hi_270_17 (by decide)
    show am_R _ _ _ _ [some (.ref 39), some (.int 0), some (.int 0), some (.int 3), none] [.int 1] _ _ _
    refine am_q12f hi_272_5 (by decide) ?_
    refine am_q1 (v := 0) hi_272_8 rfl ?_
    refine am_q12f hi_272_9 (by decide) ?_
    refine am_q1 (v := 0) hi_272_12 rfl ?_
    refine am_q2 (v := 39) hi_272_13 rfl ?_
    refine am_q20 (v := .ref 81) hi_272_14 o39 rfl ?_
    refine am_q1 (v := 0) hi_272_17 rfl ?_
    refine am_q25 (v := 1) (j := 0) hi_272_18 q81 (by decide) (by decide) (by decide) (by decide) e81_0 ?_
    refine am_q13t hi_272_19 (by decide) ?_
    refine am_q2 (v := 39) hi_272_24 rfl ?_
    refine am_q20 (v := .ref 93) hi_272_25 o39 rfl ?_
    refine am_q2 (v := 39) hi_272_28 rfl ?_
    refine am_q20 (v := .ref 82) hi_272_29 o39 rfl ?_
    refine am_q1 (v := 0) hi_272_32 rfl ?_
    refine am_q25 (v := 0) (j := 0) hi_272_33 q82 (by decide) (by decide) (by decide) (by decide) e82_0 ?_
    refine am_q1 (v := 0) hi_272_34 rfl ?_
    refine am_q10 (z := 0) hi_272_35 (by decide) ?_
    refine am_q25 (v := 0) (j := 0) hi_272_36 q93 (by decide) (by decide) (by decide) (by decide) e93_0 ?_
    refine am_q3 (ls' := [some (.ref 39), some (.int 0), some (.int 0), some (.int 3), some (.int 0)]) hi_272_37 (Nat.le_of_ble_eq_true rfl) rfl ?_
    refine am_q1 (v := 3) hi_272_39 rfl ?_
    refine am_q19 (t := 96) hi_272_40 (by decide) ?_
    refine am_q2 (v := 39) hi_272_96 rfl ?_
    refine am_q20 (v := .ref 92) hi_272_97 o39 rfl ?_
    refine am_q1 (v := 0) hi_272_100 rfl ?_
    refine am_q25 (v := 0) (j := 0) hi_272_102 q92 (by decide) (by decide) (by decide) (by decide) e92_0 ?_
    exact am_q33 hi_272_103
set_option maxRecDepth 10000 in
theorem pw_code_7 {sc : Nat × (Nat → Int32)} {S : am_S} {c : Int32} (F : am_F0 S) (clo : 4 ≤ c.toInt) : ∃ (v : Int32) (S1 S2 : am_S) (fs : List Value), am_R (am_PP sc) 59 162 0 [some (.ref 0), some (.int 0), some (.int 0), some (.int c), none] [] S (some (some (.int v))) S1 ∧ am_R (am_PP sc) 59 272 0 [some (.ref 39), some (.int 0), some (.int 0), some (.int c), none] [] S1 (some (some (.int v))) S2 ∧ S2.2 = S.2 ∧ am_fs S1 39 = some (11, fs) := by
  obtain ⟨⟨e35_0, e35_1, e35_2, e35_3, e75_0, e76_0, e77_0, e78_0, e79_0, e80_0⟩, ⟨e81_0, e82_0, e87_0, e89_0, e90_0, e91_0, e92_0, e93_0, g38, h38_0⟩, ⟨o0, o2, o3, o32, o33, o34, o36, o39, o5, o6⟩, ⟨q35, q4, q40, q41, q75, q76, q77, q78, q79, q80⟩, ⟨q81, q82, q87, q89, q90, q91, q92, q93⟩⟩ := F
  refine ⟨(-1), S, S, _, ?_, ?_, rfl, o39⟩
  · refine am_q2 (v := 0) hi_162_0 rfl ?_
    refine am_q20 (v := .ref 5) hi_162_1 o0 rfl ?_
    refine am_q1 (v := 0) hi_162_4 rfl ?_
    refine am_q32 (v := some (.ref 33)) (S1 := S) (as := [.ref 5, .int 0]) (la := [some (.ref 5), some (.int 0)]) (rest := []) hi_162_5 (Nat.le_of_ble_eq_true rfl) (Nat.le_of_ble_eq_true rfl) (show 2 ≤ am_P0.2.2.1 159 from by decide +kernel) rfl (am_recv_ok o5) rfl rfl ?_ ?_
    · refine am_q1 (v := 0) hi_159_0 rfl ?_
      refine am_q12f hi_159_1 (by decide) ?_
      refine am_q1 (v := 0) hi_159_4 rfl ?_
      refine am_q2 (v := 5) hi_159_5 rfl ?_
      refine am_q20 (v := .int 1) hi_159_6 o5 rfl ?_
      refine am_q13f hi_159_9 (by decide) ?_
      refine am_q1 (v := 0) hi_159_12 rfl ?_
      refine am_q2 (v := 5) hi_159_13 rfl ?_
      refine am_q20 (v := .ref 6) hi_159_14 o5 rfl ?_
      refine am_q32 (v := some (.int 1)) (S1 := S) (as := [.ref 6]) (la := [some (.ref 6)]) (rest := [.int 0]) hi_159_17 (Nat.le_of_ble_eq_true rfl) (Nat.le_of_ble_eq_true rfl) (show 1 ≤ am_P0.2.2.1 14 from by decide +kernel) rfl (am_recv_ok o6) rfl rfl ?_ ?_
      · refine am_q2 (v := 6) hi_14_0 rfl ?_
        refine am_q20 (v := .int 1) hi_14_1 o6 rfl ?_
        exact am_q33 hi_14_4
      show am_R _ _ _ _ [some (.ref 5), some (.int 0)] [.int 1, .int 0] _ _ _
      refine am_q13f hi_159_20 (by decide) ?_
      refine am_q2 (v := 5) hi_159_23 rfl ?_
      refine am_q20 (v := .ref 6) hi_159_24 o5 rfl ?_
      refine am_q1 (v := 0) hi_159_27 rfl ?_
      refine am_q32 (v := some (.ref 33)) (S1 := S) (as := [.ref 6, .int 0]) (la := [some (.ref 6), some (.int 0)]) (rest := []) hi_159_28 (Nat.le_of_ble_eq_true rfl) (Nat.le_of_ble_eq_true rfl) (show 2 ≤ am_P0.2.2.1 25 from by decide +kernel) rfl (am_recv_ok o6) rfl rfl ?_ ?_
      · refine am_q1 (v := 0) hi_25_0 rfl ?_
        refine am_q2 (v := 6) hi_25_1 rfl ?_
        refine am_q20 (v := .int 1) hi_25_2 o6 rfl ?_
        refine am_q32 (v := some (.int 0)) (S1 := S) (as := [.int 0, .int 1]) (la := [some (.int 0), some (.int 1)]) (rest := []) hi_25_5 (Nat.le_of_ble_eq_true rfl) (Nat.le_of_ble_eq_true rfl) (show 2 ≤ am_P0.2.2.1 26 from by decide +kernel) rfl rfl rfl rfl ?_ ?_
        · refine am_q1 (v := 0) hi_26_0 rfl ?_
          refine am_q1 (v := 1) hi_26_1 rfl ?_
          refine am_q29 hi_26_2 ?_
          refine am_q32 (v := some (.int 0)) (S1 := S) (as := [.int 0, .int 1, .null]) (la := [some (.int 0), some (.int 1), some .null]) (rest := []) hi_26_3 (Nat.le_of_ble_eq_true rfl) (Nat.le_of_ble_eq_true rfl) (show 3 ≤ am_P0.2.2.1 27 from by decide +kernel) rfl rfl rfl rfl ?_ ?_
          · refine am_q1 (v := 0) hi_27_0 rfl ?_
            refine am_q12f hi_27_1 (by decide) ?_
            refine am_q1 (v := 0) hi_27_4 rfl ?_
            refine am_q1 (v := 1) hi_27_5 rfl ?_
            refine am_q13t hi_27_6 (by decide) ?_
            refine am_q1 (v := 0) hi_27_16 rfl ?_
            exact am_q33 hi_27_17
          show am_R _ _ _ _ [some (.int 0), some (.int 1)] [.int 0] _ _ _
          exact am_q33 hi_26_6
        show am_R _ _ _ _ [some (.ref 6), some (.int 0)] [.int 0] _ _ _
        refine am_q6i hi_25_8 ?_
        refine am_q2 (v := 6) hi_25_9 rfl ?_
        refine am_q1 (v := 0) hi_25_10 rfl ?_
        refine am_q32 (v := some (.ref 33)) (S1 := S) (as := [.ref 6, .int 0]) (la := [some (.ref 6), some (.int 0)]) (rest := []) hi_25_11 (Nat.le_of_ble_eq_true rfl) (Nat.le_of_ble_eq_true rfl) (show 2 ≤ am_P0.2.2.1 28 from by decide +kernel) rfl (am_recv_ok o6) rfl rfl ?_ ?_
        · refine am_q2 (v := 6) hi_28_0 rfl ?_
          refine am_q20 (v := .ref 38) hi_28_1 o6 rfl ?_
          refine am_q1 (v := 0) hi_28_4 rfl ?_
          refine am_q39 (j := 0) hi_28_5 g38 (by decide) (by decide) (by decide) h38_0 ?_
          exact am_q34 hi_28_6
        show am_R _ _ _ _ [some (.ref 6), some (.int 0)] [.ref 33] _ _ _
        exact am_q34 hi_25_14
      show am_R _ _ _ _ [some (.ref 5), some (.int 0)] [.ref 33] _ _ _
      refine am_q30 hi_159_31 o33 ?_
      refine am_q18 hi_159_34 ?_
      exact am_q34 hi_159_38
    show am_R _ _ _ _ [some (.ref 0), some (.int 0), some (.int 0), some (.int c), none] [.ref 33] _ _ _
    refine am_q4 (ls' := [some (.ref 0), some (.int 0), some (.int 0), some (.int c), some (.ref 33)]) hi_162_8 (Nat.le_of_ble_eq_true rfl) rfl ?_
    refine am_q2 (v := 33) hi_162_10 rfl ?_
    refine am_q14r hi_162_12 ?_
    refine am_q2 (v := 33) hi_162_15 rfl ?_
    refine am_q20 (v := .ref 34) hi_162_17 o33 rfl ?_
    refine am_q1 (v := 0) hi_162_20 rfl ?_
    refine am_q32 (v := some (.int 1)) (S1 := S) (as := [.ref 34, .int 0]) (la := [some (.ref 34), some (.int 0)]) (rest := []) hi_162_21 (Nat.le_of_ble_eq_true rfl) (Nat.le_of_ble_eq_true rfl) (show 2 ≤ am_P0.2.2.1 161 from by decide +kernel) rfl (am_recv_ok o34) rfl rfl ?_ ?_
    · refine am_q1 (v := 0) hi_161_0 rfl ?_
      refine am_q12f hi_161_1 (by decide) ?_
      refine am_q1 (v := 0) hi_161_4 rfl ?_
      refine am_q2 (v := 34) hi_161_5 rfl ?_
      refine am_q20 (v := .int 1) hi_161_6 o34 rfl ?_
      refine am_q13f hi_161_9 (by decide) ?_
      refine am_q0 hi_161_12 ?_
      refine am_q18 hi_161_13 ?_
      exact am_q36 hi_161_17 (by decide)
    show am_R _ _ _ _ [some (.ref 0), some (.int 0), some (.int 0), some (.int c), some (.ref 33)] [.int 1] _ _ _
    refine am_q12f hi_162_24 (by decide) ?_
    refine am_q1 (v := c) hi_162_27 rfl ?_
    refine am_q12f hi_162_28 (am_cF (m := c.toInt) (n := (0 : Int)) rfl (by decide) (by simp only [am_cI]; omega)) ?_
    refine am_q1 (v := c) hi_162_31 rfl ?_
    refine am_q0 hi_162_32 ?_
    refine am_q13f hi_162_33 (am_cF (m := c.toInt) (n := (3 : Int)) rfl (by decide) (by simp only [am_cI]; omega)) ?_
    refine am_q0 hi_162_36 ?_
    exact am_q33 hi_162_37
  · refine am_q2 (v := 39) hi_272_0 rfl ?_
    refine am_q1 (v := 0) hi_272_1 rfl ?_
    refine am_q32 (v := some (.int 1)) (S1 := S) (as := [.ref 39, .int 0]) (la := [some (.ref 39), some (.int 0)]) (rest := []) hi_272_2 (Nat.le_of_ble_eq_true rfl) (Nat.le_of_ble_eq_true rfl) (show 2 ≤ am_P0.2.2.1 270 from by decide +kernel) rfl (am_recv_ok o39) rfl rfl ?_ ?_
    · refine am_q1 (v := 0) hi_270_0 rfl ?_
      refine am_q12f hi_270_1 (by decide) ?_
      refine am_q1 (v := 0) hi_270_4 rfl ?_
      refine am_q2 (v := 39) hi_270_5 rfl ?_
      refine am_q20 (v := .int 1) hi_270_6 o39 rfl ?_
      refine am_q13f hi_270_9 (by decide) ?_
      refine am_q0 hi_270_12 ?_
      refine am_q18 hi_270_13 ?_
      exact am_q36 hi_270_17 (by decide)
    show am_R _ _ _ _ [some (.ref 39), some (.int 0), some (.int 0), some (.int c), none] [.int 1] _ _ _
    refine am_q12f hi_272_5 (by decide) ?_
    refine am_q1 (v := 0) hi_272_8 rfl ?_
    refine am_q12f hi_272_9 (by decide) ?_
    refine am_q1 (v := 0) hi_272_12 rfl ?_
    refine am_q2 (v := 39) hi_272_13 rfl ?_
    refine am_q20 (v := .ref 81) hi_272_14 o39 rfl ?_
    refine am_q1 (v := 0) hi_272_17 rfl ?_
    refine am_q25 (v := 1) (j := 0) hi_272_18 q81 (by decide) (by decide) (by decide) (by decide) e81_0 ?_
    refine am_q13t hi_272_19 (by decide) ?_
    refine am_q2 (v := 39) hi_272_24 rfl ?_
    refine am_q20 (v := .ref 93) hi_272_25 o39 rfl ?_
    refine am_q2 (v := 39) hi_272_28 rfl ?_
    refine am_q20 (v := .ref 82) hi_272_29 o39 rfl ?_
    refine am_q1 (v := 0) hi_272_32 rfl ?_
    refine am_q25 (v := 0) (j := 0) hi_272_33 q82 (by decide) (by decide) (by decide) (by decide) e82_0 ?_
    refine am_q1 (v := 0) hi_272_34 rfl ?_
    refine am_q10 (z := 0) hi_272_35 (by decide) ?_
    refine am_q25 (v := 0) (j := 0) hi_272_36 q93 (by decide) (by decide) (by decide) (by decide) e93_0 ?_
    refine am_q3 (ls' := [some (.ref 39), some (.int 0), some (.int 0), some (.int c), some (.int 0)]) hi_272_37 (Nat.le_of_ble_eq_true rfl) rfl ?_
    refine am_q1 (v := c) hi_272_39 rfl ?_
    refine am_q19 (t := 104) hi_272_40 (am_swO (lo := 0) (hi := 3) (by decide) (by omega)) ?_
    refine am_q0 hi_272_104 ?_
    exact am_q33 hi_272_105
set_option maxRecDepth 10000 in
theorem pw_code_8 {sc : Nat × (Nat → Int32)} {S : am_S} {b : Int32} {c : Int32} (F : am_F0 S) (blo : 1 ≤ b.toInt) : ∃ (v : Int32) (S1 S2 : am_S) (fs : List Value), am_R (am_PP sc) 59 162 0 [some (.ref 0), some (.int 0), some (.int b), some (.int c), none] [] S (some (some (.int v))) S1 ∧ am_R (am_PP sc) 59 272 0 [some (.ref 39), some (.int 0), some (.int b), some (.int c), none] [] S1 (some (some (.int v))) S2 ∧ S2.2 = S.2 ∧ am_fs S1 39 = some (11, fs) := by
  obtain ⟨⟨e35_0, e35_1, e35_2, e35_3, e75_0, e76_0, e77_0, e78_0, e79_0, e80_0⟩, ⟨e81_0, e82_0, e87_0, e89_0, e90_0, e91_0, e92_0, e93_0, g38, h38_0⟩, ⟨o0, o2, o3, o32, o33, o34, o36, o39, o5, o6⟩, ⟨q35, q4, q40, q41, q75, q76, q77, q78, q79, q80⟩, ⟨q81, q82, q87, q89, q90, q91, q92, q93⟩⟩ := F
  refine ⟨(-1), S, S, _, ?_, ?_, rfl, o39⟩
  · refine am_q2 (v := 0) hi_162_0 rfl ?_
    refine am_q20 (v := .ref 5) hi_162_1 o0 rfl ?_
    refine am_q1 (v := 0) hi_162_4 rfl ?_
    refine am_q32 (v := some (.ref 33)) (S1 := S) (as := [.ref 5, .int 0]) (la := [some (.ref 5), some (.int 0)]) (rest := []) hi_162_5 (Nat.le_of_ble_eq_true rfl) (Nat.le_of_ble_eq_true rfl) (show 2 ≤ am_P0.2.2.1 159 from by decide +kernel) rfl (am_recv_ok o5) rfl rfl ?_ ?_
    · refine am_q1 (v := 0) hi_159_0 rfl ?_
      refine am_q12f hi_159_1 (by decide) ?_
      refine am_q1 (v := 0) hi_159_4 rfl ?_
      refine am_q2 (v := 5) hi_159_5 rfl ?_
      refine am_q20 (v := .int 1) hi_159_6 o5 rfl ?_
      refine am_q13f hi_159_9 (by decide) ?_
      refine am_q1 (v := 0) hi_159_12 rfl ?_
      refine am_q2 (v := 5) hi_159_13 rfl ?_
      refine am_q20 (v := .ref 6) hi_159_14 o5 rfl ?_
      refine am_q32 (v := some (.int 1)) (S1 := S) (as := [.ref 6]) (la := [some (.ref 6)]) (rest := [.int 0]) hi_159_17 (Nat.le_of_ble_eq_true rfl) (Nat.le_of_ble_eq_true rfl) (show 1 ≤ am_P0.2.2.1 14 from by decide +kernel) rfl (am_recv_ok o6) rfl rfl ?_ ?_
      · refine am_q2 (v := 6) hi_14_0 rfl ?_
        refine am_q20 (v := .int 1) hi_14_1 o6 rfl ?_
        exact am_q33 hi_14_4
      show am_R _ _ _ _ [some (.ref 5), some (.int 0)] [.int 1, .int 0] _ _ _
      refine am_q13f hi_159_20 (by decide) ?_
      refine am_q2 (v := 5) hi_159_23 rfl ?_
      refine am_q20 (v := .ref 6) hi_159_24 o5 rfl ?_
      refine am_q1 (v := 0) hi_159_27 rfl ?_
      refine am_q32 (v := some (.ref 33)) (S1 := S) (as := [.ref 6, .int 0]) (la := [some (.ref 6), some (.int 0)]) (rest := []) hi_159_28 (Nat.le_of_ble_eq_true rfl) (Nat.le_of_ble_eq_true rfl) (show 2 ≤ am_P0.2.2.1 25 from by decide +kernel) rfl (am_recv_ok o6) rfl rfl ?_ ?_
      · refine am_q1 (v := 0) hi_25_0 rfl ?_
        refine am_q2 (v := 6) hi_25_1 rfl ?_
        refine am_q20 (v := .int 1) hi_25_2 o6 rfl ?_
        refine am_q32 (v := some (.int 0)) (S1 := S) (as := [.int 0, .int 1]) (la := [some (.int 0), some (.int 1)]) (rest := []) hi_25_5 (Nat.le_of_ble_eq_true rfl) (Nat.le_of_ble_eq_true rfl) (show 2 ≤ am_P0.2.2.1 26 from by decide +kernel) rfl rfl rfl rfl ?_ ?_
        · refine am_q1 (v := 0) hi_26_0 rfl ?_
          refine am_q1 (v := 1) hi_26_1 rfl ?_
          refine am_q29 hi_26_2 ?_
          refine am_q32 (v := some (.int 0)) (S1 := S) (as := [.int 0, .int 1, .null]) (la := [some (.int 0), some (.int 1), some .null]) (rest := []) hi_26_3 (Nat.le_of_ble_eq_true rfl) (Nat.le_of_ble_eq_true rfl) (show 3 ≤ am_P0.2.2.1 27 from by decide +kernel) rfl rfl rfl rfl ?_ ?_
          · refine am_q1 (v := 0) hi_27_0 rfl ?_
            refine am_q12f hi_27_1 (by decide) ?_
            refine am_q1 (v := 0) hi_27_4 rfl ?_
            refine am_q1 (v := 1) hi_27_5 rfl ?_
            refine am_q13t hi_27_6 (by decide) ?_
            refine am_q1 (v := 0) hi_27_16 rfl ?_
            exact am_q33 hi_27_17
          show am_R _ _ _ _ [some (.int 0), some (.int 1)] [.int 0] _ _ _
          exact am_q33 hi_26_6
        show am_R _ _ _ _ [some (.ref 6), some (.int 0)] [.int 0] _ _ _
        refine am_q6i hi_25_8 ?_
        refine am_q2 (v := 6) hi_25_9 rfl ?_
        refine am_q1 (v := 0) hi_25_10 rfl ?_
        refine am_q32 (v := some (.ref 33)) (S1 := S) (as := [.ref 6, .int 0]) (la := [some (.ref 6), some (.int 0)]) (rest := []) hi_25_11 (Nat.le_of_ble_eq_true rfl) (Nat.le_of_ble_eq_true rfl) (show 2 ≤ am_P0.2.2.1 28 from by decide +kernel) rfl (am_recv_ok o6) rfl rfl ?_ ?_
        · refine am_q2 (v := 6) hi_28_0 rfl ?_
          refine am_q20 (v := .ref 38) hi_28_1 o6 rfl ?_
          refine am_q1 (v := 0) hi_28_4 rfl ?_
          refine am_q39 (j := 0) hi_28_5 g38 (by decide) (by decide) (by decide) h38_0 ?_
          exact am_q34 hi_28_6
        show am_R _ _ _ _ [some (.ref 6), some (.int 0)] [.ref 33] _ _ _
        exact am_q34 hi_25_14
      show am_R _ _ _ _ [some (.ref 5), some (.int 0)] [.ref 33] _ _ _
      refine am_q30 hi_159_31 o33 ?_
      refine am_q18 hi_159_34 ?_
      exact am_q34 hi_159_38
    show am_R _ _ _ _ [some (.ref 0), some (.int 0), some (.int b), some (.int c), none] [.ref 33] _ _ _
    refine am_q4 (ls' := [some (.ref 0), some (.int 0), some (.int b), some (.int c), some (.ref 33)]) hi_162_8 (Nat.le_of_ble_eq_true rfl) rfl ?_
    refine am_q2 (v := 33) hi_162_10 rfl ?_
    refine am_q14r hi_162_12 ?_
    refine am_q2 (v := 33) hi_162_15 rfl ?_
    refine am_q20 (v := .ref 34) hi_162_17 o33 rfl ?_
    refine am_q1 (v := b) hi_162_20 rfl ?_
    refine am_q32 (v := some (.int 0)) (S1 := S) (as := [.ref 34, .int b]) (la := [some (.ref 34), some (.int b)]) (rest := []) hi_162_21 (Nat.le_of_ble_eq_true rfl) (Nat.le_of_ble_eq_true rfl) (show 2 ≤ am_P0.2.2.1 161 from by decide +kernel) rfl (am_recv_ok o34) rfl rfl ?_ ?_
    · refine am_q1 (v := b) hi_161_0 rfl ?_
      refine am_q12f hi_161_1 (am_cF (m := b.toInt) (n := (0 : Int)) rfl (by decide) (by simp only [am_cI]; omega)) ?_
      refine am_q1 (v := b) hi_161_4 rfl ?_
      refine am_q2 (v := 34) hi_161_5 rfl ?_
      refine am_q20 (v := .int 1) hi_161_6 o34 rfl ?_
      refine am_q13t hi_161_9 (am_cT (m := b.toInt) (n := (1 : Int)) rfl (by decide) (by simp only [am_cI]; omega)) ?_
      refine am_q0 hi_161_16 ?_
      exact am_q36 hi_161_17 (by decide)
    show am_R _ _ _ _ [some (.ref 0), some (.int 0), some (.int b), some (.int c), some (.ref 33)] [.int 0] _ _ _
    refine am_q12t hi_162_24 (by decide) ?_
    refine am_q0 hi_162_36 ?_
    exact am_q33 hi_162_37
  · refine am_q2 (v := 39) hi_272_0 rfl ?_
    refine am_q1 (v := 0) hi_272_1 rfl ?_
    refine am_q32 (v := some (.int 1)) (S1 := S) (as := [.ref 39, .int 0]) (la := [some (.ref 39), some (.int 0)]) (rest := []) hi_272_2 (Nat.le_of_ble_eq_true rfl) (Nat.le_of_ble_eq_true rfl) (show 2 ≤ am_P0.2.2.1 270 from by decide +kernel) rfl (am_recv_ok o39) rfl rfl ?_ ?_
    · refine am_q1 (v := 0) hi_270_0 rfl ?_
      refine am_q12f hi_270_1 (by decide) ?_
      refine am_q1 (v := 0) hi_270_4 rfl ?_
      refine am_q2 (v := 39) hi_270_5 rfl ?_
      refine am_q20 (v := .int 1) hi_270_6 o39 rfl ?_
      refine am_q13f hi_270_9 (by decide) ?_
      refine am_q0 hi_270_12 ?_
      refine am_q18 hi_270_13 ?_
      exact am_q36 hi_270_17 (by decide)
    show am_R _ _ _ _ [some (.ref 39), some (.int 0), some (.int b), some (.int c), none] [.int 1] _ _ _
    refine am_q12f hi_272_5 (by decide) ?_
    refine am_q1 (v := b) hi_272_8 rfl ?_
    refine am_q12f hi_272_9 (am_cF (m := b.toInt) (n := (0 : Int)) rfl (by decide) (by simp only [am_cI]; omega)) ?_
    refine am_q1 (v := b) hi_272_12 rfl ?_
    refine am_q2 (v := 39) hi_272_13 rfl ?_
    refine am_q20 (v := .ref 81) hi_272_14 o39 rfl ?_
    refine am_q1 (v := 0) hi_272_17 rfl ?_
    refine am_q25 (v := 1) (j := 0) hi_272_18 q81 (by decide) (by decide) (by decide) (by decide) e81_0 ?_
    refine am_q13f hi_272_19 (am_cF (m := b.toInt) (n := (1 : Int)) rfl (by decide) (by simp only [am_cI]; omega)) ?_
    refine am_q0 hi_272_22 ?_
    exact am_q33 hi_272_23
set_option maxRecDepth 10000 in
theorem pw_code_9 {sc : Nat × (Nat → Int32)} {S : am_S} {a : Int32} {b : Int32} {c : Int32} (F : am_F0 S) (alo : 1 ≤ a.toInt) : ∃ (v : Int32) (S1 S2 : am_S) (fs : List Value), am_R (am_PP sc) 59 162 0 [some (.ref 0), some (.int a), some (.int b), some (.int c), none] [] S (some (some (.int v))) S1 ∧ am_R (am_PP sc) 59 272 0 [some (.ref 39), some (.int a), some (.int b), some (.int c), none] [] S1 (some (some (.int v))) S2 ∧ S2.2 = S.2 ∧ am_fs S1 39 = some (11, fs) := by
  obtain ⟨⟨e35_0, e35_1, e35_2, e35_3, e75_0, e76_0, e77_0, e78_0, e79_0, e80_0⟩, ⟨e81_0, e82_0, e87_0, e89_0, e90_0, e91_0, e92_0, e93_0, g38, h38_0⟩, ⟨o0, o2, o3, o32, o33, o34, o36, o39, o5, o6⟩, ⟨q35, q4, q40, q41, q75, q76, q77, q78, q79, q80⟩, ⟨q81, q82, q87, q89, q90, q91, q92, q93⟩⟩ := F
  refine ⟨(-1), S, S, _, ?_, ?_, rfl, o39⟩
  · refine am_q2 (v := 0) hi_162_0 rfl ?_
    refine am_q20 (v := .ref 5) hi_162_1 o0 rfl ?_
    refine am_q1 (v := a) hi_162_4 rfl ?_
    refine am_q32 (v := some .null) (S1 := S) (as := [.ref 5, .int a]) (la := [some (.ref 5), some (.int a)]) (rest := []) hi_162_5 (Nat.le_of_ble_eq_true rfl) (Nat.le_of_ble_eq_true rfl) (show 2 ≤ am_P0.2.2.1 159 from by decide +kernel) rfl (am_recv_ok o5) rfl rfl ?_ ?_
    · refine am_q1 (v := a) hi_159_0 rfl ?_
      refine am_q12f hi_159_1 (am_cF (m := a.toInt) (n := (0 : Int)) rfl (by decide) (by simp only [am_cI]; omega)) ?_
      refine am_q1 (v := a) hi_159_4 rfl ?_
      refine am_q2 (v := 5) hi_159_5 rfl ?_
      refine am_q20 (v := .int 1) hi_159_6 o5 rfl ?_
      refine am_q13t hi_159_9 (am_cT (m := a.toInt) (n := (1 : Int)) rfl (by decide) (by simp only [am_cI]; omega)) ?_
      refine am_q29 hi_159_37 ?_
      exact am_q34n hi_159_38
    show am_R _ _ _ _ [some (.ref 0), some (.int a), some (.int b), some (.int c), none] [.null] _ _ _
    refine am_q4n (ls' := [some (.ref 0), some (.int a), some (.int b), some (.int c), some .null]) hi_162_8 (Nat.le_of_ble_eq_true rfl) rfl ?_
    refine am_q2n hi_162_10 rfl ?_
    refine am_q14n hi_162_12 ?_
    refine am_q0 hi_162_36 ?_
    exact am_q33 hi_162_37
  · refine am_q2 (v := 39) hi_272_0 rfl ?_
    refine am_q1 (v := a) hi_272_1 rfl ?_
    refine am_q32 (v := some (.int 0)) (S1 := S) (as := [.ref 39, .int a]) (la := [some (.ref 39), some (.int a)]) (rest := []) hi_272_2 (Nat.le_of_ble_eq_true rfl) (Nat.le_of_ble_eq_true rfl) (show 2 ≤ am_P0.2.2.1 270 from by decide +kernel) rfl (am_recv_ok o39) rfl rfl ?_ ?_
    · refine am_q1 (v := a) hi_270_0 rfl ?_
      refine am_q12f hi_270_1 (am_cF (m := a.toInt) (n := (0 : Int)) rfl (by decide) (by simp only [am_cI]; omega)) ?_
      refine am_q1 (v := a) hi_270_4 rfl ?_
      refine am_q2 (v := 39) hi_270_5 rfl ?_
      refine am_q20 (v := .int 1) hi_270_6 o39 rfl ?_
      refine am_q13t hi_270_9 (am_cT (m := a.toInt) (n := (1 : Int)) rfl (by decide) (by simp only [am_cI]; omega)) ?_
      refine am_q0 hi_270_16 ?_
      exact am_q36 hi_270_17 (by decide)
    show am_R _ _ _ _ [some (.ref 39), some (.int a), some (.int b), some (.int c), none] [.int 0] _ _ _
    refine am_q12t hi_272_5 (by decide) ?_
    refine am_q0 hi_272_22 ?_
    exact am_q33 hi_272_23
theorem pw_code {sc : Nat × (Nat → Int32)} {S : am_S} (F : am_F0 S) (a b c : Int32) : ∃ (v : Int32) (S1 S2 : am_S) (fs : List Value), am_R (am_PP sc) 59 162 0 [some (.ref 0), some (.int a), some (.int b), some (.int c), none] [] S (some (some (.int v))) S1 ∧ am_R (am_PP sc) 59 272 0 [some (.ref 39), some (.int a), some (.int b), some (.int c), none] [] S1 (some (some (.int v))) S2 ∧ S2.2 = S.2 ∧ am_fs S1 39 = some (11, fs) := by
  by_cases h : a.toInt < 0
  · exact pw_code_0 F (by omega)
  · by_cases h : a.toInt < 1
    · by_cases h : b.toInt < 0
      · obtain rfl : a = 0 := Int32.toInt_inj.mp (by have e : (0 : Int32).toInt = 0 := (by decide); omega)
        exact pw_code_1 F (by omega)
      · by_cases h : b.toInt < 1
        · by_cases h : c.toInt < 0
          · obtain rfl : a = 0 := Int32.toInt_inj.mp (by have e : (0 : Int32).toInt = 0 := (by decide); omega)
            obtain rfl : b = 0 := Int32.toInt_inj.mp (by have e : (0 : Int32).toInt = 0 := (by decide); omega)
            exact pw_code_2 F (by omega)
          · by_cases h : c.toInt < 4
            · by_cases h : c.toInt < 1
              · obtain rfl : a = 0 := Int32.toInt_inj.mp (by have e : (0 : Int32).toInt = 0 := (by decide); omega)
                obtain rfl : b = 0 := Int32.toInt_inj.mp (by have e : (0 : Int32).toInt = 0 := (by decide); omega)
                obtain rfl : c = 0 := Int32.toInt_inj.mp (by have e : (0 : Int32).toInt = 0 := (by decide); omega)
                exact pw_code_3 F
              · by_cases h : c.toInt < 2
                · obtain rfl : a = 0 := Int32.toInt_inj.mp (by have e : (0 : Int32).toInt = 0 := (by decide); omega)
                  obtain rfl : b = 0 := Int32.toInt_inj.mp (by have e : (0 : Int32).toInt = 0 := (by decide); omega)
                  obtain rfl : c = 1 := Int32.toInt_inj.mp (by have e : (1 : Int32).toInt = 1 := (by decide); omega)
                  exact pw_code_4 F
                · by_cases h : c.toInt < 3
                  · obtain rfl : a = 0 := Int32.toInt_inj.mp (by have e : (0 : Int32).toInt = 0 := (by decide); omega)
                    obtain rfl : b = 0 := Int32.toInt_inj.mp (by have e : (0 : Int32).toInt = 0 := (by decide); omega)
                    obtain rfl : c = 2 := Int32.toInt_inj.mp (by have e : (2 : Int32).toInt = 2 := (by decide); omega)
                    exact pw_code_5 F
                  · obtain rfl : a = 0 := Int32.toInt_inj.mp (by have e : (0 : Int32).toInt = 0 := (by decide); omega)
                    obtain rfl : b = 0 := Int32.toInt_inj.mp (by have e : (0 : Int32).toInt = 0 := (by decide); omega)
                    obtain rfl : c = 3 := Int32.toInt_inj.mp (by have e : (3 : Int32).toInt = 3 := (by decide); omega)
                    exact pw_code_6 F
            · obtain rfl : a = 0 := Int32.toInt_inj.mp (by have e : (0 : Int32).toInt = 0 := (by decide); omega)
              obtain rfl : b = 0 := Int32.toInt_inj.mp (by have e : (0 : Int32).toInt = 0 := (by decide); omega)
              exact pw_code_7 F (by omega)
        · obtain rfl : a = 0 := Int32.toInt_inj.mp (by have e : (0 : Int32).toInt = 0 := (by decide); omega)
          exact pw_code_8 F (by omega)
    · exact pw_code_9 F (by omega)
