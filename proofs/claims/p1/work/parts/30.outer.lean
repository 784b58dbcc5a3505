/-! outer ON A NEW OBJECT: every path, class and reference (printed by wip/p1/gen26.py) -/
set_option maxRecDepth 10000 in
theorem pw_outer_0 {sc : Nat × (Nat → Int32)} {S : am_S} {a : Int32} {b : Int32} {c : Int32} (F : am_F0 S) (ahi : a.toInt ≤ -1) : ∃ (v : Int32) (S1 S2 : am_S) (fs : List Value), am_R (am_PP sc) 59 160 0 [some (.ref 0), some (.int a), some (.int b), some (.int c), none] [] S (some (some (.int v))) S1 ∧ am_R (am_PP sc) 59 271 0 [some (.ref 39), some (.int a), some (.int b), some (.int c), none, none] [] S1 (some (some (.int v))) S2 ∧ S2.2 = S.2 ∧ am_fs S1 39 = some (11, fs) := by
  obtain ⟨⟨e35_0, e35_1, e35_2, e35_3, e75_0, e76_0, e77_0, e78_0, e79_0, e80_0⟩, ⟨e81_0, e82_0, e87_0, e89_0, e90_0, e91_0, e92_0, e93_0, g38, h38_0⟩, ⟨o0, o2, o3, o32, o33, o34, o36, o39, o5, o6⟩, ⟨q35, q4, q40, q41, q75, q76, q77, q78, q79, q80⟩, ⟨q81, q82, q87, q89, q90, q91, q92, q93⟩⟩ := F
  refine ⟨(-1), S, S, _, ?_, ?_, rfl, o39⟩
  · refine am_q2 (v := 0) hi_160_0 rfl ?_
    refine am_q20 (v := .ref 5) hi_160_1 o0 rfl ?_
    refine am_q1 (v := a) hi_160_4 rfl ?_
    refine am_q32 (v := some .null) (S1 := S) (as := [.ref 5, .int a]) (la := [some (.ref 5), some (.int a)]) (rest := []) hi_160_5 (Nat.le_of_ble_eq_true rfl) (Nat.le_of_ble_eq_true rfl) (show 2 ≤ am_P0.2.2.1 159 from by decide +kernel) rfl (am_recv_ok o5) rfl rfl ?_ ?_
    · refine am_q1 (v := a) hi_159_0 rfl ?_
      refine am_q12t hi_159_1 (am_cT (m := a.toInt) (n := (0 : Int)) rfl (by decide) (by simp only [am_cI]; omega)) ?_
      refine am_q29 hi_159_37 ?_
      exact am_q34n hi_159_38
    show am_R _ _ _ _ [some (.ref 0), some (.int a), some (.int b), some (.int c), none] [.null] _ _ _
    refine am_q4n (ls' := [some (.ref 0), some (.int a), some (.int b), some (.int c), some .null]) hi_160_8 (Nat.le_of_ble_eq_true rfl) rfl ?_
    refine am_q2n hi_160_10 rfl ?_
    refine am_q14n hi_160_12 ?_
    refine am_q0 hi_160_36 ?_
    exact am_q33 hi_160_37
  · refine am_q2 (v := 39) hi_271_0 rfl ?_
    refine am_q1 (v := a) hi_271_1 rfl ?_
    refine am_q32 (v := some (.int 0)) (S1 := S) (as := [.ref 39, .int a]) (la := [some (.ref 39), some (.int a)]) (rest := []) hi_271_2 (Nat.le_of_ble_eq_true rfl) (Nat.le_of_ble_eq_true rfl) (show 2 ≤ am_P0.2.2.1 270 from by decide +kernel) rfl (am_recv_ok o39) rfl rfl ?_ ?_
    · refine am_q1 (v := a) hi_270_0 rfl ?_
      refine am_q12t hi_270_1 (am_cT (m := a.toInt) (n := (0 : Int)) rfl (by decide) (by simp only [am_cI]; omega)) ?_
      refine am_q0 hi_270_16 ?_
      exact am_q36 hi_270_17 (by decide)
    show am_R _ _ _ _ [some (.ref 39), some (.int a), some (.int b), some (.int c), none, none] [.int 0] _ _ _
    refine am_q12t hi_271_5 (by decide) ?_
    refine am_q0 hi_271_31 ?_
    exact am_q33 hi_271_32
set_option maxRecDepth 10000 in
theorem pw_outer_1 {sc : Nat × (Nat → Int32)} {S : am_S} {b : Int32} {c : Int32} (F : am_F0 S) (bhi : b.toInt ≤ -1) : ∃ (v : Int32) (S1 S2 : am_S) (fs : List Value), am_R (am_PP sc) 59 160 0 [some (.ref 0), some (.int 0), some (.int b), some (.int c), none] [] S (some (some (.int v))) S1 ∧ am_R (am_PP sc) 59 271 0 [some (.ref 39), some (.int 0), some (.int b), some (.int c), none, none] [] S1 (some (some (.int v))) S2 ∧ S2.2 = S.2 ∧ am_fs S1 39 = some (11, fs) := by
  obtain ⟨⟨e35_0, e35_1, e35_2, e35_3, e75_0, e76_0, e77_0, e78_0, e79_0, e80_0⟩, ⟨e81_0, e82_0, e87_0, e89_0, e90_0, e91_0, e92_0, e93_0, g38, h38_0⟩, ⟨o0, o2, o3, o32, o33, o34, o36, o39, o5, o6⟩, ⟨q35, q4, q40, q41, q75, q76, q77, q78, q79, q80⟩, ⟨q81, q82, q87, q89, q90, q91, q92, q93⟩⟩ := F
  refine ⟨(-1), S, S, _, ?_, ?_, rfl, o39⟩
  · refine am_q2 (v := 0) hi_160_0 rfl ?_
    refine am_q20 (v := .ref 5) hi_160_1 o0 rfl ?_
    refine am_q1 (v := 0) hi_160_4 rfl ?_
    refine am_q32 (v := some (.ref 33)) (S1 := S) (as := [.ref 5, .int 0]) (la := [some (.ref 5), some (.int 0)]) (rest := []) hi_160_5 (Nat.le_of_ble_eq_true rfl) (Nat.le_of_ble_eq_true rfl) (show 2 ≤ am_P0.2.2.1 159 from by decide +kernel) rfl (am_recv_ok o5) rfl rfl ?_ ?_
    · refine am_q1 (v := 0) hi_159_0 rfl ?_
      refine am_q12f hi_159_1 (by decide) ?_
      refine am_q1 (v := 0) hi_159_4 rfl ?_
      refine am_q2 (v := 5) hi_159_5 rfl ?_
      refine am_q20 (v := .int 1) hi_159_6 o5 rfl ?_
      refine am_q13f hi_159_9 (by decide) ?_
      refine am_q1 (v := 0) hi_159_12 rfl ?_
      refine am_q2 (v := 5) hi_159_13 rfl ?_
      refine am_q20 (v := .ref 6) hi_159_14 o5 rfl ?_
      refine am_q32 (v := some (.int 1)) (S1 := S) (as := [.ref 6]) (la := [some (.ref 6)]) (rest := [.int 0]) hi_159_17 (Nat.le_of_ble_eq_true rfl) (Nat.le_of_ble_eq_true rfl) (show 1 ≤ am_P0.2.2.1 14 from by decide +kernel) rfl (am_recv_ok o6) rfl rfl ?_ ?_
      · refine am_q2 (v := 6) hi_14_0 rfl ?_
        refine am_q20 (v := .int 1) hi_14_1 o6 rfl ?_
        exact am_q33 hi_14_4
      show am_R _ _ _ _ [some (.ref 5), some (.int 0)] [.int 1, .int 0] _ _ _
      refine am_q13f hi_159_20 (by decide) ?_
      refine am_q2 (v := 5) hi_159_23 rfl ?_
      refine am_q20 (v := .ref 6) hi_159_24 o5 rfl ?_
      refine am_q1 (v := 0) hi_159_27 rfl ?_
      refine am_q32 (v := some (.ref 33)) (S1 := S) (as := [.ref 6, .int 0]) (la := [some (.ref 6), some (.int 0)]) (rest := []) hi_159_28 (Nat.le_of_ble_eq_true rfl) (Nat.le_of_ble_eq_true rfl) (show 2 ≤ am_P0.2.2.1 25 from by decide +kernel) rfl (am_recv_ok o6) rfl rfl ?_ ?_
      · refine am_q1 (v := 0) hi_25_0 rfl ?_
        refine am_q2 (v := 6) hi_25_1 rfl ?_
        refine am_q20 (v := .int 1) hi_25_2 o6 rfl ?_
        refine am_q32 (v := some (.int 0)) (S1 := S) (as := [.int 0, .int 1]) (la := [some (.int 0), some (.int 1)]) (rest := []) hi_25_5 (Nat.le_of_ble_eq_true rfl) (Nat.le_of_ble_eq_true rfl) (show 2 ≤ am_P0.2.2.1 26 from by decide +kernel) rfl rfl rfl rfl ?_ ?_
        · refine am_q1 (v := 0) hi_26_0 rfl ?_
          refine am_q1 (v := 1) hi_26_1 rfl ?_
          refine am_q29 hi_26_2 ?_
          refine am_q32 (v := some (.int 0)) (S1 := S) (as := [.int 0, .int 1, .null]) (la := [some (.int 0), some (.int 1), some .null]) (rest := []) hi_26_3 (Nat.le_of_ble_eq_true rfl) (Nat.le_of_ble_eq_true rfl) (show 3 ≤ am_P0.2.2.1 27 from by decide +kernel) rfl rfl rfl rfl ?_ ?_
          · refine am_q1 (v := 0) hi_27_0 rfl ?_
            refine am_q12f hi_27_1 (by decide) ?_
            refine am_q1 (v := 0) hi_27_4 rfl ?_
            refine am_q1 (v := 1) hi_27_5 rfl ?_
            refine am_q13t hi_27_6 (by decide) ?_
            refine am_q1 (v := 0) hi_27_16 rfl ?_
            exact am_q33 hi_27_17
          show am_R _ _ _ _ [some (.int 0), some (.int 1)] [.int 0] _ _ _
          exact am_q33 hi_26_6
        show am_R _ _ _ _ [some (.ref 6), some (.int 0)] [.int 0] _ _ _
        refine am_q6i hi_25_8 ?_
        refine am_q2 (v := 6) hi_25_9 rfl ?_
        refine am_q1 (v := 0) hi_25_10 rfl ?_
        refine am_q32 (v := some (.ref 33)) (S1 := S) (as := [.ref 6, .int 0]) (la := [some (.ref 6), some (.int 0)]) (rest := []) hi_25_11 (Nat.le_of_ble_eq_true rfl) (Nat.le_of_ble_eq_true rfl) (show 2 ≤ am_P0.2.2.1 28 from by decide +kernel) rfl (am_recv_ok o6) rfl rfl ?_ ?_
        · refine am_q2 (v := 6) hi_28_0 rfl ?_
          refine am_q20 (v := .ref 38) hi_28_1 o6 rfl ?_
          refine am_q1 (v := 0) hi_28_4 rfl ?_
          refine am_q39 (j := 0) hi_28_5 g38 (by decide) (by decide) (by decide) h38_0 ?_
          exact am_q34 hi_28_6
        show am_R _ _ _ _ [some (.ref 6), some (.int 0)] [.ref 33] _ _ _
        exact am_q34 hi_25_14
      show am_R _ _ _ _ [some (.ref 5), some (.int 0)] [.ref 33] _ _ _
      refine am_q30 hi_159_31 o33 ?_
      refine am_q18 hi_159_34 ?_
      exact am_q34 hi_159_38
    show am_R _ _ _ _ [some (.ref 0), some (.int 0), some (.int b), some (.int c), none] [.ref 33] _ _ _
    refine am_q4 (ls' := [some (.ref 0), some (.int 0), some (.int b), some (.int c), some (.ref 33)]) hi_160_8 (Nat.le_of_ble_eq_true rfl) rfl ?_
    refine am_q2 (v := 33) hi_160_10 rfl ?_
    refine am_q14r hi_160_12 ?_
    refine am_q2 (v := 33) hi_160_15 rfl ?_
    refine am_q20 (v := .ref 36) hi_160_17 o33 rfl ?_
    refine am_q1 (v := b) hi_160_20 rfl ?_
    refine am_q32 (v := some (.int 0)) (S1 := S) (as := [.ref 36, .int b]) (la := [some (.ref 36), some (.int b)]) (rest := []) hi_160_21 (Nat.le_of_ble_eq_true rfl) (Nat.le_of_ble_eq_true rfl) (show 2 ≤ am_P0.2.2.1 161 from by decide +kernel) rfl (am_recv_ok o36) rfl rfl ?_ ?_
    · refine am_q1 (v := b) hi_161_0 rfl ?_
      refine am_q12t hi_161_1 (am_cT (m := b.toInt) (n := (0 : Int)) rfl (by decide) (by simp only [am_cI]; omega)) ?_
      refine am_q0 hi_161_16 ?_
      exact am_q36 hi_161_17 (by decide)
    show am_R _ _ _ _ [some (.ref 0), some (.int 0), some (.int b), some (.int c), some (.ref 33)] [.int 0] _ _ _
    refine am_q12t hi_160_24 (by decide) ?_
    refine am_q0 hi_160_36 ?_
    exact am_q33 hi_160_37
  · refine am_q2 (v := 39) hi_271_0 rfl ?_
    refine am_q1 (v := 0) hi_271_1 rfl ?_
    refine am_q32 (v := some (.int 1)) (S1 := S) (as := [.ref 39, .int 0]) (la := [some (.ref 39), some (.int 0)]) (rest := []) hi_271_2 (Nat.le_of_ble_eq_true rfl) (Nat.le_of_ble_eq_true rfl) (show 2 ≤ am_P0.2.2.1 270 from by decide +kernel) rfl (am_recv_ok o39) rfl rfl ?_ ?_
    · refine am_q1 (v := 0) hi_270_0 rfl ?_
      refine am_q12f hi_270_1 (by decide) ?_
      refine am_q1 (v := 0) hi_270_4 rfl ?_
      refine am_q2 (v := 39) hi_270_5 rfl ?_
      refine am_q20 (v := .int 1) hi_270_6 o39 rfl ?_
      refine am_q13f hi_270_9 (by decide) ?_
      refine am_q0 hi_270_12 ?_
      refine am_q18 hi_270_13 ?_
      exact am_q36 hi_270_17 (by decide)
    show am_R _ _ _ _ [some (.ref 39), some (.int 0), some (.int b), some (.int c), none, none] [.int 1] _ _ _
    refine am_q12f hi_271_5 (by decide) ?_
    refine am_q1 (v := b) hi_271_8 rfl ?_
    refine am_q12t hi_271_9 (am_cT (m := b.toInt) (n := (0 : Int)) rfl (by decide) (by simp only [am_cI]; omega)) ?_
    refine am_q0 hi_271_31 ?_
    exact am_q33 hi_271_32
set_option maxRecDepth 10000 in
theorem pw_outer_2 {sc : Nat × (Nat → Int32)} {S : am_S} {b : Int32} {c : Int32} (F : am_F0 S) (blo : 0 ≤ b.toInt) : ∃ (v : Int32) (S1 S2 : am_S) (fs : List Value), am_R (am_PP sc) 59 160 0 [some (.ref 0), some (.int 0), some (.int b), some (.int c), none] [] S (some (some (.int v))) S1 ∧ am_R (am_PP sc) 59 271 0 [some (.ref 39), some (.int 0), some (.int b), some (.int c), none, none] [] S1 (some (some (.int v))) S2 ∧ S2.2 = S.2 ∧ am_fs S1 39 = some (11, fs) := by
  obtain ⟨⟨e35_0, e35_1, e35_2, e35_3, e75_0, e76_0, e77_0, e78_0, e79_0, e80_0⟩, ⟨e81_0, e82_0, e87_0, e89_0, e90_0, e91_0, e92_0, e93_0, g38, h38_0⟩, ⟨o0, o2, o3, o32, o33, o34, o36, o39, o5, o6⟩, ⟨q35, q4, q40, q41, q75, q76, q77, q78, q79, q80⟩, ⟨q81, q82, q87, q89, q90, q91, q92, q93⟩⟩ := F
  refine ⟨(-1), S, S, _, ?_, ?_, rfl, o39⟩
  · refine am_q2 (v := 0) hi_160_0 rfl ?_
    refine am_q20 (v := .ref 5) hi_160_1 o0 rfl ?_
    refine am_q1 (v := 0) hi_160_4 rfl ?_
    refine am_q32 (v := some (.ref 33)) (S1 := S) (as := [.ref 5, .int 0]) (la := [some (.ref 5), some (.int 0)]) (rest := []) hi_160_5 (Nat.le_of_ble_eq_true rfl) (Nat.le_of_ble_eq_true rfl) (show 2 ≤ am_P0.2.2.1 159 from by decide +kernel) rfl (am_recv_ok o5) rfl rfl ?_ ?_
    · refine am_q1 (v := 0) hi_159_0 rfl ?_
      refine am_q12f hi_159_1 (by decide) ?_
      refine am_q1 (v := 0) hi_159_4 rfl ?_
      refine am_q2 (v := 5) hi_159_5 rfl ?_
      refine am_q20 (v := .int 1) hi_159_6 o5 rfl ?_
      refine am_q13f hi_159_9 (by decide) ?_
      refine am_q1 (v := 0) hi_159_12 rfl ?_
      refine am_q2 (v := 5) hi_159_13 rfl ?_
      refine am_q20 (v := .ref 6) hi_159_14 o5 rfl ?_
      refine am_q32 (v := some (.int 1)) (S1 := S) (as := [.ref 6]) (la := [some (.ref 6)]) (rest := [.int 0]) hi_159_17 (Nat.le_of_ble_eq_true rfl) (Nat.le_of_ble_eq_true rfl) (show 1 ≤ am_P0.2.2.1 14 from by decide +kernel) rfl (am_recv_ok o6) rfl rfl ?_ ?_
      · refine am_q2 (v := 6) hi_14_0 rfl ?_
        refine am_q20 (v := .int 1) hi_14_1 o6 rfl ?_
        exact am_q33 hi_14_4
      show am_R _ _ _ _ [some (.ref 5), some (.int 0)] [.int 1, .int 0] _ _ _
      refine am_q13f hi_159_20 (by decide) ?_
      refine am_q2 (v := 5) hi_159_23 rfl ?_
      refine am_q20 (v := .ref 6) hi_159_24 o5 rfl ?_
      refine am_q1 (v := 0) hi_159_27 rfl ?_
      refine am_q32 (v := some (.ref 33)) (S1 := S) (as := [.ref 6, .int 0]) (la := [some (.ref 6), some (.int 0)]) (rest := []) hi_159_28 (Nat.le_of_ble_eq_true rfl) (Nat.le_of_ble_eq_true rfl) (show 2 ≤ am_P0.2.2.1 25 from by decide +kernel) rfl (am_recv_ok o6) rfl rfl ?_ ?_
      · refine am_q1 (v := 0) hi_25_0 rfl ?_
        refine am_q2 (v := 6) hi_25_1 rfl ?_
        refine am_q20 (v := .int 1) hi_25_2 o6 rfl ?_
        refine am_q32 (v := some (.int 0)) (S1 := S) (as := [.int 0, .int 1]) (la := [some (.int 0), some (.int 1)]) (rest := []) hi_25_5 (Nat.le_of_ble_eq_true rfl) (Nat.le_of_ble_eq_true rfl) (show 2 ≤ am_P0.2.2.1 26 from by decide +kernel) rfl rfl rfl rfl ?_ ?_
        · refine am_q1 (v := 0) hi_26_0 rfl ?_
          refine am_q1 (v := 1) hi_26_1 rfl ?_
          refine am_q29 hi_26_2 ?_
          refine am_q32 (v := some (.int 0)) (S1 := S) (as := [.int 0, .int 1, .null]) (la := [some (.int 0), some (.int 1), some .null]) (rest := []) hi_26_3 (Nat.le_of_ble_eq_true rfl) (Nat.le_of_ble_eq_true rfl) (show 3 ≤ am_P0.2.2.1 27 from by decide +kernel) rfl rfl rfl rfl ?_ ?_
          · refine am_q1 (v := 0) hi_27_0 rfl ?_
            refine am_q12f hi_27_1 (by decide) ?_
            refine am_q1 (v := 0) hi_27_4 rfl ?_
            refine am_q1 (v := 1) hi_27_5 rfl ?_
            refine am_q13t hi_27_6 (by decide) ?_
            refine am_q1 (v := 0) hi_27_16 rfl ?_
            exact am_q33 hi_27_17
          show am_R _ _ _ _ [some (.int 0), some (.int 1)] [.int 0] _ _ _
          exact am_q33 hi_26_6
        show am_R _ _ _ _ [some (.ref 6), some (.int 0)] [.int 0] _ _ _
        refine am_q6i hi_25_8 ?_
        refine am_q2 (v := 6) hi_25_9 rfl ?_
        refine am_q1 (v := 0) hi_25_10 rfl ?_
        refine am_q32 (v := some (.ref 33)) (S1 := S) (as := [.ref 6, .int 0]) (la := [some (.ref 6), some (.int 0)]) (rest := []) hi_25_11 (Nat.le_of_ble_eq_true rfl) (Nat.le_of_ble_eq_true rfl) (show 2 ≤ am_P0.2.2.1 28 from by decide +kernel) rfl (am_recv_ok o6) rfl rfl ?_ ?_
        · refine am_q2 (v := 6) hi_28_0 rfl ?_
          refine am_q20 (v := .ref 38) hi_28_1 o6 rfl ?_
          refine am_q1 (v := 0) hi_28_4 rfl ?_
          refine am_q39 (j := 0) hi_28_5 g38 (by decide) (by decide) (by decide) h38_0 ?_
          exact am_q34 hi_28_6
        show am_R _ _ _ _ [some (.ref 6), some (.int 0)] [.ref 33] _ _ _
        exact am_q34 hi_25_14
      show am_R _ _ _ _ [some (.ref 5), some (.int 0)] [.ref 33] _ _ _
      refine am_q30 hi_159_31 o33 ?_
      refine am_q18 hi_159_34 ?_
      exact am_q34 hi_159_38
    show am_R _ _ _ _ [some (.ref 0), some (.int 0), some (.int b), some (.int c), none] [.ref 33] _ _ _
    refine am_q4 (ls' := [some (.ref 0), some (.int 0), some (.int b), some (.int c), some (.ref 33)]) hi_160_8 (Nat.le_of_ble_eq_true rfl) rfl ?_
    refine am_q2 (v := 33) hi_160_10 rfl ?_
    refine am_q14r hi_160_12 ?_
    refine am_q2 (v := 33) hi_160_15 rfl ?_
    refine am_q20 (v := .ref 36) hi_160_17 o33 rfl ?_
    refine am_q1 (v := b) hi_160_20 rfl ?_
    refine am_q32 (v := some (.int 0)) (S1 := S) (as := [.ref 36, .int b]) (la := [some (.ref 36), some (.int b)]) (rest := []) hi_160_21 (Nat.le_of_ble_eq_true rfl) (Nat.le_of_ble_eq_true rfl) (show 2 ≤ am_P0.2.2.1 161 from by decide +kernel) rfl (am_recv_ok o36) rfl rfl ?_ ?_
    · refine am_q1 (v := b) hi_161_0 rfl ?_
      refine am_q12f hi_161_1 (am_cF (m := b.toInt) (n := (0 : Int)) rfl (by decide) (by simp only [am_cI]; omega)) ?_
      refine am_q1 (v := b) hi_161_4 rfl ?_
      refine am_q2 (v := 36) hi_161_5 rfl ?_
      refine am_q20 (v := .int 0) hi_161_6 o36 rfl ?_
      refine am_q13t hi_161_9 (am_cT (m := b.toInt) (n := (0 : Int)) rfl (by decide) (by simp only [am_cI]; omega)) ?_
      refine am_q0 hi_161_16 ?_
      exact am_q36 hi_161_17 (by decide)
    show am_R _ _ _ _ [some (.ref 0), some (.int 0), some (.int b), some (.int c), some (.ref 33)] [.int 0] _ _ _
    refine am_q12t hi_160_24 (by decide) ?_
    refine am_q0 hi_160_36 ?_
    exact am_q33 hi_160_37
  · refine am_q2 (v := 39) hi_271_0 rfl ?_
    refine am_q1 (v := 0) hi_271_1 rfl ?_
    refine am_q32 (v := some (.int 1)) (S1 := S) (as := [.ref 39, .int 0]) (la := [some (.ref 39), some (.int 0)]) (rest := []) hi_271_2 (Nat.le_of_ble_eq_true rfl) (Nat.le_of_ble_eq_true rfl) (show 2 ≤ am_P0.2.2.1 270 from by decide +kernel) rfl (am_recv_ok o39) rfl rfl ?_ ?_
    · refine am_q1 (v := 0) hi_270_0 rfl ?_
      refine am_q12f hi_270_1 (by decide) ?_
      refine am_q1 (v := 0) hi_270_4 rfl ?_
      refine am_q2 (v := 39) hi_270_5 rfl ?_
      refine am_q20 (v := .int 1) hi_270_6 o39 rfl ?_
      refine am_q13f hi_270_9 (by decide) ?_
      refine am_q0 hi_270_12 ?_
      refine am_q18 hi_270_13 ?_
      exact am_q36 hi_270_17 (by decide)
    show am_R _ _ _ _ [some (.ref 39), some (.int 0), some (.int b), some (.int c), none, none] [.int 1] _ _ _
    refine am_q12f hi_271_5 (by decide) ?_
    refine am_q1 (v := b) hi_271_8 rfl ?_
    refine am_q12f hi_271_9 (am_cF (m := b.toInt) (n := (0 : Int)) rfl (by decide) (by simp only [am_cI]; omega)) ?_
    refine am_q1 (v := b) hi_271_12 rfl ?_
    refine am_q2 (v := 39) hi_271_13 rfl ?_
    refine am_q20 (v := .ref 87) hi_271_14 o39 rfl ?_
    refine am_q1 (v := 0) hi_271_17 rfl ?_
    refine am_q25 (v := 0) (j := 0) hi_271_18 q87 (by decide) (by decide) (by decide) (by decide) e87_0 ?_
    refine am_q13t hi_271_19 (am_cT (m := b.toInt) (n := (0 : Int)) rfl (by decide) (by simp only [am_cI]; omega)) ?_
    refine am_q0 hi_271_31 ?_
    exact am_q33 hi_271_32
set_option maxRecDepth 10000 in
theorem pw_outer_3 {sc : Nat × (Nat → Int32)} {S : am_S} {a : Int32} {b : Int32} {c : Int32} (F : am_F0 S) (alo : 1 ≤ a.toInt) : ∃ (v : Int32) (S1 S2 : am_S) (fs : List Value), am_R (am_PP sc) 59 160 0 [some (.ref 0), some (.int a), some (.int b), some (.int c), none] [] S (some (some (.int v))) S1 ∧ am_R (am_PP sc) 59 271 0 [some (.ref 39), some (.int a), some (.int b), some (.int c), none, none] [] S1 (some (some (.int v))) S2 ∧ S2.2 = S.2 ∧ am_fs S1 39 = some (11, fs) := by
  obtain ⟨⟨e35_0, e35_1, e35_2, e35_3, e75_0, e76_0, e77_0, e78_0, e79_0, e80_0⟩, ⟨e81_0, e82_0, e87_0, e89_0, e90_0, e91_0, e92_0, e93_0, g38, h38_0⟩, ⟨o0, o2, o3, o32, o33, o34, o36, o39, o5, o6⟩, ⟨q35, q4, q40, q41, q75, q76, q77, q78, q79, q80⟩, ⟨q81, q82, q87, q89, q90, q91, q92, q93⟩⟩ := F
  refine ⟨(-1), S, S, _, ?_, ?_, rfl, o39⟩
  · refine am_q2 (v := 0) hi_160_0 rfl ?_
    refine am_q20 (v := .ref 5) hi_160_1 o0 rfl ?_
    refine am_q1 (v := a) hi_160_4 rfl ?_
    refine am_q32 (v := some .null) (S1 := S) (as := [.ref 5, .int a]) (la := [some (.ref 5), some (.int a)]) (rest := []) hi_160_5 (Nat.le_of_ble_eq_true rfl) (Nat.le_of_ble_eq_true rfl) (show 2 ≤ am_P0.2.2.1 159 from by decide +kernel) rfl (am_recv_ok o5) rfl rfl ?_ ?_
    · refine am_q1 (v := a) hi_159_0 rfl ?_
      refine am_q12f hi_159_1 (am_cF (m := a.toInt) (n := (0 : Int)) rfl (by decide) (by simp only [am_cI]; omega)) ?_
      refine am_q1 (v := a) hi_159_4 rfl ?_
      refine am_q2 (v := 5) hi_159_5 rfl ?_
      refine am_q20 (v := .int 1) hi_159_6 o5 rfl ?_
      refine am_q13t hi_159_9 (am_cT (m := a.toInt) (n := (1 : Int)) rfl (by decide) (by simp only [am_cI]; omega)) ?_
      refine am_q29 hi_159_37 ?_
      exact am_q34n hi_159_38
    show am_R _ _ _ _ [some (.ref 0), some (.int a), some (.int b), some (.int c), none] [.null] _ _ _
    refine am_q4n (ls' := [some (.ref 0), some (.int a), some (.int b), some (.int c), some .null]) hi_160_8 (Nat.le_of_ble_eq_true rfl) rfl ?_
    refine am_q2n hi_160_10 rfl ?_
    refine am_q14n hi_160_12 ?_
    refine am_q0 hi_160_36 ?_
    exact am_q33 hi_160_37
  · refine am_q2 (v := 39) hi_271_0 rfl ?_
    refine am_q1 (v := a) hi_271_1 rfl ?_
    refine am_q32 (v := some (.int 0)) (S1 := S) (as := [.ref 39, .int a]) (la := [some (.ref 39), some (.int a)]) (rest := []) hi_271_2 (Nat.le_of_ble_eq_true rfl) (Nat.le_of_ble_eq_true rfl) (show 2 ≤ am_P0.2.2.1 270 from by decide +kernel) rfl (am_recv_ok o39) rfl rfl ?_ ?_
    · refine am_q1 (v := a) hi_270_0 rfl ?_
      refine am_q12f hi_270_1 (am_cF (m := a.toInt) (n := (0 : Int)) rfl (by decide) (by simp only [am_cI]; omega)) ?_
      refine am_q1 (v := a) hi_270_4 rfl ?_
      refine am_q2 (v := 39) hi_270_5 rfl ?_
      refine am_q20 (v := .int 1) hi_270_6 o39 rfl ?_
      refine am_q13t hi_270_9 (am_cT (m := a.toInt) (n := (1 : Int)) rfl (by decide) (by simp only [am_cI]; omega)) ?_
      refine am_q0 hi_270_16 ?_
      exact am_q36 hi_270_17 (by decide)
    show am_R _ _ _ _ [some (.ref 39), some (.int a), some (.int b), some (.int c), none, none] [.int 0] _ _ _
    refine am_q12t hi_271_5 (by decide) ?_
    refine am_q0 hi_271_31 ?_
    exact am_q33 hi_271_32
theorem pw_outer {sc : Nat × (Nat → Int32)} {S : am_S} (F : am_F0 S) (a b c : Int32) : ∃ (v : Int32) (S1 S2 : am_S) (fs : List Value), am_R (am_PP sc) 59 160 0 [some (.ref 0), some (.int a), some (.int b), some (.int c), none] [] S (some (some (.int v))) S1 ∧ am_R (am_PP sc) 59 271 0 [some (.ref 39), some (.int a), some (.int b), some (.int c), none, none] [] S1 (some (some (.int v))) S2 ∧ S2.2 = S.2 ∧ am_fs S1 39 = some (11, fs) := by
  by_cases h : a.toInt < 0
  · exact pw_outer_0 F (by omega)
  · by_cases h : a.toInt < 1
    · by_cases h : b.toInt < 0
      · obtain rfl : a = 0 := Int32.toInt_inj.mp (by have e : (0 : Int32).toInt = 0 := (by decide); omega)
        exact pw_outer_1 F (by omega)
      · obtain rfl : a = 0 := Int32.toInt_inj.mp (by have e : (0 : Int32).toInt = 0 := (by decide); omega)
        exact pw_outer_2 F (by omega)
    · exact pw_outer_3 F (by omega)
