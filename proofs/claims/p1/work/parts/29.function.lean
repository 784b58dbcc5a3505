/-! function ON A NEW OBJECT: every path, class and reference (printed by wip/p1/gen26.py) -/
set_option maxRecDepth 10000 in
theorem pw_function_0 {sc : Nat × (Nat → Int32)} {S : am_S} {a : Int32} {b : Int32} (F : am_F0 S) (ahi : a.toInt ≤ -1) : ∃ (v : Int32) (S1 S2 : am_S) (fs : List Value), am_R (am_PP sc) 59 158 0 [some (.ref 0), some (.int a), some (.int b), none] [] S (some (some (.int v))) S1 ∧ am_R (am_PP sc) 59 269 0 [some (.ref 39), some (.int a), some (.int b)] [] S1 (some (some (.int v))) S2 ∧ S2.2 = S.2 ∧ am_fs S1 39 = some (11, fs) := by
  obtain ⟨⟨e35_0, e35_1, e35_2, e35_3, e75_0, e76_0, e77_0, e78_0, e79_0, e80_0⟩, ⟨e81_0, e82_0, e87_0, e89_0, e90_0, e91_0, e92_0, e93_0, g38, h38_0⟩, ⟨o0, o2, o3, o32, o33, o34, o36, o39, o5, o6⟩, ⟨q35, q4, q40, q41, q75, q76, q77, q78, q79, q80⟩, ⟨q81, q82, q87, q89, q90, q91, q92, q93⟩⟩ := F
  refine ⟨(-1), S, S, _, ?_, ?_, rfl, o39⟩
  · refine am_q2 (v := 0) hi_158_0 rfl ?_
    refine am_q20 (v := .ref 5) hi_158_1 o0 rfl ?_
    refine am_q1 (v := a) hi_158_4 rfl ?_
    refine am_q32 (v := some .null) (S1 := S) (as := [.ref 5, .int a]) (la := [some (.ref 5), some (.int a)]) (rest := []) hi_158_5 (Nat.le_of_ble_eq_true rfl) (Nat.le_of_ble_eq_true rfl) (show 2 ≤ am_P0.2.2.1 159 from by decide +kernel) rfl (am_recv_ok o5) rfl rfl ?_ ?_
    · refine am_q1 (v := a) hi_159_0 rfl ?_
      refine am_q12t hi_159_1 (am_cT (m := a.toInt) (n := (0 : Int)) rfl (by decide) (by simp only [am_cI]; omega)) ?_
      refine am_q29 hi_159_37 ?_
      exact am_q34n hi_159_38
    show am_R _ _ _ _ [some (.ref 0), some (.int a), some (.int b), none] [.null] _ _ _
    refine am_q4n (ls' := [some (.ref 0), some (.int a), some (.int b), some .null]) hi_158_8 (Nat.le_of_ble_eq_true rfl) rfl ?_
    refine am_q2n hi_158_9 rfl ?_
    refine am_q15n hi_158_10 ?_
    refine am_q0 hi_158_13 ?_
    exact am_q33 hi_158_14
  · refine am_q2 (v := 39) hi_269_0 rfl ?_
    refine am_q1 (v := a) hi_269_1 rfl ?_
    refine am_q32 (v := some (.int 0)) (S1 := S) (as := [.ref 39, .int a]) (la := [some (.ref 39), some (.int a)]) (rest := []) hi_269_2 (Nat.le_of_ble_eq_true rfl) (Nat.le_of_ble_eq_true rfl) (show 2 ≤ am_P0.2.2.1 270 from by decide +kernel) rfl (am_recv_ok o39) rfl rfl ?_ ?_
    · refine am_q1 (v := a) hi_270_0 rfl ?_
      refine am_q12t hi_270_1 (am_cT (m := a.toInt) (n := (0 : Int)) rfl (by decide) (by simp only [am_cI]; omega)) ?_
      refine am_q0 hi_270_16 ?_
      exact am_q36 hi_270_17 (by decide)
    show am_R _ _ _ _ [some (.ref 39), some (.int a), some (.int b)] [.int 0] _ _ _
    refine am_q12f hi_269_5 (by decide) ?_
    refine am_q0 hi_269_8 ?_
    exact am_q33 hi_269_9
set_option maxRecDepth 10000 in
theorem pw_function_1 {sc : Nat × (Nat → Int32)} {S : am_S} {b : Int32} (F : am_F0 S) (bhi : b.toInt ≤ -1) : ∃ (v : Int32) (S1 S2 : am_S) (fs : List Value), am_R (am_PP sc) 59 158 0 [some (.ref 0), some (.int 0), some (.int b), none] [] S (some (some (.int v))) S1 ∧ am_R (am_PP sc) 59 269 0 [some (.ref 39), some (.int 0), some (.int b)] [] S1 (some (some (.int v))) S2 ∧ S2.2 = S.2 ∧ am_fs S1 39 = some (11, fs) := by
  obtain ⟨⟨e35_0, e35_1, e35_2, e35_3, e75_0, e76_0, e77_0, e78_0, e79_0, e80_0⟩, ⟨e81_0, e82_0, e87_0, e89_0, e90_0, e91_0, e92_0, e93_0, g38, h38_0⟩, ⟨o0, o2, o3, o32, o33, o34, o36, o39, o5, o6⟩, ⟨q35, q4, q40, q41, q75, q76, q77, q78, q79, q80⟩, ⟨q81, q82, q87, q89, q90, q91, q92, q93⟩⟩ := F
  refine ⟨(-1), S, S, _, ?_, ?_, rfl, o39⟩
  · refine am_q2 (v := 0) hi_158_0 rfl ?_
    refine am_q20 (v := .ref 5) hi_158_1 o0 rfl ?_
    refine am_q1 (v := 0) hi_158_4 rfl ?_
    refine am_q32 (v := some (.ref 33)) (S1 := S) (as := [.ref 5, .int 0]) (la := [some (.ref 5), some (.int 0)]) (rest := []) hi_158_5 (Nat.le_of_ble_eq_true rfl) (Nat.le_of_ble_eq_true rfl) (show 2 ≤ am_P0.2.2.1 159 from by decide +kernel) rfl (am_recv_ok o5) rfl rfl ?_ ?_
    · refine am_q1 (v := 0) hi_159_0 rfl ?_
      refine am_q12f hi_159_1 (by decide) ?_
      refine am_q1 (v := 0) hi_159_4 rfl ?_
      refine am_q2 (v := 5) hi_159_5 rfl ?_
      refine am_q20 (v := .int 1) hi_159_6 o5 rfl ?_
      refine am_q13f hi_159_9 (by decide) ?_
      refine am_q1 (v := 0) hi_159_12 rfl ?_
      refine am_q2 (v := 5) hi_159_13 rfl ?_
      refine am_q20 (v := .ref 6) hi_159_14 o5 rfl ?_
      refine am_q32 (v := some (.int 1)) (S1 := S) (as := [.ref 6]) (la := [some (.ref 6)]) (rest := [.int 0]) hi_159_17 (Nat.le_of_ble_eq_true rfl) (Nat.le_of_ble_eq_true rfl) (show 1 ≤ am_P0.2.2.1 14 from by decide +kernel) rfl (am_recv_ok o6) rfl rfl ?_ ?_
      · refine am_q2 (v := 6) hi_14_0 rfl ?_
        refine am_q20 (v := .int 1) hi_14_1 o6 rfl ?_
        exact am_q33 hi_14_4
      show am_R _ _ _ _ [some (.ref 5), some (.int 0)] [.int 1, .int 0] _ _ _
      refine am_q13f hi_159_20 (by decide) ?_
      refine am_q2 (v := 5) hi_159_23 rfl ?_
      refine am_q20 (v := .ref 6) hi_159_24 o5 rfl ?_
      refine am_q1 (v := 0) hi_159_27 rfl ?_
      refine am_q32 (v := some (.ref 33)) (S1 := S) (as := [.ref 6, .int 0]) (la := [some (.ref 6), some (.int 0)]) (rest := []) hi_159_28 (Nat.le_of_ble_eq_true rfl) (Nat.le_of_ble_eq_true rfl) (show 2 ≤ am_P0.2.2.1 25 from by decide +kernel) rfl (am_recv_ok o6) rfl rfl ?_ ?_
      · refine am_q1 (v := 0) hi_25_0 rfl ?_
        refine am_q2 (v := 6) hi_25_1 rfl ?_
        refine am_q20 (v := .int 1) hi_25_2 o6 rfl ?_
        refine am_q32 (v := some (.int 0)) (S1 := S) (as := [.int 0, .int 1]) (la := [some (.int 0), some (.int 1)]) (rest := []) hi_25_5 (Nat.le_of_ble_eq_true rfl) (Nat.le_of_ble_eq_true rfl) (show 2 ≤ am_P0.2.2.1 26 from by decide +kernel) rfl rfl rfl rfl ?_ ?_
        · refine am_q1 (v := 0) hi_26_0 rfl ?_
          refine am_q1 (v := 1) hi_26_1 rfl ?_
          refine am_q29 hi_26_2 ?_
          refine am_q32 (v := some (.int 0)) (S1 := S) (as := [.int 0, .int 1, .null]) (la := [some (.int 0), some (.int 1), some .null]) (rest := []) hi_26_3 (Nat.le_of_ble_eq_true rfl) (Nat.le_of_ble_eq_true rfl) (show 3 ≤ am_P0.2.2.1 27 from by decide +kernel) rfl rfl rfl rfl ?_ ?_
          · refine am_q1 (v := 0) hi_27_0 rfl ?_
            refine am_q12f hi_27_1 (by decide) ?_
            refine am_q1 (v := 0) hi_27_4 rfl ?_
            refine am_q1 (v := 1) hi_27_5 rfl ?_
            refine am_q13t hi_27_6 (by decide) ?_
            refine am_q1 (v := 0) hi_27_16 rfl ?_
            exact am_q33 hi_27_17
          show am_R _ _ _ _ [some (.int 0), some (.int 1)] [.int 0] _ _ _
          exact am_q33 hi_26_6
        show am_R _ _ _ _ [some (.ref 6), some (.int 0)] [.int 0] _ _ _
        refine am_q6i hi_25_8 ?_
        refine am_q2 (v := 6) hi_25_9 rfl ?_
        refine am_q1 (v := 0) hi_25_10 rfl ?_
        refine am_q32 (v := some (.ref 33)) (S1 := S) (as := [.ref 6, .int 0]) (la := [some (.ref 6), some (.int 0)]) (rest := []) hi_25_11 (Nat.le_of_ble_eq_true rfl) (Nat.le_of_ble_eq_true rfl) (show 2 ≤ am_P0.2.2.1 28 from by decide +kernel) rfl (am_recv_ok o6) rfl rfl ?_ ?_
        · refine am_q2 (v := 6) hi_28_0 rfl ?_
          refine am_q20 (v := .ref 38) hi_28_1 o6 rfl ?_
          refine am_q1 (v := 0) hi_28_4 rfl ?_
          refine am_q39 (j := 0) hi_28_5 g38 (by decide) (by decide) (by decide) h38_0 ?_
          exact am_q34 hi_28_6
        show am_R _ _ _ _ [some (.ref 6), some (.int 0)] [.ref 33] _ _ _
        exact am_q34 hi_25_14
      show am_R _ _ _ _ [some (.ref 5), some (.int 0)] [.ref 33] _ _ _
      refine am_q30 hi_159_31 o33 ?_
      refine am_q18 hi_159_34 ?_
      exact am_q34 hi_159_38
    show am_R _ _ _ _ [some (.ref 0), some (.int 0), some (.int b), none] [.ref 33] _ _ _
    refine am_q4 (ls' := [some (.ref 0), some (.int 0), some (.int b), some (.ref 33)]) hi_158_8 (Nat.le_of_ble_eq_true rfl) rfl ?_
    refine am_q2 (v := 33) hi_158_9 rfl ?_
    refine am_q15r hi_158_10 ?_
    refine am_q1 (v := b) hi_158_15 rfl ?_
    refine am_q19 (t := 110) hi_158_16 (am_swO (lo := 0) (hi := 7) (by decide) (by omega)) ?_
    refine am_q0 hi_158_110 ?_
    exact am_q33 hi_158_111
  · refine am_q2 (v := 39) hi_269_0 rfl ?_
    refine am_q1 (v := 0) hi_269_1 rfl ?_
    refine am_q32 (v := some (.int 1)) (S1 := S) (as := [.ref 39, .int 0]) (la := [some (.ref 39), some (.int 0)]) (rest := []) hi_269_2 (Nat.le_of_ble_eq_true rfl) (Nat.le_of_ble_eq_true rfl) (show 2 ≤ am_P0.2.2.1 270 from by decide +kernel) rfl (am_recv_ok o39) rfl rfl ?_ ?_
    · refine am_q1 (v := 0) hi_270_0 rfl ?_
      refine am_q12f hi_270_1 (by decide) ?_
      refine am_q1 (v := 0) hi_270_4 rfl ?_
      refine am_q2 (v := 39) hi_270_5 rfl ?_
      refine am_q20 (v := .int 1) hi_270_6 o39 rfl ?_
      refine am_q13f hi_270_9 (by decide) ?_
      refine am_q0 hi_270_12 ?_
      refine am_q18 hi_270_13 ?_
      exact am_q36 hi_270_17 (by decide)
    show am_R _ _ _ _ [some (.ref 39), some (.int 0), some (.int b)] [.int 1] _ _ _
    refine am_q12t hi_269_5 (by decide) ?_
    refine am_q1 (v := b) hi_269_10 rfl ?_
    refine am_q19 (t := 112) hi_269_11 (am_swO (lo := 0) (hi := 7) (by decide) (by omega)) ?_
    refine am_q0 hi_269_112 ?_
    exact am_q33 hi_269_113
set_option maxRecDepth 10000 in
theorem pw_function_2 {sc : Nat × (Nat → Int32)} {S : am_S} (F : am_F0 S) : ∃ (v : Int32) (S1 S2 : am_S) (fs : List Value), am_R (am_PP sc) 59 158 0 [some (.ref 0), some (.int 0), some (.int 0), none] [] S (some (some (.int v))) S1 ∧ am_R (am_PP sc) 59 269 0 [some (.ref 39), some (.int 0), some (.int 0)] [] S1 (some (some (.int v))) S2 ∧ S2.2 = S.2 ∧ am_fs S1 39 = some (11, fs) := by
  obtain ⟨⟨e35_0, e35_1, e35_2, e35_3, e75_0, e76_0, e77_0, e78_0, e79_0, e80_0⟩, ⟨e81_0, e82_0, e87_0, e89_0, e90_0, e91_0, e92_0, e93_0, g38, h38_0⟩, ⟨o0, o2, o3, o32, o33, o34, o36, o39, o5, o6⟩, ⟨q35, q4, q40, q41, q75, q76, q77, q78, q79, q80⟩, ⟨q81, q82, q87, q89, q90, q91, q92, q93⟩⟩ := F
  refine ⟨(-1), S, S, _, ?_, ?_, rfl, o39⟩
  · refine am_q2 (v := 0) hi_158_0 rfl ?_
    refine am_q20 (v := .ref 5) hi_158_1 o0 rfl ?_
    refine am_q1 (v := 0) hi_158_4 rfl ?_
    refine am_q32 (v := some (.ref 33)) (S1 := S) (as := [.ref 5, .int 0]) (la := [some (.ref 5), some (.int 0)]) (rest := []) hi_158_5 (Nat.le_of_ble_eq_true rfl) (Nat.le_of_ble_eq_true rfl) (show 2 ≤ am_P0.2.2.1 159 from by decide +kernel) rfl (am_recv_ok o5) rfl rfl ?_ ?_
    · refine am_q1 (v := 0) hi_159_0 rfl ?_
      refine am_q12f hi_159_1 (by decide) ?_
      refine am_q1 (v := 0) hi_159_4 rfl ?_
      refine am_q2 (v := 5) hi_159_5 rfl ?_
      refine am_q20 (v := .int 1) hi_159_6 o5 rfl ?_
      refine am_q13f hi_159_9 (by decide) ?_
      refine am_q1 (v := 0) hi_159_12 rfl ?_
      refine am_q2 (v := 5) hi_159_13 rfl ?_
      refine am_q20 (v := .ref 6) hi_159_14 o5 rfl ?_
      refine am_q32 (v := some (.int 1)) (S1 := S) (as := [.ref 6]) (la := [some (.ref 6)]) (rest := [.int 0]) hi_159_17 (Nat.le_of_ble_eq_true rfl) (Nat.le_of_ble_eq_true rfl) (show 1 ≤ am_P0.2.2.1 14 from by decide +kernel) rfl (am_recv_ok o6) rfl rfl ?_ ?_
      · refine am_q2 (v := 6) hi_14_0 rfl ?_
        refine am_q20 (v := .int 1) hi_14_1 o6 rfl ?_
        exact am_q33 hi_14_4
      show am_R _ _ _ _ [some (.ref 5), some (.int 0)] [.int 1, .int 0] _ _ _
      refine am_q13f hi_159_20 (by decide) ?_
      refine am_q2 (v := 5) hi_159_23 rfl ?_
      refine am_q20 (v := .ref 6) hi_159_24 o5 rfl ?_
      refine am_q1 (v := 0) hi_159_27 rfl ?_
      refine am_q32 (v := some (.ref 33)) (S1 := S) (as := [.ref 6, .int 0]) (la := [some (.ref 6), some (.int 0)]) (rest := []) hi_159_28 (Nat.le_of_ble_eq_true rfl) (Nat.le_of_ble_eq_true rfl) (show 2 ≤ am_P0.2.2.1 25 from by decide +kernel) rfl (am_recv_ok o6) rfl rfl ?_ ?_
      · refine am_q1 (v := 0) hi_25_0 rfl ?_
        refine am_q2 (v := 6) hi_25_1 rfl ?_
        refine am_q20 (v := .int 1) hi_25_2 o6 rfl ?_
        refine am_q32 (v := some (.int 0)) (S1 := S) (as := [.int 0, .int 1]) (la := [some (.int 0), some (.int 1)]) (rest := []) hi_25_5 (Nat.le_of_ble_eq_true rfl) (Nat.le_of_ble_eq_true rfl) (show 2 ≤ am_P0.2.2.1 26 from by decide +kernel) rfl rfl rfl rfl ?_ ?_
        · refine am_q1 (v := 0) hi_26_0 rfl ?_
          refine am_q1 (v := 1) hi_26_1 rfl ?_
          refine am_q29 hi_26_2 ?_
          refine am_q32 (v := some (.int 0)) (S1 := S) (as := [.int 0, .int 1, .null]) (la := [some (.int 0), some (.int 1), some .null]) (rest := []) hi_26_3 (Nat.le_of_ble_eq_true rfl) (Nat.le_of_ble_eq_true rfl) (show 3 ≤ am_P0.2.2.1 27 from by decide +kernel) rfl rfl rfl rfl ?_ ?_
          · refine am_q1 (v := 0) hi_27_0 rfl ?_
            refine am_q12f hi_27_1 (by decide) ?_
            refine am_q1 (v := 0) hi_27_4 rfl ?_
            refine am_q1 (v := 1) hi_27_5 rfl ?_
            refine am_q13t hi_27_6 (by decide) ?_
            refine am_q1 (v := 0) hi_27_16 rfl ?_
            exact am_q33 hi_27_17
          show am_R _ _ _ _ [some (.int 0), some (.int 1)] [.int 0] _ _ _
          exact am_q33 hi_26_6
        show am_R _ _ _ _ [some (.ref 6), some (.int 0)] [.int 0] _ _ _
        refine am_q6i hi_25_8 ?_
        refine am_q2 (v := 6) hi_25_9 rfl ?_
        refine am_q1 (v := 0) hi_25_10 rfl ?_
        refine am_q32 (v := some (.ref 33)) (S1 := S) (as := [.ref 6, .int 0]) (la := [some (.ref 6), some (.int 0)]) (rest := []) hi_25_11 (Nat.le_of_ble_eq_true rfl) (Nat.le_of_ble_eq_true rfl) (show 2 ≤ am_P0.2.2.1 28 from by decide +kernel) rfl (am_recv_ok o6) rfl rfl ?_ ?_
        · refine am_q2 (v := 6) hi_28_0 rfl ?_
          refine am_q20 (v := .ref 38) hi_28_1 o6 rfl ?_
          refine am_q1 (v := 0) hi_28_4 rfl ?_
          refine am_q39 (j := 0) hi_28_5 g38 (by decide) (by decide) (by decide) h38_0 ?_
          exact am_q34 hi_28_6
        show am_R _ _ _ _ [some (.ref 6), some (.int 0)] [.ref 33] _ _ _
        exact am_q34 hi_25_14
      show am_R _ _ _ _ [some (.ref 5), some (.int 0)] [.ref 33] _ _ _
      refine am_q30 hi_159_31 o33 ?_
      refine am_q18 hi_159_34 ?_
      exact am_q34 hi_159_38
    show am_R _ _ _ _ [some (.ref 0), some (.int 0), some (.int 0), none] [.ref 33] _ _ _
    refine am_q4 (ls' := [some (.ref 0), some (.int 0), some (.int 0), some (.ref 33)]) hi_158_8 (Nat.le_of_ble_eq_true rfl) rfl ?_
    refine am_q2 (v := 33) hi_158_9 rfl ?_
    refine am_q15r hi_158_10 ?_
    refine am_q1 (v := 0) hi_158_15 rfl ?_
    refine am_q19 (t := 64) hi_158_16 (by decide) ?_
    refine am_q2 (v := 33) hi_158_64 rfl ?_
    refine am_q20 (v := .int (-1)) hi_158_65 o33 rfl ?_
    exact am_q33 hi_158_68
  · refine am_q2 (v := 39) hi_269_0 rfl ?_
    refine am_q1 (v := 0) hi_269_1 rfl ?_
    refine am_q32 (v := some (.int 1)) (S1 := S) (as := [.ref 39, .int 0]) (la := [some (.ref 39), some (.int 0)]) (rest := []) hi_269_2 (Nat.le_of_ble_eq_true rfl) (Nat.le_of_ble_eq_true rfl) (show 2 ≤ am_P0.2.2.1 270 from by decide +kernel) rfl (am_recv_ok o39) rfl rfl ?_ ?_
    · refine am_q1 (v := 0) hi_270_0 rfl ?_
      refine am_q12f hi_270_1 (by decide) ?_
      refine am_q1 (v := 0) hi_270_4 rfl ?_
      refine am_q2 (v := 39) hi_270_5 rfl ?_
      refine am_q20 (v := .int 1) hi_270_6 o39 rfl ?_
      refine am_q13f hi_270_9 (by decide) ?_
      refine am_q0 hi_270_12 ?_
      refine am_q18 hi_270_13 ?_
      exact am_q36 hi_270_17 (by decide)
    show am_R _ _ _ _ [some (.ref 39), some (.int 0), some (.int 0)] [.int 1] _ _ _
    refine am_q12t hi_269_5 (by decide) ?_
    refine am_q1 (v := 0) hi_269_10 rfl ?_
    refine am_q19 (t := 56) hi_269_11 (by decide) ?_
    refine am_q2 (v := 39) hi_269_56 rfl ?_
    refine am_q20 (v := .ref 75) hi_269_57 o39 rfl ?_
    refine am_q1 (v := 0) hi_269_60 rfl ?_
    refine am_q25 (v := (-1)) (j := 0) hi_269_61 q75 (by decide) (by decide) (by decide) (by decide) e75_0 ?_
    exact am_q33 hi_269_62
set_option maxRecDepth 10000 in
theorem pw_function_3 {sc : Nat × (Nat → Int32)} {S : am_S} (F : am_F0 S) : ∃ (v : Int32) (S1 S2 : am_S) (fs : List Value), am_R (am_PP sc) 59 158 0 [some (.ref 0), some (.int 0), some (.int 1), none] [] S (some (some (.int v))) S1 ∧ am_R (am_PP sc) 59 269 0 [some (.ref 39), some (.int 0), some (.int 1)] [] S1 (some (some (.int v))) S2 ∧ S2.2 = S.2 ∧ am_fs S1 39 = some (11, fs) := by
  obtain ⟨⟨e35_0, e35_1, e35_2, e35_3, e75_0, e76_0, e77_0, e78_0, e79_0, e80_0⟩, ⟨e81_0, e82_0, e87_0, e89_0, e90_0, e91_0, e92_0, e93_0, g38, h38_0⟩, ⟨o0, o2, o3, o32, o33, o34, o36, o39, o5, o6⟩, ⟨q35, q4, q40, q41, q75, q76, q77, q78, q79, q80⟩, ⟨q81, q82, q87, q89, q90, q91, q92, q93⟩⟩ := F
  refine ⟨0, S, S, _, ?_, ?_, rfl, o39⟩
  · refine am_q2 (v := 0) hi_158_0 rfl ?_
    refine am_q20 (v := .ref 5) hi_158_1 o0 rfl ?_
    refine am_q1 (v := 0) hi_158_4 rfl ?_
    refine am_q32 (v := some (.ref 33)) (S1 := S) (as := [.ref 5, .int 0]) (la := [some (.ref 5), some (.int 0)]) (rest := []) hi_158_5 (Nat.le_of_ble_eq_true rfl) (Nat.le_of_ble_eq_true rfl) (show 2 ≤ am_P0.2.2.1 159 from by decide +kernel) rfl (am_recv_ok o5) rfl rfl ?_ ?_
    · refine am_q1 (v := 0) hi_159_0 rfl ?_
      refine am_q12f hi_159_1 (by decide) ?_
      refine am_q1 (v := 0) hi_159_4 rfl ?_
      refine am_q2 (v := 5) hi_159_5 rfl ?_
      refine am_q20 (v := .int 1) hi_159_6 o5 rfl ?_
      refine am_q13f hi_159_9 (by decide) ?_
      refine am_q1 (v := 0) hi_159_12 rfl ?_
      refine am_q2 (v := 5) hi_159_13 rfl ?_
      refine am_q20 (v := .ref 6) hi_159_14 o5 rfl ?_
      refine am_q32 (v := some (.int 1)) (S1 := S) (as := [.ref 6]) (la := [some (.ref 6)]) (rest := [.int 0]) hi_159_17 (Nat.le_of_ble_eq_true rfl) (Nat.le_of_ble_eq_true rfl) (show 1 ≤ am_P0.2.2.1 14 from by decide +kernel) rfl (am_recv_ok o6) rfl rfl ?_ ?_
      · refine am_q2 (v := 6) hi_14_0 rfl ?_
        refine am_q20 (v := .int 1) hi_14_1 o6 rfl ?_
        exact am_q33 hi_14_4
      show am_R _ _ _ _ [some (.ref 5), some (.int 0)] [.int 1, .int 0] _ _ _
      refine am_q13f hi_159_20 (by decide) ?_
      refine am_q2 (v := 5) hi_159_23 rfl ?_
      refine am_q20 (v := .ref 6) hi_159_24 o5 rfl ?_
      refine am_q1 (v := 0) hi_159_27 rfl ?_
      refine am_q32 (v := some (.ref 33)) (S1 := S) (as := [.ref 6, .int 0]) (la := [some (.ref 6), some (.int 0)]) (rest := []) hi_159_28 (Nat.le_of_ble_eq_true rfl) (Nat.le_of_ble_eq_true rfl) (show 2 ≤ am_P0.2.2.1 25 from by decide +kernel) rfl (am_recv_ok o6) rfl rfl ?_ ?_
      · refine am_q1 (v := 0) hi_25_0 rfl ?_
        refine am_q2 (v := 6) hi_25_1 rfl ?_
        refine am_q20 (v := .int 1) hi_25_2 o6 rfl ?_
        refine am_q32 (v := some (.int 0)) (S1 := S) (as := [.int 0, .int 1]) (la := [some (.int 0), some (.int 1)]) (rest := []) hi_25_5 (Nat.le_of_ble_eq_true rfl) (Nat.le_of_ble_eq_true rfl) (show 2 ≤ am_P0.2.2.1 26 from by decide +kernel) rfl rfl rfl rfl ?_ ?_
        · refine am_q1 (v := 0) hi_26_0 rfl ?_
          refine am_q1 (v := 1) hi_26_1 rfl ?_
          refine am_q29 hi_26_2 ?_
          refine am_q32 (v := some (.int 0)) (S1 := S) (as := [.int 0, .int 1, .null]) (la := [some (.int 0), some (.int 1), some .null]) (rest := []) hi_26_3 (Nat.le_of_ble_eq_true rfl) (Nat.le_of_ble_eq_true rfl) (show 3 ≤ am_P0.2.2.1 27 from by decide +kernel) rfl rfl rfl rfl ?_ ?_
          · refine am_q1 (v := 0) hi_27_0 rfl ?_
            refine am_q12f hi_27_1 (by decide) ?_
            refine am_q1 (v := 0) hi_27_4 rfl ?_
            refine am_q1 (v := 1) hi_27_5 rfl ?_
            refine am_q13t hi_27_6 (by decide) ?_
            refine am_q1 (v := 0) hi_27_16 rfl ?_
            exact am_q33 hi_27_17
          show am_R _ _ _ _ [some (.int 0), some (.int 1)] [.int 0] _ _ _
          exact am_q33 hi_26_6
        show am_R _ _ _ _ [some (.ref 6), some (.int 0)] [.int 0] _ _ _
        refine am_q6i hi_25_8 ?_
        refine am_q2 (v := 6) hi_25_9 rfl ?_
        refine am_q1 (v := 0) hi_25_10 rfl ?_
        refine am_q32 (v := some (.ref 33)) (S1 := S) (as := [.ref 6, .int 0]) (la := [some (.ref 6), some (.int 0)]) (rest := []) hi_25_11 (Nat.le_of_ble_eq_true rfl) (Nat.le_of_ble_eq_true rfl) (show 2 ≤ am_P0.2.2.1 28 from by decide +kernel) rfl (am_recv_ok o6) rfl rfl ?_ ?_
        · refine am_q2 (v := 6) hi_28_0 rfl ?_
          refine am_q20 (v := .ref 38) hi_28_1 o6 rfl ?_
          refine am_q1 (v := 0) hi_28_4 rfl ?_
          refine am_q39 (j := 0) hi_28_5 g38 (by decide) (by decide) (by decide) h38_0 ?_
          exact am_q34 hi_28_6
        show am_R _ _ _ _ [some (.ref 6), some (.int 0)] [.ref 33] _ _ _
        exact am_q34 hi_25_14
      show am_R _ _ _ _ [some (.ref 5), some (.int 0)] [.ref 33] _ _ _
      refine am_q30 hi_159_31 o33 ?_
      refine am_q18 hi_159_34 ?_
      exact am_q34 hi_159_38
    show am_R _ _ _ _ [some (.ref 0), some (.int 0), some (.int 1), none] [.ref 33] _ _ _
    refine am_q4 (ls' := [some (.ref 0), some (.int 0), some (.int 1), some (.ref 33)]) hi_158_8 (Nat.le_of_ble_eq_true rfl) rfl ?_
    refine am_q2 (v := 33) hi_158_9 rfl ?_
    refine am_q15r hi_158_10 ?_
    refine am_q1 (v := 1) hi_158_15 rfl ?_
    refine am_q19 (t := 69) hi_158_16 (by decide) ?_
    refine am_q2 (v := 33) hi_158_69 rfl ?_
    refine am_q20 (v := .int 0) hi_158_70 o33 rfl ?_
    exact am_q33 hi_158_73
  · refine am_q2 (v := 39) hi_269_0 rfl ?_
    refine am_q1 (v := 0) hi_269_1 rfl ?_
    refine am_q32 (v := some (.int 1)) (S1 := S) (as := [.ref 39, .int 0]) (la := [some (.ref 39), some (.int 0)]) (rest := []) hi_269_2 (Nat.le_of_ble_eq_true rfl) (Nat.le_of_ble_eq_true rfl) (show 2 ≤ am_P0.2.2.1 270 from by decide +kernel) rfl (am_recv_ok o39) rfl rfl ?_ ?_
    · refine am_q1 (v := 0) hi_270_0 rfl ?_
      refine am_q12f hi_270_1 (by decide) ?_
      refine am_q1 (v := 0) hi_270_4 rfl ?_
      refine am_q2 (v := 39) hi_270_5 rfl ?_
      refine am_q20 (v := .int 1) hi_270_6 o39 rfl ?_
      refine am_q13f hi_270_9 (by decide) ?_
      refine am_q0 hi_270_12 ?_
      refine am_q18 hi_270_13 ?_
      exact am_q36 hi_270_17 (by decide)
    show am_R _ _ _ _ [some (.ref 39), some (.int 0), some (.int 1)] [.int 1] _ _ _
    refine am_q12t hi_269_5 (by decide) ?_
    refine am_q1 (v := 1) hi_269_10 rfl ?_
    refine am_q19 (t := 63) hi_269_11 (by decide) ?_
    refine am_q2 (v := 39) hi_269_63 rfl ?_
    refine am_q20 (v := .ref 76) hi_269_64 o39 rfl ?_
    refine am_q1 (v := 0) hi_269_67 rfl ?_
    refine am_q25 (v := 0) (j := 0) hi_269_68 q76 (by decide) (by decide) (by decide) (by decide) e76_0 ?_
    exact am_q33 hi_269_69
set_option maxRecDepth 10000 in
theorem pw_function_4 {sc : Nat × (Nat → Int32)} {S : am_S} (F : am_F0 S) : ∃ (v : Int32) (S1 S2 : am_S) (fs : List Value), am_R (am_PP sc) 59 158 0 [some (.ref 0), some (.int 0), some (.int 2), none] [] S (some (some (.int v))) S1 ∧ am_R (am_PP sc) 59 269 0 [some (.ref 39), some (.int 0), some (.int 2)] [] S1 (some (some (.int v))) S2 ∧ S2.2 = S.2 ∧ am_fs S1 39 = some (11, fs) := by
  obtain ⟨⟨e35_0, e35_1, e35_2, e35_3, e75_0, e76_0, e77_0, e78_0, e79_0, e80_0⟩, ⟨e81_0, e82_0, e87_0, e89_0, e90_0, e91_0, e92_0, e93_0, g38, h38_0⟩, ⟨o0, o2, o3, o32, o33, o34, o36, o39, o5, o6⟩, ⟨q35, q4, q40, q41, q75, q76, q77, q78, q79, q80⟩, ⟨q81, q82, q87, q89, q90, q91, q92, q93⟩⟩ := F
  refine ⟨1, S, S, _, ?_, ?_, rfl, o39⟩
  · refine am_q2 (v := 0) hi_158_0 rfl ?_
    refine am_q20 (v := .ref 5) hi_158_1 o0 rfl ?_
    refine am_q1 (v := 0) hi_158_4 rfl ?_
    refine am_q32 (v := some (.ref 33)) (S1 := S) (as := [.ref 5, .int 0]) (la := [some (.ref 5), some (.int 0)]) (rest := []) hi_158_5 (Nat.le_of_ble_eq_true rfl) (Nat.le_of_ble_eq_true rfl) (show 2 ≤ am_P0.2.2.1 159 from by decide +kernel) rfl (am_recv_ok o5) rfl rfl ?_ ?_
    · refine am_q1 (v := 0) hi_159_0 rfl ?_
      refine am_q12f hi_159_1 (by decide) ?_
      refine am_q1 (v := 0) hi_159_4 rfl ?_
      refine am_q2 (v := 5) hi_159_5 rfl ?_
      refine am_q20 (v := .int 1) hi_159_6 o5 rfl ?_
      refine am_q13f hi_159_9 (by decide) ?_
      refine am_q1 (v := 0) hi_159_12 rfl ?_
      refine am_q2 (v := 5) hi_159_13 rfl ?_
      refine am_q20 (v := .ref 6) hi_159_14 o5 rfl ?_
      refine am_q32 (v := some (.int 1)) (S1 := S) (as := [.ref 6]) (la := [some (.ref 6)]) (rest := [.int 0]) hi_159_17 (Nat.le_of_ble_eq_true rfl) (Nat.le_of_ble_eq_true rfl) (show 1 ≤ am_P0.2.2.1 14 from by decide +kernel) rfl (am_recv_ok o6) rfl rfl ?_ ?_
      · refine am_q2 (v := 6) hi_14_0 rfl ?_
        refine am_q20 (v := .int 1) hi_14_1 o6 rfl ?_
        exact am_q33 hi_14_4
      show am_R _ _ _ _ [some (.ref 5), some (.int 0)] [.int 1, .int 0] _ _ _
      refine am_q13f hi_159_20 (by decide) ?_
      refine am_q2 (v := 5) hi_159_23 rfl ?_
      refine am_q20 (v := .ref 6) hi_159_24 o5 rfl ?_
      refine am_q1 (v := 0) hi_159_27 rfl ?_
      refine am_q32 (v := some (.ref 33)) (S1 := S) (as := [.ref 6, .int 0]) (la := [some (.ref 6), some (.int 0)]) (rest := []) hi_159_28 (Nat.le_of_ble_eq_true rfl) (Nat.le_of_ble_eq_true rfl) (show 2 ≤ am_P0.2.2.1 25 from by decide +kernel) rfl (am_recv_ok o6) rfl rfl ?_ ?_
      · refine am_q1 (v := 0) hi_25_0 rfl ?_
        refine am_q2 (v := 6) hi_25_1 rfl ?_
        refine am_q20 (v := .int 1) hi_25_2 o6 rfl ?_
        refine am_q32 (v := some (.int 0)) (S1 := S) (as := [.int 0, .int 1]) (la := [some (.int 0), some (.int 1)]) (rest := []) hi_25_5 (Nat.le_of_ble_eq_true rfl) (Nat.le_of_ble_eq_true rfl) (show 2 ≤ am_P0.2.2.1 26 from by decide +kernel) rfl rfl rfl rfl ?_ ?_
        · refine am_q1 (v := 0) hi_26_0 rfl ?_
          refine am_q1 (v := 1) hi_26_1 rfl ?_
          refine am_q29 hi_26_2 ?_
          refine am_q32 (v := some (.int 0)) (S1 := S) (as := [.int 0, .int 1, .null]) (la := [some (.int 0), some (.int 1), some .null]) (rest := []) hi_26_3 (Nat.le_of_ble_eq_true rfl) (Nat.le_of_ble_eq_true rfl) (show 3 ≤ am_P0.2.2.1 27 from by decide +kernel) rfl rfl rfl rfl ?_ ?_
          · refine am_q1 (v := 0) hi_27_0 rfl ?_
            refine am_q12f hi_27_1 (by decide) ?_
            refine am_q1 (v := 0) hi_27_4 rfl ?_
            refine am_q1 (v := 1) hi_27_5 rfl ?_
            refine am_q13t hi_27_6 (by decide) ?_
            refine am_q1 (v := 0) hi_27_16 rfl ?_
            exact am_q33 hi_27_17
          show am_R _ _ _ _ [some (.int 0), some (.int 1)] [.int 0] _ _ _
          exact am_q33 hi_26_6
        show am_R _ _ _ _ [some (.ref 6), some (.int 0)] [.int 0] _ _ _
        refine am_q6i hi_25_8 ?_
        refine am_q2 (v := 6) hi_25_9 rfl ?_
        refine am_q1 (v := 0) hi_25_10 rfl ?_
        refine am_q32 (v := some (.ref 33)) (S1 := S) (as := [.ref 6, .int 0]) (la := [some (.ref 6), some (.int 0)]) (rest := []) hi_25_11 (Nat.le_of_ble_eq_true rfl) (Nat.le_of_ble_eq_true rfl) (show 2 ≤ am_P0.2.2.1 28 from by decide +kernel) rfl (am_recv_ok o6) rfl rfl ?_ ?_
        · refine am_q2 (v := 6) hi_28_0 rfl ?_
          refine am_q20 (v := .ref 38) hi_28_1 o6 rfl ?_
          refine am_q1 (v := 0) hi_28_4 rfl ?_
          refine am_q39 (j := 0) hi_28_5 g38 (by decide) (by decide) (by decide) h38_0 ?_
          exact am_q34 hi_28_6
        show am_R _ _ _ _ [some (.ref 6), some (.int 0)] [.ref 33] _ _ _
        exact am_q34 hi_25_14
      show am_R _ _ _ _ [some (.ref 5), some (.int 0)] [.ref 33] _ _ _
      refine am_q30 hi_159_31 o33 ?_
      refine am_q18 hi_159_34 ?_
      exact am_q34 hi_159_38
    show am_R _ _ _ _ [some (.ref 0), some (.int 0), some (.int 2), none] [.ref 33] _ _ _
    refine am_q4 (ls' := [some (.ref 0), some (.int 0), some (.int 2), some (.ref 33)]) hi_158_8 (Nat.le_of_ble_eq_true rfl) rfl ?_
    refine am_q2 (v := 33) hi_158_9 rfl ?_
    refine am_q15r hi_158_10 ?_
    refine am_q1 (v := 2) hi_158_15 rfl ?_
    refine am_q19 (t := 74) hi_158_16 (by decide) ?_
    refine am_q2 (v := 33) hi_158_74 rfl ?_
    refine am_q20 (v := .int 1) hi_158_75 o33 rfl ?_
    exact am_q33 hi_158_78
  · refine am_q2 (v := 39) hi_269_0 rfl ?_
    refine am_q1 (v := 0) hi_269_1 rfl ?_
    refine am_q32 (v := some (.int 1)) (S1 := S) (as := [.ref 39, .int 0]) (la := [some (.ref 39), some (.int 0)]) (rest := []) hi_269_2 (Nat.le_of_ble_eq_true rfl) (Nat.le_of_ble_eq_true rfl) (show 2 ≤ am_P0.2.2.1 270 from by decide +kernel) rfl (am_recv_ok o39) rfl rfl ?_ ?_
    · refine am_q1 (v := 0) hi_270_0 rfl ?_
      refine am_q12f hi_270_1 (by decide) ?_
      refine am_q1 (v := 0) hi_270_4 rfl ?_
      refine am_q2 (v := 39) hi_270_5 rfl ?_
      refine am_q20 (v := .int 1) hi_270_6 o39 rfl ?_
      refine am_q13f hi_270_9 (by decide) ?_
      refine am_q0 hi_270_12 ?_
      refine am_q18 hi_270_13 ?_
      exact am_q36 hi_270_17 (by decide)
    show am_R _ _ _ _ [some (.ref 39), some (.int 0), some (.int 2)] [.int 1] _ _ _
    refine am_q12t hi_269_5 (by decide) ?_
    refine am_q1 (v := 2) hi_269_10 rfl ?_
    refine am_q19 (t := 70) hi_269_11 (by decide) ?_
    refine am_q2 (v := 39) hi_269_70 rfl ?_
    refine am_q20 (v := .ref 77) hi_269_71 o39 rfl ?_
    refine am_q1 (v := 0) hi_269_74 rfl ?_
    refine am_q25 (v := 1) (j := 0) hi_269_75 q77 (by decide) (by decide) (by decide) (by decide) e77_0 ?_
    exact am_q33 hi_269_76
set_option maxRecDepth 10000 in
theorem pw_function_5 {sc : Nat × (Nat → Int32)} {S : am_S} (F : am_F0 S) : ∃ (v : Int32) (S1 S2 : am_S) (fs : List Value), am_R (am_PP sc) 59 158 0 [some (.ref 0), some (.int 0), some (.int 3), none] [] S (some (some (.int v))) S1 ∧ am_R (am_PP sc) 59 269 0 [some (.ref 39), some (.int 0), some (.int 3)] [] S1 (some (some (.int v))) S2 ∧ S2.2 = S.2 ∧ am_fs S1 39 = some (11, fs) := by
  obtain ⟨⟨e35_0, e35_1, e35_2, e35_3, e75_0, e76_0, e77_0, e78_0, e79_0, e80_0⟩, ⟨e81_0, e82_0, e87_0, e89_0, e90_0, e91_0, e92_0, e93_0, g38, h38_0⟩, ⟨o0, o2, o3, o32, o33, o34, o36, o39, o5, o6⟩, ⟨q35, q4, q40, q41, q75, q76, q77, q78, q79, q80⟩, ⟨q81, q82, q87, q89, q90, q91, q92, q93⟩⟩ := F
  refine ⟨0, S, S, _, ?_, ?_, rfl, o39⟩
  · refine am_q2 (v := 0) hi_158_0 rfl ?_
    refine am_q20 (v := .ref 5) hi_158_1 o0 rfl ?_
    refine am_q1 (v := 0) hi_158_4 rfl ?_
    refine am_q32 (v := some (.ref 33)) (S1 := S) (as := [.ref 5, .int 0]) (la := [some (.ref 5), some (.int 0)]) (rest := []) hi_158_5 (Nat.le_of_ble_eq_true rfl) (Nat.le_of_ble_eq_true rfl) (show 2 ≤ am_P0.2.2.1 159 from by decide +kernel) rfl (am_recv_ok o5) rfl rfl ?_ ?_
    · refine am_q1 (v := 0) hi_159_0 rfl ?_
      refine am_q12f hi_159_1 (by decide) ?_
      refine am_q1 (v := 0) hi_159_4 rfl ?_
      refine am_q2 (v := 5) hi_159_5 rfl ?_
      refine am_q20 (v := .int 1) hi_159_6 o5 rfl ?_
      refine am_q13f hi_159_9 (by decide) ?_
      refine am_q1 (v := 0) hi_159_12 rfl ?_
      refine am_q2 (v := 5) hi_159_13 rfl ?_
      refine am_q20 (v := .ref 6) hi_159_14 o5 rfl ?_
      refine am_q32 (v := some (.int 1)) (S1 := S) (as := [.ref 6]) (la := [some (.ref 6)]) (rest := [.int 0]) hi_159_17 (Nat.le_of_ble_eq_true rfl) (Nat.le_of_ble_eq_true rfl) (show 1 ≤ am_P0.2.2.1 14 from by decide +kernel) rfl (am_recv_ok o6) rfl rfl ?_ ?_
      · refine am_q2 (v := 6) hi_14_0 rfl ?_
        refine am_q20 (v := .int 1) hi_14_1 o6 rfl ?_
        exact am_q33 hi_14_4
      show am_R _ _ _ _ [some (.ref 5), some (.int 0)] [.int 1, .int 0] _ _ _
      refine am_q13f hi_159_20 (by decide) ?_
      refine am_q2 (v := 5) hi_159_23 rfl ?_
      refine am_q20 (v := .ref 6) hi_159_24 o5 rfl ?_
      refine am_q1 (v := 0) hi_159_27 rfl ?_
      refine am_q32 (v := some (.ref 33)) (S1 := S) (as := [.ref 6, .int 0]) (la := [some (.ref 6), some (.int 0)]) (rest := []) hi_159_28 (Nat.le_of_ble_eq_true rfl) (Nat.le_of_ble_eq_true rfl) (show 2 ≤ am_P0.2.2.1 25 from by decide +kernel) rfl (am_recv_ok o6) rfl rfl ?_ ?_
      · refine am_q1 (v := 0) hi_25_0 rfl ?_
        refine am_q2 (v := 6) hi_25_1 rfl ?_
        refine am_q20 (v := .int 1) hi_25_2 o6 rfl ?_
        refine am_q32 (v := some (.int 0)) (S1 := S) (as := [.int 0, .int 1]) (la := [some (.int 0), some (.int 1)]) (rest := []) hi_25_5 (Nat.le_of_ble_eq_true rfl) (Nat.le_of_ble_eq_true rfl) (show 2 ≤ am_P0.2.2.1 26 from by decide +kernel) rfl rfl rfl rfl ?_ ?_
        · refine am_q1 (v := 0) hi_26_0 rfl ?_
          refine am_q1 (v := 1) hi_26_1 rfl ?_
          refine am_q29 hi_26_2 ?_
          refine am_q32 (v := some (.int 0)) (S1 := S) (as := [.int 0, .int 1, .null]) (la := [some (.int 0), some (.int 1), some .null]) (rest := []) hi_26_3 (Nat.le_of_ble_eq_true rfl) (Nat.le_of_ble_eq_true rfl) (show 3 ≤ am_P0.2.2.1 27 from by decide +kernel) rfl rfl rfl rfl ?_ ?_
          · refine am_q1 (v := 0) hi_27_0 rfl ?_
            refine am_q12f hi_27_1 (by decide) ?_
            refine am_q1 (v := 0) hi_27_4 rfl ?_
            refine am_q1 (v := 1) hi_27_5 rfl ?_
            refine am_q13t hi_27_6 (by decide) ?_
            refine am_q1 (v := 0) hi_27_16 rfl ?_
            exact am_q33 hi_27_17
          show am_R _ _ _ _ [some (.int 0), some (.int 1)] [.int 0] _ _ _
          exact am_q33 hi_26_6
        show am_R _ _ _ _ [some (.ref 6), some (.int 0)] [.int 0] _ _ _
        refine am_q6i hi_25_8 ?_
        refine am_q2 (v := 6) hi_25_9 rfl ?_
        refine am_q1 (v := 0) hi_25_10 rfl ?_
        refine am_q32 (v := some (.ref 33)) (S1 := S) (as := [.ref 6, .int 0]) (la := [some (.ref 6), some (.int 0)]) (rest := []) hi_25_11 (Nat.le_of_ble_eq_true rfl) (Nat.le_of_ble_eq_true rfl) (show 2 ≤ am_P0.2.2.1 28 from by decide +kernel) rfl (am_recv_ok o6) rfl rfl ?_ ?_
        · refine am_q2 (v := 6) hi_28_0 rfl ?_
          refine am_q20 (v := .ref 38) hi_28_1 o6 rfl ?_
          refine am_q1 (v := 0) hi_28_4 rfl ?_
          refine am_q39 (j := 0) hi_28_5 g38 (by decide) (by decide) (by decide) h38_0 ?_
          exact am_q34 hi_28_6
        show am_R _ _ _ _ [some (.ref 6), some (.int 0)] [.ref 33] _ _ _
        exact am_q34 hi_25_14
      show am_R _ _ _ _ [some (.ref 5), some (.int 0)] [.ref 33] _ _ _
      refine am_q30 hi_159_31 o33 ?_
      refine am_q18 hi_159_34 ?_
      exact am_q34 hi_159_38
    show am_R _ _ _ _ [some (.ref 0), some (.int 0), some (.int 3), none] [.ref 33] _ _ _
    refine am_q4 (ls' := [some (.ref 0), some (.int 0), some (.int 3), some (.ref 33)]) hi_158_8 (Nat.le_of_ble_eq_true rfl) rfl ?_
    refine am_q2 (v := 33) hi_158_9 rfl ?_
    refine am_q15r hi_158_10 ?_
    refine am_q1 (v := 3) hi_158_15 rfl ?_
    refine am_q19 (t := 79) hi_158_16 (by decide) ?_
    refine am_q2 (v := 33) hi_158_79 rfl ?_
    refine am_q20 (v := .int 0) hi_158_80 o33 rfl ?_
    exact am_q33 hi_158_83
  · refine am_q2 (v := 39) hi_269_0 rfl ?_
    refine am_q1 (v := 0) hi_269_1 rfl ?_
    refine am_q32 (v := some (.int 1)) (S1 := S) (as := [.ref 39, .int 0]) (la := [some (.ref 39), some (.int 0)]) (rest := []) hi_269_2 (Nat.le_of_ble_eq_true rfl) (Nat.le_of_ble_eq_true rfl) (show 2 ≤ am_P0.2.2.1 270 from by decide +kernel) rfl (am_recv_ok o39) rfl rfl ?_ ?_
    · refine am_q1 (v := 0) hi_270_0 rfl ?_
      refine am_q12f hi_270_1 (by decide) ?_
      refine am_q1 (v := 0) hi_270_4 rfl ?_
      refine am_q2 (v := 39) hi_270_5 rfl ?_
      refine am_q20 (v := .int 1) hi_270_6 o39 rfl ?_
      refine am_q13f hi_270_9 (by decide) ?_
      refine am_q0 hi_270_12 ?_
      refine am_q18 hi_270_13 ?_
      exact am_q36 hi_270_17 (by decide)
    show am_R _ _ _ _ [some (.ref 39), some (.int 0), some (.int 3)] [.int 1] _ _ _
    refine am_q12t hi_269_5 (by decide) ?_
    refine am_q1 (v := 3) hi_269_10 rfl ?_
    refine am_q19 (t := 77) hi_269_11 (by decide) ?_
    refine am_q2 (v := 39) hi_269_77 rfl ?_
    refine am_q20 (v := .ref 78) hi_269_78 o39 rfl ?_
    refine am_q1 (v := 0) hi_269_81 rfl ?_
    refine am_q25 (v := 0) (j := 0) hi_269_82 q78 (by decide) (by decide) (by decide) (by decide) e78_0 ?_
    exact am_q33 hi_269_83
set_option maxRecDepth 10000 in
theorem pw_function_6 {sc : Nat × (Nat → Int32)} {S : am_S} (F : am_F0 S) : ∃ (v : Int32) (S1 S2 : am_S) (fs : List Value), am_R (am_PP sc) 59 158 0 [some (.ref 0), some (.int 0), some (.int 4), none] [] S (some (some (.int v))) S1 ∧ am_R (am_PP sc) 59 269 0 [some (.ref 39), some (.int 0), some (.int 4)] [] S1 (some (some (.int v))) S2 ∧ S2.2 = S.2 ∧ am_fs S1 39 = some (11, fs) := by
  obtain ⟨⟨e35_0, e35_1, e35_2, e35_3, e75_0, e76_0, e77_0, e78_0, e79_0, e80_0⟩, ⟨e81_0, e82_0, e87_0, e89_0, e90_0, e91_0, e92_0, e93_0, g38, h38_0⟩, ⟨o0, o2, o3, o32, o33, o34, o36, o39, o5, o6⟩, ⟨q35, q4, q40, q41, q75, q76, q77, q78, q79, q80⟩, ⟨q81, q82, q87, q89, q90, q91, q92, q93⟩⟩ := F
  refine ⟨0, S, S, _, ?_, ?_, rfl, o39⟩
  · refine am_q2 (v := 0) hi_158_0 rfl ?_
    refine am_q20 (v := .ref 5) hi_158_1 o0 rfl ?_
    refine am_q1 (v := 0) hi_158_4 rfl ?_
    refine am_q32 (v := some (.ref 33)) (S1 := S) (as := [.ref 5, .int 0]) (la := [some (.ref 5), some (.int 0)]) (rest := []) hi_158_5 (Nat.le_of_ble_eq_true rfl) (Nat.le_of_ble_eq_true rfl) (show 2 ≤ am_P0.2.2.1 159 from by decide +kernel) rfl (am_recv_ok o5) rfl rfl ?_ ?_
    · refine am_q1 (v := 0) hi_159_0 rfl ?_
      refine am_q12f hi_159_1 (by decide) ?_
      refine am_q1 (v := 0) hi_159_4 rfl ?_
      refine am_q2 (v := 5) hi_159_5 rfl ?_
      refine am_q20 (v := .int 1) hi_159_6 o5 rfl ?_
      refine am_q13f hi_159_9 (by decide) ?_
      refine am_q1 (v := 0) hi_159_12 rfl ?_
      refine am_q2 (v := 5) hi_159_13 rfl ?_
      refine am_q20 (v := .ref 6) hi_159_14 o5 rfl ?_
      refine am_q32 (v := some (.int 1)) (S1 := S) (as := [.ref 6]) (la := [some (.ref 6)]) (rest := [.int 0]) hi_159_17 (Nat.le_of_ble_eq_true rfl) (Nat.le_of_ble_eq_true rfl) (show 1 ≤ am_P0.2.2.1 14 from by decide +kernel) rfl (am_recv_ok o6) rfl rfl ?_ ?_
      · refine am_q2 (v := 6) hi_14_0 rfl ?_
        refine am_q20 (v := .int 1) hi_14_1 o6 rfl ?_
        exact am_q33 hi_14_4
      show am_R _ _ _ _ [some (.ref 5), some (.int 0)] [.int 1, .int 0] _ _ _
      refine am_q13f hi_159_20 (by decide) ?_
      refine am_q2 (v := 5) hi_159_23 rfl ?_
      refine am_q20 (v := .ref 6) hi_159_24 o5 rfl ?_
      refine am_q1 (v := 0) hi_159_27 rfl ?_
      refine am_q32 (v := some (.ref 33)) (S1 := S) (as := [.ref 6, .int 0]) (la := [some (.ref 6), some (.int 0)]) (rest := []) hi_159_28 (Nat.le_of_ble_eq_true rfl) (Nat.le_of_ble_eq_true rfl) (show 2 ≤ am_P0.2.2.1 25 from by decide +kernel) rfl (am_recv_ok o6) rfl rfl ?_ ?_
      · refine am_q1 (v := 0) hi_25_0 rfl ?_
        refine am_q2 (v := 6) hi_25_1 rfl ?_
        refine am_q20 (v := .int 1) hi_25_2 o6 rfl ?_
        refine am_q32 (v := some (.int 0)) (S1 := S) (as := [.int 0, .int 1]) (la := [some (.int 0), some (.int 1)]) (rest := []) hi_25_5 (Nat.le_of_ble_eq_true rfl) (Nat.le_of_ble_eq_true rfl) (show 2 ≤ am_P0.2.2.1 26 from by decide +kernel) rfl rfl rfl rfl ?_ ?_
        · refine am_q1 (v := 0) hi_26_0 rfl ?_
          refine am_q1 (v := 1) hi_26_1 rfl ?_
          refine am_q29 hi_26_2 ?_
          refine am_q32 (v := some (.int 0)) (S1 := S) (as := [.int 0, .int 1, .null]) (la := [some (.int 0), some (.int 1), some .null]) (rest := []) hi_26_3 (Nat.le_of_ble_eq_true rfl) (Nat.le_of_ble_eq_true rfl) (show 3 ≤ am_P0.2.2.1 27 from by decide +kernel) rfl rfl rfl rfl ?_ ?_
          · refine am_q1 (v := 0) hi_27_0 rfl ?_
            refine am_q12f hi_27_1 (by decide) ?_
            refine am_q1 (v := 0) hi_27_4 rfl ?_
            refine am_q1 (v := 1) hi_27_5 rfl ?_
            refine am_q13t hi_27_6 (by decide) ?_
            refine am_q1 (v := 0) hi_27_16 rfl ?_
            exact am_q33 hi_27_17
          show am_R _ _ _ _ [some (.int 0), some (.int 1)] [.int 0] _ _ _
          exact am_q33 hi_26_6
        show am_R _ _ _ _ [some (.ref 6), some (.int 0)] [.int 0] _ _ _
        refine am_q6i hi_25_8 ?_
        refine am_q2 (v := 6) hi_25_9 rfl ?_
        refine am_q1 (v := 0) hi_25_10 rfl ?_
        refine am_q32 (v := some (.ref 33)) (S1 := S) (as := [.ref 6, .int 0]) (la := [some (.ref 6), some (.int 0)]) (rest := []) hi_25_11 (Nat.le_of_ble_eq_true rfl) (Nat.le_of_ble_eq_true rfl) (show 2 ≤ am_P0.2.2.1 28 from by decide +kernel) rfl (am_recv_ok o6) rfl rfl ?_ ?_
        · refine am_q2 (v := 6) hi_28_0 rfl ?_
          refine am_q20 (v := .ref 38) hi_28_1 o6 rfl ?_
          refine am_q1 (v := 0) hi_28_4 rfl ?_
          refine am_q39 (j := 0) hi_28_5 g38 (by decide) (by decide) (by decide) h38_0 ?_
          exact am_q34 hi_28_6
        show am_R _ _ _ _ [some (.ref 6), some (.int 0)] [.ref 33] _ _ _
        exact am_q34 hi_25_14
      show am_R _ _ _ _ [some (.ref 5), some (.int 0)] [.ref 33] _ _ _
      refine am_q30 hi_159_31 o33 ?_
      refine am_q18 hi_159_34 ?_
      exact am_q34 hi_159_38
    show am_R _ _ _ _ [some (.ref 0), some (.int 0), some (.int 4), none] [.ref 33] _ _ _
    refine am_q4 (ls' := [some (.ref 0), some (.int 0), some (.int 4), some (.ref 33)]) hi_158_8 (Nat.le_of_ble_eq_true rfl) rfl ?_
    refine am_q2 (v := 33) hi_158_9 rfl ?_
    refine am_q15r hi_158_10 ?_
    refine am_q1 (v := 4) hi_158_15 rfl ?_
    refine am_q19 (t := 84) hi_158_16 (by decide) ?_
    refine am_q2 (v := 33) hi_158_84 rfl ?_
    refine am_q20 (v := .int 0) hi_158_85 o33 rfl ?_
    exact am_q33 hi_158_88
  · refine am_q2 (v := 39) hi_269_0 rfl ?_
    refine am_q1 (v := 0) hi_269_1 rfl ?_
    refine am_q32 (v := some (.int 1)) (S1 := S) (as := [.ref 39, .int 0]) (la := [some (.ref 39), some (.int 0)]) (rest := []) hi_269_2 (Nat.le_of_ble_eq_true rfl) (Nat.le_of_ble_eq_true rfl) (show 2 ≤ am_P0.2.2.1 270 from by decide +kernel) rfl (am_recv_ok o39) rfl rfl ?_ ?_
    · refine am_q1 (v := 0) hi_270_0 rfl ?_
      refine am_q12f hi_270_1 (by decide) ?_
      refine am_q1 (v := 0) hi_270_4 rfl ?_
      refine am_q2 (v := 39) hi_270_5 rfl ?_
      refine am_q20 (v := .int 1) hi_270_6 o39 rfl ?_
      refine am_q13f hi_270_9 (by decide) ?_
      refine am_q0 hi_270_12 ?_
      refine am_q18 hi_270_13 ?_
      exact am_q36 hi_270_17 (by decide)
    show am_R _ _ _ _ [some (.ref 39), some (.int 0), some (.int 4)] [.int 1] _ _ _
    refine am_q12t hi_269_5 (by decide) ?_
    refine am_q1 (v := 4) hi_269_10 rfl ?_
    refine am_q19 (t := 84) hi_269_11 (by decide) ?_
    refine am_q2 (v := 39) hi_269_84 rfl ?_
    refine am_q20 (v := .ref 79) hi_269_85 o39 rfl ?_
    refine am_q1 (v := 0) hi_269_88 rfl ?_
    refine am_q25 (v := 0) (j := 0) hi_269_89 q79 (by decide) (by decide) (by decide) (by decide) e79_0 ?_
    exact am_q33 hi_269_90
set_option maxRecDepth 10000 in
theorem pw_function_7 {sc : Nat × (Nat → Int32)} {S : am_S} (F : am_F0 S) : ∃ (v : Int32) (S1 S2 : am_S) (fs : List Value), am_R (am_PP sc) 59 158 0 [some (.ref 0), some (.int 0), some (.int 5), none] [] S (some (some (.int v))) S1 ∧ am_R (am_PP sc) 59 269 0 [some (.ref 39), some (.int 0), some (.int 5)] [] S1 (some (some (.int v))) S2 ∧ S2.2 = S.2 ∧ am_fs S1 39 = some (11, fs) := by
  obtain ⟨⟨e35_0, e35_1, e35_2, e35_3, e75_0, e76_0, e77_0, e78_0, e79_0, e80_0⟩, ⟨e81_0, e82_0, e87_0, e89_0, e90_0, e91_0, e92_0, e93_0, g38, h38_0⟩, ⟨o0, o2, o3, o32, o33, o34, o36, o39, o5, o6⟩, ⟨q35, q4, q40, q41, q75, q76, q77, q78, q79, q80⟩, ⟨q81, q82, q87, q89, q90, q91, q92, q93⟩⟩ := F
  refine ⟨0, S, S, _, ?_, ?_, rfl, o39⟩
  · refine am_q2 (v := 0) hi_158_0 rfl ?_
    refine am_q20 (v := .ref 5) hi_158_1 o0 rfl ?_
    refine am_q1 (v := 0) hi_158_4 rfl ?_
    refine am_q32 (v := some (.ref 33)) (S1 := S) (as := [.ref 5, .int 0]) (la := [some (.ref 5), some (.int 0)]) (rest := []) hi_158_5 (Nat.le_of_ble_eq_true rfl) (Nat.le_of_ble_eq_true rfl) (show 2 ≤ am_P0.2.2.1 159 from by decide +kernel) rfl (am_recv_ok o5) rfl rfl ?_ ?_
    · refine am_q1 (v := 0) hi_159_0 rfl ?_
      refine am_q12f hi_159_1 (by decide) ?_
      refine am_q1 (v := 0) hi_159_4 rfl ?_
      refine am_q2 (v := 5) hi_159_5 rfl ?_
      refine am_q20 (v := .int 1) hi_159_6 o5 rfl ?_
      refine am_q13f hi_159_9 (by decide) ?_
      refine am_q1 (v := 0) hi_159_12 rfl ?_
      refine am_q2 (v := 5) hi_159_13 rfl ?_
      refine am_q20 (v := .ref 6) hi_159_14 o5 rfl ?_
      refine am_q32 (v := some (.int 1)) (S1 := S) (as := [.ref 6]) (la := [some (.ref 6)]) (rest := [.int 0]) hi_159_17 (Nat.le_of_ble_eq_true rfl) (Nat.le_of_ble_eq_true rfl) (show 1 ≤ am_P0.2.2.1 14 from by decide +kernel) rfl (am_recv_ok o6) rfl rfl ?_ ?_
      · refine am_q2 (v := 6) hi_14_0 rfl ?_
        refine am_q20 (v := .int 1) hi_14_1 o6 rfl ?_
        exact am_q33 hi_14_4
      show am_R _ _ _ _ [some (.ref 5), some (.int 0)] [.int 1, .int 0] _ _ _
      refine am_q13f hi_159_20 (by decide) ?_
      refine am_q2 (v := 5) hi_159_23 rfl ?_
      refine am_q20 (v := .ref 6) hi_159_24 o5 rfl ?_
      refine am_q1 (v := 0) hi_159_27 rfl ?_
      refine am_q32 (v := some (.ref 33)) (S1 := S) (as := [.ref 6, .int 0]) (la := [some (.ref 6), some (.int 0)]) (rest := []) hi_159_28 (Nat.le_of_ble_eq_true rfl) (Nat.le_of_ble_eq_true rfl) (show 2 ≤ am_P0.2.2.1 25 from by decide +kernel) rfl (am_recv_ok o6) rfl rfl ?_ ?_
      · refine am_q1 (v := 0) hi_25_0 rfl ?_
        refine am_q2 (v := 6) hi_25_1 rfl ?_
        refine am_q20 (v := .int 1) hi_25_2 o6 rfl ?_
        refine am_q32 (v := some (.int 0)) (S1 := S) (as := [.int 0, .int 1]) (la := [some (.int 0), some (.int 1)]) (rest := []) hi_25_5 (Nat.le_of_ble_eq_true rfl) (Nat.le_of_ble_eq_true rfl) (show 2 ≤ am_P0.2.2.1 26 from by decide +kernel) rfl rfl rfl rfl ?_ ?_
        · refine am_q1 (v := 0) hi_26_0 rfl ?_
          refine am_q1 (v := 1) hi_26_1 rfl ?_
          refine am_q29 hi_26_2 ?_
          refine am_q32 (v := some (.int 0)) (S1 := S) (as := [.int 0, .int 1, .null]) (la := [some (.int 0), some (.int 1), some .null]) (rest := []) hi_26_3 (Nat.le_of_ble_eq_true rfl) (Nat.le_of_ble_eq_true rfl) (show 3 ≤ am_P0.2.2.1 27 from by decide +kernel) rfl rfl rfl rfl ?_ ?_
          · refine am_q1 (v := 0) hi_27_0 rfl ?_
            refine am_q12f hi_27_1 (by decide) ?_
            refine am_q1 (v := 0) hi_27_4 rfl ?_
            refine am_q1 (v := 1) hi_27_5 rfl ?_
            refine am_q13t hi_27_6 (by decide) ?_
            refine am_q1 (v := 0) hi_27_16 rfl ?_
            exact am_q33 hi_27_17
          show am_R _ _ _ _ [some (.int 0), some (.int 1)] [.int 0] _ _ _
          exact am_q33 hi_26_6
        show am_R _ _ _ _ [some (.ref 6), some (.int 0)] [.int 0] _ _ _
        refine am_q6i hi_25_8 ?_
        refine am_q2 (v := 6) hi_25_9 rfl ?_
        refine am_q1 (v := 0) hi_25_10 rfl ?_
        refine am_q32 (v := some (.ref 33)) (S1 := S) (as := [.ref 6, .int 0]) (la := [some (.ref 6), some (.int 0)]) (rest := []) hi_25_11 (Nat.le_of_ble_eq_true rfl) (Nat.le_of_ble_eq_true rfl) (show 2 ≤ am_P0.2.2.1 28 from by decide +kernel) rfl (am_recv_ok o6) rfl rfl ?_ ?_
        · refine am_q2 (v := 6) hi_28_0 rfl ?_
          refine am_q20 (v := .ref 38) hi_28_1 o6 rfl ?_
          refine am_q1 (v := 0) hi_28_4 rfl ?_
          refine am_q39 (j := 0) hi_28_5 g38 (by decide) (by decide) (by decide) h38_0 ?_
          exact am_q34 hi_28_6
        show am_R _ _ _ _ [some (.ref 6), some (.int 0)] [.ref 33] _ _ _
        exact am_q34 hi_25_14
      show am_R _ _ _ _ [some (.ref 5), some (.int 0)] [.ref 33] _ _ _
      refine am_q30 hi_159_31 o33 ?_
      refine am_q18 hi_159_34 ?_
      exact am_q34 hi_159_38
    show am_R _ _ _ _ [some (.ref 0), some (.int 0), some (.int 5), none] [.ref 33] _ _ _
    refine am_q4 (ls' := [some (.ref 0), some (.int 0), some (.int 5), some (.ref 33)]) hi_158_8 (Nat.le_of_ble_eq_true rfl) rfl ?_
    refine am_q2 (v := 33) hi_158_9 rfl ?_
    refine am_q15r hi_158_10 ?_
    refine am_q1 (v := 5) hi_158_15 rfl ?_
    refine am_q19 (t := 89) hi_158_16 (by decide) ?_
    refine am_q2 (v := 33) hi_158_89 rfl ?_
    refine am_q20 (v := .ref 36) hi_158_90 o33 rfl ?_
    refine am_q32 (v := some (.int 0)) (S1 := S) (as := [.ref 36]) (la := [some (.ref 36)]) (rest := []) hi_158_93 (Nat.le_of_ble_eq_true rfl) (Nat.le_of_ble_eq_true rfl) (show 1 ≤ am_P0.2.2.1 36 from by decide +kernel) rfl (am_recv_ok o36) rfl rfl ?_ ?_
    · refine am_q2 (v := 36) hi_36_0 rfl ?_
      refine am_q20 (v := .int 0) hi_36_1 o36 rfl ?_
      exact am_q33 hi_36_4
    show am_R _ _ _ _ [some (.ref 0), some (.int 0), some (.int 5), some (.ref 33)] [.int 0] _ _ _
    exact am_q33 hi_158_96
  · refine am_q2 (v := 39) hi_269_0 rfl ?_
    refine am_q1 (v := 0) hi_269_1 rfl ?_
    refine am_q32 (v := some (.int 1)) (S1 := S) (as := [.ref 39, .int 0]) (la := [some (.ref 39), some (.int 0)]) (rest := []) hi_269_2 (Nat.le_of_ble_eq_true rfl) (Nat.le_of_ble_eq_true rfl) (show 2 ≤ am_P0.2.2.1 270 from by decide +kernel) rfl (am_recv_ok o39) rfl rfl ?_ ?_
    · refine am_q1 (v := 0) hi_270_0 rfl ?_
      refine am_q12f hi_270_1 (by decide) ?_
      refine am_q1 (v := 0) hi_270_4 rfl ?_
      refine am_q2 (v := 39) hi_270_5 rfl ?_
      refine am_q20 (v := .int 1) hi_270_6 o39 rfl ?_
      refine am_q13f hi_270_9 (by decide) ?_
      refine am_q0 hi_270_12 ?_
      refine am_q18 hi_270_13 ?_
      exact am_q36 hi_270_17 (by decide)
    show am_R _ _ _ _ [some (.ref 39), some (.int 0), some (.int 5)] [.int 1] _ _ _
    refine am_q12t hi_269_5 (by decide) ?_
    refine am_q1 (v := 5) hi_269_10 rfl ?_
    refine am_q19 (t := 91) hi_269_11 (by decide) ?_
    refine am_q2 (v := 39) hi_269_91 rfl ?_
    refine am_q20 (v := .ref 87) hi_269_92 o39 rfl ?_
    refine am_q1 (v := 0) hi_269_95 rfl ?_
    refine am_q25 (v := 0) (j := 0) hi_269_96 q87 (by decide) (by decide) (by decide) (by decide) e87_0 ?_
    exact am_q33 hi_269_97
set_option maxRecDepth 10000 in
theorem pw_function_8 {sc : Nat × (Nat → Int32)} {S : am_S} (F : am_F0 S) : ∃ (v : Int32) (S1 S2 : am_S) (fs : List Value), am_R (am_PP sc) 59 158 0 [some (.ref 0), some (.int 0), some (.int 6), none] [] S (some (some (.int v))) S1 ∧ am_R (am_PP sc) 59 269 0 [some (.ref 39), some (.int 0), some (.int 6)] [] S1 (some (some (.int v))) S2 ∧ S2.2 = S.2 ∧ am_fs S1 39 = some (11, fs) := by
  obtain ⟨⟨e35_0, e35_1, e35_2, e35_3, e75_0, e76_0, e77_0, e78_0, e79_0, e80_0⟩, ⟨e81_0, e82_0, e87_0, e89_0, e90_0, e91_0, e92_0, e93_0, g38, h38_0⟩, ⟨o0, o2, o3, o32, o33, o34, o36, o39, o5, o6⟩, ⟨q35, q4, q40, q41, q75, q76, q77, q78, q79, q80⟩, ⟨q81, q82, q87, q89, q90, q91, q92, q93⟩⟩ := F
  refine ⟨1, S, S, _, ?_, ?_, rfl, o39⟩
  · refine am_q2 (v := 0) hi_158_0 rfl ?_
    refine am_q20 (v := .ref 5) hi_158_1 o0 rfl ?_
    refine am_q1 (v := 0) hi_158_4 rfl ?_
    refine am_q32 (v := some (.ref 33)) (S1 := S) (as := [.ref 5, .int 0]) (la := [some (.ref 5), some (.int 0)]) (rest := []) hi_158_5 (Nat.le_of_ble_eq_true rfl) (Nat.le_of_ble_eq_true rfl) (show 2 ≤ am_P0.2.2.1 159 from by decide +kernel) rfl (am_recv_ok o5) rfl rfl ?_ ?_
    · refine am_q1 (v := 0) hi_159_0 rfl ?_
      refine am_q12f hi_159_1 (by decide) ?_
      refine am_q1 (v := 0) hi_159_4 rfl ?_
      refine am_q2 (v := 5) hi_159_5 rfl ?_
      refine am_q20 (v := .int 1) hi_159_6 o5 rfl ?_
      refine am_q13f hi_159_9 (by decide) ?_
      refine am_q1 (v := 0) hi_159_12 rfl ?_
      refine am_q2 (v := 5) hi_159_13 rfl ?_
      refine am_q20 (v := .ref 6) hi_159_14 o5 rfl ?_
      refine am_q32 (v := some (.int 1)) (S1 := S) (as := [.ref 6]) (la := [some (.ref 6)]) (rest := [.int 0]) hi_159_17 (Nat.le_of_ble_eq_true rfl) (Nat.le_of_ble_eq_true rfl) (show 1 ≤ am_P0.2.2.1 14 from by decide +kernel) rfl (am_recv_ok o6) rfl rfl ?_ ?_
      · refine am_q2 (v := 6) hi_14_0 rfl ?_
        refine am_q20 (v := .int 1) hi_14_1 o6 rfl ?_
        exact am_q33 hi_14_4
      show am_R _ _ _ _ [some (.ref 5), some (.int 0)] [.int 1, .int 0] _ _ _
      refine am_q13f hi_159_20 (by decide) ?_
      refine am_q2 (v := 5) hi_159_23 rfl ?_
      refine am_q20 (v := .ref 6) hi_159_24 o5 rfl ?_
      refine am_q1 (v := 0) hi_159_27 rfl ?_
      refine am_q32 (v := some (.ref 33)) (S1 := S) (as := [.ref 6, .int 0]) (la := [some (.ref 6), some (.int 0)]) (rest := []) hi_159_28 (Nat.le_of_ble_eq_true rfl) (Nat.le_of_ble_eq_true rfl) (show 2 ≤ am_P0.2.2.1 25 from by decide +kernel) rfl (am_recv_ok o6) rfl rfl ?_ ?_
      · refine am_q1 (v := 0) hi_25_0 rfl ?_
        refine am_q2 (v := 6) hi_25_1 rfl ?_
        refine am_q20 (v := .int 1) hi_25_2 o6 rfl ?_
        refine am_q32 (v := some (.int 0)) (S1 := S) (as := [.int 0, .int 1]) (la := [some (.int 0), some (.int 1)]) (rest := []) hi_25_5 (Nat.le_of_ble_eq_true rfl) (Nat.le_of_ble_eq_true rfl) (show 2 ≤ am_P0.2.2.1 26 from by decide +kernel) rfl rfl rfl rfl ?_ ?_
        · refine am_q1 (v := 0) hi_26_0 rfl ?_
          refine am_q1 (v := 1) hi_26_1 rfl ?_
          refine am_q29 hi_26_2 ?_
          refine am_q32 (v := some (.int 0)) (S1 := S) (as := [.int 0, .int 1, .null]) (la := [some (.int 0), some (.int 1), some .null]) (rest := []) hi_26_3 (Nat.le_of_ble_eq_true rfl) (Nat.le_of_ble_eq_true rfl) (show 3 ≤ am_P0.2.2.1 27 from by decide +kernel) rfl rfl rfl rfl ?_ ?_
          · refine am_q1 (v := 0) hi_27_0 rfl ?_
            refine am_q12f hi_27_1 (by decide) ?_
            refine am_q1 (v := 0) hi_27_4 rfl ?_
            refine am_q1 (v := 1) hi_27_5 rfl ?_
            refine am_q13t hi_27_6 (by decide) ?_
            refine am_q1 (v := 0) hi_27_16 rfl ?_
            exact am_q33 hi_27_17
          show am_R _ _ _ _ [some (.int 0), some (.int 1)] [.int 0] _ _ _
          exact am_q33 hi_26_6
        show am_R _ _ _ _ [some (.ref 6), some (.int 0)] [.int 0] _ _ _
        refine am_q6i hi_25_8 ?_
        refine am_q2 (v := 6) hi_25_9 rfl ?_
        refine am_q1 (v := 0) hi_25_10 rfl ?_
        refine am_q32 (v := some (.ref 33)) (S1 := S) (as := [.ref 6, .int 0]) (la := [some (.ref 6), some (.int 0)]) (rest := []) hi_25_11 (Nat.le_of_ble_eq_true rfl) (Nat.le_of_ble_eq_true rfl) (show 2 ≤ am_P0.2.2.1 28 from by decide +kernel) rfl (am_recv_ok o6) rfl rfl ?_ ?_
        · refine am_q2 (v := 6) hi_28_0 rfl ?_
          refine am_q20 (v := .ref 38) hi_28_1 o6 rfl ?_
          refine am_q1 (v := 0) hi_28_4 rfl ?_
          refine am_q39 (j := 0) hi_28_5 g38 (by decide) (by decide) (by decide) h38_0 ?_
          exact am_q34 hi_28_6
        show am_R _ _ _ _ [some (.ref 6), some (.int 0)] [.ref 33] _ _ _
        exact am_q34 hi_25_14
      show am_R _ _ _ _ [some (.ref 5), some (.int 0)] [.ref 33] _ _ _
      refine am_q30 hi_159_31 o33 ?_
      refine am_q18 hi_159_34 ?_
      exact am_q34 hi_159_38
    show am_R _ _ _ _ [some (.ref 0), some (.int 0), some (.int 6), none] [.ref 33] _ _ _
    refine am_q4 (ls' := [some (.ref 0), some (.int 0), some (.int 6), some (.ref 33)]) hi_158_8 (Nat.le_of_ble_eq_true rfl) rfl ?_
    refine am_q2 (v := 33) hi_158_9 rfl ?_
    refine am_q15r hi_158_10 ?_
    refine am_q1 (v := 6) hi_158_15 rfl ?_
    refine am_q19 (t := 97) hi_158_16 (by decide) ?_
    refine am_q2 (v := 33) hi_158_97 rfl ?_
    refine am_q20 (v := .ref 34) hi_158_98 o33 rfl ?_
    refine am_q32 (v := some (.int 1)) (S1 := S) (as := [.ref 34]) (la := [some (.ref 34)]) (rest := []) hi_158_101 (Nat.le_of_ble_eq_true rfl) (Nat.le_of_ble_eq_true rfl) (show 1 ≤ am_P0.2.2.1 36 from by decide +kernel) rfl (am_recv_ok o34) rfl rfl ?_ ?_
    · refine am_q2 (v := 34) hi_36_0 rfl ?_
      refine am_q20 (v := .int 1) hi_36_1 o34 rfl ?_
      exact am_q33 hi_36_4
    show am_R _ _ _ _ [some (.ref 0), some (.int 0), some (.int 6), some (.ref 33)] [.int 1] _ _ _
    exact am_q33 hi_158_104
  · refine am_q2 (v := 39) hi_269_0 rfl ?_
    refine am_q1 (v := 0) hi_269_1 rfl ?_
    refine am_q32 (v := some (.int 1)) (S1 := S) (as := [.ref 39, .int 0]) (la := [some (.ref 39), some (.int 0)]) (rest := []) hi_269_2 (Nat.le_of_ble_eq_true rfl) (Nat.le_of_ble_eq_true rfl) (show 2 ≤ am_P0.2.2.1 270 from by decide +kernel) rfl (am_recv_ok o39) rfl rfl ?_ ?_
    · refine am_q1 (v := 0) hi_270_0 rfl ?_
      refine am_q12f hi_270_1 (by decide) ?_
      refine am_q1 (v := 0) hi_270_4 rfl ?_
      refine am_q2 (v := 39) hi_270_5 rfl ?_
      refine am_q20 (v := .int 1) hi_270_6 o39 rfl ?_
      refine am_q13f hi_270_9 (by decide) ?_
      refine am_q0 hi_270_12 ?_
      refine am_q18 hi_270_13 ?_
      exact am_q36 hi_270_17 (by decide)
    show am_R _ _ _ _ [some (.ref 39), some (.int 0), some (.int 6)] [.int 1] _ _ _
    refine am_q12t hi_269_5 (by decide) ?_
    refine am_q1 (v := 6) hi_269_10 rfl ?_
    refine am_q19 (t := 98) hi_269_11 (by decide) ?_
    refine am_q2 (v := 39) hi_269_98 rfl ?_
    refine am_q20 (v := .ref 81) hi_269_99 o39 rfl ?_
    refine am_q1 (v := 0) hi_269_102 rfl ?_
    refine am_q25 (v := 1) (j := 0) hi_269_103 q81 (by decide) (by decide) (by decide) (by decide) e81_0 ?_
    exact am_q33 hi_269_104
set_option maxRecDepth 10000 in
theorem pw_function_9 {sc : Nat × (Nat → Int32)} {S : am_S} (F : am_F0 S) : ∃ (v : Int32) (S1 S2 : am_S) (fs : List Value), am_R (am_PP sc) 59 158 0 [some (.ref 0), some (.int 0), some (.int 7), none] [] S (some (some (.int v))) S1 ∧ am_R (am_PP sc) 59 269 0 [some (.ref 39), some (.int 0), some (.int 7)] [] S1 (some (some (.int v))) S2 ∧ S2.2 = S.2 ∧ am_fs S1 39 = some (11, fs) := by
  obtain ⟨⟨e35_0, e35_1, e35_2, e35_3, e75_0, e76_0, e77_0, e78_0, e79_0, e80_0⟩, ⟨e81_0, e82_0, e87_0, e89_0, e90_0, e91_0, e92_0, e93_0, g38, h38_0⟩, ⟨o0, o2, o3, o32, o33, o34, o36, o39, o5, o6⟩, ⟨q35, q4, q40, q41, q75, q76, q77, q78, q79, q80⟩, ⟨q81, q82, q87, q89, q90, q91, q92, q93⟩⟩ := F
  refine ⟨(-1), S, S, _, ?_, ?_, rfl, o39⟩
  · refine am_q2 (v := 0) hi_158_0 rfl ?_
    refine am_q20 (v := .ref 5) hi_158_1 o0 rfl ?_
    refine am_q1 (v := 0) hi_158_4 rfl ?_
    refine am_q32 (v := some (.ref 33)) (S1 := S) (as := [.ref 5, .int 0]) (la := [some (.ref 5), some (.int 0)]) (rest := []) hi_158_5 (Nat.le_of_ble_eq_true rfl) (Nat.le_of_ble_eq_true rfl) (show 2 ≤ am_P0.2.2.1 159 from by decide +kernel) rfl (am_recv_ok o5) rfl rfl ?_ ?_
    · refine am_q1 (v := 0) hi_159_0 rfl ?_
      refine am_q12f hi_159_1 (by decide) ?_
      refine am_q1 (v := 0) hi_159_4 rfl ?_
      refine am_q2 (v := 5) hi_159_5 rfl ?_
      refine am_q20 (v := .int 1) hi_159_6 o5 rfl ?_
      refine am_q13f hi_159_9 (by decide) ?_
      refine am_q1 (v := 0) hi_159_12 rfl ?_
      refine am_q2 (v := 5) hi_159_13 rfl ?_
      refine am_q20 (v := .ref 6) hi_159_14 o5 rfl ?_
      refine am_q32 (v := some (.int 1)) (S1 := S) (as := [.ref 6]) (la := [some (.ref 6)]) (rest := [.int 0]) hi_159_17 (Nat.le_of_ble_eq_true rfl) (Nat.le_of_ble_eq_true rfl) (show 1 ≤ am_P0.2.2.1 14 from by decide +kernel) rfl (am_recv_ok o6) rfl rfl ?_ ?_
      · refine am_q2 (v := 6) hi_14_0 rfl ?_
        refine am_q20 (v := .int 1) hi_14_1 o6 rfl ?_
        exact am_q33 hi_14_4
      show am_R _ _ _ _ [some (.ref 5), some (.int 0)] [.int 1, .int 0] _ _ _
      refine am_q13f hi_159_20 (by decide) ?_
      refine am_q2 (v := 5) hi_159_23 rfl ?_
      refine am_q20 (v := .ref 6) hi_159_24 o5 rfl ?_
      refine am_q1 (v := 0) hi_159_27 rfl ?_
      refine am_q32 (v := some (.ref 33)) (S1 := S) (as := [.ref 6, .int 0]) (la := [some (.ref 6), some (.int 0)]) (rest := []) hi_159_28 (Nat.le_of_ble_eq_true rfl) (Nat.le_of_ble_eq_true rfl) (show 2 ≤ am_P0.2.2.1 25 from by decide +kernel) rfl (am_recv_ok o6) rfl rfl ?_ ?_
      · refine am_q1 (v := 0) hi_25_0 rfl ?_
        refine am_q2 (v := 6) hi_25_1 rfl ?_
        refine am_q20 (v := .int 1) hi_25_2 o6 rfl ?_
        refine am_q32 (v := some (.int 0)) (S1 := S) (as := [.int 0, .int 1]) (la := [some (.int 0), some (.int 1)]) (rest := []) hi_25_5 (Nat.le_of_ble_eq_true rfl) (Nat.le_of_ble_eq_true rfl) (show 2 ≤ am_P0.2.2.1 26 from by decide +kernel) rfl rfl rfl rfl ?_ ?_
        · refine am_q1 (v := 0) hi_26_0 rfl ?_
          refine am_q1 (v := 1) hi_26_1 rfl ?_
          refine am_q29 hi_26_2 ?_
          refine am_q32 (v := some (.int 0)) (S1 := S) (as := [.int 0, .int 1, .null]) (la := [some (.int 0), some (.int 1), some .null]) (rest := []) hi_26_3 (Nat.le_of_ble_eq_true rfl) (Nat.le_of_ble_eq_true rfl) (show 3 ≤ am_P0.2.2.1 27 from by decide +kernel) rfl rfl rfl rfl ?_ ?_
          · refine am_q1 (v := 0) hi_27_0 rfl ?_
            refine am_q12f hi_27_1 (by decide) ?_
            refine am_q1 (v := 0) hi_27_4 rfl ?_
            refine am_q1 (v := 1) hi_27_5 rfl ?_
            refine am_q13t hi_27_6 (by decide) ?_
            refine am_q1 (v := 0) hi_27_16 rfl ?_
            exact am_q33 hi_27_17
          show am_R _ _ _ _ [some (.int 0), some (.int 1)] [.int 0] _ _ _
          exact am_q33 hi_26_6
        show am_R _ _ _ _ [some (.ref 6), some (.int 0)] [.int 0] _ _ _
        refine am_q6i hi_25_8 ?_
        refine am_q2 (v := 6) hi_25_9 rfl ?_
        refine am_q1 (v := 0) hi_25_10 rfl ?_
        refine am_q32 (v := some (.ref 33)) (S1 := S) (as := [.ref 6, .int 0]) (la := [some (.ref 6), some (.int 0)]) (rest := []) hi_25_11 (Nat.le_of_ble_eq_true rfl) (Nat.le_of_ble_eq_true rfl) (show 2 ≤ am_P0.2.2.1 28 from by decide +kernel) rfl (am_recv_ok o6) rfl rfl ?_ ?_
        · refine am_q2 (v := 6) hi_28_0 rfl ?_
          refine am_q20 (v := .ref 38) hi_28_1 o6 rfl ?_
          refine am_q1 (v := 0) hi_28_4 rfl ?_
          refine am_q39 (j := 0) hi_28_5 g38 (by decide) (by decide) (by decide) h38_0 ?_
          exact am_q34 hi_28_6
        show am_R _ _ _ _ [some (.ref 6), some (.int 0)] [.ref 33] _ _ _
        exact am_q34 hi_25_14
      show am_R _ _ _ _ [some (.ref 5), some (.int 0)] [.ref 33] _ _ _
      refine am_q30 hi_159_31 o33 ?_
      refine am_q18 hi_159_34 ?_
      exact am_q34 hi_159_38
    show am_R _ _ _ _ [some (.ref 0), some (.int 0), some (.int 7), none] [.ref 33] _ _ _
    refine am_q4 (ls' := [some (.ref 0), some (.int 0), some (.int 7), some (.ref 33)]) hi_158_8 (Nat.le_of_ble_eq_true rfl) rfl ?_
    refine am_q2 (v := 33) hi_158_9 rfl ?_
    refine am_q15r hi_158_10 ?_
    refine am_q1 (v := 7) hi_158_15 rfl ?_
    refine am_q19 (t := 105) hi_158_16 (by decide) ?_
    refine am_q2 (v := 33) hi_158_105 rfl ?_
    refine am_q20 (v := .int (-1)) hi_158_106 o33 rfl ?_
    exact am_q33 hi_158_109
  · refine am_q2 (v := 39) hi_269_0 rfl ?_
    refine am_q1 (v := 0) hi_269_1 rfl ?_
    refine am_q32 (v := some (.int 1)) (S1 := S) (as := [.ref 39, .int 0]) (la := [some (.ref 39), some (.int 0)]) (rest := []) hi_269_2 (Nat.le_of_ble_eq_true rfl) (Nat.le_of_ble_eq_true rfl) (show 2 ≤ am_P0.2.2.1 270 from by decide +kernel) rfl (am_recv_ok o39) rfl rfl ?_ ?_
    · refine am_q1 (v := 0) hi_270_0 rfl ?_
      refine am_q12f hi_270_1 (by decide) ?_
      refine am_q1 (v := 0) hi_270_4 rfl ?_
      refine am_q2 (v := 39) hi_270_5 rfl ?_
      refine am_q20 (v := .int 1) hi_270_6 o39 rfl ?_
      refine am_q13f hi_270_9 (by decide) ?_
      refine am_q0 hi_270_12 ?_
      refine am_q18 hi_270_13 ?_
      exact am_q36 hi_270_17 (by decide)
    show am_R _ _ _ _ [some (.ref 39), some (.int 0), some (.int 7)] [.int 1] _ _ _
    refine am_q12t hi_269_5 (by decide) ?_
    refine am_q1 (v := 7) hi_269_10 rfl ?_
    refine am_q19 (t := 105) hi_269_11 (by decide) ?_
    refine am_q2 (v := 39) hi_269_105 rfl ?_
    refine am_q20 (v := .ref 80) hi_269_106 o39 rfl ?_
    refine am_q1 (v := 0) hi_269_109 rfl ?_
    refine am_q25 (v := (-1)) (j := 0) hi_269_110 q80 (by decide) (by decide) (by decide) (by decide) e80_0 ?_
    exact am_q33 hi_269_111
set_option maxRecDepth 10000 in
theorem pw_function_10 {sc : Nat × (Nat → Int32)} {S : am_S} {b : Int32} (F : am_F0 S) (blo : 8 ≤ b.toInt) : ∃ (v : Int32) (S1 S2 : am_S) (fs : List Value), am_R (am_PP sc) 59 158 0 [some (.ref 0), some (.int 0), some (.int b), none] [] S (some (some (.int v))) S1 ∧ am_R (am_PP sc) 59 269 0 [some (.ref 39), some (.int 0), some (.int b)] [] S1 (some (some (.int v))) S2 ∧ S2.2 = S.2 ∧ am_fs S1 39 = some (11, fs) := by
  obtain ⟨⟨e35_0, e35_1, e35_2, e35_3, e75_0, e76_0, e77_0, e78_0, e79_0, e80_0⟩, ⟨e81_0, e82_0, e87_0, e89_0, e90_0, e91_0, e92_0, e93_0, g38, h38_0⟩, ⟨o0, o2, o3, o32, o33, o34, o36, o39, o5, o6⟩, ⟨q35, q4, q40, q41, q75, q76, q77, q78, q79, q80⟩, ⟨q81, q82, q87, q89, q90, q91, q92, q93⟩⟩ := F
  refine ⟨(-1), S, S, _, ?_, ?_, rfl, o39⟩
  · refine am_q2 (v := 0) hi_158_0 rfl ?_
    refine am_q20 (v := .ref 5) hi_158_1 o0 rfl ?_
    refine am_q1 (v := 0) hi_158_4 rfl ?_
    refine am_q32 (v := some (.ref 33)) (S1 := S) (as := [.ref 5, .int 0]) (la := [some (.ref 5), some (.int 0)]) (rest := []) hi_158_5 (Nat.le_of_ble_eq_true rfl) (Nat.le_of_ble_eq_true rfl) (show 2 ≤ am_P0.2.2.1 159 from by decide +kernel) rfl (am_recv_ok o5) rfl rfl ?_ ?_
    · refine am_q1 (v := 0) hi_159_0 rfl ?_
      refine am_q12f hi_159_1 (by decide) ?_
      refine am_q1 (v := 0) hi_159_4 rfl ?_
      refine am_q2 (v := 5) hi_159_5 rfl ?_
      refine am_q20 (v := .int 1) hi_159_6 o5 rfl ?_
      refine am_q13f hi_159_9 (by decide) ?_
      refine am_q1 (v := 0) hi_159_12 rfl ?_
      refine am_q2 (v := 5) hi_159_13 rfl ?_
      refine am_q20 (v := .ref 6) hi_159_14 o5 rfl ?_
      refine am_q32 (v := some (.int 1)) (S1 := S) (as := [.ref 6]) (la := [some (.ref 6)]) (rest := [.int 0]) hi_159_17 (Nat.le_of_ble_eq_true rfl) (Nat.le_of_ble_eq_true rfl) (show 1 ≤ am_P0.2.2.1 14 from by decide +kernel) rfl (am_recv_ok o6) rfl rfl ?_ ?_
      · refine am_q2 (v := 6) hi_14_0 rfl ?_
        refine am_q20 (v := .int 1) hi_14_1 o6 rfl ?_
        exact am_q33 hi_14_4
      show am_R _ _ _ _ [some (.ref 5), some (.int 0)] [.int 1, .int 0] _ _ _
      refine am_q13f hi_159_20 (by decide) ?_
      refine am_q2 (v := 5) hi_159_23 rfl ?_
      refine am_q20 (v := .ref 6) hi_159_24 o5 rfl ?_
      refine am_q1 (v := 0) hi_159_27 rfl ?_
      refine am_q32 (v := some (.ref 33)) (S1 := S) (as := [.ref 6, .int 0]) (la := [some (.ref 6), some (.int 0)]) (rest := []) hi_159_28 (Nat.le_of_ble_eq_true rfl) (Nat.le_of_ble_eq_true rfl) (show 2 ≤ am_P0.2.2.1 25 from by decide +kernel) rfl (am_recv_ok o6) rfl rfl ?_ ?_
      · refine am_q1 (v := 0) hi_25_0 rfl ?_
        refine am_q2 (v := 6) hi_25_1 rfl ?_
        refine am_q20 (v := .int 1) hi_25_2 o6 rfl ?_
        refine am_q32 (v := some (.int 0)) (S1 := S) (as := [.int 0, .int 1]) (la := [some (.int 0), some (.int 1)]) (rest := []) hi_25_5 (Nat.le_of_ble_eq_true rfl) (Nat.le_of_ble_eq_true rfl) (show 2 ≤ am_P0.2.2.1 26 from by decide +kernel) rfl rfl rfl rfl ?_ ?_
        · refine am_q1 (v := 0) hi_26_0 rfl ?_
          refine am_q1 (v := 1) hi_26_1 rfl ?_
          refine am_q29 hi_26_2 ?_
          refine am_q32 (v := some (.int 0)) (S1 := S) (as := [.int 0, .int 1, .null]) (la := [some (.int 0), some (.int 1), some .null]) (rest := []) hi_26_3 (Nat.le_of_ble_eq_true rfl) (Nat.le_of_ble_eq_true rfl) (show 3 ≤ am_P0.2.2.1 27 from by decide +kernel) rfl rfl rfl rfl ?_ ?_
          · refine am_q1 (v := 0) hi_27_0 rfl ?_
            refine am_q12f hi_27_1 (by decide) ?_
            refine am_q1 (v := 0) hi_27_4 rfl ?_
            refine am_q1 (v := 1) hi_27_5 rfl ?_
            refine am_q13t hi_27_6 (by decide) ?_
            refine am_q1 (v := 0) hi_27_16 rfl ?_
            exact am_q33 hi_27_17
          show am_R _ _ _ _ [some (.int 0), some (.int 1)] [.int 0] _ _ _
          exact am_q33 hi_26_6
        show am_R _ _ _ _ [some (.ref 6), some (.int 0)] [.int 0] _ _ _
        refine am_q6i hi_25_8 ?_
        refine am_q2 (v := 6) hi_25_9 rfl ?_
        refine am_q1 (v := 0) hi_25_10 rfl ?_
        refine am_q32 (v := some (.ref 33)) (S1 := S) (as := [.ref 6, .int 0]) (la := [some (.ref 6), some (.int 0)]) (rest := []) hi_25_11 (Nat.le_of_ble_eq_true rfl) (Nat.le_of_ble_eq_true rfl) (show 2 ≤ am_P0.2.2.1 28 from by decide +kernel) rfl (am_recv_ok o6) rfl rfl ?_ ?_
        · refine am_q2 (v := 6) hi_28_0 rfl ?_
          refine am_q20 (v := .ref 38) hi_28_1 o6 rfl ?_
          refine am_q1 (v := 0) hi_28_4 rfl ?_
          refine am_q39 (j := 0) hi_28_5 g38 (by decide) (by decide) (by decide) h38_0 ?_
          exact am_q34 hi_28_6
        show am_R _ _ _ _ [some (.ref 6), some (.int 0)] [.ref 33] _ _ _
        exact am_q34 hi_25_14
      show am_R _ _ _ _ [some (.ref 5), some (.int 0)] [.ref 33] _ _ _
      refine am_q30 hi_159_31 o33 ?_
      refine am_q18 hi_159_34 ?_
      exact am_q34 hi_159_38
    show am_R _ _ _ _ [some (.ref 0), some (.int 0), some (.int b), none] [.ref 33] _ _ _
    refine am_q4 (ls' := [some (.ref 0), some (.int 0), some (.int b), some (.ref 33)]) hi_158_8 (Nat.le_of_ble_eq_true rfl) rfl ?_
    refine am_q2 (v := 33) hi_158_9 rfl ?_
    refine am_q15r hi_158_10 ?_
    refine am_q1 (v := b) hi_158_15 rfl ?_
    refine am_q19 (t := 110) hi_158_16 (am_swO (lo := 0) (hi := 7) (by decide) (by omega)) ?_
    refine am_q0 hi_158_110 ?_
    exact am_q33 hi_158_111
  · refine am_q2 (v := 39) hi_269_0 rfl ?_
    refine am_q1 (v := 0) hi_269_1 rfl ?_
    refine am_q32 (v := some (.int 1)) (S1 := S) (as := [.ref 39, .int 0]) (la := [some (.ref 39), some (.int 0)]) (rest := []) hi_269_2 (Nat.le_of_ble_eq_true rfl) (Nat.le_of_ble_eq_true rfl) (show 2 ≤ am_P0.2.2.1 270 from by decide +kernel) rfl (am_recv_ok o39) rfl rfl ?_ ?_
    · refine am_q1 (v := 0) hi_270_0 rfl ?_
      refine am_q12f hi_270_1 (by decide) ?_
      refine am_q1 (v := 0) hi_270_4 rfl ?_
      refine am_q2 (v := 39) hi_270_5 rfl ?_
      refine am_q20 (v := .int 1) hi_270_6 o39 rfl ?_
      refine am_q13f hi_270_9 (by decide) ?_
      refine am_q0 hi_270_12 ?_
      refine am_q18 hi_270_13 ?_
      exact am_q36 hi_270_17 (by decide)
    show am_R _ _ _ _ [some (.ref 39), some (.int 0), some (.int b)] [.int 1] _ _ _
    refine am_q12t hi_269_5 (by decide) ?_
    refine am_q1 (v := b) hi_269_10 rfl ?_
    refine am_q19 (t := 112) hi_269_11 (am_swO (lo := 0) (hi := 7) (by decide) (by omega)) ?_
    refine am_q0 hi_269_112 ?_
    exact am_q33 hi_269_113
set_option maxRecDepth 10000 in
theorem pw_function_11 {sc : Nat × (Nat → Int32)} {S : am_S} {a : Int32} {b : Int32} (F : am_F0 S) (alo : 1 ≤ a.toInt) : ∃ (v : Int32) (S1 S2 : am_S) (fs : List Value), am_R (am_PP sc) 59 158 0 [some (.ref 0), some (.int a), some (.int b), none] [] S (some (some (.int v))) S1 ∧ am_R (am_PP sc) 59 269 0 [some (.ref 39), some (.int a), some (.int b)] [] S1 (some (some (.int v))) S2 ∧ S2.2 = S.2 ∧ am_fs S1 39 = some (11, fs) := by
  obtain ⟨⟨e35_0, e35_1, e35_2, e35_3, e75_0, e76_0, e77_0, e78_0, e79_0, e80_0⟩, ⟨e81_0, e82_0, e87_0, e89_0, e90_0, e91_0, e92_0, e93_0, g38, h38_0⟩, ⟨o0, o2, o3, o32, o33, o34, o36, o39, o5, o6⟩, ⟨q35, q4, q40, q41, q75, q76, q77, q78, q79, q80⟩, ⟨q81, q82, q87, q89, q90, q91, q92, q93⟩⟩ := F
  refine ⟨(-1), S, S, _, ?_, ?_, rfl, o39⟩
  · refine am_q2 (v := 0) hi_158_0 rfl ?_
    refine am_q20 (v := .ref 5) hi_158_1 o0 rfl ?_
    refine am_q1 (v := a) hi_158_4 rfl ?_
    refine am_q32 (v := some .null) (S1 := S) (as := [.ref 5, .int a]) (la := [some (.ref 5), some (.int a)]) (rest := []) hi_158_5 (Nat.le_of_ble_eq_true rfl) (Nat.le_of_ble_eq_true rfl) (show 2 ≤ am_P0.2.2.1 159 from by decide +kernel) rfl (am_recv_ok o5) rfl rfl ?_ ?_
    · refine am_q1 (v := a) hi_159_0 rfl ?_
      refine am_q12f hi_159_1 (am_cF (m := a.toInt) (n := (0 : Int)) rfl (by decide) (by simp only [am_cI]; omega)) ?_
      refine am_q1 (v := a) hi_159_4 rfl ?_
      refine am_q2 (v := 5) hi_159_5 rfl ?_
      refine am_q20 (v := .int 1) hi_159_6 o5 rfl ?_
      refine am_q13t hi_159_9 (am_cT (m := a.toInt) (n := (1 : Int)) rfl (by decide) (by simp only [am_cI]; omega)) ?_
      refine am_q29 hi_159_37 ?_
      exact am_q34n hi_159_38
    show am_R _ _ _ _ [some (.ref 0), some (.int a), some (.int b), none] [.null] _ _ _
    refine am_q4n (ls' := [some (.ref 0), some (.int a), some (.int b), some .null]) hi_158_8 (Nat.le_of_ble_eq_true rfl) rfl ?_
    refine am_q2n hi_158_9 rfl ?_
    refine am_q15n hi_158_10 ?_
    refine am_q0 hi_158_13 ?_
    exact am_q33 hi_158_14
  · refine am_q2 (v := 39) hi_269_0 rfl ?_
    refine am_q1 (v := a) hi_269_1 rfl ?_
    refine am_q32 (v := some (.int 0)) (S1 := S) (as := [.ref 39, .int a]) (la := [some (.ref 39), some (.int a)]) (rest := []) hi_269_2 (Nat.le_of_ble_eq_true rfl) (Nat.le_of_ble_eq_true rfl) (show 2 ≤ am_P0.2.2.1 270 from by decide +kernel) rfl (am_recv_ok o39) rfl rfl ?_ ?_
    · refine am_q1 (v := a) hi_270_0 rfl ?_
      refine am_q12f hi_270_1 (am_cF (m := a.toInt) (n := (0 : Int)) rfl (by decide) (by simp only [am_cI]; omega)) ?_
      refine am_q1 (v := a) hi_270_4 rfl ?_
      refine am_q2 (v := 39) hi_270_5 rfl ?_
      refine am_q20 (v := .int 1) hi_270_6 o39 rfl ?_
      refine am_q13t hi_270_9 (am_cT (m := a.toInt) (n := (1 : Int)) rfl (by decide) (by simp only [am_cI]; omega)) ?_
      refine am_q0 hi_270_16 ?_
      exact am_q36 hi_270_17 (by decide)
    show am_R _ _ _ _ [some (.ref 39), some (.int a), some (.int b)] [.int 0] _ _ _
    refine am_q12f hi_269_5 (by decide) ?_
    refine am_q0 hi_269_8 ?_
    exact am_q33 hi_269_9
theorem pw_function {sc : Nat × (Nat → Int32)} {S : am_S} (F : am_F0 S) (a b : Int32) : ∃ (v : Int32) (S1 S2 : am_S) (fs : List Value), am_R (am_PP sc) 59 158 0 [some (.ref 0), some (.int a), some (.int b), none] [] S (some (some (.int v))) S1 ∧ am_R (am_PP sc) 59 269 0 [some (.ref 39), some (.int a), some (.int b)] [] S1 (some (some (.int v))) S2 ∧ S2.2 = S.2 ∧ am_fs S1 39 = some (11, fs) := by
  by_cases h : a.toInt < 0
  · exact pw_function_0 F (by omega)
  · by_cases h : a.toInt < 1
    · by_cases h : b.toInt < 0
      · obtain rfl : a = 0 := Int32.toInt_inj.mp (by have e : (0 : Int32).toInt = 0 := (by decide); omega)
        exact pw_function_1 F (by omega)
      · by_cases h : b.toInt < 1
        · obtain rfl : a = 0 := Int32.toInt_inj.mp (by have e : (0 : Int32).toInt = 0 := (by decide); omega)
          obtain rfl : b = 0 := Int32.toInt_inj.mp (by have e : (0 : Int32).toInt = 0 := (by decide); omega)
          exact pw_function_2 F
        · by_cases h : b.toInt < 2
          · obtain rfl : a = 0 := Int32.toInt_inj.mp (by have e : (0 : Int32).toInt = 0 := (by decide); omega)
            obtain rfl : b = 1 := Int32.toInt_inj.mp (by have e : (1 : Int32).toInt = 1 := (by decide); omega)
            exact pw_function_3 F
          · by_cases h : b.toInt < 3
            · obtain rfl : a = 0 := Int32.toInt_inj.mp (by have e : (0 : Int32).toInt = 0 := (by decide); omega)
              obtain rfl : b = 2 := Int32.toInt_inj.mp (by have e : (2 : Int32).toInt = 2 := (by decide); omega)
              exact pw_function_4 F
            · by_cases h : b.toInt < 4
              · obtain rfl : a = 0 := Int32.toInt_inj.mp (by have e : (0 : Int32).toInt = 0 := (by decide); omega)
                obtain rfl : b = 3 := Int32.toInt_inj.mp (by have e : (3 : Int32).toInt = 3 := (by decide); omega)
                exact pw_function_5 F
              · by_cases h : b.toInt < 5
                · obtain rfl : a = 0 := Int32.toInt_inj.mp (by have e : (0 : Int32).toInt = 0 := (by decide); omega)
                  obtain rfl : b = 4 := Int32.toInt_inj.mp (by have e : (4 : Int32).toInt = 4 := (by decide); omega)
                  exact pw_function_6 F
                · by_cases h : b.toInt < 6
                  · obtain rfl : a = 0 := Int32.toInt_inj.mp (by have e : (0 : Int32).toInt = 0 := (by decide); omega)
                    obtain rfl : b = 5 := Int32.toInt_inj.mp (by have e : (5 : Int32).toInt = 5 := (by decide); omega)
                    exact pw_function_7 F
                  · by_cases h : b.toInt < 7
                    · obtain rfl : a = 0 := Int32.toInt_inj.mp (by have e : (0 : Int32).toInt = 0 := (by decide); omega)
                      obtain rfl : b = 6 := Int32.toInt_inj.mp (by have e : (6 : Int32).toInt = 6 := (by decide); omega)
                      exact pw_function_8 F
                    · by_cases h : b.toInt < 8
                      · obtain rfl : a = 0 := Int32.toInt_inj.mp (by have e : (0 : Int32).toInt = 0 := (by decide); omega)
                        obtain rfl : b = 7 := Int32.toInt_inj.mp (by have e : (7 : Int32).toInt = 7 := (by decide); omega)
                        exact pw_function_9 F
                      · obtain rfl : a = 0 := Int32.toInt_inj.mp (by have e : (0 : Int32).toInt = 0 := (by decide); omega)
                        exact pw_function_10 F (by omega)
    · exact pw_function_11 F (by omega)
