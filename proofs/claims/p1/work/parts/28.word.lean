/-! word ON A NEW OBJECT: every path, class and reference (printed by wip/p1/gen26.py) -/
set_option maxRecDepth 10000 in
theorem pw_word_0 {sc : Nat × (Nat → Int32)} {S : am_S} {a : Int32} {b : Int32} (F : am_F0 S) (ahi : a.toInt ≤ 0) : ∃ (v : Int32) (S1 S2 : am_S) (fs : List Value), am_R (am_PP sc) 59 33 0 [some (.ref 0), some (.int a), some (.int b)] [] S (some (some (.int v))) S1 ∧ am_R (am_PP sc) 59 174 0 [some (.ref 39), some (.int a), some (.int b), none] [] S1 (some (some (.int v))) S2 ∧ S2.2 = S.2 ∧ am_fs S1 39 = some (11, fs) := by
  obtain ⟨⟨e35_0, e35_1, e35_2, e35_3, e75_0, e76_0, e77_0, e78_0, e79_0, e80_0⟩, ⟨e81_0, e82_0, e87_0, e89_0, e90_0, e91_0, e92_0, e93_0, g38, h38_0⟩, ⟨o0, o2, o3, o32, o33, o34, o36, o39, o5, o6⟩, ⟨q35, q4, q40, q41, q75, q76, q77, q78, q79, q80⟩, ⟨q81, q82, q87, q89, q90, q91, q92, q93⟩⟩ := F
  refine ⟨(-1), S, S, _, ?_, ?_, rfl, o39⟩
  · refine am_q1 (v := a) hi_33_0 rfl ?_
    refine am_q32 (v := some (.int 0)) (S1 := S) (as := [.int a]) (la := [some (.int a)]) (rest := []) hi_33_1 (Nat.le_of_ble_eq_true rfl) (Nat.le_of_ble_eq_true rfl) (show 1 ≤ am_P0.2.2.1 34 from by decide +kernel) rfl rfl rfl rfl ?_ ?_
    · refine am_q1 (v := a) hi_34_0 rfl ?_
      refine am_q0 hi_34_1 ?_
      refine am_q13t hi_34_2 (am_cT (m := a.toInt) (n := (1 : Int)) rfl (by decide) (by simp only [am_cI]; omega)) ?_
      refine am_q1 (v := a) hi_34_10 rfl ?_
      refine am_q0 hi_34_11 ?_
      refine am_q13t hi_34_13 (am_cT (m := a.toInt) (n := (10 : Int)) rfl (by decide) (by simp only [am_cI]; omega)) ?_
      refine am_q1 (v := a) hi_34_22 rfl ?_
      refine am_q0 hi_34_23 ?_
      refine am_q13t hi_34_25 (am_cT (m := a.toInt) (n := (40 : Int)) rfl (by decide) (by simp only [am_cI]; omega)) ?_
      refine am_q0 hi_34_38 ?_
      exact am_q36 hi_34_39 (by decide)
    show am_R _ _ _ _ [some (.ref 0), some (.int a), some (.int b)] [.int 0] _ _ _
    refine am_q12f hi_33_4 (by decide) ?_
    refine am_q0 hi_33_7 ?_
    exact am_q33 hi_33_8
  · refine am_q1 (v := a) hi_174_0 rfl ?_
    refine am_q0 hi_174_1 ?_
    refine am_q13t hi_174_2 (am_cT (m := a.toInt) (n := (1 : Int)) rfl (by decide) (by simp only [am_cI]; omega)) ?_
    refine am_q1 (v := a) hi_174_10 rfl ?_
    refine am_q0 hi_174_11 ?_
    refine am_q13t hi_174_13 (am_cT (m := a.toInt) (n := (10 : Int)) rfl (by decide) (by simp only [am_cI]; omega)) ?_
    refine am_q1 (v := a) hi_174_22 rfl ?_
    refine am_q0 hi_174_23 ?_
    refine am_q13t hi_174_25 (am_cT (m := a.toInt) (n := (40 : Int)) rfl (by decide) (by simp only [am_cI]; omega)) ?_
    refine am_q0 hi_174_38 ?_
    refine am_q3 (ls' := [some (.ref 39), some (.int a), some (.int b), some (.int 0)]) hi_174_39 (Nat.le_of_ble_eq_true rfl) rfl ?_
    refine am_q1 (v := 0) hi_174_40 rfl ?_
    refine am_q12f hi_174_41 (by decide) ?_
    refine am_q0 hi_174_44 ?_
    exact am_q33 hi_174_45
def am_w_word_1_0 (S : am_S) (a b : Int32) : am_S := (S.1.set 4 (.inl (false, 32, upd (am_arf S 4) 0 a)), S.2.1, S.2.2)
def am_w_word_1_1 (S : am_S) (a b : Int32) : am_S := ((am_w_word_1_0 S a b).1.set 4 (.inl (false, 32, upd (am_arf (am_w_word_1_0 S a b) 4) 1 b)), (am_w_word_1_0 S a b).2.1, (am_w_word_1_0 S a b).2.2)
def am_w_word_1_2 (S : am_S) (a b : Int32) : am_S := ((am_w_word_1_1 S a b).1.set 4 (.inl (false, 32, upd (am_arf (am_w_word_1_1 S a b) 4) 2 0)), (am_w_word_1_1 S a b).2.1, (am_w_word_1_1 S a b).2.2)
def am_w_word_1_3 (S : am_S) (a b : Int32) : am_S := ((am_w_word_1_2 S a b).1.set 4 (.inl (false, 32, upd (am_arf (am_w_word_1_2 S a b) 4) 3 0)), (am_w_word_1_2 S a b).2.1, (am_w_word_1_2 S a b).2.2)
def am_w_word_1_4 (S : am_S) (a b : Int32) : am_S := ((am_w_word_1_3 S a b).1.set 3 (.inr (.inr (3, [.ref 4, .int 1]))), (am_w_word_1_3 S a b).2.1, (am_w_word_1_3 S a b).2.2)
def am_w_word_1_5 (S : am_S) (a b : Int32) : am_S := ((am_w_word_1_4 S a b).1.set 40 (.inl (false, 16384, upd (am_arf (am_w_word_1_4 S a b) 40) 0 a)), (am_w_word_1_4 S a b).2.1, (am_w_word_1_4 S a b).2.2)
def am_w_word_1_6 (S : am_S) (a b : Int32) : am_S := ((am_w_word_1_5 S a b).1.set 41 (.inl (false, 16384, upd (am_arf (am_w_word_1_5 S a b) 41) 0 b)), (am_w_word_1_5 S a b).2.1, (am_w_word_1_5 S a b).2.2)
def am_w_word_1_7 (S : am_S) (a b : Int32) : am_S := ((am_w_word_1_6 S a b).1.set 39 (.inr (.inr (11, [.int 1, .ref 40, .ref 41, .int 0, .int 0, .int 0, .int 0, .int 0, .int 0, .int 0, .int 0, .ref 42, .ref 43, .ref 44, .ref 45, .int 0, .ref 46, .ref 47, .ref 48, .int 0, .int 0, .ref 49, .ref 50, .ref 51, .int 0, .ref 52, .ref 53, .ref 54, .ref 55, .ref 56, .ref 57, .int 0, .int 0, .ref 58, .ref 59, .ref 60, .ref 61, .int 0, .ref 62, .ref 63, .ref 64, .ref 65, .ref 66, .ref 67, .int 0, .ref 68, .ref 69, .ref 70, .int 0, .ref 71, .ref 72, .ref 73, .ref 74, .int 1, .ref 75, .ref 76, .ref 77, .ref 78, .ref 79, .ref 80, .ref 81, .ref 82, .int 0, .ref 83, .ref 84, .ref 85, .ref 86, .ref 87, .int 1, .ref 88, .ref 89, .ref 90, .ref 91, .ref 92, .ref 93, .int 0, .int 0]))), (am_w_word_1_6 S a b).2.1, (am_w_word_1_6 S a b).2.2)
set_option maxRecDepth 10000 in
theorem pw_word_1 {sc : Nat × (Nat → Int32)} {S : am_S} {a : Int32} {b : Int32} (F : am_F0 S) (alo : 1 ≤ a.toInt) (ahi : a.toInt ≤ 3) : ∃ (v : Int32) (S1 S2 : am_S) (fs : List Value), am_R (am_PP sc) 59 33 0 [some (.ref 0), some (.int a), some (.int b)] [] S (some (some (.int v))) S1 ∧ am_R (am_PP sc) 59 174 0 [some (.ref 39), some (.int a), some (.int b), none] [] S1 (some (some (.int v))) S2 ∧ S2.2 = S.2 ∧ am_fs S1 39 = some (11, fs) := by
  obtain ⟨⟨e35_0, e35_1, e35_2, e35_3, e75_0, e76_0, e77_0, e78_0, e79_0, e80_0⟩, ⟨e81_0, e82_0, e87_0, e89_0, e90_0, e91_0, e92_0, e93_0, g38, h38_0⟩, ⟨o0, o2, o3, o32, o33, o34, o36, o39, o5, o6⟩, ⟨q35, q4, q40, q41, q75, q76, q77, q78, q79, q80⟩, ⟨q81, q82, q87, q89, q90, q91, q92, q93⟩⟩ := F
  refine ⟨1, (am_w_word_1_4 S a b), (am_w_word_1_7 S a b), _, ?_, ?_, rfl, (am_fs_ne (by decide) (am_fs_ne (by decide) (am_fs_ne (by decide) (am_fs_ne (by decide) (am_fs_ne (by decide) o39)))))⟩
  · refine am_q1 (v := a) hi_33_0 rfl ?_
    refine am_q32 (v := some (.int 1)) (S1 := S) (as := [.int a]) (la := [some (.int a)]) (rest := []) hi_33_1 (Nat.le_of_ble_eq_true rfl) (Nat.le_of_ble_eq_true rfl) (show 1 ≤ am_P0.2.2.1 34 from by decide +kernel) rfl rfl rfl rfl ?_ ?_
    · refine am_q1 (v := a) hi_34_0 rfl ?_
      refine am_q0 hi_34_1 ?_
      refine am_q13f hi_34_2 (am_cF (m := a.toInt) (n := (1 : Int)) rfl (by decide) (by simp only [am_cI]; omega)) ?_
      refine am_q1 (v := a) hi_34_5 rfl ?_
      refine am_q0 hi_34_6 ?_
      refine am_q13t hi_34_7 (am_cT (m := a.toInt) (n := (3 : Int)) rfl (by decide) (by simp only [am_cI]; omega)) ?_
      refine am_q0 hi_34_34 ?_
      refine am_q18 hi_34_35 ?_
      exact am_q36 hi_34_39 (by decide)
    show am_R _ _ _ _ [some (.ref 0), some (.int a), some (.int b)] [.int 1] _ _ _
    refine am_q12t hi_33_4 (by decide) ?_
    refine am_q2 (v := 0) hi_33_9 rfl ?_
    refine am_q20 (v := .ref 2) hi_33_10 o0 rfl ?_
    refine am_q32 (v := some (.int 0)) (S1 := S) (as := [.ref 2]) (la := [some (.ref 2)]) (rest := []) hi_33_13 (Nat.le_of_ble_eq_true rfl) (Nat.le_of_ble_eq_true rfl) (show 1 ≤ am_P0.2.2.1 35 from by decide +kernel) rfl (am_recv_ok o2) rfl rfl ?_ ?_
    · refine am_q2 (v := 2) hi_35_0 rfl ?_
      refine am_q20 (v := .ref 3) hi_35_1 o2 rfl ?_
      refine am_q32 (v := some (.int 0)) (S1 := S) (as := [.ref 3]) (la := [some (.ref 3)]) (rest := []) hi_35_4 (Nat.le_of_ble_eq_true rfl) (Nat.le_of_ble_eq_true rfl) (show 1 ≤ am_P0.2.2.1 36 from by decide +kernel) rfl (am_recv_ok o3) rfl rfl ?_ ?_
      · refine am_q2 (v := 3) hi_36_0 rfl ?_
        refine am_q20 (v := .int 0) hi_36_1 o3 rfl ?_
        exact am_q33 hi_36_4
      show am_R _ _ _ _ [some (.ref 2)] [.int 0] _ _ _
      exact am_q33 hi_35_7
    show am_R _ _ _ _ [some (.ref 0), some (.int a), some (.int b)] [.int 0] _ _ _
    refine am_q0 hi_33_16 ?_
    refine am_q13t hi_33_19 (by decide) ?_
    refine am_q2 (v := 0) hi_33_25 rfl ?_
    refine am_q20 (v := .ref 2) hi_33_26 o0 rfl ?_
    refine am_q1 (v := a) hi_33_29 rfl ?_
    refine am_q1 (v := b) hi_33_30 rfl ?_
    refine am_q32 (v := some (.int 1)) (S1 := (am_w_word_1_4 S a b)) (as := [.ref 2, .int a, .int b]) (la := [some (.ref 2), some (.int a), some (.int b)]) (rest := []) hi_33_31 (Nat.le_of_ble_eq_true rfl) (Nat.le_of_ble_eq_true rfl) (show 3 ≤ am_P0.2.2.1 37 from by decide +kernel) rfl (am_recv_ok o2) rfl rfl ?_ ?_
    · refine am_q2 (v := 2) hi_37_0 rfl ?_
      refine am_q20 (v := .ref 3) hi_37_1 o2 rfl ?_
      refine am_q1 (v := a) hi_37_4 rfl ?_
      refine am_q1 (v := b) hi_37_5 rfl ?_
      refine am_q0 hi_37_6 ?_
      refine am_q0 hi_37_7 ?_
      refine am_q32 (v := some (.int 0)) (S1 := (am_w_word_1_4 S a b)) (as := [.ref 3, .int a, .int b, .int 0, .int 0]) (la := [some (.ref 3), some (.int a), some (.int b), some (.int 0), some (.int 0), none]) (rest := []) hi_37_8 (Nat.le_of_ble_eq_true rfl) (Nat.le_of_ble_eq_true rfl) (show 5 ≤ am_P0.2.2.1 31 from by decide +kernel) rfl (am_recv_ok o3) rfl rfl ?_ ?_
      · refine am_q2 (v := 3) hi_31_0 rfl ?_
        refine am_q20 (v := .int 0) hi_31_1 o3 rfl ?_
        refine am_q0 hi_31_4 ?_
        refine am_q10 (z := 0) hi_31_5 (by decide) ?_
        refine am_q3 (ls' := [some (.ref 3), some (.int a), some (.int b), some (.int 0), some (.int 0), some (.int 0)]) hi_31_6 (Nat.le_of_ble_eq_true rfl) rfl ?_
        refine am_q1 (v := 0) hi_31_8 rfl ?_
        refine am_q0 hi_31_10 ?_
        refine am_q10 (z := 4) hi_31_11 (by decide) ?_
        refine am_q2 (v := 3) hi_31_12 rfl ?_
        refine am_q20 (v := .ref 4) hi_31_13 o3 rfl ?_
        refine am_q24 (z := 32) hi_31_16 q4 (by decide) ?_
        refine am_q13t hi_31_17 (by decide) ?_
        refine am_q2 (v := 3) hi_31_52 rfl ?_
        refine am_q20 (v := .ref 4) hi_31_53 o3 rfl ?_
        refine am_q1 (v := 0) hi_31_56 rfl ?_
        refine am_q1 (v := a) hi_31_58 rfl ?_
        refine am_q26 (j := 0) hi_31_59 q4 (by decide) (by decide) (by decide) (by decide) (fun h => nomatch h) ?_
        show am_R _ _ _ _ [some (.ref 3), some (.int a), some (.int b), some (.int 0), some (.int 0), some (.int 0)] [] (am_w_word_1_0 S a b) _ _
        refine am_q2 (v := 3) hi_31_60 rfl ?_
        refine am_q20 (v := .ref 4) hi_31_61 (am_fs_ne (by decide) o3) rfl ?_
        refine am_q1 (v := 0) hi_31_64 rfl ?_
        refine am_q0 hi_31_66 ?_
        refine am_q10 (z := 1) hi_31_67 (by decide) ?_
        refine am_q1 (v := b) hi_31_68 rfl ?_
        refine am_q26 (j := 1) hi_31_69 (am_arq_eq q4) (by decide) (by decide) (by decide) (by decide) (fun h => nomatch h) ?_
        show am_R _ _ _ _ [some (.ref 3), some (.int a), some (.int b), some (.int 0), some (.int 0), some (.int 0)] [] (am_w_word_1_1 S a b) _ _
        refine am_q2 (v := 3) hi_31_70 rfl ?_
        refine am_q20 (v := .ref 4) hi_31_71 (am_fs_ne (by decide) (am_fs_ne (by decide) o3)) rfl ?_
        refine am_q1 (v := 0) hi_31_74 rfl ?_
        refine am_q0 hi_31_76 ?_
        refine am_q10 (z := 2) hi_31_77 (by decide) ?_
        refine am_q1 (v := 0) hi_31_78 rfl ?_
        refine am_q26 (j := 2) hi_31_79 (am_arq_eq (am_arq_eq q4)) (by decide) (by decide) (by decide) (by decide) (fun h => nomatch h) ?_
        show am_R _ _ _ _ [some (.ref 3), some (.int a), some (.int b), some (.int 0), some (.int 0), some (.int 0)] [] (am_w_word_1_2 S a b) _ _
        refine am_q2 (v := 3) hi_31_80 rfl ?_
        refine am_q20 (v := .ref 4) hi_31_81 (am_fs_ne (by decide) (am_fs_ne (by decide) (am_fs_ne (by decide) o3))) rfl ?_
        refine am_q1 (v := 0) hi_31_84 rfl ?_
        refine am_q0 hi_31_86 ?_
        refine am_q10 (z := 3) hi_31_87 (by decide) ?_
        refine am_q1 (v := 0) hi_31_88 rfl ?_
        refine am_q26 (j := 3) hi_31_90 (am_arq_eq (am_arq_eq (am_arq_eq q4))) (by decide) (by decide) (by decide) (by decide) (fun h => nomatch h) ?_
        show am_R _ _ _ _ [some (.ref 3), some (.int a), some (.int b), some (.int 0), some (.int 0), some (.int 0)] [] (am_w_word_1_3 S a b) _ _
        refine am_q2 (v := 3) hi_31_91 rfl ?_
        refine am_q7 hi_31_92 ?_
        refine am_q20 (v := .int 0) hi_31_93 (am_fs_ne (by decide) (am_fs_ne (by decide) (am_fs_ne (by decide) (am_fs_ne (by decide) o3)))) rfl ?_
        refine am_q0 hi_31_96 ?_
        refine am_q10 (z := 1) hi_31_97 (by decide) ?_
        refine am_q21 (fs' := [.ref 4, .int 1]) hi_31_98 (am_fs_ne (by decide) (am_fs_ne (by decide) (am_fs_ne (by decide) (am_fs_ne (by decide) o3)))) (Nat.le_of_ble_eq_true rfl) rfl rfl ?_
        show am_R _ _ _ _ [some (.ref 3), some (.int a), some (.int b), some (.int 0), some (.int 0), some (.int 0)] [] (am_w_word_1_4 S a b) _ _
        refine am_q2 (v := 3) hi_31_101 rfl ?_
        refine am_q20 (v := .int 1) hi_31_102 (am_fs_eq (am_fs_ne (by decide) (am_fs_ne (by decide) (am_fs_ne (by decide) (am_fs_ne (by decide) o3))))) rfl ?_
        refine am_q0 hi_31_105 ?_
        refine am_q10 (z := 0) hi_31_106 (by decide) ?_
        exact am_q33 hi_31_107
      show am_R _ _ _ _ [some (.ref 2), some (.int a), some (.int b)] [.int 0] _ _ _
      refine am_q6i hi_37_11 ?_
      refine am_q2 (v := 2) hi_37_12 rfl ?_
      refine am_q20 (v := .ref 3) hi_37_13 (am_fs_ne (by decide) (am_fs_ne (by decide) (am_fs_ne (by decide) (am_fs_ne (by decide) (am_fs_ne (by decide) o2))))) rfl ?_
      refine am_q32 (v := some (.int 1)) (S1 := (am_w_word_1_4 S a b)) (as := [.ref 3]) (la := [some (.ref 3)]) (rest := []) hi_37_16 (Nat.le_of_ble_eq_true rfl) (Nat.le_of_ble_eq_true rfl) (show 1 ≤ am_P0.2.2.1 36 from by decide +kernel) rfl (am_recv_ok (am_fs_eq (am_fs_ne (by decide) (am_fs_ne (by decide) (am_fs_ne (by decide) (am_fs_ne (by decide) o3)))))) rfl rfl ?_ ?_
      · refine am_q2 (v := 3) hi_36_0 rfl ?_
        refine am_q20 (v := .int 1) hi_36_1 (am_fs_eq (am_fs_ne (by decide) (am_fs_ne (by decide) (am_fs_ne (by decide) (am_fs_ne (by decide) o3))))) rfl ?_
        exact am_q33 hi_36_4
      show am_R _ _ _ _ [some (.ref 2), some (.int a), some (.int b)] [.int 1] _ _ _
      exact am_q33 hi_37_19
    show am_R _ _ _ _ [some (.ref 0), some (.int a), some (.int b)] [.int 1] _ _ _
    exact am_q33 hi_33_34
  · refine am_q1 (v := a) hi_174_0 rfl ?_
    refine am_q0 hi_174_1 ?_
    refine am_q13f hi_174_2 (am_cF (m := a.toInt) (n := (1 : Int)) rfl (by decide) (by simp only [am_cI]; omega)) ?_
    refine am_q1 (v := a) hi_174_5 rfl ?_
    refine am_q0 hi_174_6 ?_
    refine am_q13t hi_174_7 (am_cT (m := a.toInt) (n := (3 : Int)) rfl (by decide) (by simp only [am_cI]; omega)) ?_
    refine am_q0 hi_174_34 ?_
    refine am_q18 hi_174_35 ?_
    refine am_q3 (ls' := [some (.ref 39), some (.int a), some (.int b), some (.int 1)]) hi_174_39 (Nat.le_of_ble_eq_true rfl) rfl ?_
    refine am_q1 (v := 1) hi_174_40 rfl ?_
    refine am_q12t hi_174_41 (by decide) ?_
    refine am_q2 (v := 39) hi_174_46 rfl ?_
    refine am_q20 (v := .int 0) hi_174_47 (am_fs_ne (by decide) (am_fs_ne (by decide) (am_fs_ne (by decide) (am_fs_ne (by decide) (am_fs_ne (by decide) o39))))) rfl ?_
    refine am_q0 hi_174_50 ?_
    refine am_q13t hi_174_53 (by decide) ?_
    refine am_q2 (v := 39) hi_174_59 rfl ?_
    refine am_q20 (v := .ref 40) hi_174_60 (am_fs_ne (by decide) (am_fs_ne (by decide) (am_fs_ne (by decide) (am_fs_ne (by decide) (am_fs_ne (by decide) o39))))) rfl ?_
    refine am_q2 (v := 39) hi_174_63 rfl ?_
    refine am_q20 (v := .int 0) hi_174_64 (am_fs_ne (by decide) (am_fs_ne (by decide) (am_fs_ne (by decide) (am_fs_ne (by decide) (am_fs_ne (by decide) o39))))) rfl ?_
    refine am_q1 (v := a) hi_174_67 rfl ?_
    refine am_q26 (j := 0) hi_174_68 (am_arq_ne (by decide) (am_arq_ne (by decide) (am_arq_ne (by decide) (am_arq_ne (by decide) (am_arq_ne (by decide) q40))))) (by decide) (by decide) (by decide) (by decide) (fun h => nomatch h) ?_
    show am_R _ _ _ _ [some (.ref 39), some (.int a), some (.int b), some (.int 1)] [] (am_w_word_1_5 S a b) _ _
    refine am_q2 (v := 39) hi_174_69 rfl ?_
    refine am_q20 (v := .ref 41) hi_174_70 (am_fs_ne (by decide) (am_fs_ne (by decide) (am_fs_ne (by decide) (am_fs_ne (by decide) (am_fs_ne (by decide) (am_fs_ne (by decide) o39)))))) rfl ?_
    refine am_q2 (v := 39) hi_174_73 rfl ?_
    refine am_q20 (v := .int 0) hi_174_74 (am_fs_ne (by decide) (am_fs_ne (by decide) (am_fs_ne (by decide) (am_fs_ne (by decide) (am_fs_ne (by decide) (am_fs_ne (by decide) o39)))))) rfl ?_
    refine am_q1 (v := b) hi_174_77 rfl ?_
    refine am_q26 (j := 0) hi_174_78 (am_arq_ne (by decide) (am_arq_ne (by decide) (am_arq_ne (by decide) (am_arq_ne (by decide) (am_arq_ne (by decide) (am_arq_ne (by decide) q41)))))) (by decide) (by decide) (by decide) (by decide) (fun h => nomatch h) ?_
    show am_R _ _ _ _ [some (.ref 39), some (.int a), some (.int b), some (.int 1)] [] (am_w_word_1_6 S a b) _ _
    refine am_q2 (v := 39) hi_174_79 rfl ?_
    refine am_q7 hi_174_80 ?_
    refine am_q20 (v := .int 0) hi_174_81 (am_fs_ne (by decide) (am_fs_ne (by decide) (am_fs_ne (by decide) (am_fs_ne (by decide) (am_fs_ne (by decide) (am_fs_ne (by decide) (am_fs_ne (by decide) o39))))))) rfl ?_
    refine am_q0 hi_174_84 ?_
    refine am_q10 (z := 1) hi_174_85 (by decide) ?_
    refine am_q21 (fs' := [.int 1, .ref 40, .ref 41, .int 0, .int 0, .int 0, .int 0, .int 0, .int 0, .int 0, .int 0, .ref 42, .ref 43, .ref 44, .ref 45, .int 0, .ref 46, .ref 47, .ref 48, .int 0, .int 0, .ref 49, .ref 50, .ref 51, .int 0, .ref 52, .ref 53, .ref 54, .ref 55, .ref 56, .ref 57, .int 0, .int 0, .ref 58, .ref 59, .ref 60, .ref 61, .int 0, .ref 62, .ref 63, .ref 64, .ref 65, .ref 66, .ref 67, .int 0, .ref 68, .ref 69, .ref 70, .int 0, .ref 71, .ref 72, .ref 73, .ref 74, .int 1, .ref 75, .ref 76, .ref 77, .ref 78, .ref 79, .ref 80, .ref 81, .ref 82, .int 0, .ref 83, .ref 84, .ref 85, .ref 86, .ref 87, .int 1, .ref 88, .ref 89, .ref 90, .ref 91, .ref 92, .ref 93, .int 0, .int 0]) hi_174_86 (am_fs_ne (by decide) (am_fs_ne (by decide) (am_fs_ne (by decide) (am_fs_ne (by decide) (am_fs_ne (by decide) (am_fs_ne (by decide) (am_fs_ne (by decide) o39))))))) (Nat.le_of_ble_eq_true rfl) rfl rfl ?_
    show am_R _ _ _ _ [some (.ref 39), some (.int a), some (.int b), some (.int 1)] [] (am_w_word_1_7 S a b) _ _
    refine am_q2 (v := 39) hi_174_89 rfl ?_
    refine am_q20 (v := .int 1) hi_174_90 (am_fs_eq (am_fs_ne (by decide) (am_fs_ne (by decide) (am_fs_ne (by decide) (am_fs_ne (by decide) (am_fs_ne (by decide) (am_fs_ne (by decide) (am_fs_ne (by decide) o39)))))))) rfl ?_
    exact am_q33 hi_174_93
set_option maxRecDepth 10000 in
theorem pw_word_2 {sc : Nat × (Nat → Int32)} {S : am_S} {a : Int32} {b : Int32} (F : am_F0 S) (alo : 4 ≤ a.toInt) (ahi : a.toInt ≤ 9) : ∃ (v : Int32) (S1 S2 : am_S) (fs : List Value), am_R (am_PP sc) 59 33 0 [some (.ref 0), some (.int a), some (.int b)] [] S (some (some (.int v))) S1 ∧ am_R (am_PP sc) 59 174 0 [some (.ref 39), some (.int a), some (.int b), none] [] S1 (some (some (.int v))) S2 ∧ S2.2 = S.2 ∧ am_fs S1 39 = some (11, fs) := by
  obtain ⟨⟨e35_0, e35_1, e35_2, e35_3, e75_0, e76_0, e77_0, e78_0, e79_0, e80_0⟩, ⟨e81_0, e82_0, e87_0, e89_0, e90_0, e91_0, e92_0, e93_0, g38, h38_0⟩, ⟨o0, o2, o3, o32, o33, o34, o36, o39, o5, o6⟩, ⟨q35, q4, q40, q41, q75, q76, q77, q78, q79, q80⟩, ⟨q81, q82, q87, q89, q90, q91, q92, q93⟩⟩ := F
  refine ⟨(-1), S, S, _, ?_, ?_, rfl, o39⟩
  · refine am_q1 (v := a) hi_33_0 rfl ?_
    refine am_q32 (v := some (.int 0)) (S1 := S) (as := [.int a]) (la := [some (.int a)]) (rest := []) hi_33_1 (Nat.le_of_ble_eq_true rfl) (Nat.le_of_ble_eq_true rfl) (show 1 ≤ am_P0.2.2.1 34 from by decide +kernel) rfl rfl rfl rfl ?_ ?_
    · refine am_q1 (v := a) hi_34_0 rfl ?_
      refine am_q0 hi_34_1 ?_
      refine am_q13f hi_34_2 (am_cF (m := a.toInt) (n := (1 : Int)) rfl (by decide) (by simp only [am_cI]; omega)) ?_
      refine am_q1 (v := a) hi_34_5 rfl ?_
      refine am_q0 hi_34_6 ?_
      refine am_q13f hi_34_7 (am_cF (m := a.toInt) (n := (3 : Int)) rfl (by decide) (by simp only [am_cI]; omega)) ?_
      refine am_q1 (v := a) hi_34_10 rfl ?_
      refine am_q0 hi_34_11 ?_
      refine am_q13t hi_34_13 (am_cT (m := a.toInt) (n := (10 : Int)) rfl (by decide) (by simp only [am_cI]; omega)) ?_
      refine am_q1 (v := a) hi_34_22 rfl ?_
      refine am_q0 hi_34_23 ?_
      refine am_q13t hi_34_25 (am_cT (m := a.toInt) (n := (40 : Int)) rfl (by decide) (by simp only [am_cI]; omega)) ?_
      refine am_q0 hi_34_38 ?_
      exact am_q36 hi_34_39 (by decide)
    show am_R _ _ _ _ [some (.ref 0), some (.int a), some (.int b)] [.int 0] _ _ _
    refine am_q12f hi_33_4 (by decide) ?_
    refine am_q0 hi_33_7 ?_
    exact am_q33 hi_33_8
  · refine am_q1 (v := a) hi_174_0 rfl ?_
    refine am_q0 hi_174_1 ?_
    refine am_q13f hi_174_2 (am_cF (m := a.toInt) (n := (1 : Int)) rfl (by decide) (by simp only [am_cI]; omega)) ?_
    refine am_q1 (v := a) hi_174_5 rfl ?_
    refine am_q0 hi_174_6 ?_
    refine am_q13f hi_174_7 (am_cF (m := a.toInt) (n := (3 : Int)) rfl (by decide) (by simp only [am_cI]; omega)) ?_
    refine am_q1 (v := a) hi_174_10 rfl ?_
    refine am_q0 hi_174_11 ?_
    refine am_q13t hi_174_13 (am_cT (m := a.toInt) (n := (10 : Int)) rfl (by decide) (by simp only [am_cI]; omega)) ?_
    refine am_q1 (v := a) hi_174_22 rfl ?_
    refine am_q0 hi_174_23 ?_
    refine am_q13t hi_174_25 (am_cT (m := a.toInt) (n := (40 : Int)) rfl (by decide) (by simp only [am_cI]; omega)) ?_
    refine am_q0 hi_174_38 ?_
    refine am_q3 (ls' := [some (.ref 39), some (.int a), some (.int b), some (.int 0)]) hi_174_39 (Nat.le_of_ble_eq_true rfl) rfl ?_
    refine am_q1 (v := 0) hi_174_40 rfl ?_
    refine am_q12f hi_174_41 (by decide) ?_
    refine am_q0 hi_174_44 ?_
    exact am_q33 hi_174_45
def am_w_word_3_0 (S : am_S) (a b : Int32) : am_S := (S.1.set 4 (.inl (false, 32, upd (am_arf S 4) 0 a)), S.2.1, S.2.2)
def am_w_word_3_1 (S : am_S) (a b : Int32) : am_S := ((am_w_word_3_0 S a b).1.set 4 (.inl (false, 32, upd (am_arf (am_w_word_3_0 S a b) 4) 1 b)), (am_w_word_3_0 S a b).2.1, (am_w_word_3_0 S a b).2.2)
def am_w_word_3_2 (S : am_S) (a b : Int32) : am_S := ((am_w_word_3_1 S a b).1.set 4 (.inl (false, 32, upd (am_arf (am_w_word_3_1 S a b) 4) 2 0)), (am_w_word_3_1 S a b).2.1, (am_w_word_3_1 S a b).2.2)
def am_w_word_3_3 (S : am_S) (a b : Int32) : am_S := ((am_w_word_3_2 S a b).1.set 4 (.inl (false, 32, upd (am_arf (am_w_word_3_2 S a b) 4) 3 0)), (am_w_word_3_2 S a b).2.1, (am_w_word_3_2 S a b).2.2)
def am_w_word_3_4 (S : am_S) (a b : Int32) : am_S := ((am_w_word_3_3 S a b).1.set 3 (.inr (.inr (3, [.ref 4, .int 1]))), (am_w_word_3_3 S a b).2.1, (am_w_word_3_3 S a b).2.2)
def am_w_word_3_5 (S : am_S) (a b : Int32) : am_S := ((am_w_word_3_4 S a b).1.set 40 (.inl (false, 16384, upd (am_arf (am_w_word_3_4 S a b) 40) 0 a)), (am_w_word_3_4 S a b).2.1, (am_w_word_3_4 S a b).2.2)
def am_w_word_3_6 (S : am_S) (a b : Int32) : am_S := ((am_w_word_3_5 S a b).1.set 41 (.inl (false, 16384, upd (am_arf (am_w_word_3_5 S a b) 41) 0 b)), (am_w_word_3_5 S a b).2.1, (am_w_word_3_5 S a b).2.2)
def am_w_word_3_7 (S : am_S) (a b : Int32) : am_S := ((am_w_word_3_6 S a b).1.set 39 (.inr (.inr (11, [.int 1, .ref 40, .ref 41, .int 0, .int 0, .int 0, .int 0, .int 0, .int 0, .int 0, .int 0, .ref 42, .ref 43, .ref 44, .ref 45, .int 0, .ref 46, .ref 47, .ref 48, .int 0, .int 0, .ref 49, .ref 50, .ref 51, .int 0, .ref 52, .ref 53, .ref 54, .ref 55, .ref 56, .ref 57, .int 0, .int 0, .ref 58, .ref 59, .ref 60, .ref 61, .int 0, .ref 62, .ref 63, .ref 64, .ref 65, .ref 66, .ref 67, .int 0, .ref 68, .ref 69, .ref 70, .int 0, .ref 71, .ref 72, .ref 73, .ref 74, .int 1, .ref 75, .ref 76, .ref 77, .ref 78, .ref 79, .ref 80, .ref 81, .ref 82, .int 0, .ref 83, .ref 84, .ref 85, .ref 86, .ref 87, .int 1, .ref 88, .ref 89, .ref 90, .ref 91, .ref 92, .ref 93, .int 0, .int 0]))), (am_w_word_3_6 S a b).2.1, (am_w_word_3_6 S a b).2.2)
set_option maxRecDepth 10000 in
theorem pw_word_3 {sc : Nat × (Nat → Int32)} {S : am_S} {a : Int32} {b : Int32} (F : am_F0 S) (alo : 10 ≤ a.toInt) (ahi : a.toInt ≤ 31) : ∃ (v : Int32) (S1 S2 : am_S) (fs : List Value), am_R (am_PP sc) 59 33 0 [some (.ref 0), some (.int a), some (.int b)] [] S (some (some (.int v))) S1 ∧ am_R (am_PP sc) 59 174 0 [some (.ref 39), some (.int a), some (.int b), none] [] S1 (some (some (.int v))) S2 ∧ S2.2 = S.2 ∧ am_fs S1 39 = some (11, fs) := by
  obtain ⟨⟨e35_0, e35_1, e35_2, e35_3, e75_0, e76_0, e77_0, e78_0, e79_0, e80_0⟩, ⟨e81_0, e82_0, e87_0, e89_0, e90_0, e91_0, e92_0, e93_0, g38, h38_0⟩, ⟨o0, o2, o3, o32, o33, o34, o36, o39, o5, o6⟩, ⟨q35, q4, q40, q41, q75, q76, q77, q78, q79, q80⟩, ⟨q81, q82, q87, q89, q90, q91, q92, q93⟩⟩ := F
  refine ⟨1, (am_w_word_3_4 S a b), (am_w_word_3_7 S a b), _, ?_, ?_, rfl, (am_fs_ne (by decide) (am_fs_ne (by decide) (am_fs_ne (by decide) (am_fs_ne (by decide) (am_fs_ne (by decide) o39)))))⟩
  · refine am_q1 (v := a) hi_33_0 rfl ?_
    refine am_q32 (v := some (.int 1)) (S1 := S) (as := [.int a]) (la := [some (.int a)]) (rest := []) hi_33_1 (Nat.le_of_ble_eq_true rfl) (Nat.le_of_ble_eq_true rfl) (show 1 ≤ am_P0.2.2.1 34 from by decide +kernel) rfl rfl rfl rfl ?_ ?_
    · refine am_q1 (v := a) hi_34_0 rfl ?_
      refine am_q0 hi_34_1 ?_
      refine am_q13f hi_34_2 (am_cF (m := a.toInt) (n := (1 : Int)) rfl (by decide) (by simp only [am_cI]; omega)) ?_
      refine am_q1 (v := a) hi_34_5 rfl ?_
      refine am_q0 hi_34_6 ?_
      refine am_q13f hi_34_7 (am_cF (m := a.toInt) (n := (3 : Int)) rfl (by decide) (by simp only [am_cI]; omega)) ?_
      refine am_q1 (v := a) hi_34_10 rfl ?_
      refine am_q0 hi_34_11 ?_
      refine am_q13f hi_34_13 (am_cF (m := a.toInt) (n := (10 : Int)) rfl (by decide) (by simp only [am_cI]; omega)) ?_
      refine am_q1 (v := a) hi_34_16 rfl ?_
      refine am_q0 hi_34_17 ?_
      refine am_q13t hi_34_19 (am_cT (m := a.toInt) (n := (31 : Int)) rfl (by decide) (by simp only [am_cI]; omega)) ?_
      refine am_q0 hi_34_34 ?_
      refine am_q18 hi_34_35 ?_
      exact am_q36 hi_34_39 (by decide)
    show am_R _ _ _ _ [some (.ref 0), some (.int a), some (.int b)] [.int 1] _ _ _
    refine am_q12t hi_33_4 (by decide) ?_
    refine am_q2 (v := 0) hi_33_9 rfl ?_
    refine am_q20 (v := .ref 2) hi_33_10 o0 rfl ?_
    refine am_q32 (v := some (.int 0)) (S1 := S) (as := [.ref 2]) (la := [some (.ref 2)]) (rest := []) hi_33_13 (Nat.le_of_ble_eq_true rfl) (Nat.le_of_ble_eq_true rfl) (show 1 ≤ am_P0.2.2.1 35 from by decide +kernel) rfl (am_recv_ok o2) rfl rfl ?_ ?_
    · refine am_q2 (v := 2) hi_35_0 rfl ?_
      refine am_q20 (v := .ref 3) hi_35_1 o2 rfl ?_
      refine am_q32 (v := some (.int 0)) (S1 := S) (as := [.ref 3]) (la := [some (.ref 3)]) (rest := []) hi_35_4 (Nat.le_of_ble_eq_true rfl) (Nat.le_of_ble_eq_true rfl) (show 1 ≤ am_P0.2.2.1 36 from by decide +kernel) rfl (am_recv_ok o3) rfl rfl ?_ ?_
      · refine am_q2 (v := 3) hi_36_0 rfl ?_
        refine am_q20 (v := .int 0) hi_36_1 o3 rfl ?_
        exact am_q33 hi_36_4
      show am_R _ _ _ _ [some (.ref 2)] [.int 0] _ _ _
      exact am_q33 hi_35_7
    show am_R _ _ _ _ [some (.ref 0), some (.int a), some (.int b)] [.int 0] _ _ _
    refine am_q0 hi_33_16 ?_
    refine am_q13t hi_33_19 (by decide) ?_
    refine am_q2 (v := 0) hi_33_25 rfl ?_
    refine am_q20 (v := .ref 2) hi_33_26 o0 rfl ?_
    refine am_q1 (v := a) hi_33_29 rfl ?_
    refine am_q1 (v := b) hi_33_30 rfl ?_
    refine am_q32 (v := some (.int 1)) (S1 := (am_w_word_3_4 S a b)) (as := [.ref 2, .int a, .int b]) (la := [some (.ref 2), some (.int a), some (.int b)]) (rest := []) hi_33_31 (Nat.le_of_ble_eq_true rfl) (Nat.le_of_ble_eq_true rfl) (show 3 ≤ am_P0.2.2.1 37 from by decide +kernel) rfl (am_recv_ok o2) rfl rfl ?_ ?_
    · refine am_q2 (v := 2) hi_37_0 rfl ?_
      refine am_q20 (v := .ref 3) hi_37_1 o2 rfl ?_
      refine am_q1 (v := a) hi_37_4 rfl ?_
      refine am_q1 (v := b) hi_37_5 rfl ?_
      refine am_q0 hi_37_6 ?_
      refine am_q0 hi_37_7 ?_
      refine am_q32 (v := some (.int 0)) (S1 := (am_w_word_3_4 S a b)) (as := [.ref 3, .int a, .int b, .int 0, .int 0]) (la := [some (.ref 3), some (.int a), some (.int b), some (.int 0), some (.int 0), none]) (rest := []) hi_37_8 (Nat.le_of_ble_eq_true rfl) (Nat.le_of_ble_eq_true rfl) (show 5 ≤ am_P0.2.2.1 31 from by decide +kernel) rfl (am_recv_ok o3) rfl rfl ?_ ?_
      · refine am_q2 (v := 3) hi_31_0 rfl ?_
        refine am_q20 (v := .int 0) hi_31_1 o3 rfl ?_
        refine am_q0 hi_31_4 ?_
        refine am_q10 (z := 0) hi_31_5 (by decide) ?_
        refine am_q3 (ls' := [some (.ref 3), some (.int a), some (.int b), some (.int 0), some (.int 0), some (.int 0)]) hi_31_6 (Nat.le_of_ble_eq_true rfl) rfl ?_
        refine am_q1 (v := 0) hi_31_8 rfl ?_
        refine am_q0 hi_31_10 ?_
        refine am_q10 (z := 4) hi_31_11 (by decide) ?_
        refine am_q2 (v := 3) hi_31_12 rfl ?_
        refine am_q20 (v := .ref 4) hi_31_13 o3 rfl ?_
        refine am_q24 (z := 32) hi_31_16 q4 (by decide) ?_
        refine am_q13t hi_31_17 (by decide) ?_
        refine am_q2 (v := 3) hi_31_52 rfl ?_
        refine am_q20 (v := .ref 4) hi_31_53 o3 rfl ?_
        refine am_q1 (v := 0) hi_31_56 rfl ?_
        refine am_q1 (v := a) hi_31_58 rfl ?_
        refine am_q26 (j := 0) hi_31_59 q4 (by decide) (by decide) (by decide) (by decide) (fun h => nomatch h) ?_
        show am_R _ _ _ _ [some (.ref 3), some (.int a), some (.int b), some (.int 0), some (.int 0), some (.int 0)] [] (am_w_word_3_0 S a b) _ _
        refine am_q2 (v := 3) hi_31_60 rfl ?_
        refine am_q20 (v := .ref 4) hi_31_61 (am_fs_ne (by decide) o3) rfl ?_
        refine am_q1 (v := 0) hi_31_64 rfl ?_
        refine am_q0 hi_31_66 ?_
        refine am_q10 (z := 1) hi_31_67 (by decide) ?_
        refine am_q1 (v := b) hi_31_68 rfl ?_
        refine am_q26 (j := 1) hi_31_69 (am_arq_eq q4) (by decide) (by decide) (by decide) (by decide) (fun h => nomatch h) ?_
        show am_R _ _ _ _ [some (.ref 3), some (.int a), some (.int b), some (.int 0), some (.int 0), some (.int 0)] [] (am_w_word_3_1 S a b) _ _
        refine am_q2 (v := 3) hi_31_70 rfl ?_
        refine am_q20 (v := .ref 4) hi_31_71 (am_fs_ne (by decide) (am_fs_ne (by decide) o3)) rfl ?_
        refine am_q1 (v := 0) hi_31_74 rfl ?_
        refine am_q0 hi_31_76 ?_
        refine am_q10 (z := 2) hi_31_77 (by decide) ?_
        refine am_q1 (v := 0) hi_31_78 rfl ?_
        refine am_q26 (j := 2) hi_31_79 (am_arq_eq (am_arq_eq q4)) (by decide) (by decide) (by decide) (by decide) (fun h => nomatch h) ?_
        show am_R _ _ _ _ [some (.ref 3), some (.int a), some (.int b), some (.int 0), some (.int 0), some (.int 0)] [] (am_w_word_3_2 S a b) _ _
        refine am_q2 (v := 3) hi_31_80 rfl ?_
        refine am_q20 (v := .ref 4) hi_31_81 (am_fs_ne (by decide) (am_fs_ne (by decide) (am_fs_ne (by decide) o3))) rfl ?_
        refine am_q1 (v := 0) hi_31_84 rfl ?_
        refine am_q0 hi_31_86 ?_
        refine am_q10 (z := 3) hi_31_87 (by decide) ?_
        refine am_q1 (v := 0) hi_31_88 rfl ?_
        refine am_q26 (j := 3) hi_31_90 (am_arq_eq (am_arq_eq (am_arq_eq q4))) (by decide) (by decide) (by decide) (by decide) (fun h => nomatch h) ?_
        show am_R _ _ _ _ [some (.ref 3), some (.int a), some (.int b), some (.int 0), some (.int 0), some (.int 0)] [] (am_w_word_3_3 S a b) _ _
        refine am_q2 (v := 3) hi_31_91 rfl ?_
        refine am_q7 hi_31_92 ?_
        refine am_q20 (v := .int 0) hi_31_93 (am_fs_ne (by decide) (am_fs_ne (by decide) (am_fs_ne (by decide) (am_fs_ne (by decide) o3)))) rfl ?_
        refine am_q0 hi_31_96 ?_
        refine am_q10 (z := 1) hi_31_97 (by decide) ?_
        refine am_q21 (fs' := [.ref 4, .int 1]) hi_31_98 (am_fs_ne (by decide) (am_fs_ne (by decide) (am_fs_ne (by decide) (am_fs_ne (by decide) o3)))) (Nat.le_of_ble_eq_true rfl) rfl rfl ?_
        show am_R _ _ _ _ [some (.ref 3), some (.int a), some (.int b), some (.int 0), some (.int 0), some (.int 0)] [] (am_w_word_3_4 S a b) _ _
        refine am_q2 (v := 3) hi_31_101 rfl ?_
        refine am_q20 (v := .int 1) hi_31_102 (am_fs_eq (am_fs_ne (by decide) (am_fs_ne (by decide) (am_fs_ne (by decide) (am_fs_ne (by decide) o3))))) rfl ?_
        refine am_q0 hi_31_105 ?_
        refine am_q10 (z := 0) hi_31_106 (by decide) ?_
        exact am_q33 hi_31_107
      show am_R _ _ _ _ [some (.ref 2), some (.int a), some (.int b)] [.int 0] _ _ _
      refine am_q6i hi_37_11 ?_
      refine am_q2 (v := 2) hi_37_12 rfl ?_
      refine am_q20 (v := .ref 3) hi_37_13 (am_fs_ne (by decide) (am_fs_ne (by decide) (am_fs_ne (by decide) (am_fs_ne (by decide) (am_fs_ne (by decide) o2))))) rfl ?_
      refine am_q32 (v := some (.int 1)) (S1 := (am_w_word_3_4 S a b)) (as := [.ref 3]) (la := [some (.ref 3)]) (rest := []) hi_37_16 (Nat.le_of_ble_eq_true rfl) (Nat.le_of_ble_eq_true rfl) (show 1 ≤ am_P0.2.2.1 36 from by decide +kernel) rfl (am_recv_ok (am_fs_eq (am_fs_ne (by decide) (am_fs_ne (by decide) (am_fs_ne (by decide) (am_fs_ne (by decide) o3)))))) rfl rfl ?_ ?_
      · refine am_q2 (v := 3) hi_36_0 rfl ?_
        refine am_q20 (v := .int 1) hi_36_1 (am_fs_eq (am_fs_ne (by decide) (am_fs_ne (by decide) (am_fs_ne (by decide) (am_fs_ne (by decide) o3))))) rfl ?_
        exact am_q33 hi_36_4
      show am_R _ _ _ _ [some (.ref 2), some (.int a), some (.int b)] [.int 1] _ _ _
      exact am_q33 hi_37_19
    show am_R _ _ _ _ [some (.ref 0), some (.int a), some (.int b)] [.int 1] _ _ _
    exact am_q33 hi_33_34
  · refine am_q1 (v := a) hi_174_0 rfl ?_
    refine am_q0 hi_174_1 ?_
    refine am_q13f hi_174_2 (am_cF (m := a.toInt) (n := (1 : Int)) rfl (by decide) (by simp only [am_cI]; omega)) ?_
    refine am_q1 (v := a) hi_174_5 rfl ?_
    refine am_q0 hi_174_6 ?_
    refine am_q13f hi_174_7 (am_cF (m := a.toInt) (n := (3 : Int)) rfl (by decide) (by simp only [am_cI]; omega)) ?_
    refine am_q1 (v := a) hi_174_10 rfl ?_
    refine am_q0 hi_174_11 ?_
    refine am_q13f hi_174_13 (am_cF (m := a.toInt) (n := (10 : Int)) rfl (by decide) (by simp only [am_cI]; omega)) ?_
    refine am_q1 (v := a) hi_174_16 rfl ?_
    refine am_q0 hi_174_17 ?_
    refine am_q13t hi_174_19 (am_cT (m := a.toInt) (n := (31 : Int)) rfl (by decide) (by simp only [am_cI]; omega)) ?_
    refine am_q0 hi_174_34 ?_
    refine am_q18 hi_174_35 ?_
    refine am_q3 (ls' := [some (.ref 39), some (.int a), some (.int b), some (.int 1)]) hi_174_39 (Nat.le_of_ble_eq_true rfl) rfl ?_
    refine am_q1 (v := 1) hi_174_40 rfl ?_
    refine am_q12t hi_174_41 (by decide) ?_
    refine am_q2 (v := 39) hi_174_46 rfl ?_
    refine am_q20 (v := .int 0) hi_174_47 (am_fs_ne (by decide) (am_fs_ne (by decide) (am_fs_ne (by decide) (am_fs_ne (by decide) (am_fs_ne (by decide) o39))))) rfl ?_
    refine am_q0 hi_174_50 ?_
    refine am_q13t hi_174_53 (by decide) ?_
    refine am_q2 (v := 39) hi_174_59 rfl ?_
    refine am_q20 (v := .ref 40) hi_174_60 (am_fs_ne (by decide) (am_fs_ne (by decide) (am_fs_ne (by decide) (am_fs_ne (by decide) (am_fs_ne (by decide) o39))))) rfl ?_
    refine am_q2 (v := 39) hi_174_63 rfl ?_
    refine am_q20 (v := .int 0) hi_174_64 (am_fs_ne (by decide) (am_fs_ne (by decide) (am_fs_ne (by decide) (am_fs_ne (by decide) (am_fs_ne (by decide) o39))))) rfl ?_
    refine am_q1 (v := a) hi_174_67 rfl ?_
    refine am_q26 (j := 0) hi_174_68 (am_arq_ne (by decide) (am_arq_ne (by decide) (am_arq_ne (by decide) (am_arq_ne (by decide) (am_arq_ne (by decide) q40))))) (by decide) (by decide) (by decide) (by decide) (fun h => nomatch h) ?_
    show am_R _ _ _ _ [some (.ref 39), some (.int a), some (.int b), some (.int 1)] [] (am_w_word_3_5 S a b) _ _
    refine am_q2 (v := 39) hi_174_69 rfl ?_
    refine am_q20 (v := .ref 41) hi_174_70 (am_fs_ne (by decide) (am_fs_ne (by decide) (am_fs_ne (by decide) (am_fs_ne (by decide) (am_fs_ne (by decide) (am_fs_ne (by decide) o39)))))) rfl ?_
    refine am_q2 (v := 39) hi_174_73 rfl ?_
    refine am_q20 (v := .int 0) hi_174_74 (am_fs_ne (by decide) (am_fs_ne (by decide) (am_fs_ne (by decide) (am_fs_ne (by decide) (am_fs_ne (by decide) (am_fs_ne (by decide) o39)))))) rfl ?_
    refine am_q1 (v := b) hi_174_77 rfl ?_
    refine am_q26 (j := 0) hi_174_78 (am_arq_ne (by decide) (am_arq_ne (by decide) (am_arq_ne (by decide) (am_arq_ne (by decide) (am_arq_ne (by decide) (am_arq_ne (by decide) q41)))))) (by decide) (by decide) (by decide) (by decide) (fun h => nomatch h) ?_
    show am_R _ _ _ _ [some (.ref 39), some (.int a), some (.int b), some (.int 1)] [] (am_w_word_3_6 S a b) _ _
    refine am_q2 (v := 39) hi_174_79 rfl ?_
    refine am_q7 hi_174_80 ?_
    refine am_q20 (v := .int 0) hi_174_81 (am_fs_ne (by decide) (am_fs_ne (by decide) (am_fs_ne (by decide) (am_fs_ne (by decide) (am_fs_ne (by decide) (am_fs_ne (by decide) (am_fs_ne (by decide) o39))))))) rfl ?_
    refine am_q0 hi_174_84 ?_
    refine am_q10 (z := 1) hi_174_85 (by decide) ?_
    refine am_q21 (fs' := [.int 1, .ref 40, .ref 41, .int 0, .int 0, .int 0, .int 0, .int 0, .int 0, .int 0, .int 0, .ref 42, .ref 43, .ref 44, .ref 45, .int 0, .ref 46, .ref 47, .ref 48, .int 0, .int 0, .ref 49, .ref 50, .ref 51, .int 0, .ref 52, .ref 53, .ref 54, .ref 55, .ref 56, .ref 57, .int 0, .int 0, .ref 58, .ref 59, .ref 60, .ref 61, .int 0, .ref 62, .ref 63, .ref 64, .ref 65, .ref 66, .ref 67, .int 0, .ref 68, .ref 69, .ref 70, .int 0, .ref 71, .ref 72, .ref 73, .ref 74, .int 1, .ref 75, .ref 76, .ref 77, .ref 78, .ref 79, .ref 80, .ref 81, .ref 82, .int 0, .ref 83, .ref 84, .ref 85, .ref 86, .ref 87, .int 1, .ref 88, .ref 89, .ref 90, .ref 91, .ref 92, .ref 93, .int 0, .int 0]) hi_174_86 (am_fs_ne (by decide) (am_fs_ne (by decide) (am_fs_ne (by decide) (am_fs_ne (by decide) (am_fs_ne (by decide) (am_fs_ne (by decide) (am_fs_ne (by decide) o39))))))) (Nat.le_of_ble_eq_true rfl) rfl rfl ?_
    show am_R _ _ _ _ [some (.ref 39), some (.int a), some (.int b), some (.int 1)] [] (am_w_word_3_7 S a b) _ _
    refine am_q2 (v := 39) hi_174_89 rfl ?_
    refine am_q20 (v := .int 1) hi_174_90 (am_fs_eq (am_fs_ne (by decide) (am_fs_ne (by decide) (am_fs_ne (by decide) (am_fs_ne (by decide) (am_fs_ne (by decide) (am_fs_ne (by decide) (am_fs_ne (by decide) o39)))))))) rfl ?_
    exact am_q33 hi_174_93
set_option maxRecDepth 10000 in
theorem pw_word_4 {sc : Nat × (Nat → Int32)} {S : am_S} {a : Int32} {b : Int32} (F : am_F0 S) (alo : 32 ≤ a.toInt) (ahi : a.toInt ≤ 39) : ∃ (v : Int32) (S1 S2 : am_S) (fs : List Value), am_R (am_PP sc) 59 33 0 [some (.ref 0), some (.int a), some (.int b)] [] S (some (some (.int v))) S1 ∧ am_R (am_PP sc) 59 174 0 [some (.ref 39), some (.int a), some (.int b), none] [] S1 (some (some (.int v))) S2 ∧ S2.2 = S.2 ∧ am_fs S1 39 = some (11, fs) := by
  obtain ⟨⟨e35_0, e35_1, e35_2, e35_3, e75_0, e76_0, e77_0, e78_0, e79_0, e80_0⟩, ⟨e81_0, e82_0, e87_0, e89_0, e90_0, e91_0, e92_0, e93_0, g38, h38_0⟩, ⟨o0, o2, o3, o32, o33, o34, o36, o39, o5, o6⟩, ⟨q35, q4, q40, q41, q75, q76, q77, q78, q79, q80⟩, ⟨q81, q82, q87, q89, q90, q91, q92, q93⟩⟩ := F
  refine ⟨(-1), S, S, _, ?_, ?_, rfl, o39⟩
  · refine am_q1 (v := a) hi_33_0 rfl ?_
    refine am_q32 (v := some (.int 0)) (S1 := S) (as := [.int a]) (la := [some (.int a)]) (rest := []) hi_33_1 (Nat.le_of_ble_eq_true rfl) (Nat.le_of_ble_eq_true rfl) (show 1 ≤ am_P0.2.2.1 34 from by decide +kernel) rfl rfl rfl rfl ?_ ?_
    · refine am_q1 (v := a) hi_34_0 rfl ?_
      refine am_q0 hi_34_1 ?_
      refine am_q13f hi_34_2 (am_cF (m := a.toInt) (n := (1 : Int)) rfl (by decide) (by simp only [am_cI]; omega)) ?_
      refine am_q1 (v := a) hi_34_5 rfl ?_
      refine am_q0 hi_34_6 ?_
      refine am_q13f hi_34_7 (am_cF (m := a.toInt) (n := (3 : Int)) rfl (by decide) (by simp only [am_cI]; omega)) ?_
      refine am_q1 (v := a) hi_34_10 rfl ?_
      refine am_q0 hi_34_11 ?_
      refine am_q13f hi_34_13 (am_cF (m := a.toInt) (n := (10 : Int)) rfl (by decide) (by simp only [am_cI]; omega)) ?_
      refine am_q1 (v := a) hi_34_16 rfl ?_
      refine am_q0 hi_34_17 ?_
      refine am_q13f hi_34_19 (am_cF (m := a.toInt) (n := (31 : Int)) rfl (by decide) (by simp only [am_cI]; omega)) ?_
      refine am_q1 (v := a) hi_34_22 rfl ?_
      refine am_q0 hi_34_23 ?_
      refine am_q13t hi_34_25 (am_cT (m := a.toInt) (n := (40 : Int)) rfl (by decide) (by simp only [am_cI]; omega)) ?_
      refine am_q0 hi_34_38 ?_
      exact am_q36 hi_34_39 (by decide)
    show am_R _ _ _ _ [some (.ref 0), some (.int a), some (.int b)] [.int 0] _ _ _
    refine am_q12f hi_33_4 (by decide) ?_
    refine am_q0 hi_33_7 ?_
    exact am_q33 hi_33_8
  · refine am_q1 (v := a) hi_174_0 rfl ?_
    refine am_q0 hi_174_1 ?_
    refine am_q13f hi_174_2 (am_cF (m := a.toInt) (n := (1 : Int)) rfl (by decide) (by simp only [am_cI]; omega)) ?_
    refine am_q1 (v := a) hi_174_5 rfl ?_
    refine am_q0 hi_174_6 ?_
    refine am_q13f hi_174_7 (am_cF (m := a.toInt) (n := (3 : Int)) rfl (by decide) (by simp only [am_cI]; omega)) ?_
    refine am_q1 (v := a) hi_174_10 rfl ?_
    refine am_q0 hi_174_11 ?_
    refine am_q13f hi_174_13 (am_cF (m := a.toInt) (n := (10 : Int)) rfl (by decide) (by simp only [am_cI]; omega)) ?_
    refine am_q1 (v := a) hi_174_16 rfl ?_
    refine am_q0 hi_174_17 ?_
    refine am_q13f hi_174_19 (am_cF (m := a.toInt) (n := (31 : Int)) rfl (by decide) (by simp only [am_cI]; omega)) ?_
    refine am_q1 (v := a) hi_174_22 rfl ?_
    refine am_q0 hi_174_23 ?_
    refine am_q13t hi_174_25 (am_cT (m := a.toInt) (n := (40 : Int)) rfl (by decide) (by simp only [am_cI]; omega)) ?_
    refine am_q0 hi_174_38 ?_
    refine am_q3 (ls' := [some (.ref 39), some (.int a), some (.int b), some (.int 0)]) hi_174_39 (Nat.le_of_ble_eq_true rfl) rfl ?_
    refine am_q1 (v := 0) hi_174_40 rfl ?_
    refine am_q12f hi_174_41 (by decide) ?_
    refine am_q0 hi_174_44 ?_
    exact am_q33 hi_174_45
def am_w_word_5_0 (S : am_S) (a b : Int32) : am_S := (S.1.set 4 (.inl (false, 32, upd (am_arf S 4) 0 a)), S.2.1, S.2.2)
def am_w_word_5_1 (S : am_S) (a b : Int32) : am_S := ((am_w_word_5_0 S a b).1.set 4 (.inl (false, 32, upd (am_arf (am_w_word_5_0 S a b) 4) 1 b)), (am_w_word_5_0 S a b).2.1, (am_w_word_5_0 S a b).2.2)
def am_w_word_5_2 (S : am_S) (a b : Int32) : am_S := ((am_w_word_5_1 S a b).1.set 4 (.inl (false, 32, upd (am_arf (am_w_word_5_1 S a b) 4) 2 0)), (am_w_word_5_1 S a b).2.1, (am_w_word_5_1 S a b).2.2)
def am_w_word_5_3 (S : am_S) (a b : Int32) : am_S := ((am_w_word_5_2 S a b).1.set 4 (.inl (false, 32, upd (am_arf (am_w_word_5_2 S a b) 4) 3 0)), (am_w_word_5_2 S a b).2.1, (am_w_word_5_2 S a b).2.2)
def am_w_word_5_4 (S : am_S) (a b : Int32) : am_S := ((am_w_word_5_3 S a b).1.set 3 (.inr (.inr (3, [.ref 4, .int 1]))), (am_w_word_5_3 S a b).2.1, (am_w_word_5_3 S a b).2.2)
def am_w_word_5_5 (S : am_S) (a b : Int32) : am_S := ((am_w_word_5_4 S a b).1.set 40 (.inl (false, 16384, upd (am_arf (am_w_word_5_4 S a b) 40) 0 a)), (am_w_word_5_4 S a b).2.1, (am_w_word_5_4 S a b).2.2)
def am_w_word_5_6 (S : am_S) (a b : Int32) : am_S := ((am_w_word_5_5 S a b).1.set 41 (.inl (false, 16384, upd (am_arf (am_w_word_5_5 S a b) 41) 0 b)), (am_w_word_5_5 S a b).2.1, (am_w_word_5_5 S a b).2.2)
def am_w_word_5_7 (S : am_S) (a b : Int32) : am_S := ((am_w_word_5_6 S a b).1.set 39 (.inr (.inr (11, [.int 1, .ref 40, .ref 41, .int 0, .int 0, .int 0, .int 0, .int 0, .int 0, .int 0, .int 0, .ref 42, .ref 43, .ref 44, .ref 45, .int 0, .ref 46, .ref 47, .ref 48, .int 0, .int 0, .ref 49, .ref 50, .ref 51, .int 0, .ref 52, .ref 53, .ref 54, .ref 55, .ref 56, .ref 57, .int 0, .int 0, .ref 58, .ref 59, .ref 60, .ref 61, .int 0, .ref 62, .ref 63, .ref 64, .ref 65, .ref 66, .ref 67, .int 0, .ref 68, .ref 69, .ref 70, .int 0, .ref 71, .ref 72, .ref 73, .ref 74, .int 1, .ref 75, .ref 76, .ref 77, .ref 78, .ref 79, .ref 80, .ref 81, .ref 82, .int 0, .ref 83, .ref 84, .ref 85, .ref 86, .ref 87, .int 1, .ref 88, .ref 89, .ref 90, .ref 91, .ref 92, .ref 93, .int 0, .int 0]))), (am_w_word_5_6 S a b).2.1, (am_w_word_5_6 S a b).2.2)
set_option maxRecDepth 10000 in
theorem pw_word_5 {sc : Nat × (Nat → Int32)} {S : am_S} {a : Int32} {b : Int32} (F : am_F0 S) (alo : 40 ≤ a.toInt) (ahi : a.toInt ≤ 72) : ∃ (v : Int32) (S1 S2 : am_S) (fs : List Value), am_R (am_PP sc) 59 33 0 [some (.ref 0), some (.int a), some (.int b)] [] S (some (some (.int v))) S1 ∧ am_R (am_PP sc) 59 174 0 [some (.ref 39), some (.int a), some (.int b), none] [] S1 (some (some (.int v))) S2 ∧ S2.2 = S.2 ∧ am_fs S1 39 = some (11, fs) := by
  obtain ⟨⟨e35_0, e35_1, e35_2, e35_3, e75_0, e76_0, e77_0, e78_0, e79_0, e80_0⟩, ⟨e81_0, e82_0, e87_0, e89_0, e90_0, e91_0, e92_0, e93_0, g38, h38_0⟩, ⟨o0, o2, o3, o32, o33, o34, o36, o39, o5, o6⟩, ⟨q35, q4, q40, q41, q75, q76, q77, q78, q79, q80⟩, ⟨q81, q82, q87, q89, q90, q91, q92, q93⟩⟩ := F
  refine ⟨1, (am_w_word_5_4 S a b), (am_w_word_5_7 S a b), _, ?_, ?_, rfl, (am_fs_ne (by decide) (am_fs_ne (by decide) (am_fs_ne (by decide) (am_fs_ne (by decide) (am_fs_ne (by decide) o39)))))⟩
  · refine am_q1 (v := a) hi_33_0 rfl ?_
    refine am_q32 (v := some (.int 1)) (S1 := S) (as := [.int a]) (la := [some (.int a)]) (rest := []) hi_33_1 (Nat.le_of_ble_eq_true rfl) (Nat.le_of_ble_eq_true rfl) (show 1 ≤ am_P0.2.2.1 34 from by decide +kernel) rfl rfl rfl rfl ?_ ?_
    · refine am_q1 (v := a) hi_34_0 rfl ?_
      refine am_q0 hi_34_1 ?_
      refine am_q13f hi_34_2 (am_cF (m := a.toInt) (n := (1 : Int)) rfl (by decide) (by simp only [am_cI]; omega)) ?_
      refine am_q1 (v := a) hi_34_5 rfl ?_
      refine am_q0 hi_34_6 ?_
      refine am_q13f hi_34_7 (am_cF (m := a.toInt) (n := (3 : Int)) rfl (by decide) (by simp only [am_cI]; omega)) ?_
      refine am_q1 (v := a) hi_34_10 rfl ?_
      refine am_q0 hi_34_11 ?_
      refine am_q13f hi_34_13 (am_cF (m := a.toInt) (n := (10 : Int)) rfl (by decide) (by simp only [am_cI]; omega)) ?_
      refine am_q1 (v := a) hi_34_16 rfl ?_
      refine am_q0 hi_34_17 ?_
      refine am_q13f hi_34_19 (am_cF (m := a.toInt) (n := (31 : Int)) rfl (by decide) (by simp only [am_cI]; omega)) ?_
      refine am_q1 (v := a) hi_34_22 rfl ?_
      refine am_q0 hi_34_23 ?_
      refine am_q13f hi_34_25 (am_cF (m := a.toInt) (n := (40 : Int)) rfl (by decide) (by simp only [am_cI]; omega)) ?_
      refine am_q1 (v := a) hi_34_28 rfl ?_
      refine am_q0 hi_34_29 ?_
      refine am_q13f hi_34_31 (am_cF (m := a.toInt) (n := (72 : Int)) rfl (by decide) (by simp only [am_cI]; omega)) ?_
      refine am_q0 hi_34_34 ?_
      refine am_q18 hi_34_35 ?_
      exact am_q36 hi_34_39 (by decide)
    show am_R _ _ _ _ [some (.ref 0), some (.int a), some (.int b)] [.int 1] _ _ _
    refine am_q12t hi_33_4 (by decide) ?_
    refine am_q2 (v := 0) hi_33_9 rfl ?_
    refine am_q20 (v := .ref 2) hi_33_10 o0 rfl ?_
    refine am_q32 (v := some (.int 0)) (S1 := S) (as := [.ref 2]) (la := [some (.ref 2)]) (rest := []) hi_33_13 (Nat.le_of_ble_eq_true rfl) (Nat.le_of_ble_eq_true rfl) (show 1 ≤ am_P0.2.2.1 35 from by decide +kernel) rfl (am_recv_ok o2) rfl rfl ?_ ?_
    · refine am_q2 (v := 2) hi_35_0 rfl ?_
      refine am_q20 (v := .ref 3) hi_35_1 o2 rfl ?_
      refine am_q32 (v := some (.int 0)) (S1 := S) (as := [.ref 3]) (la := [some (.ref 3)]) (rest := []) hi_35_4 (Nat.le_of_ble_eq_true rfl) (Nat.le_of_ble_eq_true rfl) (show 1 ≤ am_P0.2.2.1 36 from by decide +kernel) rfl (am_recv_ok o3) rfl rfl ?_ ?_
      · refine am_q2 (v := 3) hi_36_0 rfl ?_
        refine am_q20 (v := .int 0) hi_36_1 o3 rfl ?_
        exact am_q33 hi_36_4
      show am_R _ _ _ _ [some (.ref 2)] [.int 0] _ _ _
      exact am_q33 hi_35_7
    show am_R _ _ _ _ [some (.ref 0), some (.int a), some (.int b)] [.int 0] _ _ _
    refine am_q0 hi_33_16 ?_
    refine am_q13t hi_33_19 (by decide) ?_
    refine am_q2 (v := 0) hi_33_25 rfl ?_
    refine am_q20 (v := .ref 2) hi_33_26 o0 rfl ?_
    refine am_q1 (v := a) hi_33_29 rfl ?_
    refine am_q1 (v := b) hi_33_30 rfl ?_
    refine am_q32 (v := some (.int 1)) (S1 := (am_w_word_5_4 S a b)) (as := [.ref 2, .int a, .int b]) (la := [some (.ref 2), some (.int a), some (.int b)]) (rest := []) hi_33_31 (Nat.le_of_ble_eq_true rfl) (Nat.le_of_ble_eq_true rfl) (show 3 ≤ am_P0.2.2.1 37 from by decide +kernel) rfl (am_recv_ok o2) rfl rfl ?_ ?_
    · refine am_q2 (v := 2) hi_37_0 rfl ?_
      refine am_q20 (v := .ref 3) hi_37_1 o2 rfl ?_
      refine am_q1 (v := a) hi_37_4 rfl ?_
      refine am_q1 (v := b) hi_37_5 rfl ?_
      refine am_q0 hi_37_6 ?_
      refine am_q0 hi_37_7 ?_
      refine am_q32 (v := some (.int 0)) (S1 := (am_w_word_5_4 S a b)) (as := [.ref 3, .int a, .int b, .int 0, .int 0]) (la := [some (.ref 3), some (.int a), some (.int b), some (.int 0), some (.int 0), none]) (rest := []) hi_37_8 (Nat.le_of_ble_eq_true rfl) (Nat.le_of_ble_eq_true rfl) (show 5 ≤ am_P0.2.2.1 31 from by decide +kernel) rfl (am_recv_ok o3) rfl rfl ?_ ?_
      · refine am_q2 (v := 3) hi_31_0 rfl ?_
        refine am_q20 (v := .int 0) hi_31_1 o3 rfl ?_
        refine am_q0 hi_31_4 ?_
        refine am_q10 (z := 0) hi_31_5 (by decide) ?_
        refine am_q3 (ls' := [some (.ref 3), some (.int a), some (.int b), some (.int 0), some (.int 0), some (.int 0)]) hi_31_6 (Nat.le_of_ble_eq_true rfl) rfl ?_
        refine am_q1 (v := 0) hi_31_8 rfl ?_
        refine am_q0 hi_31_10 ?_
        refine am_q10 (z := 4) hi_31_11 (by decide) ?_
        refine am_q2 (v := 3) hi_31_12 rfl ?_
        refine am_q20 (v := .ref 4) hi_31_13 o3 rfl ?_
        refine am_q24 (z := 32) hi_31_16 q4 (by decide) ?_
        refine am_q13t hi_31_17 (by decide) ?_
        refine am_q2 (v := 3) hi_31_52 rfl ?_
        refine am_q20 (v := .ref 4) hi_31_53 o3 rfl ?_
        refine am_q1 (v := 0) hi_31_56 rfl ?_
        refine am_q1 (v := a) hi_31_58 rfl ?_
        refine am_q26 (j := 0) hi_31_59 q4 (by decide) (by decide) (by decide) (by decide) (fun h => nomatch h) ?_
        show am_R _ _ _ _ [some (.ref 3), some (.int a), some (.int b), some (.int 0), some (.int 0), some (.int 0)] [] (am_w_word_5_0 S a b) _ _
        refine am_q2 (v := 3) hi_31_60 rfl ?_
        refine am_q20 (v := .ref 4) hi_31_61 (am_fs_ne (by decide) o3) rfl ?_
        refine am_q1 (v := 0) hi_31_64 rfl ?_
        refine am_q0 hi_31_66 ?_
        refine am_q10 (z := 1) hi_31_67 (by decide) ?_
        refine am_q1 (v := b) hi_31_68 rfl ?_
        refine am_q26 (j := 1) hi_31_69 (am_arq_eq q4) (by decide) (by decide) (by decide) (by decide) (fun h => nomatch h) ?_
        show am_R _ _ _ _ [some (.ref 3), some (.int a), some (.int b), some (.int 0), some (.int 0), some (.int 0)] [] (am_w_word_5_1 S a b) _ _
        refine am_q2 (v := 3) hi_31_70 rfl ?_
        refine am_q20 (v := .ref 4) hi_31_71 (am_fs_ne (by decide) (am_fs_ne (by decide) o3)) rfl ?_
        refine am_q1 (v := 0) hi_31_74 rfl ?_
        refine am_q0 hi_31_76 ?_
        refine am_q10 (z := 2) hi_31_77 (by decide) ?_
        refine am_q1 (v := 0) hi_31_78 rfl ?_
        refine am_q26 (j := 2) hi_31_79 (am_arq_eq (am_arq_eq q4)) (by decide) (by decide) (by decide) (by decide) (fun h => nomatch h) ?_
        show am_R _ _ _ _ [some (.ref 3), some (.int a), some (.int b), some (.int 0), some (.int 0), some (.int 0)] [] (am_w_word_5_2 S a b) _ _
        refine am_q2 (v := 3) hi_31_80 rfl ?_
        refine am_q20 (v := .ref 4) hi_31_81 (am_fs_ne (by decide) (am_fs_ne (by decide) (am_fs_ne (by decide) o3))) rfl ?_
        refine am_q1 (v := 0) hi_31_84 rfl ?_
        refine am_q0 hi_31_86 ?_
        refine am_q10 (z := 3) hi_31_87 (by decide) ?_
        refine am_q1 (v := 0) hi_31_88 rfl ?_
        refine am_q26 (j := 3) hi_31_90 (am_arq_eq (am_arq_eq (am_arq_eq q4))) (by decide) (by decide) (by decide) (by decide) (fun h => nomatch h) ?_
        show am_R _ _ _ _ [some (.ref 3), some (.int a), some (.int b), some (.int 0), some (.int 0), some (.int 0)] [] (am_w_word_5_3 S a b) _ _
        refine am_q2 (v := 3) hi_31_91 rfl ?_
        refine am_q7 hi_31_92 ?_
        refine am_q20 (v := .int 0) hi_31_93 (am_fs_ne (by decide) (am_fs_ne (by decide) (am_fs_ne (by decide) (am_fs_ne (by decide) o3)))) rfl ?_
        refine am_q0 hi_31_96 ?_
        refine am_q10 (z := 1) hi_31_97 (by decide) ?_
        refine am_q21 (fs' := [.ref 4, .int 1]) hi_31_98 (am_fs_ne (by decide) (am_fs_ne (by decide) (am_fs_ne (by decide) (am_fs_ne (by decide) o3)))) (Nat.le_of_ble_eq_true rfl) rfl rfl ?_
        show am_R _ _ _ _ [some (.ref 3), some (.int a), some (.int b), some (.int 0), some (.int 0), some (.int 0)] [] (am_w_word_5_4 S a b) _ _
        refine am_q2 (v := 3) hi_31_101 rfl ?_
        refine am_q20 (v := .int 1) hi_31_102 (am_fs_eq (am_fs_ne (by decide) (am_fs_ne (by decide) (am_fs_ne (by decide) (am_fs_ne (by decide) o3))))) rfl ?_
        refine am_q0 hi_31_105 ?_
        refine am_q10 (z := 0) hi_31_106 (by decide) ?_
        exact am_q33 hi_31_107
      show am_R _ _ _ _ [some (.ref 2), some (.int a), some (.int b)] [.int 0] _ _ _
      refine am_q6i hi_37_11 ?_
      refine am_q2 (v := 2) hi_37_12 rfl ?_
      refine am_q20 (v := .ref 3) hi_37_13 (am_fs_ne (by decide) (am_fs_ne (by decide) (am_fs_ne (by decide) (am_fs_ne (by decide) (am_fs_ne (by decide) o2))))) rfl ?_
      refine am_q32 (v := some (.int 1)) (S1 := (am_w_word_5_4 S a b)) (as := [.ref 3]) (la := [some (.ref 3)]) (rest := []) hi_37_16 (Nat.le_of_ble_eq_true rfl) (Nat.le_of_ble_eq_true rfl) (show 1 ≤ am_P0.2.2.1 36 from by decide +kernel) rfl (am_recv_ok (am_fs_eq (am_fs_ne (by decide) (am_fs_ne (by decide) (am_fs_ne (by decide) (am_fs_ne (by decide) o3)))))) rfl rfl ?_ ?_
      · refine am_q2 (v := 3) hi_36_0 rfl ?_
        refine am_q20 (v := .int 1) hi_36_1 (am_fs_eq (am_fs_ne (by decide) (am_fs_ne (by decide) (am_fs_ne (by decide) (am_fs_ne (by decide) o3))))) rfl ?_
        exact am_q33 hi_36_4
      show am_R _ _ _ _ [some (.ref 2), some (.int a), some (.int b)] [.int 1] _ _ _
      exact am_q33 hi_37_19
    show am_R _ _ _ _ [some (.ref 0), some (.int a), some (.int b)] [.int 1] _ _ _
    exact am_q33 hi_33_34
  · refine am_q1 (v := a) hi_174_0 rfl ?_
    refine am_q0 hi_174_1 ?_
    refine am_q13f hi_174_2 (am_cF (m := a.toInt) (n := (1 : Int)) rfl (by decide) (by simp only [am_cI]; omega)) ?_
    refine am_q1 (v := a) hi_174_5 rfl ?_
    refine am_q0 hi_174_6 ?_
    refine am_q13f hi_174_7 (am_cF (m := a.toInt) (n := (3 : Int)) rfl (by decide) (by simp only [am_cI]; omega)) ?_
    refine am_q1 (v := a) hi_174_10 rfl ?_
    refine am_q0 hi_174_11 ?_
    refine am_q13f hi_174_13 (am_cF (m := a.toInt) (n := (10 : Int)) rfl (by decide) (by simp only [am_cI]; omega)) ?_
    refine am_q1 (v := a) hi_174_16 rfl ?_
    refine am_q0 hi_174_17 ?_
    refine am_q13f hi_174_19 (am_cF (m := a.toInt) (n := (31 : Int)) rfl (by decide) (by simp only [am_cI]; omega)) ?_
    refine am_q1 (v := a) hi_174_22 rfl ?_
    refine am_q0 hi_174_23 ?_
    refine am_q13f hi_174_25 (am_cF (m := a.toInt) (n := (40 : Int)) rfl (by decide) (by simp only [am_cI]; omega)) ?_
    refine am_q1 (v := a) hi_174_28 rfl ?_
    refine am_q0 hi_174_29 ?_
    refine am_q13f hi_174_31 (am_cF (m := a.toInt) (n := (72 : Int)) rfl (by decide) (by simp only [am_cI]; omega)) ?_
    refine am_q0 hi_174_34 ?_
    refine am_q18 hi_174_35 ?_
    refine am_q3 (ls' := [some (.ref 39), some (.int a), some (.int b), some (.int 1)]) hi_174_39 (Nat.le_of_ble_eq_true rfl) rfl ?_
    refine am_q1 (v := 1) hi_174_40 rfl ?_
    refine am_q12t hi_174_41 (by decide) ?_
    refine am_q2 (v := 39) hi_174_46 rfl ?_
    refine am_q20 (v := .int 0) hi_174_47 (am_fs_ne (by decide) (am_fs_ne (by decide) (am_fs_ne (by decide) (am_fs_ne (by decide) (am_fs_ne (by decide) o39))))) rfl ?_
    refine am_q0 hi_174_50 ?_
    refine am_q13t hi_174_53 (by decide) ?_
    refine am_q2 (v := 39) hi_174_59 rfl ?_
    refine am_q20 (v := .ref 40) hi_174_60 (am_fs_ne (by decide) (am_fs_ne (by decide) (am_fs_ne (by decide) (am_fs_ne (by decide) (am_fs_ne (by decide) o39))))) rfl ?_
    refine am_q2 (v := 39) hi_174_63 rfl ?_
    refine am_q20 (v := .int 0) hi_174_64 (am_fs_ne (by decide) (am_fs_ne (by decide) (am_fs_ne (by decide) (am_fs_ne (by decide) (am_fs_ne (by decide) o39))))) rfl ?_
    refine am_q1 (v := a) hi_174_67 rfl ?_
    refine am_q26 (j := 0) hi_174_68 (am_arq_ne (by decide) (am_arq_ne (by decide) (am_arq_ne (by decide) (am_arq_ne (by decide) (am_arq_ne (by decide) q40))))) (by decide) (by decide) (by decide) (by decide) (fun h => nomatch h) ?_
    show am_R _ _ _ _ [some (.ref 39), some (.int a), some (.int b), some (.int 1)] [] (am_w_word_5_5 S a b) _ _
    refine am_q2 (v := 39) hi_174_69 rfl ?_
    refine am_q20 (v := .ref 41) hi_174_70 (am_fs_ne (by decide) (am_fs_ne (by decide) (am_fs_ne (by decide) (am_fs_ne (by decide) (am_fs_ne (by decide) (am_fs_ne (by decide) o39)))))) rfl ?_
    refine am_q2 (v := 39) hi_174_73 rfl ?_
    refine am_q20 (v := .int 0) hi_174_74 (am_fs_ne (by decide) (am_fs_ne (by decide) (am_fs_ne (by decide) (am_fs_ne (by decide) (am_fs_ne (by decide) (am_fs_ne (by decide) o39)))))) rfl ?_
    refine am_q1 (v := b) hi_174_77 rfl ?_
    refine am_q26 (j := 0) hi_174_78 (am_arq_ne (by decide) (am_arq_ne (by decide) (am_arq_ne (by decide) (am_arq_ne (by decide) (am_arq_ne (by decide) (am_arq_ne (by decide) q41)))))) (by decide) (by decide) (by decide) (by decide) (fun h => nomatch h) ?_
    show am_R _ _ _ _ [some (.ref 39), some (.int a), some (.int b), some (.int 1)] [] (am_w_word_5_6 S a b) _ _
    refine am_q2 (v := 39) hi_174_79 rfl ?_
    refine am_q7 hi_174_80 ?_
    refine am_q20 (v := .int 0) hi_174_81 (am_fs_ne (by decide) (am_fs_ne (by decide) (am_fs_ne (by decide) (am_fs_ne (by decide) (am_fs_ne (by decide) (am_fs_ne (by decide) (am_fs_ne (by decide) o39))))))) rfl ?_
    refine am_q0 hi_174_84 ?_
    refine am_q10 (z := 1) hi_174_85 (by decide) ?_
    refine am_q21 (fs' := [.int 1, .ref 40, .ref 41, .int 0, .int 0, .int 0, .int 0, .int 0, .int 0, .int 0, .int 0, .ref 42, .ref 43, .ref 44, .ref 45, .int 0, .ref 46, .ref 47, .ref 48, .int 0, .int 0, .ref 49, .ref 50, .ref 51, .int 0, .ref 52, .ref 53, .ref 54, .ref 55, .ref 56, .ref 57, .int 0, .int 0, .ref 58, .ref 59, .ref 60, .ref 61, .int 0, .ref 62, .ref 63, .ref 64, .ref 65, .ref 66, .ref 67, .int 0, .ref 68, .ref 69, .ref 70, .int 0, .ref 71, .ref 72, .ref 73, .ref 74, .int 1, .ref 75, .ref 76, .ref 77, .ref 78, .ref 79, .ref 80, .ref 81, .ref 82, .int 0, .ref 83, .ref 84, .ref 85, .ref 86, .ref 87, .int 1, .ref 88, .ref 89, .ref 90, .ref 91, .ref 92, .ref 93, .int 0, .int 0]) hi_174_86 (am_fs_ne (by decide) (am_fs_ne (by decide) (am_fs_ne (by decide) (am_fs_ne (by decide) (am_fs_ne (by decide) (am_fs_ne (by decide) (am_fs_ne (by decide) o39))))))) (Nat.le_of_ble_eq_true rfl) rfl rfl ?_
    show am_R _ _ _ _ [some (.ref 39), some (.int a), some (.int b), some (.int 1)] [] (am_w_word_5_7 S a b) _ _
    refine am_q2 (v := 39) hi_174_89 rfl ?_
    refine am_q20 (v := .int 1) hi_174_90 (am_fs_eq (am_fs_ne (by decide) (am_fs_ne (by decide) (am_fs_ne (by decide) (am_fs_ne (by decide) (am_fs_ne (by decide) (am_fs_ne (by decide) (am_fs_ne (by decide) o39)))))))) rfl ?_
    exact am_q33 hi_174_93
set_option maxRecDepth 10000 in
theorem pw_word_6 {sc : Nat × (Nat → Int32)} {S : am_S} {a : Int32} {b : Int32} (F : am_F0 S) (alo : 73 ≤ a.toInt) : ∃ (v : Int32) (S1 S2 : am_S) (fs : List Value), am_R (am_PP sc) 59 33 0 [some (.ref 0), some (.int a), some (.int b)] [] S (some (some (.int v))) S1 ∧ am_R (am_PP sc) 59 174 0 [some (.ref 39), some (.int a), some (.int b), none] [] S1 (some (some (.int v))) S2 ∧ S2.2 = S.2 ∧ am_fs S1 39 = some (11, fs) := by
  obtain ⟨⟨e35_0, e35_1, e35_2, e35_3, e75_0, e76_0, e77_0, e78_0, e79_0, e80_0⟩, ⟨e81_0, e82_0, e87_0, e89_0, e90_0, e91_0, e92_0, e93_0, g38, h38_0⟩, ⟨o0, o2, o3, o32, o33, o34, o36, o39, o5, o6⟩, ⟨q35, q4, q40, q41, q75, q76, q77, q78, q79, q80⟩, ⟨q81, q82, q87, q89, q90, q91, q92, q93⟩⟩ := F
  refine ⟨(-1), S, S, _, ?_, ?_, rfl, o39⟩
  · refine am_q1 (v := a) hi_33_0 rfl ?_
    refine am_q32 (v := some (.int 0)) (S1 := S) (as := [.int a]) (la := [some (.int a)]) (rest := []) hi_33_1 (Nat.le_of_ble_eq_true rfl) (Nat.le_of_ble_eq_true rfl) (show 1 ≤ am_P0.2.2.1 34 from by decide +kernel) rfl rfl rfl rfl ?_ ?_
    · refine am_q1 (v := a) hi_34_0 rfl ?_
      refine am_q0 hi_34_1 ?_
      refine am_q13f hi_34_2 (am_cF (m := a.toInt) (n := (1 : Int)) rfl (by decide) (by simp only [am_cI]; omega)) ?_
      refine am_q1 (v := a) hi_34_5 rfl ?_
      refine am_q0 hi_34_6 ?_
      refine am_q13f hi_34_7 (am_cF (m := a.toInt) (n := (3 : Int)) rfl (by decide) (by simp only [am_cI]; omega)) ?_
      refine am_q1 (v := a) hi_34_10 rfl ?_
      refine am_q0 hi_34_11 ?_
      refine am_q13f hi_34_13 (am_cF (m := a.toInt) (n := (10 : Int)) rfl (by decide) (by simp only [am_cI]; omega)) ?_
      refine am_q1 (v := a) hi_34_16 rfl ?_
      refine am_q0 hi_34_17 ?_
      refine am_q13f hi_34_19 (am_cF (m := a.toInt) (n := (31 : Int)) rfl (by decide) (by simp only [am_cI]; omega)) ?_
      refine am_q1 (v := a) hi_34_22 rfl ?_
      refine am_q0 hi_34_23 ?_
      refine am_q13f hi_34_25 (am_cF (m := a.toInt) (n := (40 : Int)) rfl (by decide) (by simp only [am_cI]; omega)) ?_
      refine am_q1 (v := a) hi_34_28 rfl ?_
      refine am_q0 hi_34_29 ?_
      refine am_q13t hi_34_31 (am_cT (m := a.toInt) (n := (72 : Int)) rfl (by decide) (by simp only [am_cI]; omega)) ?_
      refine am_q0 hi_34_38 ?_
      exact am_q36 hi_34_39 (by decide)
    show am_R _ _ _ _ [some (.ref 0), some (.int a), some (.int b)] [.int 0] _ _ _
    refine am_q12f hi_33_4 (by decide) ?_
    refine am_q0 hi_33_7 ?_
    exact am_q33 hi_33_8
  · refine am_q1 (v := a) hi_174_0 rfl ?_
    refine am_q0 hi_174_1 ?_
    refine am_q13f hi_174_2 (am_cF (m := a.toInt) (n := (1 : Int)) rfl (by decide) (by simp only [am_cI]; omega)) ?_
    refine am_q1 (v := a) hi_174_5 rfl ?_
    refine am_q0 hi_174_6 ?_
    refine am_q13f hi_174_7 (am_cF (m := a.toInt) (n := (3 : Int)) rfl (by decide) (by simp only [am_cI]; omega)) ?_
    refine am_q1 (v := a) hi_174_10 rfl ?_
    refine am_q0 hi_174_11 ?_
    refine am_q13f hi_174_13 (am_cF (m := a.toInt) (n := (10 : Int)) rfl (by decide) (by simp only [am_cI]; omega)) ?_
    refine am_q1 (v := a) hi_174_16 rfl ?_
    refine am_q0 hi_174_17 ?_
    refine am_q13f hi_174_19 (am_cF (m := a.toInt) (n := (31 : Int)) rfl (by decide) (by simp only [am_cI]; omega)) ?_
    refine am_q1 (v := a) hi_174_22 rfl ?_
    refine am_q0 hi_174_23 ?_
    refine am_q13f hi_174_25 (am_cF (m := a.toInt) (n := (40 : Int)) rfl (by decide) (by simp only [am_cI]; omega)) ?_
    refine am_q1 (v := a) hi_174_28 rfl ?_
    refine am_q0 hi_174_29 ?_
    refine am_q13t hi_174_31 (am_cT (m := a.toInt) (n := (72 : Int)) rfl (by decide) (by simp only [am_cI]; omega)) ?_
    refine am_q0 hi_174_38 ?_
    refine am_q3 (ls' := [some (.ref 39), some (.int a), some (.int b), some (.int 0)]) hi_174_39 (Nat.le_of_ble_eq_true rfl) rfl ?_
    refine am_q1 (v := 0) hi_174_40 rfl ?_
    refine am_q12f hi_174_41 (by decide) ?_
    refine am_q0 hi_174_44 ?_
    exact am_q33 hi_174_45
theorem pw_word {sc : Nat × (Nat → Int32)} {S : am_S} (F : am_F0 S) (a b : Int32) : ∃ (v : Int32) (S1 S2 : am_S) (fs : List Value), am_R (am_PP sc) 59 33 0 [some (.ref 0), some (.int a), some (.int b)] [] S (some (some (.int v))) S1 ∧ am_R (am_PP sc) 59 174 0 [some (.ref 39), some (.int a), some (.int b), none] [] S1 (some (some (.int v))) S2 ∧ S2.2 = S.2 ∧ am_fs S1 39 = some (11, fs) := by
  by_cases h : a.toInt < 1
  · exact pw_word_0 F (by omega)
  · by_cases h : a.toInt < 4
    · exact pw_word_1 F (by omega) (by omega)
    · by_cases h : a.toInt < 10
      · exact pw_word_2 F (by omega) (by omega)
      · by_cases h : a.toInt < 32
        · exact pw_word_3 F (by omega) (by omega)
        · by_cases h : a.toInt < 40
          · exact pw_word_4 F (by omega) (by omega)
          · by_cases h : a.toInt < 73
            · exact pw_word_5 F (by omega) (by omega)
            · exact pw_word_6 F (by omega)
