/-! THE LAW ON ONE CALL (printed by wip/p1/gen26.py) -/
theorem lw_short0 {sc : Nat × (Nat → Int32)} {S : am_S} (hL : sc.1 = 0) : am_R (am_PP sc) 60 278 18 [some (.long 2), some (.ref 0), some (.ref 39), some (.int 0)] [] S (some (some (.int 1))) S := by
  refine am_q1 (v := 0) hi_278_18 rfl ?_
  refine am_q2l hi_278_19 rfl ?_
  refine am_q24s (z := 0) hi_278_20 (by show sc.1 ≤ 2048; rw [hL]; decide) (by show Int32.ofNat sc.1 = 0; rw [hL]; decide) ?_
  refine am_q0 hi_278_21 ?_
  refine am_q10 (z := (-4)) hi_278_22 (by decide) ?_
  refine am_q13t hi_278_23 (by decide) ?_
  refine am_q0 hi_278_317 ?_
  exact am_q36 hi_278_318 (by decide)
theorem lw_short1 {sc : Nat × (Nat → Int32)} {S : am_S} (hL : sc.1 = 1) : am_R (am_PP sc) 60 278 18 [some (.long 2), some (.ref 0), some (.ref 39), some (.int 0)] [] S (some (some (.int 1))) S := by
  refine am_q1 (v := 0) hi_278_18 rfl ?_
  refine am_q2l hi_278_19 rfl ?_
  refine am_q24s (z := 1) hi_278_20 (by show sc.1 ≤ 2048; rw [hL]; decide) (by show Int32.ofNat sc.1 = 1; rw [hL]; decide) ?_
  refine am_q0 hi_278_21 ?_
  refine am_q10 (z := (-3)) hi_278_22 (by decide) ?_
  refine am_q13t hi_278_23 (by decide) ?_
  refine am_q0 hi_278_317 ?_
  exact am_q36 hi_278_318 (by decide)
theorem lw_short2 {sc : Nat × (Nat → Int32)} {S : am_S} (hL : sc.1 = 2) : am_R (am_PP sc) 60 278 18 [some (.long 2), some (.ref 0), some (.ref 39), some (.int 0)] [] S (some (some (.int 1))) S := by
  refine am_q1 (v := 0) hi_278_18 rfl ?_
  refine am_q2l hi_278_19 rfl ?_
  refine am_q24s (z := 2) hi_278_20 (by show sc.1 ≤ 2048; rw [hL]; decide) (by show Int32.ofNat sc.1 = 2; rw [hL]; decide) ?_
  refine am_q0 hi_278_21 ?_
  refine am_q10 (z := (-2)) hi_278_22 (by decide) ?_
  refine am_q13t hi_278_23 (by decide) ?_
  refine am_q0 hi_278_317 ?_
  exact am_q36 hi_278_318 (by decide)
theorem lw_short3 {sc : Nat × (Nat → Int32)} {S : am_S} (hL : sc.1 = 3) : am_R (am_PP sc) 60 278 18 [some (.long 2), some (.ref 0), some (.ref 39), some (.int 0)] [] S (some (some (.int 1))) S := by
  refine am_q1 (v := 0) hi_278_18 rfl ?_
  refine am_q2l hi_278_19 rfl ?_
  refine am_q24s (z := 3) hi_278_20 (by show sc.1 ≤ 2048; rw [hL]; decide) (by show Int32.ofNat sc.1 = 3; rw [hL]; decide) ?_
  refine am_q0 hi_278_21 ?_
  refine am_q10 (z := (-1)) hi_278_22 (by decide) ?_
  refine am_q13t hi_278_23 (by decide) ?_
  refine am_q0 hi_278_317 ?_
  exact am_q36 hi_278_318 (by decide)
theorem lw_call_word {sc : Nat × (Nat → Int32)} {S S1 S2 : am_S} {v : Int32} {fs0 fs1 : List Value} (hL : sc.1 = 4) (hsw : am_bin 3 (sc.2 0) 15 = 0) (f0 : am_fs S 0 = some (0, fs0)) (f1 : am_fs S1 39 = some (11, fs1)) (hx : am_R (am_PP sc) 59 33 0 [some (.ref 0), some (.int (sc.2 1)), some (.int (sc.2 2))] [] S (some (some (.int v))) S1) (hm : am_R (am_PP sc) 59 174 0 [some (.ref 39), some (.int (sc.2 1)), some (.int (sc.2 2)), none] [] S1 (some (some (.int v))) S2) : am_R (am_PP sc) 60 278 18 [some (.long 2), some (.ref 0), some (.ref 39), some (.int 0)] [] S (some (some (.int 1))) S2 := by
  refine am_q1 (v := 0) hi_278_18 rfl ?_
  refine am_q2l hi_278_19 rfl ?_
  refine am_q24s (z := 4) hi_278_20 (by show sc.1 ≤ 2048; rw [hL]; decide) (by show Int32.ofNat sc.1 = 4; rw [hL]; decide) ?_
  refine am_q0 hi_278_21 ?_
  refine am_q10 (z := 0) hi_278_22 (by decide) ?_
  refine am_q13f hi_278_23 (by decide) ?_
  refine am_q2l hi_278_26 rfl ?_
  refine am_q1 (v := 0) hi_278_27 rfl ?_
  refine am_q25s (v := sc.2 0) (j := 0) hi_278_28 (by decide) (by decide) (by show 0 < sc.1; rw [hL]; decide) (by show sc.1 ≤ 2048; rw [hL]; decide) rfl ?_
  refine am_q0 hi_278_29 ?_
  refine am_q10 (z := 0) hi_278_31 hsw ?_
  refine am_q19 (t := 84) hi_278_32 (by decide) ?_
  refine am_q2 (v := 0) hi_278_84 rfl ?_
  refine am_q2l hi_278_85 rfl ?_
  refine am_q1 (v := 0) hi_278_86 rfl ?_
  refine am_q0 hi_278_87 ?_
  refine am_q10 (z := 1) hi_278_88 (by decide) ?_
  refine am_q25s (v := sc.2 1) (j := 1) hi_278_89 (by decide) (by decide) (by show 1 < sc.1; rw [hL]; decide) (by show sc.1 ≤ 2048; rw [hL]; decide) rfl ?_
  refine am_q2l hi_278_90 rfl ?_
  refine am_q1 (v := 0) hi_278_91 rfl ?_
  refine am_q0 hi_278_92 ?_
  refine am_q10 (z := 2) hi_278_93 (by decide) ?_
  refine am_q25s (v := sc.2 2) (j := 2) hi_278_94 (by decide) (by decide) (by show 2 < sc.1; rw [hL]; decide) (by show sc.1 ≤ 2048; rw [hL]; decide) rfl ?_
  refine am_q32 (v := some (.int v)) (S1 := S1) (as := [.ref 0, .int (sc.2 1), .int (sc.2 2)]) (la := [some (.ref 0), some (.int (sc.2 1)), some (.int (sc.2 2))]) (rest := []) hi_278_95 (Nat.le_of_ble_eq_true rfl) (Nat.le_of_ble_eq_true rfl) (show 3 ≤ am_P0.2.2.1 33 from by decide +kernel) rfl (am_recv_ok f0) rfl rfl hx ?_
  show am_R _ _ _ _ [some (.long 2), some (.ref 0), some (.ref 39), some (.int 0)] [.int v] _ _ _
  refine am_q2 (v := 39) hi_278_98 rfl ?_
  refine am_q2l hi_278_99 rfl ?_
  refine am_q1 (v := 0) hi_278_100 rfl ?_
  refine am_q0 hi_278_101 ?_
  refine am_q10 (z := 1) hi_278_102 (by decide) ?_
  refine am_q25s (v := sc.2 1) (j := 1) hi_278_103 (by decide) (by decide) (by show 1 < sc.1; rw [hL]; decide) (by show sc.1 ≤ 2048; rw [hL]; decide) rfl ?_
  refine am_q2l hi_278_104 rfl ?_
  refine am_q1 (v := 0) hi_278_105 rfl ?_
  refine am_q0 hi_278_106 ?_
  refine am_q10 (z := 2) hi_278_107 (by decide) ?_
  refine am_q25s (v := sc.2 2) (j := 2) hi_278_108 (by decide) (by decide) (by show 2 < sc.1; rw [hL]; decide) (by show sc.1 ≤ 2048; rw [hL]; decide) rfl ?_
  refine am_q32 (v := some (.int v)) (S1 := S2) (as := [.ref 39, .int (sc.2 1), .int (sc.2 2)]) (la := [some (.ref 39), some (.int (sc.2 1)), some (.int (sc.2 2)), none]) (rest := [.int v]) hi_278_109 (Nat.le_of_ble_eq_true rfl) (Nat.le_of_ble_eq_true rfl) (show 3 ≤ am_P0.2.2.1 174 from by decide +kernel) rfl (am_recv_ok f1) rfl rfl hm ?_
  show am_R _ _ _ _ [some (.long 2), some (.ref 0), some (.ref 39), some (.int 0)] [.int v, .int v] _ _ _
  refine am_q13t hi_278_112 (by simp [am_cmp]) ?_
  refine am_q5 (v := 0) (z := 4) (ls' := [some (.long 2), some (.ref 0), some (.ref 39), some (.int 4)]) hi_278_311 rfl (by decide) rfl ?_
  refine am_q18 hi_278_314 ?_
  refine am_q1 (v := 4) hi_278_18 rfl ?_
  refine am_q2l hi_278_19 rfl ?_
  refine am_q24s (z := 4) hi_278_20 (by show sc.1 ≤ 2048; rw [hL]; decide) (by show Int32.ofNat sc.1 = 4; rw [hL]; decide) ?_
  refine am_q0 hi_278_21 ?_
  refine am_q10 (z := 0) hi_278_22 (by decide) ?_
  refine am_q13t hi_278_23 (by decide) ?_
  refine am_q0 hi_278_317 ?_
  exact am_q36 hi_278_318 (by decide)
theorem lw_call_compile {sc : Nat × (Nat → Int32)} {S S1 S2 : am_S} {v : Int32} {fs0 fs1 : List Value} (hL : sc.1 = 4) (hsw : am_bin 3 (sc.2 0) 15 = 1) (f0 : am_fs S 0 = some (0, fs0)) (f1 : am_fs S1 39 = some (11, fs1)) (hx : am_R (am_PP sc) 59 38 0 [some (.ref 0), none] [] S (some (some (.int v))) S1) (hm : am_R (am_PP sc) 59 175 0 [some (.ref 39), none] [] S1 (some (some (.int v))) S2) : am_R (am_PP sc) 60 278 18 [some (.long 2), some (.ref 0), some (.ref 39), some (.int 0)] [] S (some (some (.int 1))) S2 := by
  refine am_q1 (v := 0) hi_278_18 rfl ?_
  refine am_q2l hi_278_19 rfl ?_
  refine am_q24s (z := 4) hi_278_20 (by show sc.1 ≤ 2048; rw [hL]; decide) (by show Int32.ofNat sc.1 = 4; rw [hL]; decide) ?_
  refine am_q0 hi_278_21 ?_
  refine am_q10 (z := 0) hi_278_22 (by decide) ?_
  refine am_q13f hi_278_23 (by decide) ?_
  refine am_q2l hi_278_26 rfl ?_
  refine am_q1 (v := 0) hi_278_27 rfl ?_
  refine am_q25s (v := sc.2 0) (j := 0) hi_278_28 (by decide) (by decide) (by show 0 < sc.1; rw [hL]; decide) (by show sc.1 ≤ 2048; rw [hL]; decide) rfl ?_
  refine am_q0 hi_278_29 ?_
  refine am_q10 (z := 1) hi_278_31 hsw ?_
  refine am_q19 (t := 117) hi_278_32 (by decide) ?_
  refine am_q2 (v := 0) hi_278_117 rfl ?_
  refine am_q32 (v := some (.int v)) (S1 := S1) (as := [.ref 0]) (la := [some (.ref 0), none]) (rest := []) hi_278_118 (Nat.le_of_ble_eq_true rfl) (Nat.le_of_ble_eq_true rfl) (show 1 ≤ am_P0.2.2.1 38 from by decide +kernel) rfl (am_recv_ok f0) rfl rfl hx ?_
  show am_R _ _ _ _ [some (.long 2), some (.ref 0), some (.ref 39), some (.int 0)] [.int v] _ _ _
  refine am_q2 (v := 39) hi_278_121 rfl ?_
  refine am_q32 (v := some (.int v)) (S1 := S2) (as := [.ref 39]) (la := [some (.ref 39), none]) (rest := [.int v]) hi_278_122 (Nat.le_of_ble_eq_true rfl) (Nat.le_of_ble_eq_true rfl) (show 1 ≤ am_P0.2.2.1 175 from by decide +kernel) rfl (am_recv_ok f1) rfl rfl hm ?_
  show am_R _ _ _ _ [some (.long 2), some (.ref 0), some (.ref 39), some (.int 0)] [.int v, .int v] _ _ _
  refine am_q13t hi_278_125 (by simp [am_cmp]) ?_
  refine am_q5 (v := 0) (z := 4) (ls' := [some (.long 2), some (.ref 0), some (.ref 39), some (.int 4)]) hi_278_311 rfl (by decide) rfl ?_
  refine am_q18 hi_278_314 ?_
  refine am_q1 (v := 4) hi_278_18 rfl ?_
  refine am_q2l hi_278_19 rfl ?_
  refine am_q24s (z := 4) hi_278_20 (by show sc.1 ≤ 2048; rw [hL]; decide) (by show Int32.ofNat sc.1 = 4; rw [hL]; decide) ?_
  refine am_q0 hi_278_21 ?_
  refine am_q10 (z := 0) hi_278_22 (by decide) ?_
  refine am_q13t hi_278_23 (by decide) ?_
  refine am_q0 hi_278_317 ?_
  exact am_q36 hi_278_318 (by decide)
theorem lw_call_place {sc : Nat × (Nat → Int32)} {S S1 S2 : am_S} {v : Int32} {fs0 fs1 : List Value} (hL : sc.1 = 4) (hsw : am_bin 3 (sc.2 0) 15 = 2) (f0 : am_fs S 0 = some (0, fs0)) (f1 : am_fs S1 39 = some (11, fs1)) (hx : am_R (am_PP sc) 59 156 0 [some (.ref 0)] [] S (some (some (.int v))) S1) (hm : am_R (am_PP sc) 59 267 0 [some (.ref 39)] [] S1 (some (some (.int v))) S2) : am_R (am_PP sc) 60 278 18 [some (.long 2), some (.ref 0), some (.ref 39), some (.int 0)] [] S (some (some (.int 1))) S2 := by
  refine am_q1 (v := 0) hi_278_18 rfl ?_
  refine am_q2l hi_278_19 rfl ?_
  refine am_q24s (z := 4) hi_278_20 (by show sc.1 ≤ 2048; rw [hL]; decide) (by show Int32.ofNat sc.1 = 4; rw [hL]; decide) ?_
  refine am_q0 hi_278_21 ?_
  refine am_q10 (z := 0) hi_278_22 (by decide) ?_
  refine am_q13f hi_278_23 (by decide) ?_
  refine am_q2l hi_278_26 rfl ?_
  refine am_q1 (v := 0) hi_278_27 rfl ?_
  refine am_q25s (v := sc.2 0) (j := 0) hi_278_28 (by decide) (by decide) (by show 0 < sc.1; rw [hL]; decide) (by show sc.1 ≤ 2048; rw [hL]; decide) rfl ?_
  refine am_q0 hi_278_29 ?_
  refine am_q10 (z := 2) hi_278_31 hsw ?_
  refine am_q19 (t := 130) hi_278_32 (by decide) ?_
  refine am_q2 (v := 0) hi_278_130 rfl ?_
  refine am_q32 (v := some (.int v)) (S1 := S1) (as := [.ref 0]) (la := [some (.ref 0)]) (rest := []) hi_278_131 (Nat.le_of_ble_eq_true rfl) (Nat.le_of_ble_eq_true rfl) (show 1 ≤ am_P0.2.2.1 156 from by decide +kernel) rfl (am_recv_ok f0) rfl rfl hx ?_
  show am_R _ _ _ _ [some (.long 2), some (.ref 0), some (.ref 39), some (.int 0)] [.int v] _ _ _
  refine am_q2 (v := 39) hi_278_134 rfl ?_
  refine am_q32 (v := some (.int v)) (S1 := S2) (as := [.ref 39]) (la := [some (.ref 39)]) (rest := [.int v]) hi_278_135 (Nat.le_of_ble_eq_true rfl) (Nat.le_of_ble_eq_true rfl) (show 1 ≤ am_P0.2.2.1 267 from by decide +kernel) rfl (am_recv_ok f1) rfl rfl hm ?_
  show am_R _ _ _ _ [some (.long 2), some (.ref 0), some (.ref 39), some (.int 0)] [.int v, .int v] _ _ _
  refine am_q13t hi_278_138 (by simp [am_cmp]) ?_
  refine am_q5 (v := 0) (z := 4) (ls' := [some (.long 2), some (.ref 0), some (.ref 39), some (.int 4)]) hi_278_311 rfl (by decide) rfl ?_
  refine am_q18 hi_278_314 ?_
  refine am_q1 (v := 4) hi_278_18 rfl ?_
  refine am_q2l hi_278_19 rfl ?_
  refine am_q24s (z := 4) hi_278_20 (by show sc.1 ≤ 2048; rw [hL]; decide) (by show Int32.ofNat sc.1 = 4; rw [hL]; decide) ?_
  refine am_q0 hi_278_21 ?_
  refine am_q10 (z := 0) hi_278_22 (by decide) ?_
  refine am_q13t hi_278_23 (by decide) ?_
  refine am_q0 hi_278_317 ?_
  exact am_q36 hi_278_318 (by decide)
theorem lw_call_functions {sc : Nat × (Nat → Int32)} {S S1 S2 : am_S} {v : Int32} {fs0 fs1 : List Value} (hL : sc.1 = 4) (hsw : am_bin 3 (sc.2 0) 15 = 3) (f0 : am_fs S 0 = some (0, fs0)) (f1 : am_fs S1 39 = some (11, fs1)) (hx : am_R (am_PP sc) 59 157 0 [some (.ref 0)] [] S (some (some (.int v))) S1) (hm : am_R (am_PP sc) 59 268 0 [some (.ref 39)] [] S1 (some (some (.int v))) S2) : am_R (am_PP sc) 60 278 18 [some (.long 2), some (.ref 0), some (.ref 39), some (.int 0)] [] S (some (some (.int 1))) S2 := by
  refine am_q1 (v := 0) hi_278_18 rfl ?_
  refine am_q2l hi_278_19 rfl ?_
  refine am_q24s (z := 4) hi_278_20 (by show sc.1 ≤ 2048; rw [hL]; decide) (by show Int32.ofNat sc.1 = 4; rw [hL]; decide) ?_
  refine am_q0 hi_278_21 ?_
  refine am_q10 (z := 0) hi_278_22 (by decide) ?_
  refine am_q13f hi_278_23 (by decide) ?_
  refine am_q2l hi_278_26 rfl ?_
  refine am_q1 (v := 0) hi_278_27 rfl ?_
  refine am_q25s (v := sc.2 0) (j := 0) hi_278_28 (by decide) (by decide) (by show 0 < sc.1; rw [hL]; decide) (by show sc.1 ≤ 2048; rw [hL]; decide) rfl ?_
  refine am_q0 hi_278_29 ?_
  refine am_q10 (z := 3) hi_278_31 hsw ?_
  refine am_q19 (t := 143) hi_278_32 (by decide) ?_
  refine am_q2 (v := 0) hi_278_143 rfl ?_
  refine am_q32 (v := some (.int v)) (S1 := S1) (as := [.ref 0]) (la := [some (.ref 0)]) (rest := []) hi_278_144 (Nat.le_of_ble_eq_true rfl) (Nat.le_of_ble_eq_true rfl) (show 1 ≤ am_P0.2.2.1 157 from by decide +kernel) rfl (am_recv_ok f0) rfl rfl hx ?_
  show am_R _ _ _ _ [some (.long 2), some (.ref 0), some (.ref 39), some (.int 0)] [.int v] _ _ _
  refine am_q2 (v := 39) hi_278_147 rfl ?_
  refine am_q32 (v := some (.int v)) (S1 := S2) (as := [.ref 39]) (la := [some (.ref 39)]) (rest := [.int v]) hi_278_148 (Nat.le_of_ble_eq_true rfl) (Nat.le_of_ble_eq_true rfl) (show 1 ≤ am_P0.2.2.1 268 from by decide +kernel) rfl (am_recv_ok f1) rfl rfl hm ?_
  show am_R _ _ _ _ [some (.long 2), some (.ref 0), some (.ref 39), some (.int 0)] [.int v, .int v] _ _ _
  refine am_q13t hi_278_151 (by simp [am_cmp]) ?_
  refine am_q5 (v := 0) (z := 4) (ls' := [some (.long 2), some (.ref 0), some (.ref 39), some (.int 4)]) hi_278_311 rfl (by decide) rfl ?_
  refine am_q18 hi_278_314 ?_
  refine am_q1 (v := 4) hi_278_18 rfl ?_
  refine am_q2l hi_278_19 rfl ?_
  refine am_q24s (z := 4) hi_278_20 (by show sc.1 ≤ 2048; rw [hL]; decide) (by show Int32.ofNat sc.1 = 4; rw [hL]; decide) ?_
  refine am_q0 hi_278_21 ?_
  refine am_q10 (z := 0) hi_278_22 (by decide) ?_
  refine am_q13t hi_278_23 (by decide) ?_
  refine am_q0 hi_278_317 ?_
  exact am_q36 hi_278_318 (by decide)
theorem lw_call_function {sc : Nat × (Nat → Int32)} {S S1 S2 : am_S} {v : Int32} {fs0 fs1 : List Value} (hL : sc.1 = 4) (hsw : am_bin 3 (sc.2 0) 15 = 4) (f0 : am_fs S 0 = some (0, fs0)) (f1 : am_fs S1 39 = some (11, fs1)) (hx : am_R (am_PP sc) 59 158 0 [some (.ref 0), some (.int (sc.2 1)), some (.int (sc.2 2)), none] [] S (some (some (.int v))) S1) (hm : am_R (am_PP sc) 59 269 0 [some (.ref 39), some (.int (sc.2 1)), some (.int (sc.2 2))] [] S1 (some (some (.int v))) S2) : am_R (am_PP sc) 60 278 18 [some (.long 2), some (.ref 0), some (.ref 39), some (.int 0)] [] S (some (some (.int 1))) S2 := by
  refine am_q1 (v := 0) hi_278_18 rfl ?_
  refine am_q2l hi_278_19 rfl ?_
  refine am_q24s (z := 4) hi_278_20 (by show sc.1 ≤ 2048; rw [hL]; decide) (by show Int32.ofNat sc.1 = 4; rw [hL]; decide) ?_
  refine am_q0 hi_278_21 ?_
  refine am_q10 (z := 0) hi_278_22 (by decide) ?_
  refine am_q13f hi_278_23 (by decide) ?_
  refine am_q2l hi_278_26 rfl ?_
  refine am_q1 (v := 0) hi_278_27 rfl ?_
  refine am_q25s (v := sc.2 0) (j := 0) hi_278_28 (by decide) (by decide) (by show 0 < sc.1; rw [hL]; decide) (by show sc.1 ≤ 2048; rw [hL]; decide) rfl ?_
  refine am_q0 hi_278_29 ?_
  refine am_q10 (z := 4) hi_278_31 hsw ?_
  refine am_q19 (t := 156) hi_278_32 (by decide) ?_
  refine am_q2 (v := 0) hi_278_156 rfl ?_
  refine am_q2l hi_278_157 rfl ?_
  refine am_q1 (v := 0) hi_278_158 rfl ?_
  refine am_q0 hi_278_159 ?_
  refine am_q10 (z := 1) hi_278_160 (by decide) ?_
  refine am_q25s (v := sc.2 1) (j := 1) hi_278_161 (by decide) (by decide) (by show 1 < sc.1; rw [hL]; decide) (by show sc.1 ≤ 2048; rw [hL]; decide) rfl ?_
  refine am_q2l hi_278_162 rfl ?_
  refine am_q1 (v := 0) hi_278_163 rfl ?_
  refine am_q0 hi_278_164 ?_
  refine am_q10 (z := 2) hi_278_165 (by decide) ?_
  refine am_q25s (v := sc.2 2) (j := 2) hi_278_166 (by decide) (by decide) (by show 2 < sc.1; rw [hL]; decide) (by show sc.1 ≤ 2048; rw [hL]; decide) rfl ?_
  refine am_q32 (v := some (.int v)) (S1 := S1) (as := [.ref 0, .int (sc.2 1), .int (sc.2 2)]) (la := [some (.ref 0), some (.int (sc.2 1)), some (.int (sc.2 2)), none]) (rest := []) hi_278_167 (Nat.le_of_ble_eq_true rfl) (Nat.le_of_ble_eq_true rfl) (show 3 ≤ am_P0.2.2.1 158 from by decide +kernel) rfl (am_recv_ok f0) rfl rfl hx ?_
  show am_R _ _ _ _ [some (.long 2), some (.ref 0), some (.ref 39), some (.int 0)] [.int v] _ _ _
  refine am_q2 (v := 39) hi_278_170 rfl ?_
  refine am_q2l hi_278_171 rfl ?_
  refine am_q1 (v := 0) hi_278_172 rfl ?_
  refine am_q0 hi_278_173 ?_
  refine am_q10 (z := 1) hi_278_174 (by decide) ?_
  refine am_q25s (v := sc.2 1) (j := 1) hi_278_175 (by decide) (by decide) (by show 1 < sc.1; rw [hL]; decide) (by show sc.1 ≤ 2048; rw [hL]; decide) rfl ?_
  refine am_q2l hi_278_176 rfl ?_
  refine am_q1 (v := 0) hi_278_177 rfl ?_
  refine am_q0 hi_278_178 ?_
  refine am_q10 (z := 2) hi_278_179 (by decide) ?_
  refine am_q25s (v := sc.2 2) (j := 2) hi_278_180 (by decide) (by decide) (by show 2 < sc.1; rw [hL]; decide) (by show sc.1 ≤ 2048; rw [hL]; decide) rfl ?_
  refine am_q32 (v := some (.int v)) (S1 := S2) (as := [.ref 39, .int (sc.2 1), .int (sc.2 2)]) (la := [some (.ref 39), some (.int (sc.2 1)), some (.int (sc.2 2))]) (rest := [.int v]) hi_278_181 (Nat.le_of_ble_eq_true rfl) (Nat.le_of_ble_eq_true rfl) (show 3 ≤ am_P0.2.2.1 269 from by decide +kernel) rfl (am_recv_ok f1) rfl rfl hm ?_
  show am_R _ _ _ _ [some (.long 2), some (.ref 0), some (.ref 39), some (.int 0)] [.int v, .int v] _ _ _
  refine am_q13t hi_278_184 (by simp [am_cmp]) ?_
  refine am_q5 (v := 0) (z := 4) (ls' := [some (.long 2), some (.ref 0), some (.ref 39), some (.int 4)]) hi_278_311 rfl (by decide) rfl ?_
  refine am_q18 hi_278_314 ?_
  refine am_q1 (v := 4) hi_278_18 rfl ?_
  refine am_q2l hi_278_19 rfl ?_
  refine am_q24s (z := 4) hi_278_20 (by show sc.1 ≤ 2048; rw [hL]; decide) (by show Int32.ofNat sc.1 = 4; rw [hL]; decide) ?_
  refine am_q0 hi_278_21 ?_
  refine am_q10 (z := 0) hi_278_22 (by decide) ?_
  refine am_q13t hi_278_23 (by decide) ?_
  refine am_q0 hi_278_317 ?_
  exact am_q36 hi_278_318 (by decide)
theorem lw_call_outer {sc : Nat × (Nat → Int32)} {S S1 S2 : am_S} {v : Int32} {fs0 fs1 : List Value} (hL : sc.1 = 4) (hsw : am_bin 3 (sc.2 0) 15 = 5) (f0 : am_fs S 0 = some (0, fs0)) (f1 : am_fs S1 39 = some (11, fs1)) (hx : am_R (am_PP sc) 59 160 0 [some (.ref 0), some (.int (sc.2 1)), some (.int (sc.2 2)), some (.int (sc.2 3)), none] [] S (some (some (.int v))) S1) (hm : am_R (am_PP sc) 59 271 0 [some (.ref 39), some (.int (sc.2 1)), some (.int (sc.2 2)), some (.int (sc.2 3)), none, none] [] S1 (some (some (.int v))) S2) : am_R (am_PP sc) 60 278 18 [some (.long 2), some (.ref 0), some (.ref 39), some (.int 0)] [] S (some (some (.int 1))) S2 := by
  refine am_q1 (v := 0) hi_278_18 rfl ?_
  refine am_q2l hi_278_19 rfl ?_
  refine am_q24s (z := 4) hi_278_20 (by show sc.1 ≤ 2048; rw [hL]; decide) (by show Int32.ofNat sc.1 = 4; rw [hL]; decide) ?_
  refine am_q0 hi_278_21 ?_
  refine am_q10 (z := 0) hi_278_22 (by decide) ?_
  refine am_q13f hi_278_23 (by decide) ?_
  refine am_q2l hi_278_26 rfl ?_
  refine am_q1 (v := 0) hi_278_27 rfl ?_
  refine am_q25s (v := sc.2 0) (j := 0) hi_278_28 (by decide) (by decide) (by show 0 < sc.1; rw [hL]; decide) (by show sc.1 ≤ 2048; rw [hL]; decide) rfl ?_
  refine am_q0 hi_278_29 ?_
  refine am_q10 (z := 5) hi_278_31 hsw ?_
  refine am_q19 (t := 189) hi_278_32 (by decide) ?_
  refine am_q2 (v := 0) hi_278_189 rfl ?_
  refine am_q2l hi_278_190 rfl ?_
  refine am_q1 (v := 0) hi_278_191 rfl ?_
  refine am_q0 hi_278_192 ?_
  refine am_q10 (z := 1) hi_278_193 (by decide) ?_
  refine am_q25s (v := sc.2 1) (j := 1) hi_278_194 (by decide) (by decide) (by show 1 < sc.1; rw [hL]; decide) (by show sc.1 ≤ 2048; rw [hL]; decide) rfl ?_
  refine am_q2l hi_278_195 rfl ?_
  refine am_q1 (v := 0) hi_278_196 rfl ?_
  refine am_q0 hi_278_197 ?_
  refine am_q10 (z := 2) hi_278_198 (by decide) ?_
  refine am_q25s (v := sc.2 2) (j := 2) hi_278_199 (by decide) (by decide) (by show 2 < sc.1; rw [hL]; decide) (by show sc.1 ≤ 2048; rw [hL]; decide) rfl ?_
  refine am_q2l hi_278_200 rfl ?_
  refine am_q1 (v := 0) hi_278_201 rfl ?_
  refine am_q0 hi_278_202 ?_
  refine am_q10 (z := 3) hi_278_203 (by decide) ?_
  refine am_q25s (v := sc.2 3) (j := 3) hi_278_204 (by decide) (by decide) (by show 3 < sc.1; rw [hL]; decide) (by show sc.1 ≤ 2048; rw [hL]; decide) rfl ?_
  refine am_q32 (v := some (.int v)) (S1 := S1) (as := [.ref 0, .int (sc.2 1), .int (sc.2 2), .int (sc.2 3)]) (la := [some (.ref 0), some (.int (sc.2 1)), some (.int (sc.2 2)), some (.int (sc.2 3)), none]) (rest := []) hi_278_205 (Nat.le_of_ble_eq_true rfl) (Nat.le_of_ble_eq_true rfl) (show 4 ≤ am_P0.2.2.1 160 from by decide +kernel) rfl (am_recv_ok f0) rfl rfl hx ?_
  show am_R _ _ _ _ [some (.long 2), some (.ref 0), some (.ref 39), some (.int 0)] [.int v] _ _ _
  refine am_q2 (v := 39) hi_278_208 rfl ?_
  refine am_q2l hi_278_209 rfl ?_
  refine am_q1 (v := 0) hi_278_210 rfl ?_
  refine am_q0 hi_278_211 ?_
  refine am_q10 (z := 1) hi_278_212 (by decide) ?_
  refine am_q25s (v := sc.2 1) (j := 1) hi_278_213 (by decide) (by decide) (by show 1 < sc.1; rw [hL]; decide) (by show sc.1 ≤ 2048; rw [hL]; decide) rfl ?_
  refine am_q2l hi_278_214 rfl ?_
  refine am_q1 (v := 0) hi_278_215 rfl ?_
  refine am_q0 hi_278_216 ?_
  refine am_q10 (z := 2) hi_278_217 (by decide) ?_
  refine am_q25s (v := sc.2 2) (j := 2) hi_278_218 (by decide) (by decide) (by show 2 < sc.1; rw [hL]; decide) (by show sc.1 ≤ 2048; rw [hL]; decide) rfl ?_
  refine am_q2l hi_278_219 rfl ?_
  refine am_q1 (v := 0) hi_278_220 rfl ?_
  refine am_q0 hi_278_221 ?_
  refine am_q10 (z := 3) hi_278_222 (by decide) ?_
  refine am_q25s (v := sc.2 3) (j := 3) hi_278_223 (by decide) (by decide) (by show 3 < sc.1; rw [hL]; decide) (by show sc.1 ≤ 2048; rw [hL]; decide) rfl ?_
  refine am_q32 (v := some (.int v)) (S1 := S2) (as := [.ref 39, .int (sc.2 1), .int (sc.2 2), .int (sc.2 3)]) (la := [some (.ref 39), some (.int (sc.2 1)), some (.int (sc.2 2)), some (.int (sc.2 3)), none, none]) (rest := [.int v]) hi_278_224 (Nat.le_of_ble_eq_true rfl) (Nat.le_of_ble_eq_true rfl) (show 4 ≤ am_P0.2.2.1 271 from by decide +kernel) rfl (am_recv_ok f1) rfl rfl hm ?_
  show am_R _ _ _ _ [some (.long 2), some (.ref 0), some (.ref 39), some (.int 0)] [.int v, .int v] _ _ _
  refine am_q13t hi_278_227 (by simp [am_cmp]) ?_
  refine am_q5 (v := 0) (z := 4) (ls' := [some (.long 2), some (.ref 0), some (.ref 39), some (.int 4)]) hi_278_311 rfl (by decide) rfl ?_
  refine am_q18 hi_278_314 ?_
  refine am_q1 (v := 4) hi_278_18 rfl ?_
  refine am_q2l hi_278_19 rfl ?_
  refine am_q24s (z := 4) hi_278_20 (by show sc.1 ≤ 2048; rw [hL]; decide) (by show Int32.ofNat sc.1 = 4; rw [hL]; decide) ?_
  refine am_q0 hi_278_21 ?_
  refine am_q10 (z := 0) hi_278_22 (by decide) ?_
  refine am_q13t hi_278_23 (by decide) ?_
  refine am_q0 hi_278_317 ?_
  exact am_q36 hi_278_318 (by decide)
theorem lw_call_code {sc : Nat × (Nat → Int32)} {S S1 S2 : am_S} {v : Int32} {fs0 fs1 : List Value} (hL : sc.1 = 4) (hsw : am_bin 3 (sc.2 0) 15 = 6) (f0 : am_fs S 0 = some (0, fs0)) (f1 : am_fs S1 39 = some (11, fs1)) (hx : am_R (am_PP sc) 59 162 0 [some (.ref 0), some (.int (sc.2 1)), some (.int (sc.2 2)), some (.int (sc.2 3)), none] [] S (some (some (.int v))) S1) (hm : am_R (am_PP sc) 59 272 0 [some (.ref 39), some (.int (sc.2 1)), some (.int (sc.2 2)), some (.int (sc.2 3)), none] [] S1 (some (some (.int v))) S2) : am_R (am_PP sc) 60 278 18 [some (.long 2), some (.ref 0), some (.ref 39), some (.int 0)] [] S (some (some (.int 1))) S2 := by
  refine am_q1 (v := 0) hi_278_18 rfl ?_
  refine am_q2l hi_278_19 rfl ?_
  refine am_q24s (z := 4) hi_278_20 (by show sc.1 ≤ 2048; rw [hL]; decide) (by show Int32.ofNat sc.1 = 4; rw [hL]; decide) ?_
  refine am_q0 hi_278_21 ?_
  refine am_q10 (z := 0) hi_278_22 (by decide) ?_
  refine am_q13f hi_278_23 (by decide) ?_
  refine am_q2l hi_278_26 rfl ?_
  refine am_q1 (v := 0) hi_278_27 rfl ?_
  refine am_q25s (v := sc.2 0) (j := 0) hi_278_28 (by decide) (by decide) (by show 0 < sc.1; rw [hL]; decide) (by show sc.1 ≤ 2048; rw [hL]; decide) rfl ?_
  refine am_q0 hi_278_29 ?_
  refine am_q10 (z := 6) hi_278_31 hsw ?_
  refine am_q19 (t := 232) hi_278_32 (by decide) ?_
  refine am_q2 (v := 0) hi_278_232 rfl ?_
  refine am_q2l hi_278_233 rfl ?_
  refine am_q1 (v := 0) hi_278_234 rfl ?_
  refine am_q0 hi_278_235 ?_
  refine am_q10 (z := 1) hi_278_236 (by decide) ?_
  refine am_q25s (v := sc.2 1) (j := 1) hi_278_237 (by decide) (by decide) (by show 1 < sc.1; rw [hL]; decide) (by show sc.1 ≤ 2048; rw [hL]; decide) rfl ?_
  refine am_q2l hi_278_238 rfl ?_
  refine am_q1 (v := 0) hi_278_239 rfl ?_
  refine am_q0 hi_278_240 ?_
  refine am_q10 (z := 2) hi_278_241 (by decide) ?_
  refine am_q25s (v := sc.2 2) (j := 2) hi_278_242 (by decide) (by decide) (by show 2 < sc.1; rw [hL]; decide) (by show sc.1 ≤ 2048; rw [hL]; decide) rfl ?_
  refine am_q2l hi_278_243 rfl ?_
  refine am_q1 (v := 0) hi_278_244 rfl ?_
  refine am_q0 hi_278_245 ?_
  refine am_q10 (z := 3) hi_278_246 (by decide) ?_
  refine am_q25s (v := sc.2 3) (j := 3) hi_278_247 (by decide) (by decide) (by show 3 < sc.1; rw [hL]; decide) (by show sc.1 ≤ 2048; rw [hL]; decide) rfl ?_
  refine am_q32 (v := some (.int v)) (S1 := S1) (as := [.ref 0, .int (sc.2 1), .int (sc.2 2), .int (sc.2 3)]) (la := [some (.ref 0), some (.int (sc.2 1)), some (.int (sc.2 2)), some (.int (sc.2 3)), none]) (rest := []) hi_278_248 (Nat.le_of_ble_eq_true rfl) (Nat.le_of_ble_eq_true rfl) (show 4 ≤ am_P0.2.2.1 162 from by decide +kernel) rfl (am_recv_ok f0) rfl rfl hx ?_
  show am_R _ _ _ _ [some (.long 2), some (.ref 0), some (.ref 39), some (.int 0)] [.int v] _ _ _
  refine am_q2 (v := 39) hi_278_251 rfl ?_
  refine am_q2l hi_278_252 rfl ?_
  refine am_q1 (v := 0) hi_278_253 rfl ?_
  refine am_q0 hi_278_254 ?_
  refine am_q10 (z := 1) hi_278_255 (by decide) ?_
  refine am_q25s (v := sc.2 1) (j := 1) hi_278_256 (by decide) (by decide) (by show 1 < sc.1; rw [hL]; decide) (by show sc.1 ≤ 2048; rw [hL]; decide) rfl ?_
  refine am_q2l hi_278_257 rfl ?_
  refine am_q1 (v := 0) hi_278_258 rfl ?_
  refine am_q0 hi_278_259 ?_
  refine am_q10 (z := 2) hi_278_260 (by decide) ?_
  refine am_q25s (v := sc.2 2) (j := 2) hi_278_261 (by decide) (by decide) (by show 2 < sc.1; rw [hL]; decide) (by show sc.1 ≤ 2048; rw [hL]; decide) rfl ?_
  refine am_q2l hi_278_262 rfl ?_
  refine am_q1 (v := 0) hi_278_263 rfl ?_
  refine am_q0 hi_278_264 ?_
  refine am_q10 (z := 3) hi_278_265 (by decide) ?_
  refine am_q25s (v := sc.2 3) (j := 3) hi_278_266 (by decide) (by decide) (by show 3 < sc.1; rw [hL]; decide) (by show sc.1 ≤ 2048; rw [hL]; decide) rfl ?_
  refine am_q32 (v := some (.int v)) (S1 := S2) (as := [.ref 39, .int (sc.2 1), .int (sc.2 2), .int (sc.2 3)]) (la := [some (.ref 39), some (.int (sc.2 1)), some (.int (sc.2 2)), some (.int (sc.2 3)), none]) (rest := [.int v]) hi_278_267 (Nat.le_of_ble_eq_true rfl) (Nat.le_of_ble_eq_true rfl) (show 4 ≤ am_P0.2.2.1 272 from by decide +kernel) rfl (am_recv_ok f1) rfl rfl hm ?_
  show am_R _ _ _ _ [some (.long 2), some (.ref 0), some (.ref 39), some (.int 0)] [.int v, .int v] _ _ _
  refine am_q13t hi_278_270 (by simp [am_cmp]) ?_
  refine am_q5 (v := 0) (z := 4) (ls' := [some (.long 2), some (.ref 0), some (.ref 39), some (.int 4)]) hi_278_311 rfl (by decide) rfl ?_
  refine am_q18 hi_278_314 ?_
  refine am_q1 (v := 4) hi_278_18 rfl ?_
  refine am_q2l hi_278_19 rfl ?_
  refine am_q24s (z := 4) hi_278_20 (by show sc.1 ≤ 2048; rw [hL]; decide) (by show Int32.ofNat sc.1 = 4; rw [hL]; decide) ?_
  refine am_q0 hi_278_21 ?_
  refine am_q10 (z := 0) hi_278_22 (by decide) ?_
  refine am_q13t hi_278_23 (by decide) ?_
  refine am_q0 hi_278_317 ?_
  exact am_q36 hi_278_318 (by decide)
theorem lw_call_depth {sc : Nat × (Nat → Int32)} {S S1 S2 : am_S} {v : Int32} {fs0 fs1 : List Value} (hL : sc.1 = 4) (hsw : am_bin 3 (sc.2 0) 15 = 7) (f0 : am_fs S 0 = some (0, fs0)) (f1 : am_fs S1 39 = some (11, fs1)) (hx : am_R (am_PP sc) 59 163 0 [some (.ref 0), some (.int (sc.2 1)), none] [] S (some (some (.int v))) S1) (hm : am_R (am_PP sc) 59 273 0 [some (.ref 39), some (.int (sc.2 1)), none, none, none, none] [] S1 (some (some (.int v))) S2) : am_R (am_PP sc) 60 278 18 [some (.long 2), some (.ref 0), some (.ref 39), some (.int 0)] [] S (some (some (.int 1))) S2 := by
  refine am_q1 (v := 0) hi_278_18 rfl ?_
  refine am_q2l hi_278_19 rfl ?_
  refine am_q24s (z := 4) hi_278_20 (by show sc.1 ≤ 2048; rw [hL]; decide) (by show Int32.ofNat sc.1 = 4; rw [hL]; decide) ?_
  refine am_q0 hi_278_21 ?_
  refine am_q10 (z := 0) hi_278_22 (by decide) ?_
  refine am_q13f hi_278_23 (by decide) ?_
  refine am_q2l hi_278_26 rfl ?_
  refine am_q1 (v := 0) hi_278_27 rfl ?_
  refine am_q25s (v := sc.2 0) (j := 0) hi_278_28 (by decide) (by decide) (by show 0 < sc.1; rw [hL]; decide) (by show sc.1 ≤ 2048; rw [hL]; decide) rfl ?_
  refine am_q0 hi_278_29 ?_
  refine am_q10 (z := 7) hi_278_31 hsw ?_
  refine am_q19 (t := 275) hi_278_32 (by decide) ?_
  refine am_q2 (v := 0) hi_278_275 rfl ?_
  refine am_q2l hi_278_276 rfl ?_
  refine am_q1 (v := 0) hi_278_277 rfl ?_
  refine am_q0 hi_278_278 ?_
  refine am_q10 (z := 1) hi_278_279 (by decide) ?_
  refine am_q25s (v := sc.2 1) (j := 1) hi_278_280 (by decide) (by decide) (by show 1 < sc.1; rw [hL]; decide) (by show sc.1 ≤ 2048; rw [hL]; decide) rfl ?_
  refine am_q32 (v := some (.int v)) (S1 := S1) (as := [.ref 0, .int (sc.2 1)]) (la := [some (.ref 0), some (.int (sc.2 1)), none]) (rest := []) hi_278_281 (Nat.le_of_ble_eq_true rfl) (Nat.le_of_ble_eq_true rfl) (show 2 ≤ am_P0.2.2.1 163 from by decide +kernel) rfl (am_recv_ok f0) rfl rfl hx ?_
  show am_R _ _ _ _ [some (.long 2), some (.ref 0), some (.ref 39), some (.int 0)] [.int v] _ _ _
  refine am_q2 (v := 39) hi_278_284 rfl ?_
  refine am_q2l hi_278_285 rfl ?_
  refine am_q1 (v := 0) hi_278_286 rfl ?_
  refine am_q0 hi_278_287 ?_
  refine am_q10 (z := 1) hi_278_288 (by decide) ?_
  refine am_q25s (v := sc.2 1) (j := 1) hi_278_289 (by decide) (by decide) (by show 1 < sc.1; rw [hL]; decide) (by show sc.1 ≤ 2048; rw [hL]; decide) rfl ?_
  refine am_q32 (v := some (.int v)) (S1 := S2) (as := [.ref 39, .int (sc.2 1)]) (la := [some (.ref 39), some (.int (sc.2 1)), none, none, none, none]) (rest := [.int v]) hi_278_290 (Nat.le_of_ble_eq_true rfl) (Nat.le_of_ble_eq_true rfl) (show 2 ≤ am_P0.2.2.1 273 from by decide +kernel) rfl (am_recv_ok f1) rfl rfl hm ?_
  show am_R _ _ _ _ [some (.long 2), some (.ref 0), some (.ref 39), some (.int 0)] [.int v, .int v] _ _ _
  refine am_q13t hi_278_293 (by simp [am_cmp]) ?_
  refine am_q5 (v := 0) (z := 4) (ls' := [some (.long 2), some (.ref 0), some (.ref 39), some (.int 4)]) hi_278_311 rfl (by decide) rfl ?_
  refine am_q18 hi_278_314 ?_
  refine am_q1 (v := 4) hi_278_18 rfl ?_
  refine am_q2l hi_278_19 rfl ?_
  refine am_q24s (z := 4) hi_278_20 (by show sc.1 ≤ 2048; rw [hL]; decide) (by show Int32.ofNat sc.1 = 4; rw [hL]; decide) ?_
  refine am_q0 hi_278_21 ?_
  refine am_q10 (z := 0) hi_278_22 (by decide) ?_
  refine am_q13t hi_278_23 (by decide) ?_
  refine am_q0 hi_278_317 ?_
  exact am_q36 hi_278_318 (by decide)
theorem lw_call_flaws {sc : Nat × (Nat → Int32)} {S S1 S2 : am_S} {v : Int32} {fs0 fs1 : List Value} (hL : sc.1 = 4) (hsw : am_bin 3 (sc.2 0) 15 = 8) (f0 : am_fs S 0 = some (0, fs0)) (f1 : am_fs S1 39 = some (11, fs1)) (hx : am_R (am_PP sc) 59 166 0 [some (.ref 0)] [] S (some (some (.int v))) S1) (hm : am_R (am_PP sc) 59 275 0 [some (.ref 39), none, none, none, none, none, none, none] [] S1 (some (some (.int v))) S2) : am_R (am_PP sc) 60 278 18 [some (.long 2), some (.ref 0), some (.ref 39), some (.int 0)] [] S (some (some (.int 1))) S2 := by
  refine am_q1 (v := 0) hi_278_18 rfl ?_
  refine am_q2l hi_278_19 rfl ?_
  refine am_q24s (z := 4) hi_278_20 (by show sc.1 ≤ 2048; rw [hL]; decide) (by show Int32.ofNat sc.1 = 4; rw [hL]; decide) ?_
  refine am_q0 hi_278_21 ?_
  refine am_q10 (z := 0) hi_278_22 (by decide) ?_
  refine am_q13f hi_278_23 (by decide) ?_
  refine am_q2l hi_278_26 rfl ?_
  refine am_q1 (v := 0) hi_278_27 rfl ?_
  refine am_q25s (v := sc.2 0) (j := 0) hi_278_28 (by decide) (by decide) (by show 0 < sc.1; rw [hL]; decide) (by show sc.1 ≤ 2048; rw [hL]; decide) rfl ?_
  refine am_q0 hi_278_29 ?_
  refine am_q10 (z := 8) hi_278_31 hsw ?_
  refine am_q19 (t := 298) hi_278_32 (by decide) ?_
  refine am_q2 (v := 0) hi_278_298 rfl ?_
  refine am_q32 (v := some (.int v)) (S1 := S1) (as := [.ref 0]) (la := [some (.ref 0)]) (rest := []) hi_278_299 (Nat.le_of_ble_eq_true rfl) (Nat.le_of_ble_eq_true rfl) (show 1 ≤ am_P0.2.2.1 166 from by decide +kernel) rfl (am_recv_ok f0) rfl rfl hx ?_
  show am_R _ _ _ _ [some (.long 2), some (.ref 0), some (.ref 39), some (.int 0)] [.int v] _ _ _
  refine am_q2 (v := 39) hi_278_302 rfl ?_
  refine am_q32 (v := some (.int v)) (S1 := S2) (as := [.ref 39]) (la := [some (.ref 39), none, none, none, none, none, none, none]) (rest := [.int v]) hi_278_303 (Nat.le_of_ble_eq_true rfl) (Nat.le_of_ble_eq_true rfl) (show 1 ≤ am_P0.2.2.1 275 from by decide +kernel) rfl (am_recv_ok f1) rfl rfl hm ?_
  show am_R _ _ _ _ [some (.long 2), some (.ref 0), some (.ref 39), some (.int 0)] [.int v, .int v] _ _ _
  refine am_q13t hi_278_306 (by simp [am_cmp]) ?_
  refine am_q5 (v := 0) (z := 4) (ls' := [some (.long 2), some (.ref 0), some (.ref 39), some (.int 4)]) hi_278_311 rfl (by decide) rfl ?_
  refine am_q18 hi_278_314 ?_
  refine am_q1 (v := 4) hi_278_18 rfl ?_
  refine am_q2l hi_278_19 rfl ?_
  refine am_q24s (z := 4) hi_278_20 (by show sc.1 ≤ 2048; rw [hL]; decide) (by show Int32.ofNat sc.1 = 4; rw [hL]; decide) ?_
  refine am_q0 hi_278_21 ?_
  refine am_q10 (z := 0) hi_278_22 (by decide) ?_
  refine am_q13t hi_278_23 (by decide) ?_
  refine am_q0 hi_278_317 ?_
  exact am_q36 hi_278_318 (by decide)
theorem lw_other {sc : Nat × (Nat → Int32)} {S : am_S} {z : Int32} (hL : sc.1 = 4) (hsw : am_bin 3 (sc.2 0) 15 = z) (h0 : ¬ z = 0) (h1 : ¬ z = 1) (h2 : ¬ z = 2) (h3 : ¬ z = 3) (h4 : ¬ z = 4) (h5 : ¬ z = 5) (h6 : ¬ z = 6) (h7 : ¬ z = 7) (h8 : ¬ z = 8) : am_R (am_PP sc) 60 278 18 [some (.long 2), some (.ref 0), some (.ref 39), some (.int 0)] [] S (some (some (.int 1))) S := by
  refine am_q1 (v := 0) hi_278_18 rfl ?_
  refine am_q2l hi_278_19 rfl ?_
  refine am_q24s (z := 4) hi_278_20 (by show sc.1 ≤ 2048; rw [hL]; decide) (by show Int32.ofNat sc.1 = 4; rw [hL]; decide) ?_
  refine am_q0 hi_278_21 ?_
  refine am_q10 (z := 0) hi_278_22 (by decide) ?_
  refine am_q13f hi_278_23 (by decide) ?_
  refine am_q2l hi_278_26 rfl ?_
  refine am_q1 (v := 0) hi_278_27 rfl ?_
  refine am_q25s (v := sc.2 0) (j := 0) hi_278_28 (by decide) (by decide) (by show 0 < sc.1; rw [hL]; decide) (by show sc.1 ≤ 2048; rw [hL]; decide) rfl ?_
  refine am_q0 hi_278_29 ?_
  refine am_q10 (z := z) hi_278_31 hsw ?_
  refine am_q19 (t := 311) hi_278_32 (by simp only [am_sw, h0, h1, h2, h3, h4, h5, h6, h7, h8, if_false]) ?_
  refine am_q5 (v := 0) (z := 4) (ls' := [some (.long 2), some (.ref 0), some (.ref 39), some (.int 4)]) hi_278_311 rfl (by decide) rfl ?_
  refine am_q18 hi_278_314 ?_
  refine am_q1 (v := 4) hi_278_18 rfl ?_
  refine am_q2l hi_278_19 rfl ?_
  refine am_q24s (z := 4) hi_278_20 (by show sc.1 ≤ 2048; rw [hL]; decide) (by show Int32.ofNat sc.1 = 4; rw [hL]; decide) ?_
  refine am_q0 hi_278_21 ?_
  refine am_q10 (z := 0) hi_278_22 (by decide) ?_
  refine am_q13t hi_278_23 (by decide) ?_
  refine am_q0 hi_278_317 ?_
  exact am_q36 hi_278_318 (by decide)
theorem lw_begin {sc : Nat × (Nat → Int32)} {o : Option (Option Value)} {S' : am_S} (k : am_R (am_PP sc) 60 278 18 [some (.long 2), some (.ref 0), some (.ref 39), some (.int 0)] [] am_S2 o S') : am_R (am_PP sc) 60 278 0 (am_in [.long 2] 4) [] ([], 0, 0) o S' := by
  show am_R _ _ _ _ [some (.long 2), none, none, none] _ _ _ _
  refine am_q22 (k := 0) (S1 := am_z0) hi_278_0 rfl rfl ?_
  refine am_q7 hi_278_3 ?_
  refine am_q32 (v := none) (S1 := am_S1) (as := [.ref 0]) (la := [some (.ref 0), none]) (rest := [.ref 0]) hi_278_4 (Nat.le_of_ble_eq_true rfl) (Nat.le_of_ble_eq_true rfl) (show 1 ≤ am_P0.2.2.1 0 from by decide +kernel) rfl rfl rfl rfl (am_R_sc (am_oS_R am_new1.1)) ?_
  show am_R _ _ _ _ [some (.long 2), none, none, none] [.ref 0] _ _ _
  refine am_q4 (ls' := [some (.long 2), some (.ref 0), none, none]) hi_278_7 (Nat.le_of_ble_eq_true rfl) rfl ?_
  refine am_q22 (k := 39) (S1 := am_z1) hi_278_8 am_new1.2 rfl ?_
  refine am_q7 hi_278_11 ?_
  refine am_q32 (v := none) (S1 := am_S2) (as := [.ref 39]) (la := [some (.ref 39)]) (rest := [.ref 39]) hi_278_12 (Nat.le_of_ble_eq_true rfl) (Nat.le_of_ble_eq_true rfl) (show 1 ≤ am_P0.2.2.1 173 from by decide +kernel) rfl rfl rfl rfl (am_R_sc (am_oS_R am_new2.1)) ?_
  show am_R _ _ _ _ [some (.long 2), some (.ref 0), none, none] [.ref 39] _ _ _
  refine am_q4 (ls' := [some (.long 2), some (.ref 0), some (.ref 39), none]) hi_278_15 (Nat.le_of_ble_eq_true rfl) rfl ?_
  refine am_q0 hi_278_16 ?_
  refine am_q3 (ls' := [some (.long 2), some (.ref 0), some (.ref 39), some (.int 0)]) hi_278_17 (Nat.le_of_ble_eq_true rfl) rfl ?_
  exact k
/-- every script of at most four ints: the law answers 1 -/
theorem lw_all {L : Nat} {xs : Nat → Int32} (hL : L ≤ 4) : ∃ S' : am_S, am_R (am_PP (L, xs)) 60 278 0 (am_in [.long 2] 4) [] ([], 0, 0) (some (some (.int 1))) S' ∧ S'.2.1 ≤ 60002 ∧ S'.2.2 ≤ 8922232 := by
  have b2 : am_S2.2.1 ≤ 60002 ∧ am_S2.2.2 ≤ 8922232 := ⟨by rw [am_new2.2.1]; decide, by rw [am_new2.2.2]; decide⟩
  have F := am_F0_ok
  have hF : ∃ fs0, am_fs am_S2 0 = some (0, fs0) := by
    obtain ⟨⟨e35_0, e35_1, e35_2, e35_3, e75_0, e76_0, e77_0, e78_0, e79_0, e80_0⟩, ⟨e81_0, e82_0, e87_0, e89_0, e90_0, e91_0, e92_0, e93_0, g38, h38_0⟩, ⟨o0, o2, o3, o32, o33, o34, o36, o39, o5, o6⟩, ⟨q35, q4, q40, q41, q75, q76, q77, q78, q79, q80⟩, ⟨q81, q82, q87, q89, q90, q91, q92, q93⟩⟩ := F
    exact ⟨_, o0⟩
  obtain ⟨fs0, f0⟩ := hF
  rcases Nat.lt_or_ge L 4 with h4 | h4
  · match L, h4 with
    | 0, _ => exact ⟨_, lw_begin (lw_short0 rfl), b2⟩
    | 1, _ => exact ⟨_, lw_begin (lw_short1 rfl), b2⟩
    | 2, _ => exact ⟨_, lw_begin (lw_short2 rfl), b2⟩
    | 3, _ => exact ⟨_, lw_begin (lw_short3 rfl), b2⟩
  obtain rfl : L = 4 := by omega
  have hl : ((4, xs) : Nat × (Nat → Int32)).1 = 4 := rfl
  by_cases h0 : am_bin 3 (xs 0) 15 = 0
  · obtain ⟨v, S1, S2, fs, a1, a2, a3, a4⟩ := pw_word (sc := (4, xs)) F (xs 1) (xs 2)
    exact ⟨S2, lw_begin (lw_call_word hl h0 f0 a4 a1 a2), by rw [a3]; exact b2⟩
  by_cases h1 : am_bin 3 (xs 0) 15 = 1
  · obtain ⟨k1, k2, k3, k4, k5⟩ := am_k_compile
    obtain ⟨fs, a4⟩ : ∃ fs, am_fs am_X_compile 39 = some (11, fs) := by
      cases hq : am_fs am_X_compile 39 with
      | none => rw [hq] at k3; cases k3
      | some q =>
        rw [hq] at k3
        obtain ⟨q1, q2⟩ := q
        cases k3
        exact ⟨q2, rfl⟩
    exact ⟨am_Y_compile, lw_begin (lw_call_compile hl h1 f0 a4 (am_R_sc (am_oS_R k1)) (am_R_sc (am_oS_R k2))), k4, k5⟩
  by_cases h2 : am_bin 3 (xs 0) 15 = 2
  · obtain ⟨k1, k2, k3, k4, k5⟩ := am_k_place
    obtain ⟨fs, a4⟩ : ∃ fs, am_fs am_X_place 39 = some (11, fs) := by
      cases hq : am_fs am_X_place 39 with
      | none => rw [hq] at k3; cases k3
      | some q =>
        rw [hq] at k3
        obtain ⟨q1, q2⟩ := q
        cases k3
        exact ⟨q2, rfl⟩
    exact ⟨am_Y_place, lw_begin (lw_call_place hl h2 f0 a4 (am_R_sc (am_oS_R k1)) (am_R_sc (am_oS_R k2))), k4, k5⟩
  by_cases h3 : am_bin 3 (xs 0) 15 = 3
  · obtain ⟨k1, k2, k3, k4, k5⟩ := am_k_functions
    obtain ⟨fs, a4⟩ : ∃ fs, am_fs am_X_functions 39 = some (11, fs) := by
      cases hq : am_fs am_X_functions 39 with
      | none => rw [hq] at k3; cases k3
      | some q =>
        rw [hq] at k3
        obtain ⟨q1, q2⟩ := q
        cases k3
        exact ⟨q2, rfl⟩
    exact ⟨am_Y_functions, lw_begin (lw_call_functions hl h3 f0 a4 (am_R_sc (am_oS_R k1)) (am_R_sc (am_oS_R k2))), k4, k5⟩
  by_cases h4_ : am_bin 3 (xs 0) 15 = 4
  · obtain ⟨v, S1, S2, fs, a1, a2, a3, a4⟩ := pw_function (sc := (4, xs)) F (xs 1) (xs 2)
    exact ⟨S2, lw_begin (lw_call_function hl h4_ f0 a4 a1 a2), by rw [a3]; exact b2⟩
  by_cases h5 : am_bin 3 (xs 0) 15 = 5
  · obtain ⟨v, S1, S2, fs, a1, a2, a3, a4⟩ := pw_outer (sc := (4, xs)) F (xs 1) (xs 2) (xs 3)
    exact ⟨S2, lw_begin (lw_call_outer hl h5 f0 a4 a1 a2), by rw [a3]; exact b2⟩
  by_cases h6 : am_bin 3 (xs 0) 15 = 6
  · obtain ⟨v, S1, S2, fs, a1, a2, a3, a4⟩ := pw_code (sc := (4, xs)) F (xs 1) (xs 2) (xs 3)
    exact ⟨S2, lw_begin (lw_call_code hl h6 f0 a4 a1 a2), by rw [a3]; exact b2⟩
  by_cases h7 : am_bin 3 (xs 0) 15 = 7
  · obtain ⟨v, S1, S2, fs, a1, a2, a3, a4⟩ := pw_depth (sc := (4, xs)) F (xs 1)
    exact ⟨S2, lw_begin (lw_call_depth hl h7 f0 a4 a1 a2), by rw [a3]; exact b2⟩
  by_cases h8 : am_bin 3 (xs 0) 15 = 8
  · obtain ⟨k1, k2, k3, k4, k5⟩ := am_k_flaws
    obtain ⟨fs, a4⟩ : ∃ fs, am_fs am_X_flaws 39 = some (11, fs) := by
      cases hq : am_fs am_X_flaws 39 with
      | none => rw [hq] at k3; cases k3
      | some q =>
        rw [hq] at k3
        obtain ⟨q1, q2⟩ := q
        cases k3
        exact ⟨q2, rfl⟩
    exact ⟨am_Y_flaws, lw_begin (lw_call_flaws hl h8 f0 a4 (am_R_sc (am_oS_R k1)) (am_R_sc (am_oS_R k2))), k4, k5⟩
  exact ⟨_, lw_begin (lw_other hl rfl h0 h1 h2 h3 h4_ h5 h6 h7 h8), b2⟩
