/-! THE REFERENCE: words, faults, levels (printed by wip/p2/ref1.py) -/
section AMH
variable {sc : Nat × (Nat → Int32)}
theorem hi_183_0 : (am_PP sc).1 183 0 = some (2, 0, 0, 0, 0, 1, []) := am_h (by decide +kernel)
theorem hi_183_1 : (am_PP sc).1 183 1 = some (2, 0, 0, 0, 0, 2, []) := am_h (by decide +kernel)
theorem hi_183_2 : (am_PP sc).1 183 2 = some (20, 11, 4, 0, 0, 5, []) := am_h (by decide +kernel)
theorem hi_183_5 : (am_PP sc).1 183 5 = some (32, 184, 2, 13, 0, 8, []) := am_h (by decide +kernel)
theorem hi_183_8 : (am_PP sc).1 183 8 = some (33, 0, 0, 0, 0, 9, []) := am_h (by decide +kernel)
theorem hi_184_0 : (am_PP sc).1 184 0 = some (1, 1, 0, 0, 0, 1, []) := am_h (by decide +kernel)
theorem hi_184_1 : (am_PP sc).1 184 1 = some (2, 0, 0, 0, 0, 2, []) := am_h (by decide +kernel)
theorem hi_184_2 : (am_PP sc).1 184 2 = some (20, 11, 0, 0, 0, 5, []) := am_h (by decide +kernel)
theorem hi_184_5 : (am_PP sc).1 184 5 = some (13, 3, 17, 0, 0, 8, []) := am_h (by decide +kernel)
theorem hi_184_8 : (am_PP sc).1 184 8 = some (2, 0, 0, 0, 0, 9, []) := am_h (by decide +kernel)
theorem hi_184_9 : (am_PP sc).1 184 9 = some (20, 11, 1, 0, 0, 12, []) := am_h (by decide +kernel)
theorem hi_184_12 : (am_PP sc).1 184 12 = some (1, 1, 0, 0, 0, 13, []) := am_h (by decide +kernel)
theorem hi_184_13 : (am_PP sc).1 184 13 = some (25, 0, 0, 0, 0, 14, []) := am_h (by decide +kernel)
theorem hi_184_14 : (am_PP sc).1 184 14 = some (18, 0, 18, 0, 0, 17, []) := am_h (by decide +kernel)
theorem hi_184_17 : (am_PP sc).1 184 17 = some (0, 0, 0, 0, (-1), 18, []) := am_h (by decide +kernel)
theorem hi_184_18 : (am_PP sc).1 184 18 = some (33, 0, 0, 0, 0, 19, []) := am_h (by decide +kernel)
theorem hi_191_0 : (am_PP sc).1 191 0 = some (2, 0, 0, 0, 0, 1, []) := am_h (by decide +kernel)
theorem hi_191_1 : (am_PP sc).1 191 1 = some (20, 11, 8, 0, 0, 4, []) := am_h (by decide +kernel)
theorem hi_191_4 : (am_PP sc).1 191 4 = some (12, 0, 15, 0, 0, 7, []) := am_h (by decide +kernel)
theorem hi_191_7 : (am_PP sc).1 191 7 = some (1, 2, 0, 0, 0, 8, []) := am_h (by decide +kernel)
theorem hi_191_8 : (am_PP sc).1 191 8 = some (2, 0, 0, 0, 0, 9, []) := am_h (by decide +kernel)
theorem hi_191_9 : (am_PP sc).1 191 9 = some (20, 11, 9, 0, 0, 12, []) := am_h (by decide +kernel)
theorem hi_191_12 : (am_PP sc).1 191 12 = some (13, 3, 25, 0, 0, 15, []) := am_h (by decide +kernel)
theorem hi_191_15 : (am_PP sc).1 191 15 = some (2, 0, 0, 0, 0, 16, []) := am_h (by decide +kernel)
theorem hi_191_16 : (am_PP sc).1 191 16 = some (1, 1, 0, 0, 0, 17, []) := am_h (by decide +kernel)
theorem hi_191_17 : (am_PP sc).1 191 17 = some (21, 11, 8, 0, 0, 20, []) := am_h (by decide +kernel)
theorem hi_191_20 : (am_PP sc).1 191 20 = some (2, 0, 0, 0, 0, 21, []) := am_h (by decide +kernel)
theorem hi_191_21 : (am_PP sc).1 191 21 = some (1, 2, 0, 0, 0, 22, []) := am_h (by decide +kernel)
theorem hi_191_22 : (am_PP sc).1 191 22 = some (21, 11, 9, 0, 0, 25, []) := am_h (by decide +kernel)
theorem hi_191_25 : (am_PP sc).1 191 25 = some (35, 0, 0, 0, 0, 26, []) := am_h (by decide +kernel)
theorem hi_193_0 : (am_PP sc).1 193 0 = some (2, 0, 0, 0, 0, 1, []) := am_h (by decide +kernel)
theorem hi_193_1 : (am_PP sc).1 193 1 = some (32, 183, 1, 13, 0, 4, []) := am_h (by decide +kernel)
theorem hi_193_4 : (am_PP sc).1 193 4 = some (1, 1, 0, 0, 0, 5, []) := am_h (by decide +kernel)
theorem hi_193_5 : (am_PP sc).1 193 5 = some (13, 0, 15, 0, 0, 8, []) := am_h (by decide +kernel)
theorem hi_193_8 : (am_PP sc).1 193 8 = some (2, 0, 0, 0, 0, 9, []) := am_h (by decide +kernel)
theorem hi_193_9 : (am_PP sc).1 193 9 = some (0, 0, 0, 0, 7, 11, []) := am_h (by decide +kernel)
theorem hi_193_11 : (am_PP sc).1 193 11 = some (32, 194, 2, 13, 0, 14, []) := am_h (by decide +kernel)
theorem hi_193_14 : (am_PP sc).1 193 14 = some (36, 0, 0, 0, 0, 15, []) := am_h (by decide +kernel)
theorem hi_193_15 : (am_PP sc).1 193 15 = some (2, 0, 0, 0, 0, 16, []) := am_h (by decide +kernel)
theorem hi_193_16 : (am_PP sc).1 193 16 = some (20, 11, 5, 0, 0, 19, []) := am_h (by decide +kernel)
theorem hi_193_19 : (am_PP sc).1 193 19 = some (0, 0, 0, 0, 48, 21, []) := am_h (by decide +kernel)
theorem hi_193_21 : (am_PP sc).1 193 21 = some (13, 1, 31, 0, 0, 24, []) := am_h (by decide +kernel)
theorem hi_193_24 : (am_PP sc).1 193 24 = some (2, 0, 0, 0, 0, 25, []) := am_h (by decide +kernel)
theorem hi_193_25 : (am_PP sc).1 193 25 = some (0, 0, 0, 0, 8, 27, []) := am_h (by decide +kernel)
theorem hi_193_27 : (am_PP sc).1 193 27 = some (32, 194, 2, 13, 0, 30, []) := am_h (by decide +kernel)
theorem hi_193_30 : (am_PP sc).1 193 30 = some (36, 0, 0, 0, 0, 31, []) := am_h (by decide +kernel)
theorem hi_193_31 : (am_PP sc).1 193 31 = some (2, 0, 0, 0, 0, 32, []) := am_h (by decide +kernel)
theorem hi_193_32 : (am_PP sc).1 193 32 = some (7, 0, 0, 0, 0, 33, []) := am_h (by decide +kernel)
theorem hi_193_33 : (am_PP sc).1 193 33 = some (20, 11, 5, 0, 0, 36, []) := am_h (by decide +kernel)
theorem hi_193_36 : (am_PP sc).1 193 36 = some (0, 0, 0, 0, 1, 37, []) := am_h (by decide +kernel)
theorem hi_193_37 : (am_PP sc).1 193 37 = some (10, 0, 0, 0, 0, 38, []) := am_h (by decide +kernel)
theorem hi_193_38 : (am_PP sc).1 193 38 = some (21, 11, 5, 0, 0, 41, []) := am_h (by decide +kernel)
theorem hi_193_41 : (am_PP sc).1 193 41 = some (2, 0, 0, 0, 0, 42, []) := am_h (by decide +kernel)
theorem hi_193_42 : (am_PP sc).1 193 42 = some (7, 0, 0, 0, 0, 43, []) := am_h (by decide +kernel)
theorem hi_193_43 : (am_PP sc).1 193 43 = some (20, 11, 4, 0, 0, 46, []) := am_h (by decide +kernel)
theorem hi_193_46 : (am_PP sc).1 193 46 = some (0, 0, 0, 0, 1, 47, []) := am_h (by decide +kernel)
theorem hi_193_47 : (am_PP sc).1 193 47 = some (10, 0, 0, 0, 0, 48, []) := am_h (by decide +kernel)
theorem hi_193_48 : (am_PP sc).1 193 48 = some (21, 11, 4, 0, 0, 51, []) := am_h (by decide +kernel)
theorem hi_193_51 : (am_PP sc).1 193 51 = some (0, 0, 0, 0, 1, 52, []) := am_h (by decide +kernel)
theorem hi_193_52 : (am_PP sc).1 193 52 = some (36, 0, 0, 0, 0, 53, []) := am_h (by decide +kernel)
theorem hi_194_0 : (am_PP sc).1 194 0 = some (2, 0, 0, 0, 0, 1, []) := am_h (by decide +kernel)
theorem hi_194_1 : (am_PP sc).1 194 1 = some (20, 11, 6, 0, 0, 4, []) := am_h (by decide +kernel)
theorem hi_194_4 : (am_PP sc).1 194 4 = some (12, 1, 20, 0, 0, 7, []) := am_h (by decide +kernel)
theorem hi_194_7 : (am_PP sc).1 194 7 = some (2, 0, 0, 0, 0, 8, []) := am_h (by decide +kernel)
theorem hi_194_8 : (am_PP sc).1 194 8 = some (1, 1, 0, 0, 0, 9, []) := am_h (by decide +kernel)
theorem hi_194_9 : (am_PP sc).1 194 9 = some (21, 11, 6, 0, 0, 12, []) := am_h (by decide +kernel)
theorem hi_194_12 : (am_PP sc).1 194 12 = some (2, 0, 0, 0, 0, 13, []) := am_h (by decide +kernel)
theorem hi_194_13 : (am_PP sc).1 194 13 = some (2, 0, 0, 0, 0, 14, []) := am_h (by decide +kernel)
theorem hi_194_14 : (am_PP sc).1 194 14 = some (20, 11, 4, 0, 0, 17, []) := am_h (by decide +kernel)
theorem hi_194_17 : (am_PP sc).1 194 17 = some (21, 11, 7, 0, 0, 20, []) := am_h (by decide +kernel)
theorem hi_194_20 : (am_PP sc).1 194 20 = some (2, 0, 0, 0, 0, 21, []) := am_h (by decide +kernel)
theorem hi_194_21 : (am_PP sc).1 194 21 = some (0, 0, 0, 0, 0, 22, []) := am_h (by decide +kernel)
theorem hi_194_22 : (am_PP sc).1 194 22 = some (21, 11, 10, 0, 0, 25, []) := am_h (by decide +kernel)
theorem hi_194_25 : (am_PP sc).1 194 25 = some (0, 0, 0, 0, 0, 26, []) := am_h (by decide +kernel)
theorem hi_194_26 : (am_PP sc).1 194 26 = some (36, 0, 0, 0, 0, 27, []) := am_h (by decide +kernel)
theorem hi_199_0 : (am_PP sc).1 199 0 = some (2, 0, 0, 0, 0, 1, []) := am_h (by decide +kernel)
theorem hi_199_1 : (am_PP sc).1 199 1 = some (1, 1, 0, 0, 0, 2, []) := am_h (by decide +kernel)
theorem hi_199_2 : (am_PP sc).1 199 2 = some (32, 200, 2, 13, 0, 5, []) := am_h (by decide +kernel)
theorem hi_199_5 : (am_PP sc).1 199 5 = some (12, 1, 10, 0, 0, 8, []) := am_h (by decide +kernel)
theorem hi_199_8 : (am_PP sc).1 199 8 = some (0, 0, 0, 0, 0, 9, []) := am_h (by decide +kernel)
theorem hi_199_9 : (am_PP sc).1 199 9 = some (36, 0, 0, 0, 0, 10, []) := am_h (by decide +kernel)
theorem hi_199_10 : (am_PP sc).1 199 10 = some (2, 0, 0, 0, 0, 11, []) := am_h (by decide +kernel)
theorem hi_199_11 : (am_PP sc).1 199 11 = some (7, 0, 0, 0, 0, 12, []) := am_h (by decide +kernel)
theorem hi_199_12 : (am_PP sc).1 199 12 = some (20, 11, 5, 0, 0, 15, []) := am_h (by decide +kernel)
theorem hi_199_15 : (am_PP sc).1 199 15 = some (0, 0, 0, 0, 1, 16, []) := am_h (by decide +kernel)
theorem hi_199_16 : (am_PP sc).1 199 16 = some (10, 1, 0, 0, 0, 17, []) := am_h (by decide +kernel)
theorem hi_199_17 : (am_PP sc).1 199 17 = some (21, 11, 5, 0, 0, 20, []) := am_h (by decide +kernel)
theorem hi_199_20 : (am_PP sc).1 199 20 = some (0, 0, 0, 0, 1, 21, []) := am_h (by decide +kernel)
theorem hi_199_21 : (am_PP sc).1 199 21 = some (36, 0, 0, 0, 0, 22, []) := am_h (by decide +kernel)
theorem hi_200_0 : (am_PP sc).1 200 0 = some (2, 0, 0, 0, 0, 1, []) := am_h (by decide +kernel)
theorem hi_200_1 : (am_PP sc).1 200 1 = some (32, 183, 1, 13, 0, 4, []) := am_h (by decide +kernel)
theorem hi_200_4 : (am_PP sc).1 200 4 = some (1, 1, 0, 0, 0, 5, []) := am_h (by decide +kernel)
theorem hi_200_5 : (am_PP sc).1 200 5 = some (13, 0, 15, 0, 0, 8, []) := am_h (by decide +kernel)
theorem hi_200_8 : (am_PP sc).1 200 8 = some (2, 0, 0, 0, 0, 9, []) := am_h (by decide +kernel)
theorem hi_200_9 : (am_PP sc).1 200 9 = some (0, 0, 0, 0, 7, 11, []) := am_h (by decide +kernel)
theorem hi_200_11 : (am_PP sc).1 200 11 = some (32, 194, 2, 13, 0, 14, []) := am_h (by decide +kernel)
theorem hi_200_14 : (am_PP sc).1 200 14 = some (36, 0, 0, 0, 0, 15, []) := am_h (by decide +kernel)
theorem hi_200_15 : (am_PP sc).1 200 15 = some (2, 0, 0, 0, 0, 16, []) := am_h (by decide +kernel)
theorem hi_200_16 : (am_PP sc).1 200 16 = some (7, 0, 0, 0, 0, 17, []) := am_h (by decide +kernel)
theorem hi_200_17 : (am_PP sc).1 200 17 = some (20, 11, 4, 0, 0, 20, []) := am_h (by decide +kernel)
theorem hi_200_20 : (am_PP sc).1 200 20 = some (0, 0, 0, 0, 1, 21, []) := am_h (by decide +kernel)
theorem hi_200_21 : (am_PP sc).1 200 21 = some (10, 0, 0, 0, 0, 22, []) := am_h (by decide +kernel)
theorem hi_200_22 : (am_PP sc).1 200 22 = some (21, 11, 4, 0, 0, 25, []) := am_h (by decide +kernel)
theorem hi_200_25 : (am_PP sc).1 200 25 = some (0, 0, 0, 0, 1, 26, []) := am_h (by decide +kernel)
theorem hi_200_26 : (am_PP sc).1 200 26 = some (36, 0, 0, 0, 0, 27, []) := am_h (by decide +kernel)
end AMH
theorem ct_kindAt {sc : Nat × (Nat → Int32)} {d : Nat} {S0 S : am_S} {f : Nat → Int32} {g : Nat → Nat → Int32} {w : Int32} (hS : MS S0 S f g) (p0 : 0 ≤ w.toInt) (p1 : (f 0).toInt ≤ 16384) : am_E (am_PP sc) (d + 0) 184 0 [some (.ref 39), some (.int w)] [] S (am_N fun v S1 => (∃ r : Int32, v = some (.int r) ∧ MS S0 S1 f g ∧ (w.toInt < (f 0).toInt ∨ r.toInt = (-1)))) := by
  refine am_e1 (v := w) hi_184_0 rfl ?_
  refine am_e2 (v := 39) hi_184_1 rfl ?_
  refine mm_20 (v := .int (f 0)) hS hi_184_2 rfl ?_
  by_cases c0 : (f 0).toInt ≤ w.toInt
  · refine am_e13t hi_184_5 (am_cT (m := w.toInt) (n := (f 0).toInt) rfl rfl c0) ?_
    refine am_e0 hi_184_17 ?_
    refine am_e33 hi_184_18 ?_
    exact ⟨(-1), rfl, hS, (by show w.toInt < (f 0).toInt ∨ (-1) = (-1); omega)⟩
  · refine am_e13f hi_184_5 (am_cF (m := w.toInt) (n := (f 0).toInt) rfl rfl c0) ?_
    refine am_e2 (v := 39) hi_184_8 rfl ?_
    refine mm_20 (v := .ref 40) hS hi_184_9 rfl ?_
    refine am_e1 (v := w) hi_184_12 rfl ?_
    refine mm_25 hS ma_1 hi_184_13 (by decide) (by omega) (by omega) ?_
    show am_E _ _ _ _ [some (.ref 39), some (.int w)] [.int (g 1 w.toNatClampNeg)] _ _
    refine am_e18 hi_184_14 ?_
    refine am_e33 hi_184_18 ?_
    exact ⟨g 1 w.toNatClampNeg, rfl, hS, (by show w.toInt < (f 0).toInt ∨ (g 1 w.toNatClampNeg).toInt = (-1); omega)⟩
theorem ct_next {sc : Nat × (Nat → Int32)} {d : Nat} {S0 S : am_S} {f : Nat → Int32} {g : Nat → Nat → Int32} (hS : MS S0 S f g) (p0 : 0 ≤ (f 4).toInt) (p1 : (f 0).toInt ≤ 16384) : am_E (am_PP sc) (d + 1) 183 0 [some (.ref 39)] [] S (am_N fun v S1 => (∃ r : Int32, v = some (.int r) ∧ MS S0 S1 f g ∧ ((f 4).toInt < (f 0).toInt ∨ r.toInt = (-1)))) := by
  refine am_e2 (v := 39) hi_183_0 rfl ?_
  refine am_e2 (v := 39) hi_183_1 rfl ?_
  refine mm_20 (v := .int (f 4)) hS hi_183_2 rfl ?_
  refine am_e32n (as := [.ref 39, .int (f 4)]) (la := [some (.ref 39), some (.int (f 4))]) (rest := []) hi_183_5 (am_hd0 (M := 183) (by decide) 5) (Nat.le_of_ble_eq_true rfl) (Nat.le_of_ble_eq_true rfl) (show 2 ≤ am_P0.2.2.1 184 from by decide +kernel) rfl (am_recv_ok hS.fs) rfl rfl (ct_kindAt (d := d) hS (by show 0 ≤ (f 4).toInt; omega) (by show (f 0).toInt ≤ 16384; omega) ) ?_
  rintro v0 S1 (⟨r2, hv3, hS4, h5⟩)
  subst hv3
  have h5_ : (f 4).toInt < (f 0).toInt ∨ r2.toInt = (-1) := h5
  show am_E _ _ _ _ [some (.ref 39)] [.int r2] _ _
  refine am_e33 hi_183_8 ?_
  exact ⟨r2, rfl, hS4, (by show (f 4).toInt < (f 0).toInt ∨ r2.toInt = (-1); omega)⟩
theorem ct_fail {sc : Nat × (Nat → Int32)} {d : Nat} {S0 S : am_S} {f : Nat → Int32} {g : Nat → Nat → Int32} {k : Int32} (hS : MS S0 S f g) : am_E (am_PP sc) (d + 0) 194 0 [some (.ref 39), some (.int k)] [] S (am_N fun v S1 => (∃ a : Int32, ∃ b : Int32, v = some (.int 0) ∧ MS S0 S1 (upd (upd (upd f 6 a) 7 b) 10 0) g)) := by
  refine am_e2 (v := 39) hi_194_0 rfl ?_
  refine mm_20 (v := .int (f 6)) hS hi_194_1 rfl ?_
  by_cases c0 : ¬ (f 6).toInt = 0
  · refine am_e12t hi_194_4 (am_cT (m := (f 6).toInt) (n := 0) rfl (by decide) c0) ?_
    refine am_e2 (v := 39) hi_194_20 rfl ?_
    refine am_e0 hi_194_21 ?_
    refine mm_21 (v := 0) hS hi_194_22 rfl (Nat.le_of_ble_eq_true rfl) ms_10 ?_
    intro S1 hS2
    refine am_e0 hi_194_25 ?_
    refine am_e36 hi_194_26 (by decide) ?_
    exact ⟨(f 6), (f 7), rfl, (by rw [upd_self, upd_self]; exact hS2)⟩
  · refine am_e12f hi_194_4 (am_cF (m := (f 6).toInt) (n := 0) rfl (by decide) c0) ?_
    refine am_e2 (v := 39) hi_194_7 rfl ?_
    refine am_e1 (v := k) hi_194_8 rfl ?_
    refine mm_21 (v := k) hS hi_194_9 rfl (Nat.le_of_ble_eq_true rfl) ms_6 ?_
    intro S3 hS4
    refine am_e2 (v := 39) hi_194_12 rfl ?_
    refine am_e2 (v := 39) hi_194_13 rfl ?_
    refine mm_20 (v := .int (f 4)) hS4 hi_194_14 rfl ?_
    refine mm_21 (v := f 4) hS4 hi_194_17 rfl (Nat.le_of_ble_eq_true rfl) ms_7 ?_
    intro S5 hS6
    refine am_e2 (v := 39) hi_194_20 rfl ?_
    refine am_e0 hi_194_21 ?_
    refine mm_21 (v := 0) hS6 hi_194_22 rfl (Nat.le_of_ble_eq_true rfl) ms_10 ?_
    intro S7 hS8
    refine am_e0 hi_194_25 ?_
    refine am_e36 hi_194_26 (by decide) ?_
    exact ⟨k, f 4, rfl, hS8⟩
theorem ct_failName {sc : Nat × (Nat → Int32)} {d : Nat} {S0 S : am_S} {f : Nat → Int32} {g : Nat → Nat → Int32} {k : Int32} {w : Int32} (hS : MS S0 S f g) : am_E (am_PP sc) (d + 0) 191 0 [some (.ref 39), some (.int k), some (.int w)] [] S (am_N fun v S1 => (∃ a : Int32, ∃ b : Int32, v = none ∧ MS S0 S1 (upd (upd f 8 a) 9 b) g)) := by
  refine am_e2 (v := 39) hi_191_0 rfl ?_
  refine mm_20 (v := .int (f 8)) hS hi_191_1 rfl ?_
  by_cases c0 : (f 8).toInt = 0
  · refine am_e12t hi_191_4 (am_cT (m := (f 8).toInt) (n := 0) rfl (by decide) c0) ?_
    refine am_e2 (v := 39) hi_191_15 rfl ?_
    refine am_e1 (v := k) hi_191_16 rfl ?_
    refine mm_21 (v := k) hS hi_191_17 rfl (Nat.le_of_ble_eq_true rfl) ms_8 ?_
    intro S1 hS2
    refine am_e2 (v := 39) hi_191_20 rfl ?_
    refine am_e1 (v := w) hi_191_21 rfl ?_
    refine mm_21 (v := w) hS2 hi_191_22 rfl (Nat.le_of_ble_eq_true rfl) ms_9 ?_
    intro S3 hS4
    refine am_e35 hi_191_25 ?_
    exact ⟨k, w, rfl, hS4⟩
  · refine am_e12f hi_191_4 (am_cF (m := (f 8).toInt) (n := 0) rfl (by decide) c0) ?_
    refine am_e1 (v := w) hi_191_7 rfl ?_
    refine am_e2 (v := 39) hi_191_8 rfl ?_
    refine mm_20 (v := .int (f 9)) hS hi_191_9 rfl ?_
    by_cases c5 : (f 9).toInt ≤ w.toInt
    · refine am_e13t hi_191_12 (am_cT (m := w.toInt) (n := (f 9).toInt) rfl rfl c5) ?_
      refine am_e35 hi_191_25 ?_
      exact ⟨(f 8), (f 9), rfl, (by rw [upd_self, upd_self]; exact hS)⟩
    · refine am_e13f hi_191_12 (am_cF (m := w.toInt) (n := (f 9).toInt) rfl rfl c5) ?_
      refine am_e2 (v := 39) hi_191_15 rfl ?_
      refine am_e1 (v := k) hi_191_16 rfl ?_
      refine mm_21 (v := k) hS hi_191_17 rfl (Nat.le_of_ble_eq_true rfl) ms_8 ?_
      intro S6 hS7
      refine am_e2 (v := 39) hi_191_20 rfl ?_
      refine am_e1 (v := w) hi_191_21 rfl ?_
      refine mm_21 (v := w) hS7 hi_191_22 rfl (Nat.le_of_ble_eq_true rfl) ms_9 ?_
      intro S8 hS9
      refine am_e35 hi_191_25 ?_
      exact ⟨k, w, rfl, hS9⟩
theorem ct_take {sc : Nat × (Nat → Int32)} {d : Nat} {S0 S : am_S} {f : Nat → Int32} {g : Nat → Nat → Int32} {k : Int32} (hS : MS S0 S f g) (p0 : 0 ≤ (f 4).toInt) (p1 : (f 0).toInt ≤ 16384) (p2 : 0 ≤ k.toInt) : am_E (am_PP sc) (d + 2) 200 0 [some (.ref 39), some (.int k)] [] S (am_N fun v S1 => (∃ z : Int32, v = some (.int 1) ∧ MS S0 S1 (upd f 4 z) g ∧ z.toInt = (f 4).toInt + 1 ∧ (f 4).toInt < (f 0).toInt) ∨ (∃ a : Int32, ∃ b : Int32, v = some (.int 0) ∧ MS S0 S1 (upd (upd (upd f 6 a) 7 b) 10 0) g)) := by
  refine am_e2 (v := 39) hi_200_0 rfl ?_
  refine am_e32n (as := [.ref 39]) (la := [some (.ref 39)]) (rest := []) hi_200_1 (am_hd0 (M := 200) (by decide) 1) (Nat.le_of_ble_eq_true rfl) (Nat.le_of_ble_eq_true rfl) (show 1 ≤ am_P0.2.2.1 183 from by decide +kernel) rfl (am_recv_ok hS.fs) rfl rfl (ct_next (d := d) hS (by show 0 ≤ (f 4).toInt; omega) (by show (f 0).toInt ≤ 16384; omega) ) ?_
  rintro v0 S1 (⟨r2, hv3, hS4, h5⟩)
  subst hv3
  have h5_ : (f 4).toInt < (f 0).toInt ∨ r2.toInt = (-1) := h5
  show am_E _ _ _ _ [some (.ref 39), some (.int k)] [.int r2] _ _
  refine am_e1 (v := k) hi_200_4 rfl ?_
  by_cases c6 : r2.toInt = k.toInt
  · refine am_e13t hi_200_5 (am_cT (m := r2.toInt) (n := k.toInt) rfl rfl c6) ?_
    refine am_e2 (v := 39) hi_200_15 rfl ?_
    refine am_e7 hi_200_16 ?_
    refine mm_20 (v := .int (f 4)) hS4 hi_200_17 rfl ?_
    refine am_e0 hi_200_20 ?_
    obtain ⟨z7, hz7, tz7⟩ := am_addI (x := f 4) (y := 1) (m := (f 4).toInt) (n := 1) rfl (by decide) (by omega) (by omega)
    refine am_e10 (z := z7) hi_200_21 hz7 ?_
    refine mm_21 (v := z7) hS4 hi_200_22 rfl (Nat.le_of_ble_eq_true rfl) ms_4 ?_
    intro S8 hS9
    refine am_e0 hi_200_25 ?_
    refine am_e36 hi_200_26 (by decide) ?_
    exact Or.inl ⟨z7, rfl, hS9, (by show z7.toInt = (f 4).toInt + 1; omega), (by show (f 4).toInt < (f 0).toInt; omega)⟩
  · refine am_e13f hi_200_5 (am_cF (m := r2.toInt) (n := k.toInt) rfl rfl c6) ?_
    refine am_e2 (v := 39) hi_200_8 rfl ?_
    refine am_e0 hi_200_9 ?_
    refine am_e32n (as := [.ref 39, .int 7]) (la := [some (.ref 39), some (.int 7)]) (rest := []) hi_200_11 (am_hd0 (M := 200) (by decide) 11) (Nat.le_of_ble_eq_true rfl) (Nat.le_of_ble_eq_true rfl) (show 2 ≤ am_P0.2.2.1 194 from by decide +kernel) rfl (am_recv_ok hS4.fs) rfl rfl (ct_fail (d := (d + 1)) hS4  ) ?_
    rintro v10 S11 (⟨a12, b13, hv14, hS15⟩)
    subst hv14
    show am_E _ _ _ _ [some (.ref 39), some (.int k)] [.int 0] _ _
    refine am_e36 hi_200_14 (by decide) ?_
    exact Or.inr (⟨a12, b13, rfl, hS15⟩)
theorem ct_enter {sc : Nat × (Nat → Int32)} {d : Nat} {S0 S : am_S} {f : Nat → Int32} {g : Nat → Nat → Int32} {k : Int32} (hS : MS S0 S f g) (p0 : 0 ≤ (f 4).toInt) (p1 : (f 0).toInt ≤ 16384) (p2 : 0 ≤ k.toInt) (p3 : 0 ≤ (f 5).toInt) (p4 : (f 5).toInt ≤ 48) : am_E (am_PP sc) (d + 2) 193 0 [some (.ref 39), some (.int k)] [] S (am_N fun v S1 => (∃ z : Int32, ∃ y : Int32, v = some (.int 1) ∧ MS S0 S1 (upd (upd f 5 y) 4 z) g ∧ z.toInt = (f 4).toInt + 1 ∧ (f 4).toInt < (f 0).toInt ∧ y.toInt = (f 5).toInt + 1 ∧ y.toInt ≤ 48) ∨ (∃ a : Int32, ∃ b : Int32, v = some (.int 0) ∧ MS S0 S1 (upd (upd (upd f 6 a) 7 b) 10 0) g)) := by
  refine am_e2 (v := 39) hi_193_0 rfl ?_
  refine am_e32n (as := [.ref 39]) (la := [some (.ref 39)]) (rest := []) hi_193_1 (am_hd0 (M := 193) (by decide) 1) (Nat.le_of_ble_eq_true rfl) (Nat.le_of_ble_eq_true rfl) (show 1 ≤ am_P0.2.2.1 183 from by decide +kernel) rfl (am_recv_ok hS.fs) rfl rfl (ct_next (d := d) hS (by show 0 ≤ (f 4).toInt; omega) (by show (f 0).toInt ≤ 16384; omega) ) ?_
  rintro v0 S1 (⟨r2, hv3, hS4, h5⟩)
  subst hv3
  have h5_ : (f 4).toInt < (f 0).toInt ∨ r2.toInt = (-1) := h5
  show am_E _ _ _ _ [some (.ref 39), some (.int k)] [.int r2] _ _
  refine am_e1 (v := k) hi_193_4 rfl ?_
  by_cases c6 : r2.toInt = k.toInt
  · refine am_e13t hi_193_5 (am_cT (m := r2.toInt) (n := k.toInt) rfl rfl c6) ?_
    refine am_e2 (v := 39) hi_193_15 rfl ?_
    refine mm_20 (v := .int (f 5)) hS4 hi_193_16 rfl ?_
    refine am_e0 hi_193_19 ?_
    by_cases c7 : ¬ (f 5).toInt = 48
    · refine am_e13t hi_193_21 (am_cT (m := (f 5).toInt) (n := 48) rfl (by decide) c7) ?_
      refine am_e2 (v := 39) hi_193_31 rfl ?_
      refine am_e7 hi_193_32 ?_
      refine mm_20 (v := .int (f 5)) hS4 hi_193_33 rfl ?_
      refine am_e0 hi_193_36 ?_
      obtain ⟨z8, hz8, tz8⟩ := am_addI (x := f 5) (y := 1) (m := (f 5).toInt) (n := 1) rfl (by decide) (by omega) (by omega)
      refine am_e10 (z := z8) hi_193_37 hz8 ?_
      refine mm_21 (v := z8) hS4 hi_193_38 rfl (Nat.le_of_ble_eq_true rfl) ms_5 ?_
      intro S9 hS10
      refine am_e2 (v := 39) hi_193_41 rfl ?_
      refine am_e7 hi_193_42 ?_
      refine mm_20 (v := .int (f 4)) hS10 hi_193_43 rfl ?_
      refine am_e0 hi_193_46 ?_
      obtain ⟨z11, hz11, tz11⟩ := am_addI (x := f 4) (y := 1) (m := (f 4).toInt) (n := 1) rfl (by decide) (by omega) (by omega)
      refine am_e10 (z := z11) hi_193_47 hz11 ?_
      refine mm_21 (v := z11) hS10 hi_193_48 rfl (Nat.le_of_ble_eq_true rfl) ms_4 ?_
      intro S12 hS13
      refine am_e0 hi_193_51 ?_
      refine am_e36 hi_193_52 (by decide) ?_
      exact Or.inl ⟨z11, z8, rfl, hS13, (by show z11.toInt = (f 4).toInt + 1; omega), (by show (f 4).toInt < (f 0).toInt; omega), (by show z8.toInt = (f 5).toInt + 1; omega), (by show z8.toInt ≤ 48; omega)⟩
    · refine am_e13f hi_193_21 (am_cF (m := (f 5).toInt) (n := 48) rfl (by decide) c7) ?_
      refine am_e2 (v := 39) hi_193_24 rfl ?_
      refine am_e0 hi_193_25 ?_
      refine am_e32n (as := [.ref 39, .int 8]) (la := [some (.ref 39), some (.int 8)]) (rest := []) hi_193_27 (am_hd0 (M := 193) (by decide) 27) (Nat.le_of_ble_eq_true rfl) (Nat.le_of_ble_eq_true rfl) (show 2 ≤ am_P0.2.2.1 194 from by decide +kernel) rfl (am_recv_ok hS4.fs) rfl rfl (ct_fail (d := (d + 1)) hS4  ) ?_
      rintro v14 S15 (⟨a16, b17, hv18, hS19⟩)
      subst hv18
      show am_E _ _ _ _ [some (.ref 39), some (.int k)] [.int 0] _ _
      refine am_e36 hi_193_30 (by decide) ?_
      exact Or.inr (⟨a16, b17, rfl, hS19⟩)
  · refine am_e13f hi_193_5 (am_cF (m := r2.toInt) (n := k.toInt) rfl rfl c6) ?_
    refine am_e2 (v := 39) hi_193_8 rfl ?_
    refine am_e0 hi_193_9 ?_
    refine am_e32n (as := [.ref 39, .int 7]) (la := [some (.ref 39), some (.int 7)]) (rest := []) hi_193_11 (am_hd0 (M := 193) (by decide) 11) (Nat.le_of_ble_eq_true rfl) (Nat.le_of_ble_eq_true rfl) (show 2 ≤ am_P0.2.2.1 194 from by decide +kernel) rfl (am_recv_ok hS4.fs) rfl rfl (ct_fail (d := (d + 1)) hS4  ) ?_
    rintro v20 S21 (⟨a22, b23, hv24, hS25⟩)
    subst hv24
    show am_E _ _ _ _ [some (.ref 39), some (.int k)] [.int 0] _ _
    refine am_e36 hi_193_14 (by decide) ?_
    exact Or.inr (⟨a22, b23, rfl, hS25⟩)
theorem ct_leave {sc : Nat × (Nat → Int32)} {d : Nat} {S0 S : am_S} {f : Nat → Int32} {g : Nat → Nat → Int32} {k : Int32} (hS : MS S0 S f g) (p0 : 0 ≤ (f 4).toInt) (p1 : (f 0).toInt ≤ 16384) (p2 : 0 ≤ k.toInt) (p3 : 0 ≤ (f 5).toInt) (p4 : (f 5).toInt ≤ 48) : am_E (am_PP sc) (d + 3) 199 0 [some (.ref 39), some (.int k)] [] S (am_N fun v S1 => (∃ z : Int32, ∃ y : Int32, v = some (.int 1) ∧ MS S0 S1 (upd (upd f 4 z) 5 y) g ∧ z.toInt = (f 4).toInt + 1 ∧ (f 4).toInt < (f 0).toInt ∧ y.toInt = (f 5).toInt - 1) ∨ (∃ a : Int32, ∃ b : Int32, v = some (.int 0) ∧ MS S0 S1 (upd (upd (upd f 6 a) 7 b) 10 0) g)) := by
  refine am_e2 (v := 39) hi_199_0 rfl ?_
  refine am_e1 (v := k) hi_199_1 rfl ?_
  refine am_e32n (as := [.ref 39, .int k]) (la := [some (.ref 39), some (.int k)]) (rest := []) hi_199_2 (am_hd0 (M := 199) (by decide) 2) (Nat.le_of_ble_eq_true rfl) (Nat.le_of_ble_eq_true rfl) (show 2 ≤ am_P0.2.2.1 200 from by decide +kernel) rfl (am_recv_ok hS.fs) rfl rfl (ct_take (d := d) hS (by show 0 ≤ (f 4).toInt; omega) (by show (f 0).toInt ≤ 16384; omega) (by show 0 ≤ k.toInt; omega) ) ?_
  rintro v0 S1 (⟨z2, hv3, hS4, h5, h6⟩ | ⟨a7, b8, hv9, hS10⟩)
  · subst hv3
    have h5_ : z2.toInt = (f 4).toInt + 1 := h5
    have h6_ : (f 4).toInt < (f 0).toInt := h6
    show am_E _ _ _ _ [some (.ref 39), some (.int k)] [.int 1] _ _
    refine am_e12t hi_199_5 (by decide) ?_
    refine am_e2 (v := 39) hi_199_10 rfl ?_
    refine am_e7 hi_199_11 ?_
    refine mm_20 (v := .int (f 5)) hS4 hi_199_12 rfl ?_
    refine am_e0 hi_199_15 ?_
    obtain ⟨z11, hz11, tz11⟩ := am_subI (x := f 5) (y := 1) (m := (f 5).toInt) (n := 1) rfl (by decide) (by omega) (by omega)
    refine am_e10 (z := z11) hi_199_16 hz11 ?_
    refine mm_21 (v := z11) hS4 hi_199_17 rfl (Nat.le_of_ble_eq_true rfl) ms_5 ?_
    intro S12 hS13
    refine am_e0 hi_199_20 ?_
    refine am_e36 hi_199_21 (by decide) ?_
    exact Or.inl ⟨z2, z11, rfl, hS13, (by show z2.toInt = (f 4).toInt + 1; omega), (by show (f 4).toInt < (f 0).toInt; omega), (by show z11.toInt = (f 5).toInt - 1; omega)⟩
  · subst hv9
    show am_E _ _ _ _ [some (.ref 39), some (.int k)] [.int 0] _ _
    refine am_e12f hi_199_5 (by decide) ?_
    refine am_e0 hi_199_8 ?_
    refine am_e36 hi_199_9 (by decide) ?_
    exact Or.inr (⟨a7, b8, rfl, hS10⟩)
