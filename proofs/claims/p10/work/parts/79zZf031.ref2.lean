/-! THE REFERENCE: instructions, values (printed by wip/p2/ref2.py) -/
theorem ct_here {sc : Nat × (Nat → Int32)} {d : Nat} {S0 S : am_S} {f : Nat → Int32} {g : Nat → Nat → Int32} {gs : List mg_E} {bc : List (List Nat)} {fl : List Nat} {fk : Int} {pj : List Nat} (hS : MS S0 S f g) (hR : RJ f g gs bc fl fk pj) (p0 : (0 : Int) ≤ (f 32).toInt) (p1 : (f 32).toInt ≤ (63 : Int)) (p2 : (f 53).toInt ≤ (4096 : Int)) (p3 : (0 : Int) ≤ (f 68).toInt) (p4 : (f 68).toInt ≤ (65534 : Int)) : am_E (am_PP sc) (d + 0) 210 0 [some (.ref 39)] [] S (am_N fun v S1 => (∃ r : Int32, v = some (.int r) ∧ MS S0 S1 f g ∧ ((0 : Int) ≤ r.toInt) ∧ (r.toInt ≤ (f 68).toInt))) := by
  refine am_e2 (v := 39) hi_210_0 rfl ?_
  refine mm_20 (v := .ref 81) hS hi_210_1 rfl ?_
  refine am_e2 (v := 39) hi_210_4 rfl ?_
  refine mm_20 (v := .ref 58) hS hi_210_5 rfl ?_
  refine am_e2 (v := 39) hi_210_8 rfl ?_
  refine mm_20 (v := .int (f 32)) hS hi_210_9 rfl ?_
  refine mm_25 hS ma_33 hi_210_12 (by decide) (by omega) (by omega) ?_
  show am_E _ _ _ _ [some (.ref 39)] [.int (g 33 (f 32).toNatClampNeg), .ref 81] _ _
  have r0 : 0 ≤ (g 33 (f 32).toNatClampNeg).toInt ∧ (g 33 (f 32).toNatClampNeg).toInt < (f 53).toInt := RJ.fn (i := f 32) hR (by omega) (by show (f 32).toInt ≤ (f 32).toInt; omega)
  refine mm_25 hS ma_60 hi_210_13 (by decide) (by omega) (by omega) ?_
  show am_E _ _ _ _ [some (.ref 39)] [.int (g 60 (g 33 (f 32).toNatClampNeg).toNatClampNeg)] _ _
  have r1 : 0 ≤ (g 60 (g 33 (f 32).toNatClampNeg).toNatClampNeg).toInt ∧ (g 60 (g 33 (f 32).toNatClampNeg).toNatClampNeg).toInt ≤ (f 68).toInt := RJ.codes (i := g 33 (f 32).toNatClampNeg) hR (by show 0 ≤ (f 68).toInt; omega) (by omega) (by show (g 33 (f 32).toNatClampNeg).toInt < (f 53).toInt; omega)
  refine am_e33 hi_210_14 ?_
  exact ⟨g 60 (g 33 (f 32).toNatClampNeg).toNatClampNeg, rfl, hS, (by show (0 : Int) ≤ (g 60 (g 33 (f 32).toNatClampNeg).toNatClampNeg).toInt; omega), (by show (g 60 (g 33 (f 32).toNatClampNeg).toNatClampNeg).toInt ≤ (f 68).toInt; omega)⟩
theorem ct_put {sc : Nat × (Nat → Int32)} {d : Nat} {S0 S : am_S} {f : Nat → Int32} {g : Nat → Nat → Int32} {op : Int32} {a : Int32} {b : Int32} {w : Int32} {gs : List mg_E} {bc : List (List Nat)} {fl : List Nat} {fk : Int} {pj : List Nat} (hS : MS S0 S f g) (hR : RJ f g gs bc fl fk pj) (p0 : (0 : Int) ≤ (f 32).toInt) (p1 : (f 32).toInt ≤ (63 : Int)) (p2 : (f 53).toInt ≤ (4096 : Int)) (p3 : (0 : Int) ≤ (f 68).toInt) (p4 : (f 68).toInt ≤ (65534 : Int)) : am_E (am_PP sc) (d + 0) 189 0 [some (.ref 39), some (.int op), some (.int a), some (.int b), some (.int w)] [] S (am_N fun v S1 => (∃ z : Int32, ∃ r : Int32, ∃ g' : Nat → Nat → Int32, v = some (.int r) ∧ MS S0 S1 (upd f 68 z) g' ∧ (RJ (upd f 68 z) g' gs bc fl fk ((f 68).toNatClampNeg :: pj)) ∧ (z.toInt = (f 68).toInt + 1) ∧ (r.toInt = (f 68).toInt) ∧ (∀ j, j ∉ [60, 69, 70, 71, 72, 73] → g' j = g j))) := by
  refine am_e2 (v := 39) hi_189_0 rfl ?_
  refine mm_20 (v := .int (f 68)) hS hi_189_1 rfl ?_
  refine am_e0 hi_189_4 ?_
  refine am_e13f hi_189_6 (am_cF (m := (f 68).toInt) (n := (65536 : Int)) rfl (by decide) (by simp only [am_cI]; omega)) ?_
  refine am_e2 (v := 39) hi_189_9 rfl ?_
  refine mm_20 (v := .ref 88) hS hi_189_10 rfl ?_
  refine am_e2 (v := 39) hi_189_13 rfl ?_
  refine mm_20 (v := .int (f 68)) hS hi_189_14 rfl ?_
  refine am_e2 (v := 39) hi_189_17 rfl ?_
  refine mm_20 (v := .ref 58) hS hi_189_18 rfl ?_
  refine am_e2 (v := 39) hi_189_21 rfl ?_
  refine mm_20 (v := .int (f 32)) hS hi_189_22 rfl ?_
  refine mm_25 hS ma_33 hi_189_25 (by decide) (by omega) (by omega) ?_
  show am_E _ _ _ _ [some (.ref 39), some (.int op), some (.int a), some (.int b), some (.int w)] [.int (g 33 (f 32).toNatClampNeg), .int (f 68), .ref 88] _ _
  have r0 : 0 ≤ (g 33 (f 32).toNatClampNeg).toInt ∧ (g 33 (f 32).toNatClampNeg).toInt < (f 53).toInt := RJ.fn (i := f 32) hR (by omega) (by show (f 32).toInt ≤ (f 32).toInt; omega)
  refine mm_26 hS ma_69 hi_189_26 (by decide) (by omega) (by omega) (fun h => nomatch h) ?_
  intro S1 hS2
  refine am_e2 (v := 39) hi_189_27 rfl ?_
  refine mm_20 (v := .ref 89) hS2 hi_189_28 rfl ?_
  refine am_e2 (v := 39) hi_189_31 rfl ?_
  refine mm_20 (v := .int (f 68)) hS2 hi_189_32 rfl ?_
  refine am_e1 (v := op) hi_189_35 rfl ?_
  refine mm_26 hS2 ma_70 hi_189_36 (by decide) (by omega) (by omega) (fun h => nomatch h) ?_
  intro S3 hS4
  refine am_e2 (v := 39) hi_189_37 rfl ?_
  refine mm_20 (v := .ref 90) hS4 hi_189_38 rfl ?_
  refine am_e2 (v := 39) hi_189_41 rfl ?_
  refine mm_20 (v := .int (f 68)) hS4 hi_189_42 rfl ?_
  refine am_e1 (v := a) hi_189_45 rfl ?_
  refine mm_26 hS4 ma_71 hi_189_46 (by decide) (by omega) (by omega) (fun h => nomatch h) ?_
  intro S5 hS6
  refine am_e2 (v := 39) hi_189_47 rfl ?_
  refine mm_20 (v := .ref 91) hS6 hi_189_48 rfl ?_
  refine am_e2 (v := 39) hi_189_51 rfl ?_
  refine mm_20 (v := .int (f 68)) hS6 hi_189_52 rfl ?_
  refine am_e1 (v := b) hi_189_55 rfl ?_
  refine mm_26 hS6 ma_72 hi_189_56 (by decide) (by omega) (by omega) (fun h => nomatch h) ?_
  intro S7 hS8
  refine am_e2 (v := 39) hi_189_57 rfl ?_
  refine mm_20 (v := .ref 92) hS8 hi_189_58 rfl ?_
  refine am_e2 (v := 39) hi_189_61 rfl ?_
  refine mm_20 (v := .int (f 68)) hS8 hi_189_62 rfl ?_
  refine am_e1 (v := w) hi_189_65 rfl ?_
  refine mm_26 hS8 ma_73 hi_189_67 (by decide) (by omega) (by omega) (fun h => nomatch h) ?_
  intro S9 hS10
  refine am_e2 (v := 39) hi_189_68 rfl ?_
  refine am_e7 hi_189_69 ?_
  refine mm_20 (v := .int (f 68)) hS10 hi_189_70 rfl ?_
  refine am_e0 hi_189_73 ?_
  obtain ⟨z11, hz11, tz11⟩ := am_addI (x := f 68) (y := 1) (m := (f 68).toInt) (n := (1 : Int)) rfl (by decide) (by omega) (by omega)
  refine am_e10 (z := z11) hi_189_74 hz11 ?_
  refine mm_21 (v := z11) hS10 hi_189_75 rfl (Nat.le_of_ble_eq_true rfl) ms_68 ?_
  intro S12 hS13
  refine am_e2 (v := 39) hi_189_78 rfl ?_
  refine mm_20 (v := .ref 81) hS13 hi_189_79 rfl ?_
  refine am_e2 (v := 39) hi_189_82 rfl ?_
  refine mm_20 (v := .ref 58) hS13 hi_189_83 rfl ?_
  refine am_e2 (v := 39) hi_189_86 rfl ?_
  refine mm_20 (v := .int (f 32)) hS13 hi_189_87 rfl ?_
  refine mm_25 hS13 ma_33 hi_189_90 (by decide) (by omega) (by omega) ?_
  show am_E _ _ _ _ [some (.ref 39), some (.int op), some (.int a), some (.int b), some (.int w)] [.int (g 33 (f 32).toNatClampNeg), .ref 81] _ _
  have r14 : 0 ≤ (g 33 (f 32).toNatClampNeg).toInt ∧ (g 33 (f 32).toNatClampNeg).toInt < (f 53).toInt := RJ.fn (i := f 32) hR (by omega) (by show (f 32).toInt ≤ (f 32).toInt; omega)
  refine am_e8 hi_189_91 ?_
  refine mm_25 hS13 ma_60 hi_189_92 (by decide) (by omega) (by omega) ?_
  show am_E _ _ _ _ [some (.ref 39), some (.int op), some (.int a), some (.int b), some (.int w)] [.int (g 60 (g 33 (f 32).toNatClampNeg).toNatClampNeg), .int (g 33 (f 32).toNatClampNeg), .ref 81] _ _
  have r15 : 0 ≤ (g 60 (g 33 (f 32).toNatClampNeg).toNatClampNeg).toInt ∧ (g 60 (g 33 (f 32).toNatClampNeg).toNatClampNeg).toInt ≤ (f 68).toInt := RJ.codes (i := g 33 (f 32).toNatClampNeg) hR (by show 0 ≤ (f 68).toInt; omega) (by omega) (by show (g 33 (f 32).toNatClampNeg).toInt < (f 53).toInt; omega)
  refine am_e0 hi_189_93 ?_
  obtain ⟨z16, hz16, tz16⟩ := am_addI (x := g 60 (g 33 (f 32).toNatClampNeg).toNatClampNeg) (y := 1) (m := (g 60 (g 33 (f 32).toNatClampNeg).toNatClampNeg).toInt) (n := (1 : Int)) rfl (by decide) (by omega) (by omega)
  refine am_e10 (z := z16) hi_189_94 hz16 ?_
  refine mm_26 hS13 ma_60 hi_189_95 (by decide) (by omega) (by omega) (fun h => nomatch h) ?_
  intro S17 hS18
  refine am_e2 (v := 39) hi_189_96 rfl ?_
  refine mm_20 (v := .int z11) hS18 hi_189_97 rfl ?_
  refine am_e0 hi_189_100 ?_
  obtain ⟨z19, hz19, tz19⟩ := am_subI (x := z11) (y := 1) (m := z11.toInt) (n := (1 : Int)) rfl (by decide) (by omega) (by omega)
  refine am_e10 (z := z19) hi_189_101 hz19 ?_
  refine am_e33 hi_189_102 ?_
  exact ⟨z11, z19, _, rfl, hS18, (rj_put hR (by omega) (by omega) ⟨by omega, by omega⟩ (by omega)), (by show z11.toInt = (f 68).toInt + 1; omega), (by show z19.toInt = (f 68).toInt; omega), (by intro j hj; simp only [List.mem_cons, List.not_mem_nil, or_false, not_or] at hj; simp only [upg, hj, if_false])⟩
theorem ct_value {sc : Nat × (Nat → Int32)} {d : Nat} {S0 S : am_S} {f : Nat → Int32} {g : Nat → Nat → Int32} {kd : Int32} {cd : Int32} {wd : Int32} {gs : List mg_E} {bc : List (List Nat)} {fl : List Nat} {fk : Int} {pj : List Nat} (hS : MS S0 S f g) (hR : RJ f g gs bc fl fk pj) (hk3 : kd.toInt = 3 → 0 ≤ wd.toInt ∧ wd.toInt < 16384) (hk1 : kd.toInt = 1 ∨ kd.toInt = 2 → 0 ≤ cd.toInt ∧ cd.toInt < 65536) (p0 : (0 : Int) ≤ (f 15).toInt) (p1 : (f 15).toInt ≤ (32767 : Int)) : am_E (am_PP sc) (d + 0) 190 0 [some (.ref 39), some (.int kd), some (.int cd), some (.int wd)] [] S (am_N fun v S1 => (∃ z : Int32, ∃ g' : Nat → Nat → Int32, v = none ∧ MS S0 S1 (upd f 15 z) g' ∧ (RJ (upd f 15 z) g' gs bc fl fk pj) ∧ (z.toInt = (f 15).toInt + 1) ∧ (∀ j, j ∉ [16, 17, 18] → g' j = g j) ∧ (mj_n (g' 16) z.toNatClampNeg 3 ≤ mj_n (g 16) (f 15).toNatClampNeg 3 + 1) ∧ (kd.toInt = 3 ∨ mj_n (g' 16) z.toNatClampNeg 3 ≤ mj_n (g 16) (f 15).toNatClampNeg 3))) := by
  refine am_e2 (v := 39) hi_190_0 rfl ?_
  refine mm_20 (v := .ref 46) hS hi_190_1 rfl ?_
  refine am_e2 (v := 39) hi_190_4 rfl ?_
  refine mm_20 (v := .int (f 15)) hS hi_190_5 rfl ?_
  refine am_e1 (v := kd) hi_190_8 rfl ?_
  refine mm_26 hS ma_16 hi_190_9 (by decide) (by omega) (by omega) (fun h => nomatch h) ?_
  intro S0 hS1
  refine am_e2 (v := 39) hi_190_10 rfl ?_
  refine mm_20 (v := .ref 47) hS1 hi_190_11 rfl ?_
  refine am_e2 (v := 39) hi_190_14 rfl ?_
  refine mm_20 (v := .int (f 15)) hS1 hi_190_15 rfl ?_
  refine am_e1 (v := cd) hi_190_18 rfl ?_
  refine mm_26 hS1 ma_17 hi_190_19 (by decide) (by omega) (by omega) (fun h => nomatch h) ?_
  intro S2 hS3
  refine am_e2 (v := 39) hi_190_20 rfl ?_
  refine mm_20 (v := .ref 48) hS3 hi_190_21 rfl ?_
  refine am_e2 (v := 39) hi_190_24 rfl ?_
  refine mm_20 (v := .int (f 15)) hS3 hi_190_25 rfl ?_
  refine am_e1 (v := wd) hi_190_28 rfl ?_
  refine mm_26 hS3 ma_18 hi_190_29 (by decide) (by omega) (by omega) (fun h => nomatch h) ?_
  intro S4 hS5
  refine am_e2 (v := 39) hi_190_30 rfl ?_
  refine am_e7 hi_190_31 ?_
  refine mm_20 (v := .int (f 15)) hS5 hi_190_32 rfl ?_
  refine am_e0 hi_190_35 ?_
  obtain ⟨z6, hz6, tz6⟩ := am_addI (x := f 15) (y := 1) (m := (f 15).toInt) (n := (1 : Int)) rfl (by decide) (by omega) (by omega)
  refine am_e10 (z := z6) hi_190_36 hz6 ?_
  refine mm_21 (v := z6) hS5 hi_190_37 rfl (Nat.le_of_ble_eq_true rfl) ms_15 ?_
  intro S7 hS8
  refine am_e35 hi_190_40 ?_
  exact ⟨z6, _, rfl, hS8, (rj_value hR hk3 hk1), (by show z6.toInt = (f 15).toInt + 1; omega), (by intro j hj; simp only [List.mem_cons, List.not_mem_nil, or_false, not_or] at hj; simp only [upg, hj, if_false]), (by have h := mj_push (a := g 16) (x := 3) (v := (f 15).toNatClampNeg) (m := z6.toNatClampNeg) (n := (f 15).toNatClampNeg) (y := kd) (by rw [cl_toNat, cl_toNat]; omega) rfl; show mj_n (upd (g 16) (f 15).toNatClampNeg kd) z6.toNatClampNeg 3 ≤ mj_n (g 16) (f 15).toNatClampNeg 3 + 1; split at h <;> omega), (by have h := mj_push (a := g 16) (x := 3) (v := (f 15).toNatClampNeg) (m := z6.toNatClampNeg) (n := (f 15).toNatClampNeg) (y := kd) (by rw [cl_toNat, cl_toNat]; omega) rfl; show kd.toInt = 3 ∨ mj_n (upd (g 16) (f 15).toNatClampNeg kd) z6.toNatClampNeg 3 ≤ mj_n (g 16) (f 15).toNatClampNeg 3; split at h <;> omega)⟩
theorem ct_count {sc : Nat × (Nat → Int32)} {d : Nat} {S0 S : am_S} {f : Nat → Int32} {g : Nat → Nat → Int32} (hS : MS S0 S f g) (p0 : (0 : Int) ≤ (f 32).toInt) (p1 : (f 32).toInt ≤ (63 : Int)) : am_E (am_PP sc) (d + 0) 197 0 [some (.ref 39)] [] S (am_N fun v S1 => (∃ r : Int32, v = some (.int r) ∧ MS S0 S1 f g)) := by
  refine am_e2 (v := 39) hi_197_0 rfl ?_
  refine mm_20 (v := .int (f 24)) hS hi_197_1 rfl ?_
  refine am_e2 (v := 39) hi_197_4 rfl ?_
  refine mm_20 (v := .ref 59) hS hi_197_5 rfl ?_
  refine am_e2 (v := 39) hi_197_8 rfl ?_
  refine mm_20 (v := .int (f 32)) hS hi_197_9 rfl ?_
  refine mm_25 hS ma_34 hi_197_12 (by decide) (by omega) (by omega) ?_
  show am_E _ _ _ _ [some (.ref 39)] [.int (g 34 (f 32).toNatClampNeg), .int (f 24)] _ _
  obtain ⟨z0, hz0⟩ : ∃ q__, am_bin 1 (f 24) (g 34 (f 32).toNatClampNeg) = q__ := ⟨_, rfl⟩
  refine am_e10 (z := z0) hi_197_13 hz0 ?_
  refine am_e33 hi_197_14 ?_
  exact ⟨z0, rfl, hS⟩
theorem ct_keep {sc : Nat × (Nat → Int32)} {d : Nat} {S0 S : am_S} {f : Nat → Int32} {g : Nat → Nat → Int32} {k : Int32} {n : Int32} {w : Int32} {gs : List mg_E} {bc : List (List Nat)} {fl : List Nat} {fk : Int} {pj : List Nat} (hS : MS S0 S f g) (hR : RJ f g gs bc fl fk pj) (p0 : (0 : Int) ≤ (f 20).toInt) (p1 : (f 20).toInt ≤ (16383 : Int)) : am_E (am_PP sc) (d + 0) 239 0 [some (.ref 39), some (.int k), some (.int n), some (.int w)] [] S (am_N fun v S1 => (∃ z : Int32, ∃ g' : Nat → Nat → Int32, v = none ∧ MS S0 S1 (upd f 20 z) g' ∧ (RJ (upd f 20 z) g' gs bc fl fk pj) ∧ (z.toInt = (f 20).toInt + 1) ∧ (∀ j, j ∉ [21, 22, 23] → g' j = g j))) := by
  refine am_e2 (v := 39) hi_239_0 rfl ?_
  refine mm_20 (v := .ref 49) hS hi_239_1 rfl ?_
  refine am_e2 (v := 39) hi_239_4 rfl ?_
  refine mm_20 (v := .int (f 20)) hS hi_239_5 rfl ?_
  refine am_e1 (v := k) hi_239_8 rfl ?_
  refine mm_26 hS ma_21 hi_239_9 (by decide) (by omega) (by omega) (fun h => nomatch h) ?_
  intro S0 hS1
  refine am_e2 (v := 39) hi_239_10 rfl ?_
  refine mm_20 (v := .ref 50) hS1 hi_239_11 rfl ?_
  refine am_e2 (v := 39) hi_239_14 rfl ?_
  refine mm_20 (v := .int (f 20)) hS1 hi_239_15 rfl ?_
  refine am_e1 (v := n) hi_239_18 rfl ?_
  refine mm_26 hS1 ma_22 hi_239_19 (by decide) (by omega) (by omega) (fun h => nomatch h) ?_
  intro S2 hS3
  refine am_e2 (v := 39) hi_239_20 rfl ?_
  refine mm_20 (v := .ref 51) hS3 hi_239_21 rfl ?_
  refine am_e2 (v := 39) hi_239_24 rfl ?_
  refine mm_20 (v := .int (f 20)) hS3 hi_239_25 rfl ?_
  refine am_e1 (v := w) hi_239_28 rfl ?_
  refine mm_26 hS3 ma_23 hi_239_29 (by decide) (by omega) (by omega) (fun h => nomatch h) ?_
  intro S4 hS5
  refine am_e2 (v := 39) hi_239_30 rfl ?_
  refine am_e7 hi_239_31 ?_
  refine mm_20 (v := .int (f 20)) hS5 hi_239_32 rfl ?_
  refine am_e0 hi_239_35 ?_
  obtain ⟨z6, hz6, tz6⟩ := am_addI (x := f 20) (y := 1) (m := (f 20).toInt) (n := (1 : Int)) rfl (by decide) (by omega) (by omega)
  refine am_e10 (z := z6) hi_239_36 hz6 ?_
  refine mm_21 (v := z6) hS5 hi_239_37 rfl (Nat.le_of_ble_eq_true rfl) ms_20 ?_
  intro S7 hS8
  refine am_e35 hi_239_40 ?_
  exact ⟨z6, _, rfl, hS8, hR, (by show z6.toInt = (f 20).toInt + 1; omega), (by intro j hj; simp only [List.mem_cons, List.not_mem_nil, or_false, not_or] at hj; simp only [upg, hj, if_false])⟩
