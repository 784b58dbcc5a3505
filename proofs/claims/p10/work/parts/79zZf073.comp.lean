/-! THE REFERENCE: compile (printed by wip/p2/comp.py) -/
theorem lp_comp0 {sc : Nat × (Nat → Int32)} {d : Nat} {S0 : am_S} {f0 : Nat → Int32} {Q : Option (Option Value) → am_S → Prop} (hx : ∀ (S : am_S) (f : Nat → Int32) (g : Nat → Nat → Int32) (bc : List (List Nat)), MS S0 S f g → mg_off f0 f g bc → am_E (am_PP sc) (d + 9) 175 73 [some (.ref 39), none] [] S Q) {S : am_S} {f : Nat → Int32} {g : Nat → Nat → Int32} {bc : List (List Nat)} (hS : MS S0 S f g) (h : mg_off f0 f g bc) : am_E (am_PP sc) (d + 9) 175 13 [some (.ref 39), none] [] S Q := by
  have ht : (f 10).toInt = 0 := h.1.1.1
  refine am_e2 (v := 39) hi_175_13 rfl ?_
  refine mm_20 (v := .int (f 10)) hS hi_175_14 rfl ?_
  refine am_e12t hi_175_17 (am_cT (m := (f 10).toInt) (n := (0 : Int)) rfl (by decide) (by simp only [am_cI]; omega)) ?_
  exact hx _ _ _ _ hS h
theorem mg_off_tr {f0 f f' : Nat → Int32} {g' : Nat → Nat → Int32} {bc' : List (List Nat)} (h : mg_off f f' g' bc') (h0 : f 0 = f0 0) : mg_off f0 f' g' bc' := by
  obtain ⟨a1, a2, a3, a4, a5⟩ := h
  rw [h0] at a2 a4
  exact ⟨a1, a2, a3, a4, a5⟩
/-- all goals are done -/
theorem mg_done {f : Nat → Int32} {g : Nat → Nat → Int32} {bc : List (List Nat)} (h : BI f g [] bc) : mg_off f f g bc := by
  obtain ⟨h1, h2, h3⟩ := h
  obtain ⟨n0, n1, n2, n3, n4, n5, n6, n7, n8, n9, n10, n11, n12, n13, n14, n15, n16, n17, n18, n19, n20, n21⟩ := h3
  obtain ⟨b1, b2, b3, b4, b5, b6, b7⟩ := h2
  have hk3 := (mj_n_le (a := g 16) (f 15).toNatClampNeg 3).1
  have q4 : mg_p4 [] = 0 := rfl
  exact ⟨h1, rfl, by omega, by omega, by omega, by omega, by omega, by omega, by omega, by omega, by omega, by omega, by omega, by omega, by omega, by omega, by omega, by omega, by omega, by omega⟩
theorem lp_comp {sc : Nat × (Nat → Int32)} {d : Nat} {S0 : am_S} {f0 : Nat → Int32} {Q : Option (Option Value) → am_S → Prop} (hx : ∀ (S : am_S) (f : Nat → Int32) (g : Nat → Nat → Int32) (bc : List (List Nat)), MS S0 S f g → mg_off f0 f g bc → am_E (am_PP sc) (d + 9) 175 73 [some (.ref 39), none] [] S Q) : ∀ (N : Nat) (S : am_S) (f : Nat → Int32) (g : Nat → Nat → Int32) (gs : List mg_E) (bc : List (List Nat)), MS S0 S f g → BI f g gs bc → f 0 = f0 0 → 100 * ((f 0).toInt - (f 4).toInt) + mg_p3 gs < (N : Int) → am_E (am_PP sc) (d + 9) 175 13 [some (.ref 39), none] [] S Q := by
  intro N
  induction N with
  | zero =>
    intro S f g gs bc hS hB h0 hN
    exfalso
    have h1 := mg_p3_len gs
    have h2 := hB.2.2.2.1
    omega
  | succ N ih =>
    intro S f g gs bc hS hB h0 hN
    cases gs with
    | nil => exact lp_comp0 hx hS (mg_off_tr (mg_done hB) h0)
    | cons e gs =>
      have ht := hB.1.1.1
      rw [List.length_cons] at ht
      have hp := mg_p3_len (e :: gs)
      rw [List.length_cons] at hp
      have hn7 := hB.2.2.2.2.2.2.2.2.2.1
      have hn1 := hB.2.2.2.1
      have hn2 := hB.2.2.2.2.1
      refine am_e2 (v := 39) hi_175_13 rfl ?_
      refine mm_20 (v := .int (f 10)) hS hi_175_14 rfl ?_
      refine am_e12f hi_175_17 (am_cF (m := (f 10).toInt) (n := (0 : Int)) rfl (by decide) (by simp only [am_cI]; omega)) ?_
      refine am_e2 (v := 39) hi_175_20 rfl ?_
      refine am_e7 hi_175_21 ?_
      refine mm_20 (v := .int (f 10)) hS hi_175_22 rfl ?_
      refine am_e0 hi_175_25 ?_
      obtain ⟨z0, hz0, tz0⟩ := am_subI (x := f 10) (y := 1) (m := (f 10).toInt) (n := (1 : Int)) rfl (by decide) (by omega) (by omega)
      refine am_e10 (z := z0) hi_175_26 hz0 ?_
      refine mm_21 (v := z0) hS hi_175_27 rfl (Nat.le_of_ble_eq_true rfl) ms_10 ?_
      intro S1 hS2
      refine am_e2 (v := 39) hi_175_30 rfl ?_
      refine am_e2 (v := 39) hi_175_31 rfl ?_
      refine mm_20 (v := .ref 42) hS2 hi_175_32 rfl ?_
      refine am_e2 (v := 39) hi_175_35 rfl ?_
      refine mm_20 (v := .int z0) hS2 hi_175_36 rfl ?_
      refine mm_25 hS2 ma_11 hi_175_39 (by decide) (by omega) (by omega) ?_
      show am_E _ _ _ _ [some (.ref 39), none] [.int (g 11 z0.toNatClampNeg), .ref 39] _ _
      refine am_e2 (v := 39) hi_175_40 rfl ?_
      refine mm_20 (v := .ref 43) hS2 hi_175_41 rfl ?_
      refine am_e2 (v := 39) hi_175_44 rfl ?_
      refine mm_20 (v := .int z0) hS2 hi_175_45 rfl ?_
      refine mm_25 hS2 ma_12 hi_175_48 (by decide) (by omega) (by omega) ?_
      show am_E _ _ _ _ [some (.ref 39), none] [.int (g 12 z0.toNatClampNeg), .int (g 11 z0.toNatClampNeg), .ref 39] _ _
      refine am_e2 (v := 39) hi_175_49 rfl ?_
      refine mm_20 (v := .ref 44) hS2 hi_175_50 rfl ?_
      refine am_e2 (v := 39) hi_175_53 rfl ?_
      refine mm_20 (v := .int z0) hS2 hi_175_54 rfl ?_
      refine mm_25 hS2 ma_13 hi_175_57 (by decide) (by omega) (by omega) ?_
      show am_E _ _ _ _ [some (.ref 39), none] [.int (g 13 z0.toNatClampNeg), .int (g 12 z0.toNatClampNeg), .int (g 11 z0.toNatClampNeg), .ref 39] _ _
      refine am_e2 (v := 39) hi_175_58 rfl ?_
      refine mm_20 (v := .ref 45) hS2 hi_175_59 rfl ?_
      refine am_e2 (v := 39) hi_175_62 rfl ?_
      refine mm_20 (v := .int z0) hS2 hi_175_63 rfl ?_
      refine mm_25 hS2 ma_14 hi_175_66 (by decide) (by omega) (by omega) ?_
      show am_E _ _ _ _ [some (.ref 39), none] [.int (g 14 z0.toNatClampNeg), .int (g 13 z0.toNatClampNeg), .int (g 12 z0.toNatClampNeg), .int (g 11 z0.toNatClampNeg), .ref 39] _ _
      refine am_e32n (as := [.ref 39, .int (g 11 z0.toNatClampNeg), .int (g 12 z0.toNatClampNeg), .int (g 13 z0.toNatClampNeg), .int (g 14 z0.toNatClampNeg)]) (la := [some (.ref 39), some (.int (g 11 z0.toNatClampNeg)), some (.int (g 12 z0.toNatClampNeg)), some (.int (g 13 z0.toNatClampNeg)), some (.int (g 14 z0.toNatClampNeg))]) (rest := []) hi_175_67 (am_hd0 (M := 175) (by decide) 67) (Nat.le_of_ble_eq_true rfl) (Nat.le_of_ble_eq_true rfl) (show 5 ≤ am_P0.2.2.1 180 from by decide +kernel) rfl (am_recv_ok hS2.fs) rfl rfl (st_any (d := d) (f := f) (z := z0) hS2 hB (by omega) (rj_top hB.1 (by omega)).1 (rj_top hB.1 (by omega)).2.1 (rj_top hB.1 (by omega)).2.2.1 (rj_top hB.1 (by omega)).2.2.2) ?_
      rintro v S1 ⟨f', g', gs', bc', rfl, hS', h | h⟩
      · show am_E _ _ _ _ [some (.ref 39), none] [] _ _
        refine am_e18 hi_175_70 ?_
        have h1 : f' 0 = f 0 := h.2.1
        have h2 : 100 * ((f 0).toInt - (f' 4).toInt) + mg_p3 gs' < 100 * ((f 0).toInt - (f 4).toInt) + mg_p3 (e :: gs) := h.2.2
        exact ih S1 f' g' gs' bc' hS' h.1 (h1.trans h0) (by rw [h1]; omega)
      · show am_E _ _ _ _ [some (.ref 39), none] [] _ _
        refine am_e18 hi_175_70 ?_
        refine lp_comp0 hx hS' (mg_off_tr h h0)
set_option maxHeartbeats 16000000 in
theorem ct_compile {sc : Nat × (Nat → Int32)} {d : Nat} {S0 S : am_S} {f : Nat → Int32} {g : Nat → Nat → Int32} (hS : MS S0 S f g) (hI : RI f g) (p0 : 0 ≤ (f 0).toInt) (p1 : (f 0).toInt ≤ 512) : am_E (am_PP sc) (d + 9) 175 0 [some (.ref 39), none] [] S (am_N fun v S1 => ∃ (r : Int32) (f' : Nat → Int32) (g' : Nat → Nat → Int32), v = some (.int r) ∧ MS S0 S1 f' g' ∧ RI f' g' ∧ (f' 0).toInt = 0) := by
  obtain ⟨hI1, hI2, hI3, hI4⟩ := hI
  refine am_e2 (v := 39) hi_175_0 rfl ?_
  refine am_e32w (as := [.ref 39]) (la := [some (.ref 39)]) (rest := []) hi_175_1 (am_hd0 (M := 175) (by decide) 1) (Nat.le_of_ble_eq_true rfl) (Nat.le_of_ble_eq_true rfl) (show 1 ≤ am_P0.2.2.1 176 from by decide +kernel) rfl (am_recv_ok hS.fs) rfl rfl ?_
  refine am_e2 (v := 39) hi_176_0 rfl ?_
  refine am_e0 hi_176_1 ?_
  refine mm_21 (v := 0) hS hi_176_2 rfl (Nat.le_of_ble_eq_true rfl) ms_4 ?_
  intro S1 hS2
  refine am_e2 (v := 39) hi_176_5 rfl ?_
  refine am_e0 hi_176_6 ?_
  refine mm_21 (v := 0) hS2 hi_176_7 rfl (Nat.le_of_ble_eq_true rfl) ms_5 ?_
  intro S3 hS4
  refine am_e2 (v := 39) hi_176_10 rfl ?_
  refine am_e0 hi_176_11 ?_
  refine mm_21 (v := 0) hS4 hi_176_12 rfl (Nat.le_of_ble_eq_true rfl) ms_6 ?_
  intro S5 hS6
  refine am_e2 (v := 39) hi_176_15 rfl ?_
  refine am_e0 hi_176_16 ?_
  refine mm_21 (v := 0) hS6 hi_176_17 rfl (Nat.le_of_ble_eq_true rfl) ms_8 ?_
  intro S7 hS8
  refine am_e2 (v := 39) hi_176_20 rfl ?_
  refine am_e0 hi_176_21 ?_
  refine mm_21 (v := 0) hS8 hi_176_22 rfl (Nat.le_of_ble_eq_true rfl) ms_10 ?_
  intro S9 hS10
  refine am_e2 (v := 39) hi_176_25 rfl ?_
  refine am_e0 hi_176_26 ?_
  refine mm_21 (v := 0) hS10 hi_176_27 rfl (Nat.le_of_ble_eq_true rfl) ms_15 ?_
  intro S11 hS12
  refine am_e2 (v := 39) hi_176_30 rfl ?_
  refine am_e0 hi_176_31 ?_
  refine mm_21 (v := 0) hS12 hi_176_32 rfl (Nat.le_of_ble_eq_true rfl) ms_20 ?_
  intro S13 hS14
  refine am_e2 (v := 39) hi_176_35 rfl ?_
  refine am_e0 hi_176_36 ?_
  refine mm_21 (v := 0) hS14 hi_176_37 rfl (Nat.le_of_ble_eq_true rfl) ms_24 ?_
  intro S15 hS16
  refine am_e2 (v := 39) hi_176_40 rfl ?_
  refine am_e0 hi_176_41 ?_
  refine mm_21 (v := 0) hS16 hi_176_42 rfl (Nat.le_of_ble_eq_true rfl) ms_31 ?_
  intro S17 hS18
  refine am_e2 (v := 39) hi_176_45 rfl ?_
  refine am_e0 hi_176_46 ?_
  refine mm_21 (v := 0) hS18 hi_176_47 rfl (Nat.le_of_ble_eq_true rfl) ms_32 ?_
  intro S19 hS20
  refine am_e2 (v := 39) hi_176_50 rfl ?_
  refine mm_20 (v := .ref 58) hS20 hi_176_51 rfl ?_
  refine am_e0 hi_176_54 ?_
  refine am_e0 hi_176_55 ?_
  refine mm_26 hS20 ma_33 hi_176_56 (by decide) (by decide) (by decide) (fun h => nomatch h) ?_
  intro S21 hS22
  refine am_e2 (v := 39) hi_176_57 rfl ?_
  refine mm_20 (v := .ref 59) hS22 hi_176_58 rfl ?_
  refine am_e0 hi_176_61 ?_
  refine am_e0 hi_176_62 ?_
  refine mm_26 hS22 ma_34 hi_176_63 (by decide) (by decide) (by decide) (fun h => nomatch h) ?_
  intro S23 hS24
  refine am_e2 (v := 39) hi_176_64 rfl ?_
  refine mm_20 (v := .ref 60) hS24 hi_176_65 rfl ?_
  refine am_e0 hi_176_68 ?_
  refine am_e0 hi_176_69 ?_
  refine mm_26 hS24 ma_35 hi_176_70 (by decide) (by decide) (by decide) (fun h => nomatch h) ?_
  intro S25 hS26
  refine am_e2 (v := 39) hi_176_71 rfl ?_
  refine mm_20 (v := .ref 61) hS26 hi_176_72 rfl ?_
  refine am_e0 hi_176_75 ?_
  refine am_e0 hi_176_76 ?_
  refine mm_26 hS26 ma_36 hi_176_77 (by decide) (by decide) (by decide) (fun h => nomatch h) ?_
  intro S27 hS28
  refine am_e2 (v := 39) hi_176_78 rfl ?_
  refine am_e0 hi_176_79 ?_
  refine mm_21 (v := 0) hS28 hi_176_80 rfl (Nat.le_of_ble_eq_true rfl) ms_37 ?_
  intro S29 hS30
  refine am_e2 (v := 39) hi_176_83 rfl ?_
  refine am_e0 hi_176_84 ?_
  refine mm_21 (v := 0) hS30 hi_176_85 rfl (Nat.le_of_ble_eq_true rfl) ms_44 ?_
  intro S31 hS32
  refine am_e2 (v := 39) hi_176_88 rfl ?_
  refine am_e0 hi_176_89 ?_
  refine mm_21 (v := 0) hS32 hi_176_90 rfl (Nat.le_of_ble_eq_true rfl) ms_48 ?_
  intro S33 hS34
  refine am_e2 (v := 39) hi_176_93 rfl ?_
  refine am_e0 hi_176_94 ?_
  refine mm_21 (v := 1) hS34 hi_176_95 rfl (Nat.le_of_ble_eq_true rfl) ms_53 ?_
  intro S35 hS36
  refine am_e2 (v := 39) hi_176_98 rfl ?_
  refine mm_20 (v := .ref 75) hS36 hi_176_99 rfl ?_
  refine am_e0 hi_176_102 ?_
  refine am_e0 hi_176_103 ?_
  refine mm_26 hS36 ma_54 hi_176_104 (by decide) (by decide) (by decide) (fun h => nomatch h) ?_
  intro S37 hS38
  refine am_e2 (v := 39) hi_176_105 rfl ?_
  refine mm_20 (v := .ref 80) hS38 hi_176_106 rfl ?_
  refine am_e0 hi_176_109 ?_
  refine am_e0 hi_176_110 ?_
  refine mm_26 hS38 ma_59 hi_176_111 (by decide) (by decide) (by decide) (fun h => nomatch h) ?_
  intro S39 hS40
  refine am_e2 (v := 39) hi_176_112 rfl ?_
  refine mm_20 (v := .ref 76) hS40 hi_176_113 rfl ?_
  refine am_e0 hi_176_116 ?_
  refine am_e0 hi_176_117 ?_
  refine mm_26 hS40 ma_55 hi_176_118 (by decide) (by decide) (by decide) (fun h => nomatch h) ?_
  intro S41 hS42
  refine am_e2 (v := 39) hi_176_119 rfl ?_
  refine mm_20 (v := .ref 77) hS42 hi_176_120 rfl ?_
  refine am_e0 hi_176_123 ?_
  refine am_e0 hi_176_124 ?_
  refine mm_26 hS42 ma_56 hi_176_125 (by decide) (by decide) (by decide) (fun h => nomatch h) ?_
  intro S43 hS44
  refine am_e2 (v := 39) hi_176_126 rfl ?_
  refine mm_20 (v := .ref 79) hS44 hi_176_127 rfl ?_
  refine am_e0 hi_176_130 ?_
  refine am_e0 hi_176_131 ?_
  refine mm_26 hS44 ma_58 hi_176_132 (by decide) (by decide) (by decide) (fun h => nomatch h) ?_
  intro S45 hS46
  refine am_e2 (v := 39) hi_176_133 rfl ?_
  refine mm_20 (v := .ref 81) hS46 hi_176_134 rfl ?_
  refine am_e0 hi_176_137 ?_
  refine am_e0 hi_176_138 ?_
  refine mm_26 hS46 ma_60 hi_176_139 (by decide) (by decide) (by decide) (fun h => nomatch h) ?_
  intro S47 hS48
  refine am_e2 (v := 39) hi_176_140 rfl ?_
  refine mm_20 (v := .ref 87) hS48 hi_176_141 rfl ?_
  refine am_e0 hi_176_144 ?_
  refine am_e0 hi_176_145 ?_
  refine mm_26 hS48 ma_67 hi_176_146 (by decide) (by decide) (by decide) (fun h => nomatch h) ?_
  intro S49 hS50
  refine am_e2 (v := 39) hi_176_147 rfl ?_
  refine am_e0 hi_176_148 ?_
  refine mm_21 (v := 0) hS50 hi_176_149 rfl (Nat.le_of_ble_eq_true rfl) ms_62 ?_
  intro S51 hS52
  refine am_e2 (v := 39) hi_176_152 rfl ?_
  refine am_e0 hi_176_153 ?_
  refine mm_21 (v := 0) hS52 hi_176_154 rfl (Nat.le_of_ble_eq_true rfl) ms_68 ?_
  intro S53 hS54
  have hR55 : RJ (upd (upd (upd (upd (upd (upd (upd (upd (upd (upd (upd (upd (upd (upd (upd (upd f 4 0) 5 0) 6 0) 8 0) 10 0) 15 0) 20 0) 24 0) 31 0) 32 0) 37 0) 44 0) 48 0) 53 1) 62 0) 68 0) (upg (upg (upg (upg (upg (upg (upg (upg (upg (upg (upg g 33 0 0) 34 0 0) 35 0 0) 36 0 0) 54 0 (-1)) 59 0 (-1)) 55 0 0) 56 0 1) 58 0 0) 60 0 0) 67 0 0) [] [] [] 0 [] := rj_zero hI1 (mj_U_zero hI2) (show (0 : Int32).toInt = 0 from by decide) (show (0 : Int32).toInt = 0 from by decide) (show (1 : Int32).toInt = 1 from by decide) (show (0 : Int32).toInt = 0 from by decide) (show (0 : Int32).toInt = 0 from by decide) (show (0 : Int32).toInt = 0 from by decide) (show (0 : Int32).toInt = 0 from by decide) (show (0 : Int32).toInt = 0 from by decide) (show (0 : Int32).toInt = 0 from by decide) (show (0 : Int32).toInt = 0 from by decide) (show (0 : Int32).toInt = 0 from by decide) (show (0 : Int32).toInt = 0 from by decide)
  refine am_e35 hi_176_157 ?_
  show am_E _ _ _ _ [some (.ref 39), none] [] _ _
  refine am_e2 (v := 39) hi_175_4 rfl ?_
  refine am_e0 hi_175_5 ?_
  refine am_e32n (as := [.ref 39, .int 0]) (la := [some (.ref 39), some (.int 0)]) (rest := []) hi_175_6 (am_hd0 (M := 175) (by decide) 6) (Nat.le_of_ble_eq_true rfl) (Nat.le_of_ble_eq_true rfl) (show 2 ≤ am_P0.2.2.1 177 from by decide +kernel) rfl (am_recv_ok hS54.fs) rfl rfl (ct_beginBlock (d := (d + 8)) hS54 hR55 (by decide)  (by show (0 : Int) ≤ (0 : Int); omega) (by show (0 : Int) ≤ (127 : Int); omega) (by show (0 : Int) ≤ (0 : Int); omega) (by show (0 : Int) ≤ (0 : Int); omega) (by show (0 : Int) ≤ (0 : Int); omega) (by show (0 : Int) ≤ (0 : Int); omega)) ?_
  rintro v56 S57 (⟨z58, g'59, hv60, hS61, hR64, h62, h63⟩)
  subst hv60
  have h62_ : z58.toInt = (0 : Int) + 1 := h62
  have h63_ : ∀ j, j ∉ [38, 39, 40, 41, 42, 43] → g'59 j = (upg (upg (upg (upg (upg (upg (upg (upg (upg (upg (upg g 33 0 0) 34 0 0) 35 0 0) 36 0 0) 54 0 (-1)) 59 0 (-1)) 55 0 0) 56 0 1) 58 0 0) 60 0 0) 67 0 0) j := h63
  replace hS61 : MS S0 S57 (upd (upd (upd (upd (upd (upd (upd (upd (upd (upd (upd (upd (upd (upd (upd (upd f 4 0) 5 0) 6 0) 8 0) 10 0) 15 0) 20 0) 24 0) 31 0) 32 0) 37 z58) 44 0) 48 0) 53 1) 62 0) 68 0) g'59 := hS61
  have hR64_ : RJ (upd (upd (upd (upd (upd (upd (upd (upd (upd (upd (upd (upd (upd (upd (upd (upd f 4 0) 5 0) 6 0) 8 0) 10 0) 15 0) 20 0) 24 0) 31 0) 32 0) 37 z58) 44 0) 48 0) 53 1) 62 0) 68 0) g'59 [] ([] :: []) [] 0 [] := hR64
  show am_E _ _ _ _ [some (.ref 39), none] [] _ _
  refine am_e2 (v := 39) hi_175_9 rfl ?_
  refine am_e32w (as := [.ref 39]) (la := [some (.ref 39)]) (rest := []) hi_175_10 (am_hd0 (M := 175) (by decide) 10) (Nat.le_of_ble_eq_true rfl) (Nat.le_of_ble_eq_true rfl) (show 1 ≤ am_P0.2.2.1 178 from by decide +kernel) rfl (am_recv_ok hS61.fs) rfl rfl ?_
  refine am_e2 (v := 39) hi_178_0 rfl ?_
  refine am_e0 hi_178_1 ?_
  refine am_e0 hi_178_2 ?_
  refine am_e0 hi_178_3 ?_
  refine am_e0 hi_178_4 ?_
  refine am_e32n (as := [.ref 39, .int 1, .int 0, .int 0, .int 0]) (la := [some (.ref 39), some (.int 1), some (.int 0), some (.int 0), some (.int 0)]) (rest := []) hi_178_5 (am_hd0 (M := 178) (by decide) 5) (Nat.le_of_ble_eq_true rfl) (Nat.le_of_ble_eq_true rfl) (show 5 ≤ am_P0.2.2.1 179 from by decide +kernel) rfl (am_recv_ok hS61.fs) rfl rfl (ct_pile (d := (d + 7)) hS61 hR64_ (mj_e_plain (by decide)) (by show (0 : Int) ≤ (0 : Int); omega) (by show (0 : Int) ≤ (65535 : Int); omega)) ?_
  rintro v65 S66 (⟨z67, g'68, hv69, hS70, hR73, h71, h72⟩)
  subst hv69
  have h71_ : z67.toInt = (0 : Int) + 1 := h71
  have h72_ : ∀ j, j ∉ [11, 12, 13, 14] → g'68 j = g'59 j := h72
  replace hS70 : MS S0 S66 (upd (upd (upd (upd (upd (upd (upd (upd (upd (upd (upd (upd (upd (upd (upd (upd f 4 0) 5 0) 6 0) 8 0) 10 z67) 15 0) 20 0) 24 0) 31 0) 32 0) 37 z58) 44 0) 48 0) 53 1) 62 0) 68 0) g'68 := hS70
  have hR73_ : RJ (upd (upd (upd (upd (upd (upd (upd (upd (upd (upd (upd (upd (upd (upd (upd (upd f 4 0) 5 0) 6 0) 8 0) 10 z67) 15 0) 20 0) 24 0) 31 0) 32 0) 37 z58) 44 0) 48 0) 53 1) 62 0) 68 0) g'68 (((1 : Int), (0 : Int), (0 : Int), (0 : Int), []) :: []) ([] :: []) [] 0 [] := hR73
  show am_E _ _ _ _ [some (.ref 39)] [] _ _
  refine am_e35 hi_178_8 ?_
  show am_E _ _ _ _ [some (.ref 39), none] [] _ _
  have q1 : mg_p1 (((1 : Int), (0 : Int), (0 : Int), (0 : Int), []) :: []) = 0 := rfl
  have q2 : mg_p2 (((1 : Int), (0 : Int), (0 : Int), (0 : Int), []) :: []) = 0 := rfl
  have q3 : mg_p3 (((1 : Int), (0 : Int), (0 : Int), (0 : Int), []) :: []) = 1 := rfl
  have q4 : mg_p4 (((1 : Int), (0 : Int), (0 : Int), (0 : Int), []) :: []) = 0 := rfl
  have hB : BI (upd (upd (upd (upd (upd (upd (upd (upd (upd (upd (upd (upd (upd (upd (upd (upd f 4 0) 5 0) 6 0) 8 0) 10 z67) 15 0) 20 0) 24 0) 31 0) 32 0) 37 z58) 44 0) 48 0) 53 1) 62 0) 68 0) g'68 (((1 : Int), (0 : Int), (0 : Int), (0 : Int), []) :: []) ([] :: []) := ⟨hR73_, ⟨⟨(show mg_k 1 from by decide), (show (0 : Int) ≤ (0 : Int) from by omega), (show 0 ≤ (0 : Int) from by omega), (show 1 ≤ z58.toInt from by omega), (show 0 ≤ (0 : Int) from by omega), (show (0 : Int) ≤ (0 : Int) from by omega), (show (0 : Int) ≤ 48 from by omega), (show z58.toInt ≤ 2 * (0 : Int) + 1 from by omega), trivial⟩, (show 0 ≤ (0 : Int) + 0 ∧ 0 ≤ (0 : Int) ∧ 1 ≤ z58.toInt + 0 ∧ 0 ≤ (0 : Int) + 0 ∧ (0 : Int) + 0 ≤ (0 : Int) + 0 ∧ (0 : Int) + 0 ≤ 48 ∧ z58.toInt + 0 ≤ 2 * ((0 : Int) + 0) + 2 from by omega)⟩, (by show 0 ≤ (0 : Int); omega), (by show (0 : Int) ≤ (f 0).toInt; omega), (by show (f 0).toInt ≤ 512; omega), (by show 0 ≤ (0 : Int); omega), (by show (0 : Int) + (0 : Int) + mg_p1 (((1 : Int), (0 : Int), (0 : Int), (0 : Int), []) :: []) ≤ 4 * (0 : Int); omega), (by show (0 : Int) ≤ (0 : Int); omega), (by show (0 : Int) + mg_p2 (((1 : Int), (0 : Int), (0 : Int), (0 : Int), []) :: []) ≤ (0 : Int); omega), (by show mg_p3 (((1 : Int), (0 : Int), (0 : Int), (0 : Int), []) :: []) ≤ 20 * (0 : Int) + 20; omega), (by show 0 ≤ (0 : Int); omega), (by show (0 : Int) + 3 * (0 : Int) + mg_p4 (((1 : Int), (0 : Int), (0 : Int), (0 : Int), []) :: []) ≤ 60 * (0 : Int) + 60; omega), (by show 0 ≤ (0 : Int); omega), (by show (0 : Int) + 64 * (0 : Int) ≤ 64 * (0 : Int); omega), (by show 0 ≤ (0 : Int); omega), (by show (0 : Int) ≤ (0 : Int); omega), (by show 0 ≤ (0 : Int); omega), (by show (0 : Int) ≤ (0 : Int); omega), (by show 1 ≤ (1 : Int); omega), (by show (1 : Int) ≤ (0 : Int) + 1; omega), (by show 0 ≤ (f 19).toInt; omega), (by show (f 19).toInt ≤ 600; omega), (by show 0 ≤ (0 : Int); omega), (by show 0 ≤ (0 : Int); omega)⟩
  refine lp_comp (d := d) (f0 := (upd (upd (upd (upd (upd (upd (upd (upd (upd (upd (upd (upd (upd (upd (upd (upd f 4 0) 5 0) 6 0) 8 0) 10 z67) 15 0) 20 0) 24 0) 31 0) 32 0) 37 z58) 44 0) 48 0) 53 1) 62 0) 68 0)) ?_ ((100 * ((f 0).toInt - (0 : Int)) + mg_p3 (((1 : Int), (0 : Int), (0 : Int), (0 : Int), []) :: [])).toNat + 1) _ _ _ _ _ hS70 hB rfl (by show 100 * ((f 0).toInt - (0 : Int)) + mg_p3 (((1 : Int), (0 : Int), (0 : Int), (0 : Int), []) :: []) < _; omega)
  intro S1 f1 g1 bc1 hS1 hoff
  obtain ⟨hR1, o0, o1, o2, o3, o4, o5, o6, o7, o8, o9, o10, o11, o12, o13, o14, o15, o16, o17, o18⟩ := hoff
  have o0_ : (f1 0).toInt = (f 0).toInt := by rw [o0]; rfl
  have o2_ : (f1 4).toInt ≤ (f 0).toInt := o2
  refine am_e2 (v := 39) hi_175_73 rfl ?_
  refine mm_20 (v := .int (f1 6)) hS1 hi_175_74 rfl ?_
  by_cases c74 : ¬ (f1 6).toInt = (0 : Int)
  · refine am_e12t hi_175_77 (am_cT (m := (f1 6).toInt) (n := (0 : Int)) rfl (by decide) c74) ?_
    refine am_e2 (v := 39) hi_175_98 rfl ?_
    refine mm_20 (v := .int (f1 6)) hS1 hi_175_99 rfl ?_
    refine am_e12t hi_175_102 (am_cT (m := (f1 6).toInt) (n := (0 : Int)) rfl (by decide) (by simp only [am_cI]; omega)) ?_
    refine am_e2 (v := 39) hi_175_122 rfl ?_
    refine mm_20 (v := .int (f1 6)) hS1 hi_175_123 rfl ?_
    refine am_e12f hi_175_126 (am_cF (m := (f1 6).toInt) (n := (0 : Int)) rfl (by decide) (by simp only [am_cI]; omega)) ?_
    refine am_e2 (v := 39) hi_175_129 rfl ?_
    refine mm_20 (v := .int (f1 6)) hS1 hi_175_130 rfl ?_
    refine am_e18 hi_175_133 ?_
    refine am_e3 (ls' := [some (.ref 39), some (.int (f1 6))]) hi_175_140 (Nat.le_of_ble_eq_true rfl) rfl ?_
    refine am_e2 (v := 39) hi_175_141 rfl ?_
    refine am_e2 (v := 39) hi_175_142 rfl ?_
    refine mm_20 (v := .int (f1 6)) hS1 hi_175_143 rfl ?_
    refine am_e12f hi_175_146 (am_cF (m := (f1 6).toInt) (n := (0 : Int)) rfl (by decide) (by simp only [am_cI]; omega)) ?_
    refine am_e2 (v := 39) hi_175_149 rfl ?_
    refine mm_20 (v := .int (f1 7)) hS1 hi_175_150 rfl ?_
    refine am_e18 hi_175_153 ?_
    refine mm_21 (v := f1 7) hS1 hi_175_174 rfl (Nat.le_of_ble_eq_true rfl) ms_3 ?_
    intro S75 hS76
    refine am_e2 (v := 39) hi_175_177 rfl ?_
    refine mm_20 (v := .ref 78) hS76 hi_175_178 rfl ?_
    refine am_e0 hi_175_181 ?_
    refine am_e2 (v := 39) hi_175_182 rfl ?_
    refine mm_20 (v := .int (f1 0)) hS76 hi_175_183 rfl ?_
    refine mm_26 hS76 ma_57 hi_175_186 (by decide) (by decide) (by decide) (fun h => nomatch h) ?_
    intro S77 hS78
    refine am_e2 (v := 39) hi_175_187 rfl ?_
    refine am_e0 hi_175_188 ?_
    refine mm_21 (v := 0) hS78 hi_175_189 rfl (Nat.le_of_ble_eq_true rfl) ms_0 ?_
    intro S79 hS80
    replace hS80 : MS S0 S79 (upd (upd f1 0 0) 3 (f1 7)) (upg g1 57 0 (f1 0)) := hS80
    refine am_e2 (v := 39) hi_175_192 rfl ?_
    refine am_e1 (v := f1 6) hi_175_193 rfl ?_
    refine am_e12f hi_175_194 (am_cF (m := (f1 6).toInt) (n := (0 : Int)) rfl (by decide) (by simp only [am_cI]; omega)) ?_
    refine am_e0 hi_175_197 ?_
    refine am_e18 hi_175_198 ?_
    refine mm_21 (v := 0) hS80 hi_175_205 rfl (Nat.le_of_ble_eq_true rfl) ms_53 ?_
    intro S81 hS82
    refine am_e1 (v := f1 6) hi_175_208 rfl ?_
    refine am_e12t hi_175_209 (am_cT (m := (f1 6).toInt) (n := (0 : Int)) rfl (by decide) (by simp only [am_cI]; omega)) ?_
    refine am_e1 (v := f1 6) hi_175_216 rfl ?_
    refine am_e12f hi_175_217 (am_cF (m := (f1 6).toInt) (n := (0 : Int)) rfl (by decide) (by simp only [am_cI]; omega)) ?_
    refine am_e1 (v := f1 6) hi_175_220 rfl ?_
    obtain ⟨z83, hz83⟩ : ∃ q__, -(f1 6) = q__ := ⟨_, rfl⟩
    refine am_e11 (z := z83) hi_175_221 hz83 ?_
    refine am_e18 hi_175_222 ?_
    refine am_e33 hi_175_229 ?_
    exact ⟨_, _, _, rfl, hS82, ri_bad (F := (upd (upd (upd f1 0 0) 3 (f1 7)) 53 0)) (f := f1) (g := g1) hR1 (show (0 : Int32).toInt = 0 from by decide) ⟨(show 0 ≤ (f1 19).toInt from by omega), (show (f1 19).toInt ≤ 600 from by omega)⟩ ⟨(show 0 ≤ (f1 62).toInt from by omega), (show (f1 62).toInt ≤ 65000 from by omega)⟩ (show ∀ j, j ∉ [57, 60, 61, 74] → (upg g1 57 0 (f1 0)) j = g1 j from by intro j hj; simp only [List.mem_cons, List.not_mem_nil, or_false, not_or] at hj; simp only [upg, hj, if_false]), (show (0 : Int32).toInt = 0 from by decide)⟩
  · refine am_e12f hi_175_77 (am_cF (m := (f1 6).toInt) (n := (0 : Int)) rfl (by decide) c74) ?_
    refine am_e2 (v := 39) hi_175_80 rfl ?_
    refine mm_20 (v := .int (f1 4)) hS1 hi_175_81 rfl ?_
    refine am_e2 (v := 39) hi_175_84 rfl ?_
    refine mm_20 (v := .int (f1 0)) hS1 hi_175_85 rfl ?_
    by_cases c84 : (f1 0).toInt ≤ (f1 4).toInt
    · refine am_e13t hi_175_88 (am_cT (m := (f1 4).toInt) (n := (f1 0).toInt) rfl rfl c84) ?_
      refine am_e2 (v := 39) hi_175_98 rfl ?_
      refine mm_20 (v := .int (f1 6)) hS1 hi_175_99 rfl ?_
      refine am_e12f hi_175_102 (am_cF (m := (f1 6).toInt) (n := (0 : Int)) rfl (by decide) (by simp only [am_cI]; omega)) ?_
      refine am_e2 (v := 39) hi_175_105 rfl ?_
      refine am_e0 hi_175_106 ?_
      refine am_e0 hi_175_108 ?_
      refine am_e0 hi_175_109 ?_
      refine am_e2 (v := 39) hi_175_110 rfl ?_
      refine mm_20 (v := .int (f1 0)) hS1 hi_175_111 rfl ?_
      refine am_e32n (as := [.ref 39, .int 45, .int 0, .int 0, .int (f1 0)]) (la := [some (.ref 39), some (.int 45), some (.int 0), some (.int 0), some (.int (f1 0))]) (rest := []) hi_175_114 (am_hd0 (M := 175) (by decide) 114) (Nat.le_of_ble_eq_true rfl) (Nat.le_of_ble_eq_true rfl) (show 5 ≤ am_P0.2.2.1 189 from by decide +kernel) rfl (am_recv_ok hS1.fs) rfl rfl (ct_put (d := (d + 8)) hS1 hR1  (by show (0 : Int) ≤ (f1 32).toInt; omega) (by show (f1 32).toInt ≤ (63 : Int); omega) (by show (f1 53).toInt ≤ (4096 : Int); omega) (by show (0 : Int) ≤ (f1 68).toInt; omega) (by show (f1 68).toInt ≤ (65534 : Int); omega)) ?_
      rintro v85 S86 (⟨z87, r88, g'89, hv90, hS91, hR95, h92, h93, h94⟩)
      subst hv90
      have h92_ : z87.toInt = (f1 68).toInt + 1 := h92
      have h93_ : r88.toInt = (f1 68).toInt := h93
      have h94_ : ∀ j, j ∉ [60, 69, 70, 71, 72, 73] → g'89 j = g1 j := h94
      have hR95_ : RJ (upd f1 68 z87) g'89 [] bc1 [] 0 ((f1 68).toNatClampNeg :: []) := hR95
      show am_E _ _ _ _ [some (.ref 39), none] [.int r88] _ _
      refine am_e6i hi_175_117 ?_
      refine am_e2 (v := 39) hi_175_118 rfl ?_
      refine am_e32n (as := [.ref 39]) (la := [some (.ref 39), none]) (rest := []) hi_175_119 (am_hd0 (M := 175) (by decide) 119) (Nat.le_of_ble_eq_true rfl) (Nat.le_of_ble_eq_true rfl) (show 1 ≤ am_P0.2.2.1 223 from by decide +kernel) rfl (am_recv_ok hS91.fs) rfl rfl (ct_lostGotos (d := (d + 7)) hS91 hR95_  (by show (0 : Int) ≤ (f1 32).toInt; omega) (by show (f1 32).toInt ≤ (63 : Int); omega) (by show (0 : Int) ≤ (f1 48).toInt; omega) (by show (f1 48).toInt ≤ (8192 : Int); omega) (by show (f1 4).toInt ≤ (8192 : Int); omega) (by show (0 : Int) ≤ (f1 8).toInt; omega)) ?_
      rintro v96 S97 (⟨a98, b99, z100, hv101, hS102, hR106, h103, h104, h105⟩)
      subst hv101
      have h103_ : (0 : Int) ≤ z100.toInt := h103
      have h104_ : z100.toInt ≤ (f1 4).toInt := h104
      have h105_ : (0 : Int) ≤ a98.toInt := h105
      replace hS102 : MS S0 S97 (upd (upd (upd (upd f1 8 a98) 9 b99) 48 z100) 68 z87) g'89 := hS102
      have hR106_ : RJ (upd (upd (upd (upd f1 8 a98) 9 b99) 48 z100) 68 z87) g'89 [] bc1 [] 0 ((f1 68).toNatClampNeg :: []) := hR106
      show am_E _ _ _ _ [some (.ref 39), none] [] _ _
      refine am_e2 (v := 39) hi_175_122 rfl ?_
      refine mm_20 (v := .int (f1 6)) hS102 hi_175_123 rfl ?_
      refine am_e12t hi_175_126 (am_cT (m := (f1 6).toInt) (n := (0 : Int)) rfl (by decide) (by simp only [am_cI]; omega)) ?_
      refine am_e2 (v := 39) hi_175_136 rfl ?_
      refine mm_20 (v := .int a98) hS102 hi_175_137 rfl ?_
      refine am_e3 (ls' := [some (.ref 39), some (.int a98)]) hi_175_140 (Nat.le_of_ble_eq_true rfl) rfl ?_
      refine am_e2 (v := 39) hi_175_141 rfl ?_
      refine am_e2 (v := 39) hi_175_142 rfl ?_
      refine mm_20 (v := .int (f1 6)) hS102 hi_175_143 rfl ?_
      refine am_e12t hi_175_146 (am_cT (m := (f1 6).toInt) (n := (0 : Int)) rfl (by decide) (by simp only [am_cI]; omega)) ?_
      refine am_e2 (v := 39) hi_175_156 rfl ?_
      refine mm_20 (v := .int a98) hS102 hi_175_157 rfl ?_
      by_cases c107 : a98.toInt ≤ (0 : Int)
      · refine am_e12t hi_175_160 (am_cT (m := a98.toInt) (n := (0 : Int)) rfl (by decide) c107) ?_
        refine am_e2 (v := 39) hi_175_170 rfl ?_
        refine mm_20 (v := .int (f1 0)) hS102 hi_175_171 rfl ?_
        refine mm_21 (v := f1 0) hS102 hi_175_174 rfl (Nat.le_of_ble_eq_true rfl) ms_3 ?_
        intro S108 hS109
        replace hS109 : MS S0 S108 (upd (upd (upd (upd (upd f1 3 (f1 0)) 8 a98) 9 b99) 48 z100) 68 z87) g'89 := hS109
        refine am_e2 (v := 39) hi_175_177 rfl ?_
        refine mm_20 (v := .ref 78) hS109 hi_175_178 rfl ?_
        refine am_e0 hi_175_181 ?_
        refine am_e2 (v := 39) hi_175_182 rfl ?_
        refine mm_20 (v := .int (f1 0)) hS109 hi_175_183 rfl ?_
        refine mm_26 hS109 ma_57 hi_175_186 (by decide) (by decide) (by decide) (fun h => nomatch h) ?_
        intro S110 hS111
        refine am_e2 (v := 39) hi_175_187 rfl ?_
        refine am_e0 hi_175_188 ?_
        refine mm_21 (v := 0) hS111 hi_175_189 rfl (Nat.le_of_ble_eq_true rfl) ms_0 ?_
        intro S112 hS113
        replace hS113 : MS S0 S112 (upd (upd (upd (upd (upd (upd f1 0 0) 3 (f1 0)) 8 a98) 9 b99) 48 z100) 68 z87) (upg g'89 57 0 (f1 0)) := hS113
        refine am_e2 (v := 39) hi_175_192 rfl ?_
        refine am_e1 (v := a98) hi_175_193 rfl ?_
        refine am_e12t hi_175_194 (am_cT (m := a98.toInt) (n := (0 : Int)) rfl (by decide) (by simp only [am_cI]; omega)) ?_
        refine am_e2 (v := 39) hi_175_201 rfl ?_
        refine mm_20 (v := .int (f1 53)) hS113 hi_175_202 rfl ?_
        refine mm_21 (v := f1 53) hS113 hi_175_205 rfl (Nat.le_of_ble_eq_true rfl) ms_53 ?_
        intro S114 hS115
        replace hS115 : MS S0 S114 (upd (upd (upd (upd (upd (upd (upd f1 0 0) 3 (f1 0)) 8 a98) 9 b99) 48 z100) 53 (f1 53)) 68 z87) (upg g'89 57 0 (f1 0)) := hS115
        refine am_e1 (v := a98) hi_175_208 rfl ?_
        refine am_e12f hi_175_209 (am_cF (m := a98.toInt) (n := (0 : Int)) rfl (by decide) (by simp only [am_cI]; omega)) ?_
        refine am_e2 (v := 39) hi_175_212 rfl ?_
        refine am_e32n (as := [.ref 39]) (la := [some (.ref 39), none, none]) (rest := []) hi_175_213 (am_hd0 (M := 175) (by decide) 213) (Nat.le_of_ble_eq_true rfl) (Nat.le_of_ble_eq_true rfl) (show 1 ≤ am_P0.2.2.1 266 from by decide +kernel) rfl (am_recv_ok hS115.fs) rfl rfl (ct_sort (d := (d + 8)) hS115  (RJ.o2 hR106_) (by show (0 : Int) ≤ (f1 53).toInt; omega) (by show (f1 53).toInt ≤ (600 : Int); omega) (by show (0 : Int) ≤ z87.toInt; omega) (by show z87.toInt ≤ (65000 : Int); omega)) ?_
        rintro v116 S117 (⟨g'118, hv119, hS120, h121, h122, h123⟩)
        subst hv119
        have h121_ : ∀ j, j ∉ [60, 61, 74] → g'118 j = (upg g'89 57 0 (f1 0)) j := h121
        have h122_ : ∀ x : Nat, (x : Int) < (f1 53).toInt → 0 ≤ (g'118 61 x).toInt ∧ 0 ≤ (g'118 60 x).toInt ∧ (g'118 61 x).toInt + (g'118 60 x).toInt ≤ 65000 := h122
        have h123_ : ∀ x : Nat, (x : Int) < (f1 53).toInt → ∀ j : Nat, (j : Int) < (g'118 60 x).toInt → 0 ≤ (g'118 74 ((g'118 61 x).toInt.toNat + j)).toInt ∧ (g'118 74 ((g'118 61 x).toInt.toNat + j)).toInt < 65536 := h123
        show am_E _ _ _ _ [some (.ref 39), some (.int a98)] [] _ _
        refine am_e1 (v := a98) hi_175_216 rfl ?_
        refine am_e12t hi_175_217 (am_cT (m := a98.toInt) (n := (0 : Int)) rfl (by decide) (by simp only [am_cI]; omega)) ?_
        refine am_e2 (v := 39) hi_175_225 rfl ?_
        refine mm_20 (v := .int (f1 53)) hS120 hi_175_226 rfl ?_
        refine am_e33 hi_175_229 ?_
        exact ⟨_, _, _, rfl, hS120, ri_good (F := (upd (upd (upd (upd (upd (upd (upd f1 0 0) 3 (f1 0)) 8 a98) 9 b99) 48 z100) 53 (f1 53)) 68 z87)) (f := (upd (upd (upd (upd f1 8 a98) 9 b99) 48 z100) 68 z87)) (g := g'89) hR106_ rfl rfl ⟨(show 0 ≤ (f1 19).toInt from by omega), (show (f1 19).toInt ≤ 600 from by omega)⟩ ⟨(show 0 ≤ (f1 53).toInt from by omega), (show (f1 53).toInt ≤ 600 from by omega)⟩ ⟨(show 0 ≤ (f1 62).toInt from by omega), (show (f1 62).toInt ≤ 65000 from by omega)⟩ (fun j hj => ((show ∀ j, j ∉ [57, 60, 61, 74] → g'118 j = (upg g'89 57 0 (f1 0)) j from fun j hj => h121_ j (fun q => hj (mem_sub (L := [60, 61, 74]) (L' := [57, 60, 61, 74]) (by decide) q))) j hj).trans ((show ∀ j, j ∉ [57, 60, 61, 74] → (upg g'89 57 0 (f1 0)) j = g'89 j from by intro j hj; simp only [List.mem_cons, List.not_mem_nil, or_false, not_or] at hj; simp only [upg, hj, if_false]) j hj)) h122_ h123_, (show (0 : Int32).toInt = 0 from by decide)⟩
      · refine am_e12f hi_175_160 (am_cF (m := a98.toInt) (n := (0 : Int)) rfl (by decide) c107) ?_
        refine am_e2 (v := 39) hi_175_163 rfl ?_
        refine mm_20 (v := .int b99) hS102 hi_175_164 rfl ?_
        refine am_e18 hi_175_167 ?_
        refine mm_21 (v := b99) hS102 hi_175_174 rfl (Nat.le_of_ble_eq_true rfl) ms_3 ?_
        intro S125 hS126
        replace hS126 : MS S0 S125 (upd (upd (upd (upd (upd f1 3 b99) 8 a98) 9 b99) 48 z100) 68 z87) g'89 := hS126
        refine am_e2 (v := 39) hi_175_177 rfl ?_
        refine mm_20 (v := .ref 78) hS126 hi_175_178 rfl ?_
        refine am_e0 hi_175_181 ?_
        refine am_e2 (v := 39) hi_175_182 rfl ?_
        refine mm_20 (v := .int (f1 0)) hS126 hi_175_183 rfl ?_
        refine mm_26 hS126 ma_57 hi_175_186 (by decide) (by decide) (by decide) (fun h => nomatch h) ?_
        intro S127 hS128
        refine am_e2 (v := 39) hi_175_187 rfl ?_
        refine am_e0 hi_175_188 ?_
        refine mm_21 (v := 0) hS128 hi_175_189 rfl (Nat.le_of_ble_eq_true rfl) ms_0 ?_
        intro S129 hS130
        replace hS130 : MS S0 S129 (upd (upd (upd (upd (upd (upd f1 0 0) 3 b99) 8 a98) 9 b99) 48 z100) 68 z87) (upg g'89 57 0 (f1 0)) := hS130
        refine am_e2 (v := 39) hi_175_192 rfl ?_
        refine am_e1 (v := a98) hi_175_193 rfl ?_
        refine am_e12f hi_175_194 (am_cF (m := a98.toInt) (n := (0 : Int)) rfl (by decide) (by simp only [am_cI]; omega)) ?_
        refine am_e0 hi_175_197 ?_
        refine am_e18 hi_175_198 ?_
        refine mm_21 (v := 0) hS130 hi_175_205 rfl (Nat.le_of_ble_eq_true rfl) ms_53 ?_
        intro S131 hS132
        replace hS132 : MS S0 S131 (upd (upd (upd (upd (upd (upd (upd f1 0 0) 3 b99) 8 a98) 9 b99) 48 z100) 53 0) 68 z87) (upg g'89 57 0 (f1 0)) := hS132
        refine am_e1 (v := a98) hi_175_208 rfl ?_
        refine am_e12t hi_175_209 (am_cT (m := a98.toInt) (n := (0 : Int)) rfl (by decide) (by simp only [am_cI]; omega)) ?_
        refine am_e1 (v := a98) hi_175_216 rfl ?_
        refine am_e12f hi_175_217 (am_cF (m := a98.toInt) (n := (0 : Int)) rfl (by decide) (by simp only [am_cI]; omega)) ?_
        refine am_e1 (v := a98) hi_175_220 rfl ?_
        obtain ⟨z133, hz133⟩ : ∃ q__, -a98 = q__ := ⟨_, rfl⟩
        refine am_e11 (z := z133) hi_175_221 hz133 ?_
        refine am_e18 hi_175_222 ?_
        refine am_e33 hi_175_229 ?_
        exact ⟨_, _, _, rfl, hS132, ri_bad (F := (upd (upd (upd (upd (upd (upd (upd f1 0 0) 3 b99) 8 a98) 9 b99) 48 z100) 53 0) 68 z87)) (f := (upd (upd (upd (upd f1 8 a98) 9 b99) 48 z100) 68 z87)) (g := g'89) hR106_ (show (0 : Int32).toInt = 0 from by decide) ⟨(show 0 ≤ (f1 19).toInt from by omega), (show (f1 19).toInt ≤ 600 from by omega)⟩ ⟨(show 0 ≤ (f1 62).toInt from by omega), (show (f1 62).toInt ≤ 65000 from by omega)⟩ (show ∀ j, j ∉ [57, 60, 61, 74] → (upg g'89 57 0 (f1 0)) j = g'89 j from by intro j hj; simp only [List.mem_cons, List.not_mem_nil, or_false, not_or] at hj; simp only [upg, hj, if_false]), (show (0 : Int32).toInt = 0 from by decide)⟩
    · refine am_e13f hi_175_88 (am_cF (m := (f1 4).toInt) (n := (f1 0).toInt) rfl rfl c84) ?_
      refine am_e2 (v := 39) hi_175_91 rfl ?_
      refine am_e0 hi_175_92 ?_
      refine am_e32n (as := [.ref 39, .int 7]) (la := [some (.ref 39), some (.int 7)]) (rest := []) hi_175_94 (am_hd0 (M := 175) (by decide) 94) (Nat.le_of_ble_eq_true rfl) (Nat.le_of_ble_eq_true rfl) (show 2 ≤ am_P0.2.2.1 194 from by decide +kernel) rfl (am_recv_ok hS1.fs) rfl rfl (ct_fail (d := (d + 8)) hS1   (by show (0 : Int) ≤ (7 : Int); omega) (by show (0 : Int) ≤ (f1 6).toInt; omega)) ?_
      rintro v134 S135 (⟨a136, b137, hv138, hS139, h140⟩)
      subst hv138
      have h140_ : (0 : Int) ≤ a136.toInt := h140
      have hR142 := rj_clear0 hR1
      have hR143 : RJ (upd (upd (upd f1 6 a136) 7 b137) 10 0) g1 [] bc1 [] 0 [] := hR142
      show am_E _ _ _ _ [some (.ref 39), none] [.int 0] _ _
      refine am_e6i hi_175_97 ?_
      refine am_e2 (v := 39) hi_175_98 rfl ?_
      refine mm_20 (v := .int a136) hS139 hi_175_99 rfl ?_
      by_cases c144 : ¬ a136.toInt = (0 : Int)
      · refine am_e12t hi_175_102 (am_cT (m := a136.toInt) (n := (0 : Int)) rfl (by decide) c144) ?_
        refine am_e2 (v := 39) hi_175_122 rfl ?_
        refine mm_20 (v := .int a136) hS139 hi_175_123 rfl ?_
        refine am_e12f hi_175_126 (am_cF (m := a136.toInt) (n := (0 : Int)) rfl (by decide) (by simp only [am_cI]; omega)) ?_
        refine am_e2 (v := 39) hi_175_129 rfl ?_
        refine mm_20 (v := .int a136) hS139 hi_175_130 rfl ?_
        refine am_e18 hi_175_133 ?_
        refine am_e3 (ls' := [some (.ref 39), some (.int a136)]) hi_175_140 (Nat.le_of_ble_eq_true rfl) rfl ?_
        refine am_e2 (v := 39) hi_175_141 rfl ?_
        refine am_e2 (v := 39) hi_175_142 rfl ?_
        refine mm_20 (v := .int a136) hS139 hi_175_143 rfl ?_
        refine am_e12f hi_175_146 (am_cF (m := a136.toInt) (n := (0 : Int)) rfl (by decide) (by simp only [am_cI]; omega)) ?_
        refine am_e2 (v := 39) hi_175_149 rfl ?_
        refine mm_20 (v := .int b137) hS139 hi_175_150 rfl ?_
        refine am_e18 hi_175_153 ?_
        refine mm_21 (v := b137) hS139 hi_175_174 rfl (Nat.le_of_ble_eq_true rfl) ms_3 ?_
        intro S145 hS146
        replace hS146 : MS S0 S145 (upd (upd (upd (upd f1 3 b137) 6 a136) 7 b137) 10 0) g1 := hS146
        refine am_e2 (v := 39) hi_175_177 rfl ?_
        refine mm_20 (v := .ref 78) hS146 hi_175_178 rfl ?_
        refine am_e0 hi_175_181 ?_
        refine am_e2 (v := 39) hi_175_182 rfl ?_
        refine mm_20 (v := .int (f1 0)) hS146 hi_175_183 rfl ?_
        refine mm_26 hS146 ma_57 hi_175_186 (by decide) (by decide) (by decide) (fun h => nomatch h) ?_
        intro S147 hS148
        refine am_e2 (v := 39) hi_175_187 rfl ?_
        refine am_e0 hi_175_188 ?_
        refine mm_21 (v := 0) hS148 hi_175_189 rfl (Nat.le_of_ble_eq_true rfl) ms_0 ?_
        intro S149 hS150
        replace hS150 : MS S0 S149 (upd (upd (upd (upd (upd f1 0 0) 3 b137) 6 a136) 7 b137) 10 0) (upg g1 57 0 (f1 0)) := hS150
        refine am_e2 (v := 39) hi_175_192 rfl ?_
        refine am_e1 (v := a136) hi_175_193 rfl ?_
        refine am_e12f hi_175_194 (am_cF (m := a136.toInt) (n := (0 : Int)) rfl (by decide) (by simp only [am_cI]; omega)) ?_
        refine am_e0 hi_175_197 ?_
        refine am_e18 hi_175_198 ?_
        refine mm_21 (v := 0) hS150 hi_175_205 rfl (Nat.le_of_ble_eq_true rfl) ms_53 ?_
        intro S151 hS152
        refine am_e1 (v := a136) hi_175_208 rfl ?_
        refine am_e12t hi_175_209 (am_cT (m := a136.toInt) (n := (0 : Int)) rfl (by decide) (by simp only [am_cI]; omega)) ?_
        refine am_e1 (v := a136) hi_175_216 rfl ?_
        refine am_e12f hi_175_217 (am_cF (m := a136.toInt) (n := (0 : Int)) rfl (by decide) (by simp only [am_cI]; omega)) ?_
        refine am_e1 (v := a136) hi_175_220 rfl ?_
        obtain ⟨z153, hz153⟩ : ∃ q__, -a136 = q__ := ⟨_, rfl⟩
        refine am_e11 (z := z153) hi_175_221 hz153 ?_
        refine am_e18 hi_175_222 ?_
        refine am_e33 hi_175_229 ?_
        exact ⟨_, _, _, rfl, hS152, ri_bad (F := (upd (upd (upd (upd (upd (upd f1 0 0) 3 b137) 6 a136) 7 b137) 10 0) 53 0)) (f := (upd (upd (upd f1 6 a136) 7 b137) 10 0)) (g := g1) hR143 (show (0 : Int32).toInt = 0 from by decide) ⟨(show 0 ≤ (f1 19).toInt from by omega), (show (f1 19).toInt ≤ 600 from by omega)⟩ ⟨(show 0 ≤ (f1 62).toInt from by omega), (show (f1 62).toInt ≤ 65000 from by omega)⟩ (show ∀ j, j ∉ [57, 60, 61, 74] → (upg g1 57 0 (f1 0)) j = g1 j from by intro j hj; simp only [List.mem_cons, List.not_mem_nil, or_false, not_or] at hj; simp only [upg, hj, if_false]), (show (0 : Int32).toInt = 0 from by decide)⟩
      · refine am_e12f hi_175_102 (am_cF (m := a136.toInt) (n := (0 : Int)) rfl (by decide) c144) ?_
        refine am_e2 (v := 39) hi_175_105 rfl ?_
        refine am_e0 hi_175_106 ?_
        refine am_e0 hi_175_108 ?_
        refine am_e0 hi_175_109 ?_
        refine am_e2 (v := 39) hi_175_110 rfl ?_
        refine mm_20 (v := .int (f1 0)) hS139 hi_175_111 rfl ?_
        refine am_e32n (as := [.ref 39, .int 45, .int 0, .int 0, .int (f1 0)]) (la := [some (.ref 39), some (.int 45), some (.int 0), some (.int 0), some (.int (f1 0))]) (rest := []) hi_175_114 (am_hd0 (M := 175) (by decide) 114) (Nat.le_of_ble_eq_true rfl) (Nat.le_of_ble_eq_true rfl) (show 5 ≤ am_P0.2.2.1 189 from by decide +kernel) rfl (am_recv_ok hS139.fs) rfl rfl (ct_put (d := (d + 8)) hS139 hR143  (by show (0 : Int) ≤ (f1 32).toInt; omega) (by show (f1 32).toInt ≤ (63 : Int); omega) (by show (f1 53).toInt ≤ (4096 : Int); omega) (by show (0 : Int) ≤ (f1 68).toInt; omega) (by show (f1 68).toInt ≤ (65534 : Int); omega)) ?_
        rintro v154 S155 (⟨z156, r157, g'158, hv159, hS160, hR164, h161, h162, h163⟩)
        subst hv159
        have h161_ : z156.toInt = (f1 68).toInt + 1 := h161
        have h162_ : r157.toInt = (f1 68).toInt := h162
        have h163_ : ∀ j, j ∉ [60, 69, 70, 71, 72, 73] → g'158 j = g1 j := h163
        have hR164_ : RJ (upd (upd (upd (upd f1 6 a136) 7 b137) 10 0) 68 z156) g'158 [] bc1 [] 0 ((f1 68).toNatClampNeg :: []) := hR164
        show am_E _ _ _ _ [some (.ref 39), none] [.int r157] _ _
        refine am_e6i hi_175_117 ?_
        refine am_e2 (v := 39) hi_175_118 rfl ?_
        refine am_e32n (as := [.ref 39]) (la := [some (.ref 39), none]) (rest := []) hi_175_119 (am_hd0 (M := 175) (by decide) 119) (Nat.le_of_ble_eq_true rfl) (Nat.le_of_ble_eq_true rfl) (show 1 ≤ am_P0.2.2.1 223 from by decide +kernel) rfl (am_recv_ok hS160.fs) rfl rfl (ct_lostGotos (d := (d + 7)) hS160 hR164_  (by show (0 : Int) ≤ (f1 32).toInt; omega) (by show (f1 32).toInt ≤ (63 : Int); omega) (by show (0 : Int) ≤ (f1 48).toInt; omega) (by show (f1 48).toInt ≤ (8192 : Int); omega) (by show (f1 4).toInt ≤ (8192 : Int); omega) (by show (0 : Int) ≤ (f1 8).toInt; omega)) ?_
        rintro v165 S166 (⟨a167, b168, z169, hv170, hS171, hR175, h172, h173, h174⟩)
        subst hv170
        have h172_ : (0 : Int) ≤ z169.toInt := h172
        have h173_ : z169.toInt ≤ (f1 4).toInt := h173
        have h174_ : (0 : Int) ≤ a167.toInt := h174
        replace hS171 : MS S0 S166 (upd (upd (upd (upd (upd (upd (upd f1 6 a136) 7 b137) 8 a167) 9 b168) 10 0) 48 z169) 68 z156) g'158 := hS171
        have hR175_ : RJ (upd (upd (upd (upd (upd (upd (upd f1 6 a136) 7 b137) 8 a167) 9 b168) 10 0) 48 z169) 68 z156) g'158 [] bc1 [] 0 ((f1 68).toNatClampNeg :: []) := hR175
        show am_E _ _ _ _ [some (.ref 39), none] [] _ _
        refine am_e2 (v := 39) hi_175_122 rfl ?_
        refine mm_20 (v := .int a136) hS171 hi_175_123 rfl ?_
        refine am_e12t hi_175_126 (am_cT (m := a136.toInt) (n := (0 : Int)) rfl (by decide) (by simp only [am_cI]; omega)) ?_
        refine am_e2 (v := 39) hi_175_136 rfl ?_
        refine mm_20 (v := .int a167) hS171 hi_175_137 rfl ?_
        refine am_e3 (ls' := [some (.ref 39), some (.int a167)]) hi_175_140 (Nat.le_of_ble_eq_true rfl) rfl ?_
        refine am_e2 (v := 39) hi_175_141 rfl ?_
        refine am_e2 (v := 39) hi_175_142 rfl ?_
        refine mm_20 (v := .int a136) hS171 hi_175_143 rfl ?_
        refine am_e12t hi_175_146 (am_cT (m := a136.toInt) (n := (0 : Int)) rfl (by decide) (by simp only [am_cI]; omega)) ?_
        refine am_e2 (v := 39) hi_175_156 rfl ?_
        refine mm_20 (v := .int a167) hS171 hi_175_157 rfl ?_
        by_cases c176 : a167.toInt ≤ (0 : Int)
        · refine am_e12t hi_175_160 (am_cT (m := a167.toInt) (n := (0 : Int)) rfl (by decide) c176) ?_
          refine am_e2 (v := 39) hi_175_170 rfl ?_
          refine mm_20 (v := .int (f1 0)) hS171 hi_175_171 rfl ?_
          refine mm_21 (v := f1 0) hS171 hi_175_174 rfl (Nat.le_of_ble_eq_true rfl) ms_3 ?_
          intro S177 hS178
          replace hS178 : MS S0 S177 (upd (upd (upd (upd (upd (upd (upd (upd f1 3 (f1 0)) 6 a136) 7 b137) 8 a167) 9 b168) 10 0) 48 z169) 68 z156) g'158 := hS178
          refine am_e2 (v := 39) hi_175_177 rfl ?_
          refine mm_20 (v := .ref 78) hS178 hi_175_178 rfl ?_
          refine am_e0 hi_175_181 ?_
          refine am_e2 (v := 39) hi_175_182 rfl ?_
          refine mm_20 (v := .int (f1 0)) hS178 hi_175_183 rfl ?_
          refine mm_26 hS178 ma_57 hi_175_186 (by decide) (by decide) (by decide) (fun h => nomatch h) ?_
          intro S179 hS180
          refine am_e2 (v := 39) hi_175_187 rfl ?_
          refine am_e0 hi_175_188 ?_
          refine mm_21 (v := 0) hS180 hi_175_189 rfl (Nat.le_of_ble_eq_true rfl) ms_0 ?_
          intro S181 hS182
          replace hS182 : MS S0 S181 (upd (upd (upd (upd (upd (upd (upd (upd (upd f1 0 0) 3 (f1 0)) 6 a136) 7 b137) 8 a167) 9 b168) 10 0) 48 z169) 68 z156) (upg g'158 57 0 (f1 0)) := hS182
          refine am_e2 (v := 39) hi_175_192 rfl ?_
          refine am_e1 (v := a167) hi_175_193 rfl ?_
          refine am_e12t hi_175_194 (am_cT (m := a167.toInt) (n := (0 : Int)) rfl (by decide) (by simp only [am_cI]; omega)) ?_
          refine am_e2 (v := 39) hi_175_201 rfl ?_
          refine mm_20 (v := .int (f1 53)) hS182 hi_175_202 rfl ?_
          refine mm_21 (v := f1 53) hS182 hi_175_205 rfl (Nat.le_of_ble_eq_true rfl) ms_53 ?_
          intro S183 hS184
          replace hS184 : MS S0 S183 (upd (upd (upd (upd (upd (upd (upd (upd (upd (upd f1 0 0) 3 (f1 0)) 6 a136) 7 b137) 8 a167) 9 b168) 10 0) 48 z169) 53 (f1 53)) 68 z156) (upg g'158 57 0 (f1 0)) := hS184
          refine am_e1 (v := a167) hi_175_208 rfl ?_
          refine am_e12f hi_175_209 (am_cF (m := a167.toInt) (n := (0 : Int)) rfl (by decide) (by simp only [am_cI]; omega)) ?_
          refine am_e2 (v := 39) hi_175_212 rfl ?_
          refine am_e32n (as := [.ref 39]) (la := [some (.ref 39), none, none]) (rest := []) hi_175_213 (am_hd0 (M := 175) (by decide) 213) (Nat.le_of_ble_eq_true rfl) (Nat.le_of_ble_eq_true rfl) (show 1 ≤ am_P0.2.2.1 266 from by decide +kernel) rfl (am_recv_ok hS184.fs) rfl rfl (ct_sort (d := (d + 8)) hS184  (RJ.o2 hR175_) (by show (0 : Int) ≤ (f1 53).toInt; omega) (by show (f1 53).toInt ≤ (600 : Int); omega) (by show (0 : Int) ≤ z156.toInt; omega) (by show z156.toInt ≤ (65000 : Int); omega)) ?_
          rintro v185 S186 (⟨g'187, hv188, hS189, h190, h191, h192⟩)
          subst hv188
          have h190_ : ∀ j, j ∉ [60, 61, 74] → g'187 j = (upg g'158 57 0 (f1 0)) j := h190
          have h191_ : ∀ x : Nat, (x : Int) < (f1 53).toInt → 0 ≤ (g'187 61 x).toInt ∧ 0 ≤ (g'187 60 x).toInt ∧ (g'187 61 x).toInt + (g'187 60 x).toInt ≤ 65000 := h191
          have h192_ : ∀ x : Nat, (x : Int) < (f1 53).toInt → ∀ j : Nat, (j : Int) < (g'187 60 x).toInt → 0 ≤ (g'187 74 ((g'187 61 x).toInt.toNat + j)).toInt ∧ (g'187 74 ((g'187 61 x).toInt.toNat + j)).toInt < 65536 := h192
          show am_E _ _ _ _ [some (.ref 39), some (.int a167)] [] _ _
          refine am_e1 (v := a167) hi_175_216 rfl ?_
          refine am_e12t hi_175_217 (am_cT (m := a167.toInt) (n := (0 : Int)) rfl (by decide) (by simp only [am_cI]; omega)) ?_
          refine am_e2 (v := 39) hi_175_225 rfl ?_
          refine mm_20 (v := .int (f1 53)) hS189 hi_175_226 rfl ?_
          refine am_e33 hi_175_229 ?_
          exact ⟨_, _, _, rfl, hS189, ri_good (F := (upd (upd (upd (upd (upd (upd (upd (upd (upd (upd f1 0 0) 3 (f1 0)) 6 a136) 7 b137) 8 a167) 9 b168) 10 0) 48 z169) 53 (f1 53)) 68 z156)) (f := (upd (upd (upd (upd (upd (upd (upd f1 6 a136) 7 b137) 8 a167) 9 b168) 10 0) 48 z169) 68 z156)) (g := g'158) hR175_ rfl rfl ⟨(show 0 ≤ (f1 19).toInt from by omega), (show (f1 19).toInt ≤ 600 from by omega)⟩ ⟨(show 0 ≤ (f1 53).toInt from by omega), (show (f1 53).toInt ≤ 600 from by omega)⟩ ⟨(show 0 ≤ (f1 62).toInt from by omega), (show (f1 62).toInt ≤ 65000 from by omega)⟩ (fun j hj => ((show ∀ j, j ∉ [57, 60, 61, 74] → g'187 j = (upg g'158 57 0 (f1 0)) j from fun j hj => h190_ j (fun q => hj (mem_sub (L := [60, 61, 74]) (L' := [57, 60, 61, 74]) (by decide) q))) j hj).trans ((show ∀ j, j ∉ [57, 60, 61, 74] → (upg g'158 57 0 (f1 0)) j = g'158 j from by intro j hj; simp only [List.mem_cons, List.not_mem_nil, or_false, not_or] at hj; simp only [upg, hj, if_false]) j hj)) h191_ h192_, (show (0 : Int32).toInt = 0 from by decide)⟩
        · refine am_e12f hi_175_160 (am_cF (m := a167.toInt) (n := (0 : Int)) rfl (by decide) c176) ?_
          refine am_e2 (v := 39) hi_175_163 rfl ?_
          refine mm_20 (v := .int b168) hS171 hi_175_164 rfl ?_
          refine am_e18 hi_175_167 ?_
          refine mm_21 (v := b168) hS171 hi_175_174 rfl (Nat.le_of_ble_eq_true rfl) ms_3 ?_
          intro S194 hS195
          replace hS195 : MS S0 S194 (upd (upd (upd (upd (upd (upd (upd (upd f1 3 b168) 6 a136) 7 b137) 8 a167) 9 b168) 10 0) 48 z169) 68 z156) g'158 := hS195
          refine am_e2 (v := 39) hi_175_177 rfl ?_
          refine mm_20 (v := .ref 78) hS195 hi_175_178 rfl ?_
          refine am_e0 hi_175_181 ?_
          refine am_e2 (v := 39) hi_175_182 rfl ?_
          refine mm_20 (v := .int (f1 0)) hS195 hi_175_183 rfl ?_
          refine mm_26 hS195 ma_57 hi_175_186 (by decide) (by decide) (by decide) (fun h => nomatch h) ?_
          intro S196 hS197
          refine am_e2 (v := 39) hi_175_187 rfl ?_
          refine am_e0 hi_175_188 ?_
          refine mm_21 (v := 0) hS197 hi_175_189 rfl (Nat.le_of_ble_eq_true rfl) ms_0 ?_
          intro S198 hS199
          replace hS199 : MS S0 S198 (upd (upd (upd (upd (upd (upd (upd (upd (upd f1 0 0) 3 b168) 6 a136) 7 b137) 8 a167) 9 b168) 10 0) 48 z169) 68 z156) (upg g'158 57 0 (f1 0)) := hS199
          refine am_e2 (v := 39) hi_175_192 rfl ?_
          refine am_e1 (v := a167) hi_175_193 rfl ?_
          refine am_e12f hi_175_194 (am_cF (m := a167.toInt) (n := (0 : Int)) rfl (by decide) (by simp only [am_cI]; omega)) ?_
          refine am_e0 hi_175_197 ?_
          refine am_e18 hi_175_198 ?_
          refine mm_21 (v := 0) hS199 hi_175_205 rfl (Nat.le_of_ble_eq_true rfl) ms_53 ?_
          intro S200 hS201
          replace hS201 : MS S0 S200 (upd (upd (upd (upd (upd (upd (upd (upd (upd (upd f1 0 0) 3 b168) 6 a136) 7 b137) 8 a167) 9 b168) 10 0) 48 z169) 53 0) 68 z156) (upg g'158 57 0 (f1 0)) := hS201
          refine am_e1 (v := a167) hi_175_208 rfl ?_
          refine am_e12t hi_175_209 (am_cT (m := a167.toInt) (n := (0 : Int)) rfl (by decide) (by simp only [am_cI]; omega)) ?_
          refine am_e1 (v := a167) hi_175_216 rfl ?_
          refine am_e12f hi_175_217 (am_cF (m := a167.toInt) (n := (0 : Int)) rfl (by decide) (by simp only [am_cI]; omega)) ?_
          refine am_e1 (v := a167) hi_175_220 rfl ?_
          obtain ⟨z202, hz202⟩ : ∃ q__, -a167 = q__ := ⟨_, rfl⟩
          refine am_e11 (z := z202) hi_175_221 hz202 ?_
          refine am_e18 hi_175_222 ?_
          refine am_e33 hi_175_229 ?_
          exact ⟨_, _, _, rfl, hS201, ri_bad (F := (upd (upd (upd (upd (upd (upd (upd (upd (upd (upd f1 0 0) 3 b168) 6 a136) 7 b137) 8 a167) 9 b168) 10 0) 48 z169) 53 0) 68 z156)) (f := (upd (upd (upd (upd (upd (upd (upd f1 6 a136) 7 b137) 8 a167) 9 b168) 10 0) 48 z169) 68 z156)) (g := g'158) hR175_ (show (0 : Int32).toInt = 0 from by decide) ⟨(show 0 ≤ (f1 19).toInt from by omega), (show (f1 19).toInt ≤ 600 from by omega)⟩ ⟨(show 0 ≤ (f1 62).toInt from by omega), (show (f1 62).toInt ≤ 65000 from by omega)⟩ (show ∀ j, j ∉ [57, 60, 61, 74] → (upg g'158 57 0 (f1 0)) j = g'158 j from by intro j hj; simp only [List.mem_cons, List.not_mem_nil, or_false, not_or] at hj; simp only [upg, hj, if_false]), (show (0 : Int32).toInt = 0 from by decide)⟩
