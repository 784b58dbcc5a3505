/-! THE REFERENCE: compile (printed by wip/p2/comp.py) -/
theorem lp_comp0 {sc : Nat × (Nat → Int32)} {d : Nat} {S0 : am_S} {f0 : Nat → Int32} {Q : Option (Option Value) → am_S → Prop} (hx : ∀ (S : am_S) (f : Nat → Int32) (g : Nat → Nat → Int32) (bc : List (List Nat)), MS S0 S f g → mg_off f0 f g bc → am_E (am_PP sc) (d + 9) 175 73 [some (.ref 39), none] [] S Q) {S : am_S} {f : Nat → Int32} {g : Nat → Nat → Int32} {bc : List (List Nat)} (hS : MS S0 S f g) (h : mg_off f0 f g bc) : am_E (am_PP sc) (d + 9) 175 13 [some (.ref 39), none] [] S Q := by
  have ht : (f 10).toInt = 0 := h.1.1.1
  refine am_e2 (v := 39) hi_175_13 rfl ?_
  refine mm_20 (v := .int (f 10)) hS hi_175_14 rfl ?_
  refine am_e12t hi_175_17 (am_cT (m := (f 10).toInt) (n := (0 : Int)) rfl (by decide) (by simp only [am_cI]; omega)) ?_
  exact hx _ _ _ _ hS h
theorem mg_off_tr {f0 f f' : Nat → Int32} {g' : Nat → Nat → Int32} {bc' : List (List Nat)} (h : mg_off f f' g' bc') (h0 : f 0 = f0 0) : mg_off f0 f' g' bc' := by
  obtain ⟨a1, a2, a3, a4, a5⟩ := h
  rw [h0] at a2 a4
  exact ⟨a1, a2, a3, a4, a5⟩
/-- all goals are done -/
theorem mg_done {f : Nat → Int32} {g : Nat → Nat → Int32} {bc : List (List Nat)} (h : BI f g [] bc) : mg_off f f g bc := by
  obtain ⟨h1, h2, h3⟩ := h
  obtain ⟨n0, n1, n2, n3, n4, n5, n6, n7, n8, n9, n10, n11, n12, n13, n14, n15, n16, n17, n18, n19, n20, n21⟩ := h3
  obtain ⟨b1, b2, b3, b4, b5, b6, b7⟩ := h2
  have hk3 := (mj_n_le (a := g 16) (f 15).toNatClampNeg 3).1
  have q4 : mg_p4 [] = 0 := rfl
  exact ⟨h1, rfl, by omega, by omega, by omega, by omega, by omega, by omega, by omega, by omega, by omega, by omega, by omega, by omega, by omega, by omega, by omega, by omega, by omega, by omega⟩
theorem lp_comp {sc : Nat × (Nat → Int32)} {d : Nat} {S0 : am_S} {f0 : Nat → Int32} {Q : Option (Option Value) → am_S → Prop} (hx : ∀ (S : am_S) (f : Nat → Int32) (g : Nat → Nat → Int32) (bc : List (List Nat)), MS S0 S f g → mg_off f0 f g bc → am_E (am_PP sc) (d + 9) 175 73 [some (.ref 39), none] [] S Q) : ∀ (N : Nat) (S : am_S) (f : Nat → Int32) (g : Nat → Nat → Int32) (gs : List mg_E) (bc : List (List Nat)), MS S0 S f g → BI f g gs bc → f 0 = f0 0 → 100 * ((f 0).toInt - (f 4).toInt) + mg_p3 gs < (N : Int) → am_E (am_PP sc) (d + 9) 175 13 [some (.ref 39), none] [] S Q := by
  intro N
  induction N with
  | zero =>
    intro S f g gs bc hS hB h0 hN
    exfalso
    have h1 := mg_p3_len gs
    have h2 := hB.2.2.2.1
    omega
  | succ N ih =>
    intro S f g gs bc hS hB h0 hN
    cases gs with
    | nil => exact lp_comp0 hx hS (mg_off_tr (mg_done hB) h0)
    | cons e gs =>
      have ht := hB.1.1.1
      rw [List.length_cons] at ht
      have hp := mg_p3_len (e :: gs)
      rw [List.length_cons] at hp
      have hn7 := hB.2.2.2.2.2.2.2.2.2.1
      have hn1 := hB.2.2.2.1
      have hn2 := hB.2.2.2.2.1
      refine am_e2 (v := 39) hi_175_13 rfl ?_
      refine mm_20 (v := .int (f 10)) hS hi_175_14 rfl ?_
      refine am_e12f hi_175_17 (am_cF (m := (f 10).toInt) (n := (0 : Int)) rfl (by decide) (by simp only [am_cI]; omega)) ?_
      refine am_e2 (v := 39) hi_175_20 rfl ?_
      refine am_e7 hi_175_21 ?_
      refine mm_20 (v := .int (f 10)) hS hi_175_22 rfl ?_
      refine am_e0 hi_175_25 ?_
      obtain ⟨z0, hz0, tz0⟩ := am_subI (x := f 10) (y := 1) (m := (f 10).toInt) (n := (1 : Int)) rfl (by decide) (by omega) (by omega)
      refine am_e10 (z := z0) hi_175_26 hz0 ?_
      refine mm_21 (v := z0) hS hi_175_27 rfl (Nat.le_of_ble_eq_true rfl) ms_10 ?_
      intro S1 hS2
      refine am_e2 (v := 39) hi_175_30 rfl ?_
      refine am_e2 (v := 39) hi_175_31 rfl ?_
      refine mm_20 (v := .ref 42) hS2 hi_175_32 rfl ?_
      refine am_e2 (v := 39) hi_175_35 rfl ?_
      refine mm_20 (v := .int z0) hS2 hi_175_36 rfl ?_
      refine mm_25 hS2 ma_11 hi_175_39 (by decide) (by omega) (by omega) ?_
      show am_E _ _ _ _ [some (.ref 39), none] [.int (g 11 z0.toNatClampNeg), .ref 39] _ _
      refine am_e2 (v := 39) hi_175_40 rfl ?_
      refine mm_20 (v := .ref 43) hS2 hi_175_41 rfl ?_
      refine am_e2 (v := 39) hi_175_44 rfl ?_
      refine mm_20 (v := .int z0) hS2 hi_175_45 rfl ?_
      refine mm_25 hS2 ma_12 hi_175_48 (by decide) (by omega) (by omega) ?_
      show am_E _ _ _ _ [some (.ref 39), none] [.int (g 12 z0.toNatClampNeg), .int (g 11 z0.toNatClampNeg), .ref 39] _ _
      refine am_e2 (v := 39) hi_175_49 rfl ?_
      refine mm_20 (v := .ref 44) hS2 hi_175_50 rfl ?_
      refine am_e2 (v := 39) hi_175_53 rfl ?_
      refine mm_20 (v := .int z0) hS2 hi_175_54 rfl ?_
      refine mm_25 hS2 ma_13 hi_175_57 (by decide) (by omega) (by omega) ?_
      show am_E _ _ _ _ [some (.ref 39), none] [.int (g 13 z0.toNatClampNeg), .int (g 12 z0.toNatClampNeg), .int (g 11 z0.toNatClampNeg), .ref 39] _ _
      refine am_e2 (v := 39) hi_175_58 rfl ?_
      refine mm_20 (v := .ref 45) hS2 hi_175_59 rfl ?_
      refine am_e2 (v := 39) hi_175_62 rfl ?_
      refine mm_20 (v := .int z0) hS2 hi_175_63 rfl ?_
      refine mm_25 hS2 ma_14 hi_175_66 (by decide) (by omega) (by omega) ?_
      show am_E _ _ _ _ [some (.ref 39), none] [.int (g 14 z0.toNatClampNeg), .int (g 13 z0.toNatClampNeg), .int (g 12 z0.toNatClampNeg), .int (g 11 z0.toNatClampNeg), .ref 39] _ _
      refine am_e32n (as := [.ref 39, .int (g 11 z0.toNatClampNeg), .int (g 12 z0.toNatClampNeg), .int (g 13 z0.toNatClampNeg), .int (g 14 z0.toNatClampNeg)]) (la := [some (.ref 39), some (.int (g 11 z0.toNatClampNeg)), some (.int (g 12 z0.toNatClampNeg)), some (.int (g 13 z0.toNatClampNeg)), some (.int (g 14 z0.toNatClampNeg))]) (rest := []) hi_175_67 (am_hd0 (M := 175) (by decide) 67) (Nat.le_of_ble_eq_true rfl) (Nat.le_of_ble_eq_true rfl) (show 5 ≤ am_P0.2.2.1 180 from by decide +kernel) rfl (am_recv_ok hS2.fs) rfl rfl (st_any (d := d) (f := f) (z := z0) hS2 hB (by omega) (rj_top hB.1 (by omega)).1 (rj_top hB.1 (by omega)).2.1 (rj_top hB.1 (by omega)).2.2.1 (rj_top hB.1 (by omega)).2.2.2) ?_
      rintro v S1 ⟨f', g', gs', bc', rfl, hS', h | h⟩
      · show am_E _ _ _ _ [some (.ref 39), none] [] _ _
        refine am_e18 hi_175_70 ?_
        exact ih S1 f' g' gs' bc' hS' h.1 (h.2.1.trans h0) (by have h2 := h.2.2; have h1 := h.2.1; have h3 : (f' 0).toInt = (f 0).toInt := by rw [h1]; rfl
        have h4 : 100 * ((f 0).toInt - (f' 4).toInt) + mg_p3 gs' < 100 * ((f 0).toInt - (f 4).toInt) + mg_p3 (e :: gs) := h2
        rw [h3]; omega)
      · show am_E _ _ _ _ [some (.ref 39), none] [] _ _
        refine am_e18 hi_175_70 ?_
        refine lp_comp0 hx hS' (mg_off_tr h h0)
set_option maxHeartbeats 16000000 in
theorem ct_compile {sc : Nat × (Nat → Int32)} {d : Nat} {S0 S : am_S} {f : Nat → Int32} {g : Nat → Nat → Int32} (hS : MS S0 S f g) (hI : RI f g) (p0 : 0 ≤ (f 0).toInt) (p1 : (f 0).toInt ≤ 512) : am_E (am_PP sc) (d + 9) 175 0 [some (.ref 39), none] [] S (am_N fun v S1 => ∃ (r : Int32) (f' : Nat → Int32) (g' : Nat → Nat → Int32), v = some (.int r) ∧ MS S0 S1 f' g' ∧ RI f' g' ∧ (f' 0).toInt = 0) := by
  obtain ⟨hI1, hI2, hI3, hI4⟩ := hI
  refine am_e2 (v := 39) hi_175_0 rfl ?_
  refine am_e32w (as := [.ref 39]) (la := [some (.ref 39)]) (rest := []) hi_175_1 (am_hd0 (M := 175) (by decide) 1) (Nat.le_of_ble_eq_true rfl) (Nat.le_of_ble_eq_true rfl) (show 1 ≤ am_P0.2.2.1 176 from by decide +kernel) rfl (am_recv_ok hS.fs) rfl rfl ?_
  refine am_e2 (v := 39) hi_176_0 rfl ?_
  refine am_e0 hi_176_1 ?_
  refine mm_21 (v := 0) hS hi_176_2 rfl (Nat.le_of_ble_eq_true rfl) ms_4 ?_
  intro S0 hS1
  refine am_e2 (v := 39) hi_176_5 rfl ?_
  refine am_e0 hi_176_6 ?_
  refine mm_21 (v := 0) hS1 hi_176_7 rfl (Nat.le_of_ble_eq_true rfl) ms_5 ?_
  intro S2 hS3
  refine am_e2 (v := 39) hi_176_10 rfl ?_
  refine am_e0 hi_176_11 ?_
  refine mm_21 (v := 0) hS3 hi_176_12 rfl (Nat.le_of_ble_eq_true rfl) ms_6 ?_
  intro S4 hS5
  refine am_e2 (v := 39) hi_176_15 rfl ?_
  refine am_e0 hi_176_16 ?_
  refine mm_21 (v := 0) hS5 hi_176_17 rfl (Nat.le_of_ble_eq_true rfl) ms_8 ?_
  intro S6 hS7
  refine am_e2 (v := 39) hi_176_20 rfl ?_
  refine am_e0 hi_176_21 ?_
  refine mm_21 (v := 0) hS7 hi_176_22 rfl (Nat.le_of_ble_eq_true rfl) ms_10 ?_
  intro S8 hS9
  refine am_e2 (v := 39) hi_176_25 rfl ?_
  refine am_e0 hi_176_26 ?_
  refine mm_21 (v := 0) hS9 hi_176_27 rfl (Nat.le_of_ble_eq_true rfl) ms_15 ?_
  intro S10 hS11
  have hp12 : mj_n (g 16) (f 15).toNatClampNeg 3 = mj_n (g 16) 0.toNatClampNeg 3 + if (g 16 0.toNatClampNeg).toInt = 3 then 1 else 0 := mj_pop (by rw [cl_toNat, cl_toNat]; omega)
  have hp121 : mj_n (g 16) 0.toNatClampNeg 3 ≤ mj_n (g 16) (f 15).toNatClampNeg 3 := by rw [hp12]; split <;> omega
  have hp122 : (g 16 0.toNatClampNeg).toInt = 3 → mj_n (g 16) 0.toNatClampNeg 3 + 1 ≤ mj_n (g 16) (f 15).toNatClampNeg 3 := fun q => by rw [hp12, if_pos q]; exact Int.le_refl _
  refine am_e2 (v := 39) hi_176_30 rfl ?_
  refine am_e0 hi_176_31 ?_
  refine mm_21 (v := 0) hS11 hi_176_32 rfl (Nat.le_of_ble_eq_true rfl) ms_20 ?_
  intro S13 hS14
  refine am_e2 (v := 39) hi_176_35 rfl ?_
  refine am_e0 hi_176_36 ?_
  refine mm_21 (v := 0) hS14 hi_176_37 rfl (Nat.le_of_ble_eq_true rfl) ms_24 ?_
  intro S15 hS16
  refine am_e2 (v := 39) hi_176_40 rfl ?_
  refine am_e0 hi_176_41 ?_
  refine mm_21 (v := 0) hS16 hi_176_42 rfl (Nat.le_of_ble_eq_true rfl) ms_31 ?_
  intro S17 hS18
  refine am_e2 (v := 39) hi_176_45 rfl ?_
  refine am_e0 hi_176_46 ?_
  refine mm_21 (v := 0) hS18 hi_176_47 rfl (Nat.le_of_ble_eq_true rfl) ms_32 ?_
  intro S19 hS20
  refine am_e2 (v := 39) hi_176_50 rfl ?_
  refine mm_20 (v := .ref 58) hS20 hi_176_51 rfl ?_
  refine am_e0 hi_176_54 ?_
  refine am_e0 hi_176_55 ?_
  refine mm_26 hS20 ma_33 hi_176_56 (by decide) (by decide) (by decide) (fun h => nomatch h) ?_
  intro S21 hS22
  refine am_e2 (v := 39) hi_176_57 rfl ?_
  refine mm_20 (v := .ref 59) hS22 hi_176_58 rfl ?_
  refine am_e0 hi_176_61 ?_
  refine am_e0 hi_176_62 ?_
  refine mm_26 hS22 ma_34 hi_176_63 (by decide) (by decide) (by decide) (fun h => nomatch h) ?_
  intro S23 hS24
  refine am_e2 (v := 39) hi_176_64 rfl ?_
  refine mm_20 (v := .ref 60) hS24 hi_176_65 rfl ?_
  refine am_e0 hi_176_68 ?_
  refine am_e0 hi_176_69 ?_
  refine mm_26 hS24 ma_35 hi_176_70 (by decide) (by decide) (by decide) (fun h => nomatch h) ?_
  intro S25 hS26
  refine am_e2 (v := 39) hi_176_71 rfl ?_
  refine mm_20 (v := .ref 61) hS26 hi_176_72 rfl ?_
  refine am_e0 hi_176_75 ?_
  refine am_e0 hi_176_76 ?_
  refine mm_26 hS26 ma_36 hi_176_77 (by decide) (by decide) (by decide) (fun h => nomatch h) ?_
  intro S27 hS28
  refine am_e2 (v := 39) hi_176_78 rfl ?_
  refine am_e0 hi_176_79 ?_
  refine mm_21 (v := 0) hS28 hi_176_80 rfl (Nat.le_of_ble_eq_true rfl) ms_37 ?_
  intro S29 hS30
  refine am_e2 (v := 39) hi_176_83 rfl ?_
  refine am_e0 hi_176_84 ?_
  refine mm_21 (v := 0) hS30 hi_176_85 rfl (Nat.le_of_ble_eq_true rfl) ms_44 ?_
  intro S31 hS32
  refine am_e2 (v := 39) hi_176_88 rfl ?_
  refine am_e0 hi_176_89 ?_
  refine mm_21 (v := 0) hS32 hi_176_90 rfl (Nat.le_of_ble_eq_true rfl) ms_48 ?_
  intro S33 hS34
  refine am_e2 (v := 39) hi_176_93 rfl ?_
  refine am_e0 hi_176_94 ?_
  refine mm_21 (v := 1) hS34 hi_176_95 rfl (Nat.le_of_ble_eq_true rfl) ms_53 ?_
  intro S35 hS36
  refine am_e2 (v := 39) hi_176_98 rfl ?_
  refine mm_20 (v := .ref 75) hS36 hi_176_99 rfl ?_
  refine am_e0 hi_176_102 ?_
  refine am_e0 hi_176_103 ?_
  refine mm_26 hS36 ma_54 hi_176_104 (by decide) (by decide) (by decide) (fun h => nomatch h) ?_
  intro S37 hS38
  refine am_e2 (v := 39) hi_176_105 rfl ?_
  refine mm_20 (v := .ref 80) hS38 hi_176_106 rfl ?_
  refine am_e0 hi_176_109 ?_
  refine am_e0 hi_176_110 ?_
  refine mm_26 hS38 ma_59 hi_176_111 (by decide) (by decide) (by decide) (fun h => nomatch h) ?_
  intro S39 hS40
  refine am_e2 (v := 39) hi_176_112 rfl ?_
  refine mm_20 (v := .ref 76) hS40 hi_176_113 rfl ?_
  refine am_e0 hi_176_116 ?_
  refine am_e0 hi_176_117 ?_
  refine mm_26 hS40 ma_55 hi_176_118 (by decide) (by decide) (by decide) (fun h => nomatch h) ?_
  intro S41 hS42
  refine am_e2 (v := 39) hi_176_119 rfl ?_
  refine mm_20 (v := .ref 77) hS42 hi_176_120 rfl ?_
  refine am_e0 hi_176_123 ?_
  refine am_e0 hi_176_124 ?_
  refine mm_26 hS42 ma_56 hi_176_125 (by decide) (by decide) (by decide) (fun h => nomatch h) ?_
  intro S43 hS44
  refine am_e2 (v := 39) hi_176_126 rfl ?_
  refine mm_20 (v := .ref 79) hS44 hi_176_127 rfl ?_
  refine am_e0 hi_176_130 ?_
  refine am_e0 hi_176_131 ?_
  refine mm_26 hS44 ma_58 hi_176_132 (by decide) (by decide) (by decide) (fun h => nomatch h) ?_
  intro S45 hS46
  refine am_e2 (v := 39) hi_176_133 rfl ?_
  refine mm_20 (v := .ref 81) hS46 hi_176_134 rfl ?_
  refine am_e0 hi_176_137 ?_
  refine am_e0 hi_176_138 ?_
  refine mm_26 hS46 ma_60 hi_176_139 (by decide) (by decide) (by decide) (fun h => nomatch h) ?_
  intro S47 hS48
  refine am_e2 (v := 39) hi_176_140 rfl ?_
  refine mm_20 (v := .ref 87) hS48 hi_176_141 rfl ?_
  refine am_e0 hi_176_144 ?_
  refine am_e0 hi_176_145 ?_
  refine mm_26 hS48 ma_67 hi_176_146 (by decide) (by decide) (by decide) (fun h => nomatch h) ?_
  intro S49 hS50
  refine am_e2 (v := 39) hi_176_147 rfl ?_
  refine am_e0 hi_176_148 ?_
  refine mm_21 (v := 0) hS50 hi_176_149 rfl (Nat.le_of_ble_eq_true rfl) ms_62 ?_
  intro S51 hS52
  refine am_e2 (v := 39) hi_176_152 rfl ?_
  refine am_e0 hi_176_153 ?_
  refine mm_21 (v := 0) hS52 hi_176_154 rfl (Nat.le_of_ble_eq_true rfl) ms_68 ?_
  intro S53 hS54
  have hR55 : RJ (upd (upd (upd (upd (upd (upd (upd (upd (upd (upd (upd (upd (upd (upd (upd (upd f 4 0) 5 0) 6 0) 8 0) 10 0) 15 0) 20 0) 24 0) 31 0) 32 0) 37 0) 44 0) 48 0) 53 1) 62 0) 68 0) (upg (upg (upg (upg (upg (upg (upg (upg (upg (upg (upg g 33 0 0) 34 0 0) 35 0 0) 36 0 0) 54 0 (-1)) 59 0 (-1)) 55 0 0) 56 0 1) 58 0 0) 60 0 0) 67 0 0) [] [] [] 0 [] := rj_zero hI1 (mj_U_zero hI2) (show (0 : Int32).toInt = 0 from by decide) (show (0 : Int32).toInt = 0 from by decide) (show (1 : Int32).toInt = 1 from by decide) (show (0 : Int32).toInt = 0 from by decide) (show (0 : Int32).toInt = 0 from by decide) (show (0 : Int32).toInt = 0 from by decide) (show (0 : Int32).toInt = 0 from by decide) (show (0 : Int32).toInt = 0 from by decide) (show (0 : Int32).toInt = 0 from by decide) (show (0 : Int32).toInt = 0 from by decide) (show (0 : Int32).toInt = 0 from by decide) (show (0 : Int32).toInt = 0 from by decide)
  refine am_e35 hi_176_157 ?_
  show am_E _ _ _ _ [some (.ref 39), none] [] _ _
  refine am_e2 (v := 39) hi_175_4 rfl ?_
  refine am_e0 hi_175_5 ?_
  refine am_e32n (as := [.ref 39, .int 0]) (la := [some (.ref 39), some (.int 0)]) (rest := []) hi_175_6 (am_hd0 (M := 175) (by decide) 6) (Nat.le_of_ble_eq_true rfl) (Nat.le_of_ble_eq_true rfl) (show 2 ≤ am_P0.2.2.1 177 from by decide +kernel) rfl (am_recv_ok hS54.fs) rfl rfl (ct_beginBlock2 (d := (d + 8)) hS54 hR55 (by decide)  (by show (0 : Int) ≤ (0 : Int); omega) (by show (0 : Int) ≤ (127 : Int); omega) (by show (0 : Int) ≤ (0 : Int); omega) (by show (0 : Int) ≤ (0 : Int); omega) (by show (0 : Int) ≤ (0 : Int); omega) (by show (0 : Int) ≤ (0 : Int); omega)) ?_
  rintro v56 S57 (⟨z58, g'59, hv60, hS61, hR65, h62, h63, h64⟩)
  subst hv60
  have h62_ : z58.toInt = (0 : Int) + 1 := h62
  have h63_ : ∀ j, j ∉ [38, 39, 40, 41, 42, 43] → g'59 j = (upg (upg (upg (upg (upg (upg (upg (upg (upg (upg (upg g 33 0 0) 34 0 0) 35 0 0) 36 0 0) 54 0 (-1)) 59 0 (-1)) 55 0 0) 56 0 1) 58 0 0) 60 0 0) 67 0 0) j := h63
  have h64_ : g'59 38 = upd ((upg (upg (upg (upg (upg (upg (upg (upg (upg (upg (upg g 33 0 0) 34 0 0) 35 0 0) 36 0 0) 54 0 (-1)) 59 0 (-1)) 55 0 0) 56 0 1) 58 0 0) 60 0 0) 67 0 0) 38) 0.toNatClampNeg 0 := h64
  replace hS61 : MS S0 S57 (upd (upd (upd (upd (upd (upd (upd (upd (upd (upd (upd (upd (upd (upd (upd (upd f 4 0) 5 0) 6 0) 8 0) 10 0) 15 0) 20 0) 24 0) 31 0) 32 0) 37 z58) 44 0) 48 0) 53 1) 62 0) 68 0) g'59 := hS61
  have hR65_ : RJ (upd (upd (upd (upd (upd (upd (upd (upd (upd (upd (upd (upd (upd (upd (upd (upd f 4 0) 5 0) 6 0) 8 0) 10 0) 15 0) 20 0) 24 0) 31 0) 32 0) 37 z58) 44 0) 48 0) 53 1) 62 0) 68 0) g'59 [] ([] :: []) [] 0 [] := hR65
  show am_E _ _ _ _ [some (.ref 39), none] [] _ _
  refine am_e2 (v := 39) hi_175_9 rfl ?_
  refine am_e32w (as := [.ref 39]) (la := [some (.ref 39)]) (rest := []) hi_175_10 (am_hd0 (M := 175) (by decide) 10) (Nat.le_of_ble_eq_true rfl) (Nat.le_of_ble_eq_true rfl) (show 1 ≤ am_P0.2.2.1 178 from by decide +kernel) rfl (am_recv_ok hS61.fs) rfl rfl ?_
  refine am_e2 (v := 39) hi_178_0 rfl ?_
  refine am_e0 hi_178_1 ?_
  refine am_e0 hi_178_2 ?_
  refine am_e0 hi_178_3 ?_
  refine am_e0 hi_178_4 ?_
  refine am_e32n (as := [.ref 39, .int 1, .int 0, .int 0, .int 0]) (la := [some (.ref 39), some (.int 1), some (.int 0), some (.int 0), some (.int 0)]) (rest := []) hi_178_5 (am_hd0 (M := 178) (by decide) 5) (Nat.le_of_ble_eq_true rfl) (Nat.le_of_ble_eq_true rfl) (show 5 ≤ am_P0.2.2.1 179 from by decide +kernel) rfl (am_recv_ok hS61.fs) rfl rfl (ct_pile (d := (d + 7)) hS61 hR65_ (mj_e_plain (by decide)) (by show (0 : Int) ≤ (0 : Int); omega) (by show (0 : Int) ≤ (65535 : Int); omega)) ?_
  rintro v66 S67 (⟨z68, g'69, hv70, hS71, hR74, h72, h73⟩)
  subst hv70
  have h72_ : z68.toInt = (0 : Int) + 1 := h72
  have h73_ : ∀ j, j ∉ [11, 12, 13, 14] → g'69 j = g'59 j := h73
  replace hS71 : MS S0 S67 (upd (upd (upd (upd (upd (upd (upd (upd (upd (upd (upd (upd (upd (upd (upd (upd f 4 0) 5 0) 6 0) 8 0) 10 z68) 15 0) 20 0) 24 0) 31 0) 32 0) 37 z58) 44 0) 48 0) 53 1) 62 0) 68 0) g'69 := hS71
  have hR74_ : RJ (upd (upd (upd (upd (upd (upd (upd (upd (upd (upd (upd (upd (upd (upd (upd (upd f 4 0) 5 0) 6 0) 8 0) 10 z68) 15 0) 20 0) 24 0) 31 0) 32 0) 37 z58) 44 0) 48 0) 53 1) 62 0) 68 0) g'69 (((1 : Int), (0 : Int), (0 : Int), (0 : Int), []) :: []) ([] :: []) [] 0 [] := hR74
  show am_E _ _ _ _ [some (.ref 39)] [] _ _
  refine am_e35 hi_178_8 ?_
  show am_E _ _ _ _ [some (.ref 39), none] [] _ _
  have q1 : mg_p1 (((1 : Int), (0 : Int), (0 : Int), (0 : Int), []) :: []) = 0 := rfl
  have q2 : mg_p2 (((1 : Int), (0 : Int), (0 : Int), (0 : Int), []) :: []) = 0 := rfl
  have q3 : mg_p3 (((1 : Int), (0 : Int), (0 : Int), (0 : Int), []) :: []) = 1 := rfl
  have q4 : mg_p4 (((1 : Int), (0 : Int), (0 : Int), (0 : Int), []) :: []) = 0 := rfl
  have hB : BI (upd (upd (upd (upd (upd (upd (upd (upd (upd (upd (upd (upd (upd (upd (upd (upd f 4 0) 5 0) 6 0) 8 0) 10 z68) 15 0) 20 0) 24 0) 31 0) 32 0) 37 z58) 44 0) 48 0) 53 1) 62 0) 68 0) g'69 (((1 : Int), (0 : Int), (0 : Int), (0 : Int), []) :: []) ([] :: []) := ⟨hR74_, ⟨⟨(show mg_k 1 from by decide), (show (0 : Int) ≤ (0 : Int) from by omega), (show 0 ≤ (0 : Int) from by omega), (show 1 ≤ z58.toInt from by omega), (show 0 ≤ (0 : Int) from by omega), (show (0 : Int) ≤ (0 : Int) from by omega), (show (0 : Int) ≤ 48 from by omega), (show z58.toInt ≤ 2 * (0 : Int) + 1 from by omega), trivial⟩, (show 0 ≤ (0 : Int) + 0 ∧ 0 ≤ (0 : Int) ∧ 1 ≤ z58.toInt + 0 ∧ 0 ≤ (0 : Int) + 0 ∧ (0 : Int) + 0 ≤ (0 : Int) + 0 ∧ (0 : Int) + 0 ≤ 48 ∧ z58.toInt + 0 ≤ 2 * ((0 : Int) + 0) + 2 from by omega)⟩, (by show 0 ≤ (0 : Int); omega), (by show (0 : Int) ≤ (f 0).toInt; omega), (by show (f 0).toInt ≤ 512; omega), (by show 0 ≤ (0 : Int); omega), (by show (0 : Int) + (0 : Int) + mg_p1 (((1 : Int), (0 : Int), (0 : Int), (0 : Int), []) :: []) ≤ 4 * (0 : Int); omega), (by show (0 : Int) ≤ (0 : Int); omega), (by show (0 : Int) + mg_p2 (((1 : Int), (0 : Int), (0 : Int), (0 : Int), []) :: []) ≤ (0 : Int); omega), (by show mg_p3 (((1 : Int), (0 : Int), (0 : Int), (0 : Int), []) :: []) ≤ 20 * (0 : Int) + 20; omega), (by show 0 ≤ (0 : Int); omega), (by show (0 : Int) + 3 * (0 : Int) + mg_p4 (((1 : Int), (0 : Int), (0 : Int), (0 : Int), []) :: []) ≤ 60 * (0 : Int) + 60; omega), (by show 0 ≤ (0 : Int); omega), (by show (0 : Int) + 64 * (0 : Int) ≤ 64 * (0 : Int); omega), (by show 0 ≤ (0 : Int); omega), (by show (0 : Int) ≤ (0 : Int); omega), (by show 0 ≤ (0 : Int); omega), (by show (0 : Int) ≤ (0 : Int); omega), (by show 1 ≤ (1 : Int); omega), (by show (1 : Int) ≤ (0 : Int) + 1; omega), (by show 0 ≤ (f 19).toInt; omega), (by show (f 19).toInt ≤ 600; omega), (by show 0 ≤ (0 : Int); omega), (by show 0 ≤ (0 : Int); omega)⟩
  refine lp_comp (d := d) (f0 := (upd (upd (upd (upd (upd (upd (upd (upd (upd (upd (upd (upd (upd (upd (upd (upd f 4 0) 5 0) 6 0) 8 0) 10 z68) 15 0) 20 0) 24 0) 31 0) 32 0) 37 z58) 44 0) 48 0) 53 1) 62 0) 68 0)) ?_ ((100 * ((f 0).toInt - (0 : Int)) + mg_p3 (((1 : Int), (0 : Int), (0 : Int), (0 : Int), []) :: [])).toNat + 1) _ _ _ _ _ hS71 hB rfl (by show 100 * ((f 0).toInt - (0 : Int)) + mg_p3 (((1 : Int), (0 : Int), (0 : Int), (0 : Int), []) :: []) < _; omega)
  intro S1 f1 g1 bc1 hS1 hoff
  obtain ⟨hR1, o0, o1, o2, o3, o4, o5, o6, o7, o8, o9, o10, o11, o12, o13, o14, o15, o16, o17, o18⟩ := hoff
  have o0_ : (f1 0).toInt = (f 0).toInt := by rw [o0]; rfl
  have o2_ : (f1 4).toInt ≤ (f 0).toInt := o2
  refine am_e2 (v := 39) hi_175_73 rfl ?_
  refine mm_20 (v := .int (f1 6)) hS1 hi_175_74 rfl ?_
  by_cases c75 : ¬ (f1 6).toInt = (0 : Int)
  · refine am_e12t hi_175_77 (am_cT (m := (f1 6).toInt) (n := (0 : Int)) rfl (by decide) c75) ?_
    refine am_e2 (v := 39) hi_175_98 rfl ?_
    refine mm_20 (v := .int (f1 6)) hS1 hi_175_99 rfl ?_
    refine am_e12t hi_175_102 (am_cT (m := (f1 6).toInt) (n := (0 : Int)) rfl (by decide) (by simp only [am_cI]; omega)) ?_
    refine am_e2 (v := 39) hi_175_122 rfl ?_
    refine mm_20 (v := .int (f1 6)) hS1 hi_175_123 rfl ?_
    refine am_e12f hi_175_126 (am_cF (m := (f1 6).toInt) (n := (0 : Int)) rfl (by decide) (by simp only [am_cI]; omega)) ?_
    refine am_e2 (v := 39) hi_175_129 rfl ?_
    refine mm_20 (v := .int (f1 6)) hS1 hi_175_130 rfl ?_
    refine am_e18 hi_175_133 ?_
    refine am_e3 (ls' := [some (.ref 39), some (.int (f1 6))]) hi_175_140 (Nat.le_of_ble_eq_true rfl) rfl ?_
    refine am_e2 (v := 39) hi_175_141 rfl ?_
    refine am_e2 (v := 39) hi_175_142 rfl ?_
    refine mm_20 (v := .int (f1 6)) hS1 hi_175_143 rfl ?_
    refine am_e12f hi_175_146 (am_cF (m := (f1 6).toInt) (n := (0 : Int)) rfl (by decide) (by simp only [am_cI]; omega)) ?_
    refine am_e2 (v := 39) hi_175_149 rfl ?_
    refine mm_20 (v := .int (f1 7)) hS1 hi_175_150 rfl ?_
    refine am_e18 hi_175_153 ?_
    refine mm_21 (v := f1 7) hS1 hi_175_174 rfl (Nat.le_of_ble_eq_true rfl) ms_3 ?_
    intro S76 hS77
    refine am_e2 (v := 39) hi_175_177 rfl ?_
    refine mm_20 (v := .ref 78) hS77 hi_175_178 rfl ?_
    refine am_e0 hi_175_181 ?_
    refine am_e2 (v := 39) hi_175_182 rfl ?_
    refine mm_20 (v := .int (f1 0)) hS77 hi_175_183 rfl ?_
    refine mm_26 hS77 ma_57 hi_175_186 (by decide) (by decide) (by decide) (fun h => nomatch h) ?_
    intro S78 hS79
    refine am_e2 (v := 39) hi_175_187 rfl ?_
    refine am_e0 hi_175_188 ?_
    refine mm_21 (v := 0) hS79 hi_175_189 rfl (Nat.le_of_ble_eq_true rfl) ms_0 ?_
    intro S80 hS81
    replace hS81 : MS S0 S80 (upd (upd f1 0 0) 3 (f1 7)) (upg g1 57 0 (f1 0)) := hS81
    refine am_e2 (v := 39) hi_175_192 rfl ?_
    refine am_e1 (v := f1 6) hi_175_193 rfl ?_
    refine am_e12f hi_175_194 (am_cF (m := (f1 6).toInt) (n := (0 : Int)) rfl (by decide) (by simp only [am_cI]; omega)) ?_
    refine am_e0 hi_175_197 ?_
    refine am_e18 hi_175_198 ?_
    refine mm_21 (v := 0) hS81 hi_175_205 rfl (Nat.le_of_ble_eq_true rfl) ms_53 ?_
    intro S82 hS83
    refine am_e1 (v := f1 6) hi_175_208 rfl ?_
    refine am_e12t hi_175_209 (am_cT (m := (f1 6).toInt) (n := (0 : Int)) rfl (by decide) (by simp only [am_cI]; omega)) ?_
    refine am_e1 (v := f1 6) hi_175_216 rfl ?_
    refine am_e12f hi_175_217 (am_cF (m := (f1 6).toInt) (n := (0 : Int)) rfl (by decide) (by simp only [am_cI]; omega)) ?_
    refine am_e1 (v := f1 6) hi_175_220 rfl ?_
    obtain ⟨z84, hz84⟩ : ∃ q__, -(f1 6) = q__ := ⟨_, rfl⟩
    refine am_e11 (z := z84) hi_175_221 hz84 ?_
    refine am_e18 hi_175_222 ?_
    refine am_e33 hi_175_229 ?_
    exact ⟨_, _, _, rfl, hS83, ri_bad (F := (upd (upd (upd f1 0 0) 3 (f1 7)) 53 0)) (f := f1) (g := g1) hR1 (show (0 : Int32).toInt = 0 from by decide) ⟨(show 0 ≤ (f1 19).toInt from by omega), (show (f1 19).toInt ≤ 600 from by omega)⟩ ⟨(show 0 ≤ (f1 62).toInt from by omega), (show (f1 62).toInt ≤ 65000 from by omega)⟩ (show ∀ j, j ∉ [57, 60, 61, 74] → (upg g1 57 0 (f1 0)) j = g1 j from by intro j hj; simp only [List.mem_cons, List.not_mem_nil, or_false, not_or] at hj; simp only [upg, hj, if_false]), (show (0 : Int32).toInt = 0 from by decide)⟩
  · refine am_e12f hi_175_77 (am_cF (m := (f1 6).toInt) (n := (0 : Int)) rfl (by decide) c75) ?_
    refine am_e2 (v := 39) hi_175_80 rfl ?_
    refine mm_20 (v := .int (f1 4)) hS1 hi_175_81 rfl ?_
    refine am_e2 (v := 39) hi_175_84 rfl ?_
    refine mm_20 (v := .int (f1 0)) hS1 hi_175_85 rfl ?_
    by_cases c85 : (f1 0).toInt ≤ (f1 4).toInt
    · refine am_e13t hi_175_88 (am_cT (m := (f1 4).toInt) (n := (f1 0).toInt) rfl rfl c85) ?_
      refine am_e2 (v := 39) hi_175_98 rfl ?_
      refine mm_20 (v := .int (f1 6)) hS1 hi_175_99 rfl ?_
      refine am_e12f hi_175_102 (am_cF (m := (f1 6).toInt) (n := (0 : Int)) rfl (by decide) (by simp only [am_cI]; omega)) ?_
      refine am_e2 (v := 39) hi_175_105 rfl ?_
      refine am_e0 hi_175_106 ?_
      refine am_e0 hi_175_108 ?_
      refine am_e0 hi_175_109 ?_
      refine am_e2 (v := 39) hi_175_110 rfl ?_
      refine mm_20 (v := .int (f1 0)) hS1 hi_175_111 rfl ?_
      refine am_e32n (as := [.ref 39, .int 45, .int 0, .int 0, .int (f1 0)]) (la := [some (.ref 39), some (.int 45), some (.int 0), some (.int 0), some (.int (f1 0))]) (rest := []) hi_175_114 (am_hd0 (M := 175) (by decide) 114) (Nat.le_of_ble_eq_true rfl) (Nat.le_of_ble_eq_true rfl) (show 5 ≤ am_P0.2.2.1 189 from by decide +kernel) rfl (am_recv_ok hS1.fs) rfl rfl (ct_put (d := (d + 8)) hS1 hR1  (by show (0 : Int) ≤ (f1 32).toInt; omega) (by show (f1 32).toInt ≤ (63 : Int); omega) (by show (f1 53).toInt ≤ (4096 : Int); omega) (by show (0 : Int) ≤ (f1 68).toInt; omega) (by show (f1 68).toInt ≤ (65534 : Int); omega)) ?_
      rintro v86 S87 (⟨z88, r89, g'90, hv91, hS92, hR96, h93, h94, h95⟩)
      subst hv91
      have h93_ : z88.toInt = (f1 68).toInt + 1 := h93
      have h94_ : r89.toInt = (f1 68).toInt := h94
      have h95_ : ∀ j, j ∉ [60, 69, 70, 71, 72, 73] → g'90 j = g1 j := h95
      have hR96_ : RJ (upd f1 68 z88) g'90 [] bc1 [] 0 ((f1 68).toNatClampNeg :: []) := hR96
      show am_E _ _ _ _ [some (.ref 39), none] [.int r89] _ _
      refine am_e6i hi_175_117 ?_
      refine am_e2 (v := 39) hi_175_118 rfl ?_
      refine am_e32n (as := [.ref 39]) (la := [some (.ref 39), none]) (rest := []) hi_175_119 (am_hd0 (M := 175) (by decide) 119) (Nat.le_of_ble_eq_true rfl) (Nat.le_of_ble_eq_true rfl) (show 1 ≤ am_P0.2.2.1 223 from by decide +kernel) rfl (am_recv_ok hS92.fs) rfl rfl (ct_lostGotos (d := (d + 7)) hS92 hR96_  (by show (0 : Int) ≤ (f1 32).toInt; omega) (by show (f1 32).toInt ≤ (63 : Int); omega) (by show (0 : Int) ≤ (f1 48).toInt; omega) (by show (f1 48).toInt ≤ (8192 : Int); omega) (by show (f1 4).toInt ≤ (8192 : Int); omega) (by show (0 : Int) ≤ (f1 8).toInt; omega)) ?_
      rintro v97 S98 (⟨a99, b100, z101, hv102, hS103, hR107, h104, h105, h106⟩)
      subst hv102
      have h104_ : (0 : Int) ≤ z101.toInt := h104
      have h105_ : z101.toInt ≤ (f1 4).toInt := h105
      have h106_ : (0 : Int) ≤ a99.toInt := h106
      replace hS103 : MS S0 S98 (upd (upd (upd (upd f1 8 a99) 9 b100) 48 z101) 68 z88) g'90 := hS103
      have hR107_ : RJ (upd (upd (upd (upd f1 8 a99) 9 b100) 48 z101) 68 z88) g'90 [] bc1 [] 0 ((f1 68).toNatClampNeg :: []) := hR107
      show am_E _ _ _ _ [some (.ref 39), none] [] _ _
      refine am_e2 (v := 39) hi_175_122 rfl ?_
      refine mm_20 (v := .int (f1 6)) hS103 hi_175_123 rfl ?_
      refine am_e12t hi_175_126 (am_cT (m := (f1 6).toInt) (n := (0 : Int)) rfl (by decide) (by simp only [am_cI]; omega)) ?_
      refine am_e2 (v := 39) hi_175_136 rfl ?_
      refine mm_20 (v := .int a99) hS103 hi_175_137 rfl ?_
      refine am_e3 (ls' := [some (.ref 39), some (.int a99)]) hi_175_140 (Nat.le_of_ble_eq_true rfl) rfl ?_
      refine am_e2 (v := 39) hi_175_141 rfl ?_
      refine am_e2 (v := 39) hi_175_142 rfl ?_
      refine mm_20 (v := .int (f1 6)) hS103 hi_175_143 rfl ?_
      refine am_e12t hi_175_146 (am_cT (m := (f1 6).toInt) (n := (0 : Int)) rfl (by decide) (by simp only [am_cI]; omega)) ?_
      refine am_e2 (v := 39) hi_175_156 rfl ?_
      refine mm_20 (v := .int a99) hS103 hi_175_157 rfl ?_
      by_cases c108 : a99.toInt ≤ (0 : Int)
      · refine am_e12t hi_175_160 (am_cT (m := a99.toInt) (n := (0 : Int)) rfl (by decide) c108) ?_
        refine am_e2 (v := 39) hi_175_170 rfl ?_
        refine mm_20 (v := .int (f1 0)) hS103 hi_175_171 rfl ?_
        refine mm_21 (v := f1 0) hS103 hi_175_174 rfl (Nat.le_of_ble_eq_true rfl) ms_3 ?_
        intro S109 hS110
        replace hS110 : MS S0 S109 (upd (upd (upd (upd (upd f1 3 (f1 0)) 8 a99) 9 b100) 48 z101) 68 z88) g'90 := hS110
        refine am_e2 (v := 39) hi_175_177 rfl ?_
        refine mm_20 (v := .ref 78) hS110 hi_175_178 rfl ?_
        refine am_e0 hi_175_181 ?_
        refine am_e2 (v := 39) hi_175_182 rfl ?_
        refine mm_20 (v := .int (f1 0)) hS110 hi_175_183 rfl ?_
        refine mm_26 hS110 ma_57 hi_175_186 (by decide) (by decide) (by decide) (fun h => nomatch h) ?_
        intro S111 hS112
        refine am_e2 (v := 39) hi_175_187 rfl ?_
        refine am_e0 hi_175_188 ?_
        refine mm_21 (v := 0) hS112 hi_175_189 rfl (Nat.le_of_ble_eq_true rfl) ms_0 ?_
        intro S113 hS114
        replace hS114 : MS S0 S113 (upd (upd (upd (upd (upd (upd f1 0 0) 3 (f1 0)) 8 a99) 9 b100) 48 z101) 68 z88) (upg g'90 57 0 (f1 0)) := hS114
        refine am_e2 (v := 39) hi_175_192 rfl ?_
        refine am_e1 (v := a99) hi_175_193 rfl ?_
        refine am_e12t hi_175_194 (am_cT (m := a99.toInt) (n := (0 : Int)) rfl (by decide) (by simp only [am_cI]; omega)) ?_
        refine am_e2 (v := 39) hi_175_201 rfl ?_
        refine mm_20 (v := .int (f1 53)) hS114 hi_175_202 rfl ?_
        refine mm_21 (v := f1 53) hS114 hi_175_205 rfl (Nat.le_of_ble_eq_true rfl) ms_53 ?_
        intro S115 hS116
        replace hS116 : MS S0 S115 (upd (upd (upd (upd (upd (upd (upd f1 0 0) 3 (f1 0)) 8 a99) 9 b100) 48 z101) 53 (f1 53)) 68 z88) (upg g'90 57 0 (f1 0)) := hS116
        refine am_e1 (v := a99) hi_175_208 rfl ?_
        refine am_e12f hi_175_209 (am_cF (m := a99.toInt) (n := (0 : Int)) rfl (by decide) (by simp only [am_cI]; omega)) ?_
        refine am_e2 (v := 39) hi_175_212 rfl ?_
        refine am_e32n (as := [.ref 39]) (la := [some (.ref 39), none, none]) (rest := []) hi_175_213 (am_hd0 (M := 175) (by decide) 213) (Nat.le_of_ble_eq_true rfl) (Nat.le_of_ble_eq_true rfl) (show 1 ≤ am_P0.2.2.1 266 from by decide +kernel) rfl (am_recv_ok hS116.fs) rfl rfl (ct_sort (d := (d + 8)) hS116  (RJ.o2 hR107_) (by show (0 : Int) ≤ (f1 53).toInt; omega) (by show (f1 53).toInt ≤ (600 : Int); omega) (by show (0 : Int) ≤ z88.toInt; omega) (by show z88.toInt ≤ (65000 : Int); omega)) ?_
        rintro v117 S118 (⟨g'119, hv120, hS121, h122, h123, h124⟩)
        subst hv120
        have h122_ : ∀ j, j ∉ [60, 61, 74] → g'119 j = (upg g'90 57 0 (f1 0)) j := h122
        have h123_ : ∀ x : Nat, (x : Int) < (f1 53).toInt → 0 ≤ (g'119 61 x).toInt ∧ 0 ≤ (g'119 60 x).toInt ∧ (g'119 61 x).toInt + (g'119 60 x).toInt ≤ 65000 := h123
        have h124_ : ∀ x : Nat, (x : Int) < (f1 53).toInt → ∀ j : Nat, (j : Int) < (g'119 60 x).toInt → 0 ≤ (g'119 74 ((g'119 61 x).toInt.toNat + j)).toInt ∧ (g'119 74 ((g'119 61 x).toInt.toNat + j)).toInt < 65536 := h124
        show am_E _ _ _ _ [some (.ref 39), some (.int a99)] [] _ _
        refine am_e1 (v := a99) hi_175_216 rfl ?_
        refine am_e12t hi_175_217 (am_cT (m := a99.toInt) (n := (0 : Int)) rfl (by decide) (by simp only [am_cI]; omega)) ?_
        refine am_e2 (v := 39) hi_175_225 rfl ?_
        refine mm_20 (v := .int (f1 53)) hS121 hi_175_226 rfl ?_
        refine am_e33 hi_175_229 ?_
        exact ⟨_, _, _, rfl, hS121, ri_good (F := (upd (upd (upd (upd (upd (upd (upd f1 0 0) 3 (f1 0)) 8 a99) 9 b100) 48 z101) 53 (f1 53)) 68 z88)) (f := (upd (upd (upd (upd f1 8 a99) 9 b100) 48 z101) 68 z88)) (g := g'90) hR107_ rfl rfl ⟨(show 0 ≤ (f1 19).toInt from by omega), (show (f1 19).toInt ≤ 600 from by omega)⟩ ⟨(show 0 ≤ (f1 53).toInt from by omega), (show (f1 53).toInt ≤ 600 from by omega)⟩ ⟨(show 0 ≤ (f1 62).toInt from by omega), (show (f1 62).toInt ≤ 65000 from by omega)⟩ (fun j hj => ((show ∀ j, j ∉ [57, 60, 61, 74] → g'119 j = (upg g'90 57 0 (f1 0)) j from fun j hj => h122_ j (fun q => hj (mem_sub (L := [60, 61, 74]) (L' := [57, 60, 61, 74]) (by decide) q))) j hj).trans ((show ∀ j, j ∉ [57, 60, 61, 74] → (upg g'90 57 0 (f1 0)) j = g'90 j from by intro j hj; simp only [List.mem_cons, List.not_mem_nil, or_false, not_or] at hj; simp only [upg, hj, if_false]) j hj)) h123_ h124_, (show (0 : Int32).toInt = 0 from by decide)⟩
      · refine am_e12f hi_175_160 (am_cF (m := a99.toInt) (n := (0 : Int)) rfl (by decide) c108) ?_
        refine am_e2 (v := 39) hi_175_163 rfl ?_
        refine mm_20 (v := .int b100) hS103 hi_175_164 rfl ?_
        refine am_e18 hi_175_167 ?_
        refine mm_21 (v := b100) hS103 hi_175_174 rfl (Nat.le_of_ble_eq_true rfl) ms_3 ?_
        intro S126 hS127
        replace hS127 : MS S0 S126 (upd (upd (upd (upd (upd f1 3 b100) 8 a99) 9 b100) 48 z101) 68 z88) g'90 := hS127
        refine am_e2 (v := 39) hi_175_177 rfl ?_
        refine mm_20 (v := .ref 78) hS127 hi_175_178 rfl ?_
        refine am_e0 hi_175_181 ?_
        refine am_e2 (v := 39) hi_175_182 rfl ?_
        refine mm_20 (v := .int (f1 0)) hS127 hi_175_183 rfl ?_
        refine mm_26 hS127 ma_57 hi_175_186 (by decide) (by decide) (by decide) (fun h => nomatch h) ?_
        intro S128 hS129
        refine am_e2 (v := 39) hi_175_187 rfl ?_
        refine am_e0 hi_175_188 ?_
        refine mm_21 (v := 0) hS129 hi_175_189 rfl (Nat.le_of_ble_eq_true rfl) ms_0 ?_
        intro S130 hS131
        replace hS131 : MS S0 S130 (upd (upd (upd (upd (upd (upd f1 0 0) 3 b100) 8 a99) 9 b100) 48 z101) 68 z88) (upg g'90 57 0 (f1 0)) := hS131
        refine am_e2 (v := 39) hi_175_192 rfl ?_
        refine am_e1 (v := a99) hi_175_193 rfl ?_
        refine am_e12f hi_175_194 (am_cF (m := a99.toInt) (n := (0 : Int)) rfl (by decide) (by simp only [am_cI]; omega)) ?_
        refine am_e0 hi_175_197 ?_
        refine am_e18 hi_175_198 ?_
        refine mm_21 (v := 0) hS131 hi_175_205 rfl (Nat.le_of_ble_eq_true rfl) ms_53 ?_
        intro S132 hS133
        replace hS133 : MS S0 S132 (upd (upd (upd (upd (upd (upd (upd f1 0 0) 3 b100) 8 a99) 9 b100) 48 z101) 53 0) 68 z88) (upg g'90 57 0 (f1 0)) := hS133
        refine am_e1 (v := a99) hi_175_208 rfl ?_
        refine am_e12t hi_175_209 (am_cT (m := a99.toInt) (n := (0 : Int)) rfl (by decide) (by simp only [am_cI]; omega)) ?_
        refine am_e1 (v := a99) hi_175_216 rfl ?_
        refine am_e12f hi_175_217 (am_cF (m := a99.toInt) (n := (0 : Int)) rfl (by decide) (by simp only [am_cI]; omega)) ?_
        refine am_e1 (v := a99) hi_175_220 rfl ?_
        obtain ⟨z134, hz134⟩ : ∃ q__, -a99 = q__ := ⟨_, rfl⟩
        refine am_e11 (z := z134) hi_175_221 hz134 ?_
        refine am_e18 hi_175_222 ?_
        refine am_e33 hi_175_229 ?_
        exact ⟨_, _, _, rfl, hS133, ri_bad (F := (upd (upd (upd (upd (upd (upd (upd f1 0 0) 3 b100) 8 a99) 9 b100) 48 z101) 53 0) 68 z88)) (f := (upd (upd (upd (upd f1 8 a99) 9 b100) 48 z101) 68 z88)) (g := g'90) hR107_ (show (0 : Int32).toInt = 0 from by decide) ⟨(show 0 ≤ (f1 19).toInt from by omega), (show (f1 19).toInt ≤ 600 from by omega)⟩ ⟨(show 0 ≤ (f1 62).toInt from by omega), (show (f1 62).toInt ≤ 65000 from by omega)⟩ (show ∀ j, j ∉ [57, 60, 61, 74] → (upg g'90 57 0 (f1 0)) j = g'90 j from by intro j hj; simp only [List.mem_cons, List.not_mem_nil, or_false, not_or] at hj; simp only [upg, hj, if_false]), (show (0 : Int32).toInt = 0 from by decide)⟩
    · refine am_e13f hi_175_88 (am_cF (m := (f1 4).toInt) (n := (f1 0).toInt) rfl rfl c85) ?_
      refine am_e2 (v := 39) hi_175_91 rfl ?_
      refine am_e0 hi_175_92 ?_
      refine am_e32n (as := [.ref 39, .int 7]) (la := [some (.ref 39), some (.int 7)]) (rest := []) hi_175_94 (am_hd0 (M := 175) (by decide) 94) (Nat.le_of_ble_eq_true rfl) (Nat.le_of_ble_eq_true rfl) (show 2 ≤ am_P0.2.2.1 194 from by decide +kernel) rfl (am_recv_ok hS1.fs) rfl rfl (ct_fail (d := (d + 8)) hS1   (by show (0 : Int) ≤ (7 : Int); omega) (by show (0 : Int) ≤ (f1 6).toInt; omega)) ?_
      rintro v135 S136 (⟨a137, b138, hv139, hS140, h141⟩)
      subst hv139
      have h141_ : (0 : Int) ≤ a137.toInt := h141
      have hR143 := rj_clear0 hR1
      have hR144 : RJ (upd (upd (upd f1 6 a137) 7 b138) 10 0) g1 [] bc1 [] 0 [] := hR143
      show am_E _ _ _ _ [some (.ref 39), none] [.int 0] _ _
      refine am_e6i hi_175_97 ?_
      refine am_e2 (v := 39) hi_175_98 rfl ?_
      refine mm_20 (v := .int a137) hS140 hi_175_99 rfl ?_
      by_cases c145 : ¬ a137.toInt = (0 : Int)
      · refine am_e12t hi_175_102 (am_cT (m := a137.toInt) (n := (0 : Int)) rfl (by decide) c145) ?_
        refine am_e2 (v := 39) hi_175_122 rfl ?_
        refine mm_20 (v := .int a137) hS140 hi_175_123 rfl ?_
        refine am_e12f hi_175_126 (am_cF (m := a137.toInt) (n := (0 : Int)) rfl (by decide) (by simp only [am_cI]; omega)) ?_
        refine am_e2 (v := 39) hi_175_129 rfl ?_
        refine mm_20 (v := .int a137) hS140 hi_175_130 rfl ?_
        refine am_e18 hi_175_133 ?_
        refine am_e3 (ls' := [some (.ref 39), some (.int a137)]) hi_175_140 (Nat.le_of_ble_eq_true rfl) rfl ?_
        refine am_e2 (v := 39) hi_175_141 rfl ?_
        refine am_e2 (v := 39) hi_175_142 rfl ?_
        refine mm_20 (v := .int a137) hS140 hi_175_143 rfl ?_
        refine am_e12f hi_175_146 (am_cF (m := a137.toInt) (n := (0 : Int)) rfl (by decide) (by simp only [am_cI]; omega)) ?_
        refine am_e2 (v := 39) hi_175_149 rfl ?_
        refine mm_20 (v := .int b138) hS140 hi_175_150 rfl ?_
        refine am_e18 hi_175_153 ?_
        refine mm_21 (v := b138) hS140 hi_175_174 rfl (Nat.le_of_ble_eq_true rfl) ms_3 ?_
        intro S146 hS147
        replace hS147 : MS S0 S146 (upd (upd (upd (upd f1 3 b138) 6 a137) 7 b138) 10 0) g1 := hS147
        refine am_e2 (v := 39) hi_175_177 rfl ?_
        refine mm_20 (v := .ref 78) hS147 hi_175_178 rfl ?_
        refine am_e0 hi_175_181 ?_
        refine am_e2 (v := 39) hi_175_182 rfl ?_
        refine mm_20 (v := .int (f1 0)) hS147 hi_175_183 rfl ?_
        refine mm_26 hS147 ma_57 hi_175_186 (by decide) (by decide) (by decide) (fun h => nomatch h) ?_
        intro S148 hS149
        refine am_e2 (v := 39) hi_175_187 rfl ?_
        refine am_e0 hi_175_188 ?_
        refine mm_21 (v := 0) hS149 hi_175_189 rfl (Nat.le_of_ble_eq_true rfl) ms_0 ?_
        intro S150 hS151
        replace hS151 : MS S0 S150 (upd (upd (upd (upd (upd f1 0 0) 3 b138) 6 a137) 7 b138) 10 0) (upg g1 57 0 (f1 0)) := hS151
        refine am_e2 (v := 39) hi_175_192 rfl ?_
        refine am_e1 (v := a137) hi_175_193 rfl ?_
        refine am_e12f hi_175_194 (am_cF (m := a137.toInt) (n := (0 : Int)) rfl (by decide) (by simp only [am_cI]; omega)) ?_
        refine am_e0 hi_175_197 ?_
        refine am_e18 hi_175_198 ?_
        refine mm_21 (v := 0) hS151 hi_175_205 rfl (Nat.le_of_ble_eq_true rfl) ms_53 ?_
        intro S152 hS153
        refine am_e1 (v := a137) hi_175_208 rfl ?_
        refine am_e12t hi_175_209 (am_cT (m := a137.toInt) (n := (0 : Int)) rfl (by decide) (by simp only [am_cI]; omega)) ?_
        refine am_e1 (v := a137) hi_175_216 rfl ?_
        refine am_e12f hi_175_217 (am_cF (m := a137.toInt) (n := (0 : Int)) rfl (by decide) (by simp only [am_cI]; omega)) ?_
        refine am_e1 (v := a137) hi_175_220 rfl ?_
        obtain ⟨z154, hz154⟩ : ∃ q__, -a137 = q__ := ⟨_, rfl⟩
        refine am_e11 (z := z154) hi_175_221 hz154 ?_
        refine am_e18 hi_175_222 ?_
        refine am_e33 hi_175_229 ?_
        exact ⟨_, _, _, rfl, hS153, ri_bad (F := (upd (upd (upd (upd (upd (upd f1 0 0) 3 b138) 6 a137) 7 b138) 10 0) 53 0)) (f := (upd (upd (upd f1 6 a137) 7 b138) 10 0)) (g := g1) hR144 (show (0 : Int32).toInt = 0 from by decide) ⟨(show 0 ≤ (f1 19).toInt from by omega), (show (f1 19).toInt ≤ 600 from by omega)⟩ ⟨(show 0 ≤ (f1 62).toInt from by omega), (show (f1 62).toInt ≤ 65000 from by omega)⟩ (show ∀ j, j ∉ [57, 60, 61, 74] → (upg g1 57 0 (f1 0)) j = g1 j from by intro j hj; simp only [List.mem_cons, List.not_mem_nil, or_false, not_or] at hj; simp only [upg, hj, if_false]), (show (0 : Int32).toInt = 0 from by decide)⟩
      · refine am_e12f hi_175_102 (am_cF (m := a137.toInt) (n := (0 : Int)) rfl (by decide) c145) ?_
        refine am_e2 (v := 39) hi_175_105 rfl ?_
        refine am_e0 hi_175_106 ?_
        refine am_e0 hi_175_108 ?_
        refine am_e0 hi_175_109 ?_
        refine am_e2 (v := 39) hi_175_110 rfl ?_
        refine mm_20 (v := .int (f1 0)) hS140 hi_175_111 rfl ?_
        refine am_e32n (as := [.ref 39, .int 45, .int 0, .int 0, .int (f1 0)]) (la := [some (.ref 39), some (.int 45), some (.int 0), some (.int 0), some (.int (f1 0))]) (rest := []) hi_175_114 (am_hd0 (M := 175) (by decide) 114) (Nat.le_of_ble_eq_true rfl) (Nat.le_of_ble_eq_true rfl) (show 5 ≤ am_P0.2.2.1 189 from by decide +kernel) rfl (am_recv_ok hS140.fs) rfl rfl (ct_put (d := (d + 8)) hS140 hR144  (by show (0 : Int) ≤ (f1 32).toInt; omega) (by show (f1 32).toInt ≤ (63 : Int); omega) (by show (f1 53).toInt ≤ (4096 : Int); omega) (by show (0 : Int) ≤ (f1 68).toInt; omega) (by show (f1 68).toInt ≤ (65534 : Int); omega)) ?_
        rintro v155 S156 (⟨z157, r158, g'159, hv160, hS161, hR165, h162, h163, h164⟩)
        subst hv160
        have h162_ : z157.toInt = (f1 68).toInt + 1 := h162
        have h163_ : r158.toInt = (f1 68).toInt := h163
        have h164_ : ∀ j, j ∉ [60, 69, 70, 71, 72, 73] → g'159 j = g1 j := h164
        have hR165_ : RJ (upd (upd (upd (upd f1 6 a137) 7 b138) 10 0) 68 z157) g'159 [] bc1 [] 0 ((f1 68).toNatClampNeg :: []) := hR165
        show am_E _ _ _ _ [some (.ref 39), none] [.int r158] _ _
        refine am_e6i hi_175_117 ?_
        refine am_e2 (v := 39) hi_175_118 rfl ?_
        refine am_e32n (as := [.ref 39]) (la := [some (.ref 39), none]) (rest := []) hi_175_119 (am_hd0 (M := 175) (by decide) 119) (Nat.le_of_ble_eq_true rfl) (Nat.le_of_ble_eq_true rfl) (show 1 ≤ am_P0.2.2.1 223 from by decide +kernel) rfl (am_recv_ok hS161.fs) rfl rfl (ct_lostGotos (d := (d + 7)) hS161 hR165_  (by show (0 : Int) ≤ (f1 32).toInt; omega) (by show (f1 32).toInt ≤ (63 : Int); omega) (by show (0 : Int) ≤ (f1 48).toInt; omega) (by show (f1 48).toInt ≤ (8192 : Int); omega) (by show (f1 4).toInt ≤ (8192 : Int); omega) (by show (0 : Int) ≤ (f1 8).toInt; omega)) ?_
        rintro v166 S167 (⟨a168, b169, z170, hv171, hS172, hR176, h173, h174, h175⟩)
        subst hv171
        have h173_ : (0 : Int) ≤ z170.toInt := h173
        have h174_ : z170.toInt ≤ (f1 4).toInt := h174
        have h175_ : (0 : Int) ≤ a168.toInt := h175
        replace hS172 : MS S0 S167 (upd (upd (upd (upd (upd (upd (upd f1 6 a137) 7 b138) 8 a168) 9 b169) 10 0) 48 z170) 68 z157) g'159 := hS172
        have hR176_ : RJ (upd (upd (upd (upd (upd (upd (upd f1 6 a137) 7 b138) 8 a168) 9 b169) 10 0) 48 z170) 68 z157) g'159 [] bc1 [] 0 ((f1 68).toNatClampNeg :: []) := hR176
        show am_E _ _ _ _ [some (.ref 39), none] [] _ _
        refine am_e2 (v := 39) hi_175_122 rfl ?_
        refine mm_20 (v := .int a137) hS172 hi_175_123 rfl ?_
        refine am_e12t hi_175_126 (am_cT (m := a137.toInt) (n := (0 : Int)) rfl (by decide) (by simp only [am_cI]; omega)) ?_
        refine am_e2 (v := 39) hi_175_136 rfl ?_
        refine mm_20 (v := .int a168) hS172 hi_175_137 rfl ?_
        refine am_e3 (ls' := [some (.ref 39), some (.int a168)]) hi_175_140 (Nat.le_of_ble_eq_true rfl) rfl ?_
        refine am_e2 (v := 39) hi_175_141 rfl ?_
        refine am_e2 (v := 39) hi_175_142 rfl ?_
        refine mm_20 (v := .int a137) hS172 hi_175_143 rfl ?_
        refine am_e12t hi_175_146 (am_cT (m := a137.toInt) (n := (0 : Int)) rfl (by decide) (by simp only [am_cI]; omega)) ?_
        refine am_e2 (v := 39) hi_175_156 rfl ?_
        refine mm_20 (v := .int a168) hS172 hi_175_157 rfl ?_
        by_cases c177 : a168.toInt ≤ (0 : Int)
        · refine am_e12t hi_175_160 (am_cT (m := a168.toInt) (n := (0 : Int)) rfl (by decide) c177) ?_
          refine am_e2 (v := 39) hi_175_170 rfl ?_
          refine mm_20 (v := .int (f1 0)) hS172 hi_175_171 rfl ?_
          refine mm_21 (v := f1 0) hS172 hi_175_174 rfl (Nat.le_of_ble_eq_true rfl) ms_3 ?_
          intro S178 hS179
          replace hS179 : MS S0 S178 (upd (upd (upd (upd (upd (upd (upd (upd f1 3 (f1 0)) 6 a137) 7 b138) 8 a168) 9 b169) 10 0) 48 z170) 68 z157) g'159 := hS179
          refine am_e2 (v := 39) hi_175_177 rfl ?_
          refine mm_20 (v := .ref 78) hS179 hi_175_178 rfl ?_
          refine am_e0 hi_175_181 ?_
          refine am_e2 (v := 39) hi_175_182 rfl ?_
          refine mm_20 (v := .int (f1 0)) hS179 hi_175_183 rfl ?_
          refine mm_26 hS179 ma_57 hi_175_186 (by decide) (by decide) (by decide) (fun h => nomatch h) ?_
          intro S180 hS181
          refine am_e2 (v := 39) hi_175_187 rfl ?_
          refine am_e0 hi_175_188 ?_
          refine mm_21 (v := 0) hS181 hi_175_189 rfl (Nat.le_of_ble_eq_true rfl) ms_0 ?_
          intro S182 hS183
          replace hS183 : MS S0 S182 (upd (upd (upd (upd (upd (upd (upd (upd (upd f1 0 0) 3 (f1 0)) 6 a137) 7 b138) 8 a168) 9 b169) 10 0) 48 z170) 68 z157) (upg g'159 57 0 (f1 0)) := hS183
          refine am_e2 (v := 39) hi_175_192 rfl ?_
          refine am_e1 (v := a168) hi_175_193 rfl ?_
          refine am_e12t hi_175_194 (am_cT (m := a168.toInt) (n := (0 : Int)) rfl (by decide) (by simp only [am_cI]; omega)) ?_
          refine am_e2 (v := 39) hi_175_201 rfl ?_
          refine mm_20 (v := .int (f1 53)) hS183 hi_175_202 rfl ?_
          refine mm_21 (v := f1 53) hS183 hi_175_205 rfl (Nat.le_of_ble_eq_true rfl) ms_53 ?_
          intro S184 hS185
          replace hS185 : MS S0 S184 (upd (upd (upd (upd (upd (upd (upd (upd (upd (upd f1 0 0) 3 (f1 0)) 6 a137) 7 b138) 8 a168) 9 b169) 10 0) 48 z170) 53 (f1 53)) 68 z157) (upg g'159 57 0 (f1 0)) := hS185
          refine am_e1 (v := a168) hi_175_208 rfl ?_
          refine am_e12f hi_175_209 (am_cF (m := a168.toInt) (n := (0 : Int)) rfl (by decide) (by simp only [am_cI]; omega)) ?_
          refine am_e2 (v := 39) hi_175_212 rfl ?_
          refine am_e32n (as := [.ref 39]) (la := [some (.ref 39), none, none]) (rest := []) hi_175_213 (am_hd0 (M := 175) (by decide) 213) (Nat.le_of_ble_eq_true rfl) (Nat.le_of_ble_eq_true rfl) (show 1 ≤ am_P0.2.2.1 266 from by decide +kernel) rfl (am_recv_ok hS185.fs) rfl rfl (ct_sort (d := (d + 8)) hS185  (RJ.o2 hR176_) (by show (0 : Int) ≤ (f1 53).toInt; omega) (by show (f1 53).toInt ≤ (600 : Int); omega) (by show (0 : Int) ≤ z157.toInt; omega) (by show z157.toInt ≤ (65000 : Int); omega)) ?_
          rintro v186 S187 (⟨g'188, hv189, hS190, h191, h192, h193⟩)
          subst hv189
          have h191_ : ∀ j, j ∉ [60, 61, 74] → g'188 j = (upg g'159 57 0 (f1 0)) j := h191
          have h192_ : ∀ x : Nat, (x : Int) < (f1 53).toInt → 0 ≤ (g'188 61 x).toInt ∧ 0 ≤ (g'188 60 x).toInt ∧ (g'188 61 x).toInt + (g'188 60 x).toInt ≤ 65000 := h192
          have h193_ : ∀ x : Nat, (x : Int) < (f1 53).toInt → ∀ j : Nat, (j : Int) < (g'188 60 x).toInt → 0 ≤ (g'188 74 ((g'188 61 x).toInt.toNat + j)).toInt ∧ (g'188 74 ((g'188 61 x).toInt.toNat + j)).toInt < 65536 := h193
          show am_E _ _ _ _ [some (.ref 39), some (.int a168)] [] _ _
          refine am_e1 (v := a168) hi_175_216 rfl ?_
          refine am_e12t hi_175_217 (am_cT (m := a168.toInt) (n := (0 : Int)) rfl (by decide) (by simp only [am_cI]; omega)) ?_
          refine am_e2 (v := 39) hi_175_225 rfl ?_
          refine mm_20 (v := .int (f1 53)) hS190 hi_175_226 rfl ?_
          refine am_e33 hi_175_229 ?_
          exact ⟨_, _, _, rfl, hS190, ri_good (F := (upd (upd (upd (upd (upd (upd (upd (upd (upd (upd f1 0 0) 3 (f1 0)) 6 a137) 7 b138) 8 a168) 9 b169) 10 0) 48 z170) 53 (f1 53)) 68 z157)) (f := (upd (upd (upd (upd (upd (upd (upd f1 6 a137) 7 b138) 8 a168) 9 b169) 10 0) 48 z170) 68 z157)) (g := g'159) hR176_ rfl rfl ⟨(show 0 ≤ (f1 19).toInt from by omega), (show (f1 19).toInt ≤ 600 from by omega)⟩ ⟨(show 0 ≤ (f1 53).toInt from by omega), (show (f1 53).toInt ≤ 600 from by omega)⟩ ⟨(show 0 ≤ (f1 62).toInt from by omega), (show (f1 62).toInt ≤ 65000 from by omega)⟩ (fun j hj => ((show ∀ j, j ∉ [57, 60, 61, 74] → g'188 j = (upg g'159 57 0 (f1 0)) j from fun j hj => h191_ j (fun q => hj (mem_sub (L := [60, 61, 74]) (L' := [57, 60, 61, 74]) (by decide) q))) j hj).trans ((show ∀ j, j ∉ [57, 60, 61, 74] → (upg g'159 57 0 (f1 0)) j = g'159 j from by intro j hj; simp only [List.mem_cons, List.not_mem_nil, or_false, not_or] at hj; simp only [upg, hj, if_false]) j hj)) h192_ h193_, (show (0 : Int32).toInt = 0 from by decide)⟩
        · refine am_e12f hi_175_160 (am_cF (m := a168.toInt) (n := (0 : Int)) rfl (by decide) c177) ?_
          refine am_e2 (v := 39) hi_175_163 rfl ?_
          refine mm_20 (v := .int b169) hS172 hi_175_164 rfl ?_
          refine am_e18 hi_175_167 ?_
          refine mm_21 (v := b169) hS172 hi_175_174 rfl (Nat.le_of_ble_eq_true rfl) ms_3 ?_
          intro S195 hS196
          replace hS196 : MS S0 S195 (upd (upd (upd (upd (upd (upd (upd (upd f1 3 b169) 6 a137) 7 b138) 8 a168) 9 b169) 10 0) 48 z170) 68 z157) g'159 := hS196
          refine am_e2 (v := 39) hi_175_177 rfl ?_
          refine mm_20 (v := .ref 78) hS196 hi_175_178 rfl ?_
          refine am_e0 hi_175_181 ?_
          refine am_e2 (v := 39) hi_175_182 rfl ?_
          refine mm_20 (v := .int (f1 0)) hS196 hi_175_183 rfl ?_
          refine mm_26 hS196 ma_57 hi_175_186 (by decide) (by decide) (by decide) (fun h => nomatch h) ?_
          intro S197 hS198
          refine am_e2 (v := 39) hi_175_187 rfl ?_
          refine am_e0 hi_175_188 ?_
          refine mm_21 (v := 0) hS198 hi_175_189 rfl (Nat.le_of_ble_eq_true rfl) ms_0 ?_
          intro S199 hS200
          replace hS200 : MS S0 S199 (upd (upd (upd (upd (upd (upd (upd (upd (upd f1 0 0) 3 b169) 6 a137) 7 b138) 8 a168) 9 b169) 10 0) 48 z170) 68 z157) (upg g'159 57 0 (f1 0)) := hS200
          refine am_e2 (v := 39) hi_175_192 rfl ?_
          refine am_e1 (v := a168) hi_175_193 rfl ?_
          refine am_e12f hi_175_194 (am_cF (m := a168.toInt) (n := (0 : Int)) rfl (by decide) (by simp only [am_cI]; omega)) ?_
          refine am_e0 hi_175_197 ?_
          refine am_e18 hi_175_198 ?_
          refine mm_21 (v := 0) hS200 hi_175_205 rfl (Nat.le_of_ble_eq_true rfl) ms_53 ?_
          intro S201 hS202
          replace hS202 : MS S0 S201 (upd (upd (upd (upd (upd (upd (upd (upd (upd (upd f1 0 0) 3 b169) 6 a137) 7 b138) 8 a168) 9 b169) 10 0) 48 z170) 53 0) 68 z157) (upg g'159 57 0 (f1 0)) := hS202
          refine am_e1 (v := a168) hi_175_208 rfl ?_
          refine am_e12t hi_175_209 (am_cT (m := a168.toInt) (n := (0 : Int)) rfl (by decide) (by simp only [am_cI]; omega)) ?_
          refine am_e1 (v := a168) hi_175_216 rfl ?_
          refine am_e12f hi_175_217 (am_cF (m := a168.toInt) (n := (0 : Int)) rfl (by decide) (by simp only [am_cI]; omega)) ?_
          refine am_e1 (v := a168) hi_175_220 rfl ?_
          obtain ⟨z203, hz203⟩ : ∃ q__, -a168 = q__ := ⟨_, rfl⟩
          refine am_e11 (z := z203) hi_175_221 hz203 ?_
          refine am_e18 hi_175_222 ?_
          refine am_e33 hi_175_229 ?_
          exact ⟨_, _, _, rfl, hS202, ri_bad (F := (upd (upd (upd (upd (upd (upd (upd (upd (upd (upd f1 0 0) 3 b169) 6 a137) 7 b138) 8 a168) 9 b169) 10 0) 48 z170) 53 0) 68 z157)) (f := (upd (upd (upd (upd (upd (upd (upd f1 6 a137) 7 b138) 8 a168) 9 b169) 10 0) 48 z170) 68 z157)) (g := g'159) hR176_ (show (0 : Int32).toInt = 0 from by decide) ⟨(show 0 ≤ (f1 19).toInt from by omega), (show (f1 19).toInt ≤ 600 from by omega)⟩ ⟨(show 0 ≤ (f1 62).toInt from by omega), (show (f1 62).toInt ≤ 65000 from by omega)⟩ (show ∀ j, j ∉ [57, 60, 61, 74] → (upg g'159 57 0 (f1 0)) j = g'159 j from by intro j hj; simp only [List.mem_cons, List.not_mem_nil, or_false, not_or] at hj; simp only [upg, hj, if_false]), (show (0 : Int32).toInt = 0 from by decide)⟩
