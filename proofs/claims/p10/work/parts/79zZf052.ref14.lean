/-! THE REFERENCE: bodies (printed by wip/p2/ref14.py) -/
theorem ct_beginBlock2 {sc : Nat × (Nat → Int32)} {d : Nat} {S0 S : am_S} {f : Nat → Int32} {g : Nat → Nat → Int32} {lo : Int32} {gs : List mg_E} {bc : List (List Nat)} {fl : List Nat} {fk : Int} {pj : List Nat} (hS : MS S0 S f g) (hR : RJ f g gs bc fl fk pj) (hb_lo : lo = 0 ∨ lo = 1) (p0 : (0 : Int) ≤ (f 37).toInt) (p1 : (f 37).toInt ≤ (127 : Int)) (p2 : (0 : Int) ≤ (f 24).toInt) (p3 : (0 : Int) ≤ (f 44).toInt) (p4 : (f 44).toInt ≤ (f 4).toInt) (p5 : (0 : Int) ≤ (f 48).toInt) : am_E (am_PP sc) (d + 0) 177 0 [some (.ref 39), some (.int lo)] [] S (am_N fun v S1 => (∃ z : Int32, ∃ g' : Nat → Nat → Int32, v = none ∧ MS S0 S1 (upd f 37 z) g' ∧ (RJ (upd f 37 z) g' gs ([] :: bc) fl fk pj) ∧ (z.toInt = (f 37).toInt + 1) ∧ (∀ j, j ∉ [38, 39, 40, 41, 42, 43] → g' j = g j) ∧ (g' 38 = upd (g 38) (f 37).toNatClampNeg (f 24)))) := by
  refine am_e2 (v := 39) hi_177_0 rfl ?_
  refine mm_20 (v := .ref 62) hS hi_177_1 rfl ?_
  refine am_e2 (v := 39) hi_177_4 rfl ?_
  refine mm_20 (v := .int (f 37)) hS hi_177_5 rfl ?_
  refine am_e2 (v := 39) hi_177_8 rfl ?_
  refine mm_20 (v := .int (f 24)) hS hi_177_9 rfl ?_
  refine mm_26 hS ma_38 hi_177_12 (by decide) (by omega) (by omega) (fun h => nomatch h) ?_
  intro S0 hS1
  refine am_e2 (v := 39) hi_177_13 rfl ?_
  refine mm_20 (v := .ref 63) hS1 hi_177_14 rfl ?_
  refine am_e2 (v := 39) hi_177_17 rfl ?_
  refine mm_20 (v := .int (f 37)) hS1 hi_177_18 rfl ?_
  refine am_e2 (v := 39) hi_177_21 rfl ?_
  refine mm_20 (v := .int (f 44)) hS1 hi_177_22 rfl ?_
  refine mm_26 hS1 ma_39 hi_177_25 (by decide) (by omega) (by omega) (fun h => nomatch h) ?_
  intro S2 hS3
  refine am_e2 (v := 39) hi_177_26 rfl ?_
  refine mm_20 (v := .ref 64) hS3 hi_177_27 rfl ?_
  refine am_e2 (v := 39) hi_177_30 rfl ?_
  refine mm_20 (v := .int (f 37)) hS3 hi_177_31 rfl ?_
  refine am_e2 (v := 39) hi_177_34 rfl ?_
  refine mm_20 (v := .int (f 48)) hS3 hi_177_35 rfl ?_
  refine mm_26 hS3 ma_40 hi_177_38 (by decide) (by omega) (by omega) (fun h => nomatch h) ?_
  intro S4 hS5
  refine am_e2 (v := 39) hi_177_39 rfl ?_
  refine mm_20 (v := .ref 65) hS5 hi_177_40 rfl ?_
  refine am_e2 (v := 39) hi_177_43 rfl ?_
  refine mm_20 (v := .int (f 37)) hS5 hi_177_44 rfl ?_
  refine am_e2 (v := 39) hi_177_47 rfl ?_
  refine mm_20 (v := .int (f 32)) hS5 hi_177_48 rfl ?_
  refine mm_26 hS5 ma_41 hi_177_51 (by decide) (by omega) (by omega) (fun h => nomatch h) ?_
  intro S6 hS7
  refine am_e2 (v := 39) hi_177_52 rfl ?_
  refine mm_20 (v := .ref 66) hS7 hi_177_53 rfl ?_
  refine am_e2 (v := 39) hi_177_56 rfl ?_
  refine mm_20 (v := .int (f 37)) hS7 hi_177_57 rfl ?_
  refine am_e1 (v := lo) hi_177_60 rfl ?_
  refine mm_26 hS7 ma_42 hi_177_61 (by decide) (by omega) (by omega) (fun _ => hb_lo) ?_
  intro S8 hS9
  refine am_e2 (v := 39) hi_177_62 rfl ?_
  refine mm_20 (v := .ref 67) hS9 hi_177_63 rfl ?_
  refine am_e2 (v := 39) hi_177_66 rfl ?_
  refine mm_20 (v := .int (f 37)) hS9 hi_177_67 rfl ?_
  refine am_e0 hi_177_70 ?_
  refine mm_26 hS9 ma_43 hi_177_71 (by decide) (by omega) (by omega) (fun h => nomatch h) ?_
  intro S10 hS11
  refine am_e2 (v := 39) hi_177_72 rfl ?_
  refine am_e7 hi_177_73 ?_
  refine mm_20 (v := .int (f 37)) hS11 hi_177_74 rfl ?_
  refine am_e0 hi_177_77 ?_
  obtain ⟨z12, hz12, tz12⟩ := am_addI (x := f 37) (y := 1) (m := (f 37).toInt) (n := (1 : Int)) rfl (by decide) (by omega) (by omega)
  refine am_e10 (z := z12) hi_177_78 hz12 ?_
  refine mm_21 (v := z12) hS11 hi_177_79 rfl (Nat.le_of_ble_eq_true rfl) ms_37 ?_
  intro S13 hS14
  refine am_e35 hi_177_82 ?_
  exact ⟨z12, _, rfl, hS14, (rj_begin hR (by omega) (by omega) (by omega) ⟨by omega, by omega⟩ (by omega)), (by show z12.toInt = (f 37).toInt + 1; omega), (by intro j hj; simp only [List.mem_cons, List.not_mem_nil, or_false, not_or] at hj; simp only [upg, hj, if_false]), rfl⟩
set_option maxHeartbeats 8000000 in
theorem ct_body {sc : Nat × (Nat → Int32)} {d : Nat} {S0 S : am_S} {f : Nat → Int32} {g : Nat → Nat → Int32} {sf : Int32} {w : Int32} {gs : List mg_E} {bc : List (List Nat)} {fl : List Nat} {fk : Int} {pj : List Nat} (hS : MS S0 S f g) (hR : RJ f g gs bc fl fk pj) (hb_sf : sf = 0 ∨ sf = 1) (p0 : (0 : Int) ≤ (f 32).toInt) (p1 : (f 32).toInt ≤ (62 : Int)) (p2 : (1 : Int) ≤ (f 53).toInt) (p3 : (f 53).toInt ≤ (4095 : Int)) (p4 : (0 : Int) ≤ (f 4).toInt) (p5 : (f 0).toInt ≤ (16384 : Int)) (p6 : (0 : Int) ≤ (f 5).toInt) (p7 : (f 5).toInt ≤ (48 : Int)) (p8 : (f 4).toInt ≤ (f 0).toInt) (p9 : (f 0).toInt ≤ (512 : Int)) (p10 : (0 : Int) ≤ (f 24).toInt) (p11 : (f 24).toInt ≤ (4000 : Int)) (p12 : (0 : Int) ≤ (f 44).toInt) (p13 : (f 44).toInt ≤ (f 4).toInt) (p14 : (0 : Int) ≤ (f 48).toInt) (p15 : (f 48).toInt ≤ (f 4).toInt) (p16 : (0 : Int) ≤ (f 37).toInt) (p17 : (f 37).toInt ≤ (126 : Int)) (p18 : (0 : Int) ≤ (f 10).toInt) (p19 : (f 10).toInt ≤ (65533 : Int)) (p20 : (0 : Int) ≤ (f 68).toInt) (p21 : (0 : Int) ≤ (f 6).toInt) (p22 : (0 : Int) ≤ (f 8).toInt) : am_E (am_PP sc) (d + 4) 195 0 [some (.ref 39), some (.int sf), some (.int w), none, none] [] S (am_N fun v S1 => (∃ z : Int32, ∃ y : Int32, ∃ a : Int32, ∃ b : Int32, ∃ t : Int32, ∃ l : Int32, ∃ i_ : Int32, ∃ dd : Int32, ∃ bz : Int32, ∃ mm : Int32, ∃ g' : Nat → Nat → Int32, v = none ∧ MS S0 S1 (upd (upd (upd (upd (upd (upd (upd (upd (upd (upd f 4 z) 5 y) 8 a) 9 b) 10 t) 24 l) 31 i_) 32 dd) 37 bz) 53 mm) g' ∧ (RJ (upd (upd (upd (upd (upd (upd (upd (upd (upd (upd f 4 z) 5 y) 8 a) 9 b) 10 t) 24 l) 31 i_) 32 dd) 37 bz) 53 mm) g' ((1, 0, 0, 0, []) :: (40, (f 4).toInt, 0, 0, []) :: gs) ([] :: bc) fl fk pj) ∧ ((f 4).toInt + 2 ≤ z.toInt) ∧ (z.toInt ≤ (f 0).toInt) ∧ (y.toInt = (f 5).toInt) ∧ ((f 24).toInt ≤ l.toInt) ∧ (l.toInt + (f 4).toInt ≤ (f 24).toInt + z.toInt) ∧ (t.toInt = (f 10).toInt + 2) ∧ (dd.toInt = (f 32).toInt + 1) ∧ (bz.toInt = (f 37).toInt + 1) ∧ (mm.toInt = (f 53).toInt + 1) ∧ (∀ j, j ∉ [11, 12, 13, 14, 25, 26, 27, 28, 29, 30, 33, 34, 35, 36, 38, 39, 40, 41, 42, 43, 54, 55, 56, 58, 59, 60, 67] → g' j = g j) ∧ (g' 34 = upd (g 34) dd.toNatClampNeg (f 24)) ∧ (g' 38 = upd (g 38) (f 37).toNatClampNeg (f 24)) ∧ ((0 : Int) ≤ a.toInt)) ∨ (∃ a : Int32, ∃ b : Int32, v = none ∧ MS S0 S1 (upd (upd (upd f 6 a) 7 b) 10 0) g ∧ (RJ (upd (upd (upd f 6 a) 7 b) 10 0) g [] bc [] 0 []) ∧ ((0 : Int) ≤ a.toInt)) ∨ (∃ z : Int32, ∃ y : Int32, ∃ u : Int32, ∃ v_ : Int32, ∃ a : Int32, ∃ b : Int32, ∃ l : Int32, ∃ i_ : Int32, ∃ dd : Int32, ∃ bz : Int32, ∃ mm : Int32, ∃ g' : Nat → Nat → Int32, v = none ∧ MS S0 S1 (upd (upd (upd (upd (upd (upd (upd (upd (upd (upd (upd (upd f 4 z) 5 y) 6 u) 7 v_) 8 a) 9 b) 10 0) 24 l) 31 i_) 32 dd) 37 bz) 53 mm) g' ∧ (RJ (upd (upd (upd (upd (upd (upd (upd (upd (upd (upd (upd (upd f 4 z) 5 y) 6 u) 7 v_) 8 a) 9 b) 10 0) 24 l) 31 i_) 32 dd) 37 bz) 53 mm) g' [] ([] :: bc) [] 0 []) ∧ ((f 4).toInt ≤ z.toInt) ∧ (z.toInt ≤ (f 0).toInt) ∧ (dd.toInt = (f 32).toInt + 1) ∧ (bz.toInt = (f 37).toInt + 1) ∧ (mm.toInt = (f 53).toInt + 1) ∧ (∀ j, j ∉ [11, 12, 13, 14, 25, 26, 27, 28, 29, 30, 33, 34, 35, 36, 38, 39, 40, 41, 42, 43, 54, 55, 56, 58, 59, 60, 67] → g' j = g j) ∧ ((0 : Int) ≤ u.toInt) ∧ ((0 : Int) ≤ a.toInt))) := by
  refine am_e2 (v := 39) hi_195_0 rfl ?_
  refine mm_20 (v := .int (f 4)) hS hi_195_1 rfl ?_
  refine am_e3 (ls' := [some (.ref 39), some (.int sf), some (.int w), some (.int (f 4)), none]) hi_195_4 (Nat.le_of_ble_eq_true rfl) rfl ?_
  refine am_e2 (v := 39) hi_195_5 rfl ?_
  refine am_e0 hi_195_6 ?_
  refine am_e32n (as := [.ref 39, .int 60]) (la := [some (.ref 39), some (.int 60)]) (rest := []) hi_195_8 (am_hd0 (M := 195) (by decide) 8) (Nat.le_of_ble_eq_true rfl) (Nat.le_of_ble_eq_true rfl) (show 2 ≤ am_P0.2.2.1 193 from by decide +kernel) rfl (am_recv_ok hS.fs) rfl rfl (ct_enter (d := (d + 1)) hS   (by show (0 : Int) ≤ (f 4).toInt; omega) (by show (f 0).toInt ≤ (16384 : Int); omega) (by show (0 : Int) ≤ (60 : Int); omega) (by show (0 : Int) ≤ (f 5).toInt; omega) (by show (f 5).toInt ≤ (48 : Int); omega) (by show (0 : Int) ≤ (f 6).toInt; omega)) ?_
  rintro v0 S1 (⟨z2, y3, hv4, hS5, h6, h7, h8, h9⟩ | ⟨a11, b12, hv13, hS14, h15⟩)
  · subst hv4
    have h6_ : z2.toInt = (f 4).toInt + 1 := h6
    have h7_ : (f 4).toInt < (f 0).toInt := h7
    have h8_ : y3.toInt = (f 5).toInt + 1 := h8
    have h9_ : y3.toInt ≤ (48 : Int) := h9
    replace hS5 : MS S0 S1 (upd (upd f 4 z2) 5 y3) g := hS5
    have hR17 : RJ (upd (upd f 4 z2) 5 y3) g gs bc fl fk pj := RJ.at hR (by show (f 4).toInt ≤ z2.toInt; omega)
    show am_E _ _ _ _ [some (.ref 39), some (.int sf), some (.int w), some (.int (f 4)), none] [.int 1] _ _
    refine am_e12t hi_195_11 (by decide) ?_
    refine am_e2 (v := 39) hi_195_15 rfl ?_
    refine mm_20 (v := .int (f 53)) hS5 hi_195_16 rfl ?_
    refine am_e3 (ls' := [some (.ref 39), some (.int sf), some (.int w), some (.int (f 4)), some (.int (f 53))]) hi_195_19 (Nat.le_of_ble_eq_true rfl) rfl ?_
    refine am_e2 (v := 39) hi_195_21 rfl ?_
    refine am_e7 hi_195_22 ?_
    refine mm_20 (v := .int (f 53)) hS5 hi_195_23 rfl ?_
    refine am_e0 hi_195_26 ?_
    obtain ⟨z18, hz18, tz18⟩ := am_addI (x := f 53) (y := 1) (m := (f 53).toInt) (n := (1 : Int)) rfl (by decide) (by omega) (by omega)
    refine am_e10 (z := z18) hi_195_27 hz18 ?_
    refine mm_21 (v := z18) hS5 hi_195_28 rfl (Nat.le_of_ble_eq_true rfl) ms_53 ?_
    intro S19 hS20
    refine am_e2 (v := 39) hi_195_31 rfl ?_
    refine mm_20 (v := .ref 75) hS20 hi_195_32 rfl ?_
    refine am_e1 (v := f 53) hi_195_35 rfl ?_
    refine am_e2 (v := 39) hi_195_37 rfl ?_
    refine mm_20 (v := .ref 58) hS20 hi_195_38 rfl ?_
    refine am_e2 (v := 39) hi_195_41 rfl ?_
    refine mm_20 (v := .int (f 32)) hS20 hi_195_42 rfl ?_
    refine mm_25 hS20 ma_33 hi_195_45 (by decide) (by omega) (by omega) ?_
    show am_E _ _ _ _ [some (.ref 39), some (.int sf), some (.int w), some (.int (f 4)), some (.int (f 53))] [.int (g 33 (f 32).toNatClampNeg), .int (f 53), .ref 75] _ _
    have r21 : 0 ≤ (g 33 (f 32).toNatClampNeg).toInt ∧ (g 33 (f 32).toNatClampNeg).toInt < (f 53).toInt := RJ.fn (i := f 32) hR17 (by omega) (by show (f 32).toInt ≤ (f 32).toInt; omega)
    refine mm_26 hS20 ma_54 hi_195_46 (by decide) (by omega) (by omega) (fun h => nomatch h) ?_
    intro S22 hS23
    refine am_e2 (v := 39) hi_195_47 rfl ?_
    refine mm_20 (v := .ref 80) hS23 hi_195_48 rfl ?_
    refine am_e1 (v := f 53) hi_195_51 rfl ?_
    refine am_e1 (v := w) hi_195_53 rfl ?_
    refine mm_26 hS23 ma_59 hi_195_54 (by decide) (by omega) (by omega) (fun h => nomatch h) ?_
    intro S24 hS25
    refine am_e2 (v := 39) hi_195_55 rfl ?_
    refine mm_20 (v := .ref 76) hS25 hi_195_56 rfl ?_
    refine am_e1 (v := f 53) hi_195_59 rfl ?_
    refine am_e0 hi_195_61 ?_
    refine mm_26 hS25 ma_55 hi_195_62 (by decide) (by omega) (by omega) (fun h => nomatch h) ?_
    intro S26 hS27
    refine am_e2 (v := 39) hi_195_63 rfl ?_
    refine mm_20 (v := .ref 77) hS27 hi_195_64 rfl ?_
    refine am_e1 (v := f 53) hi_195_67 rfl ?_
    refine am_e0 hi_195_69 ?_
    refine mm_26 hS27 ma_56 hi_195_70 (by decide) (by omega) (by omega) (fun h => nomatch h) ?_
    intro S28 hS29
    refine am_e2 (v := 39) hi_195_71 rfl ?_
    refine mm_20 (v := .ref 79) hS29 hi_195_72 rfl ?_
    refine am_e1 (v := f 53) hi_195_75 rfl ?_
    refine am_e0 hi_195_77 ?_
    refine mm_26 hS29 ma_58 hi_195_78 (by decide) (by omega) (by omega) (fun h => nomatch h) ?_
    intro S30 hS31
    refine am_e2 (v := 39) hi_195_79 rfl ?_
    refine mm_20 (v := .ref 81) hS31 hi_195_80 rfl ?_
    refine am_e1 (v := f 53) hi_195_83 rfl ?_
    refine am_e0 hi_195_85 ?_
    refine mm_26 hS31 ma_60 hi_195_86 (by decide) (by omega) (by omega) (fun h => nomatch h) ?_
    intro S32 hS33
    refine am_e2 (v := 39) hi_195_87 rfl ?_
    refine mm_20 (v := .ref 87) hS33 hi_195_88 rfl ?_
    refine am_e1 (v := f 53) hi_195_91 rfl ?_
    refine am_e0 hi_195_93 ?_
    refine mm_26 hS33 ma_67 hi_195_94 (by decide) (by omega) (by omega) (fun h => nomatch h) ?_
    intro S34 hS35
    refine am_e2 (v := 39) hi_195_95 rfl ?_
    refine am_e7 hi_195_96 ?_
    refine mm_20 (v := .int (f 32)) hS35 hi_195_97 rfl ?_
    refine am_e0 hi_195_100 ?_
    obtain ⟨z36, hz36, tz36⟩ := am_addI (x := f 32) (y := 1) (m := (f 32).toInt) (n := (1 : Int)) rfl (by decide) (by omega) (by omega)
    refine am_e10 (z := z36) hi_195_101 hz36 ?_
    refine mm_21 (v := z36) hS35 hi_195_102 rfl (Nat.le_of_ble_eq_true rfl) ms_32 ?_
    intro S37 hS38
    replace hS38 : MS S0 S37 (upd (upd (upd (upd f 4 z2) 5 y3) 32 z36) 53 z18) (upg (upg (upg (upg (upg (upg (upg g 54 (f 53).toNatClampNeg (g 33 (f 32).toNatClampNeg)) 59 (f 53).toNatClampNeg w) 55 (f 53).toNatClampNeg 0) 56 (f 53).toNatClampNeg 0) 58 (f 53).toNatClampNeg 0) 60 (f 53).toNatClampNeg 0) 67 (f 53).toNatClampNeg 0) := hS38
    refine am_e2 (v := 39) hi_195_105 rfl ?_
    refine mm_20 (v := .ref 58) hS38 hi_195_106 rfl ?_
    refine am_e2 (v := 39) hi_195_109 rfl ?_
    refine mm_20 (v := .int z36) hS38 hi_195_110 rfl ?_
    refine am_e1 (v := f 53) hi_195_113 rfl ?_
    refine mm_26 hS38 ma_33 hi_195_115 (by decide) (by omega) (by omega) (fun h => nomatch h) ?_
    intro S39 hS40
    refine am_e2 (v := 39) hi_195_116 rfl ?_
    refine mm_20 (v := .ref 59) hS40 hi_195_117 rfl ?_
    refine am_e2 (v := 39) hi_195_120 rfl ?_
    refine mm_20 (v := .int z36) hS40 hi_195_121 rfl ?_
    refine am_e2 (v := 39) hi_195_124 rfl ?_
    refine mm_20 (v := .int (f 24)) hS40 hi_195_125 rfl ?_
    refine mm_26 hS40 ma_34 hi_195_128 (by decide) (by omega) (by omega) (fun h => nomatch h) ?_
    intro S41 hS42
    refine am_e2 (v := 39) hi_195_129 rfl ?_
    refine mm_20 (v := .ref 60) hS42 hi_195_130 rfl ?_
    refine am_e2 (v := 39) hi_195_133 rfl ?_
    refine mm_20 (v := .int z36) hS42 hi_195_134 rfl ?_
    refine am_e2 (v := 39) hi_195_137 rfl ?_
    refine mm_20 (v := .int (f 44)) hS42 hi_195_138 rfl ?_
    refine mm_26 hS42 ma_35 hi_195_141 (by decide) (by omega) (by omega) (fun h => nomatch h) ?_
    intro S43 hS44
    refine am_e2 (v := 39) hi_195_142 rfl ?_
    refine mm_20 (v := .ref 61) hS44 hi_195_143 rfl ?_
    refine am_e2 (v := 39) hi_195_146 rfl ?_
    refine mm_20 (v := .int z36) hS44 hi_195_147 rfl ?_
    refine am_e2 (v := 39) hi_195_150 rfl ?_
    refine mm_20 (v := .int (f 48)) hS44 hi_195_151 rfl ?_
    refine mm_26 hS44 ma_36 hi_195_154 (by decide) (by omega) (by omega) (fun h => nomatch h) ?_
    intro S45 hS46
    have hR47 : RJ (upd (upd (upd (upd f 4 z2) 5 y3) 32 z36) 53 z18) (upg (upg (upg (upg (upg (upg (upg (upg (upg (upg (upg g 54 (f 53).toNatClampNeg (g 33 (f 32).toNatClampNeg)) 59 (f 53).toNatClampNeg w) 55 (f 53).toNatClampNeg 0) 56 (f 53).toNatClampNeg 0) 58 (f 53).toNatClampNeg 0) 60 (f 53).toNatClampNeg 0) 67 (f 53).toNatClampNeg 0) 33 z36.toNatClampNeg (f 53)) 34 z36.toNatClampNeg (f 24)) 35 z36.toNatClampNeg (f 44)) 36 z36.toNatClampNeg (f 48)) gs bc fl fk pj := rj_body (G := (upg (upg (upg (upg (upg (upg (upg (upg (upg (upg (upg g 54 (f 53).toNatClampNeg (g 33 (f 32).toNatClampNeg)) 59 (f 53).toNatClampNeg w) 55 (f 53).toNatClampNeg 0) 56 (f 53).toNatClampNeg 0) 58 (f 53).toNatClampNeg 0) 60 (f 53).toNatClampNeg 0) 67 (f 53).toNatClampNeg 0) 33 z36.toNatClampNeg (f 53)) 34 z36.toNatClampNeg (f 24)) 35 z36.toNatClampNeg (f 44)) 36 z36.toNatClampNeg (f 48))) hR17 (by show z18.toInt = (f 53).toInt + 1; omega) (by show z36.toInt = (f 32).toInt + 1; omega) (by show 0 ≤ (f 32).toInt; omega) (by show 0 ≤ (f 53).toInt; omega) (by show 0 ≤ (f 24).toInt; omega) (by show 0 ≤ (f 44).toInt; omega) (by show 0 ≤ (f 48).toInt; omega) (by intro j hj; simp only [List.mem_cons, List.not_mem_nil, or_false] at hj; rcases hj with rfl | rfl | rfl | rfl | rfl | rfl | rfl | rfl | rfl | rfl | rfl | rfl | rfl | rfl | rfl | rfl <;> rfl) rfl rfl rfl rfl rfl rfl
    refine am_e2 (v := 39) hi_195_155 rfl ?_
    refine am_e0 hi_195_156 ?_
    refine am_e32n (as := [.ref 39, .int 0]) (la := [some (.ref 39), some (.int 0)]) (rest := []) hi_195_157 (am_hd0 (M := 195) (by decide) 157) (Nat.le_of_ble_eq_true rfl) (Nat.le_of_ble_eq_true rfl) (show 2 ≤ am_P0.2.2.1 177 from by decide +kernel) rfl (am_recv_ok hS46.fs) rfl rfl (ct_beginBlock2 (d := (d + 3)) hS46 hR47 (by decide)  (by show (0 : Int) ≤ (f 37).toInt; omega) (by show (f 37).toInt ≤ (127 : Int); omega) (by show (0 : Int) ≤ (f 24).toInt; omega) (by show (0 : Int) ≤ (f 44).toInt; omega) (by show (f 44).toInt ≤ z2.toInt; omega) (by show (0 : Int) ≤ (f 48).toInt; omega)) ?_
    rintro v48 S49 (⟨z50, g'51, hv52, hS53, hR57, h54, h55, h56⟩)
    subst hv52
    have h54_ : z50.toInt = (f 37).toInt + 1 := h54
    have h55_ : ∀ j, j ∉ [38, 39, 40, 41, 42, 43] → g'51 j = (upg (upg (upg (upg (upg (upg (upg (upg (upg (upg (upg g 54 (f 53).toNatClampNeg (g 33 (f 32).toNatClampNeg)) 59 (f 53).toNatClampNeg w) 55 (f 53).toNatClampNeg 0) 56 (f 53).toNatClampNeg 0) 58 (f 53).toNatClampNeg 0) 60 (f 53).toNatClampNeg 0) 67 (f 53).toNatClampNeg 0) 33 z36.toNatClampNeg (f 53)) 34 z36.toNatClampNeg (f 24)) 35 z36.toNatClampNeg (f 44)) 36 z36.toNatClampNeg (f 48)) j := h55
    have h56_ : g'51 38 = upd ((upg (upg (upg (upg (upg (upg (upg (upg (upg (upg (upg g 54 (f 53).toNatClampNeg (g 33 (f 32).toNatClampNeg)) 59 (f 53).toNatClampNeg w) 55 (f 53).toNatClampNeg 0) 56 (f 53).toNatClampNeg 0) 58 (f 53).toNatClampNeg 0) 60 (f 53).toNatClampNeg 0) 67 (f 53).toNatClampNeg 0) 33 z36.toNatClampNeg (f 53)) 34 z36.toNatClampNeg (f 24)) 35 z36.toNatClampNeg (f 44)) 36 z36.toNatClampNeg (f 48)) 38) (f 37).toNatClampNeg (f 24) := h56
    replace hS53 : MS S0 S49 (upd (upd (upd (upd (upd f 4 z2) 5 y3) 32 z36) 37 z50) 53 z18) g'51 := hS53
    have hR57_ : RJ (upd (upd (upd (upd (upd f 4 z2) 5 y3) 32 z36) 37 z50) 53 z18) g'51 gs ([] :: bc) fl fk pj := hR57
    show am_E _ _ _ _ [some (.ref 39), some (.int sf), some (.int w), some (.int (f 4)), some (.int (f 53))] [] _ _
    refine am_e1 (v := sf) hi_195_160 rfl ?_
    by_cases c58 : sf.toInt = (0 : Int)
    · refine am_e12t hi_195_161 (am_cT (m := sf.toInt) (n := (0 : Int)) rfl (by decide) c58) ?_
      refine am_e2 (v := 39) hi_195_183 rfl ?_
      refine am_e32n (as := [.ref 39]) (la := [some (.ref 39)]) (rest := []) hi_195_184 (am_hd0 (M := 195) (by decide) 184) (Nat.le_of_ble_eq_true rfl) (Nat.le_of_ble_eq_true rfl) (show 1 ≤ am_P0.2.2.1 183 from by decide +kernel) rfl (am_recv_ok hS53.fs) rfl rfl (ct_next (d := (d + 2)) hS53   (by show (0 : Int) ≤ z2.toInt; omega) (by show (f 0).toInt ≤ (16384 : Int); omega)) ?_
      rintro v59 S60 (⟨r61, hv62, hS63, h64⟩)
      subst hv62
      have h64_ : z2.toInt < (f 0).toInt ∨ r61.toInt = (-1 : Int) := h64
      show am_E _ _ _ _ [some (.ref 39), some (.int sf), some (.int w), some (.int (f 4)), some (.int (f 53))] [.int r61] _ _
      refine am_e0 hi_195_187 ?_
      by_cases c66 : r61.toInt = (61 : Int)
      · refine am_e13t hi_195_189 (am_cT (m := r61.toInt) (n := (61 : Int)) rfl (by decide) c66) ?_
        refine am_e2 (v := 39) hi_195_201 rfl ?_
        refine am_e0 hi_195_202 ?_
        refine am_e32n (as := [.ref 39, .int 61]) (la := [some (.ref 39), some (.int 61)]) (rest := []) hi_195_204 (am_hd0 (M := 195) (by decide) 204) (Nat.le_of_ble_eq_true rfl) (Nat.le_of_ble_eq_true rfl) (show 2 ≤ am_P0.2.2.1 199 from by decide +kernel) rfl (am_recv_ok hS63.fs) rfl rfl (ct_leave (d := d) hS63   (by show (0 : Int) ≤ z2.toInt; omega) (by show (f 0).toInt ≤ (16384 : Int); omega) (by show (0 : Int) ≤ (61 : Int); omega) (by show (0 : Int) ≤ y3.toInt; omega) (by show y3.toInt ≤ (48 : Int); omega) (by show (0 : Int) ≤ (f 6).toInt; omega)) ?_
        rintro v67 S68 (⟨z69, y70, hv71, hS72, h73, h74, h75⟩ | ⟨a77, b78, hv79, hS80, h81⟩)
        · subst hv71
          have h73_ : z69.toInt = z2.toInt + 1 := h73
          have h74_ : z2.toInt < (f 0).toInt := h74
          have h75_ : y70.toInt = y3.toInt - 1 := h75
          replace hS72 : MS S0 S68 (upd (upd (upd (upd (upd f 4 z69) 5 y70) 32 z36) 37 z50) 53 z18) g'51 := hS72
          have hR83 : RJ (upd (upd (upd (upd (upd f 4 z69) 5 y70) 32 z36) 37 z50) 53 z18) g'51 gs ([] :: bc) fl fk pj := RJ.at hR57_ (by show z2.toInt ≤ z69.toInt; omega)
          show am_E _ _ _ _ [some (.ref 39), some (.int sf), some (.int w), some (.int (f 4)), some (.int (f 53))] [.int 1] _ _
          refine am_e12t hi_195_207 (by decide) ?_
          refine am_e2 (v := 39) hi_195_211 rfl ?_
          refine am_e0 hi_195_212 ?_
          refine am_e1 (v := f 4) hi_195_214 rfl ?_
          refine am_e0 hi_195_215 ?_
          refine am_e0 hi_195_216 ?_
          refine am_e32n (as := [.ref 39, .int 40, .int (f 4), .int 0, .int 0]) (la := [some (.ref 39), some (.int 40), some (.int (f 4)), some (.int 0), some (.int 0)]) (rest := []) hi_195_217 (am_hd0 (M := 195) (by decide) 217) (Nat.le_of_ble_eq_true rfl) (Nat.le_of_ble_eq_true rfl) (show 5 ≤ am_P0.2.2.1 179 from by decide +kernel) rfl (am_recv_ok hS72.fs) rfl rfl (ct_pile (d := (d + 3)) hS72 hR83 (mj_e_plain (by decide)) (by show (0 : Int) ≤ (f 10).toInt; omega) (by show (f 10).toInt ≤ (65535 : Int); omega)) ?_
          rintro v84 S85 (⟨z86, g'87, hv88, hS89, hR92, h90, h91⟩)
          subst hv88
          have h90_ : z86.toInt = (f 10).toInt + 1 := h90
          have h91_ : ∀ j, j ∉ [11, 12, 13, 14] → g'87 j = g'51 j := h91
          replace hS89 : MS S0 S85 (upd (upd (upd (upd (upd (upd f 4 z69) 5 y70) 10 z86) 32 z36) 37 z50) 53 z18) g'87 := hS89
          have hR92_ : RJ (upd (upd (upd (upd (upd (upd f 4 z69) 5 y70) 10 z86) 32 z36) 37 z50) 53 z18) g'87 (((40 : Int), (f 4).toInt, (0 : Int), (0 : Int), []) :: gs) ([] :: bc) fl fk pj := hR92
          show am_E _ _ _ _ [some (.ref 39), some (.int sf), some (.int w), some (.int (f 4)), some (.int (f 53))] [] _ _
          refine am_e2 (v := 39) hi_195_220 rfl ?_
          refine am_e32w (as := [.ref 39]) (la := [some (.ref 39)]) (rest := []) hi_195_221 (am_hd0 (M := 195) (by decide) 221) (Nat.le_of_ble_eq_true rfl) (Nat.le_of_ble_eq_true rfl) (show 1 ≤ am_P0.2.2.1 178 from by decide +kernel) rfl (am_recv_ok hS89.fs) rfl rfl ?_
          refine am_e2 (v := 39) hi_178_0 rfl ?_
          refine am_e0 hi_178_1 ?_
          refine am_e0 hi_178_2 ?_
          refine am_e0 hi_178_3 ?_
          refine am_e0 hi_178_4 ?_
          refine am_e32n (as := [.ref 39, .int 1, .int 0, .int 0, .int 0]) (la := [some (.ref 39), some (.int 1), some (.int 0), some (.int 0), some (.int 0)]) (rest := []) hi_178_5 (am_hd0 (M := 178) (by decide) 5) (Nat.le_of_ble_eq_true rfl) (Nat.le_of_ble_eq_true rfl) (show 5 ≤ am_P0.2.2.1 179 from by decide +kernel) rfl (am_recv_ok hS89.fs) rfl rfl (ct_pile (d := (d + 2)) hS89 hR92_ (mj_e_plain (by decide)) (by show (0 : Int) ≤ z86.toInt; omega) (by show z86.toInt ≤ (65535 : Int); omega)) ?_
          rintro v93 S94 (⟨z95, g'96, hv97, hS98, hR101, h99, h100⟩)
          subst hv97
          have h99_ : z95.toInt = z86.toInt + 1 := h99
          have h100_ : ∀ j, j ∉ [11, 12, 13, 14] → g'96 j = g'87 j := h100
          replace hS98 : MS S0 S94 (upd (upd (upd (upd (upd (upd f 4 z69) 5 y70) 10 z95) 32 z36) 37 z50) 53 z18) g'96 := hS98
          have hR101_ : RJ (upd (upd (upd (upd (upd (upd f 4 z69) 5 y70) 10 z95) 32 z36) 37 z50) 53 z18) g'96 (((1 : Int), (0 : Int), (0 : Int), (0 : Int), []) :: (((40 : Int), (f 4).toInt, (0 : Int), (0 : Int), []) :: gs)) ([] :: bc) fl fk pj := hR101
          show am_E _ _ _ _ [some (.ref 39)] [] _ _
          refine am_e35 hi_178_8 ?_
          show am_E _ _ _ _ [some (.ref 39), some (.int sf), some (.int w), some (.int (f 4)), some (.int (f 53))] [] _ _
          refine am_e35 hi_195_224 ?_
          exact Or.inl ⟨z69, y70, (f 8), (f 9), z95, (f 24), (f 31), z36, z50, z18, _, rfl, hS98, hR101_, (by show (f 4).toInt + 2 ≤ z69.toInt; omega), (by show z69.toInt ≤ (f 0).toInt; omega), (by show y70.toInt = (f 5).toInt; omega), (by show (f 24).toInt ≤ ((f 24)).toInt; omega), (by show ((f 24)).toInt + (f 4).toInt ≤ (f 24).toInt + z69.toInt; omega), (by show z95.toInt = (f 10).toInt + 2; omega), (by show z36.toInt = (f 32).toInt + 1; omega), (by show z50.toInt = (f 37).toInt + 1; omega), (by show z18.toInt = (f 53).toInt + 1; omega), (fun j hj => ((show ∀ j, j ∉ [11, 12, 13, 14, 25, 26, 27, 28, 29, 30, 33, 34, 35, 36, 38, 39, 40, 41, 42, 43, 54, 55, 56, 58, 59, 60, 67] → g'96 j = g'87 j from fun j hj => h100_ j (fun q => hj (mem_sub (L := [11, 12, 13, 14]) (L' := [11, 12, 13, 14, 25, 26, 27, 28, 29, 30, 33, 34, 35, 36, 38, 39, 40, 41, 42, 43, 54, 55, 56, 58, 59, 60, 67]) (by decide) q))) j hj).trans ((fun j hj => ((show ∀ j, j ∉ [11, 12, 13, 14, 25, 26, 27, 28, 29, 30, 33, 34, 35, 36, 38, 39, 40, 41, 42, 43, 54, 55, 56, 58, 59, 60, 67] → g'87 j = g'51 j from fun j hj => h91_ j (fun q => hj (mem_sub (L := [11, 12, 13, 14]) (L' := [11, 12, 13, 14, 25, 26, 27, 28, 29, 30, 33, 34, 35, 36, 38, 39, 40, 41, 42, 43, 54, 55, 56, 58, 59, 60, 67]) (by decide) q))) j hj).trans ((fun j hj => ((show ∀ j, j ∉ [11, 12, 13, 14, 25, 26, 27, 28, 29, 30, 33, 34, 35, 36, 38, 39, 40, 41, 42, 43, 54, 55, 56, 58, 59, 60, 67] → g'51 j = (upg (upg (upg (upg (upg (upg (upg (upg (upg (upg (upg g 54 (f 53).toNatClampNeg (g 33 (f 32).toNatClampNeg)) 59 (f 53).toNatClampNeg w) 55 (f 53).toNatClampNeg 0) 56 (f 53).toNatClampNeg 0) 58 (f 53).toNatClampNeg 0) 60 (f 53).toNatClampNeg 0) 67 (f 53).toNatClampNeg 0) 33 z36.toNatClampNeg (f 53)) 34 z36.toNatClampNeg (f 24)) 35 z36.toNatClampNeg (f 44)) 36 z36.toNatClampNeg (f 48)) j from fun j hj => h55_ j (fun q => hj (mem_sub (L := [38, 39, 40, 41, 42, 43]) (L' := [11, 12, 13, 14, 25, 26, 27, 28, 29, 30, 33, 34, 35, 36, 38, 39, 40, 41, 42, 43, 54, 55, 56, 58, 59, 60, 67]) (by decide) q))) j hj).trans ((show ∀ j, j ∉ [11, 12, 13, 14, 25, 26, 27, 28, 29, 30, 33, 34, 35, 36, 38, 39, 40, 41, 42, 43, 54, 55, 56, 58, 59, 60, 67] → (upg (upg (upg (upg (upg (upg (upg (upg (upg (upg (upg g 54 (f 53).toNatClampNeg (g 33 (f 32).toNatClampNeg)) 59 (f 53).toNatClampNeg w) 55 (f 53).toNatClampNeg 0) 56 (f 53).toNatClampNeg 0) 58 (f 53).toNatClampNeg 0) 60 (f 53).toNatClampNeg 0) 67 (f 53).toNatClampNeg 0) 33 z36.toNatClampNeg (f 53)) 34 z36.toNatClampNeg (f 24)) 35 z36.toNatClampNeg (f 44)) 36 z36.toNatClampNeg (f 48)) j = g j from by intro j hj; simp only [List.mem_cons, List.not_mem_nil, or_false, not_or] at hj; simp only [upg, hj, if_false]) j hj)) j hj)) j hj)), (Eq.trans (h100_ 34 (by decide)) (Eq.trans (h91_ 34 (by decide)) (Eq.trans (h55_ 34 (by decide)) rfl))), (Eq.trans (h100_ 38 (by decide)) (Eq.trans (h91_ 38 (by decide)) h56_)), (by show (0 : Int) ≤ ((f 8)).toInt; omega)⟩
        · subst hv79
          have h81_ : (0 : Int) ≤ a77.toInt := h81
          replace hS80 : MS S0 S68 (upd (upd (upd (upd (upd (upd (upd (upd f 4 z2) 5 y3) 6 a77) 7 b78) 10 0) 32 z36) 37 z50) 53 z18) g'51 := hS80
          show am_E _ _ _ _ [some (.ref 39), some (.int sf), some (.int w), some (.int (f 4)), some (.int (f 53))] [.int 0] _ _
          refine am_e12f hi_195_207 (by decide) ?_
          refine am_e35 hi_195_210 ?_
          have hRc := rj_clear0 hR57_
          exact Or.inr (Or.inr (⟨z2, y3, a77, b78, (f 8), (f 9), (f 24), (f 31), z36, z50, z18, _, rfl, hS80, hRc, (by show (f 4).toInt ≤ z2.toInt; omega), (by show z2.toInt ≤ (f 0).toInt; omega), (by show z36.toInt = (f 32).toInt + 1; omega), (by show z50.toInt = (f 37).toInt + 1; omega), (by show z18.toInt = (f 53).toInt + 1; omega), (fun j hj => ((show ∀ j, j ∉ [11, 12, 13, 14, 25, 26, 27, 28, 29, 30, 33, 34, 35, 36, 38, 39, 40, 41, 42, 43, 54, 55, 56, 58, 59, 60, 67] → g'51 j = (upg (upg (upg (upg (upg (upg (upg (upg (upg (upg (upg g 54 (f 53).toNatClampNeg (g 33 (f 32).toNatClampNeg)) 59 (f 53).toNatClampNeg w) 55 (f 53).toNatClampNeg 0) 56 (f 53).toNatClampNeg 0) 58 (f 53).toNatClampNeg 0) 60 (f 53).toNatClampNeg 0) 67 (f 53).toNatClampNeg 0) 33 z36.toNatClampNeg (f 53)) 34 z36.toNatClampNeg (f 24)) 35 z36.toNatClampNeg (f 44)) 36 z36.toNatClampNeg (f 48)) j from fun j hj => h55_ j (fun q => hj (mem_sub (L := [38, 39, 40, 41, 42, 43]) (L' := [11, 12, 13, 14, 25, 26, 27, 28, 29, 30, 33, 34, 35, 36, 38, 39, 40, 41, 42, 43, 54, 55, 56, 58, 59, 60, 67]) (by decide) q))) j hj).trans ((show ∀ j, j ∉ [11, 12, 13, 14, 25, 26, 27, 28, 29, 30, 33, 34, 35, 36, 38, 39, 40, 41, 42, 43, 54, 55, 56, 58, 59, 60, 67] → (upg (upg (upg (upg (upg (upg (upg (upg (upg (upg (upg g 54 (f 53).toNatClampNeg (g 33 (f 32).toNatClampNeg)) 59 (f 53).toNatClampNeg w) 55 (f 53).toNatClampNeg 0) 56 (f 53).toNatClampNeg 0) 58 (f 53).toNatClampNeg 0) 60 (f 53).toNatClampNeg 0) 67 (f 53).toNatClampNeg 0) 33 z36.toNatClampNeg (f 53)) 34 z36.toNatClampNeg (f 24)) 35 z36.toNatClampNeg (f 44)) 36 z36.toNatClampNeg (f 48)) j = g j from by intro j hj; simp only [List.mem_cons, List.not_mem_nil, or_false, not_or] at hj; simp only [upg, hj, if_false]) j hj)), (by show (0 : Int) ≤ a77.toInt; omega), (by show (0 : Int) ≤ ((f 8)).toInt; omega)⟩))
      · refine am_e13f hi_195_189 (am_cF (m := r61.toInt) (n := (61 : Int)) rfl (by decide) c66) ?_
        refine am_e2 (v := 39) hi_195_192 rfl ?_
        refine am_e1 (v := f 53) hi_195_193 rfl ?_
        refine am_e32n (as := [.ref 39, .int (f 53)]) (la := [some (.ref 39), some (.int (f 53)), none]) (rest := []) hi_195_195 (am_hd0 (M := 195) (by decide) 195) (Nat.le_of_ble_eq_true rfl) (Nat.le_of_ble_eq_true rfl) (show 2 ≤ am_P0.2.2.1 198 from by decide +kernel) rfl (am_recv_ok hS63.fs) rfl rfl (ct_parameters (d := (d + 1)) hS63 hR57_  (by show (0 : Int) ≤ z36.toInt; omega) (by show z36.toInt ≤ (63 : Int); omega) (by show z18.toInt ≤ (4096 : Int); omega) (by show (0 : Int) ≤ z2.toInt; omega) (by show (f 0).toInt ≤ (16384 : Int); omega) (by show z2.toInt ≤ (f 0).toInt; omega) (by show (f 0).toInt ≤ (512 : Int); omega) (by show (0 : Int) ≤ (f 24).toInt; omega) (by show (f 24).toInt ≤ (8000 : Int); omega) (by show (0 : Int) ≤ (f 53).toInt; omega) (by show (f 53).toInt ≤ (4095 : Int); omega) (by show (0 : Int) ≤ (f 6).toInt; omega) (by show (0 : Int) ≤ (f 8).toInt; omega)) ?_
        rintro v102 S103 (⟨z104, a105, b106, l107, y108, g'109, hv110, hS111, hR118, h112, h113, h114, h115, h116, h117⟩ | ⟨z119, u120, v_121, a122, b123, l124, y125, g'126, hv127, hS128, hR136, h129, h130, h131, h132, h133, h134, h135⟩)
        · subst hv110
          have h112_ : z2.toInt ≤ z104.toInt := h112
          have h113_ : z104.toInt ≤ (f 0).toInt := h113
          have h114_ : (f 24).toInt ≤ l107.toInt := h114
          have h115_ : l107.toInt + z2.toInt ≤ (f 24).toInt + z104.toInt := h115
          have h116_ : ∀ j, j ∉ [25, 26, 27, 28, 29, 30, 55, 56, 58] → g'109 j = g'51 j := h116
          have h117_ : (0 : Int) ≤ a105.toInt := h117
          replace hS111 : MS S0 S103 (upd (upd (upd (upd (upd (upd (upd (upd (upd f 4 z104) 5 y3) 8 a105) 9 b106) 24 l107) 31 y108) 32 z36) 37 z50) 53 z18) g'109 := hS111
          have hR118_ : RJ (upd (upd (upd (upd (upd (upd (upd (upd (upd f 4 z104) 5 y3) 8 a105) 9 b106) 24 l107) 31 y108) 32 z36) 37 z50) 53 z18) g'109 gs ([] :: bc) fl fk pj := hR118
          show am_E _ _ _ _ [some (.ref 39), some (.int sf), some (.int w), some (.int (f 4)), some (.int (f 53))] [.int 1] _ _
          refine am_e12f hi_195_198 (by decide) ?_
          refine am_e2 (v := 39) hi_195_201 rfl ?_
          refine am_e0 hi_195_202 ?_
          refine am_e32n (as := [.ref 39, .int 61]) (la := [some (.ref 39), some (.int 61)]) (rest := []) hi_195_204 (am_hd0 (M := 195) (by decide) 204) (Nat.le_of_ble_eq_true rfl) (Nat.le_of_ble_eq_true rfl) (show 2 ≤ am_P0.2.2.1 199 from by decide +kernel) rfl (am_recv_ok hS111.fs) rfl rfl (ct_leave (d := d) hS111   (by show (0 : Int) ≤ z104.toInt; omega) (by show (f 0).toInt ≤ (16384 : Int); omega) (by show (0 : Int) ≤ (61 : Int); omega) (by show (0 : Int) ≤ y3.toInt; omega) (by show y3.toInt ≤ (48 : Int); omega) (by show (0 : Int) ≤ (f 6).toInt; omega)) ?_
          rintro v137 S138 (⟨z139, y140, hv141, hS142, h143, h144, h145⟩ | ⟨a147, b148, hv149, hS150, h151⟩)
          · subst hv141
            have h143_ : z139.toInt = z104.toInt + 1 := h143
            have h144_ : z104.toInt < (f 0).toInt := h144
            have h145_ : y140.toInt = y3.toInt - 1 := h145
            replace hS142 : MS S0 S138 (upd (upd (upd (upd (upd (upd (upd (upd (upd f 4 z139) 5 y140) 8 a105) 9 b106) 24 l107) 31 y108) 32 z36) 37 z50) 53 z18) g'109 := hS142
            have hR153 : RJ (upd (upd (upd (upd (upd (upd (upd (upd (upd f 4 z139) 5 y140) 8 a105) 9 b106) 24 l107) 31 y108) 32 z36) 37 z50) 53 z18) g'109 gs ([] :: bc) fl fk pj := RJ.at hR118_ (by show z104.toInt ≤ z139.toInt; omega)
            show am_E _ _ _ _ [some (.ref 39), some (.int sf), some (.int w), some (.int (f 4)), some (.int (f 53))] [.int 1] _ _
            refine am_e12t hi_195_207 (by decide) ?_
            refine am_e2 (v := 39) hi_195_211 rfl ?_
            refine am_e0 hi_195_212 ?_
            refine am_e1 (v := f 4) hi_195_214 rfl ?_
            refine am_e0 hi_195_215 ?_
            refine am_e0 hi_195_216 ?_
            refine am_e32n (as := [.ref 39, .int 40, .int (f 4), .int 0, .int 0]) (la := [some (.ref 39), some (.int 40), some (.int (f 4)), some (.int 0), some (.int 0)]) (rest := []) hi_195_217 (am_hd0 (M := 195) (by decide) 217) (Nat.le_of_ble_eq_true rfl) (Nat.le_of_ble_eq_true rfl) (show 5 ≤ am_P0.2.2.1 179 from by decide +kernel) rfl (am_recv_ok hS142.fs) rfl rfl (ct_pile (d := (d + 3)) hS142 hR153 (mj_e_plain (by decide)) (by show (0 : Int) ≤ (f 10).toInt; omega) (by show (f 10).toInt ≤ (65535 : Int); omega)) ?_
            rintro v154 S155 (⟨z156, g'157, hv158, hS159, hR162, h160, h161⟩)
            subst hv158
            have h160_ : z156.toInt = (f 10).toInt + 1 := h160
            have h161_ : ∀ j, j ∉ [11, 12, 13, 14] → g'157 j = g'109 j := h161
            replace hS159 : MS S0 S155 (upd (upd (upd (upd (upd (upd (upd (upd (upd (upd f 4 z139) 5 y140) 8 a105) 9 b106) 10 z156) 24 l107) 31 y108) 32 z36) 37 z50) 53 z18) g'157 := hS159
            have hR162_ : RJ (upd (upd (upd (upd (upd (upd (upd (upd (upd (upd f 4 z139) 5 y140) 8 a105) 9 b106) 10 z156) 24 l107) 31 y108) 32 z36) 37 z50) 53 z18) g'157 (((40 : Int), (f 4).toInt, (0 : Int), (0 : Int), []) :: gs) ([] :: bc) fl fk pj := hR162
            show am_E _ _ _ _ [some (.ref 39), some (.int sf), some (.int w), some (.int (f 4)), some (.int (f 53))] [] _ _
            refine am_e2 (v := 39) hi_195_220 rfl ?_
            refine am_e32w (as := [.ref 39]) (la := [some (.ref 39)]) (rest := []) hi_195_221 (am_hd0 (M := 195) (by decide) 221) (Nat.le_of_ble_eq_true rfl) (Nat.le_of_ble_eq_true rfl) (show 1 ≤ am_P0.2.2.1 178 from by decide +kernel) rfl (am_recv_ok hS159.fs) rfl rfl ?_
            refine am_e2 (v := 39) hi_178_0 rfl ?_
            refine am_e0 hi_178_1 ?_
            refine am_e0 hi_178_2 ?_
            refine am_e0 hi_178_3 ?_
            refine am_e0 hi_178_4 ?_
            refine am_e32n (as := [.ref 39, .int 1, .int 0, .int 0, .int 0]) (la := [some (.ref 39), some (.int 1), some (.int 0), some (.int 0), some (.int 0)]) (rest := []) hi_178_5 (am_hd0 (M := 178) (by decide) 5) (Nat.le_of_ble_eq_true rfl) (Nat.le_of_ble_eq_true rfl) (show 5 ≤ am_P0.2.2.1 179 from by decide +kernel) rfl (am_recv_ok hS159.fs) rfl rfl (ct_pile (d := (d + 2)) hS159 hR162_ (mj_e_plain (by decide)) (by show (0 : Int) ≤ z156.toInt; omega) (by show z156.toInt ≤ (65535 : Int); omega)) ?_
            rintro v163 S164 (⟨z165, g'166, hv167, hS168, hR171, h169, h170⟩)
            subst hv167
            have h169_ : z165.toInt = z156.toInt + 1 := h169
            have h170_ : ∀ j, j ∉ [11, 12, 13, 14] → g'166 j = g'157 j := h170
            replace hS168 : MS S0 S164 (upd (upd (upd (upd (upd (upd (upd (upd (upd (upd f 4 z139) 5 y140) 8 a105) 9 b106) 10 z165) 24 l107) 31 y108) 32 z36) 37 z50) 53 z18) g'166 := hS168
            have hR171_ : RJ (upd (upd (upd (upd (upd (upd (upd (upd (upd (upd f 4 z139) 5 y140) 8 a105) 9 b106) 10 z165) 24 l107) 31 y108) 32 z36) 37 z50) 53 z18) g'166 (((1 : Int), (0 : Int), (0 : Int), (0 : Int), []) :: (((40 : Int), (f 4).toInt, (0 : Int), (0 : Int), []) :: gs)) ([] :: bc) fl fk pj := hR171
            show am_E _ _ _ _ [some (.ref 39)] [] _ _
            refine am_e35 hi_178_8 ?_
            show am_E _ _ _ _ [some (.ref 39), some (.int sf), some (.int w), some (.int (f 4)), some (.int (f 53))] [] _ _
            refine am_e35 hi_195_224 ?_
            exact Or.inl ⟨z139, y140, a105, b106, z165, l107, y108, z36, z50, z18, _, rfl, hS168, hR171_, (by show (f 4).toInt + 2 ≤ z139.toInt; omega), (by show z139.toInt ≤ (f 0).toInt; omega), (by show y140.toInt = (f 5).toInt; omega), (by show (f 24).toInt ≤ l107.toInt; omega), (by show l107.toInt + (f 4).toInt ≤ (f 24).toInt + z139.toInt; omega), (by show z165.toInt = (f 10).toInt + 2; omega), (by show z36.toInt = (f 32).toInt + 1; omega), (by show z50.toInt = (f 37).toInt + 1; omega), (by show z18.toInt = (f 53).toInt + 1; omega), (fun j hj => ((show ∀ j, j ∉ [11, 12, 13, 14, 25, 26, 27, 28, 29, 30, 33, 34, 35, 36, 38, 39, 40, 41, 42, 43, 54, 55, 56, 58, 59, 60, 67] → g'166 j = g'157 j from fun j hj => h170_ j (fun q => hj (mem_sub (L := [11, 12, 13, 14]) (L' := [11, 12, 13, 14, 25, 26, 27, 28, 29, 30, 33, 34, 35, 36, 38, 39, 40, 41, 42, 43, 54, 55, 56, 58, 59, 60, 67]) (by decide) q))) j hj).trans ((fun j hj => ((show ∀ j, j ∉ [11, 12, 13, 14, 25, 26, 27, 28, 29, 30, 33, 34, 35, 36, 38, 39, 40, 41, 42, 43, 54, 55, 56, 58, 59, 60, 67] → g'157 j = g'109 j from fun j hj => h161_ j (fun q => hj (mem_sub (L := [11, 12, 13, 14]) (L' := [11, 12, 13, 14, 25, 26, 27, 28, 29, 30, 33, 34, 35, 36, 38, 39, 40, 41, 42, 43, 54, 55, 56, 58, 59, 60, 67]) (by decide) q))) j hj).trans ((fun j hj => ((show ∀ j, j ∉ [11, 12, 13, 14, 25, 26, 27, 28, 29, 30, 33, 34, 35, 36, 38, 39, 40, 41, 42, 43, 54, 55, 56, 58, 59, 60, 67] → g'109 j = g'51 j from fun j hj => h116_ j (fun q => hj (mem_sub (L := [25, 26, 27, 28, 29, 30, 55, 56, 58]) (L' := [11, 12, 13, 14, 25, 26, 27, 28, 29, 30, 33, 34, 35, 36, 38, 39, 40, 41, 42, 43, 54, 55, 56, 58, 59, 60, 67]) (by decide) q))) j hj).trans ((fun j hj => ((show ∀ j, j ∉ [11, 12, 13, 14, 25, 26, 27, 28, 29, 30, 33, 34, 35, 36, 38, 39, 40, 41, 42, 43, 54, 55, 56, 58, 59, 60, 67] → g'51 j = (upg (upg (upg (upg (upg (upg (upg (upg (upg (upg (upg g 54 (f 53).toNatClampNeg (g 33 (f 32).toNatClampNeg)) 59 (f 53).toNatClampNeg w) 55 (f 53).toNatClampNeg 0) 56 (f 53).toNatClampNeg 0) 58 (f 53).toNatClampNeg 0) 60 (f 53).toNatClampNeg 0) 67 (f 53).toNatClampNeg 0) 33 z36.toNatClampNeg (f 53)) 34 z36.toNatClampNeg (f 24)) 35 z36.toNatClampNeg (f 44)) 36 z36.toNatClampNeg (f 48)) j from fun j hj => h55_ j (fun q => hj (mem_sub (L := [38, 39, 40, 41, 42, 43]) (L' := [11, 12, 13, 14, 25, 26, 27, 28, 29, 30, 33, 34, 35, 36, 38, 39, 40, 41, 42, 43, 54, 55, 56, 58, 59, 60, 67]) (by decide) q))) j hj).trans ((show ∀ j, j ∉ [11, 12, 13, 14, 25, 26, 27, 28, 29, 30, 33, 34, 35, 36, 38, 39, 40, 41, 42, 43, 54, 55, 56, 58, 59, 60, 67] → (upg (upg (upg (upg (upg (upg (upg (upg (upg (upg (upg g 54 (f 53).toNatClampNeg (g 33 (f 32).toNatClampNeg)) 59 (f 53).toNatClampNeg w) 55 (f 53).toNatClampNeg 0) 56 (f 53).toNatClampNeg 0) 58 (f 53).toNatClampNeg 0) 60 (f 53).toNatClampNeg 0) 67 (f 53).toNatClampNeg 0) 33 z36.toNatClampNeg (f 53)) 34 z36.toNatClampNeg (f 24)) 35 z36.toNatClampNeg (f 44)) 36 z36.toNatClampNeg (f 48)) j = g j from by intro j hj; simp only [List.mem_cons, List.not_mem_nil, or_false, not_or] at hj; simp only [upg, hj, if_false]) j hj)) j hj)) j hj)) j hj)), (Eq.trans (h170_ 34 (by decide)) (Eq.trans (h161_ 34 (by decide)) (Eq.trans (h116_ 34 (by decide)) (Eq.trans (h55_ 34 (by decide)) rfl)))), (Eq.trans (h170_ 38 (by decide)) (Eq.trans (h161_ 38 (by decide)) (Eq.trans (h116_ 38 (by decide)) h56_))), (by show (0 : Int) ≤ a105.toInt; omega)⟩
          · subst hv149
            have h151_ : (0 : Int) ≤ a147.toInt := h151
            replace hS150 : MS S0 S138 (upd (upd (upd (upd (upd (upd (upd (upd (upd (upd (upd (upd f 4 z104) 5 y3) 6 a147) 7 b148) 8 a105) 9 b106) 10 0) 24 l107) 31 y108) 32 z36) 37 z50) 53 z18) g'109 := hS150
            show am_E _ _ _ _ [some (.ref 39), some (.int sf), some (.int w), some (.int (f 4)), some (.int (f 53))] [.int 0] _ _
            refine am_e12f hi_195_207 (by decide) ?_
            refine am_e35 hi_195_210 ?_
            have hRc := rj_clear0 hR118_
            exact Or.inr (Or.inr (⟨z104, y3, a147, b148, a105, b106, l107, y108, z36, z50, z18, _, rfl, hS150, hRc, (by show (f 4).toInt ≤ z104.toInt; omega), (by show z104.toInt ≤ (f 0).toInt; omega), (by show z36.toInt = (f 32).toInt + 1; omega), (by show z50.toInt = (f 37).toInt + 1; omega), (by show z18.toInt = (f 53).toInt + 1; omega), (fun j hj => ((show ∀ j, j ∉ [11, 12, 13, 14, 25, 26, 27, 28, 29, 30, 33, 34, 35, 36, 38, 39, 40, 41, 42, 43, 54, 55, 56, 58, 59, 60, 67] → g'109 j = g'51 j from fun j hj => h116_ j (fun q => hj (mem_sub (L := [25, 26, 27, 28, 29, 30, 55, 56, 58]) (L' := [11, 12, 13, 14, 25, 26, 27, 28, 29, 30, 33, 34, 35, 36, 38, 39, 40, 41, 42, 43, 54, 55, 56, 58, 59, 60, 67]) (by decide) q))) j hj).trans ((fun j hj => ((show ∀ j, j ∉ [11, 12, 13, 14, 25, 26, 27, 28, 29, 30, 33, 34, 35, 36, 38, 39, 40, 41, 42, 43, 54, 55, 56, 58, 59, 60, 67] → g'51 j = (upg (upg (upg (upg (upg (upg (upg (upg (upg (upg (upg g 54 (f 53).toNatClampNeg (g 33 (f 32).toNatClampNeg)) 59 (f 53).toNatClampNeg w) 55 (f 53).toNatClampNeg 0) 56 (f 53).toNatClampNeg 0) 58 (f 53).toNatClampNeg 0) 60 (f 53).toNatClampNeg 0) 67 (f 53).toNatClampNeg 0) 33 z36.toNatClampNeg (f 53)) 34 z36.toNatClampNeg (f 24)) 35 z36.toNatClampNeg (f 44)) 36 z36.toNatClampNeg (f 48)) j from fun j hj => h55_ j (fun q => hj (mem_sub (L := [38, 39, 40, 41, 42, 43]) (L' := [11, 12, 13, 14, 25, 26, 27, 28, 29, 30, 33, 34, 35, 36, 38, 39, 40, 41, 42, 43, 54, 55, 56, 58, 59, 60, 67]) (by decide) q))) j hj).trans ((show ∀ j, j ∉ [11, 12, 13, 14, 25, 26, 27, 28, 29, 30, 33, 34, 35, 36, 38, 39, 40, 41, 42, 43, 54, 55, 56, 58, 59, 60, 67] → (upg (upg (upg (upg (upg (upg (upg (upg (upg (upg (upg g 54 (f 53).toNatClampNeg (g 33 (f 32).toNatClampNeg)) 59 (f 53).toNatClampNeg w) 55 (f 53).toNatClampNeg 0) 56 (f 53).toNatClampNeg 0) 58 (f 53).toNatClampNeg 0) 60 (f 53).toNatClampNeg 0) 67 (f 53).toNatClampNeg 0) 33 z36.toNatClampNeg (f 53)) 34 z36.toNatClampNeg (f 24)) 35 z36.toNatClampNeg (f 44)) 36 z36.toNatClampNeg (f 48)) j = g j from by intro j hj; simp only [List.mem_cons, List.not_mem_nil, or_false, not_or] at hj; simp only [upg, hj, if_false]) j hj)) j hj)), (by show (0 : Int) ≤ a147.toInt; omega), (by show (0 : Int) ≤ a105.toInt; omega)⟩))
        · subst hv127
          have h129_ : z2.toInt ≤ z119.toInt := h129
          have h130_ : z119.toInt ≤ (f 0).toInt := h130
          have h131_ : (f 24).toInt ≤ l124.toInt := h131
          have h132_ : l124.toInt + z2.toInt ≤ (f 24).toInt + z119.toInt := h132
          have h133_ : ∀ j, j ∉ [25, 26, 27, 28, 29, 30, 55, 56, 58] → g'126 j = g'51 j := h133
          have h134_ : (0 : Int) ≤ u120.toInt := h134
          have h135_ : (0 : Int) ≤ a122.toInt := h135
          replace hS128 : MS S0 S103 (upd (upd (upd (upd (upd (upd (upd (upd (upd (upd (upd (upd f 4 z119) 5 y3) 6 u120) 7 v_121) 8 a122) 9 b123) 10 0) 24 l124) 31 y125) 32 z36) 37 z50) 53 z18) g'126 := hS128
          have hR136_ : RJ (upd (upd (upd (upd (upd (upd (upd (upd (upd (upd (upd (upd f 4 z119) 5 y3) 6 u120) 7 v_121) 8 a122) 9 b123) 10 0) 24 l124) 31 y125) 32 z36) 37 z50) 53 z18) g'126 [] ([] :: bc) [] 0 [] := hR136
          show am_E _ _ _ _ [some (.ref 39), some (.int sf), some (.int w), some (.int (f 4)), some (.int (f 53))] [.int 0] _ _
          refine am_e12t hi_195_198 (by decide) ?_
          refine am_e35 hi_195_224 ?_
          exact Or.inr (Or.inr (⟨z119, y3, u120, v_121, a122, b123, l124, y125, z36, z50, z18, _, rfl, hS128, hR136_, (by show (f 4).toInt ≤ z119.toInt; omega), (by show z119.toInt ≤ (f 0).toInt; omega), (by show z36.toInt = (f 32).toInt + 1; omega), (by show z50.toInt = (f 37).toInt + 1; omega), (by show z18.toInt = (f 53).toInt + 1; omega), (fun j hj => ((show ∀ j, j ∉ [11, 12, 13, 14, 25, 26, 27, 28, 29, 30, 33, 34, 35, 36, 38, 39, 40, 41, 42, 43, 54, 55, 56, 58, 59, 60, 67] → g'126 j = g'51 j from fun j hj => h133_ j (fun q => hj (mem_sub (L := [25, 26, 27, 28, 29, 30, 55, 56, 58]) (L' := [11, 12, 13, 14, 25, 26, 27, 28, 29, 30, 33, 34, 35, 36, 38, 39, 40, 41, 42, 43, 54, 55, 56, 58, 59, 60, 67]) (by decide) q))) j hj).trans ((fun j hj => ((show ∀ j, j ∉ [11, 12, 13, 14, 25, 26, 27, 28, 29, 30, 33, 34, 35, 36, 38, 39, 40, 41, 42, 43, 54, 55, 56, 58, 59, 60, 67] → g'51 j = (upg (upg (upg (upg (upg (upg (upg (upg (upg (upg (upg g 54 (f 53).toNatClampNeg (g 33 (f 32).toNatClampNeg)) 59 (f 53).toNatClampNeg w) 55 (f 53).toNatClampNeg 0) 56 (f 53).toNatClampNeg 0) 58 (f 53).toNatClampNeg 0) 60 (f 53).toNatClampNeg 0) 67 (f 53).toNatClampNeg 0) 33 z36.toNatClampNeg (f 53)) 34 z36.toNatClampNeg (f 24)) 35 z36.toNatClampNeg (f 44)) 36 z36.toNatClampNeg (f 48)) j from fun j hj => h55_ j (fun q => hj (mem_sub (L := [38, 39, 40, 41, 42, 43]) (L' := [11, 12, 13, 14, 25, 26, 27, 28, 29, 30, 33, 34, 35, 36, 38, 39, 40, 41, 42, 43, 54, 55, 56, 58, 59, 60, 67]) (by decide) q))) j hj).trans ((show ∀ j, j ∉ [11, 12, 13, 14, 25, 26, 27, 28, 29, 30, 33, 34, 35, 36, 38, 39, 40, 41, 42, 43, 54, 55, 56, 58, 59, 60, 67] → (upg (upg (upg (upg (upg (upg (upg (upg (upg (upg (upg g 54 (f 53).toNatClampNeg (g 33 (f 32).toNatClampNeg)) 59 (f 53).toNatClampNeg w) 55 (f 53).toNatClampNeg 0) 56 (f 53).toNatClampNeg 0) 58 (f 53).toNatClampNeg 0) 60 (f 53).toNatClampNeg 0) 67 (f 53).toNatClampNeg 0) 33 z36.toNatClampNeg (f 53)) 34 z36.toNatClampNeg (f 24)) 35 z36.toNatClampNeg (f 44)) 36 z36.toNatClampNeg (f 48)) j = g j from by intro j hj; simp only [List.mem_cons, List.not_mem_nil, or_false, not_or] at hj; simp only [upg, hj, if_false]) j hj)) j hj)), (by show (0 : Int) ≤ u120.toInt; omega), (by show (0 : Int) ≤ a122.toInt; omega)⟩))
    · refine am_e12f hi_195_161 (am_cF (m := sf.toInt) (n := (0 : Int)) rfl (by decide) c58) ?_
      refine am_e2 (v := 39) hi_195_164 rfl ?_
      refine mm_20 (v := .ref 76) hS53 hi_195_165 rfl ?_
      refine am_e1 (v := f 53) hi_195_168 rfl ?_
      refine am_e8 hi_195_170 ?_
      refine mm_25 hS53 ma_55 hi_195_171 (by decide) (by omega) (by omega) ?_
      show am_E _ _ _ _ [some (.ref 39), some (.int sf), some (.int w), some (.int (f 4)), some (.int (f 53))] [.int (g'51 55 (f 53).toNatClampNeg), .int (f 53), .ref 76] _ _
      refine am_e0 hi_195_172 ?_
      obtain ⟨z172, hz172⟩ : ∃ q__, am_bin 0 (g'51 55 (f 53).toNatClampNeg) 1 = q__ := ⟨_, rfl⟩
      refine am_e10 (z := z172) hi_195_173 hz172 ?_
      refine mm_26 hS53 ma_55 hi_195_174 (by decide) (by omega) (by omega) (fun h => nomatch h) ?_
      intro S173 hS174
      refine am_e2 (v := 39) hi_195_175 rfl ?_
      refine am_e0 hi_195_176 ?_
      refine am_e0 hi_195_177 ?_
      refine am_e0 hi_195_178 ?_
      refine am_e1 (v := f 4) hi_195_179 rfl ?_
      refine am_e32n (as := [.ref 39, .int (-1), .int 0, .int 0, .int (f 4)]) (la := [some (.ref 39), some (.int (-1)), some (.int 0), some (.int 0), some (.int (f 4)), none]) (rest := []) hi_195_180 (am_hd0 (M := 195) (by decide) 180) (Nat.le_of_ble_eq_true rfl) (Nat.le_of_ble_eq_true rfl) (show 5 ≤ am_P0.2.2.1 196 from by decide +kernel) rfl (am_recv_ok hS174.fs) rfl rfl (ct_declare (d := (d + 2)) hS174 hR57_ (by decide) (by decide)  (by show (0 : Int) ≤ z36.toInt; omega) (by show z36.toInt ≤ (63 : Int); omega) (by show z18.toInt ≤ (4096 : Int); omega) (by show (0 : Int) ≤ (f 24).toInt; omega) (by show (f 24).toInt ≤ (16383 : Int); omega) (by show (0 : Int) ≤ (f 8).toInt; omega)) ?_
      rintro v175 S176 (⟨a177, b178, z179, y180, g'181, hv182, hS183, hR187, h184, h185, h186⟩)
      subst hv182
      have h184_ : z179.toInt = (f 24).toInt + 1 := h184
      have h185_ : ∀ j, j ∉ [25, 26, 27, 28, 29, 30, 58] → g'181 j = (upg g'51 55 (f 53).toNatClampNeg z172) j := h185
      have h186_ : (0 : Int) ≤ a177.toInt := h186
      replace hS183 : MS S0 S176 (upd (upd (upd (upd (upd (upd (upd (upd (upd f 4 z2) 5 y3) 8 a177) 9 b178) 24 z179) 31 y180) 32 z36) 37 z50) 53 z18) g'181 := hS183
      have hR187_ : RJ (upd (upd (upd (upd (upd (upd (upd (upd (upd f 4 z2) 5 y3) 8 a177) 9 b178) 24 z179) 31 y180) 32 z36) 37 z50) 53 z18) g'181 gs ([] :: bc) fl fk pj := hR187
      show am_E _ _ _ _ [some (.ref 39), some (.int sf), some (.int w), some (.int (f 4)), some (.int (f 53))] [] _ _
      refine am_e2 (v := 39) hi_195_183 rfl ?_
      refine am_e32n (as := [.ref 39]) (la := [some (.ref 39)]) (rest := []) hi_195_184 (am_hd0 (M := 195) (by decide) 184) (Nat.le_of_ble_eq_true rfl) (Nat.le_of_ble_eq_true rfl) (show 1 ≤ am_P0.2.2.1 183 from by decide +kernel) rfl (am_recv_ok hS183.fs) rfl rfl (ct_next (d := (d + 2)) hS183   (by show (0 : Int) ≤ z2.toInt; omega) (by show (f 0).toInt ≤ (16384 : Int); omega)) ?_
      rintro v188 S189 (⟨r190, hv191, hS192, h193⟩)
      subst hv191
      have h193_ : z2.toInt < (f 0).toInt ∨ r190.toInt = (-1 : Int) := h193
      show am_E _ _ _ _ [some (.ref 39), some (.int sf), some (.int w), some (.int (f 4)), some (.int (f 53))] [.int r190] _ _
      refine am_e0 hi_195_187 ?_
      by_cases c195 : r190.toInt = (61 : Int)
      · refine am_e13t hi_195_189 (am_cT (m := r190.toInt) (n := (61 : Int)) rfl (by decide) c195) ?_
        refine am_e2 (v := 39) hi_195_201 rfl ?_
        refine am_e0 hi_195_202 ?_
        refine am_e32n (as := [.ref 39, .int 61]) (la := [some (.ref 39), some (.int 61)]) (rest := []) hi_195_204 (am_hd0 (M := 195) (by decide) 204) (Nat.le_of_ble_eq_true rfl) (Nat.le_of_ble_eq_true rfl) (show 2 ≤ am_P0.2.2.1 199 from by decide +kernel) rfl (am_recv_ok hS192.fs) rfl rfl (ct_leave (d := d) hS192   (by show (0 : Int) ≤ z2.toInt; omega) (by show (f 0).toInt ≤ (16384 : Int); omega) (by show (0 : Int) ≤ (61 : Int); omega) (by show (0 : Int) ≤ y3.toInt; omega) (by show y3.toInt ≤ (48 : Int); omega) (by show (0 : Int) ≤ (f 6).toInt; omega)) ?_
        rintro v196 S197 (⟨z198, y199, hv200, hS201, h202, h203, h204⟩ | ⟨a206, b207, hv208, hS209, h210⟩)
        · subst hv200
          have h202_ : z198.toInt = z2.toInt + 1 := h202
          have h203_ : z2.toInt < (f 0).toInt := h203
          have h204_ : y199.toInt = y3.toInt - 1 := h204
          replace hS201 : MS S0 S197 (upd (upd (upd (upd (upd (upd (upd (upd (upd f 4 z198) 5 y199) 8 a177) 9 b178) 24 z179) 31 y180) 32 z36) 37 z50) 53 z18) g'181 := hS201
          have hR212 : RJ (upd (upd (upd (upd (upd (upd (upd (upd (upd f 4 z198) 5 y199) 8 a177) 9 b178) 24 z179) 31 y180) 32 z36) 37 z50) 53 z18) g'181 gs ([] :: bc) fl fk pj := RJ.at hR187_ (by show z2.toInt ≤ z198.toInt; omega)
          show am_E _ _ _ _ [some (.ref 39), some (.int sf), some (.int w), some (.int (f 4)), some (.int (f 53))] [.int 1] _ _
          refine am_e12t hi_195_207 (by decide) ?_
          refine am_e2 (v := 39) hi_195_211 rfl ?_
          refine am_e0 hi_195_212 ?_
          refine am_e1 (v := f 4) hi_195_214 rfl ?_
          refine am_e0 hi_195_215 ?_
          refine am_e0 hi_195_216 ?_
          refine am_e32n (as := [.ref 39, .int 40, .int (f 4), .int 0, .int 0]) (la := [some (.ref 39), some (.int 40), some (.int (f 4)), some (.int 0), some (.int 0)]) (rest := []) hi_195_217 (am_hd0 (M := 195) (by decide) 217) (Nat.le_of_ble_eq_true rfl) (Nat.le_of_ble_eq_true rfl) (show 5 ≤ am_P0.2.2.1 179 from by decide +kernel) rfl (am_recv_ok hS201.fs) rfl rfl (ct_pile (d := (d + 3)) hS201 hR212 (mj_e_plain (by decide)) (by show (0 : Int) ≤ (f 10).toInt; omega) (by show (f 10).toInt ≤ (65535 : Int); omega)) ?_
          rintro v213 S214 (⟨z215, g'216, hv217, hS218, hR221, h219, h220⟩)
          subst hv217
          have h219_ : z215.toInt = (f 10).toInt + 1 := h219
          have h220_ : ∀ j, j ∉ [11, 12, 13, 14] → g'216 j = g'181 j := h220
          replace hS218 : MS S0 S214 (upd (upd (upd (upd (upd (upd (upd (upd (upd (upd f 4 z198) 5 y199) 8 a177) 9 b178) 10 z215) 24 z179) 31 y180) 32 z36) 37 z50) 53 z18) g'216 := hS218
          have hR221_ : RJ (upd (upd (upd (upd (upd (upd (upd (upd (upd (upd f 4 z198) 5 y199) 8 a177) 9 b178) 10 z215) 24 z179) 31 y180) 32 z36) 37 z50) 53 z18) g'216 (((40 : Int), (f 4).toInt, (0 : Int), (0 : Int), []) :: gs) ([] :: bc) fl fk pj := hR221
          show am_E _ _ _ _ [some (.ref 39), some (.int sf), some (.int w), some (.int (f 4)), some (.int (f 53))] [] _ _
          refine am_e2 (v := 39) hi_195_220 rfl ?_
          refine am_e32w (as := [.ref 39]) (la := [some (.ref 39)]) (rest := []) hi_195_221 (am_hd0 (M := 195) (by decide) 221) (Nat.le_of_ble_eq_true rfl) (Nat.le_of_ble_eq_true rfl) (show 1 ≤ am_P0.2.2.1 178 from by decide +kernel) rfl (am_recv_ok hS218.fs) rfl rfl ?_
          refine am_e2 (v := 39) hi_178_0 rfl ?_
          refine am_e0 hi_178_1 ?_
          refine am_e0 hi_178_2 ?_
          refine am_e0 hi_178_3 ?_
          refine am_e0 hi_178_4 ?_
          refine am_e32n (as := [.ref 39, .int 1, .int 0, .int 0, .int 0]) (la := [some (.ref 39), some (.int 1), some (.int 0), some (.int 0), some (.int 0)]) (rest := []) hi_178_5 (am_hd0 (M := 178) (by decide) 5) (Nat.le_of_ble_eq_true rfl) (Nat.le_of_ble_eq_true rfl) (show 5 ≤ am_P0.2.2.1 179 from by decide +kernel) rfl (am_recv_ok hS218.fs) rfl rfl (ct_pile (d := (d + 2)) hS218 hR221_ (mj_e_plain (by decide)) (by show (0 : Int) ≤ z215.toInt; omega) (by show z215.toInt ≤ (65535 : Int); omega)) ?_
          rintro v222 S223 (⟨z224, g'225, hv226, hS227, hR230, h228, h229⟩)
          subst hv226
          have h228_ : z224.toInt = z215.toInt + 1 := h228
          have h229_ : ∀ j, j ∉ [11, 12, 13, 14] → g'225 j = g'216 j := h229
          replace hS227 : MS S0 S223 (upd (upd (upd (upd (upd (upd (upd (upd (upd (upd f 4 z198) 5 y199) 8 a177) 9 b178) 10 z224) 24 z179) 31 y180) 32 z36) 37 z50) 53 z18) g'225 := hS227
          have hR230_ : RJ (upd (upd (upd (upd (upd (upd (upd (upd (upd (upd f 4 z198) 5 y199) 8 a177) 9 b178) 10 z224) 24 z179) 31 y180) 32 z36) 37 z50) 53 z18) g'225 (((1 : Int), (0 : Int), (0 : Int), (0 : Int), []) :: (((40 : Int), (f 4).toInt, (0 : Int), (0 : Int), []) :: gs)) ([] :: bc) fl fk pj := hR230
          show am_E _ _ _ _ [some (.ref 39)] [] _ _
          refine am_e35 hi_178_8 ?_
          show am_E _ _ _ _ [some (.ref 39), some (.int sf), some (.int w), some (.int (f 4)), some (.int (f 53))] [] _ _
          refine am_e35 hi_195_224 ?_
          exact Or.inl ⟨z198, y199, a177, b178, z224, z179, y180, z36, z50, z18, _, rfl, hS227, hR230_, (by show (f 4).toInt + 2 ≤ z198.toInt; omega), (by show z198.toInt ≤ (f 0).toInt; omega), (by show y199.toInt = (f 5).toInt; omega), (by show (f 24).toInt ≤ z179.toInt; omega), (by show z179.toInt + (f 4).toInt ≤ (f 24).toInt + z198.toInt; omega), (by show z224.toInt = (f 10).toInt + 2; omega), (by show z36.toInt = (f 32).toInt + 1; omega), (by show z50.toInt = (f 37).toInt + 1; omega), (by show z18.toInt = (f 53).toInt + 1; omega), (fun j hj => ((show ∀ j, j ∉ [11, 12, 13, 14, 25, 26, 27, 28, 29, 30, 33, 34, 35, 36, 38, 39, 40, 41, 42, 43, 54, 55, 56, 58, 59, 60, 67] → g'225 j = g'216 j from fun j hj => h229_ j (fun q => hj (mem_sub (L := [11, 12, 13, 14]) (L' := [11, 12, 13, 14, 25, 26, 27, 28, 29, 30, 33, 34, 35, 36, 38, 39, 40, 41, 42, 43, 54, 55, 56, 58, 59, 60, 67]) (by decide) q))) j hj).trans ((fun j hj => ((show ∀ j, j ∉ [11, 12, 13, 14, 25, 26, 27, 28, 29, 30, 33, 34, 35, 36, 38, 39, 40, 41, 42, 43, 54, 55, 56, 58, 59, 60, 67] → g'216 j = g'181 j from fun j hj => h220_ j (fun q => hj (mem_sub (L := [11, 12, 13, 14]) (L' := [11, 12, 13, 14, 25, 26, 27, 28, 29, 30, 33, 34, 35, 36, 38, 39, 40, 41, 42, 43, 54, 55, 56, 58, 59, 60, 67]) (by decide) q))) j hj).trans ((fun j hj => ((show ∀ j, j ∉ [11, 12, 13, 14, 25, 26, 27, 28, 29, 30, 33, 34, 35, 36, 38, 39, 40, 41, 42, 43, 54, 55, 56, 58, 59, 60, 67] → g'181 j = (upg g'51 55 (f 53).toNatClampNeg z172) j from fun j hj => h185_ j (fun q => hj (mem_sub (L := [25, 26, 27, 28, 29, 30, 58]) (L' := [11, 12, 13, 14, 25, 26, 27, 28, 29, 30, 33, 34, 35, 36, 38, 39, 40, 41, 42, 43, 54, 55, 56, 58, 59, 60, 67]) (by decide) q))) j hj).trans ((fun j hj => ((show ∀ j, j ∉ [11, 12, 13, 14, 25, 26, 27, 28, 29, 30, 33, 34, 35, 36, 38, 39, 40, 41, 42, 43, 54, 55, 56, 58, 59, 60, 67] → (upg g'51 55 (f 53).toNatClampNeg z172) j = g'51 j from by intro j hj; simp only [List.mem_cons, List.not_mem_nil, or_false, not_or] at hj; simp only [upg, hj, if_false]) j hj).trans ((fun j hj => ((show ∀ j, j ∉ [11, 12, 13, 14, 25, 26, 27, 28, 29, 30, 33, 34, 35, 36, 38, 39, 40, 41, 42, 43, 54, 55, 56, 58, 59, 60, 67] → g'51 j = (upg (upg (upg (upg (upg (upg (upg (upg (upg (upg (upg g 54 (f 53).toNatClampNeg (g 33 (f 32).toNatClampNeg)) 59 (f 53).toNatClampNeg w) 55 (f 53).toNatClampNeg 0) 56 (f 53).toNatClampNeg 0) 58 (f 53).toNatClampNeg 0) 60 (f 53).toNatClampNeg 0) 67 (f 53).toNatClampNeg 0) 33 z36.toNatClampNeg (f 53)) 34 z36.toNatClampNeg (f 24)) 35 z36.toNatClampNeg (f 44)) 36 z36.toNatClampNeg (f 48)) j from fun j hj => h55_ j (fun q => hj (mem_sub (L := [38, 39, 40, 41, 42, 43]) (L' := [11, 12, 13, 14, 25, 26, 27, 28, 29, 30, 33, 34, 35, 36, 38, 39, 40, 41, 42, 43, 54, 55, 56, 58, 59, 60, 67]) (by decide) q))) j hj).trans ((show ∀ j, j ∉ [11, 12, 13, 14, 25, 26, 27, 28, 29, 30, 33, 34, 35, 36, 38, 39, 40, 41, 42, 43, 54, 55, 56, 58, 59, 60, 67] → (upg (upg (upg (upg (upg (upg (upg (upg (upg (upg (upg g 54 (f 53).toNatClampNeg (g 33 (f 32).toNatClampNeg)) 59 (f 53).toNatClampNeg w) 55 (f 53).toNatClampNeg 0) 56 (f 53).toNatClampNeg 0) 58 (f 53).toNatClampNeg 0) 60 (f 53).toNatClampNeg 0) 67 (f 53).toNatClampNeg 0) 33 z36.toNatClampNeg (f 53)) 34 z36.toNatClampNeg (f 24)) 35 z36.toNatClampNeg (f 44)) 36 z36.toNatClampNeg (f 48)) j = g j from by intro j hj; simp only [List.mem_cons, List.not_mem_nil, or_false, not_or] at hj; simp only [upg, hj, if_false]) j hj)) j hj)) j hj)) j hj)) j hj)), (Eq.trans (h229_ 34 (by decide)) (Eq.trans (h220_ 34 (by decide)) (Eq.trans (h185_ 34 (by decide)) (Eq.trans (h55_ 34 (by decide)) rfl)))), (Eq.trans (h229_ 38 (by decide)) (Eq.trans (h220_ 38 (by decide)) (Eq.trans (h185_ 38 (by decide)) h56_))), (by show (0 : Int) ≤ a177.toInt; omega)⟩
        · subst hv208
          have h210_ : (0 : Int) ≤ a206.toInt := h210
          replace hS209 : MS S0 S197 (upd (upd (upd (upd (upd (upd (upd (upd (upd (upd (upd (upd f 4 z2) 5 y3) 6 a206) 7 b207) 8 a177) 9 b178) 10 0) 24 z179) 31 y180) 32 z36) 37 z50) 53 z18) g'181 := hS209
          show am_E _ _ _ _ [some (.ref 39), some (.int sf), some (.int w), some (.int (f 4)), some (.int (f 53))] [.int 0] _ _
          refine am_e12f hi_195_207 (by decide) ?_
          refine am_e35 hi_195_210 ?_
          have hRc := rj_clear0 hR187_
          exact Or.inr (Or.inr (⟨z2, y3, a206, b207, a177, b178, z179, y180, z36, z50, z18, _, rfl, hS209, hRc, (by show (f 4).toInt ≤ z2.toInt; omega), (by show z2.toInt ≤ (f 0).toInt; omega), (by show z36.toInt = (f 32).toInt + 1; omega), (by show z50.toInt = (f 37).toInt + 1; omega), (by show z18.toInt = (f 53).toInt + 1; omega), (fun j hj => ((show ∀ j, j ∉ [11, 12, 13, 14, 25, 26, 27, 28, 29, 30, 33, 34, 35, 36, 38, 39, 40, 41, 42, 43, 54, 55, 56, 58, 59, 60, 67] → g'181 j = (upg g'51 55 (f 53).toNatClampNeg z172) j from fun j hj => h185_ j (fun q => hj (mem_sub (L := [25, 26, 27, 28, 29, 30, 58]) (L' := [11, 12, 13, 14, 25, 26, 27, 28, 29, 30, 33, 34, 35, 36, 38, 39, 40, 41, 42, 43, 54, 55, 56, 58, 59, 60, 67]) (by decide) q))) j hj).trans ((fun j hj => ((show ∀ j, j ∉ [11, 12, 13, 14, 25, 26, 27, 28, 29, 30, 33, 34, 35, 36, 38, 39, 40, 41, 42, 43, 54, 55, 56, 58, 59, 60, 67] → (upg g'51 55 (f 53).toNatClampNeg z172) j = g'51 j from by intro j hj; simp only [List.mem_cons, List.not_mem_nil, or_false, not_or] at hj; simp only [upg, hj, if_false]) j hj).trans ((fun j hj => ((show ∀ j, j ∉ [11, 12, 13, 14, 25, 26, 27, 28, 29, 30, 33, 34, 35, 36, 38, 39, 40, 41, 42, 43, 54, 55, 56, 58, 59, 60, 67] → g'51 j = (upg (upg (upg (upg (upg (upg (upg (upg (upg (upg (upg g 54 (f 53).toNatClampNeg (g 33 (f 32).toNatClampNeg)) 59 (f 53).toNatClampNeg w) 55 (f 53).toNatClampNeg 0) 56 (f 53).toNatClampNeg 0) 58 (f 53).toNatClampNeg 0) 60 (f 53).toNatClampNeg 0) 67 (f 53).toNatClampNeg 0) 33 z36.toNatClampNeg (f 53)) 34 z36.toNatClampNeg (f 24)) 35 z36.toNatClampNeg (f 44)) 36 z36.toNatClampNeg (f 48)) j from fun j hj => h55_ j (fun q => hj (mem_sub (L := [38, 39, 40, 41, 42, 43]) (L' := [11, 12, 13, 14, 25, 26, 27, 28, 29, 30, 33, 34, 35, 36, 38, 39, 40, 41, 42, 43, 54, 55, 56, 58, 59, 60, 67]) (by decide) q))) j hj).trans ((show ∀ j, j ∉ [11, 12, 13, 14, 25, 26, 27, 28, 29, 30, 33, 34, 35, 36, 38, 39, 40, 41, 42, 43, 54, 55, 56, 58, 59, 60, 67] → (upg (upg (upg (upg (upg (upg (upg (upg (upg (upg (upg g 54 (f 53).toNatClampNeg (g 33 (f 32).toNatClampNeg)) 59 (f 53).toNatClampNeg w) 55 (f 53).toNatClampNeg 0) 56 (f 53).toNatClampNeg 0) 58 (f 53).toNatClampNeg 0) 60 (f 53).toNatClampNeg 0) 67 (f 53).toNatClampNeg 0) 33 z36.toNatClampNeg (f 53)) 34 z36.toNatClampNeg (f 24)) 35 z36.toNatClampNeg (f 44)) 36 z36.toNatClampNeg (f 48)) j = g j from by intro j hj; simp only [List.mem_cons, List.not_mem_nil, or_false, not_or] at hj; simp only [upg, hj, if_false]) j hj)) j hj)) j hj)), (by show (0 : Int) ≤ a206.toInt; omega), (by show (0 : Int) ≤ a177.toInt; omega)⟩))
      · refine am_e13f hi_195_189 (am_cF (m := r190.toInt) (n := (61 : Int)) rfl (by decide) c195) ?_
        refine am_e2 (v := 39) hi_195_192 rfl ?_
        refine am_e1 (v := f 53) hi_195_193 rfl ?_
        refine am_e32n (as := [.ref 39, .int (f 53)]) (la := [some (.ref 39), some (.int (f 53)), none]) (rest := []) hi_195_195 (am_hd0 (M := 195) (by decide) 195) (Nat.le_of_ble_eq_true rfl) (Nat.le_of_ble_eq_true rfl) (show 2 ≤ am_P0.2.2.1 198 from by decide +kernel) rfl (am_recv_ok hS192.fs) rfl rfl (ct_parameters (d := (d + 1)) hS192 hR187_  (by show (0 : Int) ≤ z36.toInt; omega) (by show z36.toInt ≤ (63 : Int); omega) (by show z18.toInt ≤ (4096 : Int); omega) (by show (0 : Int) ≤ z2.toInt; omega) (by show (f 0).toInt ≤ (16384 : Int); omega) (by show z2.toInt ≤ (f 0).toInt; omega) (by show (f 0).toInt ≤ (512 : Int); omega) (by show (0 : Int) ≤ z179.toInt; omega) (by show z179.toInt ≤ (8000 : Int); omega) (by show (0 : Int) ≤ (f 53).toInt; omega) (by show (f 53).toInt ≤ (4095 : Int); omega) (by show (0 : Int) ≤ (f 6).toInt; omega) (by show (0 : Int) ≤ a177.toInt; omega)) ?_
        rintro v231 S232 (⟨z233, a234, b235, l236, y237, g'238, hv239, hS240, hR247, h241, h242, h243, h244, h245, h246⟩ | ⟨z248, u249, v_250, a251, b252, l253, y254, g'255, hv256, hS257, hR265, h258, h259, h260, h261, h262, h263, h264⟩)
        · subst hv239
          have h241_ : z2.toInt ≤ z233.toInt := h241
          have h242_ : z233.toInt ≤ (f 0).toInt := h242
          have h243_ : z179.toInt ≤ l236.toInt := h243
          have h244_ : l236.toInt + z2.toInt ≤ z179.toInt + z233.toInt := h244
          have h245_ : ∀ j, j ∉ [25, 26, 27, 28, 29, 30, 55, 56, 58] → g'238 j = g'181 j := h245
          have h246_ : (0 : Int) ≤ a234.toInt := h246
          replace hS240 : MS S0 S232 (upd (upd (upd (upd (upd (upd (upd (upd (upd f 4 z233) 5 y3) 8 a234) 9 b235) 24 l236) 31 y237) 32 z36) 37 z50) 53 z18) g'238 := hS240
          have hR247_ : RJ (upd (upd (upd (upd (upd (upd (upd (upd (upd f 4 z233) 5 y3) 8 a234) 9 b235) 24 l236) 31 y237) 32 z36) 37 z50) 53 z18) g'238 gs ([] :: bc) fl fk pj := hR247
          show am_E _ _ _ _ [some (.ref 39), some (.int sf), some (.int w), some (.int (f 4)), some (.int (f 53))] [.int 1] _ _
          refine am_e12f hi_195_198 (by decide) ?_
          refine am_e2 (v := 39) hi_195_201 rfl ?_
          refine am_e0 hi_195_202 ?_
          refine am_e32n (as := [.ref 39, .int 61]) (la := [some (.ref 39), some (.int 61)]) (rest := []) hi_195_204 (am_hd0 (M := 195) (by decide) 204) (Nat.le_of_ble_eq_true rfl) (Nat.le_of_ble_eq_true rfl) (show 2 ≤ am_P0.2.2.1 199 from by decide +kernel) rfl (am_recv_ok hS240.fs) rfl rfl (ct_leave (d := d) hS240   (by show (0 : Int) ≤ z233.toInt; omega) (by show (f 0).toInt ≤ (16384 : Int); omega) (by show (0 : Int) ≤ (61 : Int); omega) (by show (0 : Int) ≤ y3.toInt; omega) (by show y3.toInt ≤ (48 : Int); omega) (by show (0 : Int) ≤ (f 6).toInt; omega)) ?_
          rintro v266 S267 (⟨z268, y269, hv270, hS271, h272, h273, h274⟩ | ⟨a276, b277, hv278, hS279, h280⟩)
          · subst hv270
            have h272_ : z268.toInt = z233.toInt + 1 := h272
            have h273_ : z233.toInt < (f 0).toInt := h273
            have h274_ : y269.toInt = y3.toInt - 1 := h274
            replace hS271 : MS S0 S267 (upd (upd (upd (upd (upd (upd (upd (upd (upd f 4 z268) 5 y269) 8 a234) 9 b235) 24 l236) 31 y237) 32 z36) 37 z50) 53 z18) g'238 := hS271
            have hR282 : RJ (upd (upd (upd (upd (upd (upd (upd (upd (upd f 4 z268) 5 y269) 8 a234) 9 b235) 24 l236) 31 y237) 32 z36) 37 z50) 53 z18) g'238 gs ([] :: bc) fl fk pj := RJ.at hR247_ (by show z233.toInt ≤ z268.toInt; omega)
            show am_E _ _ _ _ [some (.ref 39), some (.int sf), some (.int w), some (.int (f 4)), some (.int (f 53))] [.int 1] _ _
            refine am_e12t hi_195_207 (by decide) ?_
            refine am_e2 (v := 39) hi_195_211 rfl ?_
            refine am_e0 hi_195_212 ?_
            refine am_e1 (v := f 4) hi_195_214 rfl ?_
            refine am_e0 hi_195_215 ?_
            refine am_e0 hi_195_216 ?_
            refine am_e32n (as := [.ref 39, .int 40, .int (f 4), .int 0, .int 0]) (la := [some (.ref 39), some (.int 40), some (.int (f 4)), some (.int 0), some (.int 0)]) (rest := []) hi_195_217 (am_hd0 (M := 195) (by decide) 217) (Nat.le_of_ble_eq_true rfl) (Nat.le_of_ble_eq_true rfl) (show 5 ≤ am_P0.2.2.1 179 from by decide +kernel) rfl (am_recv_ok hS271.fs) rfl rfl (ct_pile (d := (d + 3)) hS271 hR282 (mj_e_plain (by decide)) (by show (0 : Int) ≤ (f 10).toInt; omega) (by show (f 10).toInt ≤ (65535 : Int); omega)) ?_
            rintro v283 S284 (⟨z285, g'286, hv287, hS288, hR291, h289, h290⟩)
            subst hv287
            have h289_ : z285.toInt = (f 10).toInt + 1 := h289
            have h290_ : ∀ j, j ∉ [11, 12, 13, 14] → g'286 j = g'238 j := h290
            replace hS288 : MS S0 S284 (upd (upd (upd (upd (upd (upd (upd (upd (upd (upd f 4 z268) 5 y269) 8 a234) 9 b235) 10 z285) 24 l236) 31 y237) 32 z36) 37 z50) 53 z18) g'286 := hS288
            have hR291_ : RJ (upd (upd (upd (upd (upd (upd (upd (upd (upd (upd f 4 z268) 5 y269) 8 a234) 9 b235) 10 z285) 24 l236) 31 y237) 32 z36) 37 z50) 53 z18) g'286 (((40 : Int), (f 4).toInt, (0 : Int), (0 : Int), []) :: gs) ([] :: bc) fl fk pj := hR291
            show am_E _ _ _ _ [some (.ref 39), some (.int sf), some (.int w), some (.int (f 4)), some (.int (f 53))] [] _ _
            refine am_e2 (v := 39) hi_195_220 rfl ?_
            refine am_e32w (as := [.ref 39]) (la := [some (.ref 39)]) (rest := []) hi_195_221 (am_hd0 (M := 195) (by decide) 221) (Nat.le_of_ble_eq_true rfl) (Nat.le_of_ble_eq_true rfl) (show 1 ≤ am_P0.2.2.1 178 from by decide +kernel) rfl (am_recv_ok hS288.fs) rfl rfl ?_
            refine am_e2 (v := 39) hi_178_0 rfl ?_
            refine am_e0 hi_178_1 ?_
            refine am_e0 hi_178_2 ?_
            refine am_e0 hi_178_3 ?_
            refine am_e0 hi_178_4 ?_
            refine am_e32n (as := [.ref 39, .int 1, .int 0, .int 0, .int 0]) (la := [some (.ref 39), some (.int 1), some (.int 0), some (.int 0), some (.int 0)]) (rest := []) hi_178_5 (am_hd0 (M := 178) (by decide) 5) (Nat.le_of_ble_eq_true rfl) (Nat.le_of_ble_eq_true rfl) (show 5 ≤ am_P0.2.2.1 179 from by decide +kernel) rfl (am_recv_ok hS288.fs) rfl rfl (ct_pile (d := (d + 2)) hS288 hR291_ (mj_e_plain (by decide)) (by show (0 : Int) ≤ z285.toInt; omega) (by show z285.toInt ≤ (65535 : Int); omega)) ?_
            rintro v292 S293 (⟨z294, g'295, hv296, hS297, hR300, h298, h299⟩)
            subst hv296
            have h298_ : z294.toInt = z285.toInt + 1 := h298
            have h299_ : ∀ j, j ∉ [11, 12, 13, 14] → g'295 j = g'286 j := h299
            replace hS297 : MS S0 S293 (upd (upd (upd (upd (upd (upd (upd (upd (upd (upd f 4 z268) 5 y269) 8 a234) 9 b235) 10 z294) 24 l236) 31 y237) 32 z36) 37 z50) 53 z18) g'295 := hS297
            have hR300_ : RJ (upd (upd (upd (upd (upd (upd (upd (upd (upd (upd f 4 z268) 5 y269) 8 a234) 9 b235) 10 z294) 24 l236) 31 y237) 32 z36) 37 z50) 53 z18) g'295 (((1 : Int), (0 : Int), (0 : Int), (0 : Int), []) :: (((40 : Int), (f 4).toInt, (0 : Int), (0 : Int), []) :: gs)) ([] :: bc) fl fk pj := hR300
            show am_E _ _ _ _ [some (.ref 39)] [] _ _
            refine am_e35 hi_178_8 ?_
            show am_E _ _ _ _ [some (.ref 39), some (.int sf), some (.int w), some (.int (f 4)), some (.int (f 53))] [] _ _
            refine am_e35 hi_195_224 ?_
            exact Or.inl ⟨z268, y269, a234, b235, z294, l236, y237, z36, z50, z18, _, rfl, hS297, hR300_, (by show (f 4).toInt + 2 ≤ z268.toInt; omega), (by show z268.toInt ≤ (f 0).toInt; omega), (by show y269.toInt = (f 5).toInt; omega), (by show (f 24).toInt ≤ l236.toInt; omega), (by show l236.toInt + (f 4).toInt ≤ (f 24).toInt + z268.toInt; omega), (by show z294.toInt = (f 10).toInt + 2; omega), (by show z36.toInt = (f 32).toInt + 1; omega), (by show z50.toInt = (f 37).toInt + 1; omega), (by show z18.toInt = (f 53).toInt + 1; omega), (fun j hj => ((show ∀ j, j ∉ [11, 12, 13, 14, 25, 26, 27, 28, 29, 30, 33, 34, 35, 36, 38, 39, 40, 41, 42, 43, 54, 55, 56, 58, 59, 60, 67] → g'295 j = g'286 j from fun j hj => h299_ j (fun q => hj (mem_sub (L := [11, 12, 13, 14]) (L' := [11, 12, 13, 14, 25, 26, 27, 28, 29, 30, 33, 34, 35, 36, 38, 39, 40, 41, 42, 43, 54, 55, 56, 58, 59, 60, 67]) (by decide) q))) j hj).trans ((fun j hj => ((show ∀ j, j ∉ [11, 12, 13, 14, 25, 26, 27, 28, 29, 30, 33, 34, 35, 36, 38, 39, 40, 41, 42, 43, 54, 55, 56, 58, 59, 60, 67] → g'286 j = g'238 j from fun j hj => h290_ j (fun q => hj (mem_sub (L := [11, 12, 13, 14]) (L' := [11, 12, 13, 14, 25, 26, 27, 28, 29, 30, 33, 34, 35, 36, 38, 39, 40, 41, 42, 43, 54, 55, 56, 58, 59, 60, 67]) (by decide) q))) j hj).trans ((fun j hj => ((show ∀ j, j ∉ [11, 12, 13, 14, 25, 26, 27, 28, 29, 30, 33, 34, 35, 36, 38, 39, 40, 41, 42, 43, 54, 55, 56, 58, 59, 60, 67] → g'238 j = g'181 j from fun j hj => h245_ j (fun q => hj (mem_sub (L := [25, 26, 27, 28, 29, 30, 55, 56, 58]) (L' := [11, 12, 13, 14, 25, 26, 27, 28, 29, 30, 33, 34, 35, 36, 38, 39, 40, 41, 42, 43, 54, 55, 56, 58, 59, 60, 67]) (by decide) q))) j hj).trans ((fun j hj => ((show ∀ j, j ∉ [11, 12, 13, 14, 25, 26, 27, 28, 29, 30, 33, 34, 35, 36, 38, 39, 40, 41, 42, 43, 54, 55, 56, 58, 59, 60, 67] → g'181 j = (upg g'51 55 (f 53).toNatClampNeg z172) j from fun j hj => h185_ j (fun q => hj (mem_sub (L := [25, 26, 27, 28, 29, 30, 58]) (L' := [11, 12, 13, 14, 25, 26, 27, 28, 29, 30, 33, 34, 35, 36, 38, 39, 40, 41, 42, 43, 54, 55, 56, 58, 59, 60, 67]) (by decide) q))) j hj).trans ((fun j hj => ((show ∀ j, j ∉ [11, 12, 13, 14, 25, 26, 27, 28, 29, 30, 33, 34, 35, 36, 38, 39, 40, 41, 42, 43, 54, 55, 56, 58, 59, 60, 67] → (upg g'51 55 (f 53).toNatClampNeg z172) j = g'51 j from by intro j hj; simp only [List.mem_cons, List.not_mem_nil, or_false, not_or] at hj; simp only [upg, hj, if_false]) j hj).trans ((fun j hj => ((show ∀ j, j ∉ [11, 12, 13, 14, 25, 26, 27, 28, 29, 30, 33, 34, 35, 36, 38, 39, 40, 41, 42, 43, 54, 55, 56, 58, 59, 60, 67] → g'51 j = (upg (upg (upg (upg (upg (upg (upg (upg (upg (upg (upg g 54 (f 53).toNatClampNeg (g 33 (f 32).toNatClampNeg)) 59 (f 53).toNatClampNeg w) 55 (f 53).toNatClampNeg 0) 56 (f 53).toNatClampNeg 0) 58 (f 53).toNatClampNeg 0) 60 (f 53).toNatClampNeg 0) 67 (f 53).toNatClampNeg 0) 33 z36.toNatClampNeg (f 53)) 34 z36.toNatClampNeg (f 24)) 35 z36.toNatClampNeg (f 44)) 36 z36.toNatClampNeg (f 48)) j from fun j hj => h55_ j (fun q => hj (mem_sub (L := [38, 39, 40, 41, 42, 43]) (L' := [11, 12, 13, 14, 25, 26, 27, 28, 29, 30, 33, 34, 35, 36, 38, 39, 40, 41, 42, 43, 54, 55, 56, 58, 59, 60, 67]) (by decide) q))) j hj).trans ((show ∀ j, j ∉ [11, 12, 13, 14, 25, 26, 27, 28, 29, 30, 33, 34, 35, 36, 38, 39, 40, 41, 42, 43, 54, 55, 56, 58, 59, 60, 67] → (upg (upg (upg (upg (upg (upg (upg (upg (upg (upg (upg g 54 (f 53).toNatClampNeg (g 33 (f 32).toNatClampNeg)) 59 (f 53).toNatClampNeg w) 55 (f 53).toNatClampNeg 0) 56 (f 53).toNatClampNeg 0) 58 (f 53).toNatClampNeg 0) 60 (f 53).toNatClampNeg 0) 67 (f 53).toNatClampNeg 0) 33 z36.toNatClampNeg (f 53)) 34 z36.toNatClampNeg (f 24)) 35 z36.toNatClampNeg (f 44)) 36 z36.toNatClampNeg (f 48)) j = g j from by intro j hj; simp only [List.mem_cons, List.not_mem_nil, or_false, not_or] at hj; simp only [upg, hj, if_false]) j hj)) j hj)) j hj)) j hj)) j hj)) j hj)), (Eq.trans (h299_ 34 (by decide)) (Eq.trans (h290_ 34 (by decide)) (Eq.trans (h245_ 34 (by decide)) (Eq.trans (h185_ 34 (by decide)) (Eq.trans (h55_ 34 (by decide)) rfl))))), (Eq.trans (h299_ 38 (by decide)) (Eq.trans (h290_ 38 (by decide)) (Eq.trans (h245_ 38 (by decide)) (Eq.trans (h185_ 38 (by decide)) h56_)))), (by show (0 : Int) ≤ a234.toInt; omega)⟩
          · subst hv278
            have h280_ : (0 : Int) ≤ a276.toInt := h280
            replace hS279 : MS S0 S267 (upd (upd (upd (upd (upd (upd (upd (upd (upd (upd (upd (upd f 4 z233) 5 y3) 6 a276) 7 b277) 8 a234) 9 b235) 10 0) 24 l236) 31 y237) 32 z36) 37 z50) 53 z18) g'238 := hS279
            show am_E _ _ _ _ [some (.ref 39), some (.int sf), some (.int w), some (.int (f 4)), some (.int (f 53))] [.int 0] _ _
            refine am_e12f hi_195_207 (by decide) ?_
            refine am_e35 hi_195_210 ?_
            have hRc := rj_clear0 hR247_
            exact Or.inr (Or.inr (⟨z233, y3, a276, b277, a234, b235, l236, y237, z36, z50, z18, _, rfl, hS279, hRc, (by show (f 4).toInt ≤ z233.toInt; omega), (by show z233.toInt ≤ (f 0).toInt; omega), (by show z36.toInt = (f 32).toInt + 1; omega), (by show z50.toInt = (f 37).toInt + 1; omega), (by show z18.toInt = (f 53).toInt + 1; omega), (fun j hj => ((show ∀ j, j ∉ [11, 12, 13, 14, 25, 26, 27, 28, 29, 30, 33, 34, 35, 36, 38, 39, 40, 41, 42, 43, 54, 55, 56, 58, 59, 60, 67] → g'238 j = g'181 j from fun j hj => h245_ j (fun q => hj (mem_sub (L := [25, 26, 27, 28, 29, 30, 55, 56, 58]) (L' := [11, 12, 13, 14, 25, 26, 27, 28, 29, 30, 33, 34, 35, 36, 38, 39, 40, 41, 42, 43, 54, 55, 56, 58, 59, 60, 67]) (by decide) q))) j hj).trans ((fun j hj => ((show ∀ j, j ∉ [11, 12, 13, 14, 25, 26, 27, 28, 29, 30, 33, 34, 35, 36, 38, 39, 40, 41, 42, 43, 54, 55, 56, 58, 59, 60, 67] → g'181 j = (upg g'51 55 (f 53).toNatClampNeg z172) j from fun j hj => h185_ j (fun q => hj (mem_sub (L := [25, 26, 27, 28, 29, 30, 58]) (L' := [11, 12, 13, 14, 25, 26, 27, 28, 29, 30, 33, 34, 35, 36, 38, 39, 40, 41, 42, 43, 54, 55, 56, 58, 59, 60, 67]) (by decide) q))) j hj).trans ((fun j hj => ((show ∀ j, j ∉ [11, 12, 13, 14, 25, 26, 27, 28, 29, 30, 33, 34, 35, 36, 38, 39, 40, 41, 42, 43, 54, 55, 56, 58, 59, 60, 67] → (upg g'51 55 (f 53).toNatClampNeg z172) j = g'51 j from by intro j hj; simp only [List.mem_cons, List.not_mem_nil, or_false, not_or] at hj; simp only [upg, hj, if_false]) j hj).trans ((fun j hj => ((show ∀ j, j ∉ [11, 12, 13, 14, 25, 26, 27, 28, 29, 30, 33, 34, 35, 36, 38, 39, 40, 41, 42, 43, 54, 55, 56, 58, 59, 60, 67] → g'51 j = (upg (upg (upg (upg (upg (upg (upg (upg (upg (upg (upg g 54 (f 53).toNatClampNeg (g 33 (f 32).toNatClampNeg)) 59 (f 53).toNatClampNeg w) 55 (f 53).toNatClampNeg 0) 56 (f 53).toNatClampNeg 0) 58 (f 53).toNatClampNeg 0) 60 (f 53).toNatClampNeg 0) 67 (f 53).toNatClampNeg 0) 33 z36.toNatClampNeg (f 53)) 34 z36.toNatClampNeg (f 24)) 35 z36.toNatClampNeg (f 44)) 36 z36.toNatClampNeg (f 48)) j from fun j hj => h55_ j (fun q => hj (mem_sub (L := [38, 39, 40, 41, 42, 43]) (L' := [11, 12, 13, 14, 25, 26, 27, 28, 29, 30, 33, 34, 35, 36, 38, 39, 40, 41, 42, 43, 54, 55, 56, 58, 59, 60, 67]) (by decide) q))) j hj).trans ((show ∀ j, j ∉ [11, 12, 13, 14, 25, 26, 27, 28, 29, 30, 33, 34, 35, 36, 38, 39, 40, 41, 42, 43, 54, 55, 56, 58, 59, 60, 67] → (upg (upg (upg (upg (upg (upg (upg (upg (upg (upg (upg g 54 (f 53).toNatClampNeg (g 33 (f 32).toNatClampNeg)) 59 (f 53).toNatClampNeg w) 55 (f 53).toNatClampNeg 0) 56 (f 53).toNatClampNeg 0) 58 (f 53).toNatClampNeg 0) 60 (f 53).toNatClampNeg 0) 67 (f 53).toNatClampNeg 0) 33 z36.toNatClampNeg (f 53)) 34 z36.toNatClampNeg (f 24)) 35 z36.toNatClampNeg (f 44)) 36 z36.toNatClampNeg (f 48)) j = g j from by intro j hj; simp only [List.mem_cons, List.not_mem_nil, or_false, not_or] at hj; simp only [upg, hj, if_false]) j hj)) j hj)) j hj)) j hj)), (by show (0 : Int) ≤ a276.toInt; omega), (by show (0 : Int) ≤ a234.toInt; omega)⟩))
        · subst hv256
          have h258_ : z2.toInt ≤ z248.toInt := h258
          have h259_ : z248.toInt ≤ (f 0).toInt := h259
          have h260_ : z179.toInt ≤ l253.toInt := h260
          have h261_ : l253.toInt + z2.toInt ≤ z179.toInt + z248.toInt := h261
          have h262_ : ∀ j, j ∉ [25, 26, 27, 28, 29, 30, 55, 56, 58] → g'255 j = g'181 j := h262
          have h263_ : (0 : Int) ≤ u249.toInt := h263
          have h264_ : (0 : Int) ≤ a251.toInt := h264
          replace hS257 : MS S0 S232 (upd (upd (upd (upd (upd (upd (upd (upd (upd (upd (upd (upd f 4 z248) 5 y3) 6 u249) 7 v_250) 8 a251) 9 b252) 10 0) 24 l253) 31 y254) 32 z36) 37 z50) 53 z18) g'255 := hS257
          have hR265_ : RJ (upd (upd (upd (upd (upd (upd (upd (upd (upd (upd (upd (upd f 4 z248) 5 y3) 6 u249) 7 v_250) 8 a251) 9 b252) 10 0) 24 l253) 31 y254) 32 z36) 37 z50) 53 z18) g'255 [] ([] :: bc) [] 0 [] := hR265
          show am_E _ _ _ _ [some (.ref 39), some (.int sf), some (.int w), some (.int (f 4)), some (.int (f 53))] [.int 0] _ _
          refine am_e12t hi_195_198 (by decide) ?_
          refine am_e35 hi_195_224 ?_
          exact Or.inr (Or.inr (⟨z248, y3, u249, v_250, a251, b252, l253, y254, z36, z50, z18, _, rfl, hS257, hR265_, (by show (f 4).toInt ≤ z248.toInt; omega), (by show z248.toInt ≤ (f 0).toInt; omega), (by show z36.toInt = (f 32).toInt + 1; omega), (by show z50.toInt = (f 37).toInt + 1; omega), (by show z18.toInt = (f 53).toInt + 1; omega), (fun j hj => ((show ∀ j, j ∉ [11, 12, 13, 14, 25, 26, 27, 28, 29, 30, 33, 34, 35, 36, 38, 39, 40, 41, 42, 43, 54, 55, 56, 58, 59, 60, 67] → g'255 j = g'181 j from fun j hj => h262_ j (fun q => hj (mem_sub (L := [25, 26, 27, 28, 29, 30, 55, 56, 58]) (L' := [11, 12, 13, 14, 25, 26, 27, 28, 29, 30, 33, 34, 35, 36, 38, 39, 40, 41, 42, 43, 54, 55, 56, 58, 59, 60, 67]) (by decide) q))) j hj).trans ((fun j hj => ((show ∀ j, j ∉ [11, 12, 13, 14, 25, 26, 27, 28, 29, 30, 33, 34, 35, 36, 38, 39, 40, 41, 42, 43, 54, 55, 56, 58, 59, 60, 67] → g'181 j = (upg g'51 55 (f 53).toNatClampNeg z172) j from fun j hj => h185_ j (fun q => hj (mem_sub (L := [25, 26, 27, 28, 29, 30, 58]) (L' := [11, 12, 13, 14, 25, 26, 27, 28, 29, 30, 33, 34, 35, 36, 38, 39, 40, 41, 42, 43, 54, 55, 56, 58, 59, 60, 67]) (by decide) q))) j hj).trans ((fun j hj => ((show ∀ j, j ∉ [11, 12, 13, 14, 25, 26, 27, 28, 29, 30, 33, 34, 35, 36, 38, 39, 40, 41, 42, 43, 54, 55, 56, 58, 59, 60, 67] → (upg g'51 55 (f 53).toNatClampNeg z172) j = g'51 j from by intro j hj; simp only [List.mem_cons, List.not_mem_nil, or_false, not_or] at hj; simp only [upg, hj, if_false]) j hj).trans ((fun j hj => ((show ∀ j, j ∉ [11, 12, 13, 14, 25, 26, 27, 28, 29, 30, 33, 34, 35, 36, 38, 39, 40, 41, 42, 43, 54, 55, 56, 58, 59, 60, 67] → g'51 j = (upg (upg (upg (upg (upg (upg (upg (upg (upg (upg (upg g 54 (f 53).toNatClampNeg (g 33 (f 32).toNatClampNeg)) 59 (f 53).toNatClampNeg w) 55 (f 53).toNatClampNeg 0) 56 (f 53).toNatClampNeg 0) 58 (f 53).toNatClampNeg 0) 60 (f 53).toNatClampNeg 0) 67 (f 53).toNatClampNeg 0) 33 z36.toNatClampNeg (f 53)) 34 z36.toNatClampNeg (f 24)) 35 z36.toNatClampNeg (f 44)) 36 z36.toNatClampNeg (f 48)) j from fun j hj => h55_ j (fun q => hj (mem_sub (L := [38, 39, 40, 41, 42, 43]) (L' := [11, 12, 13, 14, 25, 26, 27, 28, 29, 30, 33, 34, 35, 36, 38, 39, 40, 41, 42, 43, 54, 55, 56, 58, 59, 60, 67]) (by decide) q))) j hj).trans ((show ∀ j, j ∉ [11, 12, 13, 14, 25, 26, 27, 28, 29, 30, 33, 34, 35, 36, 38, 39, 40, 41, 42, 43, 54, 55, 56, 58, 59, 60, 67] → (upg (upg (upg (upg (upg (upg (upg (upg (upg (upg (upg g 54 (f 53).toNatClampNeg (g 33 (f 32).toNatClampNeg)) 59 (f 53).toNatClampNeg w) 55 (f 53).toNatClampNeg 0) 56 (f 53).toNatClampNeg 0) 58 (f 53).toNatClampNeg 0) 60 (f 53).toNatClampNeg 0) 67 (f 53).toNatClampNeg 0) 33 z36.toNatClampNeg (f 53)) 34 z36.toNatClampNeg (f 24)) 35 z36.toNatClampNeg (f 44)) 36 z36.toNatClampNeg (f 48)) j = g j from by intro j hj; simp only [List.mem_cons, List.not_mem_nil, or_false, not_or] at hj; simp only [upg, hj, if_false]) j hj)) j hj)) j hj)) j hj)), (by show (0 : Int) ≤ u249.toInt; omega), (by show (0 : Int) ≤ a251.toInt; omega)⟩))
  · subst hv13
    have h15_ : (0 : Int) ≤ a11.toInt := h15
    show am_E _ _ _ _ [some (.ref 39), some (.int sf), some (.int w), some (.int (f 4)), none] [.int 0] _ _
    refine am_e12f hi_195_11 (by decide) ?_
    refine am_e35 hi_195_14 ?_
    have hRc := rj_clear0 hR
    exact Or.inr (Or.inl ⟨a11, b12, rfl, hS14, hRc, (by show (0 : Int) ≤ a11.toInt; omega)⟩)
theorem ct_keep2 {sc : Nat × (Nat → Int32)} {d : Nat} {S0 S : am_S} {f : Nat → Int32} {g : Nat → Nat → Int32} {k : Int32} {n : Int32} {w : Int32} {gs : List mg_E} {bc : List (List Nat)} {fl : List Nat} {fk : Int} {pj : List Nat} (hS : MS S0 S f g) (hR : RJ f g gs bc fl fk pj) (p0 : (0 : Int) ≤ (f 20).toInt) (p1 : (f 20).toInt ≤ (16383 : Int)) : am_E (am_PP sc) (d + 0) 239 0 [some (.ref 39), some (.int k), some (.int n), some (.int w)] [] S (am_N fun v S1 => (∃ z : Int32, ∃ g' : Nat → Nat → Int32, v = none ∧ MS S0 S1 (upd f 20 z) g' ∧ (RJ (upd f 20 z) g' gs bc fl fk pj) ∧ (z.toInt = (f 20).toInt + 1) ∧ (∀ j, j ∉ [21, 22, 23] → g' j = g j) ∧ (g' 23 = upd (g 23) (f 20).toNatClampNeg w))) := by
  refine am_e2 (v := 39) hi_239_0 rfl ?_
  refine mm_20 (v := .ref 49) hS hi_239_1 rfl ?_
  refine am_e2 (v := 39) hi_239_4 rfl ?_
  refine mm_20 (v := .int (f 20)) hS hi_239_5 rfl ?_
  refine am_e1 (v := k) hi_239_8 rfl ?_
  refine mm_26 hS ma_21 hi_239_9 (by decide) (by omega) (by omega) (fun h => nomatch h) ?_
  intro S0 hS1
  refine am_e2 (v := 39) hi_239_10 rfl ?_
  refine mm_20 (v := .ref 50) hS1 hi_239_11 rfl ?_
  refine am_e2 (v := 39) hi_239_14 rfl ?_
  refine mm_20 (v := .int (f 20)) hS1 hi_239_15 rfl ?_
  refine am_e1 (v := n) hi_239_18 rfl ?_
  refine mm_26 hS1 ma_22 hi_239_19 (by decide) (by omega) (by omega) (fun h => nomatch h) ?_
  intro S2 hS3
  refine am_e2 (v := 39) hi_239_20 rfl ?_
  refine mm_20 (v := .ref 51) hS3 hi_239_21 rfl ?_
  refine am_e2 (v := 39) hi_239_24 rfl ?_
  refine mm_20 (v := .int (f 20)) hS3 hi_239_25 rfl ?_
  refine am_e1 (v := w) hi_239_28 rfl ?_
  refine mm_26 hS3 ma_23 hi_239_29 (by decide) (by omega) (by omega) (fun h => nomatch h) ?_
  intro S4 hS5
  refine am_e2 (v := 39) hi_239_30 rfl ?_
  refine am_e7 hi_239_31 ?_
  refine mm_20 (v := .int (f 20)) hS5 hi_239_32 rfl ?_
  refine am_e0 hi_239_35 ?_
  obtain ⟨z6, hz6, tz6⟩ := am_addI (x := f 20) (y := 1) (m := (f 20).toInt) (n := (1 : Int)) rfl (by decide) (by omega) (by omega)
  refine am_e10 (z := z6) hi_239_36 hz6 ?_
  refine mm_21 (v := z6) hS5 hi_239_37 rfl (Nat.le_of_ble_eq_true rfl) ms_20 ?_
  intro S7 hS8
  refine am_e35 hi_239_40 ?_
  exact ⟨z6, _, rfl, hS8, hR, (by show z6.toInt = (f 20).toInt + 1; omega), (by intro j hj; simp only [List.mem_cons, List.not_mem_nil, or_false, not_or] at hj; simp only [upg, hj, if_false]), rfl⟩
