/-! THE REFERENCE: bodies (printed by wip/p2/ref14.py) -/
theorem ct_beginBlock2 {sc : Nat × (Nat → Int32)} {d : Nat} {S0 S : am_S} {f : Nat → Int32} {g : Nat → Nat → Int32} {lo : Int32} {gs : List mg_E} {bc : List (List Nat)} {fl : List Nat} {fk : Int} {pj : List Nat} (hS : MS S0 S f g) (hR : RJ f g gs bc fl fk pj) (hb_lo : lo = 0 ∨ lo = 1) (p0 : (0 : Int) ≤ (f 37).toInt) (p1 : (f 37).toInt ≤ (127 : Int)) (p2 : (0 : Int) ≤ (f 24).toInt) (p3 : (0 : Int) ≤ (f 44).toInt) (p4 : (f 44).toInt ≤ (f 4).toInt) (p5 : (0 : Int) ≤ (f 48).toInt) : am_E (am_PP sc) (d + 0) 177 0 [some (.ref 39), some (.int lo)] [] S (am_N fun v S1 => (∃ z : Int32, ∃ g' : Nat → Nat → Int32, v = none ∧ MS S0 S1 (upd f 37 z) g' ∧ (RJ (upd f 37 z) g' gs ([] :: bc) fl fk pj) ∧ (z.toInt = (f 37).toInt + 1) ∧ (∀ j, j ∉ [38, 39, 40, 41, 42, 43] → g' j = g j) ∧ (g' 38 = upd (g 38) (f 37).toNatClampNeg (f 24)))) := by
  refine am_e2 (v := 39) hi_177_0 rfl ?_
  refine mm_20 (v := .ref 62) hS hi_177_1 rfl ?_
  refine am_e2 (v := 39) hi_177_4 rfl ?_
  refine mm_20 (v := .int (f 37)) hS hi_177_5 rfl ?_
  refine am_e2 (v := 39) hi_177_8 rfl ?_
  refine mm_20 (v := .int (f 24)) hS hi_177_9 rfl ?_
  refine mm_26 hS ma_38 hi_177_12 (by decide) (by omega) (by omega) (fun h => nomatch h) ?_
  intro S0 hS1
  refine am_e2 (v := 39) hi_177_13 rfl ?_
  refine mm_20 (v := .ref 63) hS1 hi_177_14 rfl ?_
  refine am_e2 (v := 39) hi_177_17 rfl ?_
  refine mm_20 (v := .int (f 37)) hS1 hi_177_18 rfl ?_
  refine am_e2 (v := 39) hi_177_21 rfl ?_
  refine mm_20 (v := .int (f 44)) hS1 hi_177_22 rfl ?_
  refine mm_26 hS1 ma_39 hi_177_25 (by decide) (by omega) (by omega) (fun h => nomatch h) ?_
  intro S2 hS3
  refine am_e2 (v := 39) hi_177_26 rfl ?_
  refine mm_20 (v := .ref 64) hS3 hi_177_27 rfl ?_
  refine am_e2 (v := 39) hi_177_30 rfl ?_
  refine mm_20 (v := .int (f 37)) hS3 hi_177_31 rfl ?_
  refine am_e2 (v := 39) hi_177_34 rfl ?_
  refine mm_20 (v := .int (f 48)) hS3 hi_177_35 rfl ?_
  refine mm_26 hS3 ma_40 hi_177_38 (by decide) (by omega) (by omega) (fun h => nomatch h) ?_
  intro S4 hS5
  refine am_e2 (v := 39) hi_177_39 rfl ?_
  refine mm_20 (v := .ref 65) hS5 hi_177_40 rfl ?_
  refine am_e2 (v := 39) hi_177_43 rfl ?_
  refine mm_20 (v := .int (f 37)) hS5 hi_177_44 rfl ?_
  refine am_e2 (v := 39) hi_177_47 rfl ?_
  refine mm_20 (v := .int (f 32)) hS5 hi_177_48 rfl ?_
  refine mm_26 hS5 ma_41 hi_177_51 (by decide) (by omega) (by omega) (fun h => nomatch h) ?_
  intro S6 hS7
  refine am_e2 (v := 39) hi_177_52 rfl ?_
  refine mm_20 (v := .ref 66) hS7 hi_177_53 rfl ?_
  refine am_e2 (v := 39) hi_177_56 rfl ?_
  refine mm_20 (v := .int (f 37)) hS7 hi_177_57 rfl ?_
  refine am_e1 (v := lo) hi_177_60 rfl ?_
  refine mm_26 hS7 ma_42 hi_177_61 (by decide) (by omega) (by omega) (fun _ => hb_lo) ?_
  intro S8 hS9
  refine am_e2 (v := 39) hi_177_62 rfl ?_
  refine mm_20 (v := .ref 67) hS9 hi_177_63 rfl ?_
  refine am_e2 (v := 39) hi_177_66 rfl ?_
  refine mm_20 (v := .int (f 37)) hS9 hi_177_67 rfl ?_
  refine am_e0 hi_177_70 ?_
  refine mm_26 hS9 ma_43 hi_177_71 (by decide) (by omega) (by omega) (fun h => nomatch h) ?_
  intro S10 hS11
  refine am_e2 (v := 39) hi_177_72 rfl ?_
  refine am_e7 hi_177_73 ?_
  refine mm_20 (v := .int (f 37)) hS11 hi_177_74 rfl ?_
  refine am_e0 hi_177_77 ?_
  obtain ⟨z12, hz12, tz12⟩ := am_addI (x := f 37) (y := 1) (m := (f 37).toInt) (n := (1 : Int)) rfl (by decide) (by omega) (by omega)
  refine am_e10 (z := z12) hi_177_78 hz12 ?_
  refine mm_21 (v := z12) hS11 hi_177_79 rfl (Nat.le_of_ble_eq_true rfl) ms_37 ?_
  intro S13 hS14
  refine am_e35 hi_177_82 ?_
  exact ⟨z12, _, rfl, hS14, (rj_begin hR (by omega) (by omega) (by omega) ⟨by omega, by omega⟩ (by omega)), (by show z12.toInt = (f 37).toInt + 1; omega), (by intro j hj; simp only [List.mem_cons, List.not_mem_nil, or_false, not_or] at hj; simp only [upg, hj, if_false]), rfl⟩
set_option maxHeartbeats 8000000 in
theorem ct_body {sc : Nat × (Nat → Int32)} {d : Nat} {S0 S : am_S} {f : Nat → Int32} {g : Nat → Nat → Int32} {sf : Int32} {w : Int32} {gs : List mg_E} {bc : List (List Nat)} {fl : List Nat} {fk : Int} {pj : List Nat} (hS : MS S0 S f g) (hR : RJ f g gs bc fl fk pj) (hb_sf : sf = 0 ∨ sf = 1) (p0 : (0 : Int) ≤ (f 32).toInt) (p1 : (f 32).toInt ≤ (62 : Int)) (p2 : (1 : Int) ≤ (f 53).toInt) (p3 : (f 53).toInt ≤ (4095 : Int)) (p4 : (0 : Int) ≤ (f 4).toInt) (p5 : (f 0).toInt ≤ (16384 : Int)) (p6 : (0 : Int) ≤ (f 5).toInt) (p7 : (f 5).toInt ≤ (48 : Int)) (p8 : (f 4).toInt ≤ (f 0).toInt) (p9 : (f 0).toInt ≤ (512 : Int)) (p10 : (0 : Int) ≤ (f 24).toInt) (p11 : (f 24).toInt ≤ (4000 : Int)) (p12 : (0 : Int) ≤ (f 44).toInt) (p13 : (f 44).toInt ≤ (f 4).toInt) (p14 : (0 : Int) ≤ (f 48).toInt) (p15 : (f 48).toInt ≤ (f 4).toInt) (p16 : (0 : Int) ≤ (f 37).toInt) (p17 : (f 37).toInt ≤ (126 : Int)) (p18 : (0 : Int) ≤ (f 10).toInt) (p19 : (f 10).toInt ≤ (65533 : Int)) (p20 : (0 : Int) ≤ (f 68).toInt) : am_E (am_PP sc) (d + 4) 195 0 [some (.ref 39), some (.int sf), some (.int w), none, none] [] S (am_N fun v S1 => (∃ z : Int32, ∃ y : Int32, ∃ a : Int32, ∃ b : Int32, ∃ t : Int32, ∃ l : Int32, ∃ i_ : Int32, ∃ dd : Int32, ∃ bz : Int32, ∃ mm : Int32, ∃ g' : Nat → Nat → Int32, v = none ∧ MS S0 S1 (upd (upd (upd (upd (upd (upd (upd (upd (upd (upd f 4 z) 5 y) 8 a) 9 b) 10 t) 24 l) 31 i_) 32 dd) 37 bz) 53 mm) g' ∧ (RJ (upd (upd (upd (upd (upd (upd (upd (upd (upd (upd f 4 z) 5 y) 8 a) 9 b) 10 t) 24 l) 31 i_) 32 dd) 37 bz) 53 mm) g' ((1, 0, 0, 0, []) :: (40, (f 4).toInt, 0, 0, []) :: gs) ([] :: bc) fl fk pj) ∧ ((f 4).toInt + 2 ≤ z.toInt) ∧ (z.toInt ≤ (f 0).toInt) ∧ (y.toInt = (f 5).toInt) ∧ ((f 24).toInt ≤ l.toInt) ∧ (l.toInt + (f 4).toInt ≤ (f 24).toInt + z.toInt) ∧ (t.toInt = (f 10).toInt + 2) ∧ (dd.toInt = (f 32).toInt + 1) ∧ (bz.toInt = (f 37).toInt + 1) ∧ (mm.toInt = (f 53).toInt + 1) ∧ (∀ j, j ∉ [11, 12, 13, 14, 25, 26, 27, 28, 29, 30, 33, 34, 35, 36, 38, 39, 40, 41, 42, 43, 54, 55, 56, 58, 59, 60, 67] → g' j = g j) ∧ (g' 34 = upd (g 34) dd.toNatClampNeg (f 24)) ∧ (g' 38 = upd (g 38) (f 37).toNatClampNeg (f 24))) ∨ (∃ a : Int32, ∃ b : Int32, v = none ∧ MS S0 S1 (upd (upd (upd f 6 a) 7 b) 10 0) g ∧ (RJ (upd (upd (upd f 6 a) 7 b) 10 0) g [] bc [] 0 [])) ∨ (∃ z : Int32, ∃ y : Int32, ∃ u : Int32, ∃ v_ : Int32, ∃ a : Int32, ∃ b : Int32, ∃ l : Int32, ∃ i_ : Int32, ∃ dd : Int32, ∃ bz : Int32, ∃ mm : Int32, ∃ g' : Nat → Nat → Int32, v = none ∧ MS S0 S1 (upd (upd (upd (upd (upd (upd (upd (upd (upd (upd (upd (upd f 4 z) 5 y) 6 u) 7 v_) 8 a) 9 b) 10 0) 24 l) 31 i_) 32 dd) 37 bz) 53 mm) g' ∧ (RJ (upd (upd (upd (upd (upd (upd (upd (upd (upd (upd (upd (upd f 4 z) 5 y) 6 u) 7 v_) 8 a) 9 b) 10 0) 24 l) 31 i_) 32 dd) 37 bz) 53 mm) g' [] ([] :: bc) [] 0 []) ∧ ((f 4).toInt ≤ z.toInt) ∧ (z.toInt ≤ (f 0).toInt) ∧ (dd.toInt = (f 32).toInt + 1) ∧ (bz.toInt = (f 37).toInt + 1) ∧ (mm.toInt = (f 53).toInt + 1) ∧ (∀ j, j ∉ [11, 12, 13, 14, 25, 26, 27, 28, 29, 30, 33, 34, 35, 36, 38, 39, 40, 41, 42, 43, 54, 55, 56, 58, 59, 60, 67] → g' j = g j))) := by
  refine am_e2 (v := 39) hi_195_0 rfl ?_
  refine mm_20 (v := .int (f 4)) hS hi_195_1 rfl ?_
  refine am_e3 (ls' := [some (.ref 39), some (.int sf), some (.int w), some (.int (f 4)), none]) hi_195_4 (Nat.le_of_ble_eq_true rfl) rfl ?_
  refine am_e2 (v := 39) hi_195_5 rfl ?_
  refine am_e0 hi_195_6 ?_
  refine am_e32n (as := [.ref 39, .int 60]) (la := [some (.ref 39), some (.int 60)]) (rest := []) hi_195_8 (am_hd0 (M := 195) (by decide) 8) (Nat.le_of_ble_eq_true rfl) (Nat.le_of_ble_eq_true rfl) (show 2 ≤ am_P0.2.2.1 193 from by decide +kernel) rfl (am_recv_ok hS.fs) rfl rfl (ct_enter (d := (d + 1)) hS   (by show (0 : Int) ≤ (f 4).toInt; omega) (by show (f 0).toInt ≤ (16384 : Int); omega) (by show (0 : Int) ≤ (60 : Int); omega) (by show (0 : Int) ≤ (f 5).toInt; omega) (by show (f 5).toInt ≤ (48 : Int); omega)) ?_
  rintro v0 S1 (⟨z2, y3, hv4, hS5, h6, h7, h8, h9⟩ | ⟨a11, b12, hv13, hS14⟩)
  · subst hv4
    have h6_ : z2.toInt = (f 4).toInt + 1 := h6
    have h7_ : (f 4).toInt < (f 0).toInt := h7
    have h8_ : y3.toInt = (f 5).toInt + 1 := h8
    have h9_ : y3.toInt ≤ (48 : Int) := h9
    replace hS5 : MS S0 S1 (upd (upd f 4 z2) 5 y3) g := hS5
    have hR16 : RJ (upd (upd f 4 z2) 5 y3) g gs bc fl fk pj := RJ.at hR (by show (f 4).toInt ≤ z2.toInt; omega)
    show am_E _ _ _ _ [some (.ref 39), some (.int sf), some (.int w), some (.int (f 4)), none] [.int 1] _ _
    refine am_e12t hi_195_11 (by decide) ?_
    refine am_e2 (v := 39) hi_195_15 rfl ?_
    refine mm_20 (v := .int (f 53)) hS5 hi_195_16 rfl ?_
    refine am_e3 (ls' := [some (.ref 39), some (.int sf), some (.int w), some (.int (f 4)), some (.int (f 53))]) hi_195_19 (Nat.le_of_ble_eq_true rfl) rfl ?_
    refine am_e2 (v := 39) hi_195_21 rfl ?_
    refine am_e7 hi_195_22 ?_
    refine mm_20 (v := .int (f 53)) hS5 hi_195_23 rfl ?_
    refine am_e0 hi_195_26 ?_
    obtain ⟨z17, hz17, tz17⟩ := am_addI (x := f 53) (y := 1) (m := (f 53).toInt) (n := (1 : Int)) rfl (by decide) (by omega) (by omega)
    refine am_e10 (z := z17) hi_195_27 hz17 ?_
    refine mm_21 (v := z17) hS5 hi_195_28 rfl (Nat.le_of_ble_eq_true rfl) ms_53 ?_
    intro S18 hS19
    refine am_e2 (v := 39) hi_195_31 rfl ?_
    refine mm_20 (v := .ref 75) hS19 hi_195_32 rfl ?_
    refine am_e1 (v := f 53) hi_195_35 rfl ?_
    refine am_e2 (v := 39) hi_195_37 rfl ?_
    refine mm_20 (v := .ref 58) hS19 hi_195_38 rfl ?_
    refine am_e2 (v := 39) hi_195_41 rfl ?_
    refine mm_20 (v := .int (f 32)) hS19 hi_195_42 rfl ?_
    refine mm_25 hS19 ma_33 hi_195_45 (by decide) (by omega) (by omega) ?_
    show am_E _ _ _ _ [some (.ref 39), some (.int sf), some (.int w), some (.int (f 4)), some (.int (f 53))] [.int (g 33 (f 32).toNatClampNeg), .int (f 53), .ref 75] _ _
    have r20 : 0 ≤ (g 33 (f 32).toNatClampNeg).toInt ∧ (g 33 (f 32).toNatClampNeg).toInt < (f 53).toInt := RJ.fn (i := f 32) hR16 (by omega) (by show (f 32).toInt ≤ (f 32).toInt; omega)
    refine mm_26 hS19 ma_54 hi_195_46 (by decide) (by omega) (by omega) (fun h => nomatch h) ?_
    intro S21 hS22
    refine am_e2 (v := 39) hi_195_47 rfl ?_
    refine mm_20 (v := .ref 80) hS22 hi_195_48 rfl ?_
    refine am_e1 (v := f 53) hi_195_51 rfl ?_
    refine am_e1 (v := w) hi_195_53 rfl ?_
    refine mm_26 hS22 ma_59 hi_195_54 (by decide) (by omega) (by omega) (fun h => nomatch h) ?_
    intro S23 hS24
    refine am_e2 (v := 39) hi_195_55 rfl ?_
    refine mm_20 (v := .ref 76) hS24 hi_195_56 rfl ?_
    refine am_e1 (v := f 53) hi_195_59 rfl ?_
    refine am_e0 hi_195_61 ?_
    refine mm_26 hS24 ma_55 hi_195_62 (by decide) (by omega) (by omega) (fun h => nomatch h) ?_
    intro S25 hS26
    refine am_e2 (v := 39) hi_195_63 rfl ?_
    refine mm_20 (v := .ref 77) hS26 hi_195_64 rfl ?_
    refine am_e1 (v := f 53) hi_195_67 rfl ?_
    refine am_e0 hi_195_69 ?_
    refine mm_26 hS26 ma_56 hi_195_70 (by decide) (by omega) (by omega) (fun h => nomatch h) ?_
    intro S27 hS28
    refine am_e2 (v := 39) hi_195_71 rfl ?_
    refine mm_20 (v := .ref 79) hS28 hi_195_72 rfl ?_
    refine am_e1 (v := f 53) hi_195_75 rfl ?_
    refine am_e0 hi_195_77 ?_
    refine mm_26 hS28 ma_58 hi_195_78 (by decide) (by omega) (by omega) (fun h => nomatch h) ?_
    intro S29 hS30
    refine am_e2 (v := 39) hi_195_79 rfl ?_
    refine mm_20 (v := .ref 81) hS30 hi_195_80 rfl ?_
    refine am_e1 (v := f 53) hi_195_83 rfl ?_
    refine am_e0 hi_195_85 ?_
    refine mm_26 hS30 ma_60 hi_195_86 (by decide) (by omega) (by omega) (fun h => nomatch h) ?_
    intro S31 hS32
    refine am_e2 (v := 39) hi_195_87 rfl ?_
    refine mm_20 (v := .ref 87) hS32 hi_195_88 rfl ?_
    refine am_e1 (v := f 53) hi_195_91 rfl ?_
    refine am_e0 hi_195_93 ?_
    refine mm_26 hS32 ma_67 hi_195_94 (by decide) (by omega) (by omega) (fun h => nomatch h) ?_
    intro S33 hS34
    refine am_e2 (v := 39) hi_195_95 rfl ?_
    refine am_e7 hi_195_96 ?_
    refine mm_20 (v := .int (f 32)) hS34 hi_195_97 rfl ?_
    refine am_e0 hi_195_100 ?_
    obtain ⟨z35, hz35, tz35⟩ := am_addI (x := f 32) (y := 1) (m := (f 32).toInt) (n := (1 : Int)) rfl (by decide) (by omega) (by omega)
    refine am_e10 (z := z35) hi_195_101 hz35 ?_
    refine mm_21 (v := z35) hS34 hi_195_102 rfl (Nat.le_of_ble_eq_true rfl) ms_32 ?_
    intro S36 hS37
    replace hS37 : MS S0 S36 (upd (upd (upd (upd f 4 z2) 5 y3) 32 z35) 53 z17) (upg (upg (upg (upg (upg (upg (upg g 54 (f 53).toNatClampNeg (g 33 (f 32).toNatClampNeg)) 59 (f 53).toNatClampNeg w) 55 (f 53).toNatClampNeg 0) 56 (f 53).toNatClampNeg 0) 58 (f 53).toNatClampNeg 0) 60 (f 53).toNatClampNeg 0) 67 (f 53).toNatClampNeg 0) := hS37
    refine am_e2 (v := 39) hi_195_105 rfl ?_
    refine mm_20 (v := .ref 58) hS37 hi_195_106 rfl ?_
    refine am_e2 (v := 39) hi_195_109 rfl ?_
    refine mm_20 (v := .int z35) hS37 hi_195_110 rfl ?_
    refine am_e1 (v := f 53) hi_195_113 rfl ?_
    refine mm_26 hS37 ma_33 hi_195_115 (by decide) (by omega) (by omega) (fun h => nomatch h) ?_
    intro S38 hS39
    refine am_e2 (v := 39) hi_195_116 rfl ?_
    refine mm_20 (v := .ref 59) hS39 hi_195_117 rfl ?_
    refine am_e2 (v := 39) hi_195_120 rfl ?_
    refine mm_20 (v := .int z35) hS39 hi_195_121 rfl ?_
    refine am_e2 (v := 39) hi_195_124 rfl ?_
    refine mm_20 (v := .int (f 24)) hS39 hi_195_125 rfl ?_
    refine mm_26 hS39 ma_34 hi_195_128 (by decide) (by omega) (by omega) (fun h => nomatch h) ?_
    intro S40 hS41
    refine am_e2 (v := 39) hi_195_129 rfl ?_
    refine mm_20 (v := .ref 60) hS41 hi_195_130 rfl ?_
    refine am_e2 (v := 39) hi_195_133 rfl ?_
    refine mm_20 (v := .int z35) hS41 hi_195_134 rfl ?_
    refine am_e2 (v := 39) hi_195_137 rfl ?_
    refine mm_20 (v := .int (f 44)) hS41 hi_195_138 rfl ?_
    refine mm_26 hS41 ma_35 hi_195_141 (by decide) (by omega) (by omega) (fun h => nomatch h) ?_
    intro S42 hS43
    refine am_e2 (v := 39) hi_195_142 rfl ?_
    refine mm_20 (v := .ref 61) hS43 hi_195_143 rfl ?_
    refine am_e2 (v := 39) hi_195_146 rfl ?_
    refine mm_20 (v := .int z35) hS43 hi_195_147 rfl ?_
    refine am_e2 (v := 39) hi_195_150 rfl ?_
    refine mm_20 (v := .int (f 48)) hS43 hi_195_151 rfl ?_
    refine mm_26 hS43 ma_36 hi_195_154 (by decide) (by omega) (by omega) (fun h => nomatch h) ?_
    intro S44 hS45
    have hR46 : RJ (upd (upd (upd (upd f 4 z2) 5 y3) 32 z35) 53 z17) (upg (upg (upg (upg (upg (upg (upg (upg (upg (upg (upg g 54 (f 53).toNatClampNeg (g 33 (f 32).toNatClampNeg)) 59 (f 53).toNatClampNeg w) 55 (f 53).toNatClampNeg 0) 56 (f 53).toNatClampNeg 0) 58 (f 53).toNatClampNeg 0) 60 (f 53).toNatClampNeg 0) 67 (f 53).toNatClampNeg 0) 33 z35.toNatClampNeg (f 53)) 34 z35.toNatClampNeg (f 24)) 35 z35.toNatClampNeg (f 44)) 36 z35.toNatClampNeg (f 48)) gs bc fl fk pj := rj_body (G := (upg (upg (upg (upg (upg (upg (upg (upg (upg (upg (upg g 54 (f 53).toNatClampNeg (g 33 (f 32).toNatClampNeg)) 59 (f 53).toNatClampNeg w) 55 (f 53).toNatClampNeg 0) 56 (f 53).toNatClampNeg 0) 58 (f 53).toNatClampNeg 0) 60 (f 53).toNatClampNeg 0) 67 (f 53).toNatClampNeg 0) 33 z35.toNatClampNeg (f 53)) 34 z35.toNatClampNeg (f 24)) 35 z35.toNatClampNeg (f 44)) 36 z35.toNatClampNeg (f 48))) hR16 (by show z17.toInt = (f 53).toInt + 1; omega) (by show z35.toInt = (f 32).toInt + 1; omega) (by show 0 ≤ (f 32).toInt; omega) (by show 0 ≤ (f 53).toInt; omega) (by show 0 ≤ (f 24).toInt; omega) (by show 0 ≤ (f 44).toInt; omega) (by show 0 ≤ (f 48).toInt; omega) (by intro j hj; simp only [List.mem_cons, List.not_mem_nil, or_false] at hj; rcases hj with rfl | rfl | rfl | rfl | rfl | rfl | rfl | rfl | rfl | rfl | rfl | rfl | rfl | rfl | rfl | rfl <;> rfl) rfl rfl rfl rfl rfl rfl
    refine am_e2 (v := 39) hi_195_155 rfl ?_
    refine am_e0 hi_195_156 ?_
    refine am_e32n (as := [.ref 39, .int 0]) (la := [some (.ref 39), some (.int 0)]) (rest := []) hi_195_157 (am_hd0 (M := 195) (by decide) 157) (Nat.le_of_ble_eq_true rfl) (Nat.le_of_ble_eq_true rfl) (show 2 ≤ am_P0.2.2.1 177 from by decide +kernel) rfl (am_recv_ok hS45.fs) rfl rfl (ct_beginBlock2 (d := (d + 3)) hS45 hR46 (by decide)  (by show (0 : Int) ≤ (f 37).toInt; omega) (by show (f 37).toInt ≤ (127 : Int); omega) (by show (0 : Int) ≤ (f 24).toInt; omega) (by show (0 : Int) ≤ (f 44).toInt; omega) (by show (f 44).toInt ≤ z2.toInt; omega) (by show (0 : Int) ≤ (f 48).toInt; omega)) ?_
    rintro v47 S48 (⟨z49, g'50, hv51, hS52, hR56, h53, h54, h55⟩)
    subst hv51
    have h53_ : z49.toInt = (f 37).toInt + 1 := h53
    have h54_ : ∀ j, j ∉ [38, 39, 40, 41, 42, 43] → g'50 j = (upg (upg (upg (upg (upg (upg (upg (upg (upg (upg (upg g 54 (f 53).toNatClampNeg (g 33 (f 32).toNatClampNeg)) 59 (f 53).toNatClampNeg w) 55 (f 53).toNatClampNeg 0) 56 (f 53).toNatClampNeg 0) 58 (f 53).toNatClampNeg 0) 60 (f 53).toNatClampNeg 0) 67 (f 53).toNatClampNeg 0) 33 z35.toNatClampNeg (f 53)) 34 z35.toNatClampNeg (f 24)) 35 z35.toNatClampNeg (f 44)) 36 z35.toNatClampNeg (f 48)) j := h54
    have h55_ : g'50 38 = upd ((upg (upg (upg (upg (upg (upg (upg (upg (upg (upg (upg g 54 (f 53).toNatClampNeg (g 33 (f 32).toNatClampNeg)) 59 (f 53).toNatClampNeg w) 55 (f 53).toNatClampNeg 0) 56 (f 53).toNatClampNeg 0) 58 (f 53).toNatClampNeg 0) 60 (f 53).toNatClampNeg 0) 67 (f 53).toNatClampNeg 0) 33 z35.toNatClampNeg (f 53)) 34 z35.toNatClampNeg (f 24)) 35 z35.toNatClampNeg (f 44)) 36 z35.toNatClampNeg (f 48)) 38) (f 37).toNatClampNeg (f 24) := h55
    replace hS52 : MS S0 S48 (upd (upd (upd (upd (upd f 4 z2) 5 y3) 32 z35) 37 z49) 53 z17) g'50 := hS52
    have hR56_ : RJ (upd (upd (upd (upd (upd f 4 z2) 5 y3) 32 z35) 37 z49) 53 z17) g'50 gs ([] :: bc) fl fk pj := hR56
    show am_E _ _ _ _ [some (.ref 39), some (.int sf), some (.int w), some (.int (f 4)), some (.int (f 53))] [] _ _
    refine am_e1 (v := sf) hi_195_160 rfl ?_
    by_cases c57 : sf.toInt = (0 : Int)
    · refine am_e12t hi_195_161 (am_cT (m := sf.toInt) (n := (0 : Int)) rfl (by decide) c57) ?_
      refine am_e2 (v := 39) hi_195_183 rfl ?_
      refine am_e32n (as := [.ref 39]) (la := [some (.ref 39)]) (rest := []) hi_195_184 (am_hd0 (M := 195) (by decide) 184) (Nat.le_of_ble_eq_true rfl) (Nat.le_of_ble_eq_true rfl) (show 1 ≤ am_P0.2.2.1 183 from by decide +kernel) rfl (am_recv_ok hS52.fs) rfl rfl (ct_next (d := (d + 2)) hS52   (by show (0 : Int) ≤ z2.toInt; omega) (by show (f 0).toInt ≤ (16384 : Int); omega)) ?_
      rintro v58 S59 (⟨r60, hv61, hS62, h63⟩)
      subst hv61
      have h63_ : z2.toInt < (f 0).toInt ∨ r60.toInt = (-1 : Int) := h63
      show am_E _ _ _ _ [some (.ref 39), some (.int sf), some (.int w), some (.int (f 4)), some (.int (f 53))] [.int r60] _ _
      refine am_e0 hi_195_187 ?_
      by_cases c65 : r60.toInt = (61 : Int)
      · refine am_e13t hi_195_189 (am_cT (m := r60.toInt) (n := (61 : Int)) rfl (by decide) c65) ?_
        refine am_e2 (v := 39) hi_195_201 rfl ?_
        refine am_e0 hi_195_202 ?_
        refine am_e32n (as := [.ref 39, .int 61]) (la := [some (.ref 39), some (.int 61)]) (rest := []) hi_195_204 (am_hd0 (M := 195) (by decide) 204) (Nat.le_of_ble_eq_true rfl) (Nat.le_of_ble_eq_true rfl) (show 2 ≤ am_P0.2.2.1 199 from by decide +kernel) rfl (am_recv_ok hS62.fs) rfl rfl (ct_leave (d := d) hS62   (by show (0 : Int) ≤ z2.toInt; omega) (by show (f 0).toInt ≤ (16384 : Int); omega) (by show (0 : Int) ≤ (61 : Int); omega) (by show (0 : Int) ≤ y3.toInt; omega) (by show y3.toInt ≤ (48 : Int); omega)) ?_
        rintro v66 S67 (⟨z68, y69, hv70, hS71, h72, h73, h74⟩ | ⟨a76, b77, hv78, hS79⟩)
        · subst hv70
          have h72_ : z68.toInt = z2.toInt + 1 := h72
          have h73_ : z2.toInt < (f 0).toInt := h73
          have h74_ : y69.toInt = y3.toInt - 1 := h74
          replace hS71 : MS S0 S67 (upd (upd (upd (upd (upd f 4 z68) 5 y69) 32 z35) 37 z49) 53 z17) g'50 := hS71
          have hR81 : RJ (upd (upd (upd (upd (upd f 4 z68) 5 y69) 32 z35) 37 z49) 53 z17) g'50 gs ([] :: bc) fl fk pj := RJ.at hR56_ (by show z2.toInt ≤ z68.toInt; omega)
          show am_E _ _ _ _ [some (.ref 39), some (.int sf), some (.int w), some (.int (f 4)), some (.int (f 53))] [.int 1] _ _
          refine am_e12t hi_195_207 (by decide) ?_
          refine am_e2 (v := 39) hi_195_211 rfl ?_
          refine am_e0 hi_195_212 ?_
          refine am_e1 (v := f 4) hi_195_214 rfl ?_
          refine am_e0 hi_195_215 ?_
          refine am_e0 hi_195_216 ?_
          refine am_e32n (as := [.ref 39, .int 40, .int (f 4), .int 0, .int 0]) (la := [some (.ref 39), some (.int 40), some (.int (f 4)), some (.int 0), some (.int 0)]) (rest := []) hi_195_217 (am_hd0 (M := 195) (by decide) 217) (Nat.le_of_ble_eq_true rfl) (Nat.le_of_ble_eq_true rfl) (show 5 ≤ am_P0.2.2.1 179 from by decide +kernel) rfl (am_recv_ok hS71.fs) rfl rfl (ct_pile (d := (d + 3)) hS71 hR81 (mj_e_plain (by decide)) (by show (0 : Int) ≤ (f 10).toInt; omega) (by show (f 10).toInt ≤ (65535 : Int); omega)) ?_
          rintro v82 S83 (⟨z84, g'85, hv86, hS87, hR90, h88, h89⟩)
          subst hv86
          have h88_ : z84.toInt = (f 10).toInt + 1 := h88
          have h89_ : ∀ j, j ∉ [11, 12, 13, 14] → g'85 j = g'50 j := h89
          replace hS87 : MS S0 S83 (upd (upd (upd (upd (upd (upd f 4 z68) 5 y69) 10 z84) 32 z35) 37 z49) 53 z17) g'85 := hS87
          have hR90_ : RJ (upd (upd (upd (upd (upd (upd f 4 z68) 5 y69) 10 z84) 32 z35) 37 z49) 53 z17) g'85 (((40 : Int), (f 4).toInt, (0 : Int), (0 : Int), []) :: gs) ([] :: bc) fl fk pj := hR90
          show am_E _ _ _ _ [some (.ref 39), some (.int sf), some (.int w), some (.int (f 4)), some (.int (f 53))] [] _ _
          refine am_e2 (v := 39) hi_195_220 rfl ?_
          refine am_e32w (as := [.ref 39]) (la := [some (.ref 39)]) (rest := []) hi_195_221 (am_hd0 (M := 195) (by decide) 221) (Nat.le_of_ble_eq_true rfl) (Nat.le_of_ble_eq_true rfl) (show 1 ≤ am_P0.2.2.1 178 from by decide +kernel) rfl (am_recv_ok hS87.fs) rfl rfl ?_
          refine am_e2 (v := 39) hi_178_0 rfl ?_
          refine am_e0 hi_178_1 ?_
          refine am_e0 hi_178_2 ?_
          refine am_e0 hi_178_3 ?_
          refine am_e0 hi_178_4 ?_
          refine am_e32n (as := [.ref 39, .int 1, .int 0, .int 0, .int 0]) (la := [some (.ref 39), some (.int 1), some (.int 0), some (.int 0), some (.int 0)]) (rest := []) hi_178_5 (am_hd0 (M := 178) (by decide) 5) (Nat.le_of_ble_eq_true rfl) (Nat.le_of_ble_eq_true rfl) (show 5 ≤ am_P0.2.2.1 179 from by decide +kernel) rfl (am_recv_ok hS87.fs) rfl rfl (ct_pile (d := (d + 2)) hS87 hR90_ (mj_e_plain (by decide)) (by show (0 : Int) ≤ z84.toInt; omega) (by show z84.toInt ≤ (65535 : Int); omega)) ?_
          rintro v91 S92 (⟨z93, g'94, hv95, hS96, hR99, h97, h98⟩)
          subst hv95
          have h97_ : z93.toInt = z84.toInt + 1 := h97
          have h98_ : ∀ j, j ∉ [11, 12, 13, 14] → g'94 j = g'85 j := h98
          replace hS96 : MS S0 S92 (upd (upd (upd (upd (upd (upd f 4 z68) 5 y69) 10 z93) 32 z35) 37 z49) 53 z17) g'94 := hS96
          have hR99_ : RJ (upd (upd (upd (upd (upd (upd f 4 z68) 5 y69) 10 z93) 32 z35) 37 z49) 53 z17) g'94 (((1 : Int), (0 : Int), (0 : Int), (0 : Int), []) :: (((40 : Int), (f 4).toInt, (0 : Int), (0 : Int), []) :: gs)) ([] :: bc) fl fk pj := hR99
          show am_E _ _ _ _ [some (.ref 39)] [] _ _
          refine am_e35 hi_178_8 ?_
          show am_E _ _ _ _ [some (.ref 39), some (.int sf), some (.int w), some (.int (f 4)), some (.int (f 53))] [] _ _
          refine am_e35 hi_195_224 ?_
          exact Or.inl ⟨z68, y69, (f 8), (f 9), z93, (f 24), (f 31), z35, z49, z17, _, rfl, hS96, hR99_, (by show (f 4).toInt + 2 ≤ z68.toInt; omega), (by show z68.toInt ≤ (f 0).toInt; omega), (by show y69.toInt = (f 5).toInt; omega), (by show (f 24).toInt ≤ ((f 24)).toInt; omega), (by show ((f 24)).toInt + (f 4).toInt ≤ (f 24).toInt + z68.toInt; omega), (by show z93.toInt = (f 10).toInt + 2; omega), (by show z35.toInt = (f 32).toInt + 1; omega), (by show z49.toInt = (f 37).toInt + 1; omega), (by show z17.toInt = (f 53).toInt + 1; omega), (fun j hj => ((show ∀ j, j ∉ [11, 12, 13, 14, 25, 26, 27, 28, 29, 30, 33, 34, 35, 36, 38, 39, 40, 41, 42, 43, 54, 55, 56, 58, 59, 60, 67] → g'94 j = g'85 j from fun j hj => h98_ j (fun q => hj (mem_sub (L := [11, 12, 13, 14]) (L' := [11, 12, 13, 14, 25, 26, 27, 28, 29, 30, 33, 34, 35, 36, 38, 39, 40, 41, 42, 43, 54, 55, 56, 58, 59, 60, 67]) (by decide) q))) j hj).trans ((fun j hj => ((show ∀ j, j ∉ [11, 12, 13, 14, 25, 26, 27, 28, 29, 30, 33, 34, 35, 36, 38, 39, 40, 41, 42, 43, 54, 55, 56, 58, 59, 60, 67] → g'85 j = g'50 j from fun j hj => h89_ j (fun q => hj (mem_sub (L := [11, 12, 13, 14]) (L' := [11, 12, 13, 14, 25, 26, 27, 28, 29, 30, 33, 34, 35, 36, 38, 39, 40, 41, 42, 43, 54, 55, 56, 58, 59, 60, 67]) (by decide) q))) j hj).trans ((fun j hj => ((show ∀ j, j ∉ [11, 12, 13, 14, 25, 26, 27, 28, 29, 30, 33, 34, 35, 36, 38, 39, 40, 41, 42, 43, 54, 55, 56, 58, 59, 60, 67] → g'50 j = (upg (upg (upg (upg (upg (upg (upg (upg (upg (upg (upg g 54 (f 53).toNatClampNeg (g 33 (f 32).toNatClampNeg)) 59 (f 53).toNatClampNeg w) 55 (f 53).toNatClampNeg 0) 56 (f 53).toNatClampNeg 0) 58 (f 53).toNatClampNeg 0) 60 (f 53).toNatClampNeg 0) 67 (f 53).toNatClampNeg 0) 33 z35.toNatClampNeg (f 53)) 34 z35.toNatClampNeg (f 24)) 35 z35.toNatClampNeg (f 44)) 36 z35.toNatClampNeg (f 48)) j from fun j hj => h54_ j (fun q => hj (mem_sub (L := [38, 39, 40, 41, 42, 43]) (L' := [11, 12, 13, 14, 25, 26, 27, 28, 29, 30, 33, 34, 35, 36, 38, 39, 40, 41, 42, 43, 54, 55, 56, 58, 59, 60, 67]) (by decide) q))) j hj).trans ((show ∀ j, j ∉ [11, 12, 13, 14, 25, 26, 27, 28, 29, 30, 33, 34, 35, 36, 38, 39, 40, 41, 42, 43, 54, 55, 56, 58, 59, 60, 67] → (upg (upg (upg (upg (upg (upg (upg (upg (upg (upg (upg g 54 (f 53).toNatClampNeg (g 33 (f 32).toNatClampNeg)) 59 (f 53).toNatClampNeg w) 55 (f 53).toNatClampNeg 0) 56 (f 53).toNatClampNeg 0) 58 (f 53).toNatClampNeg 0) 60 (f 53).toNatClampNeg 0) 67 (f 53).toNatClampNeg 0) 33 z35.toNatClampNeg (f 53)) 34 z35.toNatClampNeg (f 24)) 35 z35.toNatClampNeg (f 44)) 36 z35.toNatClampNeg (f 48)) j = g j from by intro j hj; simp only [List.mem_cons, List.not_mem_nil, or_false, not_or] at hj; simp only [upg, hj, if_false]) j hj)) j hj)) j hj)), (Eq.trans (h98_ 34 (by decide)) (Eq.trans (h89_ 34 (by decide)) (Eq.trans (h54_ 34 (by decide)) rfl))), (Eq.trans (h98_ 38 (by decide)) (Eq.trans (h89_ 38 (by decide)) h55_))⟩
        · subst hv78
          replace hS79 : MS S0 S67 (upd (upd (upd (upd (upd (upd (upd (upd f 4 z2) 5 y3) 6 a76) 7 b77) 10 0) 32 z35) 37 z49) 53 z17) g'50 := hS79
          show am_E _ _ _ _ [some (.ref 39), some (.int sf), some (.int w), some (.int (f 4)), some (.int (f 53))] [.int 0] _ _
          refine am_e12f hi_195_207 (by decide) ?_
          refine am_e35 hi_195_210 ?_
          have hRc := rj_clear0 hR56_
          exact Or.inr (Or.inr (⟨z2, y3, a76, b77, (f 8), (f 9), (f 24), (f 31), z35, z49, z17, _, rfl, hS79, hRc, (by show (f 4).toInt ≤ z2.toInt; omega), (by show z2.toInt ≤ (f 0).toInt; omega), (by show z35.toInt = (f 32).toInt + 1; omega), (by show z49.toInt = (f 37).toInt + 1; omega), (by show z17.toInt = (f 53).toInt + 1; omega), (fun j hj => ((show ∀ j, j ∉ [11, 12, 13, 14, 25, 26, 27, 28, 29, 30, 33, 34, 35, 36, 38, 39, 40, 41, 42, 43, 54, 55, 56, 58, 59, 60, 67] → g'50 j = (upg (upg (upg (upg (upg (upg (upg (upg (upg (upg (upg g 54 (f 53).toNatClampNeg (g 33 (f 32).toNatClampNeg)) 59 (f 53).toNatClampNeg w) 55 (f 53).toNatClampNeg 0) 56 (f 53).toNatClampNeg 0) 58 (f 53).toNatClampNeg 0) 60 (f 53).toNatClampNeg 0) 67 (f 53).toNatClampNeg 0) 33 z35.toNatClampNeg (f 53)) 34 z35.toNatClampNeg (f 24)) 35 z35.toNatClampNeg (f 44)) 36 z35.toNatClampNeg (f 48)) j from fun j hj => h54_ j (fun q => hj (mem_sub (L := [38, 39, 40, 41, 42, 43]) (L' := [11, 12, 13, 14, 25, 26, 27, 28, 29, 30, 33, 34, 35, 36, 38, 39, 40, 41, 42, 43, 54, 55, 56, 58, 59, 60, 67]) (by decide) q))) j hj).trans ((show ∀ j, j ∉ [11, 12, 13, 14, 25, 26, 27, 28, 29, 30, 33, 34, 35, 36, 38, 39, 40, 41, 42, 43, 54, 55, 56, 58, 59, 60, 67] → (upg (upg (upg (upg (upg (upg (upg (upg (upg (upg (upg g 54 (f 53).toNatClampNeg (g 33 (f 32).toNatClampNeg)) 59 (f 53).toNatClampNeg w) 55 (f 53).toNatClampNeg 0) 56 (f 53).toNatClampNeg 0) 58 (f 53).toNatClampNeg 0) 60 (f 53).toNatClampNeg 0) 67 (f 53).toNatClampNeg 0) 33 z35.toNatClampNeg (f 53)) 34 z35.toNatClampNeg (f 24)) 35 z35.toNatClampNeg (f 44)) 36 z35.toNatClampNeg (f 48)) j = g j from by intro j hj; simp only [List.mem_cons, List.not_mem_nil, or_false, not_or] at hj; simp only [upg, hj, if_false]) j hj))⟩))
      · refine am_e13f hi_195_189 (am_cF (m := r60.toInt) (n := (61 : Int)) rfl (by decide) c65) ?_
        refine am_e2 (v := 39) hi_195_192 rfl ?_
        refine am_e1 (v := f 53) hi_195_193 rfl ?_
        refine am_e32n (as := [.ref 39, .int (f 53)]) (la := [some (.ref 39), some (.int (f 53)), none]) (rest := []) hi_195_195 (am_hd0 (M := 195) (by decide) 195) (Nat.le_of_ble_eq_true rfl) (Nat.le_of_ble_eq_true rfl) (show 2 ≤ am_P0.2.2.1 198 from by decide +kernel) rfl (am_recv_ok hS62.fs) rfl rfl (ct_parameters (d := (d + 1)) hS62 hR56_  (by show (0 : Int) ≤ z35.toInt; omega) (by show z35.toInt ≤ (63 : Int); omega) (by show z17.toInt ≤ (4096 : Int); omega) (by show (0 : Int) ≤ z2.toInt; omega) (by show (f 0).toInt ≤ (16384 : Int); omega) (by show z2.toInt ≤ (f 0).toInt; omega) (by show (f 0).toInt ≤ (512 : Int); omega) (by show (0 : Int) ≤ (f 24).toInt; omega) (by show (f 24).toInt ≤ (8000 : Int); omega) (by show (0 : Int) ≤ (f 53).toInt; omega) (by show (f 53).toInt ≤ (4095 : Int); omega)) ?_
        rintro v100 S101 (⟨z102, a103, b104, l105, y106, g'107, hv108, hS109, hR115, h110, h111, h112, h113, h114⟩ | ⟨z116, u117, v_118, a119, b120, l121, y122, g'123, hv124, hS125, hR131, h126, h127, h128, h129, h130⟩)
        · subst hv108
          have h110_ : z2.toInt ≤ z102.toInt := h110
          have h111_ : z102.toInt ≤ (f 0).toInt := h111
          have h112_ : (f 24).toInt ≤ l105.toInt := h112
          have h113_ : l105.toInt + z2.toInt ≤ (f 24).toInt + z102.toInt := h113
          have h114_ : ∀ j, j ∉ [25, 26, 27, 28, 29, 30, 55, 56, 58] → g'107 j = g'50 j := h114
          replace hS109 : MS S0 S101 (upd (upd (upd (upd (upd (upd (upd (upd (upd f 4 z102) 5 y3) 8 a103) 9 b104) 24 l105) 31 y106) 32 z35) 37 z49) 53 z17) g'107 := hS109
          have hR115_ : RJ (upd (upd (upd (upd (upd (upd (upd (upd (upd f 4 z102) 5 y3) 8 a103) 9 b104) 24 l105) 31 y106) 32 z35) 37 z49) 53 z17) g'107 gs ([] :: bc) fl fk pj := hR115
          show am_E _ _ _ _ [some (.ref 39), some (.int sf), some (.int w), some (.int (f 4)), some (.int (f 53))] [.int 1] _ _
          refine am_e12f hi_195_198 (by decide) ?_
          refine am_e2 (v := 39) hi_195_201 rfl ?_
          refine am_e0 hi_195_202 ?_
          refine am_e32n (as := [.ref 39, .int 61]) (la := [some (.ref 39), some (.int 61)]) (rest := []) hi_195_204 (am_hd0 (M := 195) (by decide) 204) (Nat.le_of_ble_eq_true rfl) (Nat.le_of_ble_eq_true rfl) (show 2 ≤ am_P0.2.2.1 199 from by decide +kernel) rfl (am_recv_ok hS109.fs) rfl rfl (ct_leave (d := d) hS109   (by show (0 : Int) ≤ z102.toInt; omega) (by show (f 0).toInt ≤ (16384 : Int); omega) (by show (0 : Int) ≤ (61 : Int); omega) (by show (0 : Int) ≤ y3.toInt; omega) (by show y3.toInt ≤ (48 : Int); omega)) ?_
          rintro v132 S133 (⟨z134, y135, hv136, hS137, h138, h139, h140⟩ | ⟨a142, b143, hv144, hS145⟩)
          · subst hv136
            have h138_ : z134.toInt = z102.toInt + 1 := h138
            have h139_ : z102.toInt < (f 0).toInt := h139
            have h140_ : y135.toInt = y3.toInt - 1 := h140
            replace hS137 : MS S0 S133 (upd (upd (upd (upd (upd (upd (upd (upd (upd f 4 z134) 5 y135) 8 a103) 9 b104) 24 l105) 31 y106) 32 z35) 37 z49) 53 z17) g'107 := hS137
            have hR147 : RJ (upd (upd (upd (upd (upd (upd (upd (upd (upd f 4 z134) 5 y135) 8 a103) 9 b104) 24 l105) 31 y106) 32 z35) 37 z49) 53 z17) g'107 gs ([] :: bc) fl fk pj := RJ.at hR115_ (by show z102.toInt ≤ z134.toInt; omega)
            show am_E _ _ _ _ [some (.ref 39), some (.int sf), some (.int w), some (.int (f 4)), some (.int (f 53))] [.int 1] _ _
            refine am_e12t hi_195_207 (by decide) ?_
            refine am_e2 (v := 39) hi_195_211 rfl ?_
            refine am_e0 hi_195_212 ?_
            refine am_e1 (v := f 4) hi_195_214 rfl ?_
            refine am_e0 hi_195_215 ?_
            refine am_e0 hi_195_216 ?_
            refine am_e32n (as := [.ref 39, .int 40, .int (f 4), .int 0, .int 0]) (la := [some (.ref 39), some (.int 40), some (.int (f 4)), some (.int 0), some (.int 0)]) (rest := []) hi_195_217 (am_hd0 (M := 195) (by decide) 217) (Nat.le_of_ble_eq_true rfl) (Nat.le_of_ble_eq_true rfl) (show 5 ≤ am_P0.2.2.1 179 from by decide +kernel) rfl (am_recv_ok hS137.fs) rfl rfl (ct_pile (d := (d + 3)) hS137 hR147 (mj_e_plain (by decide)) (by show (0 : Int) ≤ (f 10).toInt; omega) (by show (f 10).toInt ≤ (65535 : Int); omega)) ?_
            rintro v148 S149 (⟨z150, g'151, hv152, hS153, hR156, h154, h155⟩)
            subst hv152
            have h154_ : z150.toInt = (f 10).toInt + 1 := h154
            have h155_ : ∀ j, j ∉ [11, 12, 13, 14] → g'151 j = g'107 j := h155
            replace hS153 : MS S0 S149 (upd (upd (upd (upd (upd (upd (upd (upd (upd (upd f 4 z134) 5 y135) 8 a103) 9 b104) 10 z150) 24 l105) 31 y106) 32 z35) 37 z49) 53 z17) g'151 := hS153
            have hR156_ : RJ (upd (upd (upd (upd (upd (upd (upd (upd (upd (upd f 4 z134) 5 y135) 8 a103) 9 b104) 10 z150) 24 l105) 31 y106) 32 z35) 37 z49) 53 z17) g'151 (((40 : Int), (f 4).toInt, (0 : Int), (0 : Int), []) :: gs) ([] :: bc) fl fk pj := hR156
            show am_E _ _ _ _ [some (.ref 39), some (.int sf), some (.int w), some (.int (f 4)), some (.int (f 53))] [] _ _
            refine am_e2 (v := 39) hi_195_220 rfl ?_
            refine am_e32w (as := [.ref 39]) (la := [some (.ref 39)]) (rest := []) hi_195_221 (am_hd0 (M := 195) (by decide) 221) (Nat.le_of_ble_eq_true rfl) (Nat.le_of_ble_eq_true rfl) (show 1 ≤ am_P0.2.2.1 178 from by decide +kernel) rfl (am_recv_ok hS153.fs) rfl rfl ?_
            refine am_e2 (v := 39) hi_178_0 rfl ?_
            refine am_e0 hi_178_1 ?_
            refine am_e0 hi_178_2 ?_
            refine am_e0 hi_178_3 ?_
            refine am_e0 hi_178_4 ?_
            refine am_e32n (as := [.ref 39, .int 1, .int 0, .int 0, .int 0]) (la := [some (.ref 39), some (.int 1), some (.int 0), some (.int 0), some (.int 0)]) (rest := []) hi_178_5 (am_hd0 (M := 178) (by decide) 5) (Nat.le_of_ble_eq_true rfl) (Nat.le_of_ble_eq_true rfl) (show 5 ≤ am_P0.2.2.1 179 from by decide +kernel) rfl (am_recv_ok hS153.fs) rfl rfl (ct_pile (d := (d + 2)) hS153 hR156_ (mj_e_plain (by decide)) (by show (0 : Int) ≤ z150.toInt; omega) (by show z150.toInt ≤ (65535 : Int); omega)) ?_
            rintro v157 S158 (⟨z159, g'160, hv161, hS162, hR165, h163, h164⟩)
            subst hv161
            have h163_ : z159.toInt = z150.toInt + 1 := h163
            have h164_ : ∀ j, j ∉ [11, 12, 13, 14] → g'160 j = g'151 j := h164
            replace hS162 : MS S0 S158 (upd (upd (upd (upd (upd (upd (upd (upd (upd (upd f 4 z134) 5 y135) 8 a103) 9 b104) 10 z159) 24 l105) 31 y106) 32 z35) 37 z49) 53 z17) g'160 := hS162
            have hR165_ : RJ (upd (upd (upd (upd (upd (upd (upd (upd (upd (upd f 4 z134) 5 y135) 8 a103) 9 b104) 10 z159) 24 l105) 31 y106) 32 z35) 37 z49) 53 z17) g'160 (((1 : Int), (0 : Int), (0 : Int), (0 : Int), []) :: (((40 : Int), (f 4).toInt, (0 : Int), (0 : Int), []) :: gs)) ([] :: bc) fl fk pj := hR165
            show am_E _ _ _ _ [some (.ref 39)] [] _ _
            refine am_e35 hi_178_8 ?_
            show am_E _ _ _ _ [some (.ref 39), some (.int sf), some (.int w), some (.int (f 4)), some (.int (f 53))] [] _ _
            refine am_e35 hi_195_224 ?_
            exact Or.inl ⟨z134, y135, a103, b104, z159, l105, y106, z35, z49, z17, _, rfl, hS162, hR165_, (by show (f 4).toInt + 2 ≤ z134.toInt; omega), (by show z134.toInt ≤ (f 0).toInt; omega), (by show y135.toInt = (f 5).toInt; omega), (by show (f 24).toInt ≤ l105.toInt; omega), (by show l105.toInt + (f 4).toInt ≤ (f 24).toInt + z134.toInt; omega), (by show z159.toInt = (f 10).toInt + 2; omega), (by show z35.toInt = (f 32).toInt + 1; omega), (by show z49.toInt = (f 37).toInt + 1; omega), (by show z17.toInt = (f 53).toInt + 1; omega), (fun j hj => ((show ∀ j, j ∉ [11, 12, 13, 14, 25, 26, 27, 28, 29, 30, 33, 34, 35, 36, 38, 39, 40, 41, 42, 43, 54, 55, 56, 58, 59, 60, 67] → g'160 j = g'151 j from fun j hj => h164_ j (fun q => hj (mem_sub (L := [11, 12, 13, 14]) (L' := [11, 12, 13, 14, 25, 26, 27, 28, 29, 30, 33, 34, 35, 36, 38, 39, 40, 41, 42, 43, 54, 55, 56, 58, 59, 60, 67]) (by decide) q))) j hj).trans ((fun j hj => ((show ∀ j, j ∉ [11, 12, 13, 14, 25, 26, 27, 28, 29, 30, 33, 34, 35, 36, 38, 39, 40, 41, 42, 43, 54, 55, 56, 58, 59, 60, 67] → g'151 j = g'107 j from fun j hj => h155_ j (fun q => hj (mem_sub (L := [11, 12, 13, 14]) (L' := [11, 12, 13, 14, 25, 26, 27, 28, 29, 30, 33, 34, 35, 36, 38, 39, 40, 41, 42, 43, 54, 55, 56, 58, 59, 60, 67]) (by decide) q))) j hj).trans ((fun j hj => ((show ∀ j, j ∉ [11, 12, 13, 14, 25, 26, 27, 28, 29, 30, 33, 34, 35, 36, 38, 39, 40, 41, 42, 43, 54, 55, 56, 58, 59, 60, 67] → g'107 j = g'50 j from fun j hj => h114_ j (fun q => hj (mem_sub (L := [25, 26, 27, 28, 29, 30, 55, 56, 58]) (L' := [11, 12, 13, 14, 25, 26, 27, 28, 29, 30, 33, 34, 35, 36, 38, 39, 40, 41, 42, 43, 54, 55, 56, 58, 59, 60, 67]) (by decide) q))) j hj).trans ((fun j hj => ((show ∀ j, j ∉ [11, 12, 13, 14, 25, 26, 27, 28, 29, 30, 33, 34, 35, 36, 38, 39, 40, 41, 42, 43, 54, 55, 56, 58, 59, 60, 67] → g'50 j = (upg (upg (upg (upg (upg (upg (upg (upg (upg (upg (upg g 54 (f 53).toNatClampNeg (g 33 (f 32).toNatClampNeg)) 59 (f 53).toNatClampNeg w) 55 (f 53).toNatClampNeg 0) 56 (f 53).toNatClampNeg 0) 58 (f 53).toNatClampNeg 0) 60 (f 53).toNatClampNeg 0) 67 (f 53).toNatClampNeg 0) 33 z35.toNatClampNeg (f 53)) 34 z35.toNatClampNeg (f 24)) 35 z35.toNatClampNeg (f 44)) 36 z35.toNatClampNeg (f 48)) j from fun j hj => h54_ j (fun q => hj (mem_sub (L := [38, 39, 40, 41, 42, 43]) (L' := [11, 12, 13, 14, 25, 26, 27, 28, 29, 30, 33, 34, 35, 36, 38, 39, 40, 41, 42, 43, 54, 55, 56, 58, 59, 60, 67]) (by decide) q))) j hj).trans ((show ∀ j, j ∉ [11, 12, 13, 14, 25, 26, 27, 28, 29, 30, 33, 34, 35, 36, 38, 39, 40, 41, 42, 43, 54, 55, 56, 58, 59, 60, 67] → (upg (upg (upg (upg (upg (upg (upg (upg (upg (upg (upg g 54 (f 53).toNatClampNeg (g 33 (f 32).toNatClampNeg)) 59 (f 53).toNatClampNeg w) 55 (f 53).toNatClampNeg 0) 56 (f 53).toNatClampNeg 0) 58 (f 53).toNatClampNeg 0) 60 (f 53).toNatClampNeg 0) 67 (f 53).toNatClampNeg 0) 33 z35.toNatClampNeg (f 53)) 34 z35.toNatClampNeg (f 24)) 35 z35.toNatClampNeg (f 44)) 36 z35.toNatClampNeg (f 48)) j = g j from by intro j hj; simp only [List.mem_cons, List.not_mem_nil, or_false, not_or] at hj; simp only [upg, hj, if_false]) j hj)) j hj)) j hj)) j hj)), (Eq.trans (h164_ 34 (by decide)) (Eq.trans (h155_ 34 (by decide)) (Eq.trans (h114_ 34 (by decide)) (Eq.trans (h54_ 34 (by decide)) rfl)))), (Eq.trans (h164_ 38 (by decide)) (Eq.trans (h155_ 38 (by decide)) (Eq.trans (h114_ 38 (by decide)) h55_)))⟩
          · subst hv144
            replace hS145 : MS S0 S133 (upd (upd (upd (upd (upd (upd (upd (upd (upd (upd (upd (upd f 4 z102) 5 y3) 6 a142) 7 b143) 8 a103) 9 b104) 10 0) 24 l105) 31 y106) 32 z35) 37 z49) 53 z17) g'107 := hS145
            show am_E _ _ _ _ [some (.ref 39), some (.int sf), some (.int w), some (.int (f 4)), some (.int (f 53))] [.int 0] _ _
            refine am_e12f hi_195_207 (by decide) ?_
            refine am_e35 hi_195_210 ?_
            have hRc := rj_clear0 hR115_
            exact Or.inr (Or.inr (⟨z102, y3, a142, b143, a103, b104, l105, y106, z35, z49, z17, _, rfl, hS145, hRc, (by show (f 4).toInt ≤ z102.toInt; omega), (by show z102.toInt ≤ (f 0).toInt; omega), (by show z35.toInt = (f 32).toInt + 1; omega), (by show z49.toInt = (f 37).toInt + 1; omega), (by show z17.toInt = (f 53).toInt + 1; omega), (fun j hj => ((show ∀ j, j ∉ [11, 12, 13, 14, 25, 26, 27, 28, 29, 30, 33, 34, 35, 36, 38, 39, 40, 41, 42, 43, 54, 55, 56, 58, 59, 60, 67] → g'107 j = g'50 j from fun j hj => h114_ j (fun q => hj (mem_sub (L := [25, 26, 27, 28, 29, 30, 55, 56, 58]) (L' := [11, 12, 13, 14, 25, 26, 27, 28, 29, 30, 33, 34, 35, 36, 38, 39, 40, 41, 42, 43, 54, 55, 56, 58, 59, 60, 67]) (by decide) q))) j hj).trans ((fun j hj => ((show ∀ j, j ∉ [11, 12, 13, 14, 25, 26, 27, 28, 29, 30, 33, 34, 35, 36, 38, 39, 40, 41, 42, 43, 54, 55, 56, 58, 59, 60, 67] → g'50 j = (upg (upg (upg (upg (upg (upg (upg (upg (upg (upg (upg g 54 (f 53).toNatClampNeg (g 33 (f 32).toNatClampNeg)) 59 (f 53).toNatClampNeg w) 55 (f 53).toNatClampNeg 0) 56 (f 53).toNatClampNeg 0) 58 (f 53).toNatClampNeg 0) 60 (f 53).toNatClampNeg 0) 67 (f 53).toNatClampNeg 0) 33 z35.toNatClampNeg (f 53)) 34 z35.toNatClampNeg (f 24)) 35 z35.toNatClampNeg (f 44)) 36 z35.toNatClampNeg (f 48)) j from fun j hj => h54_ j (fun q => hj (mem_sub (L := [38, 39, 40, 41, 42, 43]) (L' := [11, 12, 13, 14, 25, 26, 27, 28, 29, 30, 33, 34, 35, 36, 38, 39, 40, 41, 42, 43, 54, 55, 56, 58, 59, 60, 67]) (by decide) q))) j hj).trans ((show ∀ j, j ∉ [11, 12, 13, 14, 25, 26, 27, 28, 29, 30, 33, 34, 35, 36, 38, 39, 40, 41, 42, 43, 54, 55, 56, 58, 59, 60, 67] → (upg (upg (upg (upg (upg (upg (upg (upg (upg (upg (upg g 54 (f 53).toNatClampNeg (g 33 (f 32).toNatClampNeg)) 59 (f 53).toNatClampNeg w) 55 (f 53).toNatClampNeg 0) 56 (f 53).toNatClampNeg 0) 58 (f 53).toNatClampNeg 0) 60 (f 53).toNatClampNeg 0) 67 (f 53).toNatClampNeg 0) 33 z35.toNatClampNeg (f 53)) 34 z35.toNatClampNeg (f 24)) 35 z35.toNatClampNeg (f 44)) 36 z35.toNatClampNeg (f 48)) j = g j from by intro j hj; simp only [List.mem_cons, List.not_mem_nil, or_false, not_or] at hj; simp only [upg, hj, if_false]) j hj)) j hj))⟩))
        · subst hv124
          have h126_ : z2.toInt ≤ z116.toInt := h126
          have h127_ : z116.toInt ≤ (f 0).toInt := h127
          have h128_ : (f 24).toInt ≤ l121.toInt := h128
          have h129_ : l121.toInt + z2.toInt ≤ (f 24).toInt + z116.toInt := h129
          have h130_ : ∀ j, j ∉ [25, 26, 27, 28, 29, 30, 55, 56, 58] → g'123 j = g'50 j := h130
          replace hS125 : MS S0 S101 (upd (upd (upd (upd (upd (upd (upd (upd (upd (upd (upd (upd f 4 z116) 5 y3) 6 u117) 7 v_118) 8 a119) 9 b120) 10 0) 24 l121) 31 y122) 32 z35) 37 z49) 53 z17) g'123 := hS125
          have hR131_ : RJ (upd (upd (upd (upd (upd (upd (upd (upd (upd (upd (upd (upd f 4 z116) 5 y3) 6 u117) 7 v_118) 8 a119) 9 b120) 10 0) 24 l121) 31 y122) 32 z35) 37 z49) 53 z17) g'123 [] ([] :: bc) [] 0 [] := hR131
          show am_E _ _ _ _ [some (.ref 39), some (.int sf), some (.int w), some (.int (f 4)), some (.int (f 53))] [.int 0] _ _
          refine am_e12t hi_195_198 (by decide) ?_
          refine am_e35 hi_195_224 ?_
          exact Or.inr (Or.inr (⟨z116, y3, u117, v_118, a119, b120, l121, y122, z35, z49, z17, _, rfl, hS125, hR131_, (by show (f 4).toInt ≤ z116.toInt; omega), (by show z116.toInt ≤ (f 0).toInt; omega), (by show z35.toInt = (f 32).toInt + 1; omega), (by show z49.toInt = (f 37).toInt + 1; omega), (by show z17.toInt = (f 53).toInt + 1; omega), (fun j hj => ((show ∀ j, j ∉ [11, 12, 13, 14, 25, 26, 27, 28, 29, 30, 33, 34, 35, 36, 38, 39, 40, 41, 42, 43, 54, 55, 56, 58, 59, 60, 67] → g'123 j = g'50 j from fun j hj => h130_ j (fun q => hj (mem_sub (L := [25, 26, 27, 28, 29, 30, 55, 56, 58]) (L' := [11, 12, 13, 14, 25, 26, 27, 28, 29, 30, 33, 34, 35, 36, 38, 39, 40, 41, 42, 43, 54, 55, 56, 58, 59, 60, 67]) (by decide) q))) j hj).trans ((fun j hj => ((show ∀ j, j ∉ [11, 12, 13, 14, 25, 26, 27, 28, 29, 30, 33, 34, 35, 36, 38, 39, 40, 41, 42, 43, 54, 55, 56, 58, 59, 60, 67] → g'50 j = (upg (upg (upg (upg (upg (upg (upg (upg (upg (upg (upg g 54 (f 53).toNatClampNeg (g 33 (f 32).toNatClampNeg)) 59 (f 53).toNatClampNeg w) 55 (f 53).toNatClampNeg 0) 56 (f 53).toNatClampNeg 0) 58 (f 53).toNatClampNeg 0) 60 (f 53).toNatClampNeg 0) 67 (f 53).toNatClampNeg 0) 33 z35.toNatClampNeg (f 53)) 34 z35.toNatClampNeg (f 24)) 35 z35.toNatClampNeg (f 44)) 36 z35.toNatClampNeg (f 48)) j from fun j hj => h54_ j (fun q => hj (mem_sub (L := [38, 39, 40, 41, 42, 43]) (L' := [11, 12, 13, 14, 25, 26, 27, 28, 29, 30, 33, 34, 35, 36, 38, 39, 40, 41, 42, 43, 54, 55, 56, 58, 59, 60, 67]) (by decide) q))) j hj).trans ((show ∀ j, j ∉ [11, 12, 13, 14, 25, 26, 27, 28, 29, 30, 33, 34, 35, 36, 38, 39, 40, 41, 42, 43, 54, 55, 56, 58, 59, 60, 67] → (upg (upg (upg (upg (upg (upg (upg (upg (upg (upg (upg g 54 (f 53).toNatClampNeg (g 33 (f 32).toNatClampNeg)) 59 (f 53).toNatClampNeg w) 55 (f 53).toNatClampNeg 0) 56 (f 53).toNatClampNeg 0) 58 (f 53).toNatClampNeg 0) 60 (f 53).toNatClampNeg 0) 67 (f 53).toNatClampNeg 0) 33 z35.toNatClampNeg (f 53)) 34 z35.toNatClampNeg (f 24)) 35 z35.toNatClampNeg (f 44)) 36 z35.toNatClampNeg (f 48)) j = g j from by intro j hj; simp only [List.mem_cons, List.not_mem_nil, or_false, not_or] at hj; simp only [upg, hj, if_false]) j hj)) j hj))⟩))
    · refine am_e12f hi_195_161 (am_cF (m := sf.toInt) (n := (0 : Int)) rfl (by decide) c57) ?_
      refine am_e2 (v := 39) hi_195_164 rfl ?_
      refine mm_20 (v := .ref 76) hS52 hi_195_165 rfl ?_
      refine am_e1 (v := f 53) hi_195_168 rfl ?_
      refine am_e8 hi_195_170 ?_
      refine mm_25 hS52 ma_55 hi_195_171 (by decide) (by omega) (by omega) ?_
      show am_E _ _ _ _ [some (.ref 39), some (.int sf), some (.int w), some (.int (f 4)), some (.int (f 53))] [.int (g'50 55 (f 53).toNatClampNeg), .int (f 53), .ref 76] _ _
      refine am_e0 hi_195_172 ?_
      obtain ⟨z166, hz166⟩ : ∃ q__, am_bin 0 (g'50 55 (f 53).toNatClampNeg) 1 = q__ := ⟨_, rfl⟩
      refine am_e10 (z := z166) hi_195_173 hz166 ?_
      refine mm_26 hS52 ma_55 hi_195_174 (by decide) (by omega) (by omega) (fun h => nomatch h) ?_
      intro S167 hS168
      refine am_e2 (v := 39) hi_195_175 rfl ?_
      refine am_e0 hi_195_176 ?_
      refine am_e0 hi_195_177 ?_
      refine am_e0 hi_195_178 ?_
      refine am_e1 (v := f 4) hi_195_179 rfl ?_
      refine am_e32n (as := [.ref 39, .int (-1), .int 0, .int 0, .int (f 4)]) (la := [some (.ref 39), some (.int (-1)), some (.int 0), some (.int 0), some (.int (f 4)), none]) (rest := []) hi_195_180 (am_hd0 (M := 195) (by decide) 180) (Nat.le_of_ble_eq_true rfl) (Nat.le_of_ble_eq_true rfl) (show 5 ≤ am_P0.2.2.1 196 from by decide +kernel) rfl (am_recv_ok hS168.fs) rfl rfl (ct_declare (d := (d + 2)) hS168 hR56_ (by decide) (by decide)  (by show (0 : Int) ≤ z35.toInt; omega) (by show z35.toInt ≤ (63 : Int); omega) (by show z17.toInt ≤ (4096 : Int); omega) (by show (0 : Int) ≤ (f 24).toInt; omega) (by show (f 24).toInt ≤ (16383 : Int); omega)) ?_
      rintro v169 S170 (⟨a171, b172, z173, y174, g'175, hv176, hS177, hR180, h178, h179⟩)
      subst hv176
      have h178_ : z173.toInt = (f 24).toInt + 1 := h178
      have h179_ : ∀ j, j ∉ [25, 26, 27, 28, 29, 30, 58] → g'175 j = (upg g'50 55 (f 53).toNatClampNeg z166) j := h179
      replace hS177 : MS S0 S170 (upd (upd (upd (upd (upd (upd (upd (upd (upd f 4 z2) 5 y3) 8 a171) 9 b172) 24 z173) 31 y174) 32 z35) 37 z49) 53 z17) g'175 := hS177
      have hR180_ : RJ (upd (upd (upd (upd (upd (upd (upd (upd (upd f 4 z2) 5 y3) 8 a171) 9 b172) 24 z173) 31 y174) 32 z35) 37 z49) 53 z17) g'175 gs ([] :: bc) fl fk pj := hR180
      show am_E _ _ _ _ [some (.ref 39), some (.int sf), some (.int w), some (.int (f 4)), some (.int (f 53))] [] _ _
      refine am_e2 (v := 39) hi_195_183 rfl ?_
      refine am_e32n (as := [.ref 39]) (la := [some (.ref 39)]) (rest := []) hi_195_184 (am_hd0 (M := 195) (by decide) 184) (Nat.le_of_ble_eq_true rfl) (Nat.le_of_ble_eq_true rfl) (show 1 ≤ am_P0.2.2.1 183 from by decide +kernel) rfl (am_recv_ok hS177.fs) rfl rfl (ct_next (d := (d + 2)) hS177   (by show (0 : Int) ≤ z2.toInt; omega) (by show (f 0).toInt ≤ (16384 : Int); omega)) ?_
      rintro v181 S182 (⟨r183, hv184, hS185, h186⟩)
      subst hv184
      have h186_ : z2.toInt < (f 0).toInt ∨ r183.toInt = (-1 : Int) := h186
      show am_E _ _ _ _ [some (.ref 39), some (.int sf), some (.int w), some (.int (f 4)), some (.int (f 53))] [.int r183] _ _
      refine am_e0 hi_195_187 ?_
      by_cases c188 : r183.toInt = (61 : Int)
      · refine am_e13t hi_195_189 (am_cT (m := r183.toInt) (n := (61 : Int)) rfl (by decide) c188) ?_
        refine am_e2 (v := 39) hi_195_201 rfl ?_
        refine am_e0 hi_195_202 ?_
        refine am_e32n (as := [.ref 39, .int 61]) (la := [some (.ref 39), some (.int 61)]) (rest := []) hi_195_204 (am_hd0 (M := 195) (by decide) 204) (Nat.le_of_ble_eq_true rfl) (Nat.le_of_ble_eq_true rfl) (show 2 ≤ am_P0.2.2.1 199 from by decide +kernel) rfl (am_recv_ok hS185.fs) rfl rfl (ct_leave (d := d) hS185   (by show (0 : Int) ≤ z2.toInt; omega) (by show (f 0).toInt ≤ (16384 : Int); omega) (by show (0 : Int) ≤ (61 : Int); omega) (by show (0 : Int) ≤ y3.toInt; omega) (by show y3.toInt ≤ (48 : Int); omega)) ?_
        rintro v189 S190 (⟨z191, y192, hv193, hS194, h195, h196, h197⟩ | ⟨a199, b200, hv201, hS202⟩)
        · subst hv193
          have h195_ : z191.toInt = z2.toInt + 1 := h195
          have h196_ : z2.toInt < (f 0).toInt := h196
          have h197_ : y192.toInt = y3.toInt - 1 := h197
          replace hS194 : MS S0 S190 (upd (upd (upd (upd (upd (upd (upd (upd (upd f 4 z191) 5 y192) 8 a171) 9 b172) 24 z173) 31 y174) 32 z35) 37 z49) 53 z17) g'175 := hS194
          have hR204 : RJ (upd (upd (upd (upd (upd (upd (upd (upd (upd f 4 z191) 5 y192) 8 a171) 9 b172) 24 z173) 31 y174) 32 z35) 37 z49) 53 z17) g'175 gs ([] :: bc) fl fk pj := RJ.at hR180_ (by show z2.toInt ≤ z191.toInt; omega)
          show am_E _ _ _ _ [some (.ref 39), some (.int sf), some (.int w), some (.int (f 4)), some (.int (f 53))] [.int 1] _ _
          refine am_e12t hi_195_207 (by decide) ?_
          refine am_e2 (v := 39) hi_195_211 rfl ?_
          refine am_e0 hi_195_212 ?_
          refine am_e1 (v := f 4) hi_195_214 rfl ?_
          refine am_e0 hi_195_215 ?_
          refine am_e0 hi_195_216 ?_
          refine am_e32n (as := [.ref 39, .int 40, .int (f 4), .int 0, .int 0]) (la := [some (.ref 39), some (.int 40), some (.int (f 4)), some (.int 0), some (.int 0)]) (rest := []) hi_195_217 (am_hd0 (M := 195) (by decide) 217) (Nat.le_of_ble_eq_true rfl) (Nat.le_of_ble_eq_true rfl) (show 5 ≤ am_P0.2.2.1 179 from by decide +kernel) rfl (am_recv_ok hS194.fs) rfl rfl (ct_pile (d := (d + 3)) hS194 hR204 (mj_e_plain (by decide)) (by show (0 : Int) ≤ (f 10).toInt; omega) (by show (f 10).toInt ≤ (65535 : Int); omega)) ?_
          rintro v205 S206 (⟨z207, g'208, hv209, hS210, hR213, h211, h212⟩)
          subst hv209
          have h211_ : z207.toInt = (f 10).toInt + 1 := h211
          have h212_ : ∀ j, j ∉ [11, 12, 13, 14] → g'208 j = g'175 j := h212
          replace hS210 : MS S0 S206 (upd (upd (upd (upd (upd (upd (upd (upd (upd (upd f 4 z191) 5 y192) 8 a171) 9 b172) 10 z207) 24 z173) 31 y174) 32 z35) 37 z49) 53 z17) g'208 := hS210
          have hR213_ : RJ (upd (upd (upd (upd (upd (upd (upd (upd (upd (upd f 4 z191) 5 y192) 8 a171) 9 b172) 10 z207) 24 z173) 31 y174) 32 z35) 37 z49) 53 z17) g'208 (((40 : Int), (f 4).toInt, (0 : Int), (0 : Int), []) :: gs) ([] :: bc) fl fk pj := hR213
          show am_E _ _ _ _ [some (.ref 39), some (.int sf), some (.int w), some (.int (f 4)), some (.int (f 53))] [] _ _
          refine am_e2 (v := 39) hi_195_220 rfl ?_
          refine am_e32w (as := [.ref 39]) (la := [some (.ref 39)]) (rest := []) hi_195_221 (am_hd0 (M := 195) (by decide) 221) (Nat.le_of_ble_eq_true rfl) (Nat.le_of_ble_eq_true rfl) (show 1 ≤ am_P0.2.2.1 178 from by decide +kernel) rfl (am_recv_ok hS210.fs) rfl rfl ?_
          refine am_e2 (v := 39) hi_178_0 rfl ?_
          refine am_e0 hi_178_1 ?_
          refine am_e0 hi_178_2 ?_
          refine am_e0 hi_178_3 ?_
          refine am_e0 hi_178_4 ?_
          refine am_e32n (as := [.ref 39, .int 1, .int 0, .int 0, .int 0]) (la := [some (.ref 39), some (.int 1), some (.int 0), some (.int 0), some (.int 0)]) (rest := []) hi_178_5 (am_hd0 (M := 178) (by decide) 5) (Nat.le_of_ble_eq_true rfl) (Nat.le_of_ble_eq_true rfl) (show 5 ≤ am_P0.2.2.1 179 from by decide +kernel) rfl (am_recv_ok hS210.fs) rfl rfl (ct_pile (d := (d + 2)) hS210 hR213_ (mj_e_plain (by decide)) (by show (0 : Int) ≤ z207.toInt; omega) (by show z207.toInt ≤ (65535 : Int); omega)) ?_
          rintro v214 S215 (⟨z216, g'217, hv218, hS219, hR222, h220, h221⟩)
          subst hv218
          have h220_ : z216.toInt = z207.toInt + 1 := h220
          have h221_ : ∀ j, j ∉ [11, 12, 13, 14] → g'217 j = g'208 j := h221
          replace hS219 : MS S0 S215 (upd (upd (upd (upd (upd (upd (upd (upd (upd (upd f 4 z191) 5 y192) 8 a171) 9 b172) 10 z216) 24 z173) 31 y174) 32 z35) 37 z49) 53 z17) g'217 := hS219
          have hR222_ : RJ (upd (upd (upd (upd (upd (upd (upd (upd (upd (upd f 4 z191) 5 y192) 8 a171) 9 b172) 10 z216) 24 z173) 31 y174) 32 z35) 37 z49) 53 z17) g'217 (((1 : Int), (0 : Int), (0 : Int), (0 : Int), []) :: (((40 : Int), (f 4).toInt, (0 : Int), (0 : Int), []) :: gs)) ([] :: bc) fl fk pj := hR222
          show am_E _ _ _ _ [some (.ref 39)] [] _ _
          refine am_e35 hi_178_8 ?_
          show am_E _ _ _ _ [some (.ref 39), some (.int sf), some (.int w), some (.int (f 4)), some (.int (f 53))] [] _ _
          refine am_e35 hi_195_224 ?_
          exact Or.inl ⟨z191, y192, a171, b172, z216, z173, y174, z35, z49, z17, _, rfl, hS219, hR222_, (by show (f 4).toInt + 2 ≤ z191.toInt; omega), (by show z191.toInt ≤ (f 0).toInt; omega), (by show y192.toInt = (f 5).toInt; omega), (by show (f 24).toInt ≤ z173.toInt; omega), (by show z173.toInt + (f 4).toInt ≤ (f 24).toInt + z191.toInt; omega), (by show z216.toInt = (f 10).toInt + 2; omega), (by show z35.toInt = (f 32).toInt + 1; omega), (by show z49.toInt = (f 37).toInt + 1; omega), (by show z17.toInt = (f 53).toInt + 1; omega), (fun j hj => ((show ∀ j, j ∉ [11, 12, 13, 14, 25, 26, 27, 28, 29, 30, 33, 34, 35, 36, 38, 39, 40, 41, 42, 43, 54, 55, 56, 58, 59, 60, 67] → g'217 j = g'208 j from fun j hj => h221_ j (fun q => hj (mem_sub (L := [11, 12, 13, 14]) (L' := [11, 12, 13, 14, 25, 26, 27, 28, 29, 30, 33, 34, 35, 36, 38, 39, 40, 41, 42, 43, 54, 55, 56, 58, 59, 60, 67]) (by decide) q))) j hj).trans ((fun j hj => ((show ∀ j, j ∉ [11, 12, 13, 14, 25, 26, 27, 28, 29, 30, 33, 34, 35, 36, 38, 39, 40, 41, 42, 43, 54, 55, 56, 58, 59, 60, 67] → g'208 j = g'175 j from fun j hj => h212_ j (fun q => hj (mem_sub (L := [11, 12, 13, 14]) (L' := [11, 12, 13, 14, 25, 26, 27, 28, 29, 30, 33, 34, 35, 36, 38, 39, 40, 41, 42, 43, 54, 55, 56, 58, 59, 60, 67]) (by decide) q))) j hj).trans ((fun j hj => ((show ∀ j, j ∉ [11, 12, 13, 14, 25, 26, 27, 28, 29, 30, 33, 34, 35, 36, 38, 39, 40, 41, 42, 43, 54, 55, 56, 58, 59, 60, 67] → g'175 j = (upg g'50 55 (f 53).toNatClampNeg z166) j from fun j hj => h179_ j (fun q => hj (mem_sub (L := [25, 26, 27, 28, 29, 30, 58]) (L' := [11, 12, 13, 14, 25, 26, 27, 28, 29, 30, 33, 34, 35, 36, 38, 39, 40, 41, 42, 43, 54, 55, 56, 58, 59, 60, 67]) (by decide) q))) j hj).trans ((fun j hj => ((show ∀ j, j ∉ [11, 12, 13, 14, 25, 26, 27, 28, 29, 30, 33, 34, 35, 36, 38, 39, 40, 41, 42, 43, 54, 55, 56, 58, 59, 60, 67] → (upg g'50 55 (f 53).toNatClampNeg z166) j = g'50 j from by intro j hj; simp only [List.mem_cons, List.not_mem_nil, or_false, not_or] at hj; simp only [upg, hj, if_false]) j hj).trans ((fun j hj => ((show ∀ j, j ∉ [11, 12, 13, 14, 25, 26, 27, 28, 29, 30, 33, 34, 35, 36, 38, 39, 40, 41, 42, 43, 54, 55, 56, 58, 59, 60, 67] → g'50 j = (upg (upg (upg (upg (upg (upg (upg (upg (upg (upg (upg g 54 (f 53).toNatClampNeg (g 33 (f 32).toNatClampNeg)) 59 (f 53).toNatClampNeg w) 55 (f 53).toNatClampNeg 0) 56 (f 53).toNatClampNeg 0) 58 (f 53).toNatClampNeg 0) 60 (f 53).toNatClampNeg 0) 67 (f 53).toNatClampNeg 0) 33 z35.toNatClampNeg (f 53)) 34 z35.toNatClampNeg (f 24)) 35 z35.toNatClampNeg (f 44)) 36 z35.toNatClampNeg (f 48)) j from fun j hj => h54_ j (fun q => hj (mem_sub (L := [38, 39, 40, 41, 42, 43]) (L' := [11, 12, 13, 14, 25, 26, 27, 28, 29, 30, 33, 34, 35, 36, 38, 39, 40, 41, 42, 43, 54, 55, 56, 58, 59, 60, 67]) (by decide) q))) j hj).trans ((show ∀ j, j ∉ [11, 12, 13, 14, 25, 26, 27, 28, 29, 30, 33, 34, 35, 36, 38, 39, 40, 41, 42, 43, 54, 55, 56, 58, 59, 60, 67] → (upg (upg (upg (upg (upg (upg (upg (upg (upg (upg (upg g 54 (f 53).toNatClampNeg (g 33 (f 32).toNatClampNeg)) 59 (f 53).toNatClampNeg w) 55 (f 53).toNatClampNeg 0) 56 (f 53).toNatClampNeg 0) 58 (f 53).toNatClampNeg 0) 60 (f 53).toNatClampNeg 0) 67 (f 53).toNatClampNeg 0) 33 z35.toNatClampNeg (f 53)) 34 z35.toNatClampNeg (f 24)) 35 z35.toNatClampNeg (f 44)) 36 z35.toNatClampNeg (f 48)) j = g j from by intro j hj; simp only [List.mem_cons, List.not_mem_nil, or_false, not_or] at hj; simp only [upg, hj, if_false]) j hj)) j hj)) j hj)) j hj)) j hj)), (Eq.trans (h221_ 34 (by decide)) (Eq.trans (h212_ 34 (by decide)) (Eq.trans (h179_ 34 (by decide)) (Eq.trans (h54_ 34 (by decide)) rfl)))), (Eq.trans (h221_ 38 (by decide)) (Eq.trans (h212_ 38 (by decide)) (Eq.trans (h179_ 38 (by decide)) h55_)))⟩
        · subst hv201
          replace hS202 : MS S0 S190 (upd (upd (upd (upd (upd (upd (upd (upd (upd (upd (upd (upd f 4 z2) 5 y3) 6 a199) 7 b200) 8 a171) 9 b172) 10 0) 24 z173) 31 y174) 32 z35) 37 z49) 53 z17) g'175 := hS202
          show am_E _ _ _ _ [some (.ref 39), some (.int sf), some (.int w), some (.int (f 4)), some (.int (f 53))] [.int 0] _ _
          refine am_e12f hi_195_207 (by decide) ?_
          refine am_e35 hi_195_210 ?_
          have hRc := rj_clear0 hR180_
          exact Or.inr (Or.inr (⟨z2, y3, a199, b200, a171, b172, z173, y174, z35, z49, z17, _, rfl, hS202, hRc, (by show (f 4).toInt ≤ z2.toInt; omega), (by show z2.toInt ≤ (f 0).toInt; omega), (by show z35.toInt = (f 32).toInt + 1; omega), (by show z49.toInt = (f 37).toInt + 1; omega), (by show z17.toInt = (f 53).toInt + 1; omega), (fun j hj => ((show ∀ j, j ∉ [11, 12, 13, 14, 25, 26, 27, 28, 29, 30, 33, 34, 35, 36, 38, 39, 40, 41, 42, 43, 54, 55, 56, 58, 59, 60, 67] → g'175 j = (upg g'50 55 (f 53).toNatClampNeg z166) j from fun j hj => h179_ j (fun q => hj (mem_sub (L := [25, 26, 27, 28, 29, 30, 58]) (L' := [11, 12, 13, 14, 25, 26, 27, 28, 29, 30, 33, 34, 35, 36, 38, 39, 40, 41, 42, 43, 54, 55, 56, 58, 59, 60, 67]) (by decide) q))) j hj).trans ((fun j hj => ((show ∀ j, j ∉ [11, 12, 13, 14, 25, 26, 27, 28, 29, 30, 33, 34, 35, 36, 38, 39, 40, 41, 42, 43, 54, 55, 56, 58, 59, 60, 67] → (upg g'50 55 (f 53).toNatClampNeg z166) j = g'50 j from by intro j hj; simp only [List.mem_cons, List.not_mem_nil, or_false, not_or] at hj; simp only [upg, hj, if_false]) j hj).trans ((fun j hj => ((show ∀ j, j ∉ [11, 12, 13, 14, 25, 26, 27, 28, 29, 30, 33, 34, 35, 36, 38, 39, 40, 41, 42, 43, 54, 55, 56, 58, 59, 60, 67] → g'50 j = (upg (upg (upg (upg (upg (upg (upg (upg (upg (upg (upg g 54 (f 53).toNatClampNeg (g 33 (f 32).toNatClampNeg)) 59 (f 53).toNatClampNeg w) 55 (f 53).toNatClampNeg 0) 56 (f 53).toNatClampNeg 0) 58 (f 53).toNatClampNeg 0) 60 (f 53).toNatClampNeg 0) 67 (f 53).toNatClampNeg 0) 33 z35.toNatClampNeg (f 53)) 34 z35.toNatClampNeg (f 24)) 35 z35.toNatClampNeg (f 44)) 36 z35.toNatClampNeg (f 48)) j from fun j hj => h54_ j (fun q => hj (mem_sub (L := [38, 39, 40, 41, 42, 43]) (L' := [11, 12, 13, 14, 25, 26, 27, 28, 29, 30, 33, 34, 35, 36, 38, 39, 40, 41, 42, 43, 54, 55, 56, 58, 59, 60, 67]) (by decide) q))) j hj).trans ((show ∀ j, j ∉ [11, 12, 13, 14, 25, 26, 27, 28, 29, 30, 33, 34, 35, 36, 38, 39, 40, 41, 42, 43, 54, 55, 56, 58, 59, 60, 67] → (upg (upg (upg (upg (upg (upg (upg (upg (upg (upg (upg g 54 (f 53).toNatClampNeg (g 33 (f 32).toNatClampNeg)) 59 (f 53).toNatClampNeg w) 55 (f 53).toNatClampNeg 0) 56 (f 53).toNatClampNeg 0) 58 (f 53).toNatClampNeg 0) 60 (f 53).toNatClampNeg 0) 67 (f 53).toNatClampNeg 0) 33 z35.toNatClampNeg (f 53)) 34 z35.toNatClampNeg (f 24)) 35 z35.toNatClampNeg (f 44)) 36 z35.toNatClampNeg (f 48)) j = g j from by intro j hj; simp only [List.mem_cons, List.not_mem_nil, or_false, not_or] at hj; simp only [upg, hj, if_false]) j hj)) j hj)) j hj))⟩))
      · refine am_e13f hi_195_189 (am_cF (m := r183.toInt) (n := (61 : Int)) rfl (by decide) c188) ?_
        refine am_e2 (v := 39) hi_195_192 rfl ?_
        refine am_e1 (v := f 53) hi_195_193 rfl ?_
        refine am_e32n (as := [.ref 39, .int (f 53)]) (la := [some (.ref 39), some (.int (f 53)), none]) (rest := []) hi_195_195 (am_hd0 (M := 195) (by decide) 195) (Nat.le_of_ble_eq_true rfl) (Nat.le_of_ble_eq_true rfl) (show 2 ≤ am_P0.2.2.1 198 from by decide +kernel) rfl (am_recv_ok hS185.fs) rfl rfl (ct_parameters (d := (d + 1)) hS185 hR180_  (by show (0 : Int) ≤ z35.toInt; omega) (by show z35.toInt ≤ (63 : Int); omega) (by show z17.toInt ≤ (4096 : Int); omega) (by show (0 : Int) ≤ z2.toInt; omega) (by show (f 0).toInt ≤ (16384 : Int); omega) (by show z2.toInt ≤ (f 0).toInt; omega) (by show (f 0).toInt ≤ (512 : Int); omega) (by show (0 : Int) ≤ z173.toInt; omega) (by show z173.toInt ≤ (8000 : Int); omega) (by show (0 : Int) ≤ (f 53).toInt; omega) (by show (f 53).toInt ≤ (4095 : Int); omega)) ?_
        rintro v223 S224 (⟨z225, a226, b227, l228, y229, g'230, hv231, hS232, hR238, h233, h234, h235, h236, h237⟩ | ⟨z239, u240, v_241, a242, b243, l244, y245, g'246, hv247, hS248, hR254, h249, h250, h251, h252, h253⟩)
        · subst hv231
          have h233_ : z2.toInt ≤ z225.toInt := h233
          have h234_ : z225.toInt ≤ (f 0).toInt := h234
          have h235_ : z173.toInt ≤ l228.toInt := h235
          have h236_ : l228.toInt + z2.toInt ≤ z173.toInt + z225.toInt := h236
          have h237_ : ∀ j, j ∉ [25, 26, 27, 28, 29, 30, 55, 56, 58] → g'230 j = g'175 j := h237
          replace hS232 : MS S0 S224 (upd (upd (upd (upd (upd (upd (upd (upd (upd f 4 z225) 5 y3) 8 a226) 9 b227) 24 l228) 31 y229) 32 z35) 37 z49) 53 z17) g'230 := hS232
          have hR238_ : RJ (upd (upd (upd (upd (upd (upd (upd (upd (upd f 4 z225) 5 y3) 8 a226) 9 b227) 24 l228) 31 y229) 32 z35) 37 z49) 53 z17) g'230 gs ([] :: bc) fl fk pj := hR238
          show am_E _ _ _ _ [some (.ref 39), some (.int sf), some (.int w), some (.int (f 4)), some (.int (f 53))] [.int 1] _ _
          refine am_e12f hi_195_198 (by decide) ?_
          refine am_e2 (v := 39) hi_195_201 rfl ?_
          refine am_e0 hi_195_202 ?_
          refine am_e32n (as := [.ref 39, .int 61]) (la := [some (.ref 39), some (.int 61)]) (rest := []) hi_195_204 (am_hd0 (M := 195) (by decide) 204) (Nat.le_of_ble_eq_true rfl) (Nat.le_of_ble_eq_true rfl) (show 2 ≤ am_P0.2.2.1 199 from by decide +kernel) rfl (am_recv_ok hS232.fs) rfl rfl (ct_leave (d := d) hS232   (by show (0 : Int) ≤ z225.toInt; omega) (by show (f 0).toInt ≤ (16384 : Int); omega) (by show (0 : Int) ≤ (61 : Int); omega) (by show (0 : Int) ≤ y3.toInt; omega) (by show y3.toInt ≤ (48 : Int); omega)) ?_
          rintro v255 S256 (⟨z257, y258, hv259, hS260, h261, h262, h263⟩ | ⟨a265, b266, hv267, hS268⟩)
          · subst hv259
            have h261_ : z257.toInt = z225.toInt + 1 := h261
            have h262_ : z225.toInt < (f 0).toInt := h262
            have h263_ : y258.toInt = y3.toInt - 1 := h263
            replace hS260 : MS S0 S256 (upd (upd (upd (upd (upd (upd (upd (upd (upd f 4 z257) 5 y258) 8 a226) 9 b227) 24 l228) 31 y229) 32 z35) 37 z49) 53 z17) g'230 := hS260
            have hR270 : RJ (upd (upd (upd (upd (upd (upd (upd (upd (upd f 4 z257) 5 y258) 8 a226) 9 b227) 24 l228) 31 y229) 32 z35) 37 z49) 53 z17) g'230 gs ([] :: bc) fl fk pj := RJ.at hR238_ (by show z225.toInt ≤ z257.toInt; omega)
            show am_E _ _ _ _ [some (.ref 39), some (.int sf), some (.int w), some (.int (f 4)), some (.int (f 53))] [.int 1] _ _
            refine am_e12t hi_195_207 (by decide) ?_
            refine am_e2 (v := 39) hi_195_211 rfl ?_
            refine am_e0 hi_195_212 ?_
            refine am_e1 (v := f 4) hi_195_214 rfl ?_
            refine am_e0 hi_195_215 ?_
            refine am_e0 hi_195_216 ?_
            refine am_e32n (as := [.ref 39, .int 40, .int (f 4), .int 0, .int 0]) (la := [some (.ref 39), some (.int 40), some (.int (f 4)), some (.int 0), some (.int 0)]) (rest := []) hi_195_217 (am_hd0 (M := 195) (by decide) 217) (Nat.le_of_ble_eq_true rfl) (Nat.le_of_ble_eq_true rfl) (show 5 ≤ am_P0.2.2.1 179 from by decide +kernel) rfl (am_recv_ok hS260.fs) rfl rfl (ct_pile (d := (d + 3)) hS260 hR270 (mj_e_plain (by decide)) (by show (0 : Int) ≤ (f 10).toInt; omega) (by show (f 10).toInt ≤ (65535 : Int); omega)) ?_
            rintro v271 S272 (⟨z273, g'274, hv275, hS276, hR279, h277, h278⟩)
            subst hv275
            have h277_ : z273.toInt = (f 10).toInt + 1 := h277
            have h278_ : ∀ j, j ∉ [11, 12, 13, 14] → g'274 j = g'230 j := h278
            replace hS276 : MS S0 S272 (upd (upd (upd (upd (upd (upd (upd (upd (upd (upd f 4 z257) 5 y258) 8 a226) 9 b227) 10 z273) 24 l228) 31 y229) 32 z35) 37 z49) 53 z17) g'274 := hS276
            have hR279_ : RJ (upd (upd (upd (upd (upd (upd (upd (upd (upd (upd f 4 z257) 5 y258) 8 a226) 9 b227) 10 z273) 24 l228) 31 y229) 32 z35) 37 z49) 53 z17) g'274 (((40 : Int), (f 4).toInt, (0 : Int), (0 : Int), []) :: gs) ([] :: bc) fl fk pj := hR279
            show am_E _ _ _ _ [some (.ref 39), some (.int sf), some (.int w), some (.int (f 4)), some (.int (f 53))] [] _ _
            refine am_e2 (v := 39) hi_195_220 rfl ?_
            refine am_e32w (as := [.ref 39]) (la := [some (.ref 39)]) (rest := []) hi_195_221 (am_hd0 (M := 195) (by decide) 221) (Nat.le_of_ble_eq_true rfl) (Nat.le_of_ble_eq_true rfl) (show 1 ≤ am_P0.2.2.1 178 from by decide +kernel) rfl (am_recv_ok hS276.fs) rfl rfl ?_
            refine am_e2 (v := 39) hi_178_0 rfl ?_
            refine am_e0 hi_178_1 ?_
            refine am_e0 hi_178_2 ?_
            refine am_e0 hi_178_3 ?_
            refine am_e0 hi_178_4 ?_
            refine am_e32n (as := [.ref 39, .int 1, .int 0, .int 0, .int 0]) (la := [some (.ref 39), some (.int 1), some (.int 0), some (.int 0), some (.int 0)]) (rest := []) hi_178_5 (am_hd0 (M := 178) (by decide) 5) (Nat.le_of_ble_eq_true rfl) (Nat.le_of_ble_eq_true rfl) (show 5 ≤ am_P0.2.2.1 179 from by decide +kernel) rfl (am_recv_ok hS276.fs) rfl rfl (ct_pile (d := (d + 2)) hS276 hR279_ (mj_e_plain (by decide)) (by show (0 : Int) ≤ z273.toInt; omega) (by show z273.toInt ≤ (65535 : Int); omega)) ?_
            rintro v280 S281 (⟨z282, g'283, hv284, hS285, hR288, h286, h287⟩)
            subst hv284
            have h286_ : z282.toInt = z273.toInt + 1 := h286
            have h287_ : ∀ j, j ∉ [11, 12, 13, 14] → g'283 j = g'274 j := h287
            replace hS285 : MS S0 S281 (upd (upd (upd (upd (upd (upd (upd (upd (upd (upd f 4 z257) 5 y258) 8 a226) 9 b227) 10 z282) 24 l228) 31 y229) 32 z35) 37 z49) 53 z17) g'283 := hS285
            have hR288_ : RJ (upd (upd (upd (upd (upd (upd (upd (upd (upd (upd f 4 z257) 5 y258) 8 a226) 9 b227) 10 z282) 24 l228) 31 y229) 32 z35) 37 z49) 53 z17) g'283 (((1 : Int), (0 : Int), (0 : Int), (0 : Int), []) :: (((40 : Int), (f 4).toInt, (0 : Int), (0 : Int), []) :: gs)) ([] :: bc) fl fk pj := hR288
            show am_E _ _ _ _ [some (.ref 39)] [] _ _
            refine am_e35 hi_178_8 ?_
            show am_E _ _ _ _ [some (.ref 39), some (.int sf), some (.int w), some (.int (f 4)), some (.int (f 53))] [] _ _
            refine am_e35 hi_195_224 ?_
            exact Or.inl ⟨z257, y258, a226, b227, z282, l228, y229, z35, z49, z17, _, rfl, hS285, hR288_, (by show (f 4).toInt + 2 ≤ z257.toInt; omega), (by show z257.toInt ≤ (f 0).toInt; omega), (by show y258.toInt = (f 5).toInt; omega), (by show (f 24).toInt ≤ l228.toInt; omega), (by show l228.toInt + (f 4).toInt ≤ (f 24).toInt + z257.toInt; omega), (by show z282.toInt = (f 10).toInt + 2; omega), (by show z35.toInt = (f 32).toInt + 1; omega), (by show z49.toInt = (f 37).toInt + 1; omega), (by show z17.toInt = (f 53).toInt + 1; omega), (fun j hj => ((show ∀ j, j ∉ [11, 12, 13, 14, 25, 26, 27, 28, 29, 30, 33, 34, 35, 36, 38, 39, 40, 41, 42, 43, 54, 55, 56, 58, 59, 60, 67] → g'283 j = g'274 j from fun j hj => h287_ j (fun q => hj (mem_sub (L := [11, 12, 13, 14]) (L' := [11, 12, 13, 14, 25, 26, 27, 28, 29, 30, 33, 34, 35, 36, 38, 39, 40, 41, 42, 43, 54, 55, 56, 58, 59, 60, 67]) (by decide) q))) j hj).trans ((fun j hj => ((show ∀ j, j ∉ [11, 12, 13, 14, 25, 26, 27, 28, 29, 30, 33, 34, 35, 36, 38, 39, 40, 41, 42, 43, 54, 55, 56, 58, 59, 60, 67] → g'274 j = g'230 j from fun j hj => h278_ j (fun q => hj (mem_sub (L := [11, 12, 13, 14]) (L' := [11, 12, 13, 14, 25, 26, 27, 28, 29, 30, 33, 34, 35, 36, 38, 39, 40, 41, 42, 43, 54, 55, 56, 58, 59, 60, 67]) (by decide) q))) j hj).trans ((fun j hj => ((show ∀ j, j ∉ [11, 12, 13, 14, 25, 26, 27, 28, 29, 30, 33, 34, 35, 36, 38, 39, 40, 41, 42, 43, 54, 55, 56, 58, 59, 60, 67] → g'230 j = g'175 j from fun j hj => h237_ j (fun q => hj (mem_sub (L := [25, 26, 27, 28, 29, 30, 55, 56, 58]) (L' := [11, 12, 13, 14, 25, 26, 27, 28, 29, 30, 33, 34, 35, 36, 38, 39, 40, 41, 42, 43, 54, 55, 56, 58, 59, 60, 67]) (by decide) q))) j hj).trans ((fun j hj => ((show ∀ j, j ∉ [11, 12, 13, 14, 25, 26, 27, 28, 29, 30, 33, 34, 35, 36, 38, 39, 40, 41, 42, 43, 54, 55, 56, 58, 59, 60, 67] → g'175 j = (upg g'50 55 (f 53).toNatClampNeg z166) j from fun j hj => h179_ j (fun q => hj (mem_sub (L := [25, 26, 27, 28, 29, 30, 58]) (L' := [11, 12, 13, 14, 25, 26, 27, 28, 29, 30, 33, 34, 35, 36, 38, 39, 40, 41, 42, 43, 54, 55, 56, 58, 59, 60, 67]) (by decide) q))) j hj).trans ((fun j hj => ((show ∀ j, j ∉ [11, 12, 13, 14, 25, 26, 27, 28, 29, 30, 33, 34, 35, 36, 38, 39, 40, 41, 42, 43, 54, 55, 56, 58, 59, 60, 67] → (upg g'50 55 (f 53).toNatClampNeg z166) j = g'50 j from by intro j hj; simp only [List.mem_cons, List.not_mem_nil, or_false, not_or] at hj; simp only [upg, hj, if_false]) j hj).trans ((fun j hj => ((show ∀ j, j ∉ [11, 12, 13, 14, 25, 26, 27, 28, 29, 30, 33, 34, 35, 36, 38, 39, 40, 41, 42, 43, 54, 55, 56, 58, 59, 60, 67] → g'50 j = (upg (upg (upg (upg (upg (upg (upg (upg (upg (upg (upg g 54 (f 53).toNatClampNeg (g 33 (f 32).toNatClampNeg)) 59 (f 53).toNatClampNeg w) 55 (f 53).toNatClampNeg 0) 56 (f 53).toNatClampNeg 0) 58 (f 53).toNatClampNeg 0) 60 (f 53).toNatClampNeg 0) 67 (f 53).toNatClampNeg 0) 33 z35.toNatClampNeg (f 53)) 34 z35.toNatClampNeg (f 24)) 35 z35.toNatClampNeg (f 44)) 36 z35.toNatClampNeg (f 48)) j from fun j hj => h54_ j (fun q => hj (mem_sub (L := [38, 39, 40, 41, 42, 43]) (L' := [11, 12, 13, 14, 25, 26, 27, 28, 29, 30, 33, 34, 35, 36, 38, 39, 40, 41, 42, 43, 54, 55, 56, 58, 59, 60, 67]) (by decide) q))) j hj).trans ((show ∀ j, j ∉ [11, 12, 13, 14, 25, 26, 27, 28, 29, 30, 33, 34, 35, 36, 38, 39, 40, 41, 42, 43, 54, 55, 56, 58, 59, 60, 67] → (upg (upg (upg (upg (upg (upg (upg (upg (upg (upg (upg g 54 (f 53).toNatClampNeg (g 33 (f 32).toNatClampNeg)) 59 (f 53).toNatClampNeg w) 55 (f 53).toNatClampNeg 0) 56 (f 53).toNatClampNeg 0) 58 (f 53).toNatClampNeg 0) 60 (f 53).toNatClampNeg 0) 67 (f 53).toNatClampNeg 0) 33 z35.toNatClampNeg (f 53)) 34 z35.toNatClampNeg (f 24)) 35 z35.toNatClampNeg (f 44)) 36 z35.toNatClampNeg (f 48)) j = g j from by intro j hj; simp only [List.mem_cons, List.not_mem_nil, or_false, not_or] at hj; simp only [upg, hj, if_false]) j hj)) j hj)) j hj)) j hj)) j hj)) j hj)), (Eq.trans (h287_ 34 (by decide)) (Eq.trans (h278_ 34 (by decide)) (Eq.trans (h237_ 34 (by decide)) (Eq.trans (h179_ 34 (by decide)) (Eq.trans (h54_ 34 (by decide)) rfl))))), (Eq.trans (h287_ 38 (by decide)) (Eq.trans (h278_ 38 (by decide)) (Eq.trans (h237_ 38 (by decide)) (Eq.trans (h179_ 38 (by decide)) h55_))))⟩
          · subst hv267
            replace hS268 : MS S0 S256 (upd (upd (upd (upd (upd (upd (upd (upd (upd (upd (upd (upd f 4 z225) 5 y3) 6 a265) 7 b266) 8 a226) 9 b227) 10 0) 24 l228) 31 y229) 32 z35) 37 z49) 53 z17) g'230 := hS268
            show am_E _ _ _ _ [some (.ref 39), some (.int sf), some (.int w), some (.int (f 4)), some (.int (f 53))] [.int 0] _ _
            refine am_e12f hi_195_207 (by decide) ?_
            refine am_e35 hi_195_210 ?_
            have hRc := rj_clear0 hR238_
            exact Or.inr (Or.inr (⟨z225, y3, a265, b266, a226, b227, l228, y229, z35, z49, z17, _, rfl, hS268, hRc, (by show (f 4).toInt ≤ z225.toInt; omega), (by show z225.toInt ≤ (f 0).toInt; omega), (by show z35.toInt = (f 32).toInt + 1; omega), (by show z49.toInt = (f 37).toInt + 1; omega), (by show z17.toInt = (f 53).toInt + 1; omega), (fun j hj => ((show ∀ j, j ∉ [11, 12, 13, 14, 25, 26, 27, 28, 29, 30, 33, 34, 35, 36, 38, 39, 40, 41, 42, 43, 54, 55, 56, 58, 59, 60, 67] → g'230 j = g'175 j from fun j hj => h237_ j (fun q => hj (mem_sub (L := [25, 26, 27, 28, 29, 30, 55, 56, 58]) (L' := [11, 12, 13, 14, 25, 26, 27, 28, 29, 30, 33, 34, 35, 36, 38, 39, 40, 41, 42, 43, 54, 55, 56, 58, 59, 60, 67]) (by decide) q))) j hj).trans ((fun j hj => ((show ∀ j, j ∉ [11, 12, 13, 14, 25, 26, 27, 28, 29, 30, 33, 34, 35, 36, 38, 39, 40, 41, 42, 43, 54, 55, 56, 58, 59, 60, 67] → g'175 j = (upg g'50 55 (f 53).toNatClampNeg z166) j from fun j hj => h179_ j (fun q => hj (mem_sub (L := [25, 26, 27, 28, 29, 30, 58]) (L' := [11, 12, 13, 14, 25, 26, 27, 28, 29, 30, 33, 34, 35, 36, 38, 39, 40, 41, 42, 43, 54, 55, 56, 58, 59, 60, 67]) (by decide) q))) j hj).trans ((fun j hj => ((show ∀ j, j ∉ [11, 12, 13, 14, 25, 26, 27, 28, 29, 30, 33, 34, 35, 36, 38, 39, 40, 41, 42, 43, 54, 55, 56, 58, 59, 60, 67] → (upg g'50 55 (f 53).toNatClampNeg z166) j = g'50 j from by intro j hj; simp only [List.mem_cons, List.not_mem_nil, or_false, not_or] at hj; simp only [upg, hj, if_false]) j hj).trans ((fun j hj => ((show ∀ j, j ∉ [11, 12, 13, 14, 25, 26, 27, 28, 29, 30, 33, 34, 35, 36, 38, 39, 40, 41, 42, 43, 54, 55, 56, 58, 59, 60, 67] → g'50 j = (upg (upg (upg (upg (upg (upg (upg (upg (upg (upg (upg g 54 (f 53).toNatClampNeg (g 33 (f 32).toNatClampNeg)) 59 (f 53).toNatClampNeg w) 55 (f 53).toNatClampNeg 0) 56 (f 53).toNatClampNeg 0) 58 (f 53).toNatClampNeg 0) 60 (f 53).toNatClampNeg 0) 67 (f 53).toNatClampNeg 0) 33 z35.toNatClampNeg (f 53)) 34 z35.toNatClampNeg (f 24)) 35 z35.toNatClampNeg (f 44)) 36 z35.toNatClampNeg (f 48)) j from fun j hj => h54_ j (fun q => hj (mem_sub (L := [38, 39, 40, 41, 42, 43]) (L' := [11, 12, 13, 14, 25, 26, 27, 28, 29, 30, 33, 34, 35, 36, 38, 39, 40, 41, 42, 43, 54, 55, 56, 58, 59, 60, 67]) (by decide) q))) j hj).trans ((show ∀ j, j ∉ [11, 12, 13, 14, 25, 26, 27, 28, 29, 30, 33, 34, 35, 36, 38, 39, 40, 41, 42, 43, 54, 55, 56, 58, 59, 60, 67] → (upg (upg (upg (upg (upg (upg (upg (upg (upg (upg (upg g 54 (f 53).toNatClampNeg (g 33 (f 32).toNatClampNeg)) 59 (f 53).toNatClampNeg w) 55 (f 53).toNatClampNeg 0) 56 (f 53).toNatClampNeg 0) 58 (f 53).toNatClampNeg 0) 60 (f 53).toNatClampNeg 0) 67 (f 53).toNatClampNeg 0) 33 z35.toNatClampNeg (f 53)) 34 z35.toNatClampNeg (f 24)) 35 z35.toNatClampNeg (f 44)) 36 z35.toNatClampNeg (f 48)) j = g j from by intro j hj; simp only [List.mem_cons, List.not_mem_nil, or_false, not_or] at hj; simp only [upg, hj, if_false]) j hj)) j hj)) j hj)) j hj))⟩))
        · subst hv247
          have h249_ : z2.toInt ≤ z239.toInt := h249
          have h250_ : z239.toInt ≤ (f 0).toInt := h250
          have h251_ : z173.toInt ≤ l244.toInt := h251
          have h252_ : l244.toInt + z2.toInt ≤ z173.toInt + z239.toInt := h252
          have h253_ : ∀ j, j ∉ [25, 26, 27, 28, 29, 30, 55, 56, 58] → g'246 j = g'175 j := h253
          replace hS248 : MS S0 S224 (upd (upd (upd (upd (upd (upd (upd (upd (upd (upd (upd (upd f 4 z239) 5 y3) 6 u240) 7 v_241) 8 a242) 9 b243) 10 0) 24 l244) 31 y245) 32 z35) 37 z49) 53 z17) g'246 := hS248
          have hR254_ : RJ (upd (upd (upd (upd (upd (upd (upd (upd (upd (upd (upd (upd f 4 z239) 5 y3) 6 u240) 7 v_241) 8 a242) 9 b243) 10 0) 24 l244) 31 y245) 32 z35) 37 z49) 53 z17) g'246 [] ([] :: bc) [] 0 [] := hR254
          show am_E _ _ _ _ [some (.ref 39), some (.int sf), some (.int w), some (.int (f 4)), some (.int (f 53))] [.int 0] _ _
          refine am_e12t hi_195_198 (by decide) ?_
          refine am_e35 hi_195_224 ?_
          exact Or.inr (Or.inr (⟨z239, y3, u240, v_241, a242, b243, l244, y245, z35, z49, z17, _, rfl, hS248, hR254_, (by show (f 4).toInt ≤ z239.toInt; omega), (by show z239.toInt ≤ (f 0).toInt; omega), (by show z35.toInt = (f 32).toInt + 1; omega), (by show z49.toInt = (f 37).toInt + 1; omega), (by show z17.toInt = (f 53).toInt + 1; omega), (fun j hj => ((show ∀ j, j ∉ [11, 12, 13, 14, 25, 26, 27, 28, 29, 30, 33, 34, 35, 36, 38, 39, 40, 41, 42, 43, 54, 55, 56, 58, 59, 60, 67] → g'246 j = g'175 j from fun j hj => h253_ j (fun q => hj (mem_sub (L := [25, 26, 27, 28, 29, 30, 55, 56, 58]) (L' := [11, 12, 13, 14, 25, 26, 27, 28, 29, 30, 33, 34, 35, 36, 38, 39, 40, 41, 42, 43, 54, 55, 56, 58, 59, 60, 67]) (by decide) q))) j hj).trans ((fun j hj => ((show ∀ j, j ∉ [11, 12, 13, 14, 25, 26, 27, 28, 29, 30, 33, 34, 35, 36, 38, 39, 40, 41, 42, 43, 54, 55, 56, 58, 59, 60, 67] → g'175 j = (upg g'50 55 (f 53).toNatClampNeg z166) j from fun j hj => h179_ j (fun q => hj (mem_sub (L := [25, 26, 27, 28, 29, 30, 58]) (L' := [11, 12, 13, 14, 25, 26, 27, 28, 29, 30, 33, 34, 35, 36, 38, 39, 40, 41, 42, 43, 54, 55, 56, 58, 59, 60, 67]) (by decide) q))) j hj).trans ((fun j hj => ((show ∀ j, j ∉ [11, 12, 13, 14, 25, 26, 27, 28, 29, 30, 33, 34, 35, 36, 38, 39, 40, 41, 42, 43, 54, 55, 56, 58, 59, 60, 67] → (upg g'50 55 (f 53).toNatClampNeg z166) j = g'50 j from by intro j hj; simp only [List.mem_cons, List.not_mem_nil, or_false, not_or] at hj; simp only [upg, hj, if_false]) j hj).trans ((fun j hj => ((show ∀ j, j ∉ [11, 12, 13, 14, 25, 26, 27, 28, 29, 30, 33, 34, 35, 36, 38, 39, 40, 41, 42, 43, 54, 55, 56, 58, 59, 60, 67] → g'50 j = (upg (upg (upg (upg (upg (upg (upg (upg (upg (upg (upg g 54 (f 53).toNatClampNeg (g 33 (f 32).toNatClampNeg)) 59 (f 53).toNatClampNeg w) 55 (f 53).toNatClampNeg 0) 56 (f 53).toNatClampNeg 0) 58 (f 53).toNatClampNeg 0) 60 (f 53).toNatClampNeg 0) 67 (f 53).toNatClampNeg 0) 33 z35.toNatClampNeg (f 53)) 34 z35.toNatClampNeg (f 24)) 35 z35.toNatClampNeg (f 44)) 36 z35.toNatClampNeg (f 48)) j from fun j hj => h54_ j (fun q => hj (mem_sub (L := [38, 39, 40, 41, 42, 43]) (L' := [11, 12, 13, 14, 25, 26, 27, 28, 29, 30, 33, 34, 35, 36, 38, 39, 40, 41, 42, 43, 54, 55, 56, 58, 59, 60, 67]) (by decide) q))) j hj).trans ((show ∀ j, j ∉ [11, 12, 13, 14, 25, 26, 27, 28, 29, 30, 33, 34, 35, 36, 38, 39, 40, 41, 42, 43, 54, 55, 56, 58, 59, 60, 67] → (upg (upg (upg (upg (upg (upg (upg (upg (upg (upg (upg g 54 (f 53).toNatClampNeg (g 33 (f 32).toNatClampNeg)) 59 (f 53).toNatClampNeg w) 55 (f 53).toNatClampNeg 0) 56 (f 53).toNatClampNeg 0) 58 (f 53).toNatClampNeg 0) 60 (f 53).toNatClampNeg 0) 67 (f 53).toNatClampNeg 0) 33 z35.toNatClampNeg (f 53)) 34 z35.toNatClampNeg (f 24)) 35 z35.toNatClampNeg (f 44)) 36 z35.toNatClampNeg (f 48)) j = g j from by intro j hj; simp only [List.mem_cons, List.not_mem_nil, or_false, not_or] at hj; simp only [upg, hj, if_false]) j hj)) j hj)) j hj)) j hj))⟩))
  · subst hv13
    show am_E _ _ _ _ [some (.ref 39), some (.int sf), some (.int w), some (.int (f 4)), none] [.int 0] _ _
    refine am_e12f hi_195_11 (by decide) ?_
    refine am_e35 hi_195_14 ?_
    have hRc := rj_clear0 hR
    exact Or.inr (Or.inl ⟨a11, b12, rfl, hS14, hRc⟩)
theorem ct_keep2 {sc : Nat × (Nat → Int32)} {d : Nat} {S0 S : am_S} {f : Nat → Int32} {g : Nat → Nat → Int32} {k : Int32} {n : Int32} {w : Int32} {gs : List mg_E} {bc : List (List Nat)} {fl : List Nat} {fk : Int} {pj : List Nat} (hS : MS S0 S f g) (hR : RJ f g gs bc fl fk pj) (p0 : (0 : Int) ≤ (f 20).toInt) (p1 : (f 20).toInt ≤ (16383 : Int)) : am_E (am_PP sc) (d + 0) 239 0 [some (.ref 39), some (.int k), some (.int n), some (.int w)] [] S (am_N fun v S1 => (∃ z : Int32, ∃ g' : Nat → Nat → Int32, v = none ∧ MS S0 S1 (upd f 20 z) g' ∧ (RJ (upd f 20 z) g' gs bc fl fk pj) ∧ (z.toInt = (f 20).toInt + 1) ∧ (∀ j, j ∉ [21, 22, 23] → g' j = g j) ∧ (g' 23 = upd (g 23) (f 20).toNatClampNeg w))) := by
  refine am_e2 (v := 39) hi_239_0 rfl ?_
  refine mm_20 (v := .ref 49) hS hi_239_1 rfl ?_
  refine am_e2 (v := 39) hi_239_4 rfl ?_
  refine mm_20 (v := .int (f 20)) hS hi_239_5 rfl ?_
  refine am_e1 (v := k) hi_239_8 rfl ?_
  refine mm_26 hS ma_21 hi_239_9 (by decide) (by omega) (by omega) (fun h => nomatch h) ?_
  intro S0 hS1
  refine am_e2 (v := 39) hi_239_10 rfl ?_
  refine mm_20 (v := .ref 50) hS1 hi_239_11 rfl ?_
  refine am_e2 (v := 39) hi_239_14 rfl ?_
  refine mm_20 (v := .int (f 20)) hS1 hi_239_15 rfl ?_
  refine am_e1 (v := n) hi_239_18 rfl ?_
  refine mm_26 hS1 ma_22 hi_239_19 (by decide) (by omega) (by omega) (fun h => nomatch h) ?_
  intro S2 hS3
  refine am_e2 (v := 39) hi_239_20 rfl ?_
  refine mm_20 (v := .ref 51) hS3 hi_239_21 rfl ?_
  refine am_e2 (v := 39) hi_239_24 rfl ?_
  refine mm_20 (v := .int (f 20)) hS3 hi_239_25 rfl ?_
  refine am_e1 (v := w) hi_239_28 rfl ?_
  refine mm_26 hS3 ma_23 hi_239_29 (by decide) (by omega) (by omega) (fun h => nomatch h) ?_
  intro S4 hS5
  refine am_e2 (v := 39) hi_239_30 rfl ?_
  refine am_e7 hi_239_31 ?_
  refine mm_20 (v := .int (f 20)) hS5 hi_239_32 rfl ?_
  refine am_e0 hi_239_35 ?_
  obtain ⟨z6, hz6, tz6⟩ := am_addI (x := f 20) (y := 1) (m := (f 20).toInt) (n := (1 : Int)) rfl (by decide) (by omega) (by omega)
  refine am_e10 (z := z6) hi_239_36 hz6 ?_
  refine mm_21 (v := z6) hS5 hi_239_37 rfl (Nat.le_of_ble_eq_true rfl) ms_20 ?_
  intro S7 hS8
  refine am_e35 hi_239_40 ?_
  exact ⟨z6, _, rfl, hS8, hR, (by show z6.toInt = (f 20).toInt + 1; omega), (by intro j hj; simp only [List.mem_cons, List.not_mem_nil, or_false, not_or] at hj; simp only [upg, hj, if_false]), rfl⟩
