/-! THE REFERENCE: blocks, locals, names (printed by wip/p2/ref3.py) -/
theorem ct_beginBlock {sc : Nat × (Nat → Int32)} {d : Nat} {S0 S : am_S} {f : Nat → Int32} {g : Nat → Nat → Int32} {lo : Int32} {gs : List mg_E} {bc : List (List Nat)} {fl : List Nat} {fk : Int} {pj : List Nat} (hS : MS S0 S f g) (hR : RJ f g gs bc fl fk pj) (hb_lo : lo = 0 ∨ lo = 1) (p0 : (0 : Int) ≤ (f 37).toInt) (p1 : (f 37).toInt ≤ (127 : Int)) (p2 : (0 : Int) ≤ (f 24).toInt) (p3 : (0 : Int) ≤ (f 44).toInt) (p4 : (f 44).toInt ≤ (f 4).toInt) (p5 : (0 : Int) ≤ (f 48).toInt) : am_E (am_PP sc) (d + 0) 177 0 [some (.ref 39), some (.int lo)] [] S (am_N fun v S1 => (∃ z : Int32, ∃ g' : Nat → Nat → Int32, v = none ∧ MS S0 S1 (upd f 37 z) g' ∧ (RJ (upd f 37 z) g' gs ([] :: bc) fl fk pj) ∧ (z.toInt = (f 37).toInt + 1) ∧ (∀ j, j ∉ [38, 39, 40, 41, 42, 43] → g' j = g j))) := by
  refine am_e2 (v := 39) hi_177_0 rfl ?_
  refine mm_20 (v := .ref 62) hS hi_177_1 rfl ?_
  refine am_e2 (v := 39) hi_177_4 rfl ?_
  refine mm_20 (v := .int (f 37)) hS hi_177_5 rfl ?_
  refine am_e2 (v := 39) hi_177_8 rfl ?_
  refine mm_20 (v := .int (f 24)) hS hi_177_9 rfl ?_
  refine mm_26 hS ma_38 hi_177_12 (by decide) (by omega) (by omega) (fun h => nomatch h) ?_
  intro S0 hS1
  refine am_e2 (v := 39) hi_177_13 rfl ?_
  refine mm_20 (v := .ref 63) hS1 hi_177_14 rfl ?_
  refine am_e2 (v := 39) hi_177_17 rfl ?_
  refine mm_20 (v := .int (f 37)) hS1 hi_177_18 rfl ?_
  refine am_e2 (v := 39) hi_177_21 rfl ?_
  refine mm_20 (v := .int (f 44)) hS1 hi_177_22 rfl ?_
  refine mm_26 hS1 ma_39 hi_177_25 (by decide) (by omega) (by omega) (fun h => nomatch h) ?_
  intro S2 hS3
  refine am_e2 (v := 39) hi_177_26 rfl ?_
  refine mm_20 (v := .ref 64) hS3 hi_177_27 rfl ?_
  refine am_e2 (v := 39) hi_177_30 rfl ?_
  refine mm_20 (v := .int (f 37)) hS3 hi_177_31 rfl ?_
  refine am_e2 (v := 39) hi_177_34 rfl ?_
  refine mm_20 (v := .int (f 48)) hS3 hi_177_35 rfl ?_
  refine mm_26 hS3 ma_40 hi_177_38 (by decide) (by omega) (by omega) (fun h => nomatch h) ?_
  intro S4 hS5
  refine am_e2 (v := 39) hi_177_39 rfl ?_
  refine mm_20 (v := .ref 65) hS5 hi_177_40 rfl ?_
  refine am_e2 (v := 39) hi_177_43 rfl ?_
  refine mm_20 (v := .int (f 37)) hS5 hi_177_44 rfl ?_
  refine am_e2 (v := 39) hi_177_47 rfl ?_
  refine mm_20 (v := .int (f 32)) hS5 hi_177_48 rfl ?_
  refine mm_26 hS5 ma_41 hi_177_51 (by decide) (by omega) (by omega) (fun h => nomatch h) ?_
  intro S6 hS7
  refine am_e2 (v := 39) hi_177_52 rfl ?_
  refine mm_20 (v := .ref 66) hS7 hi_177_53 rfl ?_
  refine am_e2 (v := 39) hi_177_56 rfl ?_
  refine mm_20 (v := .int (f 37)) hS7 hi_177_57 rfl ?_
  refine am_e1 (v := lo) hi_177_60 rfl ?_
  refine mm_26 hS7 ma_42 hi_177_61 (by decide) (by omega) (by omega) (fun _ => hb_lo) ?_
  intro S8 hS9
  refine am_e2 (v := 39) hi_177_62 rfl ?_
  refine mm_20 (v := .ref 67) hS9 hi_177_63 rfl ?_
  refine am_e2 (v := 39) hi_177_66 rfl ?_
  refine mm_20 (v := .int (f 37)) hS9 hi_177_67 rfl ?_
  refine am_e0 hi_177_70 ?_
  refine mm_26 hS9 ma_43 hi_177_71 (by decide) (by omega) (by omega) (fun h => nomatch h) ?_
  intro S10 hS11
  refine am_e2 (v := 39) hi_177_72 rfl ?_
  refine am_e7 hi_177_73 ?_
  refine mm_20 (v := .int (f 37)) hS11 hi_177_74 rfl ?_
  refine am_e0 hi_177_77 ?_
  obtain ⟨z12, hz12, tz12⟩ := am_addI (x := f 37) (y := 1) (m := (f 37).toInt) (n := (1 : Int)) rfl (by decide) (by omega) (by omega)
  refine am_e10 (z := z12) hi_177_78 hz12 ?_
  refine mm_21 (v := z12) hS11 hi_177_79 rfl (Nat.le_of_ble_eq_true rfl) ms_37 ?_
  intro S13 hS14
  refine am_e35 hi_177_82 ?_
  exact ⟨z12, _, rfl, hS14, (rj_begin hR (by omega) (by omega) (by omega) ⟨by omega, by omega⟩ (by omega)), (by show z12.toInt = (f 37).toInt + 1; omega), (by intro j hj; simp only [List.mem_cons, List.not_mem_nil, or_false, not_or] at hj; simp only [upg, hj, if_false])⟩
theorem ct_declare {sc : Nat × (Nat → Int32)} {d : Nat} {S0 S : am_S} {f : Nat → Int32} {g : Nat → Nat → Int32} {tx : Int32} {co : Int32} {cl : Int32} {w : Int32} {gs : List mg_E} {bc : List (List Nat)} {fl : List Nat} {fk : Int} {pj : List Nat} (hS : MS S0 S f g) (hR : RJ f g gs bc fl fk pj) (hb_co : co = 0 ∨ co = 1) (hb_cl : cl = 0 ∨ cl = 1) (p0 : (0 : Int) ≤ (f 32).toInt) (p1 : (f 32).toInt ≤ (63 : Int)) (p2 : (f 53).toInt ≤ (4096 : Int)) (p3 : (0 : Int) ≤ (f 24).toInt) (p4 : (f 24).toInt ≤ (16383 : Int)) (p5 : (0 : Int) ≤ (f 8).toInt) : am_E (am_PP sc) (d + 1) 196 0 [some (.ref 39), some (.int tx), some (.int co), some (.int cl), some (.int w), none] [] S (am_N fun v S1 => (∃ a : Int32, ∃ b : Int32, ∃ z : Int32, ∃ y : Int32, ∃ g' : Nat → Nat → Int32, v = none ∧ MS S0 S1 (upd (upd (upd (upd f 8 a) 9 b) 24 z) 31 y) g' ∧ (RJ (upd (upd (upd (upd f 8 a) 9 b) 24 z) 31 y) g' gs bc fl fk pj) ∧ (z.toInt = (f 24).toInt + 1) ∧ (∀ j, j ∉ [25, 26, 27, 28, 29, 30, 58] → g' j = g j) ∧ ((0 : Int) ≤ a.toInt))) := by
  refine am_e2 (v := 39) hi_196_0 rfl ?_
  refine am_e32n (as := [.ref 39]) (la := [some (.ref 39)]) (rest := []) hi_196_1 (am_hd0 (M := 196) (by decide) 1) (Nat.le_of_ble_eq_true rfl) (Nat.le_of_ble_eq_true rfl) (show 1 ≤ am_P0.2.2.1 197 from by decide +kernel) rfl (am_recv_ok hS.fs) rfl rfl (ct_count (d := d) hS   (by show (0 : Int) ≤ (f 32).toInt; omega) (by show (f 32).toInt ≤ (63 : Int); omega)) ?_
  rintro v0 S1 (⟨r2, hv3, hS4⟩)
  subst hv3
  show am_E _ _ _ _ [some (.ref 39), some (.int tx), some (.int co), some (.int cl), some (.int w), none] [.int r2] _ _
  refine am_e0 hi_196_4 ?_
  by_cases c6 : r2.toInt < (200 : Int)
  · refine am_e13t hi_196_7 (am_cT (m := r2.toInt) (n := (200 : Int)) rfl (by decide) c6) ?_
    refine am_e2 (v := 39) hi_196_18 rfl ?_
    refine mm_20 (v := .ref 52) hS4 hi_196_19 rfl ?_
    refine am_e2 (v := 39) hi_196_22 rfl ?_
    refine mm_20 (v := .int (f 24)) hS4 hi_196_23 rfl ?_
    refine am_e1 (v := tx) hi_196_26 rfl ?_
    refine mm_26 hS4 ma_25 hi_196_27 (by decide) (by omega) (by omega) (fun h => nomatch h) ?_
    intro S7 hS8
    refine am_e2 (v := 39) hi_196_28 rfl ?_
    refine mm_20 (v := .ref 55) hS8 hi_196_29 rfl ?_
    refine am_e2 (v := 39) hi_196_32 rfl ?_
    refine mm_20 (v := .int (f 24)) hS8 hi_196_33 rfl ?_
    refine am_e0 hi_196_36 ?_
    refine mm_26 hS8 ma_28 hi_196_37 (by decide) (by omega) (by omega) (fun _ => by decide) ?_
    intro S9 hS10
    refine am_e2 (v := 39) hi_196_38 rfl ?_
    refine mm_20 (v := .ref 53) hS10 hi_196_39 rfl ?_
    refine am_e2 (v := 39) hi_196_42 rfl ?_
    refine mm_20 (v := .int (f 24)) hS10 hi_196_43 rfl ?_
    refine am_e2 (v := 39) hi_196_46 rfl ?_
    refine mm_20 (v := .int (f 32)) hS10 hi_196_47 rfl ?_
    refine mm_26 hS10 ma_26 hi_196_50 (by decide) (by omega) (by omega) (fun h => nomatch h) ?_
    intro S11 hS12
    refine am_e2 (v := 39) hi_196_51 rfl ?_
    refine mm_20 (v := .ref 54) hS12 hi_196_52 rfl ?_
    refine am_e2 (v := 39) hi_196_55 rfl ?_
    refine mm_20 (v := .int (f 24)) hS12 hi_196_56 rfl ?_
    refine am_e2 (v := 39) hi_196_59 rfl ?_
    refine mm_20 (v := .int (f 31)) hS12 hi_196_60 rfl ?_
    refine mm_26 hS12 ma_27 hi_196_63 (by decide) (by omega) (by omega) (fun h => nomatch h) ?_
    intro S13 hS14
    refine am_e2 (v := 39) hi_196_64 rfl ?_
    refine mm_20 (v := .ref 56) hS14 hi_196_65 rfl ?_
    refine am_e2 (v := 39) hi_196_68 rfl ?_
    refine mm_20 (v := .int (f 24)) hS14 hi_196_69 rfl ?_
    refine am_e1 (v := co) hi_196_72 rfl ?_
    refine mm_26 hS14 ma_29 hi_196_73 (by decide) (by omega) (by omega) (fun _ => hb_co) ?_
    intro S15 hS16
    refine am_e2 (v := 39) hi_196_74 rfl ?_
    refine mm_20 (v := .ref 57) hS16 hi_196_75 rfl ?_
    refine am_e2 (v := 39) hi_196_78 rfl ?_
    refine mm_20 (v := .int (f 24)) hS16 hi_196_79 rfl ?_
    refine am_e1 (v := cl) hi_196_82 rfl ?_
    refine mm_26 hS16 ma_30 hi_196_83 (by decide) (by omega) (by omega) (fun _ => hb_cl) ?_
    intro S17 hS18
    refine am_e2 (v := 39) hi_196_84 rfl ?_
    refine am_e7 hi_196_85 ?_
    refine mm_20 (v := .int (f 31)) hS18 hi_196_86 rfl ?_
    refine am_e0 hi_196_89 ?_
    obtain ⟨z19, hz19⟩ : ∃ q__, am_bin 0 (f 31) 1 = q__ := ⟨_, rfl⟩
    refine am_e10 (z := z19) hi_196_90 hz19 ?_
    refine mm_21 (v := z19) hS18 hi_196_91 rfl (Nat.le_of_ble_eq_true rfl) ms_31 ?_
    intro S20 hS21
    refine am_e2 (v := 39) hi_196_94 rfl ?_
    refine am_e7 hi_196_95 ?_
    refine mm_20 (v := .int (f 24)) hS21 hi_196_96 rfl ?_
    refine am_e0 hi_196_99 ?_
    obtain ⟨z22, hz22, tz22⟩ := am_addI (x := f 24) (y := 1) (m := (f 24).toInt) (n := (1 : Int)) rfl (by decide) (by omega) (by omega)
    refine am_e10 (z := z22) hi_196_100 hz22 ?_
    refine mm_21 (v := z22) hS21 hi_196_101 rfl (Nat.le_of_ble_eq_true rfl) ms_24 ?_
    intro S23 hS24
    replace hS24 : MS S0 S23 (upd (upd f 24 z22) 31 z19) (upg (upg (upg (upg (upg (upg g 25 (f 24).toNatClampNeg tx) 28 (f 24).toNatClampNeg 0) 26 (f 24).toNatClampNeg (f 32)) 27 (f 24).toNatClampNeg (f 31)) 29 (f 24).toNatClampNeg co) 30 (f 24).toNatClampNeg cl) := hS24
    refine am_e2 (v := 39) hi_196_104 rfl ?_
    refine mm_20 (v := .ref 58) hS24 hi_196_105 rfl ?_
    refine am_e2 (v := 39) hi_196_108 rfl ?_
    refine mm_20 (v := .int (f 32)) hS24 hi_196_109 rfl ?_
    refine mm_25 hS24 ma_33 hi_196_112 (by decide) (by omega) (by omega) ?_
    show am_E _ _ _ _ [some (.ref 39), some (.int tx), some (.int co), some (.int cl), some (.int w), none] [.int (g 33 (f 32).toNatClampNeg)] _ _
    have r25 : 0 ≤ (g 33 (f 32).toNatClampNeg).toInt ∧ (g 33 (f 32).toNatClampNeg).toInt < (f 53).toInt := RJ.fn (i := f 32) hR (by omega) (by show (f 32).toInt ≤ (f 32).toInt; omega)
    refine am_e3 (ls' := [some (.ref 39), some (.int tx), some (.int co), some (.int cl), some (.int w), some (.int (g 33 (f 32).toNatClampNeg))]) hi_196_113 (Nat.le_of_ble_eq_true rfl) rfl ?_
    refine am_e2 (v := 39) hi_196_115 rfl ?_
    refine mm_20 (v := .ref 79) hS24 hi_196_116 rfl ?_
    refine am_e1 (v := g 33 (f 32).toNatClampNeg) hi_196_119 rfl ?_
    refine am_e2 (v := 39) hi_196_121 rfl ?_
    refine am_e32n (as := [.ref 39]) (la := [some (.ref 39)]) (rest := [.int (g 33 (f 32).toNatClampNeg), .ref 79]) hi_196_122 (am_hd0 (M := 196) (by decide) 122) (Nat.le_of_ble_eq_true rfl) (Nat.le_of_ble_eq_true rfl) (show 1 ≤ am_P0.2.2.1 197 from by decide +kernel) rfl (am_recv_ok hS24.fs) rfl rfl (ct_count (d := d) hS24   (by show (0 : Int) ≤ (f 32).toInt; omega) (by show (f 32).toInt ≤ (63 : Int); omega)) ?_
    rintro v26 S27 (⟨r28, hv29, hS30⟩)
    subst hv29
    show am_E _ _ _ _ [some (.ref 39), some (.int tx), some (.int co), some (.int cl), some (.int w), some (.int (g 33 (f 32).toNatClampNeg))] [.int r28, .int (g 33 (f 32).toNatClampNeg), .ref 79] _ _
    refine am_e2 (v := 39) hi_196_125 rfl ?_
    refine mm_20 (v := .ref 79) hS30 hi_196_126 rfl ?_
    refine am_e1 (v := g 33 (f 32).toNatClampNeg) hi_196_129 rfl ?_
    refine mm_25 hS30 ma_58 hi_196_131 (by decide) (by omega) (by omega) ?_
    show am_E _ _ _ _ [some (.ref 39), some (.int tx), some (.int co), some (.int cl), some (.int w), some (.int (g 33 (f 32).toNatClampNeg))] [.int (g 58 (g 33 (f 32).toNatClampNeg).toNatClampNeg), .int r28, .int (g 33 (f 32).toNatClampNeg), .ref 79] _ _
    by_cases c32 : r28.toInt ≤ (g 58 (g 33 (f 32).toNatClampNeg).toNatClampNeg).toInt
    · refine am_e13t hi_196_132 (am_cT (m := r28.toInt) (n := (g 58 (g 33 (f 32).toNatClampNeg).toNatClampNeg).toInt) rfl rfl c32) ?_
      refine am_e2 (v := 39) hi_196_142 rfl ?_
      refine mm_20 (v := .ref 79) hS30 hi_196_143 rfl ?_
      refine am_e1 (v := g 33 (f 32).toNatClampNeg) hi_196_146 rfl ?_
      refine mm_25 hS30 ma_58 hi_196_148 (by decide) (by omega) (by omega) ?_
      show am_E _ _ _ _ [some (.ref 39), some (.int tx), some (.int co), some (.int cl), some (.int w), some (.int (g 33 (f 32).toNatClampNeg))] [.int (g 58 (g 33 (f 32).toNatClampNeg).toNatClampNeg), .int (g 33 (f 32).toNatClampNeg), .ref 79] _ _
      refine mm_26 hS30 ma_58 hi_196_149 (by decide) (by omega) (by omega) (fun h => nomatch h) ?_
      intro S33 hS34
      refine am_e35 hi_196_150 ?_
      exact ⟨(f 8), (f 9), z22, z19, _, rfl, hS34, (rj_declare hR ⟨by omega, by omega⟩ (by show (f 24).toInt ≤ _; omega)), (by show z22.toInt = (f 24).toInt + 1; omega), (by intro j hj; simp only [List.mem_cons, List.not_mem_nil, or_false, not_or] at hj; simp only [upg, hj, if_false]), (by show (0 : Int) ≤ ((f 8)).toInt; omega)⟩
    · refine am_e13f hi_196_132 (am_cF (m := r28.toInt) (n := (g 58 (g 33 (f 32).toNatClampNeg).toNatClampNeg).toInt) rfl rfl c32) ?_
      refine am_e2 (v := 39) hi_196_135 rfl ?_
      refine am_e32n (as := [.ref 39]) (la := [some (.ref 39)]) (rest := [.int (g 33 (f 32).toNatClampNeg), .ref 79]) hi_196_136 (am_hd0 (M := 196) (by decide) 136) (Nat.le_of_ble_eq_true rfl) (Nat.le_of_ble_eq_true rfl) (show 1 ≤ am_P0.2.2.1 197 from by decide +kernel) rfl (am_recv_ok hS30.fs) rfl rfl (ct_count (d := d) hS30   (by show (0 : Int) ≤ (f 32).toInt; omega) (by show (f 32).toInt ≤ (63 : Int); omega)) ?_
      rintro v35 S36 (⟨r37, hv38, hS39⟩)
      subst hv38
      show am_E _ _ _ _ [some (.ref 39), some (.int tx), some (.int co), some (.int cl), some (.int w), some (.int (g 33 (f 32).toNatClampNeg))] [.int r37, .int (g 33 (f 32).toNatClampNeg), .ref 79] _ _
      refine am_e18 hi_196_139 ?_
      refine mm_26 hS39 ma_58 hi_196_149 (by decide) (by omega) (by omega) (fun h => nomatch h) ?_
      intro S41 hS42
      refine am_e35 hi_196_150 ?_
      exact ⟨(f 8), (f 9), z22, z19, _, rfl, hS42, (rj_declare hR ⟨by omega, by omega⟩ (by show (f 24).toInt ≤ _; omega)), (by show z22.toInt = (f 24).toInt + 1; omega), (by intro j hj; simp only [List.mem_cons, List.not_mem_nil, or_false, not_or] at hj; simp only [upg, hj, if_false]), (by show (0 : Int) ≤ ((f 8)).toInt; omega)⟩
  · refine am_e13f hi_196_7 (am_cF (m := r2.toInt) (n := (200 : Int)) rfl (by decide) c6) ?_
    refine am_e2 (v := 39) hi_196_10 rfl ?_
    refine am_e0 hi_196_11 ?_
    refine am_e1 (v := w) hi_196_13 rfl ?_
    refine am_e32n (as := [.ref 39, .int 16, .int w]) (la := [some (.ref 39), some (.int 16), some (.int w)]) (rest := []) hi_196_15 (am_hd0 (M := 196) (by decide) 15) (Nat.le_of_ble_eq_true rfl) (Nat.le_of_ble_eq_true rfl) (show 3 ≤ am_P0.2.2.1 191 from by decide +kernel) rfl (am_recv_ok hS4.fs) rfl rfl (ct_failName (d := d) hS4   (by show (0 : Int) ≤ (16 : Int); omega) (by show (0 : Int) ≤ (f 8).toInt; omega)) ?_
    rintro v43 S44 (⟨a45, b46, hv47, hS48, h49⟩)
    subst hv47
    have h49_ : (0 : Int) ≤ a45.toInt := h49
    show am_E _ _ _ _ [some (.ref 39), some (.int tx), some (.int co), some (.int cl), some (.int w), none] [] _ _
    refine am_e2 (v := 39) hi_196_18 rfl ?_
    refine mm_20 (v := .ref 52) hS48 hi_196_19 rfl ?_
    refine am_e2 (v := 39) hi_196_22 rfl ?_
    refine mm_20 (v := .int (f 24)) hS48 hi_196_23 rfl ?_
    refine am_e1 (v := tx) hi_196_26 rfl ?_
    refine mm_26 hS48 ma_25 hi_196_27 (by decide) (by omega) (by omega) (fun h => nomatch h) ?_
    intro S51 hS52
    refine am_e2 (v := 39) hi_196_28 rfl ?_
    refine mm_20 (v := .ref 55) hS52 hi_196_29 rfl ?_
    refine am_e2 (v := 39) hi_196_32 rfl ?_
    refine mm_20 (v := .int (f 24)) hS52 hi_196_33 rfl ?_
    refine am_e0 hi_196_36 ?_
    refine mm_26 hS52 ma_28 hi_196_37 (by decide) (by omega) (by omega) (fun _ => by decide) ?_
    intro S53 hS54
    refine am_e2 (v := 39) hi_196_38 rfl ?_
    refine mm_20 (v := .ref 53) hS54 hi_196_39 rfl ?_
    refine am_e2 (v := 39) hi_196_42 rfl ?_
    refine mm_20 (v := .int (f 24)) hS54 hi_196_43 rfl ?_
    refine am_e2 (v := 39) hi_196_46 rfl ?_
    refine mm_20 (v := .int (f 32)) hS54 hi_196_47 rfl ?_
    refine mm_26 hS54 ma_26 hi_196_50 (by decide) (by omega) (by omega) (fun h => nomatch h) ?_
    intro S55 hS56
    refine am_e2 (v := 39) hi_196_51 rfl ?_
    refine mm_20 (v := .ref 54) hS56 hi_196_52 rfl ?_
    refine am_e2 (v := 39) hi_196_55 rfl ?_
    refine mm_20 (v := .int (f 24)) hS56 hi_196_56 rfl ?_
    refine am_e2 (v := 39) hi_196_59 rfl ?_
    refine mm_20 (v := .int (f 31)) hS56 hi_196_60 rfl ?_
    refine mm_26 hS56 ma_27 hi_196_63 (by decide) (by omega) (by omega) (fun h => nomatch h) ?_
    intro S57 hS58
    refine am_e2 (v := 39) hi_196_64 rfl ?_
    refine mm_20 (v := .ref 56) hS58 hi_196_65 rfl ?_
    refine am_e2 (v := 39) hi_196_68 rfl ?_
    refine mm_20 (v := .int (f 24)) hS58 hi_196_69 rfl ?_
    refine am_e1 (v := co) hi_196_72 rfl ?_
    refine mm_26 hS58 ma_29 hi_196_73 (by decide) (by omega) (by omega) (fun _ => hb_co) ?_
    intro S59 hS60
    refine am_e2 (v := 39) hi_196_74 rfl ?_
    refine mm_20 (v := .ref 57) hS60 hi_196_75 rfl ?_
    refine am_e2 (v := 39) hi_196_78 rfl ?_
    refine mm_20 (v := .int (f 24)) hS60 hi_196_79 rfl ?_
    refine am_e1 (v := cl) hi_196_82 rfl ?_
    refine mm_26 hS60 ma_30 hi_196_83 (by decide) (by omega) (by omega) (fun _ => hb_cl) ?_
    intro S61 hS62
    refine am_e2 (v := 39) hi_196_84 rfl ?_
    refine am_e7 hi_196_85 ?_
    refine mm_20 (v := .int (f 31)) hS62 hi_196_86 rfl ?_
    refine am_e0 hi_196_89 ?_
    obtain ⟨z63, hz63⟩ : ∃ q__, am_bin 0 (f 31) 1 = q__ := ⟨_, rfl⟩
    refine am_e10 (z := z63) hi_196_90 hz63 ?_
    refine mm_21 (v := z63) hS62 hi_196_91 rfl (Nat.le_of_ble_eq_true rfl) ms_31 ?_
    intro S64 hS65
    refine am_e2 (v := 39) hi_196_94 rfl ?_
    refine am_e7 hi_196_95 ?_
    refine mm_20 (v := .int (f 24)) hS65 hi_196_96 rfl ?_
    refine am_e0 hi_196_99 ?_
    obtain ⟨z66, hz66, tz66⟩ := am_addI (x := f 24) (y := 1) (m := (f 24).toInt) (n := (1 : Int)) rfl (by decide) (by omega) (by omega)
    refine am_e10 (z := z66) hi_196_100 hz66 ?_
    refine mm_21 (v := z66) hS65 hi_196_101 rfl (Nat.le_of_ble_eq_true rfl) ms_24 ?_
    intro S67 hS68
    replace hS68 : MS S0 S67 (upd (upd (upd (upd f 8 a45) 9 b46) 24 z66) 31 z63) (upg (upg (upg (upg (upg (upg g 25 (f 24).toNatClampNeg tx) 28 (f 24).toNatClampNeg 0) 26 (f 24).toNatClampNeg (f 32)) 27 (f 24).toNatClampNeg (f 31)) 29 (f 24).toNatClampNeg co) 30 (f 24).toNatClampNeg cl) := hS68
    refine am_e2 (v := 39) hi_196_104 rfl ?_
    refine mm_20 (v := .ref 58) hS68 hi_196_105 rfl ?_
    refine am_e2 (v := 39) hi_196_108 rfl ?_
    refine mm_20 (v := .int (f 32)) hS68 hi_196_109 rfl ?_
    refine mm_25 hS68 ma_33 hi_196_112 (by decide) (by omega) (by omega) ?_
    show am_E _ _ _ _ [some (.ref 39), some (.int tx), some (.int co), some (.int cl), some (.int w), none] [.int (g 33 (f 32).toNatClampNeg)] _ _
    have r69 : 0 ≤ (g 33 (f 32).toNatClampNeg).toInt ∧ (g 33 (f 32).toNatClampNeg).toInt < (f 53).toInt := RJ.fn (i := f 32) hR (by omega) (by show (f 32).toInt ≤ (f 32).toInt; omega)
    refine am_e3 (ls' := [some (.ref 39), some (.int tx), some (.int co), some (.int cl), some (.int w), some (.int (g 33 (f 32).toNatClampNeg))]) hi_196_113 (Nat.le_of_ble_eq_true rfl) rfl ?_
    refine am_e2 (v := 39) hi_196_115 rfl ?_
    refine mm_20 (v := .ref 79) hS68 hi_196_116 rfl ?_
    refine am_e1 (v := g 33 (f 32).toNatClampNeg) hi_196_119 rfl ?_
    refine am_e2 (v := 39) hi_196_121 rfl ?_
    refine am_e32n (as := [.ref 39]) (la := [some (.ref 39)]) (rest := [.int (g 33 (f 32).toNatClampNeg), .ref 79]) hi_196_122 (am_hd0 (M := 196) (by decide) 122) (Nat.le_of_ble_eq_true rfl) (Nat.le_of_ble_eq_true rfl) (show 1 ≤ am_P0.2.2.1 197 from by decide +kernel) rfl (am_recv_ok hS68.fs) rfl rfl (ct_count (d := d) hS68   (by show (0 : Int) ≤ (f 32).toInt; omega) (by show (f 32).toInt ≤ (63 : Int); omega)) ?_
    rintro v70 S71 (⟨r72, hv73, hS74⟩)
    subst hv73
    show am_E _ _ _ _ [some (.ref 39), some (.int tx), some (.int co), some (.int cl), some (.int w), some (.int (g 33 (f 32).toNatClampNeg))] [.int r72, .int (g 33 (f 32).toNatClampNeg), .ref 79] _ _
    refine am_e2 (v := 39) hi_196_125 rfl ?_
    refine mm_20 (v := .ref 79) hS74 hi_196_126 rfl ?_
    refine am_e1 (v := g 33 (f 32).toNatClampNeg) hi_196_129 rfl ?_
    refine mm_25 hS74 ma_58 hi_196_131 (by decide) (by omega) (by omega) ?_
    show am_E _ _ _ _ [some (.ref 39), some (.int tx), some (.int co), some (.int cl), some (.int w), some (.int (g 33 (f 32).toNatClampNeg))] [.int (g 58 (g 33 (f 32).toNatClampNeg).toNatClampNeg), .int r72, .int (g 33 (f 32).toNatClampNeg), .ref 79] _ _
    by_cases c76 : r72.toInt ≤ (g 58 (g 33 (f 32).toNatClampNeg).toNatClampNeg).toInt
    · refine am_e13t hi_196_132 (am_cT (m := r72.toInt) (n := (g 58 (g 33 (f 32).toNatClampNeg).toNatClampNeg).toInt) rfl rfl c76) ?_
      refine am_e2 (v := 39) hi_196_142 rfl ?_
      refine mm_20 (v := .ref 79) hS74 hi_196_143 rfl ?_
      refine am_e1 (v := g 33 (f 32).toNatClampNeg) hi_196_146 rfl ?_
      refine mm_25 hS74 ma_58 hi_196_148 (by decide) (by omega) (by omega) ?_
      show am_E _ _ _ _ [some (.ref 39), some (.int tx), some (.int co), some (.int cl), some (.int w), some (.int (g 33 (f 32).toNatClampNeg))] [.int (g 58 (g 33 (f 32).toNatClampNeg).toNatClampNeg), .int (g 33 (f 32).toNatClampNeg), .ref 79] _ _
      refine mm_26 hS74 ma_58 hi_196_149 (by decide) (by omega) (by omega) (fun h => nomatch h) ?_
      intro S77 hS78
      refine am_e35 hi_196_150 ?_
      exact ⟨a45, b46, z66, z63, _, rfl, hS78, (rj_declare hR ⟨by omega, by omega⟩ (by show (f 24).toInt ≤ _; omega)), (by show z66.toInt = (f 24).toInt + 1; omega), (by intro j hj; simp only [List.mem_cons, List.not_mem_nil, or_false, not_or] at hj; simp only [upg, hj, if_false]), (by show (0 : Int) ≤ a45.toInt; omega)⟩
    · refine am_e13f hi_196_132 (am_cF (m := r72.toInt) (n := (g 58 (g 33 (f 32).toNatClampNeg).toNatClampNeg).toInt) rfl rfl c76) ?_
      refine am_e2 (v := 39) hi_196_135 rfl ?_
      refine am_e32n (as := [.ref 39]) (la := [some (.ref 39)]) (rest := [.int (g 33 (f 32).toNatClampNeg), .ref 79]) hi_196_136 (am_hd0 (M := 196) (by decide) 136) (Nat.le_of_ble_eq_true rfl) (Nat.le_of_ble_eq_true rfl) (show 1 ≤ am_P0.2.2.1 197 from by decide +kernel) rfl (am_recv_ok hS74.fs) rfl rfl (ct_count (d := d) hS74   (by show (0 : Int) ≤ (f 32).toInt; omega) (by show (f 32).toInt ≤ (63 : Int); omega)) ?_
      rintro v79 S80 (⟨r81, hv82, hS83⟩)
      subst hv82
      show am_E _ _ _ _ [some (.ref 39), some (.int tx), some (.int co), some (.int cl), some (.int w), some (.int (g 33 (f 32).toNatClampNeg))] [.int r81, .int (g 33 (f 32).toNatClampNeg), .ref 79] _ _
      refine am_e18 hi_196_139 ?_
      refine mm_26 hS83 ma_58 hi_196_149 (by decide) (by omega) (by omega) (fun h => nomatch h) ?_
      intro S85 hS86
      refine am_e35 hi_196_150 ?_
      exact ⟨a45, b46, z66, z63, _, rfl, hS86, (rj_declare hR ⟨by omega, by omega⟩ (by show (f 24).toInt ≤ _; omega)), (by show z66.toInt = (f 24).toInt + 1; omega), (by intro j hj; simp only [List.mem_cons, List.not_mem_nil, or_false, not_or] at hj; simp only [upg, hj, if_false]), (by show (0 : Int) ≤ a45.toInt; omega)⟩
theorem lp_find {sc : Nat × (Nat → Int32)} {d : Nat} {S0 : am_S} {f : Nat → Int32} {g : Nat → Nat → Int32} {tx : Int32}  (p0 : (0 : Int) ≤ (f 24).toInt) (p1 : (f 24).toInt ≤ (16384 : Int)) : ∀ (N : Nat) (S : am_S) (l : Int32), MS S0 S f g → (-1 : Int) ≤ l.toInt → l.toInt < (f 24).toInt → l.toInt + 1 < (N : Int) → am_E (am_PP sc) (d + 0) 206 7 [some (.ref 39), some (.int tx), some (.int l)] [] S (am_N fun v S1 => (∃ r : Int32, v = some (.int r) ∧ MS S0 S1 f g ∧ ((-1 : Int) ≤ r.toInt) ∧ (r.toInt < (f 24).toInt))) := by
  intro N
  induction N with
  | zero =>
    intro S  l   hS   i0 i1 hN
    exfalso
    omega
  | succ N ih =>
    intro S  l   hS   i0 i1 hN
    refine am_e1 (v := l) hi_206_7 rfl ?_
    by_cases c0 : l.toInt < (0 : Int)
    · refine am_e12t hi_206_8 (am_cT (m := l.toInt) (n := (0 : Int)) rfl (by decide) c0) ?_
      refine am_e1 (v := l) hi_206_36 rfl ?_
      refine am_e33 hi_206_37 ?_
      exact ⟨l, rfl, hS, (by show (-1 : Int) ≤ l.toInt; omega), (by show l.toInt < (f 24).toInt; omega)⟩
    · refine am_e12f hi_206_8 (am_cF (m := l.toInt) (n := (0 : Int)) rfl (by decide) c0) ?_
      refine am_e2 (v := 39) hi_206_11 rfl ?_
      refine mm_20 (v := .ref 52) hS hi_206_12 rfl ?_
      refine am_e1 (v := l) hi_206_15 rfl ?_
      refine mm_25 hS ma_25 hi_206_16 (by decide) (by omega) (by omega) ?_
      show am_E _ _ _ _ [some (.ref 39), some (.int tx), some (.int l)] [.int (g 25 l.toNatClampNeg)] _ _
      refine am_e1 (v := tx) hi_206_17 rfl ?_
      by_cases c1 : ¬ (g 25 l.toNatClampNeg).toInt = tx.toInt
      · refine am_e13t hi_206_18 (am_cT (m := (g 25 l.toNatClampNeg).toInt) (n := tx.toInt) rfl rfl c1) ?_
        obtain ⟨z2, hz2, tz2⟩ := am_addI (x := l) (y := (-1)) (m := l.toInt) (n := (-1 : Int)) rfl (by decide) (by omega) (by omega)
        refine am_e5 (v := l) (z := z2) (ls' := [some (.ref 39), some (.int tx), some (.int z2)]) hi_206_30 rfl hz2 rfl ?_
        refine am_e18 hi_206_33 ?_
        exact ih _ z2 hS (by show (-1 : Int) ≤ z2.toInt; omega) (by show z2.toInt < (f 24).toInt; omega) (by show z2.toInt + 1 < (N : Int); omega)
      · refine am_e13f hi_206_18 (am_cF (m := (g 25 l.toNatClampNeg).toInt) (n := tx.toInt) rfl rfl c1) ?_
        refine am_e2 (v := 39) hi_206_21 rfl ?_
        refine mm_20 (v := .ref 55) hS hi_206_22 rfl ?_
        refine am_e1 (v := l) hi_206_25 rfl ?_
        refine mm_25 hS ma_28 hi_206_26 (by decide) (by omega) (by omega) ?_
        show am_E _ _ _ _ [some (.ref 39), some (.int tx), some (.int l)] [.int (g 28 l.toNatClampNeg)] _ _
        by_cases c3 : (g 28 l.toNatClampNeg).toInt = (0 : Int)
        · refine am_e12t hi_206_27 (am_cT (m := (g 28 l.toNatClampNeg).toInt) (n := (0 : Int)) rfl (by decide) c3) ?_
          refine am_e1 (v := l) hi_206_36 rfl ?_
          refine am_e33 hi_206_37 ?_
          exact ⟨l, rfl, hS, (by show (-1 : Int) ≤ l.toInt; omega), (by show l.toInt < (f 24).toInt; omega)⟩
        · refine am_e12f hi_206_27 (am_cF (m := (g 28 l.toNatClampNeg).toInt) (n := (0 : Int)) rfl (by decide) c3) ?_
          obtain ⟨z4, hz4, tz4⟩ := am_addI (x := l) (y := (-1)) (m := l.toInt) (n := (-1 : Int)) rfl (by decide) (by omega) (by omega)
          refine am_e5 (v := l) (z := z4) (ls' := [some (.ref 39), some (.int tx), some (.int z4)]) hi_206_30 rfl hz4 rfl ?_
          refine am_e18 hi_206_33 ?_
          exact ih _ z4 hS (by show (-1 : Int) ≤ z4.toInt; omega) (by show z4.toInt < (f 24).toInt; omega) (by show z4.toInt + 1 < (N : Int); omega)
theorem ct_find {sc : Nat × (Nat → Int32)} {d : Nat} {S0 S : am_S} {f : Nat → Int32} {g : Nat → Nat → Int32} {tx : Int32} (hS : MS S0 S f g) (p0 : (0 : Int) ≤ (f 24).toInt) (p1 : (f 24).toInt ≤ (16384 : Int)) : am_E (am_PP sc) (d + 0) 206 0 [some (.ref 39), some (.int tx), none] [] S (am_N fun v S1 => (∃ r : Int32, v = some (.int r) ∧ MS S0 S1 f g ∧ ((-1 : Int) ≤ r.toInt) ∧ (r.toInt < (f 24).toInt))) := by
  refine am_e2 (v := 39) hi_206_0 rfl ?_
  refine mm_20 (v := .int (f 24)) hS hi_206_1 rfl ?_
  refine am_e0 hi_206_4 ?_
  obtain ⟨z0, hz0, tz0⟩ := am_subI (x := f 24) (y := 1) (m := (f 24).toInt) (n := (1 : Int)) rfl (by decide) (by omega) (by omega)
  refine am_e10 (z := z0) hi_206_5 hz0 ?_
  refine am_e3 (ls' := [some (.ref 39), some (.int tx), some (.int z0)]) hi_206_6 (Nat.le_of_ble_eq_true rfl) rfl ?_
  exact lp_find p0 p1 ((z0.toInt + 1).toNat + 1) _ z0 hS (by show (-1 : Int) ≤ z0.toInt; omega) (by show z0.toInt < (f 24).toInt; omega) (by show z0.toInt + 1 < _; omega)
