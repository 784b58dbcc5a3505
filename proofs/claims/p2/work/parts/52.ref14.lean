/-! THE REFERENCE: bodies (printed by wip/p2/ref14.py) -/
theorem ct_beginBlock2 {sc : Nat × (Nat → Int32)} {d : Nat} {S0 S : am_S} {f : Nat → Int32} {g : Nat → Nat → Int32} {lo : Int32} {gs : List mg_E} {bc : List (List Nat)} {fl : List Nat} {fk : Int} {pj : List Nat} (hS : MS S0 S f g) (hR : RJ f g gs bc fl fk pj) (hb_lo : lo = 0 ∨ lo = 1) (p0 : (0 : Int) ≤ (f 37).toInt) (p1 : (f 37).toInt ≤ (127 : Int)) (p2 : (0 : Int) ≤ (f 24).toInt) (p3 : (0 : Int) ≤ (f 44).toInt) (p4 : (f 44).toInt ≤ (f 4).toInt) (p5 : (0 : Int) ≤ (f 48).toInt) : am_E (am_PP sc) (d + 0) 177 0 [some (.ref 39), some (.int lo)] [] S (am_N fun v S1 => (∃ z : Int32, ∃ g' : Nat → Nat → Int32, v = none ∧ MS S0 S1 (upd f 37 z) g' ∧ (RJ (upd f 37 z) g' gs ([] :: bc) fl fk pj) ∧ (z.toInt = (f 37).toInt + 1) ∧ (∀ j, j ∉ [38, 39, 40, 41, 42, 43] → g' j = g j) ∧ (g' 38 = upd (g 38) (f 37).toNatClampNeg (f 24)))) := by
  refine am_e2 (v := 39) hi_177_0 rfl ?_
  refine mm_20 (v := .ref 62) hS hi_177_1 rfl ?_
  refine am_e2 (v := 39) hi_177_4 rfl ?_
  refine mm_20 (v := .int (f 37)) hS hi_177_5 rfl ?_
  refine am_e2 (v := 39) hi_177_8 rfl ?_
  refine mm_20 (v := .int (f 24)) hS hi_177_9 rfl ?_
  refine mm_26 hS ma_38 hi_177_12 (by decide) (by omega) (by omega) (fun h => nomatch h) ?_
  intro S0 hS1
  refine am_e2 (v := 39) hi_177_13 rfl ?_
  refine mm_20 (v := .ref 63) hS1 hi_177_14 rfl ?_
  refine am_e2 (v := 39) hi_177_17 rfl ?_
  refine mm_20 (v := .int (f 37)) hS1 hi_177_18 rfl ?_
  refine am_e2 (v := 39) hi_177_21 rfl ?_
  refine mm_20 (v := .int (f 44)) hS1 hi_177_22 rfl ?_
  refine mm_26 hS1 ma_39 hi_177_25 (by decide) (by omega) (by omega) (fun h => nomatch h) ?_
  intro S2 hS3
  refine am_e2 (v := 39) hi_177_26 rfl ?_
  refine mm_20 (v := .ref 64) hS3 hi_177_27 rfl ?_
  refine am_e2 (v := 39) hi_177_30 rfl ?_
  refine mm_20 (v := .int (f 37)) hS3 hi_177_31 rfl ?_
  refine am_e2 (v := 39) hi_177_34 rfl ?_
  refine mm_20 (v := .int (f 48)) hS3 hi_177_35 rfl ?_
  refine mm_26 hS3 ma_40 hi_177_38 (by decide) (by omega) (by omega) (fun h => nomatch h) ?_
  intro S4 hS5
  refine am_e2 (v := 39) hi_177_39 rfl ?_
  refine mm_20 (v := .ref 65) hS5 hi_177_40 rfl ?_
  refine am_e2 (v := 39) hi_177_43 rfl ?_
  refine mm_20 (v := .int (f 37)) hS5 hi_177_44 rfl ?_
  refine am_e2 (v := 39) hi_177_47 rfl ?_
  refine mm_20 (v := .int (f 32)) hS5 hi_177_48 rfl ?_
  refine mm_26 hS5 ma_41 hi_177_51 (by decide) (by omega) (by omega) (fun h => nomatch h) ?_
  intro S6 hS7
  refine am_e2 (v := 39) hi_177_52 rfl ?_
  refine mm_20 (v := .ref 66) hS7 hi_177_53 rfl ?_
  refine am_e2 (v := 39) hi_177_56 rfl ?_
  refine mm_20 (v := .int (f 37)) hS7 hi_177_57 rfl ?_
  refine am_e1 (v := lo) hi_177_60 rfl ?_
  refine mm_26 hS7 ma_42 hi_177_61 (by decide) (by omega) (by omega) (fun _ => hb_lo) ?_
  intro S8 hS9
  refine am_e2 (v := 39) hi_177_62 rfl ?_
  refine mm_20 (v := .ref 67) hS9 hi_177_63 rfl ?_
  refine am_e2 (v := 39) hi_177_66 rfl ?_
  refine mm_20 (v := .int (f 37)) hS9 hi_177_67 rfl ?_
  refine am_e0 hi_177_70 ?_
  refine mm_26 hS9 ma_43 hi_177_71 (by decide) (by omega) (by omega) (fun h => nomatch h) ?_
  intro S10 hS11
  refine am_e2 (v := 39) hi_177_72 rfl ?_
  refine am_e7 hi_177_73 ?_
  refine mm_20 (v := .int (f 37)) hS11 hi_177_74 rfl ?_
  refine am_e0 hi_177_77 ?_
  obtain ⟨z12, hz12, tz12⟩ := am_addI (x := f 37) (y := 1) (m := (f 37).toInt) (n := (1 : Int)) rfl (by decide) (by omega) (by omega)
  refine am_e10 (z := z12) hi_177_78 hz12 ?_
  refine mm_21 (v := z12) hS11 hi_177_79 rfl (Nat.le_of_ble_eq_true rfl) ms_37 ?_
  intro S13 hS14
  refine am_e35 hi_177_82 ?_
  exact ⟨z12, _, rfl, hS14, (rj_begin hR (by omega) (by omega) (by omega) ⟨by omega, by omega⟩ (by omega)), (by show z12.toInt = (f 37).toInt + 1; omega), (by intro j hj; simp only [List.mem_cons, List.not_mem_nil, or_false, not_or] at hj; simp only [upg, hj, if_false]), rfl⟩
