/-! STEPS: tables (printed by wip/p2/st1.py) -/
theorem st_35 {sc : Nat × (Nat → Int32)} {d : Nat} {S0 S : am_S} {f : Nat → Int32} {g : Nat → Nat → Int32} {on : Int32} {tw : Int32} {th : Int32} {gs : List mg_E} {bc : List (List Nat)} (hS : MS S0 S f g) (hR : RJ f g gs bc [] 0 []) (hrest : mg_good (g 34) (g 38) gs ((f 15).toInt + 0) ((f 20).toInt) ((f 37).toInt + 0) ((f 32).toInt + 0) ((f 5).toInt + -1)) (p0 : 0 ≤ (f 4).toInt) (p1 : (f 4).toInt ≤ (f 0).toInt) (p2 : (f 0).toInt ≤ 512) (p3 : 0 ≤ (f 24).toInt) (p4 : (f 24).toInt + (f 20).toInt + mg_p1 gs ≤ 4 * (f 4).toInt) (p5 : (f 20).toInt ≤ (f 4).toInt) (p6 : (f 15).toInt + 0 + mg_p2 gs ≤ (f 4).toInt) (p7 : 3 + mg_p3 gs ≤ 20 * (f 4).toInt + 20) (p8 : 0 ≤ (f 68).toInt) (p9 : (f 68).toInt + 3 * (f 20).toInt + 0 + mg_p4 gs ≤ 60 * (f 4).toInt + 60) (p10 : 0 ≤ (f 62).toInt) (p11 : (f 62).toInt + 64 * mj_n (g 16) (f 15).toNatClampNeg 3 ≤ 64 * (f 4).toInt) (p12 : 0 ≤ (f 44).toInt) (p13 : (f 44).toInt ≤ (f 4).toInt) (p14 : 0 ≤ (f 48).toInt) (p15 : (f 48).toInt ≤ (f 4).toInt) (p16 : 1 ≤ (f 53).toInt) (p17 : (f 53).toInt ≤ (f 4).toInt + 1) (p18 : 0 ≤ mg_p1 gs) (p19 : 0 ≤ mg_p2 gs) (p20 : 0 ≤ mg_p4 gs) (p21 : 0 ≤ (f 10).toInt) (p22 : (f 10).toInt ≤ mg_p3 gs) (p23 : 0 ≤ mj_n (g 16) (f 15).toNatClampNeg 3) (p24 : 0 ≤ (f 15).toInt) (p25 : 0 ≤ (f 20).toInt) (p26 : 1 ≤ (f 37).toInt) (p27 : 0 ≤ (f 32).toInt) (p28 : (f 32).toInt ≤ (f 5).toInt) (p29 : (f 5).toInt ≤ 48) (p30 : (f 37).toInt ≤ 2 * (f 5).toInt + 2) : am_E (am_PP sc) (d + 8) 180 0 [some (.ref 39), some (.int 35), some (.int on), some (.int tw), some (.int th)] [] S (am_N fun v S1 => ∃ (f' : Nat → Int32) (g' : Nat → Nat → Int32) (gs' : List mg_E) (bc' : List (List Nat)), v = none ∧ MS S0 S1 f' g' ∧ (mg_on f (100 * ((f 0).toInt - (f 4).toInt) + (3 + mg_p3 gs)) f' g' gs' bc' ∨ mg_off f f' g' bc')) := by
  have hbs := mg_basic hrest
  refine am_e1 (v := 35) hi_180_0 rfl ?_
  refine am_e0 hi_180_1 ?_
  refine am_e13f hi_180_3 (by decide) ?_
  refine am_e2 (v := 39) hi_180_6 rfl ?_
  refine am_e1 (v := 35) hi_180_7 rfl ?_
  refine am_e1 (v := on) hi_180_8 rfl ?_
  refine am_e1 (v := tw) hi_180_9 rfl ?_
  refine am_e32w (as := [.ref 39, .int 35, .int on, .int tw]) (la := [some (.ref 39), some (.int 35), some (.int on), some (.int tw)]) (rest := []) hi_180_10 (am_hd0 (M := 180) (by decide) 10) (Nat.le_of_ble_eq_true rfl) (Nat.le_of_ble_eq_true rfl) (show 4 ≤ am_P0.2.2.1 181 from by decide +kernel) rfl (am_recv_ok hS.fs) rfl rfl ?_
  refine am_e1 (v := 35) hi_181_0 rfl ?_
  refine am_e19 (t := 261) hi_181_1 (by decide) ?_
  refine am_e2 (v := 39) hi_181_261 rfl ?_
  refine am_e1 (v := on) hi_181_262 rfl ?_
  refine am_e32w (as := [.ref 39, .int on]) (la := [some (.ref 39), some (.int on), none, none]) (rest := []) hi_181_263 (am_hd0 (M := 181) (by decide) 263) (Nat.le_of_ble_eq_true rfl) (Nat.le_of_ble_eq_true rfl) (show 2 ≤ am_P0.2.2.1 219 from by decide +kernel) rfl (am_recv_ok hS.fs) rfl rfl ?_
  refine am_e2 (v := 39) hi_219_0 rfl ?_
  refine am_e32n (as := [.ref 39]) (la := [some (.ref 39)]) (rest := []) hi_219_1 (am_hd0 (M := 219) (by decide) 1) (Nat.le_of_ble_eq_true rfl) (Nat.le_of_ble_eq_true rfl) (show 1 ≤ am_P0.2.2.1 183 from by decide +kernel) rfl (am_recv_ok hS.fs) rfl rfl (ct_next (d := (d + 4)) hS   (by show (0 : Int) ≤ (f 4).toInt; omega) (by show (f 0).toInt ≤ (16384 : Int); omega)) ?_
  rintro v0 S1 (⟨r2, hv3, hS4, h5⟩)
  subst hv3
  have h5_ : (f 4).toInt < (f 0).toInt ∨ r2.toInt = (-1 : Int) := h5
  show am_E _ _ _ _ [some (.ref 39), some (.int on), none, none] [.int r2] _ _
  refine am_e3 (ls' := [some (.ref 39), some (.int on), some (.int r2), none]) hi_219_4 (Nat.le_of_ble_eq_true rfl) rfl ?_
  refine am_e2 (v := 39) hi_219_5 rfl ?_
  refine mm_20 (v := .int (f 4)) hS4 hi_219_6 rfl ?_
  refine am_e3 (ls' := [some (.ref 39), some (.int on), some (.int r2), some (.int (f 4))]) hi_219_9 (Nat.le_of_ble_eq_true rfl) rfl ?_
  refine am_e1 (v := r2) hi_219_10 rfl ?_
  refine am_e0 hi_219_11 ?_
  by_cases c7 : ¬ r2.toInt = (63 : Int)
  · refine am_e13t hi_219_13 (am_cT (m := r2.toInt) (n := (63 : Int)) rfl (by decide) c7) ?_
    refine am_e1 (v := r2) hi_219_26 rfl ?_
    refine am_e0 hi_219_27 ?_
    by_cases c8 : ¬ r2.toInt = (64 : Int)
    · refine am_e13t hi_219_29 (am_cT (m := r2.toInt) (n := (64 : Int)) rfl (by decide) c8) ?_
      refine am_e1 (v := r2) hi_219_59 rfl ?_
      refine am_e0 hi_219_60 ?_
      by_cases c9 : ¬ r2.toInt = (1 : Int)
      · refine am_e13t hi_219_61 (am_cT (m := r2.toInt) (n := (1 : Int)) rfl (by decide) c9) ?_
        refine am_e2 (v := 39) hi_219_106 rfl ?_
        refine am_e0 hi_219_107 ?_
        refine am_e1 (v := on) hi_219_109 rfl ?_
        refine am_e0 hi_219_110 ?_
        obtain ⟨z10, hz10⟩ : ∃ q__, am_bin 0 on 1 = q__ := ⟨_, rfl⟩
        refine am_e10 (z := z10) hi_219_111 hz10 ?_
        refine am_e1 (v := f 4) hi_219_112 rfl ?_
        refine am_e0 hi_219_113 ?_
        refine am_e32n (as := [.ref 39, .int 39, .int z10, .int (f 4), .int 0]) (la := [some (.ref 39), some (.int 39), some (.int z10), some (.int (f 4)), some (.int 0)]) (rest := []) hi_219_114 (am_hd0 (M := 219) (by decide) 114) (Nat.le_of_ble_eq_true rfl) (Nat.le_of_ble_eq_true rfl) (show 5 ≤ am_P0.2.2.1 179 from by decide +kernel) rfl (am_recv_ok hS4.fs) rfl rfl (ct_pile (d := (d + 5)) hS4 hR (mj_e_plain (by decide)) (by show (0 : Int) ≤ (f 10).toInt; omega) (by show (f 10).toInt ≤ (65535 : Int); omega)) ?_
        rintro v11 S12 (⟨z13, g'14, hv15, hS16, hR19, h17, h18⟩)
        subst hv15
        have h17_ : z13.toInt = (f 10).toInt + 1 := h17
        have h18_ : ∀ j, j ∉ [11, 12, 13, 14] → g'14 j = g j := h18
        have hR19_ : RJ (upd f 10 z13) g'14 (((39 : Int), z10.toInt, (f 4).toInt, (0 : Int), []) :: gs) bc [] 0 [] := hR19
        show am_E _ _ _ _ [some (.ref 39), some (.int on), some (.int r2), some (.int (f 4))] [] _ _
        refine am_e2 (v := 39) hi_219_117 rfl ?_
        refine am_e0 hi_219_118 ?_
        refine am_e32w (as := [.ref 39, .int 0]) (la := [some (.ref 39), some (.int 0)]) (rest := []) hi_219_119 (am_hd0 (M := 219) (by decide) 119) (Nat.le_of_ble_eq_true rfl) (Nat.le_of_ble_eq_true rfl) (show 2 ≤ am_P0.2.2.1 186 from by decide +kernel) rfl (am_recv_ok hS16.fs) rfl rfl ?_
        refine am_e2 (v := 39) hi_186_0 rfl ?_
        refine am_e0 hi_186_1 ?_
        refine am_e1 (v := 0) hi_186_3 rfl ?_
        refine am_e0 hi_186_4 ?_
        refine am_e0 hi_186_5 ?_
        refine am_e32n (as := [.ref 39, .int 23, .int 0, .int 0, .int 0]) (la := [some (.ref 39), some (.int 23), some (.int 0), some (.int 0), some (.int 0)]) (rest := []) hi_186_6 (am_hd0 (M := 186) (by decide) 6) (Nat.le_of_ble_eq_true rfl) (Nat.le_of_ble_eq_true rfl) (show 5 ≤ am_P0.2.2.1 179 from by decide +kernel) rfl (am_recv_ok hS16.fs) rfl rfl (ct_pile (d := (d + 4)) hS16 hR19_ (mj_e_plain (by decide)) (by show (0 : Int) ≤ z13.toInt; omega) (by show z13.toInt ≤ (65535 : Int); omega)) ?_
        rintro v20 S21 (⟨z22, g'23, hv24, hS25, hR28, h26, h27⟩)
        subst hv24
        have h26_ : z22.toInt = z13.toInt + 1 := h26
        have h27_ : ∀ j, j ∉ [11, 12, 13, 14] → g'23 j = g'14 j := h27
        replace hS25 : MS S0 S21 (upd f 10 z22) g'23 := hS25
        have hR28_ : RJ (upd f 10 z22) g'23 (((23 : Int), (0 : Int), (0 : Int), (0 : Int), []) :: (((39 : Int), z10.toInt, (f 4).toInt, (0 : Int), []) :: gs)) bc [] 0 [] := hR28
        show am_E _ _ _ _ [some (.ref 39), some (.int 0)] [] _ _
        refine am_e35 hi_186_9 ?_
        show am_E _ _ _ _ [some (.ref 39), some (.int on), some (.int r2), some (.int (f 4))] [] _ _
        refine am_e35 hi_219_122 ?_
        show am_E _ _ _ _ [some (.ref 39), some (.int 35), some (.int on), some (.int tw)] [] _ _
        refine am_e18 hi_181_266 ?_
        refine am_e35 hi_181_397 ?_
        show am_E _ _ _ _ [some (.ref 39), some (.int 35), some (.int on), some (.int tw), some (.int th)] [] _ _
        refine am_e35 hi_180_13 ?_
        have q1 : mg_p1 (((23 : Int), (0 : Int), (0 : Int), (0 : Int), []) :: (((39 : Int), z10.toInt, (f 4).toInt, (0 : Int), []) :: gs)) = 0 + (0 + (mg_p1 gs)) := rfl
        have q2 : mg_p2 (((23 : Int), (0 : Int), (0 : Int), (0 : Int), []) :: (((39 : Int), z10.toInt, (f 4).toInt, (0 : Int), []) :: gs)) = 0 + (0 + (mg_p2 gs)) := rfl
        have q3 : mg_p3 (((23 : Int), (0 : Int), (0 : Int), (0 : Int), []) :: (((39 : Int), z10.toInt, (f 4).toInt, (0 : Int), []) :: gs)) = 1 + (1 + (mg_p3 gs)) := rfl
        have q4 : mg_p4 (((23 : Int), (0 : Int), (0 : Int), (0 : Int), []) :: (((39 : Int), z10.toInt, (f 4).toInt, (0 : Int), []) :: gs)) = 0 + (0 + (mg_p4 gs)) := rfl
        refine ⟨_, _, _, bc, rfl, hS25, Or.inl ⟨⟨hR28_, ?_, ?_⟩, rfl, ?_⟩⟩
        · exact (⟨⟨(show (0 : Int) ≤ 23 from by decide), (show (0 : Int) ≤ (f 15).toInt from by omega), (show 0 ≤ (f 20).toInt from by omega), (show 1 ≤ (f 37).toInt from by omega), (show 0 ≤ (f 32).toInt from by omega), (show (f 32).toInt ≤ (f 5).toInt from by omega), (show (f 5).toInt ≤ 48 from by omega), (show (f 37).toInt ≤ 2 * ((f 5).toInt) + 2 from by omega), (show 0 ≤ (0 : Int) from by omega)⟩, ⟨⟨(show (0 : Int) ≤ 39 from by decide), (show (1 : Int) ≤ (f 15).toInt + 1 from by omega), (show 0 ≤ (f 20).toInt from by omega), (show 1 ≤ (f 37).toInt + 0 from by omega), (show 0 ≤ (f 32).toInt + 0 from by omega), (show (f 32).toInt + 0 ≤ (f 5).toInt + 0 from by omega), (show (f 5).toInt + 0 ≤ 48 from by omega), (show (f 37).toInt + 0 ≤ 2 * ((f 5).toInt + 0) + 2 from by omega), trivial⟩, mg_cast (mg_good_ext _ _ _ _ _ _ (fun i _ => by show g'23 34 i = g 34 i; rw [show g'23 34 = g'14 34 from h27_ 34 (by decide), show g'14 34 = g 34 from h18_ 34 (by decide)]) (fun i _ => by show g'23 38 i = g 38 i; rw [show g'23 38 = g'14 38 from h27_ 38 (by decide), show g'14 38 = g 38 from h18_ 38 (by decide)]) hrest) (by show (f 15).toInt + 0 = (f 15).toInt + 1 + -1; omega) (by show (f 20).toInt = (f 20).toInt; omega) (by show (f 37).toInt + 0 = (f 37).toInt + 0 + 0; omega) (by show (f 32).toInt + 0 = (f 32).toInt + 0 + 0; omega) (by show (f 5).toInt + -1 = (f 5).toInt + 0 + -1; omega)⟩⟩ : mg_good (g'23 34) (g'23 38) (((23 : Int), (0 : Int), (0 : Int), (0 : Int), []) :: (((39 : Int), z10.toInt, (f 4).toInt, (0 : Int), []) :: gs)) ((f 15).toInt) ((f 20).toInt) ((f 37).toInt) ((f 32).toInt) ((f 5).toInt))
        · exact ⟨(by show 0 ≤ (f 4).toInt; omega), (by show (f 4).toInt ≤ (f 0).toInt; omega), (by show (f 0).toInt ≤ 512; omega), (by show 0 ≤ (f 24).toInt; omega), (by show (f 24).toInt + (f 20).toInt + mg_p1 (((23 : Int), (0 : Int), (0 : Int), (0 : Int), []) :: (((39 : Int), z10.toInt, (f 4).toInt, (0 : Int), []) :: gs)) ≤ 4 * (f 4).toInt; omega), (by show (f 20).toInt ≤ (f 4).toInt; omega), (by show (f 15).toInt + mg_p2 (((23 : Int), (0 : Int), (0 : Int), (0 : Int), []) :: (((39 : Int), z10.toInt, (f 4).toInt, (0 : Int), []) :: gs)) ≤ (f 4).toInt; omega), (by show mg_p3 (((23 : Int), (0 : Int), (0 : Int), (0 : Int), []) :: (((39 : Int), z10.toInt, (f 4).toInt, (0 : Int), []) :: gs)) ≤ 20 * (f 4).toInt + 20; omega), (by show 0 ≤ (f 68).toInt; omega), (by show (f 68).toInt + 3 * (f 20).toInt + mg_p4 (((23 : Int), (0 : Int), (0 : Int), (0 : Int), []) :: (((39 : Int), z10.toInt, (f 4).toInt, (0 : Int), []) :: gs)) ≤ 60 * (f 4).toInt + 60; omega), (by show 0 ≤ (f 62).toInt; omega), (by show (f 62).toInt + 64 * mj_n (g'23 16) (f 15).toNatClampNeg 3 ≤ 64 * (f 4).toInt; rw [show g'23 16 = g'14 16 from h27_ 16 (by decide), show g'14 16 = g 16 from h18_ 16 (by decide)]; omega), (by show 0 ≤ (f 44).toInt; omega), (by show (f 44).toInt ≤ (f 4).toInt; omega), (by show 0 ≤ (f 48).toInt; omega), (by show (f 48).toInt ≤ (f 4).toInt; omega), (by show 1 ≤ (f 53).toInt; omega), (by show (f 53).toInt ≤ (f 4).toInt + 1; omega)⟩
        · show 100 * ((f 0).toInt - (f 4).toInt) + mg_p3 (((23 : Int), (0 : Int), (0 : Int), (0 : Int), []) :: (((39 : Int), z10.toInt, (f 4).toInt, (0 : Int), []) :: gs)) < 100 * ((f 0).toInt - (f 4).toInt) + (3 + mg_p3 gs); omega
      · refine am_e13f hi_219_61 (am_cF (m := r2.toInt) (n := (1 : Int)) rfl (by decide) c9) ?_
        refine am_e2 (v := 39) hi_219_64 rfl ?_
        refine am_e2 (v := 39) hi_219_65 rfl ?_
        refine mm_20 (v := .int (f 4)) hS4 hi_219_66 rfl ?_
        refine am_e0 hi_219_69 ?_
        obtain ⟨z29, hz29, tz29⟩ := am_addI (x := f 4) (y := 1) (m := (f 4).toInt) (n := (1 : Int)) rfl (by decide) (by omega) (by omega)
        refine am_e10 (z := z29) hi_219_70 hz29 ?_
        refine am_e32n (as := [.ref 39, .int z29]) (la := [some (.ref 39), some (.int z29)]) (rest := []) hi_219_71 (am_hd0 (M := 219) (by decide) 71) (Nat.le_of_ble_eq_true rfl) (Nat.le_of_ble_eq_true rfl) (show 2 ≤ am_P0.2.2.1 184 from by decide +kernel) rfl (am_recv_ok hS4.fs) rfl rfl (ct_kindAt (d := (d + 5)) hS4   (by show (0 : Int) ≤ z29.toInt; omega) (by show (f 0).toInt ≤ (16384 : Int); omega)) ?_
        rintro v30 S31 (⟨r32, hv33, hS34, h35⟩)
        subst hv33
        have h35_ : z29.toInt < (f 0).toInt ∨ r32.toInt = (-1 : Int) := h35
        show am_E _ _ _ _ [some (.ref 39), some (.int on), some (.int r2), some (.int (f 4))] [.int r32] _ _
        refine am_e0 hi_219_74 ?_
        by_cases c37 : ¬ r32.toInt = (59 : Int)
        · refine am_e13t hi_219_76 (am_cT (m := r32.toInt) (n := (59 : Int)) rfl (by decide) c37) ?_
          refine am_e2 (v := 39) hi_219_106 rfl ?_
          refine am_e0 hi_219_107 ?_
          refine am_e1 (v := on) hi_219_109 rfl ?_
          refine am_e0 hi_219_110 ?_
          obtain ⟨z38, hz38⟩ : ∃ q__, am_bin 0 on 1 = q__ := ⟨_, rfl⟩
          refine am_e10 (z := z38) hi_219_111 hz38 ?_
          refine am_e1 (v := f 4) hi_219_112 rfl ?_
          refine am_e0 hi_219_113 ?_
          refine am_e32n (as := [.ref 39, .int 39, .int z38, .int (f 4), .int 0]) (la := [some (.ref 39), some (.int 39), some (.int z38), some (.int (f 4)), some (.int 0)]) (rest := []) hi_219_114 (am_hd0 (M := 219) (by decide) 114) (Nat.le_of_ble_eq_true rfl) (Nat.le_of_ble_eq_true rfl) (show 5 ≤ am_P0.2.2.1 179 from by decide +kernel) rfl (am_recv_ok hS34.fs) rfl rfl (ct_pile (d := (d + 5)) hS34 hR (mj_e_plain (by decide)) (by show (0 : Int) ≤ (f 10).toInt; omega) (by show (f 10).toInt ≤ (65535 : Int); omega)) ?_
          rintro v39 S40 (⟨z41, g'42, hv43, hS44, hR47, h45, h46⟩)
          subst hv43
          have h45_ : z41.toInt = (f 10).toInt + 1 := h45
          have h46_ : ∀ j, j ∉ [11, 12, 13, 14] → g'42 j = g j := h46
          have hR47_ : RJ (upd f 10 z41) g'42 (((39 : Int), z38.toInt, (f 4).toInt, (0 : Int), []) :: gs) bc [] 0 [] := hR47
          show am_E _ _ _ _ [some (.ref 39), some (.int on), some (.int r2), some (.int (f 4))] [] _ _
          refine am_e2 (v := 39) hi_219_117 rfl ?_
          refine am_e0 hi_219_118 ?_
          refine am_e32w (as := [.ref 39, .int 0]) (la := [some (.ref 39), some (.int 0)]) (rest := []) hi_219_119 (am_hd0 (M := 219) (by decide) 119) (Nat.le_of_ble_eq_true rfl) (Nat.le_of_ble_eq_true rfl) (show 2 ≤ am_P0.2.2.1 186 from by decide +kernel) rfl (am_recv_ok hS44.fs) rfl rfl ?_
          refine am_e2 (v := 39) hi_186_0 rfl ?_
          refine am_e0 hi_186_1 ?_
          refine am_e1 (v := 0) hi_186_3 rfl ?_
          refine am_e0 hi_186_4 ?_
          refine am_e0 hi_186_5 ?_
          refine am_e32n (as := [.ref 39, .int 23, .int 0, .int 0, .int 0]) (la := [some (.ref 39), some (.int 23), some (.int 0), some (.int 0), some (.int 0)]) (rest := []) hi_186_6 (am_hd0 (M := 186) (by decide) 6) (Nat.le_of_ble_eq_true rfl) (Nat.le_of_ble_eq_true rfl) (show 5 ≤ am_P0.2.2.1 179 from by decide +kernel) rfl (am_recv_ok hS44.fs) rfl rfl (ct_pile (d := (d + 4)) hS44 hR47_ (mj_e_plain (by decide)) (by show (0 : Int) ≤ z41.toInt; omega) (by show z41.toInt ≤ (65535 : Int); omega)) ?_
          rintro v48 S49 (⟨z50, g'51, hv52, hS53, hR56, h54, h55⟩)
          subst hv52
          have h54_ : z50.toInt = z41.toInt + 1 := h54
          have h55_ : ∀ j, j ∉ [11, 12, 13, 14] → g'51 j = g'42 j := h55
          replace hS53 : MS S0 S49 (upd f 10 z50) g'51 := hS53
          have hR56_ : RJ (upd f 10 z50) g'51 (((23 : Int), (0 : Int), (0 : Int), (0 : Int), []) :: (((39 : Int), z38.toInt, (f 4).toInt, (0 : Int), []) :: gs)) bc [] 0 [] := hR56
          show am_E _ _ _ _ [some (.ref 39), some (.int 0)] [] _ _
          refine am_e35 hi_186_9 ?_
          show am_E _ _ _ _ [some (.ref 39), some (.int on), some (.int r2), some (.int (f 4))] [] _ _
          refine am_e35 hi_219_122 ?_
          show am_E _ _ _ _ [some (.ref 39), some (.int 35), some (.int on), some (.int tw)] [] _ _
          refine am_e18 hi_181_266 ?_
          refine am_e35 hi_181_397 ?_
          show am_E _ _ _ _ [some (.ref 39), some (.int 35), some (.int on), some (.int tw), some (.int th)] [] _ _
          refine am_e35 hi_180_13 ?_
          have q1 : mg_p1 (((23 : Int), (0 : Int), (0 : Int), (0 : Int), []) :: (((39 : Int), z38.toInt, (f 4).toInt, (0 : Int), []) :: gs)) = 0 + (0 + (mg_p1 gs)) := rfl
          have q2 : mg_p2 (((23 : Int), (0 : Int), (0 : Int), (0 : Int), []) :: (((39 : Int), z38.toInt, (f 4).toInt, (0 : Int), []) :: gs)) = 0 + (0 + (mg_p2 gs)) := rfl
          have q3 : mg_p3 (((23 : Int), (0 : Int), (0 : Int), (0 : Int), []) :: (((39 : Int), z38.toInt, (f 4).toInt, (0 : Int), []) :: gs)) = 1 + (1 + (mg_p3 gs)) := rfl
          have q4 : mg_p4 (((23 : Int), (0 : Int), (0 : Int), (0 : Int), []) :: (((39 : Int), z38.toInt, (f 4).toInt, (0 : Int), []) :: gs)) = 0 + (0 + (mg_p4 gs)) := rfl
          refine ⟨_, _, _, bc, rfl, hS53, Or.inl ⟨⟨hR56_, ?_, ?_⟩, rfl, ?_⟩⟩
          · exact (⟨⟨(show (0 : Int) ≤ 23 from by decide), (show (0 : Int) ≤ (f 15).toInt from by omega), (show 0 ≤ (f 20).toInt from by omega), (show 1 ≤ (f 37).toInt from by omega), (show 0 ≤ (f 32).toInt from by omega), (show (f 32).toInt ≤ (f 5).toInt from by omega), (show (f 5).toInt ≤ 48 from by omega), (show (f 37).toInt ≤ 2 * ((f 5).toInt) + 2 from by omega), (show 0 ≤ (0 : Int) from by omega)⟩, ⟨⟨(show (0 : Int) ≤ 39 from by decide), (show (1 : Int) ≤ (f 15).toInt + 1 from by omega), (show 0 ≤ (f 20).toInt from by omega), (show 1 ≤ (f 37).toInt + 0 from by omega), (show 0 ≤ (f 32).toInt + 0 from by omega), (show (f 32).toInt + 0 ≤ (f 5).toInt + 0 from by omega), (show (f 5).toInt + 0 ≤ 48 from by omega), (show (f 37).toInt + 0 ≤ 2 * ((f 5).toInt + 0) + 2 from by omega), trivial⟩, mg_cast (mg_good_ext _ _ _ _ _ _ (fun i _ => by show g'51 34 i = g 34 i; rw [show g'51 34 = g'42 34 from h55_ 34 (by decide), show g'42 34 = g 34 from h46_ 34 (by decide)]) (fun i _ => by show g'51 38 i = g 38 i; rw [show g'51 38 = g'42 38 from h55_ 38 (by decide), show g'42 38 = g 38 from h46_ 38 (by decide)]) hrest) (by show (f 15).toInt + 0 = (f 15).toInt + 1 + -1; omega) (by show (f 20).toInt = (f 20).toInt; omega) (by show (f 37).toInt + 0 = (f 37).toInt + 0 + 0; omega) (by show (f 32).toInt + 0 = (f 32).toInt + 0 + 0; omega) (by show (f 5).toInt + -1 = (f 5).toInt + 0 + -1; omega)⟩⟩ : mg_good (g'51 34) (g'51 38) (((23 : Int), (0 : Int), (0 : Int), (0 : Int), []) :: (((39 : Int), z38.toInt, (f 4).toInt, (0 : Int), []) :: gs)) ((f 15).toInt) ((f 20).toInt) ((f 37).toInt) ((f 32).toInt) ((f 5).toInt))
          · exact ⟨(by show 0 ≤ (f 4).toInt; omega), (by show (f 4).toInt ≤ (f 0).toInt; omega), (by show (f 0).toInt ≤ 512; omega), (by show 0 ≤ (f 24).toInt; omega), (by show (f 24).toInt + (f 20).toInt + mg_p1 (((23 : Int), (0 : Int), (0 : Int), (0 : Int), []) :: (((39 : Int), z38.toInt, (f 4).toInt, (0 : Int), []) :: gs)) ≤ 4 * (f 4).toInt; omega), (by show (f 20).toInt ≤ (f 4).toInt; omega), (by show (f 15).toInt + mg_p2 (((23 : Int), (0 : Int), (0 : Int), (0 : Int), []) :: (((39 : Int), z38.toInt, (f 4).toInt, (0 : Int), []) :: gs)) ≤ (f 4).toInt; omega), (by show mg_p3 (((23 : Int), (0 : Int), (0 : Int), (0 : Int), []) :: (((39 : Int), z38.toInt, (f 4).toInt, (0 : Int), []) :: gs)) ≤ 20 * (f 4).toInt + 20; omega), (by show 0 ≤ (f 68).toInt; omega), (by show (f 68).toInt + 3 * (f 20).toInt + mg_p4 (((23 : Int), (0 : Int), (0 : Int), (0 : Int), []) :: (((39 : Int), z38.toInt, (f 4).toInt, (0 : Int), []) :: gs)) ≤ 60 * (f 4).toInt + 60; omega), (by show 0 ≤ (f 62).toInt; omega), (by show (f 62).toInt + 64 * mj_n (g'51 16) (f 15).toNatClampNeg 3 ≤ 64 * (f 4).toInt; rw [show g'51 16 = g'42 16 from h55_ 16 (by decide), show g'42 16 = g 16 from h46_ 16 (by decide)]; omega), (by show 0 ≤ (f 44).toInt; omega), (by show (f 44).toInt ≤ (f 4).toInt; omega), (by show 0 ≤ (f 48).toInt; omega), (by show (f 48).toInt ≤ (f 4).toInt; omega), (by show 1 ≤ (f 53).toInt; omega), (by show (f 53).toInt ≤ (f 4).toInt + 1; omega)⟩
          · show 100 * ((f 0).toInt - (f 4).toInt) + mg_p3 (((23 : Int), (0 : Int), (0 : Int), (0 : Int), []) :: (((39 : Int), z38.toInt, (f 4).toInt, (0 : Int), []) :: gs)) < 100 * ((f 0).toInt - (f 4).toInt) + (3 + mg_p3 gs); omega
        · refine am_e13f hi_219_76 (am_cF (m := r32.toInt) (n := (59 : Int)) rfl (by decide) c37) ?_
          refine am_e2 (v := 39) hi_219_79 rfl ?_
          refine am_e7 hi_219_80 ?_
          refine mm_20 (v := .int (f 4)) hS34 hi_219_81 rfl ?_
          refine am_e0 hi_219_84 ?_
          obtain ⟨z57, hz57, tz57⟩ := am_addI (x := f 4) (y := 2) (m := (f 4).toInt) (n := (2 : Int)) rfl (by decide) (by omega) (by omega)
          refine am_e10 (z := z57) hi_219_85 hz57 ?_
          refine mm_21 (v := z57) hS34 hi_219_86 rfl (Nat.le_of_ble_eq_true rfl) ms_4 ?_
          intro S58 hS59
          have hR60 : RJ (upd f 4 z57) g gs bc [] 0 [] := RJ.at hR (by show (f 4).toInt ≤ z57.toInt; omega)
          refine am_e2 (v := 39) hi_219_89 rfl ?_
          refine am_e0 hi_219_90 ?_
          refine am_e1 (v := on) hi_219_92 rfl ?_
          refine am_e1 (v := f 4) hi_219_93 rfl ?_
          refine am_e0 hi_219_94 ?_
          refine am_e32n (as := [.ref 39, .int 38, .int on, .int (f 4), .int 0]) (la := [some (.ref 39), some (.int 38), some (.int on), some (.int (f 4)), some (.int 0)]) (rest := []) hi_219_95 (am_hd0 (M := 219) (by decide) 95) (Nat.le_of_ble_eq_true rfl) (Nat.le_of_ble_eq_true rfl) (show 5 ≤ am_P0.2.2.1 179 from by decide +kernel) rfl (am_recv_ok hS59.fs) rfl rfl (ct_pile (d := (d + 5)) hS59 hR60 (mj_e_plain (by decide)) (by show (0 : Int) ≤ (f 10).toInt; omega) (by show (f 10).toInt ≤ (65535 : Int); omega)) ?_
          rintro v61 S62 (⟨z63, g'64, hv65, hS66, hR69, h67, h68⟩)
          subst hv65
          have h67_ : z63.toInt = (f 10).toInt + 1 := h67
          have h68_ : ∀ j, j ∉ [11, 12, 13, 14] → g'64 j = g j := h68
          have hR69_ : RJ (upd (upd f 4 z57) 10 z63) g'64 (((38 : Int), on.toInt, (f 4).toInt, (0 : Int), []) :: gs) bc [] 0 [] := hR69
          show am_E _ _ _ _ [some (.ref 39), some (.int on), some (.int r2), some (.int (f 4))] [] _ _
          refine am_e2 (v := 39) hi_219_98 rfl ?_
          refine am_e0 hi_219_99 ?_
          refine am_e32w (as := [.ref 39, .int 0]) (la := [some (.ref 39), some (.int 0)]) (rest := []) hi_219_100 (am_hd0 (M := 219) (by decide) 100) (Nat.le_of_ble_eq_true rfl) (Nat.le_of_ble_eq_true rfl) (show 2 ≤ am_P0.2.2.1 186 from by decide +kernel) rfl (am_recv_ok hS66.fs) rfl rfl ?_
          refine am_e2 (v := 39) hi_186_0 rfl ?_
          refine am_e0 hi_186_1 ?_
          refine am_e1 (v := 0) hi_186_3 rfl ?_
          refine am_e0 hi_186_4 ?_
          refine am_e0 hi_186_5 ?_
          refine am_e32n (as := [.ref 39, .int 23, .int 0, .int 0, .int 0]) (la := [some (.ref 39), some (.int 23), some (.int 0), some (.int 0), some (.int 0)]) (rest := []) hi_186_6 (am_hd0 (M := 186) (by decide) 6) (Nat.le_of_ble_eq_true rfl) (Nat.le_of_ble_eq_true rfl) (show 5 ≤ am_P0.2.2.1 179 from by decide +kernel) rfl (am_recv_ok hS66.fs) rfl rfl (ct_pile (d := (d + 4)) hS66 hR69_ (mj_e_plain (by decide)) (by show (0 : Int) ≤ z63.toInt; omega) (by show z63.toInt ≤ (65535 : Int); omega)) ?_
          rintro v70 S71 (⟨z72, g'73, hv74, hS75, hR78, h76, h77⟩)
          subst hv74
          have h76_ : z72.toInt = z63.toInt + 1 := h76
          have h77_ : ∀ j, j ∉ [11, 12, 13, 14] → g'73 j = g'64 j := h77
          replace hS75 : MS S0 S71 (upd (upd f 4 z57) 10 z72) g'73 := hS75
          have hR78_ : RJ (upd (upd f 4 z57) 10 z72) g'73 (((23 : Int), (0 : Int), (0 : Int), (0 : Int), []) :: (((38 : Int), on.toInt, (f 4).toInt, (0 : Int), []) :: gs)) bc [] 0 [] := hR78
          show am_E _ _ _ _ [some (.ref 39), some (.int 0)] [] _ _
          refine am_e35 hi_186_9 ?_
          show am_E _ _ _ _ [some (.ref 39), some (.int on), some (.int r2), some (.int (f 4))] [] _ _
          refine am_e18 hi_219_103 ?_
          refine am_e35 hi_219_122 ?_
          show am_E _ _ _ _ [some (.ref 39), some (.int 35), some (.int on), some (.int tw)] [] _ _
          refine am_e18 hi_181_266 ?_
          refine am_e35 hi_181_397 ?_
          show am_E _ _ _ _ [some (.ref 39), some (.int 35), some (.int on), some (.int tw), some (.int th)] [] _ _
          refine am_e35 hi_180_13 ?_
          have q1 : mg_p1 (((23 : Int), (0 : Int), (0 : Int), (0 : Int), []) :: (((38 : Int), on.toInt, (f 4).toInt, (0 : Int), []) :: gs)) = 0 + (0 + (mg_p1 gs)) := rfl
          have q2 : mg_p2 (((23 : Int), (0 : Int), (0 : Int), (0 : Int), []) :: (((38 : Int), on.toInt, (f 4).toInt, (0 : Int), []) :: gs)) = 0 + (0 + (mg_p2 gs)) := rfl
          have q3 : mg_p3 (((23 : Int), (0 : Int), (0 : Int), (0 : Int), []) :: (((38 : Int), on.toInt, (f 4).toInt, (0 : Int), []) :: gs)) = 1 + (1 + (mg_p3 gs)) := rfl
          have q4 : mg_p4 (((23 : Int), (0 : Int), (0 : Int), (0 : Int), []) :: (((38 : Int), on.toInt, (f 4).toInt, (0 : Int), []) :: gs)) = 0 + (0 + (mg_p4 gs)) := rfl
          refine ⟨_, _, _, bc, rfl, hS75, Or.inl ⟨⟨hR78_, ?_, ?_⟩, rfl, ?_⟩⟩
          · exact (⟨⟨(show (0 : Int) ≤ 23 from by decide), (show (0 : Int) ≤ (f 15).toInt from by omega), (show 0 ≤ (f 20).toInt from by omega), (show 1 ≤ (f 37).toInt from by omega), (show 0 ≤ (f 32).toInt from by omega), (show (f 32).toInt ≤ (f 5).toInt from by omega), (show (f 5).toInt ≤ 48 from by omega), (show (f 37).toInt ≤ 2 * ((f 5).toInt) + 2 from by omega), (show 0 ≤ (0 : Int) from by omega)⟩, ⟨⟨(show (0 : Int) ≤ 38 from by decide), (show (1 : Int) ≤ (f 15).toInt + 1 from by omega), (show 0 ≤ (f 20).toInt from by omega), (show 1 ≤ (f 37).toInt + 0 from by omega), (show 0 ≤ (f 32).toInt + 0 from by omega), (show (f 32).toInt + 0 ≤ (f 5).toInt + 0 from by omega), (show (f 5).toInt + 0 ≤ 48 from by omega), (show (f 37).toInt + 0 ≤ 2 * ((f 5).toInt + 0) + 2 from by omega), ⟨(show 0 ≤ (f 4).toInt from by omega), (show (f 4).toInt ≤ 16000 from by omega)⟩⟩, mg_cast (mg_good_ext _ _ _ _ _ _ (fun i _ => by show g'73 34 i = g 34 i; rw [show g'73 34 = g'64 34 from h77_ 34 (by decide), show g'64 34 = g 34 from h68_ 34 (by decide)]) (fun i _ => by show g'73 38 i = g 38 i; rw [show g'73 38 = g'64 38 from h77_ 38 (by decide), show g'64 38 = g 38 from h68_ 38 (by decide)]) hrest) (by show (f 15).toInt + 0 = (f 15).toInt + 1 + -1; omega) (by show (f 20).toInt = (f 20).toInt; omega) (by show (f 37).toInt + 0 = (f 37).toInt + 0 + 0; omega) (by show (f 32).toInt + 0 = (f 32).toInt + 0 + 0; omega) (by show (f 5).toInt + -1 = (f 5).toInt + 0 + -1; omega)⟩⟩ : mg_good (g'73 34) (g'73 38) (((23 : Int), (0 : Int), (0 : Int), (0 : Int), []) :: (((38 : Int), on.toInt, (f 4).toInt, (0 : Int), []) :: gs)) ((f 15).toInt) ((f 20).toInt) ((f 37).toInt) ((f 32).toInt) ((f 5).toInt))
          · exact ⟨(by show 0 ≤ z57.toInt; omega), (by show z57.toInt ≤ (f 0).toInt; omega), (by show (f 0).toInt ≤ 512; omega), (by show 0 ≤ (f 24).toInt; omega), (by show (f 24).toInt + (f 20).toInt + mg_p1 (((23 : Int), (0 : Int), (0 : Int), (0 : Int), []) :: (((38 : Int), on.toInt, (f 4).toInt, (0 : Int), []) :: gs)) ≤ 4 * z57.toInt; omega), (by show (f 20).toInt ≤ z57.toInt; omega), (by show (f 15).toInt + mg_p2 (((23 : Int), (0 : Int), (0 : Int), (0 : Int), []) :: (((38 : Int), on.toInt, (f 4).toInt, (0 : Int), []) :: gs)) ≤ z57.toInt; omega), (by show mg_p3 (((23 : Int), (0 : Int), (0 : Int), (0 : Int), []) :: (((38 : Int), on.toInt, (f 4).toInt, (0 : Int), []) :: gs)) ≤ 20 * z57.toInt + 20; omega), (by show 0 ≤ (f 68).toInt; omega), (by show (f 68).toInt + 3 * (f 20).toInt + mg_p4 (((23 : Int), (0 : Int), (0 : Int), (0 : Int), []) :: (((38 : Int), on.toInt, (f 4).toInt, (0 : Int), []) :: gs)) ≤ 60 * z57.toInt + 60; omega), (by show 0 ≤ (f 62).toInt; omega), (by show (f 62).toInt + 64 * mj_n (g'73 16) (f 15).toNatClampNeg 3 ≤ 64 * z57.toInt; rw [show g'73 16 = g'64 16 from h77_ 16 (by decide), show g'64 16 = g 16 from h68_ 16 (by decide)]; omega), (by show 0 ≤ (f 44).toInt; omega), (by show (f 44).toInt ≤ z57.toInt; omega), (by show 0 ≤ (f 48).toInt; omega), (by show (f 48).toInt ≤ z57.toInt; omega), (by show 1 ≤ (f 53).toInt; omega), (by show (f 53).toInt ≤ z57.toInt + 1; omega)⟩
          · show 100 * ((f 0).toInt - z57.toInt) + mg_p3 (((23 : Int), (0 : Int), (0 : Int), (0 : Int), []) :: (((38 : Int), on.toInt, (f 4).toInt, (0 : Int), []) :: gs)) < 100 * ((f 0).toInt - (f 4).toInt) + (3 + mg_p3 gs); omega
    · refine am_e13f hi_219_29 (am_cF (m := r2.toInt) (n := (64 : Int)) rfl (by decide) c8) ?_
      refine am_e2 (v := 39) hi_219_32 rfl ?_
      refine am_e0 hi_219_33 ?_
      refine am_e32n (as := [.ref 39, .int 64]) (la := [some (.ref 39), some (.int 64)]) (rest := []) hi_219_35 (am_hd0 (M := 219) (by decide) 35) (Nat.le_of_ble_eq_true rfl) (Nat.le_of_ble_eq_true rfl) (show 2 ≤ am_P0.2.2.1 193 from by decide +kernel) rfl (am_recv_ok hS4.fs) rfl rfl (ct_enter (d := (d + 3)) hS4   (by show (0 : Int) ≤ (f 4).toInt; omega) (by show (f 0).toInt ≤ (16384 : Int); omega) (by show (0 : Int) ≤ (64 : Int); omega) (by show (0 : Int) ≤ (f 5).toInt; omega) (by show (f 5).toInt ≤ (48 : Int); omega)) ?_
      rintro v79 S80 (⟨z81, y82, hv83, hS84, h85, h86, h87, h88⟩ | ⟨a90, b91, hv92, hS93⟩)
      · subst hv83
        have h85_ : z81.toInt = (f 4).toInt + 1 := h85
        have h86_ : (f 4).toInt < (f 0).toInt := h86
        have h87_ : y82.toInt = (f 5).toInt + 1 := h87
        have h88_ : y82.toInt ≤ (48 : Int) := h88
        replace hS84 : MS S0 S80 (upd (upd f 4 z81) 5 y82) g := hS84
        have hR95 : RJ (upd (upd f 4 z81) 5 y82) g gs bc [] 0 [] := RJ.at hR (by show (f 4).toInt ≤ z81.toInt; omega)
        show am_E _ _ _ _ [some (.ref 39), some (.int on), some (.int r2), some (.int (f 4))] [.int 1] _ _
        refine am_e12t hi_219_38 (by decide) ?_
        refine am_e2 (v := 39) hi_219_42 rfl ?_
        refine am_e0 hi_219_43 ?_
        refine am_e1 (v := on) hi_219_45 rfl ?_
        refine am_e1 (v := f 4) hi_219_46 rfl ?_
        refine am_e0 hi_219_47 ?_
        refine am_e32n (as := [.ref 39, .int 36, .int on, .int (f 4), .int 0]) (la := [some (.ref 39), some (.int 36), some (.int on), some (.int (f 4)), some (.int 0)]) (rest := []) hi_219_48 (am_hd0 (M := 219) (by decide) 48) (Nat.le_of_ble_eq_true rfl) (Nat.le_of_ble_eq_true rfl) (show 5 ≤ am_P0.2.2.1 179 from by decide +kernel) rfl (am_recv_ok hS84.fs) rfl rfl (ct_pile (d := (d + 5)) hS84 hR95 (mj_e_plain (by decide)) (by show (0 : Int) ≤ (f 10).toInt; omega) (by show (f 10).toInt ≤ (65535 : Int); omega)) ?_
        rintro v96 S97 (⟨z98, g'99, hv100, hS101, hR104, h102, h103⟩)
        subst hv100
        have h102_ : z98.toInt = (f 10).toInt + 1 := h102
        have h103_ : ∀ j, j ∉ [11, 12, 13, 14] → g'99 j = g j := h103
        have hR104_ : RJ (upd (upd (upd f 4 z81) 5 y82) 10 z98) g'99 (((36 : Int), on.toInt, (f 4).toInt, (0 : Int), []) :: gs) bc [] 0 [] := hR104
        show am_E _ _ _ _ [some (.ref 39), some (.int on), some (.int r2), some (.int (f 4))] [] _ _
        refine am_e2 (v := 39) hi_219_51 rfl ?_
        refine am_e0 hi_219_52 ?_
        refine am_e32w (as := [.ref 39, .int 0]) (la := [some (.ref 39), some (.int 0)]) (rest := []) hi_219_53 (am_hd0 (M := 219) (by decide) 53) (Nat.le_of_ble_eq_true rfl) (Nat.le_of_ble_eq_true rfl) (show 2 ≤ am_P0.2.2.1 186 from by decide +kernel) rfl (am_recv_ok hS101.fs) rfl rfl ?_
        refine am_e2 (v := 39) hi_186_0 rfl ?_
        refine am_e0 hi_186_1 ?_
        refine am_e1 (v := 0) hi_186_3 rfl ?_
        refine am_e0 hi_186_4 ?_
        refine am_e0 hi_186_5 ?_
        refine am_e32n (as := [.ref 39, .int 23, .int 0, .int 0, .int 0]) (la := [some (.ref 39), some (.int 23), some (.int 0), some (.int 0), some (.int 0)]) (rest := []) hi_186_6 (am_hd0 (M := 186) (by decide) 6) (Nat.le_of_ble_eq_true rfl) (Nat.le_of_ble_eq_true rfl) (show 5 ≤ am_P0.2.2.1 179 from by decide +kernel) rfl (am_recv_ok hS101.fs) rfl rfl (ct_pile (d := (d + 4)) hS101 hR104_ (mj_e_plain (by decide)) (by show (0 : Int) ≤ z98.toInt; omega) (by show z98.toInt ≤ (65535 : Int); omega)) ?_
        rintro v105 S106 (⟨z107, g'108, hv109, hS110, hR113, h111, h112⟩)
        subst hv109
        have h111_ : z107.toInt = z98.toInt + 1 := h111
        have h112_ : ∀ j, j ∉ [11, 12, 13, 14] → g'108 j = g'99 j := h112
        replace hS110 : MS S0 S106 (upd (upd (upd f 4 z81) 5 y82) 10 z107) g'108 := hS110
        have hR113_ : RJ (upd (upd (upd f 4 z81) 5 y82) 10 z107) g'108 (((23 : Int), (0 : Int), (0 : Int), (0 : Int), []) :: (((36 : Int), on.toInt, (f 4).toInt, (0 : Int), []) :: gs)) bc [] 0 [] := hR113
        show am_E _ _ _ _ [some (.ref 39), some (.int 0)] [] _ _
        refine am_e35 hi_186_9 ?_
        show am_E _ _ _ _ [some (.ref 39), some (.int on), some (.int r2), some (.int (f 4))] [] _ _
        refine am_e18 hi_219_56 ?_
        refine am_e35 hi_219_122 ?_
        show am_E _ _ _ _ [some (.ref 39), some (.int 35), some (.int on), some (.int tw)] [] _ _
        refine am_e18 hi_181_266 ?_
        refine am_e35 hi_181_397 ?_
        show am_E _ _ _ _ [some (.ref 39), some (.int 35), some (.int on), some (.int tw), some (.int th)] [] _ _
        refine am_e35 hi_180_13 ?_
        have q1 : mg_p1 (((23 : Int), (0 : Int), (0 : Int), (0 : Int), []) :: (((36 : Int), on.toInt, (f 4).toInt, (0 : Int), []) :: gs)) = 0 + (0 + (mg_p1 gs)) := rfl
        have q2 : mg_p2 (((23 : Int), (0 : Int), (0 : Int), (0 : Int), []) :: (((36 : Int), on.toInt, (f 4).toInt, (0 : Int), []) :: gs)) = 0 + (0 + (mg_p2 gs)) := rfl
        have q3 : mg_p3 (((23 : Int), (0 : Int), (0 : Int), (0 : Int), []) :: (((36 : Int), on.toInt, (f 4).toInt, (0 : Int), []) :: gs)) = 1 + (1 + (mg_p3 gs)) := rfl
        have q4 : mg_p4 (((23 : Int), (0 : Int), (0 : Int), (0 : Int), []) :: (((36 : Int), on.toInt, (f 4).toInt, (0 : Int), []) :: gs)) = 0 + (0 + (mg_p4 gs)) := rfl
        refine ⟨_, _, _, bc, rfl, hS110, Or.inl ⟨⟨hR113_, ?_, ?_⟩, rfl, ?_⟩⟩
        · exact (⟨⟨(show (0 : Int) ≤ 23 from by decide), (show (0 : Int) ≤ (f 15).toInt from by omega), (show 0 ≤ (f 20).toInt from by omega), (show 1 ≤ (f 37).toInt from by omega), (show 0 ≤ (f 32).toInt from by omega), (show (f 32).toInt ≤ y82.toInt from by omega), (show y82.toInt ≤ 48 from by omega), (show (f 37).toInt ≤ 2 * (y82.toInt) + 2 from by omega), (show 0 ≤ (0 : Int) from by omega)⟩, ⟨⟨(show (0 : Int) ≤ 36 from by decide), (show (1 : Int) ≤ (f 15).toInt + 1 from by omega), (show 0 ≤ (f 20).toInt from by omega), (show 1 ≤ (f 37).toInt + 0 from by omega), (show 0 ≤ (f 32).toInt + 0 from by omega), (show (f 32).toInt + 0 ≤ y82.toInt + 0 from by omega), (show y82.toInt + 0 ≤ 48 from by omega), (show (f 37).toInt + 0 ≤ 2 * (y82.toInt + 0) + 2 from by omega), trivial⟩, mg_cast (mg_good_ext _ _ _ _ _ _ (fun i _ => by show g'108 34 i = g 34 i; rw [show g'108 34 = g'99 34 from h112_ 34 (by decide), show g'99 34 = g 34 from h103_ 34 (by decide)]) (fun i _ => by show g'108 38 i = g 38 i; rw [show g'108 38 = g'99 38 from h112_ 38 (by decide), show g'99 38 = g 38 from h103_ 38 (by decide)]) hrest) (by show (f 15).toInt + 0 = (f 15).toInt + 1 + -1; omega) (by show (f 20).toInt = (f 20).toInt; omega) (by show (f 37).toInt + 0 = (f 37).toInt + 0 + 0; omega) (by show (f 32).toInt + 0 = (f 32).toInt + 0 + 0; omega) (by show (f 5).toInt + -1 = y82.toInt + 0 + -2; omega)⟩⟩ : mg_good (g'108 34) (g'108 38) (((23 : Int), (0 : Int), (0 : Int), (0 : Int), []) :: (((36 : Int), on.toInt, (f 4).toInt, (0 : Int), []) :: gs)) ((f 15).toInt) ((f 20).toInt) ((f 37).toInt) ((f 32).toInt) (y82.toInt))
        · exact ⟨(by show 0 ≤ z81.toInt; omega), (by show z81.toInt ≤ (f 0).toInt; omega), (by show (f 0).toInt ≤ 512; omega), (by show 0 ≤ (f 24).toInt; omega), (by show (f 24).toInt + (f 20).toInt + mg_p1 (((23 : Int), (0 : Int), (0 : Int), (0 : Int), []) :: (((36 : Int), on.toInt, (f 4).toInt, (0 : Int), []) :: gs)) ≤ 4 * z81.toInt; omega), (by show (f 20).toInt ≤ z81.toInt; omega), (by show (f 15).toInt + mg_p2 (((23 : Int), (0 : Int), (0 : Int), (0 : Int), []) :: (((36 : Int), on.toInt, (f 4).toInt, (0 : Int), []) :: gs)) ≤ z81.toInt; omega), (by show mg_p3 (((23 : Int), (0 : Int), (0 : Int), (0 : Int), []) :: (((36 : Int), on.toInt, (f 4).toInt, (0 : Int), []) :: gs)) ≤ 20 * z81.toInt + 20; omega), (by show 0 ≤ (f 68).toInt; omega), (by show (f 68).toInt + 3 * (f 20).toInt + mg_p4 (((23 : Int), (0 : Int), (0 : Int), (0 : Int), []) :: (((36 : Int), on.toInt, (f 4).toInt, (0 : Int), []) :: gs)) ≤ 60 * z81.toInt + 60; omega), (by show 0 ≤ (f 62).toInt; omega), (by show (f 62).toInt + 64 * mj_n (g'108 16) (f 15).toNatClampNeg 3 ≤ 64 * z81.toInt; rw [show g'108 16 = g'99 16 from h112_ 16 (by decide), show g'99 16 = g 16 from h103_ 16 (by decide)]; omega), (by show 0 ≤ (f 44).toInt; omega), (by show (f 44).toInt ≤ z81.toInt; omega), (by show 0 ≤ (f 48).toInt; omega), (by show (f 48).toInt ≤ z81.toInt; omega), (by show 1 ≤ (f 53).toInt; omega), (by show (f 53).toInt ≤ z81.toInt + 1; omega)⟩
        · show 100 * ((f 0).toInt - z81.toInt) + mg_p3 (((23 : Int), (0 : Int), (0 : Int), (0 : Int), []) :: (((36 : Int), on.toInt, (f 4).toInt, (0 : Int), []) :: gs)) < 100 * ((f 0).toInt - (f 4).toInt) + (3 + mg_p3 gs); omega
      · subst hv92
        show am_E _ _ _ _ [some (.ref 39), some (.int on), some (.int r2), some (.int (f 4))] [.int 0] _ _
        refine am_e12f hi_219_38 (by decide) ?_
        refine am_e35 hi_219_41 ?_
        show am_E _ _ _ _ [some (.ref 39), some (.int 35), some (.int on), some (.int tw)] [] _ _
        refine am_e18 hi_181_266 ?_
        refine am_e35 hi_181_397 ?_
        show am_E _ _ _ _ [some (.ref 39), some (.int 35), some (.int on), some (.int tw), some (.int th)] [] _ _
        refine am_e35 hi_180_13 ?_
        have hRc := rj_clear0 hR
        refine ⟨_, _, [], _, rfl, hS93, Or.inr ⟨hRc, rfl, (by show 0 ≤ (f 4).toInt; omega), (by show (f 4).toInt ≤ (f 0).toInt; omega), (by show 0 ≤ (f 32).toInt; omega), (by show (f 32).toInt ≤ 63; omega), (by show 1 ≤ (f 53).toInt; omega), (by show (f 53).toInt ≤ 600; omega), (by show 0 ≤ (f 68).toInt; omega), (by show (f 68).toInt ≤ 60000; omega), (by show 0 ≤ (f 48).toInt; omega), (by show (f 48).toInt ≤ 8000; omega), (by show 0 ≤ (f 37).toInt; omega), (by show (f 37).toInt ≤ 128; omega), (by show 0 ≤ (f 62).toInt; omega), (by show (f 62).toInt ≤ 65000; omega)⟩⟩
  · refine am_e13f hi_219_13 (am_cF (m := r2.toInt) (n := (63 : Int)) rfl (by decide) c7) ?_
    refine am_e2 (v := 39) hi_219_16 rfl ?_
    refine am_e0 hi_219_17 ?_
    refine am_e32n (as := [.ref 39, .int 63]) (la := [some (.ref 39), some (.int 63)]) (rest := []) hi_219_19 (am_hd0 (M := 219) (by decide) 19) (Nat.le_of_ble_eq_true rfl) (Nat.le_of_ble_eq_true rfl) (show 2 ≤ am_P0.2.2.1 199 from by decide +kernel) rfl (am_recv_ok hS4.fs) rfl rfl (ct_leave (d := (d + 2)) hS4   (by show (0 : Int) ≤ (f 4).toInt; omega) (by show (f 0).toInt ≤ (16384 : Int); omega) (by show (0 : Int) ≤ (63 : Int); omega) (by show (0 : Int) ≤ (f 5).toInt; omega) (by show (f 5).toInt ≤ (48 : Int); omega)) ?_
    rintro v114 S115 (⟨z116, y117, hv118, hS119, h120, h121, h122⟩ | ⟨a124, b125, hv126, hS127⟩)
    · subst hv118
      have h120_ : z116.toInt = (f 4).toInt + 1 := h120
      have h121_ : (f 4).toInt < (f 0).toInt := h121
      have h122_ : y117.toInt = (f 5).toInt - 1 := h122
      have hR129 : RJ (upd (upd f 4 z116) 5 y117) g gs bc [] 0 [] := RJ.at hR (by show (f 4).toInt ≤ z116.toInt; omega)
      show am_E _ _ _ _ [some (.ref 39), some (.int on), some (.int r2), some (.int (f 4))] [.int 1] _ _
      refine am_e6i hi_219_22 ?_
      refine am_e18 hi_219_23 ?_
      refine am_e35 hi_219_122 ?_
      show am_E _ _ _ _ [some (.ref 39), some (.int 35), some (.int on), some (.int tw)] [] _ _
      refine am_e18 hi_181_266 ?_
      refine am_e35 hi_181_397 ?_
      show am_E _ _ _ _ [some (.ref 39), some (.int 35), some (.int on), some (.int tw), some (.int th)] [] _ _
      refine am_e35 hi_180_13 ?_
      have q1 : mg_p1 gs = mg_p1 gs := rfl
      have q2 : mg_p2 gs = mg_p2 gs := rfl
      have q3 : mg_p3 gs = mg_p3 gs := rfl
      have q4 : mg_p4 gs = mg_p4 gs := rfl
      refine ⟨_, _, _, bc, rfl, hS119, Or.inl ⟨⟨hR129, ?_, ?_⟩, rfl, ?_⟩⟩
      · exact (mg_cast (mg_good_ext _ _ _ _ _ _ (fun _ _ => rfl) (fun _ _ => rfl) hrest) (by show (f 15).toInt + 0 = (f 15).toInt; omega) (by show (f 20).toInt = (f 20).toInt; omega) (by show (f 37).toInt + 0 = (f 37).toInt; omega) (by show (f 32).toInt + 0 = (f 32).toInt; omega) (by show (f 5).toInt + -1 = y117.toInt; omega) : mg_good (g 34) (g 38) gs ((f 15).toInt) ((f 20).toInt) ((f 37).toInt) ((f 32).toInt) (y117.toInt))
      · exact ⟨(by show 0 ≤ z116.toInt; omega), (by show z116.toInt ≤ (f 0).toInt; omega), (by show (f 0).toInt ≤ 512; omega), (by show 0 ≤ (f 24).toInt; omega), (by show (f 24).toInt + (f 20).toInt + mg_p1 gs ≤ 4 * z116.toInt; omega), (by show (f 20).toInt ≤ z116.toInt; omega), (by show (f 15).toInt + mg_p2 gs ≤ z116.toInt; omega), (by show mg_p3 gs ≤ 20 * z116.toInt + 20; omega), (by show 0 ≤ (f 68).toInt; omega), (by show (f 68).toInt + 3 * (f 20).toInt + mg_p4 gs ≤ 60 * z116.toInt + 60; omega), (by show 0 ≤ (f 62).toInt; omega), (by show (f 62).toInt + 64 * mj_n (g 16) (f 15).toNatClampNeg 3 ≤ 64 * z116.toInt; omega), (by show 0 ≤ (f 44).toInt; omega), (by show (f 44).toInt ≤ z116.toInt; omega), (by show 0 ≤ (f 48).toInt; omega), (by show (f 48).toInt ≤ z116.toInt; omega), (by show 1 ≤ (f 53).toInt; omega), (by show (f 53).toInt ≤ z116.toInt + 1; omega)⟩
      · show 100 * ((f 0).toInt - z116.toInt) + mg_p3 gs < 100 * ((f 0).toInt - (f 4).toInt) + (3 + mg_p3 gs); omega
    · subst hv126
      show am_E _ _ _ _ [some (.ref 39), some (.int on), some (.int r2), some (.int (f 4))] [.int 0] _ _
      refine am_e6i hi_219_22 ?_
      refine am_e18 hi_219_23 ?_
      refine am_e35 hi_219_122 ?_
      show am_E _ _ _ _ [some (.ref 39), some (.int 35), some (.int on), some (.int tw)] [] _ _
      refine am_e18 hi_181_266 ?_
      refine am_e35 hi_181_397 ?_
      show am_E _ _ _ _ [some (.ref 39), some (.int 35), some (.int on), some (.int tw), some (.int th)] [] _ _
      refine am_e35 hi_180_13 ?_
      have hRc := rj_clear0 hR
      refine ⟨_, _, [], _, rfl, hS127, Or.inr ⟨hRc, rfl, (by show 0 ≤ (f 4).toInt; omega), (by show (f 4).toInt ≤ (f 0).toInt; omega), (by show 0 ≤ (f 32).toInt; omega), (by show (f 32).toInt ≤ 63; omega), (by show 1 ≤ (f 53).toInt; omega), (by show (f 53).toInt ≤ 600; omega), (by show 0 ≤ (f 68).toInt; omega), (by show (f 68).toInt ≤ 60000; omega), (by show 0 ≤ (f 48).toInt; omega), (by show (f 48).toInt ≤ 8000; omega), (by show 0 ≤ (f 37).toInt; omega), (by show (f 37).toInt ≤ 128; omega), (by show 0 ≤ (f 62).toInt; omega), (by show (f 62).toInt ≤ 65000; omega)⟩⟩
theorem st_36 {sc : Nat × (Nat → Int32)} {d : Nat} {S0 S : am_S} {f : Nat → Int32} {g : Nat → Nat → Int32} {on : Int32} {tw : Int32} {th : Int32} {gs : List mg_E} {bc : List (List Nat)} (hS : MS S0 S f g) (hR : RJ f g gs bc [] 0 []) (hrest : mg_good (g 34) (g 38) gs ((f 15).toInt + -1) ((f 20).toInt) ((f 37).toInt + 0) ((f 32).toInt + 0) ((f 5).toInt + -2)) (p0 : 0 ≤ (f 4).toInt) (p1 : (f 4).toInt ≤ (f 0).toInt) (p2 : (f 0).toInt ≤ 512) (p3 : 0 ≤ (f 24).toInt) (p4 : (f 24).toInt + (f 20).toInt + mg_p1 gs ≤ 4 * (f 4).toInt) (p5 : (f 20).toInt ≤ (f 4).toInt) (p6 : (f 15).toInt + 0 + mg_p2 gs ≤ (f 4).toInt) (p7 : 1 + mg_p3 gs ≤ 20 * (f 4).toInt + 20) (p8 : 0 ≤ (f 68).toInt) (p9 : (f 68).toInt + 3 * (f 20).toInt + 0 + mg_p4 gs ≤ 60 * (f 4).toInt + 60) (p10 : 0 ≤ (f 62).toInt) (p11 : (f 62).toInt + 64 * mj_n (g 16) (f 15).toNatClampNeg 3 ≤ 64 * (f 4).toInt) (p12 : 0 ≤ (f 44).toInt) (p13 : (f 44).toInt ≤ (f 4).toInt) (p14 : 0 ≤ (f 48).toInt) (p15 : (f 48).toInt ≤ (f 4).toInt) (p16 : 1 ≤ (f 53).toInt) (p17 : (f 53).toInt ≤ (f 4).toInt + 1) (p18 : 0 ≤ mg_p1 gs) (p19 : 0 ≤ mg_p2 gs) (p20 : 0 ≤ mg_p4 gs) (p21 : 0 ≤ (f 10).toInt) (p22 : (f 10).toInt ≤ mg_p3 gs) (p23 : 0 ≤ mj_n (g 16) (f 15).toNatClampNeg 3) (p24 : 1 ≤ (f 15).toInt) (p25 : 0 ≤ (f 20).toInt) (p26 : 1 ≤ (f 37).toInt) (p27 : 0 ≤ (f 32).toInt) (p28 : (f 32).toInt ≤ (f 5).toInt) (p29 : (f 5).toInt ≤ 48) (p30 : (f 37).toInt ≤ 2 * (f 5).toInt + 2) : am_E (am_PP sc) (d + 8) 180 0 [some (.ref 39), some (.int 36), some (.int on), some (.int tw), some (.int th)] [] S (am_N fun v S1 => ∃ (f' : Nat → Int32) (g' : Nat → Nat → Int32) (gs' : List mg_E) (bc' : List (List Nat)), v = none ∧ MS S0 S1 f' g' ∧ (mg_on f (100 * ((f 0).toInt - (f 4).toInt) + (1 + mg_p3 gs)) f' g' gs' bc' ∨ mg_off f f' g' bc')) := by
  have hbs := mg_basic hrest
  refine am_e1 (v := 36) hi_180_0 rfl ?_
  refine am_e0 hi_180_1 ?_
  refine am_e13f hi_180_3 (by decide) ?_
  refine am_e2 (v := 39) hi_180_6 rfl ?_
  refine am_e1 (v := 36) hi_180_7 rfl ?_
  refine am_e1 (v := on) hi_180_8 rfl ?_
  refine am_e1 (v := tw) hi_180_9 rfl ?_
  refine am_e32w (as := [.ref 39, .int 36, .int on, .int tw]) (la := [some (.ref 39), some (.int 36), some (.int on), some (.int tw)]) (rest := []) hi_180_10 (am_hd0 (M := 180) (by decide) 10) (Nat.le_of_ble_eq_true rfl) (Nat.le_of_ble_eq_true rfl) (show 4 ≤ am_P0.2.2.1 181 from by decide +kernel) rfl (am_recv_ok hS.fs) rfl rfl ?_
  refine am_e1 (v := 36) hi_181_0 rfl ?_
  refine am_e19 (t := 269) hi_181_1 (by decide) ?_
  refine am_e2 (v := 39) hi_181_269 rfl ?_
  refine am_e32w (as := [.ref 39]) (la := [some (.ref 39)]) (rest := []) hi_181_270 (am_hd0 (M := 181) (by decide) 270) (Nat.le_of_ble_eq_true rfl) (Nat.le_of_ble_eq_true rfl) (show 1 ≤ am_P0.2.2.1 209 from by decide +kernel) rfl (am_recv_ok hS.fs) rfl rfl ?_
  refine am_e2 (v := 39) hi_209_0 rfl ?_
  refine am_e32n (as := [.ref 39]) (la := [some (.ref 39), none, none, none]) (rest := []) hi_209_1 (am_hd0 (M := 209) (by decide) 1) (Nat.le_of_ble_eq_true rfl) (Nat.le_of_ble_eq_true rfl) (show 1 ≤ am_P0.2.2.1 204 from by decide +kernel) rfl (am_recv_ok hS.fs) rfl rfl (ct_load (d := (d + 3)) hS hR  (by show (0 : Int) ≤ (f 32).toInt; omega) (by show (f 32).toInt ≤ (63 : Int); omega) (by show (f 53).toInt ≤ (4096 : Int); omega) (by show (0 : Int) ≤ (f 68).toInt; omega) (by show (f 68).toInt ≤ (65534 : Int); omega) (by show (1 : Int) ≤ (f 15).toInt; omega) (by show (f 15).toInt ≤ (32767 : Int); omega) (by show (0 : Int) ≤ (f 24).toInt; omega) (by show (f 24).toInt ≤ (16384 : Int); omega) (by show (0 : Int) ≤ (f 62).toInt; omega) (by show (f 62).toInt ≤ (65000 : Int); omega)) ?_
  rintro v0 S1 (⟨o2, s3, m4, g'5, hv6, hS7, hR14, h8, h9, h10, h11, h12, h13⟩)
  subst hv6
  have h8_ : (f 62).toInt ≤ o2.toInt := h8
  have h9_ : o2.toInt ≤ (f 62).toInt + 64 := h9
  have h10_ : (f 68).toInt ≤ s3.toInt := h10
  have h11_ : s3.toInt ≤ (f 68).toInt + 1 := h11
  have h12_ : o2.toInt + 64 * mj_n (g'5 16) (f 15).toNatClampNeg 3 ≤ (f 62).toInt + 64 * mj_n (g 16) (f 15).toNatClampNeg 3 := h12
  have h13_ : ∀ j, j ∉ [16, 60, 63, 64, 65, 66, 67, 69, 70, 71, 72, 73] → g'5 j = g j := h13
  have hR14_ : RJ (upd (upd (upd f 62 o2) 68 s3) 75 m4) g'5 gs bc [] 0 [] := hR14
  show am_E _ _ _ _ [some (.ref 39)] [] _ _
  refine am_e2 (v := 39) hi_209_4 rfl ?_
  refine am_e7 hi_209_5 ?_
  refine mm_20 (v := .int (f 15)) hS7 hi_209_6 rfl ?_
  refine am_e0 hi_209_9 ?_
  obtain ⟨z15, hz15, tz15⟩ := am_subI (x := f 15) (y := 1) (m := (f 15).toInt) (n := (1 : Int)) rfl (by decide) (by omega) (by omega)
  refine am_e10 (z := z15) hi_209_10 hz15 ?_
  refine mm_21 (v := z15) hS7 hi_209_11 rfl (Nat.le_of_ble_eq_true rfl) ms_15 ?_
  intro S16 hS17
  replace hS17 : MS S0 S16 (upd (upd (upd (upd f 15 z15) 62 o2) 68 s3) 75 m4) g'5 := hS17
  have hp18 : mj_n (g'5 16) (f 15).toNatClampNeg 3 = mj_n (g'5 16) z15.toNatClampNeg 3 + if (g'5 16 z15.toNatClampNeg).toInt = 3 then 1 else 0 := mj_pop (by rw [cl_toNat, cl_toNat]; omega)
  have hp181 : mj_n (g'5 16) z15.toNatClampNeg 3 ≤ mj_n (g'5 16) (f 15).toNatClampNeg 3 := by rw [hp18]; split <;> omega
  have hp182 : (g'5 16 z15.toNatClampNeg).toInt = 3 → mj_n (g'5 16) z15.toNatClampNeg 3 + 1 ≤ mj_n (g'5 16) (f 15).toNatClampNeg 3 := fun q => by rw [hp18, if_pos q]; exact Int.le_refl _
  refine am_e35 hi_209_14 ?_
  show am_E _ _ _ _ [some (.ref 39), some (.int 36), some (.int on), some (.int tw)] [] _ _
  refine am_e2 (v := 39) hi_181_273 rfl ?_
  refine am_e0 hi_181_274 ?_
  refine am_e32n (as := [.ref 39, .int 65]) (la := [some (.ref 39), some (.int 65)]) (rest := []) hi_181_276 (am_hd0 (M := 181) (by decide) 276) (Nat.le_of_ble_eq_true rfl) (Nat.le_of_ble_eq_true rfl) (show 2 ≤ am_P0.2.2.1 199 from by decide +kernel) rfl (am_recv_ok hS17.fs) rfl rfl (ct_leave (d := (d + 3)) hS17   (by show (0 : Int) ≤ (f 4).toInt; omega) (by show (f 0).toInt ≤ (16384 : Int); omega) (by show (0 : Int) ≤ (65 : Int); omega) (by show (0 : Int) ≤ (f 5).toInt; omega) (by show (f 5).toInt ≤ (48 : Int); omega)) ?_
  rintro v19 S20 (⟨z21, y22, hv23, hS24, h25, h26, h27⟩ | ⟨a29, b30, hv31, hS32⟩)
  · subst hv23
    have h25_ : z21.toInt = (f 4).toInt + 1 := h25
    have h26_ : (f 4).toInt < (f 0).toInt := h26
    have h27_ : y22.toInt = (f 5).toInt - 1 := h27
    replace hS24 : MS S0 S20 (upd (upd (upd (upd (upd (upd f 4 z21) 5 y22) 15 z15) 62 o2) 68 s3) 75 m4) g'5 := hS24
    have hR34 : RJ (upd (upd (upd (upd (upd (upd f 4 z21) 5 y22) 15 z15) 62 o2) 68 s3) 75 m4) g'5 gs bc [] 0 [] := RJ.at hR14_ (by show (f 4).toInt ≤ z21.toInt; omega)
    show am_E _ _ _ _ [some (.ref 39), some (.int 36), some (.int on), some (.int tw)] [.int 1] _ _
    refine am_e12f hi_181_279 (by decide) ?_
    refine am_e2 (v := 39) hi_181_282 rfl ?_
    refine am_e0 hi_181_283 ?_
    refine am_e32n (as := [.ref 39, .int 59]) (la := [some (.ref 39), some (.int 59)]) (rest := []) hi_181_285 (am_hd0 (M := 181) (by decide) 285) (Nat.le_of_ble_eq_true rfl) (Nat.le_of_ble_eq_true rfl) (show 2 ≤ am_P0.2.2.1 200 from by decide +kernel) rfl (am_recv_ok hS24.fs) rfl rfl (ct_take (d := (d + 4)) hS24   (by show (0 : Int) ≤ z21.toInt; omega) (by show (f 0).toInt ≤ (16384 : Int); omega) (by show (0 : Int) ≤ (59 : Int); omega)) ?_
    rintro v35 S36 (⟨z37, hv38, hS39, h40, h41⟩ | ⟨a43, b44, hv45, hS46⟩)
    · subst hv38
      have h40_ : z37.toInt = z21.toInt + 1 := h40
      have h41_ : z21.toInt < (f 0).toInt := h41
      replace hS39 : MS S0 S36 (upd (upd (upd (upd (upd (upd f 4 z37) 5 y22) 15 z15) 62 o2) 68 s3) 75 m4) g'5 := hS39
      have hR48 : RJ (upd (upd (upd (upd (upd (upd f 4 z37) 5 y22) 15 z15) 62 o2) 68 s3) 75 m4) g'5 gs bc [] 0 [] := RJ.at hR34 (by show z21.toInt ≤ z37.toInt; omega)
      show am_E _ _ _ _ [some (.ref 39), some (.int 36), some (.int on), some (.int tw)] [.int 1] _ _
      refine am_e12t hi_181_288 (by decide) ?_
      refine am_e2 (v := 39) hi_181_294 rfl ?_
      refine am_e0 hi_181_295 ?_
      refine am_e1 (v := on) hi_181_297 rfl ?_
      refine am_e1 (v := tw) hi_181_298 rfl ?_
      refine am_e0 hi_181_299 ?_
      refine am_e32n (as := [.ref 39, .int 37, .int on, .int tw, .int 0]) (la := [some (.ref 39), some (.int 37), some (.int on), some (.int tw), some (.int 0)]) (rest := []) hi_181_300 (am_hd0 (M := 181) (by decide) 300) (Nat.le_of_ble_eq_true rfl) (Nat.le_of_ble_eq_true rfl) (show 5 ≤ am_P0.2.2.1 179 from by decide +kernel) rfl (am_recv_ok hS39.fs) rfl rfl (ct_pile (d := (d + 6)) hS39 hR48 (mj_e_plain (by decide)) (by show (0 : Int) ≤ (f 10).toInt; omega) (by show (f 10).toInt ≤ (65535 : Int); omega)) ?_
      rintro v49 S50 (⟨z51, g'52, hv53, hS54, hR57, h55, h56⟩)
      subst hv53
      have h55_ : z51.toInt = (f 10).toInt + 1 := h55
      have h56_ : ∀ j, j ∉ [11, 12, 13, 14] → g'52 j = g'5 j := h56
      replace hS54 : MS S0 S50 (upd (upd (upd (upd (upd (upd (upd f 4 z37) 5 y22) 10 z51) 15 z15) 62 o2) 68 s3) 75 m4) g'52 := hS54
      have hR57_ : RJ (upd (upd (upd (upd (upd (upd (upd f 4 z37) 5 y22) 10 z51) 15 z15) 62 o2) 68 s3) 75 m4) g'52 (((37 : Int), on.toInt, tw.toInt, (0 : Int), []) :: gs) bc [] 0 [] := hR57
      show am_E _ _ _ _ [some (.ref 39), some (.int 36), some (.int on), some (.int tw)] [] _ _
      refine am_e2 (v := 39) hi_181_303 rfl ?_
      refine am_e0 hi_181_304 ?_
      refine am_e32w (as := [.ref 39, .int 0]) (la := [some (.ref 39), some (.int 0)]) (rest := []) hi_181_305 (am_hd0 (M := 181) (by decide) 305) (Nat.le_of_ble_eq_true rfl) (Nat.le_of_ble_eq_true rfl) (show 2 ≤ am_P0.2.2.1 186 from by decide +kernel) rfl (am_recv_ok hS54.fs) rfl rfl ?_
      refine am_e2 (v := 39) hi_186_0 rfl ?_
      refine am_e0 hi_186_1 ?_
      refine am_e1 (v := 0) hi_186_3 rfl ?_
      refine am_e0 hi_186_4 ?_
      refine am_e0 hi_186_5 ?_
      refine am_e32n (as := [.ref 39, .int 23, .int 0, .int 0, .int 0]) (la := [some (.ref 39), some (.int 23), some (.int 0), some (.int 0), some (.int 0)]) (rest := []) hi_186_6 (am_hd0 (M := 186) (by decide) 6) (Nat.le_of_ble_eq_true rfl) (Nat.le_of_ble_eq_true rfl) (show 5 ≤ am_P0.2.2.1 179 from by decide +kernel) rfl (am_recv_ok hS54.fs) rfl rfl (ct_pile (d := (d + 5)) hS54 hR57_ (mj_e_plain (by decide)) (by show (0 : Int) ≤ z51.toInt; omega) (by show z51.toInt ≤ (65535 : Int); omega)) ?_
      rintro v58 S59 (⟨z60, g'61, hv62, hS63, hR66, h64, h65⟩)
      subst hv62
      have h64_ : z60.toInt = z51.toInt + 1 := h64
      have h65_ : ∀ j, j ∉ [11, 12, 13, 14] → g'61 j = g'52 j := h65
      replace hS63 : MS S0 S59 (upd (upd (upd (upd (upd (upd (upd f 4 z37) 5 y22) 10 z60) 15 z15) 62 o2) 68 s3) 75 m4) g'61 := hS63
      have hR66_ : RJ (upd (upd (upd (upd (upd (upd (upd f 4 z37) 5 y22) 10 z60) 15 z15) 62 o2) 68 s3) 75 m4) g'61 (((23 : Int), (0 : Int), (0 : Int), (0 : Int), []) :: (((37 : Int), on.toInt, tw.toInt, (0 : Int), []) :: gs)) bc [] 0 [] := hR66
      show am_E _ _ _ _ [some (.ref 39), some (.int 0)] [] _ _
      refine am_e35 hi_186_9 ?_
      show am_E _ _ _ _ [some (.ref 39), some (.int 36), some (.int on), some (.int tw)] [] _ _
      refine am_e18 hi_181_308 ?_
      refine am_e35 hi_181_397 ?_
      show am_E _ _ _ _ [some (.ref 39), some (.int 36), some (.int on), some (.int tw), some (.int th)] [] _ _
      refine am_e35 hi_180_13 ?_
      have q1 : mg_p1 (((23 : Int), (0 : Int), (0 : Int), (0 : Int), []) :: (((37 : Int), on.toInt, tw.toInt, (0 : Int), []) :: gs)) = 0 + (0 + (mg_p1 gs)) := rfl
      have q2 : mg_p2 (((23 : Int), (0 : Int), (0 : Int), (0 : Int), []) :: (((37 : Int), on.toInt, tw.toInt, (0 : Int), []) :: gs)) = 0 + (0 + (mg_p2 gs)) := rfl
      have q3 : mg_p3 (((23 : Int), (0 : Int), (0 : Int), (0 : Int), []) :: (((37 : Int), on.toInt, tw.toInt, (0 : Int), []) :: gs)) = 1 + (1 + (mg_p3 gs)) := rfl
      have q4 : mg_p4 (((23 : Int), (0 : Int), (0 : Int), (0 : Int), []) :: (((37 : Int), on.toInt, tw.toInt, (0 : Int), []) :: gs)) = 0 + (0 + (mg_p4 gs)) := rfl
      refine ⟨_, _, _, bc, rfl, hS63, Or.inl ⟨⟨hR66_, ?_, ?_⟩, rfl, ?_⟩⟩
      · exact (⟨⟨(show (0 : Int) ≤ 23 from by decide), (show (0 : Int) ≤ z15.toInt from by omega), (show 0 ≤ (f 20).toInt from by omega), (show 1 ≤ (f 37).toInt from by omega), (show 0 ≤ (f 32).toInt from by omega), (show (f 32).toInt ≤ y22.toInt from by omega), (show y22.toInt ≤ 48 from by omega), (show (f 37).toInt ≤ 2 * (y22.toInt) + 2 from by omega), (show 0 ≤ (0 : Int) from by omega)⟩, ⟨⟨(show (0 : Int) ≤ 37 from by decide), (show (1 : Int) ≤ z15.toInt + 1 from by omega), (show 0 ≤ (f 20).toInt from by omega), (show 1 ≤ (f 37).toInt + 0 from by omega), (show 0 ≤ (f 32).toInt + 0 from by omega), (show (f 32).toInt + 0 ≤ y22.toInt + 0 from by omega), (show y22.toInt + 0 ≤ 48 from by omega), (show (f 37).toInt + 0 ≤ 2 * (y22.toInt + 0) + 2 from by omega), trivial⟩, mg_cast (mg_good_ext _ _ _ _ _ _ (fun i _ => by show g'61 34 i = g 34 i; rw [show g'61 34 = g'52 34 from h65_ 34 (by decide), show g'52 34 = g'5 34 from h56_ 34 (by decide), show g'5 34 = g 34 from h13_ 34 (by decide)]) (fun i _ => by show g'61 38 i = g 38 i; rw [show g'61 38 = g'52 38 from h65_ 38 (by decide), show g'52 38 = g'5 38 from h56_ 38 (by decide), show g'5 38 = g 38 from h13_ 38 (by decide)]) hrest) (by show (f 15).toInt + -1 = z15.toInt + 1 + -1; omega) (by show (f 20).toInt = (f 20).toInt; omega) (by show (f 37).toInt + 0 = (f 37).toInt + 0 + 0; omega) (by show (f 32).toInt + 0 = (f 32).toInt + 0 + 0; omega) (by show (f 5).toInt + -2 = y22.toInt + 0 + -1; omega)⟩⟩ : mg_good (g'61 34) (g'61 38) (((23 : Int), (0 : Int), (0 : Int), (0 : Int), []) :: (((37 : Int), on.toInt, tw.toInt, (0 : Int), []) :: gs)) (z15.toInt) ((f 20).toInt) ((f 37).toInt) ((f 32).toInt) (y22.toInt))
      · exact ⟨(by show 0 ≤ z37.toInt; omega), (by show z37.toInt ≤ (f 0).toInt; omega), (by show (f 0).toInt ≤ 512; omega), (by show 0 ≤ (f 24).toInt; omega), (by show (f 24).toInt + (f 20).toInt + mg_p1 (((23 : Int), (0 : Int), (0 : Int), (0 : Int), []) :: (((37 : Int), on.toInt, tw.toInt, (0 : Int), []) :: gs)) ≤ 4 * z37.toInt; omega), (by show (f 20).toInt ≤ z37.toInt; omega), (by show z15.toInt + mg_p2 (((23 : Int), (0 : Int), (0 : Int), (0 : Int), []) :: (((37 : Int), on.toInt, tw.toInt, (0 : Int), []) :: gs)) ≤ z37.toInt; omega), (by show mg_p3 (((23 : Int), (0 : Int), (0 : Int), (0 : Int), []) :: (((37 : Int), on.toInt, tw.toInt, (0 : Int), []) :: gs)) ≤ 20 * z37.toInt + 20; omega), (by show 0 ≤ s3.toInt; omega), (by show s3.toInt + 3 * (f 20).toInt + mg_p4 (((23 : Int), (0 : Int), (0 : Int), (0 : Int), []) :: (((37 : Int), on.toInt, tw.toInt, (0 : Int), []) :: gs)) ≤ 60 * z37.toInt + 60; omega), (by show 0 ≤ o2.toInt; omega), (by show o2.toInt + 64 * mj_n (g'61 16) z15.toNatClampNeg 3 ≤ 64 * z37.toInt; rw [show g'61 16 = g'52 16 from h65_ 16 (by decide), show g'52 16 = g'5 16 from h56_ 16 (by decide)]; omega), (by show 0 ≤ (f 44).toInt; omega), (by show (f 44).toInt ≤ z37.toInt; omega), (by show 0 ≤ (f 48).toInt; omega), (by show (f 48).toInt ≤ z37.toInt; omega), (by show 1 ≤ (f 53).toInt; omega), (by show (f 53).toInt ≤ z37.toInt + 1; omega)⟩
      · show 100 * ((f 0).toInt - z37.toInt) + mg_p3 (((23 : Int), (0 : Int), (0 : Int), (0 : Int), []) :: (((37 : Int), on.toInt, tw.toInt, (0 : Int), []) :: gs)) < 100 * ((f 0).toInt - (f 4).toInt) + (1 + mg_p3 gs); omega
    · subst hv45
      replace hS46 : MS S0 S36 (upd (upd (upd (upd (upd (upd (upd (upd (upd f 4 z21) 5 y22) 6 a43) 7 b44) 10 0) 15 z15) 62 o2) 68 s3) 75 m4) g'5 := hS46
      show am_E _ _ _ _ [some (.ref 39), some (.int 36), some (.int on), some (.int tw)] [.int 0] _ _
      refine am_e12f hi_181_288 (by decide) ?_
      refine am_e18 hi_181_291 ?_
      refine am_e35 hi_181_397 ?_
      show am_E _ _ _ _ [some (.ref 39), some (.int 36), some (.int on), some (.int tw), some (.int th)] [] _ _
      refine am_e35 hi_180_13 ?_
      have hRc := rj_clear0 hR34
      refine ⟨_, _, [], _, rfl, hS46, Or.inr ⟨hRc, rfl, (by show 0 ≤ z21.toInt; omega), (by show z21.toInt ≤ (f 0).toInt; omega), (by show 0 ≤ (f 32).toInt; omega), (by show (f 32).toInt ≤ 63; omega), (by show 1 ≤ (f 53).toInt; omega), (by show (f 53).toInt ≤ 600; omega), (by show 0 ≤ s3.toInt; omega), (by show s3.toInt ≤ 60000; omega), (by show 0 ≤ (f 48).toInt; omega), (by show (f 48).toInt ≤ 8000; omega), (by show 0 ≤ (f 37).toInt; omega), (by show (f 37).toInt ≤ 128; omega), (by show 0 ≤ o2.toInt; omega), (by show o2.toInt ≤ 65000; omega)⟩⟩
  · subst hv31
    replace hS32 : MS S0 S20 (upd (upd (upd (upd (upd (upd (upd f 6 a29) 7 b30) 10 0) 15 z15) 62 o2) 68 s3) 75 m4) g'5 := hS32
    show am_E _ _ _ _ [some (.ref 39), some (.int 36), some (.int on), some (.int tw)] [.int 0] _ _
    refine am_e12t hi_181_279 (by decide) ?_
    refine am_e35 hi_181_397 ?_
    show am_E _ _ _ _ [some (.ref 39), some (.int 36), some (.int on), some (.int tw), some (.int th)] [] _ _
    refine am_e35 hi_180_13 ?_
    have hRc := rj_clear0 hR14_
    refine ⟨_, _, [], _, rfl, hS32, Or.inr ⟨hRc, rfl, (by show 0 ≤ (f 4).toInt; omega), (by show (f 4).toInt ≤ (f 0).toInt; omega), (by show 0 ≤ (f 32).toInt; omega), (by show (f 32).toInt ≤ 63; omega), (by show 1 ≤ (f 53).toInt; omega), (by show (f 53).toInt ≤ 600; omega), (by show 0 ≤ s3.toInt; omega), (by show s3.toInt ≤ 60000; omega), (by show 0 ≤ (f 48).toInt; omega), (by show (f 48).toInt ≤ 8000; omega), (by show 0 ≤ (f 37).toInt; omega), (by show (f 37).toInt ≤ 128; omega), (by show 0 ≤ o2.toInt; omega), (by show o2.toInt ≤ 65000; omega)⟩⟩
theorem st_37 {sc : Nat × (Nat → Int32)} {d : Nat} {S0 S : am_S} {f : Nat → Int32} {g : Nat → Nat → Int32} {on : Int32} {tw : Int32} {th : Int32} {gs : List mg_E} {bc : List (List Nat)} (hS : MS S0 S f g) (hR : RJ f g gs bc [] 0 []) (hrest : mg_good (g 34) (g 38) gs ((f 15).toInt + -1) ((f 20).toInt) ((f 37).toInt + 0) ((f 32).toInt + 0) ((f 5).toInt + -1)) (p0 : 0 ≤ (f 4).toInt) (p1 : (f 4).toInt ≤ (f 0).toInt) (p2 : (f 0).toInt ≤ 512) (p3 : 0 ≤ (f 24).toInt) (p4 : (f 24).toInt + (f 20).toInt + mg_p1 gs ≤ 4 * (f 4).toInt) (p5 : (f 20).toInt ≤ (f 4).toInt) (p6 : (f 15).toInt + 0 + mg_p2 gs ≤ (f 4).toInt) (p7 : 1 + mg_p3 gs ≤ 20 * (f 4).toInt + 20) (p8 : 0 ≤ (f 68).toInt) (p9 : (f 68).toInt + 3 * (f 20).toInt + 0 + mg_p4 gs ≤ 60 * (f 4).toInt + 60) (p10 : 0 ≤ (f 62).toInt) (p11 : (f 62).toInt + 64 * mj_n (g 16) (f 15).toNatClampNeg 3 ≤ 64 * (f 4).toInt) (p12 : 0 ≤ (f 44).toInt) (p13 : (f 44).toInt ≤ (f 4).toInt) (p14 : 0 ≤ (f 48).toInt) (p15 : (f 48).toInt ≤ (f 4).toInt) (p16 : 1 ≤ (f 53).toInt) (p17 : (f 53).toInt ≤ (f 4).toInt + 1) (p18 : 0 ≤ mg_p1 gs) (p19 : 0 ≤ mg_p2 gs) (p20 : 0 ≤ mg_p4 gs) (p21 : 0 ≤ (f 10).toInt) (p22 : (f 10).toInt ≤ mg_p3 gs) (p23 : 0 ≤ mj_n (g 16) (f 15).toNatClampNeg 3) (p24 : 1 ≤ (f 15).toInt) (p25 : 0 ≤ (f 20).toInt) (p26 : 1 ≤ (f 37).toInt) (p27 : 0 ≤ (f 32).toInt) (p28 : (f 32).toInt ≤ (f 5).toInt) (p29 : (f 5).toInt ≤ 48) (p30 : (f 37).toInt ≤ 2 * (f 5).toInt + 2) : am_E (am_PP sc) (d + 8) 180 0 [some (.ref 39), some (.int 37), some (.int on), some (.int tw), some (.int th)] [] S (am_N fun v S1 => ∃ (f' : Nat → Int32) (g' : Nat → Nat → Int32) (gs' : List mg_E) (bc' : List (List Nat)), v = none ∧ MS S0 S1 f' g' ∧ (mg_on f (100 * ((f 0).toInt - (f 4).toInt) + (1 + mg_p3 gs)) f' g' gs' bc' ∨ mg_off f f' g' bc')) := by
  have hbs := mg_basic hrest
  refine am_e1 (v := 37) hi_180_0 rfl ?_
  refine am_e0 hi_180_1 ?_
  refine am_e13f hi_180_3 (by decide) ?_
  refine am_e2 (v := 39) hi_180_6 rfl ?_
  refine am_e1 (v := 37) hi_180_7 rfl ?_
  refine am_e1 (v := on) hi_180_8 rfl ?_
  refine am_e1 (v := tw) hi_180_9 rfl ?_
  refine am_e32w (as := [.ref 39, .int 37, .int on, .int tw]) (la := [some (.ref 39), some (.int 37), some (.int on), some (.int tw)]) (rest := []) hi_180_10 (am_hd0 (M := 180) (by decide) 10) (Nat.le_of_ble_eq_true rfl) (Nat.le_of_ble_eq_true rfl) (show 4 ≤ am_P0.2.2.1 181 from by decide +kernel) rfl (am_recv_ok hS.fs) rfl rfl ?_
  refine am_e1 (v := 37) hi_181_0 rfl ?_
  refine am_e19 (t := 311) hi_181_1 (by decide) ?_
  refine am_e2 (v := 39) hi_181_311 rfl ?_
  refine am_e32w (as := [.ref 39]) (la := [some (.ref 39)]) (rest := []) hi_181_312 (am_hd0 (M := 181) (by decide) 312) (Nat.le_of_ble_eq_true rfl) (Nat.le_of_ble_eq_true rfl) (show 1 ≤ am_P0.2.2.1 209 from by decide +kernel) rfl (am_recv_ok hS.fs) rfl rfl ?_
  refine am_e2 (v := 39) hi_209_0 rfl ?_
  refine am_e32n (as := [.ref 39]) (la := [some (.ref 39), none, none, none]) (rest := []) hi_209_1 (am_hd0 (M := 209) (by decide) 1) (Nat.le_of_ble_eq_true rfl) (Nat.le_of_ble_eq_true rfl) (show 1 ≤ am_P0.2.2.1 204 from by decide +kernel) rfl (am_recv_ok hS.fs) rfl rfl (ct_load (d := (d + 3)) hS hR  (by show (0 : Int) ≤ (f 32).toInt; omega) (by show (f 32).toInt ≤ (63 : Int); omega) (by show (f 53).toInt ≤ (4096 : Int); omega) (by show (0 : Int) ≤ (f 68).toInt; omega) (by show (f 68).toInt ≤ (65534 : Int); omega) (by show (1 : Int) ≤ (f 15).toInt; omega) (by show (f 15).toInt ≤ (32767 : Int); omega) (by show (0 : Int) ≤ (f 24).toInt; omega) (by show (f 24).toInt ≤ (16384 : Int); omega) (by show (0 : Int) ≤ (f 62).toInt; omega) (by show (f 62).toInt ≤ (65000 : Int); omega)) ?_
  rintro v0 S1 (⟨o2, s3, m4, g'5, hv6, hS7, hR14, h8, h9, h10, h11, h12, h13⟩)
  subst hv6
  have h8_ : (f 62).toInt ≤ o2.toInt := h8
  have h9_ : o2.toInt ≤ (f 62).toInt + 64 := h9
  have h10_ : (f 68).toInt ≤ s3.toInt := h10
  have h11_ : s3.toInt ≤ (f 68).toInt + 1 := h11
  have h12_ : o2.toInt + 64 * mj_n (g'5 16) (f 15).toNatClampNeg 3 ≤ (f 62).toInt + 64 * mj_n (g 16) (f 15).toNatClampNeg 3 := h12
  have h13_ : ∀ j, j ∉ [16, 60, 63, 64, 65, 66, 67, 69, 70, 71, 72, 73] → g'5 j = g j := h13
  have hR14_ : RJ (upd (upd (upd f 62 o2) 68 s3) 75 m4) g'5 gs bc [] 0 [] := hR14
  show am_E _ _ _ _ [some (.ref 39)] [] _ _
  refine am_e2 (v := 39) hi_209_4 rfl ?_
  refine am_e7 hi_209_5 ?_
  refine mm_20 (v := .int (f 15)) hS7 hi_209_6 rfl ?_
  refine am_e0 hi_209_9 ?_
  obtain ⟨z15, hz15, tz15⟩ := am_subI (x := f 15) (y := 1) (m := (f 15).toInt) (n := (1 : Int)) rfl (by decide) (by omega) (by omega)
  refine am_e10 (z := z15) hi_209_10 hz15 ?_
  refine mm_21 (v := z15) hS7 hi_209_11 rfl (Nat.le_of_ble_eq_true rfl) ms_15 ?_
  intro S16 hS17
  replace hS17 : MS S0 S16 (upd (upd (upd (upd f 15 z15) 62 o2) 68 s3) 75 m4) g'5 := hS17
  have hp18 : mj_n (g'5 16) (f 15).toNatClampNeg 3 = mj_n (g'5 16) z15.toNatClampNeg 3 + if (g'5 16 z15.toNatClampNeg).toInt = 3 then 1 else 0 := mj_pop (by rw [cl_toNat, cl_toNat]; omega)
  have hp181 : mj_n (g'5 16) z15.toNatClampNeg 3 ≤ mj_n (g'5 16) (f 15).toNatClampNeg 3 := by rw [hp18]; split <;> omega
  have hp182 : (g'5 16 z15.toNatClampNeg).toInt = 3 → mj_n (g'5 16) z15.toNatClampNeg 3 + 1 ≤ mj_n (g'5 16) (f 15).toNatClampNeg 3 := fun q => by rw [hp18, if_pos q]; exact Int.le_refl _
  refine am_e35 hi_209_14 ?_
  show am_E _ _ _ _ [some (.ref 39), some (.int 37), some (.int on), some (.int tw)] [] _ _
  refine am_e2 (v := 39) hi_181_315 rfl ?_
  refine am_e0 hi_181_316 ?_
  refine am_e0 hi_181_318 ?_
  refine am_e0 hi_181_319 ?_
  refine am_e1 (v := tw) hi_181_320 rfl ?_
  refine am_e32n (as := [.ref 39, .int 21, .int 0, .int 0, .int tw]) (la := [some (.ref 39), some (.int 21), some (.int 0), some (.int 0), some (.int tw)]) (rest := []) hi_181_321 (am_hd0 (M := 181) (by decide) 321) (Nat.le_of_ble_eq_true rfl) (Nat.le_of_ble_eq_true rfl) (show 5 ≤ am_P0.2.2.1 189 from by decide +kernel) rfl (am_recv_ok hS17.fs) rfl rfl (ct_put (d := (d + 6)) hS17 hR14_  (by show (0 : Int) ≤ (f 32).toInt; omega) (by show (f 32).toInt ≤ (63 : Int); omega) (by show (f 53).toInt ≤ (4096 : Int); omega) (by show (0 : Int) ≤ s3.toInt; omega) (by show s3.toInt ≤ (65534 : Int); omega)) ?_
  rintro v19 S20 (⟨z21, r22, g'23, hv24, hS25, hR29, h26, h27, h28⟩)
  subst hv24
  have h26_ : z21.toInt = s3.toInt + 1 := h26
  have h27_ : r22.toInt = s3.toInt := h27
  have h28_ : ∀ j, j ∉ [60, 69, 70, 71, 72, 73] → g'23 j = g'5 j := h28
  replace hS25 : MS S0 S20 (upd (upd (upd (upd f 15 z15) 62 o2) 68 z21) 75 m4) g'23 := hS25
  have hR29_ : RJ (upd (upd (upd (upd f 15 z15) 62 o2) 68 z21) 75 m4) g'23 gs bc [] 0 (s3.toNatClampNeg :: []) := hR29
  show am_E _ _ _ _ [some (.ref 39), some (.int 37), some (.int on), some (.int tw)] [.int r22] _ _
  refine am_e6i hi_181_324 ?_
  refine am_e2 (v := 39) hi_181_325 rfl ?_
  refine am_e1 (v := on) hi_181_326 rfl ?_
  refine am_e32w (as := [.ref 39, .int on]) (la := [some (.ref 39), some (.int on)]) (rest := []) hi_181_327 (am_hd0 (M := 181) (by decide) 327) (Nat.le_of_ble_eq_true rfl) (Nat.le_of_ble_eq_true rfl) (show 2 ≤ am_P0.2.2.1 220 from by decide +kernel) rfl (am_recv_ok hS25.fs) rfl rfl ?_
  refine am_e2 (v := 39) hi_220_0 rfl ?_
  refine am_e32n (as := [.ref 39]) (la := [some (.ref 39)]) (rest := []) hi_220_1 (am_hd0 (M := 220) (by decide) 1) (Nat.le_of_ble_eq_true rfl) (Nat.le_of_ble_eq_true rfl) (show 1 ≤ am_P0.2.2.1 183 from by decide +kernel) rfl (am_recv_ok hS25.fs) rfl rfl (ct_next (d := (d + 4)) hS25   (by show (0 : Int) ≤ (f 4).toInt; omega) (by show (f 0).toInt ≤ (16384 : Int); omega)) ?_
  rintro v30 S31 (⟨r32, hv33, hS34, h35⟩)
  subst hv33
  have h35_ : (f 4).toInt < (f 0).toInt ∨ r32.toInt = (-1 : Int) := h35
  show am_E _ _ _ _ [some (.ref 39), some (.int on)] [.int r32] _ _
  refine am_e0 hi_220_4 ?_
  by_cases c37 : r32.toInt = (69 : Int)
  · refine am_e13t hi_220_6 (am_cT (m := r32.toInt) (n := (69 : Int)) rfl (by decide) c37) ?_
    refine am_e2 (v := 39) hi_220_18 rfl ?_
    refine am_e7 hi_220_19 ?_
    refine mm_20 (v := .int (f 4)) hS34 hi_220_20 rfl ?_
    refine am_e0 hi_220_23 ?_
    obtain ⟨z38, hz38, tz38⟩ := am_addI (x := f 4) (y := 1) (m := (f 4).toInt) (n := (1 : Int)) rfl (by decide) (by omega) (by omega)
    refine am_e10 (z := z38) hi_220_24 hz38 ?_
    refine mm_21 (v := z38) hS34 hi_220_25 rfl (Nat.le_of_ble_eq_true rfl) ms_4 ?_
    intro S39 hS40
    replace hS40 : MS S0 S39 (upd (upd (upd (upd (upd f 4 z38) 15 z15) 62 o2) 68 z21) 75 m4) g'23 := hS40
    have hR41 : RJ (upd (upd (upd (upd (upd f 4 z38) 15 z15) 62 o2) 68 z21) 75 m4) g'23 gs bc [] 0 (s3.toNatClampNeg :: []) := RJ.at hR29_ (by show (f 4).toInt ≤ z38.toInt; omega)
    refine am_e2 (v := 39) hi_220_28 rfl ?_
    refine am_e0 hi_220_29 ?_
    refine am_e1 (v := on) hi_220_31 rfl ?_
    refine am_e0 hi_220_32 ?_
    refine am_e0 hi_220_33 ?_
    refine am_e32n (as := [.ref 39, .int 35, .int on, .int 0, .int 0]) (la := [some (.ref 39), some (.int 35), some (.int on), some (.int 0), some (.int 0)]) (rest := []) hi_220_34 (am_hd0 (M := 220) (by decide) 34) (Nat.le_of_ble_eq_true rfl) (Nat.le_of_ble_eq_true rfl) (show 5 ≤ am_P0.2.2.1 179 from by decide +kernel) rfl (am_recv_ok hS40.fs) rfl rfl (ct_pile (d := (d + 5)) hS40 hR41 (mj_e_plain (by decide)) (by show (0 : Int) ≤ (f 10).toInt; omega) (by show (f 10).toInt ≤ (65535 : Int); omega)) ?_
    rintro v42 S43 (⟨z44, g'45, hv46, hS47, hR50, h48, h49⟩)
    subst hv46
    have h48_ : z44.toInt = (f 10).toInt + 1 := h48
    have h49_ : ∀ j, j ∉ [11, 12, 13, 14] → g'45 j = g'23 j := h49
    replace hS47 : MS S0 S43 (upd (upd (upd (upd (upd (upd f 4 z38) 10 z44) 15 z15) 62 o2) 68 z21) 75 m4) g'45 := hS47
    have hR50_ : RJ (upd (upd (upd (upd (upd (upd f 4 z38) 10 z44) 15 z15) 62 o2) 68 z21) 75 m4) g'45 (((35 : Int), on.toInt, (0 : Int), (0 : Int), []) :: gs) bc [] 0 (s3.toNatClampNeg :: []) := hR50
    show am_E _ _ _ _ [some (.ref 39), some (.int on)] [] _ _
    refine am_e18 hi_220_37 ?_
    refine am_e35 hi_220_47 ?_
    show am_E _ _ _ _ [some (.ref 39), some (.int 37), some (.int on), some (.int tw)] [] _ _
    refine am_e18 hi_181_330 ?_
    refine am_e35 hi_181_397 ?_
    show am_E _ _ _ _ [some (.ref 39), some (.int 37), some (.int on), some (.int tw), some (.int th)] [] _ _
    refine am_e35 hi_180_13 ?_
    have q1 : mg_p1 (((35 : Int), on.toInt, (0 : Int), (0 : Int), []) :: gs) = 0 + (mg_p1 gs) := rfl
    have q2 : mg_p2 (((35 : Int), on.toInt, (0 : Int), (0 : Int), []) :: gs) = 0 + (mg_p2 gs) := rfl
    have q3 : mg_p3 (((35 : Int), on.toInt, (0 : Int), (0 : Int), []) :: gs) = 3 + (mg_p3 gs) := rfl
    have q4 : mg_p4 (((35 : Int), on.toInt, (0 : Int), (0 : Int), []) :: gs) = 0 + (mg_p4 gs) := rfl
    refine ⟨_, _, _, bc, rfl, hS47, Or.inl ⟨⟨(RJ.fewer (pj' := []) hR50_ (fun _ h => nomatch h)), ?_, ?_⟩, rfl, ?_⟩⟩
    · exact (⟨⟨(show (0 : Int) ≤ 35 from by decide), (show (0 : Int) ≤ z15.toInt from by omega), (show 0 ≤ (f 20).toInt from by omega), (show 1 ≤ (f 37).toInt from by omega), (show 0 ≤ (f 32).toInt from by omega), (show (f 32).toInt ≤ (f 5).toInt from by omega), (show (f 5).toInt ≤ 48 from by omega), (show (f 37).toInt ≤ 2 * ((f 5).toInt) + 2 from by omega), trivial⟩, mg_cast (mg_good_ext _ _ _ _ _ _ (fun i _ => by show g'45 34 i = g 34 i; rw [show g'45 34 = g'23 34 from h49_ 34 (by decide), show g'23 34 = g'5 34 from h28_ 34 (by decide), show g'5 34 = g 34 from h13_ 34 (by decide)]) (fun i _ => by show g'45 38 i = g 38 i; rw [show g'45 38 = g'23 38 from h49_ 38 (by decide), show g'23 38 = g'5 38 from h28_ 38 (by decide), show g'5 38 = g 38 from h13_ 38 (by decide)]) hrest) (by show (f 15).toInt + -1 = z15.toInt + 0; omega) (by show (f 20).toInt = (f 20).toInt; omega) (by show (f 37).toInt + 0 = (f 37).toInt + 0; omega) (by show (f 32).toInt + 0 = (f 32).toInt + 0; omega) (by show (f 5).toInt + -1 = (f 5).toInt + -1; omega)⟩ : mg_good (g'45 34) (g'45 38) (((35 : Int), on.toInt, (0 : Int), (0 : Int), []) :: gs) (z15.toInt) ((f 20).toInt) ((f 37).toInt) ((f 32).toInt) ((f 5).toInt))
    · exact ⟨(by show 0 ≤ z38.toInt; omega), (by show z38.toInt ≤ (f 0).toInt; omega), (by show (f 0).toInt ≤ 512; omega), (by show 0 ≤ (f 24).toInt; omega), (by show (f 24).toInt + (f 20).toInt + mg_p1 (((35 : Int), on.toInt, (0 : Int), (0 : Int), []) :: gs) ≤ 4 * z38.toInt; omega), (by show (f 20).toInt ≤ z38.toInt; omega), (by show z15.toInt + mg_p2 (((35 : Int), on.toInt, (0 : Int), (0 : Int), []) :: gs) ≤ z38.toInt; omega), (by show mg_p3 (((35 : Int), on.toInt, (0 : Int), (0 : Int), []) :: gs) ≤ 20 * z38.toInt + 20; omega), (by show 0 ≤ z21.toInt; omega), (by show z21.toInt + 3 * (f 20).toInt + mg_p4 (((35 : Int), on.toInt, (0 : Int), (0 : Int), []) :: gs) ≤ 60 * z38.toInt + 60; omega), (by show 0 ≤ o2.toInt; omega), (by show o2.toInt + 64 * mj_n (g'45 16) z15.toNatClampNeg 3 ≤ 64 * z38.toInt; rw [show g'45 16 = g'23 16 from h49_ 16 (by decide), show g'23 16 = g'5 16 from h28_ 16 (by decide)]; omega), (by show 0 ≤ (f 44).toInt; omega), (by show (f 44).toInt ≤ z38.toInt; omega), (by show 0 ≤ (f 48).toInt; omega), (by show (f 48).toInt ≤ z38.toInt; omega), (by show 1 ≤ (f 53).toInt; omega), (by show (f 53).toInt ≤ z38.toInt + 1; omega)⟩
    · show 100 * ((f 0).toInt - z38.toInt) + mg_p3 (((35 : Int), on.toInt, (0 : Int), (0 : Int), []) :: gs) < 100 * ((f 0).toInt - (f 4).toInt) + (1 + mg_p3 gs); omega
  · refine am_e13f hi_220_6 (am_cF (m := r32.toInt) (n := (69 : Int)) rfl (by decide) c37) ?_
    refine am_e2 (v := 39) hi_220_9 rfl ?_
    refine am_e32n (as := [.ref 39]) (la := [some (.ref 39)]) (rest := []) hi_220_10 (am_hd0 (M := 220) (by decide) 10) (Nat.le_of_ble_eq_true rfl) (Nat.le_of_ble_eq_true rfl) (show 1 ≤ am_P0.2.2.1 183 from by decide +kernel) rfl (am_recv_ok hS34.fs) rfl rfl (ct_next (d := (d + 4)) hS34   (by show (0 : Int) ≤ (f 4).toInt; omega) (by show (f 0).toInt ≤ (16384 : Int); omega)) ?_
    rintro v51 S52 (⟨r53, hv54, hS55, h56⟩)
    subst hv54
    have h56_ : (f 4).toInt < (f 0).toInt ∨ r53.toInt = (-1 : Int) := h56
    show am_E _ _ _ _ [some (.ref 39), some (.int on)] [.int r53] _ _
    refine am_e0 hi_220_13 ?_
    by_cases c58 : ¬ r53.toInt = (67 : Int)
    · refine am_e13t hi_220_15 (am_cT (m := r53.toInt) (n := (67 : Int)) rfl (by decide) c58) ?_
      refine am_e2 (v := 39) hi_220_40 rfl ?_
      refine am_e0 hi_220_41 ?_
      refine am_e32n (as := [.ref 39, .int 63]) (la := [some (.ref 39), some (.int 63)]) (rest := []) hi_220_43 (am_hd0 (M := 220) (by decide) 43) (Nat.le_of_ble_eq_true rfl) (Nat.le_of_ble_eq_true rfl) (show 2 ≤ am_P0.2.2.1 199 from by decide +kernel) rfl (am_recv_ok hS55.fs) rfl rfl (ct_leave (d := (d + 2)) hS55   (by show (0 : Int) ≤ (f 4).toInt; omega) (by show (f 0).toInt ≤ (16384 : Int); omega) (by show (0 : Int) ≤ (63 : Int); omega) (by show (0 : Int) ≤ (f 5).toInt; omega) (by show (f 5).toInt ≤ (48 : Int); omega)) ?_
      rintro v59 S60 (⟨z61, y62, hv63, hS64, h65, h66, h67⟩ | ⟨a69, b70, hv71, hS72⟩)
      · subst hv63
        have h65_ : z61.toInt = (f 4).toInt + 1 := h65
        have h66_ : (f 4).toInt < (f 0).toInt := h66
        have h67_ : y62.toInt = (f 5).toInt - 1 := h67
        replace hS64 : MS S0 S60 (upd (upd (upd (upd (upd (upd f 4 z61) 5 y62) 15 z15) 62 o2) 68 z21) 75 m4) g'23 := hS64
        have hR74 : RJ (upd (upd (upd (upd (upd (upd f 4 z61) 5 y62) 15 z15) 62 o2) 68 z21) 75 m4) g'23 gs bc [] 0 (s3.toNatClampNeg :: []) := RJ.at hR29_ (by show (f 4).toInt ≤ z61.toInt; omega)
        show am_E _ _ _ _ [some (.ref 39), some (.int on)] [.int 1] _ _
        refine am_e6i hi_220_46 ?_
        refine am_e35 hi_220_47 ?_
        show am_E _ _ _ _ [some (.ref 39), some (.int 37), some (.int on), some (.int tw)] [] _ _
        refine am_e18 hi_181_330 ?_
        refine am_e35 hi_181_397 ?_
        show am_E _ _ _ _ [some (.ref 39), some (.int 37), some (.int on), some (.int tw), some (.int th)] [] _ _
        refine am_e35 hi_180_13 ?_
        have q1 : mg_p1 gs = mg_p1 gs := rfl
        have q2 : mg_p2 gs = mg_p2 gs := rfl
        have q3 : mg_p3 gs = mg_p3 gs := rfl
        have q4 : mg_p4 gs = mg_p4 gs := rfl
        refine ⟨_, _, _, bc, rfl, hS64, Or.inl ⟨⟨(RJ.fewer (pj' := []) hR74 (fun _ h => nomatch h)), ?_, ?_⟩, rfl, ?_⟩⟩
        · exact (mg_cast (mg_good_ext _ _ _ _ _ _ (fun i _ => by show g'23 34 i = g 34 i; rw [show g'23 34 = g'5 34 from h28_ 34 (by decide), show g'5 34 = g 34 from h13_ 34 (by decide)]) (fun i _ => by show g'23 38 i = g 38 i; rw [show g'23 38 = g'5 38 from h28_ 38 (by decide), show g'5 38 = g 38 from h13_ 38 (by decide)]) hrest) (by show (f 15).toInt + -1 = z15.toInt; omega) (by show (f 20).toInt = (f 20).toInt; omega) (by show (f 37).toInt + 0 = (f 37).toInt; omega) (by show (f 32).toInt + 0 = (f 32).toInt; omega) (by show (f 5).toInt + -1 = y62.toInt; omega) : mg_good (g'23 34) (g'23 38) gs (z15.toInt) ((f 20).toInt) ((f 37).toInt) ((f 32).toInt) (y62.toInt))
        · exact ⟨(by show 0 ≤ z61.toInt; omega), (by show z61.toInt ≤ (f 0).toInt; omega), (by show (f 0).toInt ≤ 512; omega), (by show 0 ≤ (f 24).toInt; omega), (by show (f 24).toInt + (f 20).toInt + mg_p1 gs ≤ 4 * z61.toInt; omega), (by show (f 20).toInt ≤ z61.toInt; omega), (by show z15.toInt + mg_p2 gs ≤ z61.toInt; omega), (by show mg_p3 gs ≤ 20 * z61.toInt + 20; omega), (by show 0 ≤ z21.toInt; omega), (by show z21.toInt + 3 * (f 20).toInt + mg_p4 gs ≤ 60 * z61.toInt + 60; omega), (by show 0 ≤ o2.toInt; omega), (by show o2.toInt + 64 * mj_n (g'23 16) z15.toNatClampNeg 3 ≤ 64 * z61.toInt; rw [show g'23 16 = g'5 16 from h28_ 16 (by decide)]; omega), (by show 0 ≤ (f 44).toInt; omega), (by show (f 44).toInt ≤ z61.toInt; omega), (by show 0 ≤ (f 48).toInt; omega), (by show (f 48).toInt ≤ z61.toInt; omega), (by show 1 ≤ (f 53).toInt; omega), (by show (f 53).toInt ≤ z61.toInt + 1; omega)⟩
        · show 100 * ((f 0).toInt - z61.toInt) + mg_p3 gs < 100 * ((f 0).toInt - (f 4).toInt) + (1 + mg_p3 gs); omega
      · subst hv71
        replace hS72 : MS S0 S60 (upd (upd (upd (upd (upd (upd (upd f 6 a69) 7 b70) 10 0) 15 z15) 62 o2) 68 z21) 75 m4) g'23 := hS72
        show am_E _ _ _ _ [some (.ref 39), some (.int on)] [.int 0] _ _
        refine am_e6i hi_220_46 ?_
        refine am_e35 hi_220_47 ?_
        show am_E _ _ _ _ [some (.ref 39), some (.int 37), some (.int on), some (.int tw)] [] _ _
        refine am_e18 hi_181_330 ?_
        refine am_e35 hi_181_397 ?_
        show am_E _ _ _ _ [some (.ref 39), some (.int 37), some (.int on), some (.int tw), some (.int th)] [] _ _
        refine am_e35 hi_180_13 ?_
        have hRc := rj_clear0 hR29_
        refine ⟨_, _, [], _, rfl, hS72, Or.inr ⟨hRc, rfl, (by show 0 ≤ (f 4).toInt; omega), (by show (f 4).toInt ≤ (f 0).toInt; omega), (by show 0 ≤ (f 32).toInt; omega), (by show (f 32).toInt ≤ 63; omega), (by show 1 ≤ (f 53).toInt; omega), (by show (f 53).toInt ≤ 600; omega), (by show 0 ≤ z21.toInt; omega), (by show z21.toInt ≤ 60000; omega), (by show 0 ≤ (f 48).toInt; omega), (by show (f 48).toInt ≤ 8000; omega), (by show 0 ≤ (f 37).toInt; omega), (by show (f 37).toInt ≤ 128; omega), (by show 0 ≤ o2.toInt; omega), (by show o2.toInt ≤ 65000; omega)⟩⟩
    · refine am_e13f hi_220_15 (am_cF (m := r53.toInt) (n := (67 : Int)) rfl (by decide) c58) ?_
      refine am_e2 (v := 39) hi_220_18 rfl ?_
      refine am_e7 hi_220_19 ?_
      refine mm_20 (v := .int (f 4)) hS55 hi_220_20 rfl ?_
      refine am_e0 hi_220_23 ?_
      obtain ⟨z75, hz75, tz75⟩ := am_addI (x := f 4) (y := 1) (m := (f 4).toInt) (n := (1 : Int)) rfl (by decide) (by omega) (by omega)
      refine am_e10 (z := z75) hi_220_24 hz75 ?_
      refine mm_21 (v := z75) hS55 hi_220_25 rfl (Nat.le_of_ble_eq_true rfl) ms_4 ?_
      intro S76 hS77
      replace hS77 : MS S0 S76 (upd (upd (upd (upd (upd f 4 z75) 15 z15) 62 o2) 68 z21) 75 m4) g'23 := hS77
      have hR78 : RJ (upd (upd (upd (upd (upd f 4 z75) 15 z15) 62 o2) 68 z21) 75 m4) g'23 gs bc [] 0 (s3.toNatClampNeg :: []) := RJ.at hR29_ (by show (f 4).toInt ≤ z75.toInt; omega)
      refine am_e2 (v := 39) hi_220_28 rfl ?_
      refine am_e0 hi_220_29 ?_
      refine am_e1 (v := on) hi_220_31 rfl ?_
      refine am_e0 hi_220_32 ?_
      refine am_e0 hi_220_33 ?_
      refine am_e32n (as := [.ref 39, .int 35, .int on, .int 0, .int 0]) (la := [some (.ref 39), some (.int 35), some (.int on), some (.int 0), some (.int 0)]) (rest := []) hi_220_34 (am_hd0 (M := 220) (by decide) 34) (Nat.le_of_ble_eq_true rfl) (Nat.le_of_ble_eq_true rfl) (show 5 ≤ am_P0.2.2.1 179 from by decide +kernel) rfl (am_recv_ok hS77.fs) rfl rfl (ct_pile (d := (d + 5)) hS77 hR78 (mj_e_plain (by decide)) (by show (0 : Int) ≤ (f 10).toInt; omega) (by show (f 10).toInt ≤ (65535 : Int); omega)) ?_
      rintro v79 S80 (⟨z81, g'82, hv83, hS84, hR87, h85, h86⟩)
      subst hv83
      have h85_ : z81.toInt = (f 10).toInt + 1 := h85
      have h86_ : ∀ j, j ∉ [11, 12, 13, 14] → g'82 j = g'23 j := h86
      replace hS84 : MS S0 S80 (upd (upd (upd (upd (upd (upd f 4 z75) 10 z81) 15 z15) 62 o2) 68 z21) 75 m4) g'82 := hS84
      have hR87_ : RJ (upd (upd (upd (upd (upd (upd f 4 z75) 10 z81) 15 z15) 62 o2) 68 z21) 75 m4) g'82 (((35 : Int), on.toInt, (0 : Int), (0 : Int), []) :: gs) bc [] 0 (s3.toNatClampNeg :: []) := hR87
      show am_E _ _ _ _ [some (.ref 39), some (.int on)] [] _ _
      refine am_e18 hi_220_37 ?_
      refine am_e35 hi_220_47 ?_
      show am_E _ _ _ _ [some (.ref 39), some (.int 37), some (.int on), some (.int tw)] [] _ _
      refine am_e18 hi_181_330 ?_
      refine am_e35 hi_181_397 ?_
      show am_E _ _ _ _ [some (.ref 39), some (.int 37), some (.int on), some (.int tw), some (.int th)] [] _ _
      refine am_e35 hi_180_13 ?_
      have q1 : mg_p1 (((35 : Int), on.toInt, (0 : Int), (0 : Int), []) :: gs) = 0 + (mg_p1 gs) := rfl
      have q2 : mg_p2 (((35 : Int), on.toInt, (0 : Int), (0 : Int), []) :: gs) = 0 + (mg_p2 gs) := rfl
      have q3 : mg_p3 (((35 : Int), on.toInt, (0 : Int), (0 : Int), []) :: gs) = 3 + (mg_p3 gs) := rfl
      have q4 : mg_p4 (((35 : Int), on.toInt, (0 : Int), (0 : Int), []) :: gs) = 0 + (mg_p4 gs) := rfl
      refine ⟨_, _, _, bc, rfl, hS84, Or.inl ⟨⟨(RJ.fewer (pj' := []) hR87_ (fun _ h => nomatch h)), ?_, ?_⟩, rfl, ?_⟩⟩
      · exact (⟨⟨(show (0 : Int) ≤ 35 from by decide), (show (0 : Int) ≤ z15.toInt from by omega), (show 0 ≤ (f 20).toInt from by omega), (show 1 ≤ (f 37).toInt from by omega), (show 0 ≤ (f 32).toInt from by omega), (show (f 32).toInt ≤ (f 5).toInt from by omega), (show (f 5).toInt ≤ 48 from by omega), (show (f 37).toInt ≤ 2 * ((f 5).toInt) + 2 from by omega), trivial⟩, mg_cast (mg_good_ext _ _ _ _ _ _ (fun i _ => by show g'82 34 i = g 34 i; rw [show g'82 34 = g'23 34 from h86_ 34 (by decide), show g'23 34 = g'5 34 from h28_ 34 (by decide), show g'5 34 = g 34 from h13_ 34 (by decide)]) (fun i _ => by show g'82 38 i = g 38 i; rw [show g'82 38 = g'23 38 from h86_ 38 (by decide), show g'23 38 = g'5 38 from h28_ 38 (by decide), show g'5 38 = g 38 from h13_ 38 (by decide)]) hrest) (by show (f 15).toInt + -1 = z15.toInt + 0; omega) (by show (f 20).toInt = (f 20).toInt; omega) (by show (f 37).toInt + 0 = (f 37).toInt + 0; omega) (by show (f 32).toInt + 0 = (f 32).toInt + 0; omega) (by show (f 5).toInt + -1 = (f 5).toInt + -1; omega)⟩ : mg_good (g'82 34) (g'82 38) (((35 : Int), on.toInt, (0 : Int), (0 : Int), []) :: gs) (z15.toInt) ((f 20).toInt) ((f 37).toInt) ((f 32).toInt) ((f 5).toInt))
      · exact ⟨(by show 0 ≤ z75.toInt; omega), (by show z75.toInt ≤ (f 0).toInt; omega), (by show (f 0).toInt ≤ 512; omega), (by show 0 ≤ (f 24).toInt; omega), (by show (f 24).toInt + (f 20).toInt + mg_p1 (((35 : Int), on.toInt, (0 : Int), (0 : Int), []) :: gs) ≤ 4 * z75.toInt; omega), (by show (f 20).toInt ≤ z75.toInt; omega), (by show z15.toInt + mg_p2 (((35 : Int), on.toInt, (0 : Int), (0 : Int), []) :: gs) ≤ z75.toInt; omega), (by show mg_p3 (((35 : Int), on.toInt, (0 : Int), (0 : Int), []) :: gs) ≤ 20 * z75.toInt + 20; omega), (by show 0 ≤ z21.toInt; omega), (by show z21.toInt + 3 * (f 20).toInt + mg_p4 (((35 : Int), on.toInt, (0 : Int), (0 : Int), []) :: gs) ≤ 60 * z75.toInt + 60; omega), (by show 0 ≤ o2.toInt; omega), (by show o2.toInt + 64 * mj_n (g'82 16) z15.toNatClampNeg 3 ≤ 64 * z75.toInt; rw [show g'82 16 = g'23 16 from h86_ 16 (by decide), show g'23 16 = g'5 16 from h28_ 16 (by decide)]; omega), (by show 0 ≤ (f 44).toInt; omega), (by show (f 44).toInt ≤ z75.toInt; omega), (by show 0 ≤ (f 48).toInt; omega), (by show (f 48).toInt ≤ z75.toInt; omega), (by show 1 ≤ (f 53).toInt; omega), (by show (f 53).toInt ≤ z75.toInt + 1; omega)⟩
      · show 100 * ((f 0).toInt - z75.toInt) + mg_p3 (((35 : Int), on.toInt, (0 : Int), (0 : Int), []) :: gs) < 100 * ((f 0).toInt - (f 4).toInt) + (1 + mg_p3 gs); omega
theorem st_38 {sc : Nat × (Nat → Int32)} {d : Nat} {S0 S : am_S} {f : Nat → Int32} {g : Nat → Nat → Int32} {on : Int32} {tw : Int32} {th : Int32} {gs : List mg_E} {bc : List (List Nat)} (hS : MS S0 S f g) (hR : RJ f g gs bc [] 0 []) (hrest : mg_good (g 34) (g 38) gs ((f 15).toInt + -1) ((f 20).toInt) ((f 37).toInt + 0) ((f 32).toInt + 0) ((f 5).toInt + -1)) (p0 : 0 ≤ (f 4).toInt) (p1 : (f 4).toInt ≤ (f 0).toInt) (p2 : (f 0).toInt ≤ 512) (p3 : 0 ≤ (f 24).toInt) (p4 : (f 24).toInt + (f 20).toInt + mg_p1 gs ≤ 4 * (f 4).toInt) (p5 : (f 20).toInt ≤ (f 4).toInt) (p6 : (f 15).toInt + 0 + mg_p2 gs ≤ (f 4).toInt) (p7 : 1 + mg_p3 gs ≤ 20 * (f 4).toInt + 20) (p8 : 0 ≤ (f 68).toInt) (p9 : (f 68).toInt + 3 * (f 20).toInt + 0 + mg_p4 gs ≤ 60 * (f 4).toInt + 60) (p10 : 0 ≤ (f 62).toInt) (p11 : (f 62).toInt + 64 * mj_n (g 16) (f 15).toNatClampNeg 3 ≤ 64 * (f 4).toInt) (p12 : 0 ≤ (f 44).toInt) (p13 : (f 44).toInt ≤ (f 4).toInt) (p14 : 0 ≤ (f 48).toInt) (p15 : (f 48).toInt ≤ (f 4).toInt) (p16 : 1 ≤ (f 53).toInt) (p17 : (f 53).toInt ≤ (f 4).toInt + 1) (p18 : 0 ≤ mg_p1 gs) (p19 : 0 ≤ mg_p2 gs) (p20 : 0 ≤ mg_p4 gs) (p21 : 0 ≤ (f 10).toInt) (p22 : (f 10).toInt ≤ mg_p3 gs) (p23 : 0 ≤ mj_n (g 16) (f 15).toNatClampNeg 3) (p24 : 1 ≤ (f 15).toInt) (p25 : 0 ≤ (f 20).toInt) (p26 : 1 ≤ (f 37).toInt) (p27 : 0 ≤ (f 32).toInt) (p28 : (f 32).toInt ≤ (f 5).toInt) (p29 : (f 5).toInt ≤ 48) (p30 : (f 37).toInt ≤ 2 * (f 5).toInt + 2) (p31 : 0 ≤ tw.toInt) (p32 : tw.toInt ≤ 16000) : am_E (am_PP sc) (d + 8) 180 0 [some (.ref 39), some (.int 38), some (.int on), some (.int tw), some (.int th)] [] S (am_N fun v S1 => ∃ (f' : Nat → Int32) (g' : Nat → Nat → Int32) (gs' : List mg_E) (bc' : List (List Nat)), v = none ∧ MS S0 S1 f' g' ∧ (mg_on f (100 * ((f 0).toInt - (f 4).toInt) + (1 + mg_p3 gs)) f' g' gs' bc' ∨ mg_off f f' g' bc')) := by
  have hbs := mg_basic hrest
  refine am_e1 (v := 38) hi_180_0 rfl ?_
  refine am_e0 hi_180_1 ?_
  refine am_e13f hi_180_3 (by decide) ?_
  refine am_e2 (v := 39) hi_180_6 rfl ?_
  refine am_e1 (v := 38) hi_180_7 rfl ?_
  refine am_e1 (v := on) hi_180_8 rfl ?_
  refine am_e1 (v := tw) hi_180_9 rfl ?_
  refine am_e32w (as := [.ref 39, .int 38, .int on, .int tw]) (la := [some (.ref 39), some (.int 38), some (.int on), some (.int tw)]) (rest := []) hi_180_10 (am_hd0 (M := 180) (by decide) 10) (Nat.le_of_ble_eq_true rfl) (Nat.le_of_ble_eq_true rfl) (show 4 ≤ am_P0.2.2.1 181 from by decide +kernel) rfl (am_recv_ok hS.fs) rfl rfl ?_
  refine am_e1 (v := 38) hi_181_0 rfl ?_
  refine am_e19 (t := 333) hi_181_1 (by decide) ?_
  refine am_e2 (v := 39) hi_181_333 rfl ?_
  refine am_e32w (as := [.ref 39]) (la := [some (.ref 39)]) (rest := []) hi_181_334 (am_hd0 (M := 181) (by decide) 334) (Nat.le_of_ble_eq_true rfl) (Nat.le_of_ble_eq_true rfl) (show 1 ≤ am_P0.2.2.1 209 from by decide +kernel) rfl (am_recv_ok hS.fs) rfl rfl ?_
  refine am_e2 (v := 39) hi_209_0 rfl ?_
  refine am_e32n (as := [.ref 39]) (la := [some (.ref 39), none, none, none]) (rest := []) hi_209_1 (am_hd0 (M := 209) (by decide) 1) (Nat.le_of_ble_eq_true rfl) (Nat.le_of_ble_eq_true rfl) (show 1 ≤ am_P0.2.2.1 204 from by decide +kernel) rfl (am_recv_ok hS.fs) rfl rfl (ct_load (d := (d + 3)) hS hR  (by show (0 : Int) ≤ (f 32).toInt; omega) (by show (f 32).toInt ≤ (63 : Int); omega) (by show (f 53).toInt ≤ (4096 : Int); omega) (by show (0 : Int) ≤ (f 68).toInt; omega) (by show (f 68).toInt ≤ (65534 : Int); omega) (by show (1 : Int) ≤ (f 15).toInt; omega) (by show (f 15).toInt ≤ (32767 : Int); omega) (by show (0 : Int) ≤ (f 24).toInt; omega) (by show (f 24).toInt ≤ (16384 : Int); omega) (by show (0 : Int) ≤ (f 62).toInt; omega) (by show (f 62).toInt ≤ (65000 : Int); omega)) ?_
  rintro v0 S1 (⟨o2, s3, m4, g'5, hv6, hS7, hR14, h8, h9, h10, h11, h12, h13⟩)
  subst hv6
  have h8_ : (f 62).toInt ≤ o2.toInt := h8
  have h9_ : o2.toInt ≤ (f 62).toInt + 64 := h9
  have h10_ : (f 68).toInt ≤ s3.toInt := h10
  have h11_ : s3.toInt ≤ (f 68).toInt + 1 := h11
  have h12_ : o2.toInt + 64 * mj_n (g'5 16) (f 15).toNatClampNeg 3 ≤ (f 62).toInt + 64 * mj_n (g 16) (f 15).toNatClampNeg 3 := h12
  have h13_ : ∀ j, j ∉ [16, 60, 63, 64, 65, 66, 67, 69, 70, 71, 72, 73] → g'5 j = g j := h13
  have hR14_ : RJ (upd (upd (upd f 62 o2) 68 s3) 75 m4) g'5 gs bc [] 0 [] := hR14
  show am_E _ _ _ _ [some (.ref 39)] [] _ _
  refine am_e2 (v := 39) hi_209_4 rfl ?_
  refine am_e7 hi_209_5 ?_
  refine mm_20 (v := .int (f 15)) hS7 hi_209_6 rfl ?_
  refine am_e0 hi_209_9 ?_
  obtain ⟨z15, hz15, tz15⟩ := am_subI (x := f 15) (y := 1) (m := (f 15).toInt) (n := (1 : Int)) rfl (by decide) (by omega) (by omega)
  refine am_e10 (z := z15) hi_209_10 hz15 ?_
  refine mm_21 (v := z15) hS7 hi_209_11 rfl (Nat.le_of_ble_eq_true rfl) ms_15 ?_
  intro S16 hS17
  replace hS17 : MS S0 S16 (upd (upd (upd (upd f 15 z15) 62 o2) 68 s3) 75 m4) g'5 := hS17
  have hp18 : mj_n (g'5 16) (f 15).toNatClampNeg 3 = mj_n (g'5 16) z15.toNatClampNeg 3 + if (g'5 16 z15.toNatClampNeg).toInt = 3 then 1 else 0 := mj_pop (by rw [cl_toNat, cl_toNat]; omega)
  have hp181 : mj_n (g'5 16) z15.toNatClampNeg 3 ≤ mj_n (g'5 16) (f 15).toNatClampNeg 3 := by rw [hp18]; split <;> omega
  have hp182 : (g'5 16 z15.toNatClampNeg).toInt = 3 → mj_n (g'5 16) z15.toNatClampNeg 3 + 1 ≤ mj_n (g'5 16) (f 15).toNatClampNeg 3 := fun q => by rw [hp18, if_pos q]; exact Int.le_refl _
  refine am_e35 hi_209_14 ?_
  show am_E _ _ _ _ [some (.ref 39), some (.int 38), some (.int on), some (.int tw)] [] _ _
  refine am_e2 (v := 39) hi_181_337 rfl ?_
  refine am_e0 hi_181_338 ?_
  refine am_e2 (v := 39) hi_181_340 rfl ?_
  refine mm_20 (v := .ref 41) hS17 hi_181_341 rfl ?_
  refine am_e1 (v := tw) hi_181_344 rfl ?_
  refine mm_25 hS17 ma_2 hi_181_345 (by decide) (by omega) (by omega) ?_
  show am_E _ _ _ _ _ (.int (g'5 2 tw.toNatClampNeg) :: _) _ _
  rw [show g'5 2 = g 2 from h13_ 2 (by decide)]
  show am_E _ _ _ _ [some (.ref 39), some (.int 38), some (.int on), some (.int tw)] [.int (g 2 tw.toNatClampNeg), .int 22, .ref 39] _ _
  refine am_e0 hi_181_346 ?_
  refine am_e1 (v := tw) hi_181_347 rfl ?_
  refine am_e32n (as := [.ref 39, .int 22, .int (g 2 tw.toNatClampNeg), .int 0, .int tw]) (la := [some (.ref 39), some (.int 22), some (.int (g 2 tw.toNatClampNeg)), some (.int 0), some (.int tw)]) (rest := []) hi_181_348 (am_hd0 (M := 181) (by decide) 348) (Nat.le_of_ble_eq_true rfl) (Nat.le_of_ble_eq_true rfl) (show 5 ≤ am_P0.2.2.1 189 from by decide +kernel) rfl (am_recv_ok hS17.fs) rfl rfl (ct_put (d := (d + 6)) hS17 hR14_  (by show (0 : Int) ≤ (f 32).toInt; omega) (by show (f 32).toInt ≤ (63 : Int); omega) (by show (f 53).toInt ≤ (4096 : Int); omega) (by show (0 : Int) ≤ s3.toInt; omega) (by show s3.toInt ≤ (65534 : Int); omega)) ?_
  rintro v19 S20 (⟨z21, r22, g'23, hv24, hS25, hR29, h26, h27, h28⟩)
  subst hv24
  have h26_ : z21.toInt = s3.toInt + 1 := h26
  have h27_ : r22.toInt = s3.toInt := h27
  have h28_ : ∀ j, j ∉ [60, 69, 70, 71, 72, 73] → g'23 j = g'5 j := h28
  replace hS25 : MS S0 S20 (upd (upd (upd (upd f 15 z15) 62 o2) 68 z21) 75 m4) g'23 := hS25
  have hR29_ : RJ (upd (upd (upd (upd f 15 z15) 62 o2) 68 z21) 75 m4) g'23 gs bc [] 0 (s3.toNatClampNeg :: []) := hR29
  show am_E _ _ _ _ [some (.ref 39), some (.int 38), some (.int on), some (.int tw)] [.int r22] _ _
  refine am_e6i hi_181_351 ?_
  refine am_e2 (v := 39) hi_181_352 rfl ?_
  refine am_e1 (v := on) hi_181_353 rfl ?_
  refine am_e32w (as := [.ref 39, .int on]) (la := [some (.ref 39), some (.int on)]) (rest := []) hi_181_354 (am_hd0 (M := 181) (by decide) 354) (Nat.le_of_ble_eq_true rfl) (Nat.le_of_ble_eq_true rfl) (show 2 ≤ am_P0.2.2.1 220 from by decide +kernel) rfl (am_recv_ok hS25.fs) rfl rfl ?_
  refine am_e2 (v := 39) hi_220_0 rfl ?_
  refine am_e32n (as := [.ref 39]) (la := [some (.ref 39)]) (rest := []) hi_220_1 (am_hd0 (M := 220) (by decide) 1) (Nat.le_of_ble_eq_true rfl) (Nat.le_of_ble_eq_true rfl) (show 1 ≤ am_P0.2.2.1 183 from by decide +kernel) rfl (am_recv_ok hS25.fs) rfl rfl (ct_next (d := (d + 4)) hS25   (by show (0 : Int) ≤ (f 4).toInt; omega) (by show (f 0).toInt ≤ (16384 : Int); omega)) ?_
  rintro v30 S31 (⟨r32, hv33, hS34, h35⟩)
  subst hv33
  have h35_ : (f 4).toInt < (f 0).toInt ∨ r32.toInt = (-1 : Int) := h35
  show am_E _ _ _ _ [some (.ref 39), some (.int on)] [.int r32] _ _
  refine am_e0 hi_220_4 ?_
  by_cases c37 : r32.toInt = (69 : Int)
  · refine am_e13t hi_220_6 (am_cT (m := r32.toInt) (n := (69 : Int)) rfl (by decide) c37) ?_
    refine am_e2 (v := 39) hi_220_18 rfl ?_
    refine am_e7 hi_220_19 ?_
    refine mm_20 (v := .int (f 4)) hS34 hi_220_20 rfl ?_
    refine am_e0 hi_220_23 ?_
    obtain ⟨z38, hz38, tz38⟩ := am_addI (x := f 4) (y := 1) (m := (f 4).toInt) (n := (1 : Int)) rfl (by decide) (by omega) (by omega)
    refine am_e10 (z := z38) hi_220_24 hz38 ?_
    refine mm_21 (v := z38) hS34 hi_220_25 rfl (Nat.le_of_ble_eq_true rfl) ms_4 ?_
    intro S39 hS40
    replace hS40 : MS S0 S39 (upd (upd (upd (upd (upd f 4 z38) 15 z15) 62 o2) 68 z21) 75 m4) g'23 := hS40
    have hR41 : RJ (upd (upd (upd (upd (upd f 4 z38) 15 z15) 62 o2) 68 z21) 75 m4) g'23 gs bc [] 0 (s3.toNatClampNeg :: []) := RJ.at hR29_ (by show (f 4).toInt ≤ z38.toInt; omega)
    refine am_e2 (v := 39) hi_220_28 rfl ?_
    refine am_e0 hi_220_29 ?_
    refine am_e1 (v := on) hi_220_31 rfl ?_
    refine am_e0 hi_220_32 ?_
    refine am_e0 hi_220_33 ?_
    refine am_e32n (as := [.ref 39, .int 35, .int on, .int 0, .int 0]) (la := [some (.ref 39), some (.int 35), some (.int on), some (.int 0), some (.int 0)]) (rest := []) hi_220_34 (am_hd0 (M := 220) (by decide) 34) (Nat.le_of_ble_eq_true rfl) (Nat.le_of_ble_eq_true rfl) (show 5 ≤ am_P0.2.2.1 179 from by decide +kernel) rfl (am_recv_ok hS40.fs) rfl rfl (ct_pile (d := (d + 5)) hS40 hR41 (mj_e_plain (by decide)) (by show (0 : Int) ≤ (f 10).toInt; omega) (by show (f 10).toInt ≤ (65535 : Int); omega)) ?_
    rintro v42 S43 (⟨z44, g'45, hv46, hS47, hR50, h48, h49⟩)
    subst hv46
    have h48_ : z44.toInt = (f 10).toInt + 1 := h48
    have h49_ : ∀ j, j ∉ [11, 12, 13, 14] → g'45 j = g'23 j := h49
    replace hS47 : MS S0 S43 (upd (upd (upd (upd (upd (upd f 4 z38) 10 z44) 15 z15) 62 o2) 68 z21) 75 m4) g'45 := hS47
    have hR50_ : RJ (upd (upd (upd (upd (upd (upd f 4 z38) 10 z44) 15 z15) 62 o2) 68 z21) 75 m4) g'45 (((35 : Int), on.toInt, (0 : Int), (0 : Int), []) :: gs) bc [] 0 (s3.toNatClampNeg :: []) := hR50
    show am_E _ _ _ _ [some (.ref 39), some (.int on)] [] _ _
    refine am_e18 hi_220_37 ?_
    refine am_e35 hi_220_47 ?_
    show am_E _ _ _ _ [some (.ref 39), some (.int 38), some (.int on), some (.int tw)] [] _ _
    refine am_e18 hi_181_357 ?_
    refine am_e35 hi_181_397 ?_
    show am_E _ _ _ _ [some (.ref 39), some (.int 38), some (.int on), some (.int tw), some (.int th)] [] _ _
    refine am_e35 hi_180_13 ?_
    have q1 : mg_p1 (((35 : Int), on.toInt, (0 : Int), (0 : Int), []) :: gs) = 0 + (mg_p1 gs) := rfl
    have q2 : mg_p2 (((35 : Int), on.toInt, (0 : Int), (0 : Int), []) :: gs) = 0 + (mg_p2 gs) := rfl
    have q3 : mg_p3 (((35 : Int), on.toInt, (0 : Int), (0 : Int), []) :: gs) = 3 + (mg_p3 gs) := rfl
    have q4 : mg_p4 (((35 : Int), on.toInt, (0 : Int), (0 : Int), []) :: gs) = 0 + (mg_p4 gs) := rfl
    refine ⟨_, _, _, bc, rfl, hS47, Or.inl ⟨⟨(RJ.fewer (pj' := []) hR50_ (fun _ h => nomatch h)), ?_, ?_⟩, rfl, ?_⟩⟩
    · exact (⟨⟨(show (0 : Int) ≤ 35 from by decide), (show (0 : Int) ≤ z15.toInt from by omega), (show 0 ≤ (f 20).toInt from by omega), (show 1 ≤ (f 37).toInt from by omega), (show 0 ≤ (f 32).toInt from by omega), (show (f 32).toInt ≤ (f 5).toInt from by omega), (show (f 5).toInt ≤ 48 from by omega), (show (f 37).toInt ≤ 2 * ((f 5).toInt) + 2 from by omega), trivial⟩, mg_cast (mg_good_ext _ _ _ _ _ _ (fun i _ => by show g'45 34 i = g 34 i; rw [show g'45 34 = g'23 34 from h49_ 34 (by decide), show g'23 34 = g'5 34 from h28_ 34 (by decide), show g'5 34 = g 34 from h13_ 34 (by decide)]) (fun i _ => by show g'45 38 i = g 38 i; rw [show g'45 38 = g'23 38 from h49_ 38 (by decide), show g'23 38 = g'5 38 from h28_ 38 (by decide), show g'5 38 = g 38 from h13_ 38 (by decide)]) hrest) (by show (f 15).toInt + -1 = z15.toInt + 0; omega) (by show (f 20).toInt = (f 20).toInt; omega) (by show (f 37).toInt + 0 = (f 37).toInt + 0; omega) (by show (f 32).toInt + 0 = (f 32).toInt + 0; omega) (by show (f 5).toInt + -1 = (f 5).toInt + -1; omega)⟩ : mg_good (g'45 34) (g'45 38) (((35 : Int), on.toInt, (0 : Int), (0 : Int), []) :: gs) (z15.toInt) ((f 20).toInt) ((f 37).toInt) ((f 32).toInt) ((f 5).toInt))
    · exact ⟨(by show 0 ≤ z38.toInt; omega), (by show z38.toInt ≤ (f 0).toInt; omega), (by show (f 0).toInt ≤ 512; omega), (by show 0 ≤ (f 24).toInt; omega), (by show (f 24).toInt + (f 20).toInt + mg_p1 (((35 : Int), on.toInt, (0 : Int), (0 : Int), []) :: gs) ≤ 4 * z38.toInt; omega), (by show (f 20).toInt ≤ z38.toInt; omega), (by show z15.toInt + mg_p2 (((35 : Int), on.toInt, (0 : Int), (0 : Int), []) :: gs) ≤ z38.toInt; omega), (by show mg_p3 (((35 : Int), on.toInt, (0 : Int), (0 : Int), []) :: gs) ≤ 20 * z38.toInt + 20; omega), (by show 0 ≤ z21.toInt; omega), (by show z21.toInt + 3 * (f 20).toInt + mg_p4 (((35 : Int), on.toInt, (0 : Int), (0 : Int), []) :: gs) ≤ 60 * z38.toInt + 60; omega), (by show 0 ≤ o2.toInt; omega), (by show o2.toInt + 64 * mj_n (g'45 16) z15.toNatClampNeg 3 ≤ 64 * z38.toInt; rw [show g'45 16 = g'23 16 from h49_ 16 (by decide), show g'23 16 = g'5 16 from h28_ 16 (by decide)]; omega), (by show 0 ≤ (f 44).toInt; omega), (by show (f 44).toInt ≤ z38.toInt; omega), (by show 0 ≤ (f 48).toInt; omega), (by show (f 48).toInt ≤ z38.toInt; omega), (by show 1 ≤ (f 53).toInt; omega), (by show (f 53).toInt ≤ z38.toInt + 1; omega)⟩
    · show 100 * ((f 0).toInt - z38.toInt) + mg_p3 (((35 : Int), on.toInt, (0 : Int), (0 : Int), []) :: gs) < 100 * ((f 0).toInt - (f 4).toInt) + (1 + mg_p3 gs); omega
  · refine am_e13f hi_220_6 (am_cF (m := r32.toInt) (n := (69 : Int)) rfl (by decide) c37) ?_
    refine am_e2 (v := 39) hi_220_9 rfl ?_
    refine am_e32n (as := [.ref 39]) (la := [some (.ref 39)]) (rest := []) hi_220_10 (am_hd0 (M := 220) (by decide) 10) (Nat.le_of_ble_eq_true rfl) (Nat.le_of_ble_eq_true rfl) (show 1 ≤ am_P0.2.2.1 183 from by decide +kernel) rfl (am_recv_ok hS34.fs) rfl rfl (ct_next (d := (d + 4)) hS34   (by show (0 : Int) ≤ (f 4).toInt; omega) (by show (f 0).toInt ≤ (16384 : Int); omega)) ?_
    rintro v51 S52 (⟨r53, hv54, hS55, h56⟩)
    subst hv54
    have h56_ : (f 4).toInt < (f 0).toInt ∨ r53.toInt = (-1 : Int) := h56
    show am_E _ _ _ _ [some (.ref 39), some (.int on)] [.int r53] _ _
    refine am_e0 hi_220_13 ?_
    by_cases c58 : ¬ r53.toInt = (67 : Int)
    · refine am_e13t hi_220_15 (am_cT (m := r53.toInt) (n := (67 : Int)) rfl (by decide) c58) ?_
      refine am_e2 (v := 39) hi_220_40 rfl ?_
      refine am_e0 hi_220_41 ?_
      refine am_e32n (as := [.ref 39, .int 63]) (la := [some (.ref 39), some (.int 63)]) (rest := []) hi_220_43 (am_hd0 (M := 220) (by decide) 43) (Nat.le_of_ble_eq_true rfl) (Nat.le_of_ble_eq_true rfl) (show 2 ≤ am_P0.2.2.1 199 from by decide +kernel) rfl (am_recv_ok hS55.fs) rfl rfl (ct_leave (d := (d + 2)) hS55   (by show (0 : Int) ≤ (f 4).toInt; omega) (by show (f 0).toInt ≤ (16384 : Int); omega) (by show (0 : Int) ≤ (63 : Int); omega) (by show (0 : Int) ≤ (f 5).toInt; omega) (by show (f 5).toInt ≤ (48 : Int); omega)) ?_
      rintro v59 S60 (⟨z61, y62, hv63, hS64, h65, h66, h67⟩ | ⟨a69, b70, hv71, hS72⟩)
      · subst hv63
        have h65_ : z61.toInt = (f 4).toInt + 1 := h65
        have h66_ : (f 4).toInt < (f 0).toInt := h66
        have h67_ : y62.toInt = (f 5).toInt - 1 := h67
        replace hS64 : MS S0 S60 (upd (upd (upd (upd (upd (upd f 4 z61) 5 y62) 15 z15) 62 o2) 68 z21) 75 m4) g'23 := hS64
        have hR74 : RJ (upd (upd (upd (upd (upd (upd f 4 z61) 5 y62) 15 z15) 62 o2) 68 z21) 75 m4) g'23 gs bc [] 0 (s3.toNatClampNeg :: []) := RJ.at hR29_ (by show (f 4).toInt ≤ z61.toInt; omega)
        show am_E _ _ _ _ [some (.ref 39), some (.int on)] [.int 1] _ _
        refine am_e6i hi_220_46 ?_
        refine am_e35 hi_220_47 ?_
        show am_E _ _ _ _ [some (.ref 39), some (.int 38), some (.int on), some (.int tw)] [] _ _
        refine am_e18 hi_181_357 ?_
        refine am_e35 hi_181_397 ?_
        show am_E _ _ _ _ [some (.ref 39), some (.int 38), some (.int on), some (.int tw), some (.int th)] [] _ _
        refine am_e35 hi_180_13 ?_
        have q1 : mg_p1 gs = mg_p1 gs := rfl
        have q2 : mg_p2 gs = mg_p2 gs := rfl
        have q3 : mg_p3 gs = mg_p3 gs := rfl
        have q4 : mg_p4 gs = mg_p4 gs := rfl
        refine ⟨_, _, _, bc, rfl, hS64, Or.inl ⟨⟨(RJ.fewer (pj' := []) hR74 (fun _ h => nomatch h)), ?_, ?_⟩, rfl, ?_⟩⟩
        · exact (mg_cast (mg_good_ext _ _ _ _ _ _ (fun i _ => by show g'23 34 i = g 34 i; rw [show g'23 34 = g'5 34 from h28_ 34 (by decide), show g'5 34 = g 34 from h13_ 34 (by decide)]) (fun i _ => by show g'23 38 i = g 38 i; rw [show g'23 38 = g'5 38 from h28_ 38 (by decide), show g'5 38 = g 38 from h13_ 38 (by decide)]) hrest) (by show (f 15).toInt + -1 = z15.toInt; omega) (by show (f 20).toInt = (f 20).toInt; omega) (by show (f 37).toInt + 0 = (f 37).toInt; omega) (by show (f 32).toInt + 0 = (f 32).toInt; omega) (by show (f 5).toInt + -1 = y62.toInt; omega) : mg_good (g'23 34) (g'23 38) gs (z15.toInt) ((f 20).toInt) ((f 37).toInt) ((f 32).toInt) (y62.toInt))
        · exact ⟨(by show 0 ≤ z61.toInt; omega), (by show z61.toInt ≤ (f 0).toInt; omega), (by show (f 0).toInt ≤ 512; omega), (by show 0 ≤ (f 24).toInt; omega), (by show (f 24).toInt + (f 20).toInt + mg_p1 gs ≤ 4 * z61.toInt; omega), (by show (f 20).toInt ≤ z61.toInt; omega), (by show z15.toInt + mg_p2 gs ≤ z61.toInt; omega), (by show mg_p3 gs ≤ 20 * z61.toInt + 20; omega), (by show 0 ≤ z21.toInt; omega), (by show z21.toInt + 3 * (f 20).toInt + mg_p4 gs ≤ 60 * z61.toInt + 60; omega), (by show 0 ≤ o2.toInt; omega), (by show o2.toInt + 64 * mj_n (g'23 16) z15.toNatClampNeg 3 ≤ 64 * z61.toInt; rw [show g'23 16 = g'5 16 from h28_ 16 (by decide)]; omega), (by show 0 ≤ (f 44).toInt; omega), (by show (f 44).toInt ≤ z61.toInt; omega), (by show 0 ≤ (f 48).toInt; omega), (by show (f 48).toInt ≤ z61.toInt; omega), (by show 1 ≤ (f 53).toInt; omega), (by show (f 53).toInt ≤ z61.toInt + 1; omega)⟩
        · show 100 * ((f 0).toInt - z61.toInt) + mg_p3 gs < 100 * ((f 0).toInt - (f 4).toInt) + (1 + mg_p3 gs); omega
      · subst hv71
        replace hS72 : MS S0 S60 (upd (upd (upd (upd (upd (upd (upd f 6 a69) 7 b70) 10 0) 15 z15) 62 o2) 68 z21) 75 m4) g'23 := hS72
        show am_E _ _ _ _ [some (.ref 39), some (.int on)] [.int 0] _ _
        refine am_e6i hi_220_46 ?_
        refine am_e35 hi_220_47 ?_
        show am_E _ _ _ _ [some (.ref 39), some (.int 38), some (.int on), some (.int tw)] [] _ _
        refine am_e18 hi_181_357 ?_
        refine am_e35 hi_181_397 ?_
        show am_E _ _ _ _ [some (.ref 39), some (.int 38), some (.int on), some (.int tw), some (.int th)] [] _ _
        refine am_e35 hi_180_13 ?_
        have hRc := rj_clear0 hR29_
        refine ⟨_, _, [], _, rfl, hS72, Or.inr ⟨hRc, rfl, (by show 0 ≤ (f 4).toInt; omega), (by show (f 4).toInt ≤ (f 0).toInt; omega), (by show 0 ≤ (f 32).toInt; omega), (by show (f 32).toInt ≤ 63; omega), (by show 1 ≤ (f 53).toInt; omega), (by show (f 53).toInt ≤ 600; omega), (by show 0 ≤ z21.toInt; omega), (by show z21.toInt ≤ 60000; omega), (by show 0 ≤ (f 48).toInt; omega), (by show (f 48).toInt ≤ 8000; omega), (by show 0 ≤ (f 37).toInt; omega), (by show (f 37).toInt ≤ 128; omega), (by show 0 ≤ o2.toInt; omega), (by show o2.toInt ≤ 65000; omega)⟩⟩
    · refine am_e13f hi_220_15 (am_cF (m := r53.toInt) (n := (67 : Int)) rfl (by decide) c58) ?_
      refine am_e2 (v := 39) hi_220_18 rfl ?_
      refine am_e7 hi_220_19 ?_
      refine mm_20 (v := .int (f 4)) hS55 hi_220_20 rfl ?_
      refine am_e0 hi_220_23 ?_
      obtain ⟨z75, hz75, tz75⟩ := am_addI (x := f 4) (y := 1) (m := (f 4).toInt) (n := (1 : Int)) rfl (by decide) (by omega) (by omega)
      refine am_e10 (z := z75) hi_220_24 hz75 ?_
      refine mm_21 (v := z75) hS55 hi_220_25 rfl (Nat.le_of_ble_eq_true rfl) ms_4 ?_
      intro S76 hS77
      replace hS77 : MS S0 S76 (upd (upd (upd (upd (upd f 4 z75) 15 z15) 62 o2) 68 z21) 75 m4) g'23 := hS77
      have hR78 : RJ (upd (upd (upd (upd (upd f 4 z75) 15 z15) 62 o2) 68 z21) 75 m4) g'23 gs bc [] 0 (s3.toNatClampNeg :: []) := RJ.at hR29_ (by show (f 4).toInt ≤ z75.toInt; omega)
      refine am_e2 (v := 39) hi_220_28 rfl ?_
      refine am_e0 hi_220_29 ?_
      refine am_e1 (v := on) hi_220_31 rfl ?_
      refine am_e0 hi_220_32 ?_
      refine am_e0 hi_220_33 ?_
      refine am_e32n (as := [.ref 39, .int 35, .int on, .int 0, .int 0]) (la := [some (.ref 39), some (.int 35), some (.int on), some (.int 0), some (.int 0)]) (rest := []) hi_220_34 (am_hd0 (M := 220) (by decide) 34) (Nat.le_of_ble_eq_true rfl) (Nat.le_of_ble_eq_true rfl) (show 5 ≤ am_P0.2.2.1 179 from by decide +kernel) rfl (am_recv_ok hS77.fs) rfl rfl (ct_pile (d := (d + 5)) hS77 hR78 (mj_e_plain (by decide)) (by show (0 : Int) ≤ (f 10).toInt; omega) (by show (f 10).toInt ≤ (65535 : Int); omega)) ?_
      rintro v79 S80 (⟨z81, g'82, hv83, hS84, hR87, h85, h86⟩)
      subst hv83
      have h85_ : z81.toInt = (f 10).toInt + 1 := h85
      have h86_ : ∀ j, j ∉ [11, 12, 13, 14] → g'82 j = g'23 j := h86
      replace hS84 : MS S0 S80 (upd (upd (upd (upd (upd (upd f 4 z75) 10 z81) 15 z15) 62 o2) 68 z21) 75 m4) g'82 := hS84
      have hR87_ : RJ (upd (upd (upd (upd (upd (upd f 4 z75) 10 z81) 15 z15) 62 o2) 68 z21) 75 m4) g'82 (((35 : Int), on.toInt, (0 : Int), (0 : Int), []) :: gs) bc [] 0 (s3.toNatClampNeg :: []) := hR87
      show am_E _ _ _ _ [some (.ref 39), some (.int on)] [] _ _
      refine am_e18 hi_220_37 ?_
      refine am_e35 hi_220_47 ?_
      show am_E _ _ _ _ [some (.ref 39), some (.int 38), some (.int on), some (.int tw)] [] _ _
      refine am_e18 hi_181_357 ?_
      refine am_e35 hi_181_397 ?_
      show am_E _ _ _ _ [some (.ref 39), some (.int 38), some (.int on), some (.int tw), some (.int th)] [] _ _
      refine am_e35 hi_180_13 ?_
      have q1 : mg_p1 (((35 : Int), on.toInt, (0 : Int), (0 : Int), []) :: gs) = 0 + (mg_p1 gs) := rfl
      have q2 : mg_p2 (((35 : Int), on.toInt, (0 : Int), (0 : Int), []) :: gs) = 0 + (mg_p2 gs) := rfl
      have q3 : mg_p3 (((35 : Int), on.toInt, (0 : Int), (0 : Int), []) :: gs) = 3 + (mg_p3 gs) := rfl
      have q4 : mg_p4 (((35 : Int), on.toInt, (0 : Int), (0 : Int), []) :: gs) = 0 + (mg_p4 gs) := rfl
      refine ⟨_, _, _, bc, rfl, hS84, Or.inl ⟨⟨(RJ.fewer (pj' := []) hR87_ (fun _ h => nomatch h)), ?_, ?_⟩, rfl, ?_⟩⟩
      · exact (⟨⟨(show (0 : Int) ≤ 35 from by decide), (show (0 : Int) ≤ z15.toInt from by omega), (show 0 ≤ (f 20).toInt from by omega), (show 1 ≤ (f 37).toInt from by omega), (show 0 ≤ (f 32).toInt from by omega), (show (f 32).toInt ≤ (f 5).toInt from by omega), (show (f 5).toInt ≤ 48 from by omega), (show (f 37).toInt ≤ 2 * ((f 5).toInt) + 2 from by omega), trivial⟩, mg_cast (mg_good_ext _ _ _ _ _ _ (fun i _ => by show g'82 34 i = g 34 i; rw [show g'82 34 = g'23 34 from h86_ 34 (by decide), show g'23 34 = g'5 34 from h28_ 34 (by decide), show g'5 34 = g 34 from h13_ 34 (by decide)]) (fun i _ => by show g'82 38 i = g 38 i; rw [show g'82 38 = g'23 38 from h86_ 38 (by decide), show g'23 38 = g'5 38 from h28_ 38 (by decide), show g'5 38 = g 38 from h13_ 38 (by decide)]) hrest) (by show (f 15).toInt + -1 = z15.toInt + 0; omega) (by show (f 20).toInt = (f 20).toInt; omega) (by show (f 37).toInt + 0 = (f 37).toInt + 0; omega) (by show (f 32).toInt + 0 = (f 32).toInt + 0; omega) (by show (f 5).toInt + -1 = (f 5).toInt + -1; omega)⟩ : mg_good (g'82 34) (g'82 38) (((35 : Int), on.toInt, (0 : Int), (0 : Int), []) :: gs) (z15.toInt) ((f 20).toInt) ((f 37).toInt) ((f 32).toInt) ((f 5).toInt))
      · exact ⟨(by show 0 ≤ z75.toInt; omega), (by show z75.toInt ≤ (f 0).toInt; omega), (by show (f 0).toInt ≤ 512; omega), (by show 0 ≤ (f 24).toInt; omega), (by show (f 24).toInt + (f 20).toInt + mg_p1 (((35 : Int), on.toInt, (0 : Int), (0 : Int), []) :: gs) ≤ 4 * z75.toInt; omega), (by show (f 20).toInt ≤ z75.toInt; omega), (by show z15.toInt + mg_p2 (((35 : Int), on.toInt, (0 : Int), (0 : Int), []) :: gs) ≤ z75.toInt; omega), (by show mg_p3 (((35 : Int), on.toInt, (0 : Int), (0 : Int), []) :: gs) ≤ 20 * z75.toInt + 20; omega), (by show 0 ≤ z21.toInt; omega), (by show z21.toInt + 3 * (f 20).toInt + mg_p4 (((35 : Int), on.toInt, (0 : Int), (0 : Int), []) :: gs) ≤ 60 * z75.toInt + 60; omega), (by show 0 ≤ o2.toInt; omega), (by show o2.toInt + 64 * mj_n (g'82 16) z15.toNatClampNeg 3 ≤ 64 * z75.toInt; rw [show g'82 16 = g'23 16 from h86_ 16 (by decide), show g'23 16 = g'5 16 from h28_ 16 (by decide)]; omega), (by show 0 ≤ (f 44).toInt; omega), (by show (f 44).toInt ≤ z75.toInt; omega), (by show 0 ≤ (f 48).toInt; omega), (by show (f 48).toInt ≤ z75.toInt; omega), (by show 1 ≤ (f 53).toInt; omega), (by show (f 53).toInt ≤ z75.toInt + 1; omega)⟩
      · show 100 * ((f 0).toInt - z75.toInt) + mg_p3 (((35 : Int), on.toInt, (0 : Int), (0 : Int), []) :: gs) < 100 * ((f 0).toInt - (f 4).toInt) + (1 + mg_p3 gs); omega
theorem st_39 {sc : Nat × (Nat → Int32)} {d : Nat} {S0 S : am_S} {f : Nat → Int32} {g : Nat → Nat → Int32} {on : Int32} {tw : Int32} {th : Int32} {gs : List mg_E} {bc : List (List Nat)} (hS : MS S0 S f g) (hR : RJ f g gs bc [] 0 []) (hrest : mg_good (g 34) (g 38) gs ((f 15).toInt + -1) ((f 20).toInt) ((f 37).toInt + 0) ((f 32).toInt + 0) ((f 5).toInt + -1)) (p0 : 0 ≤ (f 4).toInt) (p1 : (f 4).toInt ≤ (f 0).toInt) (p2 : (f 0).toInt ≤ 512) (p3 : 0 ≤ (f 24).toInt) (p4 : (f 24).toInt + (f 20).toInt + mg_p1 gs ≤ 4 * (f 4).toInt) (p5 : (f 20).toInt ≤ (f 4).toInt) (p6 : (f 15).toInt + 0 + mg_p2 gs ≤ (f 4).toInt) (p7 : 1 + mg_p3 gs ≤ 20 * (f 4).toInt + 20) (p8 : 0 ≤ (f 68).toInt) (p9 : (f 68).toInt + 3 * (f 20).toInt + 0 + mg_p4 gs ≤ 60 * (f 4).toInt + 60) (p10 : 0 ≤ (f 62).toInt) (p11 : (f 62).toInt + 64 * mj_n (g 16) (f 15).toNatClampNeg 3 ≤ 64 * (f 4).toInt) (p12 : 0 ≤ (f 44).toInt) (p13 : (f 44).toInt ≤ (f 4).toInt) (p14 : 0 ≤ (f 48).toInt) (p15 : (f 48).toInt ≤ (f 4).toInt) (p16 : 1 ≤ (f 53).toInt) (p17 : (f 53).toInt ≤ (f 4).toInt + 1) (p18 : 0 ≤ mg_p1 gs) (p19 : 0 ≤ mg_p2 gs) (p20 : 0 ≤ mg_p4 gs) (p21 : 0 ≤ (f 10).toInt) (p22 : (f 10).toInt ≤ mg_p3 gs) (p23 : 0 ≤ mj_n (g 16) (f 15).toNatClampNeg 3) (p24 : 1 ≤ (f 15).toInt) (p25 : 0 ≤ (f 20).toInt) (p26 : 1 ≤ (f 37).toInt) (p27 : 0 ≤ (f 32).toInt) (p28 : (f 32).toInt ≤ (f 5).toInt) (p29 : (f 5).toInt ≤ 48) (p30 : (f 37).toInt ≤ 2 * (f 5).toInt + 2) : am_E (am_PP sc) (d + 8) 180 0 [some (.ref 39), some (.int 39), some (.int on), some (.int tw), some (.int th)] [] S (am_N fun v S1 => ∃ (f' : Nat → Int32) (g' : Nat → Nat → Int32) (gs' : List mg_E) (bc' : List (List Nat)), v = none ∧ MS S0 S1 f' g' ∧ (mg_on f (100 * ((f 0).toInt - (f 4).toInt) + (1 + mg_p3 gs)) f' g' gs' bc' ∨ mg_off f f' g' bc')) := by
  have hbs := mg_basic hrest
  refine am_e1 (v := 39) hi_180_0 rfl ?_
  refine am_e0 hi_180_1 ?_
  refine am_e13f hi_180_3 (by decide) ?_
  refine am_e2 (v := 39) hi_180_6 rfl ?_
  refine am_e1 (v := 39) hi_180_7 rfl ?_
  refine am_e1 (v := on) hi_180_8 rfl ?_
  refine am_e1 (v := tw) hi_180_9 rfl ?_
  refine am_e32w (as := [.ref 39, .int 39, .int on, .int tw]) (la := [some (.ref 39), some (.int 39), some (.int on), some (.int tw)]) (rest := []) hi_180_10 (am_hd0 (M := 180) (by decide) 10) (Nat.le_of_ble_eq_true rfl) (Nat.le_of_ble_eq_true rfl) (show 4 ≤ am_P0.2.2.1 181 from by decide +kernel) rfl (am_recv_ok hS.fs) rfl rfl ?_
  refine am_e1 (v := 39) hi_181_0 rfl ?_
  refine am_e19 (t := 360) hi_181_1 (by decide) ?_
  refine am_e2 (v := 39) hi_181_360 rfl ?_
  refine am_e1 (v := on) hi_181_361 rfl ?_
  refine am_e1 (v := tw) hi_181_362 rfl ?_
  refine am_e32w (as := [.ref 39, .int on, .int tw]) (la := [some (.ref 39), some (.int on), some (.int tw), none]) (rest := []) hi_181_363 (am_hd0 (M := 181) (by decide) 363) (Nat.le_of_ble_eq_true rfl) (Nat.le_of_ble_eq_true rfl) (show 3 ≤ am_P0.2.2.1 221 from by decide +kernel) rfl (am_recv_ok hS.fs) rfl rfl ?_
  refine am_e2 (v := 39) hi_221_0 rfl ?_
  refine am_e32n (as := [.ref 39]) (la := [some (.ref 39)]) (rest := []) hi_221_1 (am_hd0 (M := 221) (by decide) 1) (Nat.le_of_ble_eq_true rfl) (Nat.le_of_ble_eq_true rfl) (show 1 ≤ am_P0.2.2.1 183 from by decide +kernel) rfl (am_recv_ok hS.fs) rfl rfl (ct_next (d := (d + 4)) hS   (by show (0 : Int) ≤ (f 4).toInt; omega) (by show (f 0).toInt ≤ (16384 : Int); omega)) ?_
  rintro v0 S1 (⟨r2, hv3, hS4, h5⟩)
  subst hv3
  have h5_ : (f 4).toInt < (f 0).toInt ∨ r2.toInt = (-1 : Int) := h5
  show am_E _ _ _ _ [some (.ref 39), some (.int on), some (.int tw), none] [.int r2] _ _
  refine am_e0 hi_221_4 ?_
  by_cases c7 : r2.toInt = (63 : Int)
  · refine am_e13t hi_221_6 (am_cT (m := r2.toInt) (n := (63 : Int)) rfl (by decide) c7) ?_
    refine am_e0 hi_221_42 ?_
    refine am_e18 hi_221_43 ?_
    refine am_e3 (ls' := [some (.ref 39), some (.int on), some (.int tw), some (.int 1)]) hi_221_47 (Nat.le_of_ble_eq_true rfl) rfl ?_
    refine am_e1 (v := 1) hi_221_48 rfl ?_
    refine am_e12f hi_221_49 (by decide) ?_
    refine am_e2 (v := 39) hi_221_52 rfl ?_
    refine am_e32w (as := [.ref 39]) (la := [some (.ref 39)]) (rest := []) hi_221_53 (am_hd0 (M := 221) (by decide) 53) (Nat.le_of_ble_eq_true rfl) (Nat.le_of_ble_eq_true rfl) (show 1 ≤ am_P0.2.2.1 216 from by decide +kernel) rfl (am_recv_ok hS4.fs) rfl rfl ?_
    refine am_e2 (v := 39) hi_216_0 rfl ?_
    refine mm_20 (v := .ref 46) hS4 hi_216_1 rfl ?_
    refine am_e2 (v := 39) hi_216_4 rfl ?_
    refine mm_20 (v := .int (f 15)) hS4 hi_216_5 rfl ?_
    refine am_e0 hi_216_8 ?_
    obtain ⟨z8, hz8, tz8⟩ := am_subI (x := f 15) (y := 1) (m := (f 15).toInt) (n := (1 : Int)) rfl (by decide) (by omega) (by omega)
    refine am_e10 (z := z8) hi_216_9 hz8 ?_
    refine mm_25 hS4 ma_16 hi_216_10 (by decide) (by omega) (by omega) ?_
    show am_E _ _ _ _ [some (.ref 39)] [.int (g 16 z8.toNatClampNeg)] _ _
    refine am_e0 hi_216_11 ?_
    by_cases c9 : (g 16 z8.toNatClampNeg).toInt = (1 : Int)
    · refine am_e13t hi_216_12 (am_cT (m := (g 16 z8.toNatClampNeg).toInt) (n := (1 : Int)) rfl (by decide) c9) ?_
      refine am_e0 hi_216_30 ?_
      refine am_e18 hi_216_31 ?_
      refine am_e36 hi_216_35 (by decide) ?_
      show am_E _ _ _ _ [some (.ref 39), some (.int on), some (.int tw), some (.int 1)] [.int 1] _ _
      refine am_e12f hi_221_56 (by decide) ?_
      refine am_e2 (v := 39) hi_221_59 rfl ?_
      refine am_e32w (as := [.ref 39]) (la := [some (.ref 39), none]) (rest := []) hi_221_60 (am_hd0 (M := 221) (by decide) 60) (Nat.le_of_ble_eq_true rfl) (Nat.le_of_ble_eq_true rfl) (show 1 ≤ am_P0.2.2.1 217 from by decide +kernel) rfl (am_recv_ok hS4.fs) rfl rfl ?_
      refine am_e2 (v := 39) hi_217_0 rfl ?_
      refine mm_20 (v := .ref 47) hS4 hi_217_1 rfl ?_
      refine am_e2 (v := 39) hi_217_4 rfl ?_
      refine mm_20 (v := .int (f 15)) hS4 hi_217_5 rfl ?_
      refine am_e0 hi_217_8 ?_
      refine am_e10 (z := z8) hi_217_9 hz8 ?_
      refine mm_25 hS4 ma_17 hi_217_10 (by decide) (by omega) (by omega) ?_
      show am_E _ _ _ _ [some (.ref 39), none] [.int (g 17 z8.toNatClampNeg)] _ _
      have r10 : (g 16 z8.toNatClampNeg).toInt = 1 ∨ (g 16 z8.toNatClampNeg).toInt = 2 → 0 ≤ (g 17 z8.toNatClampNeg).toInt ∧ (g 17 z8.toNatClampNeg).toInt < 65536 := RJ.vc hR z8.toNatClampNeg
      refine am_e3 (ls' := [some (.ref 39), some (.int (g 17 z8.toNatClampNeg))]) hi_217_11 (Nat.le_of_ble_eq_true rfl) rfl ?_
      refine am_e2 (v := 39) hi_217_12 rfl ?_
      refine mm_20 (v := .ref 91) hS4 hi_217_13 rfl ?_
      refine am_e1 (v := g 17 z8.toNatClampNeg) hi_217_16 rfl ?_
      refine am_e2 (v := 39) hi_217_17 rfl ?_
      refine mm_20 (v := .ref 46) hS4 hi_217_18 rfl ?_
      refine am_e2 (v := 39) hi_217_21 rfl ?_
      refine mm_20 (v := .int (f 15)) hS4 hi_217_22 rfl ?_
      refine am_e0 hi_217_25 ?_
      refine am_e10 (z := z8) hi_217_26 hz8 ?_
      refine mm_25 hS4 ma_16 hi_217_27 (by decide) (by omega) (by omega) ?_
      show am_E _ _ _ _ [some (.ref 39), some (.int (g 17 z8.toNatClampNeg))] [.int (g 16 z8.toNatClampNeg), .int (g 17 z8.toNatClampNeg), .ref 91] _ _
      refine am_e0 hi_217_28 ?_
      refine am_e13f hi_217_29 (am_cF (m := (g 16 z8.toNatClampNeg).toInt) (n := (1 : Int)) rfl (by decide) (by simp only [am_cI]; omega)) ?_
      refine am_e2 (v := 39) hi_217_32 rfl ?_
      refine mm_20 (v := .ref 91) hS4 hi_217_33 rfl ?_
      refine am_e1 (v := g 17 z8.toNatClampNeg) hi_217_36 rfl ?_
      refine mm_25 hS4 ma_72 hi_217_37 (by decide) (by omega) (by omega) ?_
      show am_E _ _ _ _ [some (.ref 39), some (.int (g 17 z8.toNatClampNeg))] [.int (g 72 (g 17 z8.toNatClampNeg).toNatClampNeg), .int (g 17 z8.toNatClampNeg), .ref 91] _ _
      refine am_e0 hi_217_38 ?_
      obtain ⟨z11, hz11⟩ : ∃ q__, am_bin 3 (g 72 (g 17 z8.toNatClampNeg).toNatClampNeg) 1 = q__ := ⟨_, rfl⟩
      refine am_e10 (z := z11) hi_217_39 hz11 ?_
      refine am_e0 hi_217_40 ?_
      obtain ⟨z12, hz12⟩ : ∃ q__, am_bin 4 z11 4 = q__ := ⟨_, rfl⟩
      refine am_e10 (z := z12) hi_217_41 hz12 ?_
      refine am_e18 hi_217_42 ?_
      refine mm_26 hS4 ma_72 hi_217_46 (by decide) (by omega) (by omega) (fun h => nomatch h) ?_
      intro S13 hS14
      refine am_e2 (v := 39) hi_217_47 rfl ?_
      refine am_e7 hi_217_48 ?_
      refine mm_20 (v := .int (f 15)) hS14 hi_217_49 rfl ?_
      refine am_e0 hi_217_52 ?_
      refine am_e10 (z := z8) hi_217_53 hz8 ?_
      refine mm_21 (v := z8) hS14 hi_217_54 rfl (Nat.le_of_ble_eq_true rfl) ms_15 ?_
      intro S15 hS16
      have hp17 : mj_n (g 16) (f 15).toNatClampNeg 3 = mj_n (g 16) z8.toNatClampNeg 3 + if (g 16 z8.toNatClampNeg).toInt = 3 then 1 else 0 := mj_pop (by rw [cl_toNat, cl_toNat]; omega)
      have hp171 : mj_n (g 16) z8.toNatClampNeg 3 ≤ mj_n (g 16) (f 15).toNatClampNeg 3 := by rw [hp17]; split <;> omega
      have hp172 : (g 16 z8.toNatClampNeg).toInt = 3 → mj_n (g 16) z8.toNatClampNeg 3 + 1 ≤ mj_n (g 16) (f 15).toNatClampNeg 3 := fun q => by rw [hp17, if_pos q]; exact Int.le_refl _
      refine am_e35 hi_217_57 ?_
      show am_E _ _ _ _ [some (.ref 39), some (.int on), some (.int tw), some (.int 1)] [] _ _
      refine am_e2 (v := 39) hi_221_63 rfl ?_
      refine am_e0 hi_221_64 ?_
      refine am_e1 (v := on) hi_221_66 rfl ?_
      refine am_e0 hi_221_67 ?_
      refine am_e1 (v := tw) hi_221_68 rfl ?_
      refine am_e32n (as := [.ref 39, .int 24, .int on, .int 0, .int tw]) (la := [some (.ref 39), some (.int 24), some (.int on), some (.int 0), some (.int tw)]) (rest := []) hi_221_69 (am_hd0 (M := 221) (by decide) 69) (Nat.le_of_ble_eq_true rfl) (Nat.le_of_ble_eq_true rfl) (show 5 ≤ am_P0.2.2.1 189 from by decide +kernel) rfl (am_recv_ok hS16.fs) rfl rfl (ct_put (d := (d + 5)) hS16 hR  (by show (0 : Int) ≤ (f 32).toInt; omega) (by show (f 32).toInt ≤ (63 : Int); omega) (by show (f 53).toInt ≤ (4096 : Int); omega) (by show (0 : Int) ≤ (f 68).toInt; omega) (by show (f 68).toInt ≤ (65534 : Int); omega)) ?_
      rintro v18 S19 (⟨z20, r21, g'22, hv23, hS24, hR28, h25, h26, h27⟩)
      subst hv23
      have h25_ : z20.toInt = (f 68).toInt + 1 := h25
      have h26_ : r21.toInt = (f 68).toInt := h26
      have h27_ : ∀ j, j ∉ [60, 69, 70, 71, 72, 73] → g'22 j = (upg g 72 (g 17 z8.toNatClampNeg).toNatClampNeg z12) j := h27
      have hR28_ : RJ (upd (upd f 15 z8) 68 z20) g'22 gs bc [] 0 ((f 68).toNatClampNeg :: []) := hR28
      show am_E _ _ _ _ [some (.ref 39), some (.int on), some (.int tw), some (.int 1)] [.int r21] _ _
      refine am_e6i hi_221_72 ?_
      refine am_e18 hi_221_73 ?_
      refine am_e2 (v := 39) hi_221_90 rfl ?_
      refine am_e1 (v := on) hi_221_91 rfl ?_
      refine am_e32w (as := [.ref 39, .int on]) (la := [some (.ref 39), some (.int on)]) (rest := []) hi_221_92 (am_hd0 (M := 221) (by decide) 92) (Nat.le_of_ble_eq_true rfl) (Nat.le_of_ble_eq_true rfl) (show 2 ≤ am_P0.2.2.1 220 from by decide +kernel) rfl (am_recv_ok hS24.fs) rfl rfl ?_
      refine am_e2 (v := 39) hi_220_0 rfl ?_
      refine am_e32n (as := [.ref 39]) (la := [some (.ref 39)]) (rest := []) hi_220_1 (am_hd0 (M := 220) (by decide) 1) (Nat.le_of_ble_eq_true rfl) (Nat.le_of_ble_eq_true rfl) (show 1 ≤ am_P0.2.2.1 183 from by decide +kernel) rfl (am_recv_ok hS24.fs) rfl rfl (ct_next (d := (d + 3)) hS24   (by show (0 : Int) ≤ (f 4).toInt; omega) (by show (f 0).toInt ≤ (16384 : Int); omega)) ?_
      rintro v29 S30 (⟨r31, hv32, hS33, h34⟩)
      subst hv32
      have h34_ : (f 4).toInt < (f 0).toInt ∨ r31.toInt = (-1 : Int) := h34
      show am_E _ _ _ _ [some (.ref 39), some (.int on)] [.int r31] _ _
      refine am_e0 hi_220_4 ?_
      by_cases c36 : r31.toInt = (69 : Int)
      · refine am_e13t hi_220_6 (am_cT (m := r31.toInt) (n := (69 : Int)) rfl (by decide) c36) ?_
        refine am_e2 (v := 39) hi_220_18 rfl ?_
        refine am_e7 hi_220_19 ?_
        refine mm_20 (v := .int (f 4)) hS33 hi_220_20 rfl ?_
        refine am_e0 hi_220_23 ?_
        obtain ⟨z37, hz37, tz37⟩ := am_addI (x := f 4) (y := 1) (m := (f 4).toInt) (n := (1 : Int)) rfl (by decide) (by omega) (by omega)
        refine am_e10 (z := z37) hi_220_24 hz37 ?_
        refine mm_21 (v := z37) hS33 hi_220_25 rfl (Nat.le_of_ble_eq_true rfl) ms_4 ?_
        intro S38 hS39
        replace hS39 : MS S0 S38 (upd (upd (upd f 4 z37) 15 z8) 68 z20) g'22 := hS39
        have hR40 : RJ (upd (upd (upd f 4 z37) 15 z8) 68 z20) g'22 gs bc [] 0 ((f 68).toNatClampNeg :: []) := RJ.at hR28_ (by show (f 4).toInt ≤ z37.toInt; omega)
        refine am_e2 (v := 39) hi_220_28 rfl ?_
        refine am_e0 hi_220_29 ?_
        refine am_e1 (v := on) hi_220_31 rfl ?_
        refine am_e0 hi_220_32 ?_
        refine am_e0 hi_220_33 ?_
        refine am_e32n (as := [.ref 39, .int 35, .int on, .int 0, .int 0]) (la := [some (.ref 39), some (.int 35), some (.int on), some (.int 0), some (.int 0)]) (rest := []) hi_220_34 (am_hd0 (M := 220) (by decide) 34) (Nat.le_of_ble_eq_true rfl) (Nat.le_of_ble_eq_true rfl) (show 5 ≤ am_P0.2.2.1 179 from by decide +kernel) rfl (am_recv_ok hS39.fs) rfl rfl (ct_pile (d := (d + 4)) hS39 hR40 (mj_e_plain (by decide)) (by show (0 : Int) ≤ (f 10).toInt; omega) (by show (f 10).toInt ≤ (65535 : Int); omega)) ?_
        rintro v41 S42 (⟨z43, g'44, hv45, hS46, hR49, h47, h48⟩)
        subst hv45
        have h47_ : z43.toInt = (f 10).toInt + 1 := h47
        have h48_ : ∀ j, j ∉ [11, 12, 13, 14] → g'44 j = g'22 j := h48
        replace hS46 : MS S0 S42 (upd (upd (upd (upd f 4 z37) 10 z43) 15 z8) 68 z20) g'44 := hS46
        have hR49_ : RJ (upd (upd (upd (upd f 4 z37) 10 z43) 15 z8) 68 z20) g'44 (((35 : Int), on.toInt, (0 : Int), (0 : Int), []) :: gs) bc [] 0 ((f 68).toNatClampNeg :: []) := hR49
        show am_E _ _ _ _ [some (.ref 39), some (.int on)] [] _ _
        refine am_e18 hi_220_37 ?_
        refine am_e35 hi_220_47 ?_
        show am_E _ _ _ _ [some (.ref 39), some (.int on), some (.int tw), some (.int 1)] [] _ _
        refine am_e35 hi_221_95 ?_
        show am_E _ _ _ _ [some (.ref 39), some (.int 39), some (.int on), some (.int tw)] [] _ _
        refine am_e18 hi_181_366 ?_
        refine am_e35 hi_181_397 ?_
        show am_E _ _ _ _ [some (.ref 39), some (.int 39), some (.int on), some (.int tw), some (.int th)] [] _ _
        refine am_e35 hi_180_13 ?_
        have q1 : mg_p1 (((35 : Int), on.toInt, (0 : Int), (0 : Int), []) :: gs) = 0 + (mg_p1 gs) := rfl
        have q2 : mg_p2 (((35 : Int), on.toInt, (0 : Int), (0 : Int), []) :: gs) = 0 + (mg_p2 gs) := rfl
        have q3 : mg_p3 (((35 : Int), on.toInt, (0 : Int), (0 : Int), []) :: gs) = 3 + (mg_p3 gs) := rfl
        have q4 : mg_p4 (((35 : Int), on.toInt, (0 : Int), (0 : Int), []) :: gs) = 0 + (mg_p4 gs) := rfl
        refine ⟨_, _, _, bc, rfl, hS46, Or.inl ⟨⟨(RJ.fewer (pj' := []) hR49_ (fun _ h => nomatch h)), ?_, ?_⟩, rfl, ?_⟩⟩
        · exact (⟨⟨(show (0 : Int) ≤ 35 from by decide), (show (0 : Int) ≤ z8.toInt from by omega), (show 0 ≤ (f 20).toInt from by omega), (show 1 ≤ (f 37).toInt from by omega), (show 0 ≤ (f 32).toInt from by omega), (show (f 32).toInt ≤ (f 5).toInt from by omega), (show (f 5).toInt ≤ 48 from by omega), (show (f 37).toInt ≤ 2 * ((f 5).toInt) + 2 from by omega), trivial⟩, mg_cast (mg_good_ext _ _ _ _ _ _ (fun i _ => by show g'44 34 i = g 34 i; rw [show g'44 34 = g'22 34 from h48_ 34 (by decide), show g'22 34 = g 34 from h27_ 34 (by decide)]) (fun i _ => by show g'44 38 i = g 38 i; rw [show g'44 38 = g'22 38 from h48_ 38 (by decide), show g'22 38 = g 38 from h27_ 38 (by decide)]) hrest) (by show (f 15).toInt + -1 = z8.toInt + 0; omega) (by show (f 20).toInt = (f 20).toInt; omega) (by show (f 37).toInt + 0 = (f 37).toInt + 0; omega) (by show (f 32).toInt + 0 = (f 32).toInt + 0; omega) (by show (f 5).toInt + -1 = (f 5).toInt + -1; omega)⟩ : mg_good (g'44 34) (g'44 38) (((35 : Int), on.toInt, (0 : Int), (0 : Int), []) :: gs) (z8.toInt) ((f 20).toInt) ((f 37).toInt) ((f 32).toInt) ((f 5).toInt))
        · exact ⟨(by show 0 ≤ z37.toInt; omega), (by show z37.toInt ≤ (f 0).toInt; omega), (by show (f 0).toInt ≤ 512; omega), (by show 0 ≤ (f 24).toInt; omega), (by show (f 24).toInt + (f 20).toInt + mg_p1 (((35 : Int), on.toInt, (0 : Int), (0 : Int), []) :: gs) ≤ 4 * z37.toInt; omega), (by show (f 20).toInt ≤ z37.toInt; omega), (by show z8.toInt + mg_p2 (((35 : Int), on.toInt, (0 : Int), (0 : Int), []) :: gs) ≤ z37.toInt; omega), (by show mg_p3 (((35 : Int), on.toInt, (0 : Int), (0 : Int), []) :: gs) ≤ 20 * z37.toInt + 20; omega), (by show 0 ≤ z20.toInt; omega), (by show z20.toInt + 3 * (f 20).toInt + mg_p4 (((35 : Int), on.toInt, (0 : Int), (0 : Int), []) :: gs) ≤ 60 * z37.toInt + 60; omega), (by show 0 ≤ (f 62).toInt; omega), (by show (f 62).toInt + 64 * mj_n (g'44 16) z8.toNatClampNeg 3 ≤ 64 * z37.toInt; rw [show g'44 16 = g'22 16 from h48_ 16 (by decide), show g'22 16 = g 16 from h27_ 16 (by decide)]; omega), (by show 0 ≤ (f 44).toInt; omega), (by show (f 44).toInt ≤ z37.toInt; omega), (by show 0 ≤ (f 48).toInt; omega), (by show (f 48).toInt ≤ z37.toInt; omega), (by show 1 ≤ (f 53).toInt; omega), (by show (f 53).toInt ≤ z37.toInt + 1; omega)⟩
        · show 100 * ((f 0).toInt - z37.toInt) + mg_p3 (((35 : Int), on.toInt, (0 : Int), (0 : Int), []) :: gs) < 100 * ((f 0).toInt - (f 4).toInt) + (1 + mg_p3 gs); omega
      · refine am_e13f hi_220_6 (am_cF (m := r31.toInt) (n := (69 : Int)) rfl (by decide) c36) ?_
        refine am_e2 (v := 39) hi_220_9 rfl ?_
        refine am_e32n (as := [.ref 39]) (la := [some (.ref 39)]) (rest := []) hi_220_10 (am_hd0 (M := 220) (by decide) 10) (Nat.le_of_ble_eq_true rfl) (Nat.le_of_ble_eq_true rfl) (show 1 ≤ am_P0.2.2.1 183 from by decide +kernel) rfl (am_recv_ok hS33.fs) rfl rfl (ct_next (d := (d + 3)) hS33   (by show (0 : Int) ≤ (f 4).toInt; omega) (by show (f 0).toInt ≤ (16384 : Int); omega)) ?_
        rintro v50 S51 (⟨r52, hv53, hS54, h55⟩)
        subst hv53
        have h55_ : (f 4).toInt < (f 0).toInt ∨ r52.toInt = (-1 : Int) := h55
        show am_E _ _ _ _ [some (.ref 39), some (.int on)] [.int r52] _ _
        refine am_e0 hi_220_13 ?_
        by_cases c57 : ¬ r52.toInt = (67 : Int)
        · refine am_e13t hi_220_15 (am_cT (m := r52.toInt) (n := (67 : Int)) rfl (by decide) c57) ?_
          refine am_e2 (v := 39) hi_220_40 rfl ?_
          refine am_e0 hi_220_41 ?_
          refine am_e32n (as := [.ref 39, .int 63]) (la := [some (.ref 39), some (.int 63)]) (rest := []) hi_220_43 (am_hd0 (M := 220) (by decide) 43) (Nat.le_of_ble_eq_true rfl) (Nat.le_of_ble_eq_true rfl) (show 2 ≤ am_P0.2.2.1 199 from by decide +kernel) rfl (am_recv_ok hS54.fs) rfl rfl (ct_leave (d := (d + 1)) hS54   (by show (0 : Int) ≤ (f 4).toInt; omega) (by show (f 0).toInt ≤ (16384 : Int); omega) (by show (0 : Int) ≤ (63 : Int); omega) (by show (0 : Int) ≤ (f 5).toInt; omega) (by show (f 5).toInt ≤ (48 : Int); omega)) ?_
          rintro v58 S59 (⟨z60, y61, hv62, hS63, h64, h65, h66⟩ | ⟨a68, b69, hv70, hS71⟩)
          · subst hv62
            have h64_ : z60.toInt = (f 4).toInt + 1 := h64
            have h65_ : (f 4).toInt < (f 0).toInt := h65
            have h66_ : y61.toInt = (f 5).toInt - 1 := h66
            replace hS63 : MS S0 S59 (upd (upd (upd (upd f 4 z60) 5 y61) 15 z8) 68 z20) g'22 := hS63
            have hR73 : RJ (upd (upd (upd (upd f 4 z60) 5 y61) 15 z8) 68 z20) g'22 gs bc [] 0 ((f 68).toNatClampNeg :: []) := RJ.at hR28_ (by show (f 4).toInt ≤ z60.toInt; omega)
            show am_E _ _ _ _ [some (.ref 39), some (.int on)] [.int 1] _ _
            refine am_e6i hi_220_46 ?_
            refine am_e35 hi_220_47 ?_
            show am_E _ _ _ _ [some (.ref 39), some (.int on), some (.int tw), some (.int 1)] [] _ _
            refine am_e35 hi_221_95 ?_
            show am_E _ _ _ _ [some (.ref 39), some (.int 39), some (.int on), some (.int tw)] [] _ _
            refine am_e18 hi_181_366 ?_
            refine am_e35 hi_181_397 ?_
            show am_E _ _ _ _ [some (.ref 39), some (.int 39), some (.int on), some (.int tw), some (.int th)] [] _ _
            refine am_e35 hi_180_13 ?_
            have q1 : mg_p1 gs = mg_p1 gs := rfl
            have q2 : mg_p2 gs = mg_p2 gs := rfl
            have q3 : mg_p3 gs = mg_p3 gs := rfl
            have q4 : mg_p4 gs = mg_p4 gs := rfl
            refine ⟨_, _, _, bc, rfl, hS63, Or.inl ⟨⟨(RJ.fewer (pj' := []) hR73 (fun _ h => nomatch h)), ?_, ?_⟩, rfl, ?_⟩⟩
            · exact (mg_cast (mg_good_ext _ _ _ _ _ _ (fun i _ => by show g'22 34 i = g 34 i; rw [show g'22 34 = g 34 from h27_ 34 (by decide)]) (fun i _ => by show g'22 38 i = g 38 i; rw [show g'22 38 = g 38 from h27_ 38 (by decide)]) hrest) (by show (f 15).toInt + -1 = z8.toInt; omega) (by show (f 20).toInt = (f 20).toInt; omega) (by show (f 37).toInt + 0 = (f 37).toInt; omega) (by show (f 32).toInt + 0 = (f 32).toInt; omega) (by show (f 5).toInt + -1 = y61.toInt; omega) : mg_good (g'22 34) (g'22 38) gs (z8.toInt) ((f 20).toInt) ((f 37).toInt) ((f 32).toInt) (y61.toInt))
            · exact ⟨(by show 0 ≤ z60.toInt; omega), (by show z60.toInt ≤ (f 0).toInt; omega), (by show (f 0).toInt ≤ 512; omega), (by show 0 ≤ (f 24).toInt; omega), (by show (f 24).toInt + (f 20).toInt + mg_p1 gs ≤ 4 * z60.toInt; omega), (by show (f 20).toInt ≤ z60.toInt; omega), (by show z8.toInt + mg_p2 gs ≤ z60.toInt; omega), (by show mg_p3 gs ≤ 20 * z60.toInt + 20; omega), (by show 0 ≤ z20.toInt; omega), (by show z20.toInt + 3 * (f 20).toInt + mg_p4 gs ≤ 60 * z60.toInt + 60; omega), (by show 0 ≤ (f 62).toInt; omega), (by show (f 62).toInt + 64 * mj_n (g'22 16) z8.toNatClampNeg 3 ≤ 64 * z60.toInt; rw [show g'22 16 = g 16 from h27_ 16 (by decide)]; omega), (by show 0 ≤ (f 44).toInt; omega), (by show (f 44).toInt ≤ z60.toInt; omega), (by show 0 ≤ (f 48).toInt; omega), (by show (f 48).toInt ≤ z60.toInt; omega), (by show 1 ≤ (f 53).toInt; omega), (by show (f 53).toInt ≤ z60.toInt + 1; omega)⟩
            · show 100 * ((f 0).toInt - z60.toInt) + mg_p3 gs < 100 * ((f 0).toInt - (f 4).toInt) + (1 + mg_p3 gs); omega
          · subst hv70
            replace hS71 : MS S0 S59 (upd (upd (upd (upd (upd f 6 a68) 7 b69) 10 0) 15 z8) 68 z20) g'22 := hS71
            show am_E _ _ _ _ [some (.ref 39), some (.int on)] [.int 0] _ _
            refine am_e6i hi_220_46 ?_
            refine am_e35 hi_220_47 ?_
            show am_E _ _ _ _ [some (.ref 39), some (.int on), some (.int tw), some (.int 1)] [] _ _
            refine am_e35 hi_221_95 ?_
            show am_E _ _ _ _ [some (.ref 39), some (.int 39), some (.int on), some (.int tw)] [] _ _
            refine am_e18 hi_181_366 ?_
            refine am_e35 hi_181_397 ?_
            show am_E _ _ _ _ [some (.ref 39), some (.int 39), some (.int on), some (.int tw), some (.int th)] [] _ _
            refine am_e35 hi_180_13 ?_
            have hRc := rj_clear0 hR28_
            refine ⟨_, _, [], _, rfl, hS71, Or.inr ⟨hRc, rfl, (by show 0 ≤ (f 4).toInt; omega), (by show (f 4).toInt ≤ (f 0).toInt; omega), (by show 0 ≤ (f 32).toInt; omega), (by show (f 32).toInt ≤ 63; omega), (by show 1 ≤ (f 53).toInt; omega), (by show (f 53).toInt ≤ 600; omega), (by show 0 ≤ z20.toInt; omega), (by show z20.toInt ≤ 60000; omega), (by show 0 ≤ (f 48).toInt; omega), (by show (f 48).toInt ≤ 8000; omega), (by show 0 ≤ (f 37).toInt; omega), (by show (f 37).toInt ≤ 128; omega), (by show 0 ≤ (f 62).toInt; omega), (by show (f 62).toInt ≤ 65000; omega)⟩⟩
        · refine am_e13f hi_220_15 (am_cF (m := r52.toInt) (n := (67 : Int)) rfl (by decide) c57) ?_
          refine am_e2 (v := 39) hi_220_18 rfl ?_
          refine am_e7 hi_220_19 ?_
          refine mm_20 (v := .int (f 4)) hS54 hi_220_20 rfl ?_
          refine am_e0 hi_220_23 ?_
          obtain ⟨z74, hz74, tz74⟩ := am_addI (x := f 4) (y := 1) (m := (f 4).toInt) (n := (1 : Int)) rfl (by decide) (by omega) (by omega)
          refine am_e10 (z := z74) hi_220_24 hz74 ?_
          refine mm_21 (v := z74) hS54 hi_220_25 rfl (Nat.le_of_ble_eq_true rfl) ms_4 ?_
          intro S75 hS76
          replace hS76 : MS S0 S75 (upd (upd (upd f 4 z74) 15 z8) 68 z20) g'22 := hS76
          have hR77 : RJ (upd (upd (upd f 4 z74) 15 z8) 68 z20) g'22 gs bc [] 0 ((f 68).toNatClampNeg :: []) := RJ.at hR28_ (by show (f 4).toInt ≤ z74.toInt; omega)
          refine am_e2 (v := 39) hi_220_28 rfl ?_
          refine am_e0 hi_220_29 ?_
          refine am_e1 (v := on) hi_220_31 rfl ?_
          refine am_e0 hi_220_32 ?_
          refine am_e0 hi_220_33 ?_
          refine am_e32n (as := [.ref 39, .int 35, .int on, .int 0, .int 0]) (la := [some (.ref 39), some (.int 35), some (.int on), some (.int 0), some (.int 0)]) (rest := []) hi_220_34 (am_hd0 (M := 220) (by decide) 34) (Nat.le_of_ble_eq_true rfl) (Nat.le_of_ble_eq_true rfl) (show 5 ≤ am_P0.2.2.1 179 from by decide +kernel) rfl (am_recv_ok hS76.fs) rfl rfl (ct_pile (d := (d + 4)) hS76 hR77 (mj_e_plain (by decide)) (by show (0 : Int) ≤ (f 10).toInt; omega) (by show (f 10).toInt ≤ (65535 : Int); omega)) ?_
          rintro v78 S79 (⟨z80, g'81, hv82, hS83, hR86, h84, h85⟩)
          subst hv82
          have h84_ : z80.toInt = (f 10).toInt + 1 := h84
          have h85_ : ∀ j, j ∉ [11, 12, 13, 14] → g'81 j = g'22 j := h85
          replace hS83 : MS S0 S79 (upd (upd (upd (upd f 4 z74) 10 z80) 15 z8) 68 z20) g'81 := hS83
          have hR86_ : RJ (upd (upd (upd (upd f 4 z74) 10 z80) 15 z8) 68 z20) g'81 (((35 : Int), on.toInt, (0 : Int), (0 : Int), []) :: gs) bc [] 0 ((f 68).toNatClampNeg :: []) := hR86
          show am_E _ _ _ _ [some (.ref 39), some (.int on)] [] _ _
          refine am_e18 hi_220_37 ?_
          refine am_e35 hi_220_47 ?_
          show am_E _ _ _ _ [some (.ref 39), some (.int on), some (.int tw), some (.int 1)] [] _ _
          refine am_e35 hi_221_95 ?_
          show am_E _ _ _ _ [some (.ref 39), some (.int 39), some (.int on), some (.int tw)] [] _ _
          refine am_e18 hi_181_366 ?_
          refine am_e35 hi_181_397 ?_
          show am_E _ _ _ _ [some (.ref 39), some (.int 39), some (.int on), some (.int tw), some (.int th)] [] _ _
          refine am_e35 hi_180_13 ?_
          have q1 : mg_p1 (((35 : Int), on.toInt, (0 : Int), (0 : Int), []) :: gs) = 0 + (mg_p1 gs) := rfl
          have q2 : mg_p2 (((35 : Int), on.toInt, (0 : Int), (0 : Int), []) :: gs) = 0 + (mg_p2 gs) := rfl
          have q3 : mg_p3 (((35 : Int), on.toInt, (0 : Int), (0 : Int), []) :: gs) = 3 + (mg_p3 gs) := rfl
          have q4 : mg_p4 (((35 : Int), on.toInt, (0 : Int), (0 : Int), []) :: gs) = 0 + (mg_p4 gs) := rfl
          refine ⟨_, _, _, bc, rfl, hS83, Or.inl ⟨⟨(RJ.fewer (pj' := []) hR86_ (fun _ h => nomatch h)), ?_, ?_⟩, rfl, ?_⟩⟩
          · exact (⟨⟨(show (0 : Int) ≤ 35 from by decide), (show (0 : Int) ≤ z8.toInt from by omega), (show 0 ≤ (f 20).toInt from by omega), (show 1 ≤ (f 37).toInt from by omega), (show 0 ≤ (f 32).toInt from by omega), (show (f 32).toInt ≤ (f 5).toInt from by omega), (show (f 5).toInt ≤ 48 from by omega), (show (f 37).toInt ≤ 2 * ((f 5).toInt) + 2 from by omega), trivial⟩, mg_cast (mg_good_ext _ _ _ _ _ _ (fun i _ => by show g'81 34 i = g 34 i; rw [show g'81 34 = g'22 34 from h85_ 34 (by decide), show g'22 34 = g 34 from h27_ 34 (by decide)]) (fun i _ => by show g'81 38 i = g 38 i; rw [show g'81 38 = g'22 38 from h85_ 38 (by decide), show g'22 38 = g 38 from h27_ 38 (by decide)]) hrest) (by show (f 15).toInt + -1 = z8.toInt + 0; omega) (by show (f 20).toInt = (f 20).toInt; omega) (by show (f 37).toInt + 0 = (f 37).toInt + 0; omega) (by show (f 32).toInt + 0 = (f 32).toInt + 0; omega) (by show (f 5).toInt + -1 = (f 5).toInt + -1; omega)⟩ : mg_good (g'81 34) (g'81 38) (((35 : Int), on.toInt, (0 : Int), (0 : Int), []) :: gs) (z8.toInt) ((f 20).toInt) ((f 37).toInt) ((f 32).toInt) ((f 5).toInt))
          · exact ⟨(by show 0 ≤ z74.toInt; omega), (by show z74.toInt ≤ (f 0).toInt; omega), (by show (f 0).toInt ≤ 512; omega), (by show 0 ≤ (f 24).toInt; omega), (by show (f 24).toInt + (f 20).toInt + mg_p1 (((35 : Int), on.toInt, (0 : Int), (0 : Int), []) :: gs) ≤ 4 * z74.toInt; omega), (by show (f 20).toInt ≤ z74.toInt; omega), (by show z8.toInt + mg_p2 (((35 : Int), on.toInt, (0 : Int), (0 : Int), []) :: gs) ≤ z74.toInt; omega), (by show mg_p3 (((35 : Int), on.toInt, (0 : Int), (0 : Int), []) :: gs) ≤ 20 * z74.toInt + 20; omega), (by show 0 ≤ z20.toInt; omega), (by show z20.toInt + 3 * (f 20).toInt + mg_p4 (((35 : Int), on.toInt, (0 : Int), (0 : Int), []) :: gs) ≤ 60 * z74.toInt + 60; omega), (by show 0 ≤ (f 62).toInt; omega), (by show (f 62).toInt + 64 * mj_n (g'81 16) z8.toNatClampNeg 3 ≤ 64 * z74.toInt; rw [show g'81 16 = g'22 16 from h85_ 16 (by decide), show g'22 16 = g 16 from h27_ 16 (by decide)]; omega), (by show 0 ≤ (f 44).toInt; omega), (by show (f 44).toInt ≤ z74.toInt; omega), (by show 0 ≤ (f 48).toInt; omega), (by show (f 48).toInt ≤ z74.toInt; omega), (by show 1 ≤ (f 53).toInt; omega), (by show (f 53).toInt ≤ z74.toInt + 1; omega)⟩
          · show 100 * ((f 0).toInt - z74.toInt) + mg_p3 (((35 : Int), on.toInt, (0 : Int), (0 : Int), []) :: gs) < 100 * ((f 0).toInt - (f 4).toInt) + (1 + mg_p3 gs); omega
    · refine am_e13f hi_216_12 (am_cF (m := (g 16 z8.toNatClampNeg).toInt) (n := (1 : Int)) rfl (by decide) c9) ?_
      refine am_e2 (v := 39) hi_216_15 rfl ?_
      refine mm_20 (v := .ref 46) hS4 hi_216_16 rfl ?_
      refine am_e2 (v := 39) hi_216_19 rfl ?_
      refine mm_20 (v := .int (f 15)) hS4 hi_216_20 rfl ?_
      refine am_e0 hi_216_23 ?_
      refine am_e10 (z := z8) hi_216_24 hz8 ?_
      refine mm_25 hS4 ma_16 hi_216_25 (by decide) (by omega) (by omega) ?_
      show am_E _ _ _ _ [some (.ref 39)] [.int (g 16 z8.toNatClampNeg)] _ _
      refine am_e0 hi_216_26 ?_
      by_cases c87 : ¬ (g 16 z8.toNatClampNeg).toInt = (2 : Int)
      · refine am_e13t hi_216_27 (am_cT (m := (g 16 z8.toNatClampNeg).toInt) (n := (2 : Int)) rfl (by decide) c87) ?_
        refine am_e0 hi_216_34 ?_
        refine am_e36 hi_216_35 (by decide) ?_
        show am_E _ _ _ _ [some (.ref 39), some (.int on), some (.int tw), some (.int 1)] [.int 0] _ _
        refine am_e12t hi_221_56 (by decide) ?_
        refine am_e2 (v := 39) hi_221_76 rfl ?_
        refine am_e32w (as := [.ref 39]) (la := [some (.ref 39)]) (rest := []) hi_221_77 (am_hd0 (M := 221) (by decide) 77) (Nat.le_of_ble_eq_true rfl) (Nat.le_of_ble_eq_true rfl) (show 1 ≤ am_P0.2.2.1 209 from by decide +kernel) rfl (am_recv_ok hS4.fs) rfl rfl ?_
        refine am_e2 (v := 39) hi_209_0 rfl ?_
        refine am_e32n (as := [.ref 39]) (la := [some (.ref 39), none, none, none]) (rest := []) hi_209_1 (am_hd0 (M := 209) (by decide) 1) (Nat.le_of_ble_eq_true rfl) (Nat.le_of_ble_eq_true rfl) (show 1 ≤ am_P0.2.2.1 204 from by decide +kernel) rfl (am_recv_ok hS4.fs) rfl rfl (ct_load (d := (d + 2)) hS4 hR  (by show (0 : Int) ≤ (f 32).toInt; omega) (by show (f 32).toInt ≤ (63 : Int); omega) (by show (f 53).toInt ≤ (4096 : Int); omega) (by show (0 : Int) ≤ (f 68).toInt; omega) (by show (f 68).toInt ≤ (65534 : Int); omega) (by show (1 : Int) ≤ (f 15).toInt; omega) (by show (f 15).toInt ≤ (32767 : Int); omega) (by show (0 : Int) ≤ (f 24).toInt; omega) (by show (f 24).toInt ≤ (16384 : Int); omega) (by show (0 : Int) ≤ (f 62).toInt; omega) (by show (f 62).toInt ≤ (65000 : Int); omega)) ?_
        rintro v88 S89 (⟨o90, s91, m92, g'93, hv94, hS95, hR102, h96, h97, h98, h99, h100, h101⟩)
        subst hv94
        have h96_ : (f 62).toInt ≤ o90.toInt := h96
        have h97_ : o90.toInt ≤ (f 62).toInt + 64 := h97
        have h98_ : (f 68).toInt ≤ s91.toInt := h98
        have h99_ : s91.toInt ≤ (f 68).toInt + 1 := h99
        have h100_ : o90.toInt + 64 * mj_n (g'93 16) (f 15).toNatClampNeg 3 ≤ (f 62).toInt + 64 * mj_n (g 16) (f 15).toNatClampNeg 3 := h100
        have h101_ : ∀ j, j ∉ [16, 60, 63, 64, 65, 66, 67, 69, 70, 71, 72, 73] → g'93 j = g j := h101
        have hR102_ : RJ (upd (upd (upd f 62 o90) 68 s91) 75 m92) g'93 gs bc [] 0 [] := hR102
        show am_E _ _ _ _ [some (.ref 39)] [] _ _
        refine am_e2 (v := 39) hi_209_4 rfl ?_
        refine am_e7 hi_209_5 ?_
        refine mm_20 (v := .int (f 15)) hS95 hi_209_6 rfl ?_
        refine am_e0 hi_209_9 ?_
        refine am_e10 (z := z8) hi_209_10 hz8 ?_
        refine mm_21 (v := z8) hS95 hi_209_11 rfl (Nat.le_of_ble_eq_true rfl) ms_15 ?_
        intro S103 hS104
        replace hS104 : MS S0 S103 (upd (upd (upd (upd f 15 z8) 62 o90) 68 s91) 75 m92) g'93 := hS104
        have hp105 : mj_n (g'93 16) (f 15).toNatClampNeg 3 = mj_n (g'93 16) z8.toNatClampNeg 3 + if (g'93 16 z8.toNatClampNeg).toInt = 3 then 1 else 0 := mj_pop (by rw [cl_toNat, cl_toNat]; omega)
        have hp1051 : mj_n (g'93 16) z8.toNatClampNeg 3 ≤ mj_n (g'93 16) (f 15).toNatClampNeg 3 := by rw [hp105]; split <;> omega
        have hp1052 : (g'93 16 z8.toNatClampNeg).toInt = 3 → mj_n (g'93 16) z8.toNatClampNeg 3 + 1 ≤ mj_n (g'93 16) (f 15).toNatClampNeg 3 := fun q => by rw [hp105, if_pos q]; exact Int.le_refl _
        refine am_e35 hi_209_14 ?_
        show am_E _ _ _ _ [some (.ref 39), some (.int on), some (.int tw), some (.int 1)] [] _ _
        refine am_e2 (v := 39) hi_221_80 rfl ?_
        refine am_e0 hi_221_81 ?_
        refine am_e1 (v := on) hi_221_83 rfl ?_
        refine am_e0 hi_221_84 ?_
        refine am_e1 (v := tw) hi_221_85 rfl ?_
        refine am_e32n (as := [.ref 39, .int 23, .int on, .int 0, .int tw]) (la := [some (.ref 39), some (.int 23), some (.int on), some (.int 0), some (.int tw)]) (rest := []) hi_221_86 (am_hd0 (M := 221) (by decide) 86) (Nat.le_of_ble_eq_true rfl) (Nat.le_of_ble_eq_true rfl) (show 5 ≤ am_P0.2.2.1 189 from by decide +kernel) rfl (am_recv_ok hS104.fs) rfl rfl (ct_put (d := (d + 5)) hS104 hR102_  (by show (0 : Int) ≤ (f 32).toInt; omega) (by show (f 32).toInt ≤ (63 : Int); omega) (by show (f 53).toInt ≤ (4096 : Int); omega) (by show (0 : Int) ≤ s91.toInt; omega) (by show s91.toInt ≤ (65534 : Int); omega)) ?_
        rintro v106 S107 (⟨z108, r109, g'110, hv111, hS112, hR116, h113, h114, h115⟩)
        subst hv111
        have h113_ : z108.toInt = s91.toInt + 1 := h113
        have h114_ : r109.toInt = s91.toInt := h114
        have h115_ : ∀ j, j ∉ [60, 69, 70, 71, 72, 73] → g'110 j = g'93 j := h115
        replace hS112 : MS S0 S107 (upd (upd (upd (upd f 15 z8) 62 o90) 68 z108) 75 m92) g'110 := hS112
        have hR116_ : RJ (upd (upd (upd (upd f 15 z8) 62 o90) 68 z108) 75 m92) g'110 gs bc [] 0 (s91.toNatClampNeg :: []) := hR116
        show am_E _ _ _ _ [some (.ref 39), some (.int on), some (.int tw), some (.int 1)] [.int r109] _ _
        refine am_e6i hi_221_89 ?_
        refine am_e2 (v := 39) hi_221_90 rfl ?_
        refine am_e1 (v := on) hi_221_91 rfl ?_
        refine am_e32w (as := [.ref 39, .int on]) (la := [some (.ref 39), some (.int on)]) (rest := []) hi_221_92 (am_hd0 (M := 221) (by decide) 92) (Nat.le_of_ble_eq_true rfl) (Nat.le_of_ble_eq_true rfl) (show 2 ≤ am_P0.2.2.1 220 from by decide +kernel) rfl (am_recv_ok hS112.fs) rfl rfl ?_
        refine am_e2 (v := 39) hi_220_0 rfl ?_
        refine am_e32n (as := [.ref 39]) (la := [some (.ref 39)]) (rest := []) hi_220_1 (am_hd0 (M := 220) (by decide) 1) (Nat.le_of_ble_eq_true rfl) (Nat.le_of_ble_eq_true rfl) (show 1 ≤ am_P0.2.2.1 183 from by decide +kernel) rfl (am_recv_ok hS112.fs) rfl rfl (ct_next (d := (d + 3)) hS112   (by show (0 : Int) ≤ (f 4).toInt; omega) (by show (f 0).toInt ≤ (16384 : Int); omega)) ?_
        rintro v117 S118 (⟨r119, hv120, hS121, h122⟩)
        subst hv120
        have h122_ : (f 4).toInt < (f 0).toInt ∨ r119.toInt = (-1 : Int) := h122
        show am_E _ _ _ _ [some (.ref 39), some (.int on)] [.int r119] _ _
        refine am_e0 hi_220_4 ?_
        by_cases c124 : r119.toInt = (69 : Int)
        · refine am_e13t hi_220_6 (am_cT (m := r119.toInt) (n := (69 : Int)) rfl (by decide) c124) ?_
          refine am_e2 (v := 39) hi_220_18 rfl ?_
          refine am_e7 hi_220_19 ?_
          refine mm_20 (v := .int (f 4)) hS121 hi_220_20 rfl ?_
          refine am_e0 hi_220_23 ?_
          obtain ⟨z125, hz125, tz125⟩ := am_addI (x := f 4) (y := 1) (m := (f 4).toInt) (n := (1 : Int)) rfl (by decide) (by omega) (by omega)
          refine am_e10 (z := z125) hi_220_24 hz125 ?_
          refine mm_21 (v := z125) hS121 hi_220_25 rfl (Nat.le_of_ble_eq_true rfl) ms_4 ?_
          intro S126 hS127
          replace hS127 : MS S0 S126 (upd (upd (upd (upd (upd f 4 z125) 15 z8) 62 o90) 68 z108) 75 m92) g'110 := hS127
          have hR128 : RJ (upd (upd (upd (upd (upd f 4 z125) 15 z8) 62 o90) 68 z108) 75 m92) g'110 gs bc [] 0 (s91.toNatClampNeg :: []) := RJ.at hR116_ (by show (f 4).toInt ≤ z125.toInt; omega)
          refine am_e2 (v := 39) hi_220_28 rfl ?_
          refine am_e0 hi_220_29 ?_
          refine am_e1 (v := on) hi_220_31 rfl ?_
          refine am_e0 hi_220_32 ?_
          refine am_e0 hi_220_33 ?_
          refine am_e32n (as := [.ref 39, .int 35, .int on, .int 0, .int 0]) (la := [some (.ref 39), some (.int 35), some (.int on), some (.int 0), some (.int 0)]) (rest := []) hi_220_34 (am_hd0 (M := 220) (by decide) 34) (Nat.le_of_ble_eq_true rfl) (Nat.le_of_ble_eq_true rfl) (show 5 ≤ am_P0.2.2.1 179 from by decide +kernel) rfl (am_recv_ok hS127.fs) rfl rfl (ct_pile (d := (d + 4)) hS127 hR128 (mj_e_plain (by decide)) (by show (0 : Int) ≤ (f 10).toInt; omega) (by show (f 10).toInt ≤ (65535 : Int); omega)) ?_
          rintro v129 S130 (⟨z131, g'132, hv133, hS134, hR137, h135, h136⟩)
          subst hv133
          have h135_ : z131.toInt = (f 10).toInt + 1 := h135
          have h136_ : ∀ j, j ∉ [11, 12, 13, 14] → g'132 j = g'110 j := h136
          replace hS134 : MS S0 S130 (upd (upd (upd (upd (upd (upd f 4 z125) 10 z131) 15 z8) 62 o90) 68 z108) 75 m92) g'132 := hS134
          have hR137_ : RJ (upd (upd (upd (upd (upd (upd f 4 z125) 10 z131) 15 z8) 62 o90) 68 z108) 75 m92) g'132 (((35 : Int), on.toInt, (0 : Int), (0 : Int), []) :: gs) bc [] 0 (s91.toNatClampNeg :: []) := hR137
          show am_E _ _ _ _ [some (.ref 39), some (.int on)] [] _ _
          refine am_e18 hi_220_37 ?_
          refine am_e35 hi_220_47 ?_
          show am_E _ _ _ _ [some (.ref 39), some (.int on), some (.int tw), some (.int 1)] [] _ _
          refine am_e35 hi_221_95 ?_
          show am_E _ _ _ _ [some (.ref 39), some (.int 39), some (.int on), some (.int tw)] [] _ _
          refine am_e18 hi_181_366 ?_
          refine am_e35 hi_181_397 ?_
          show am_E _ _ _ _ [some (.ref 39), some (.int 39), some (.int on), some (.int tw), some (.int th)] [] _ _
          refine am_e35 hi_180_13 ?_
          have q1 : mg_p1 (((35 : Int), on.toInt, (0 : Int), (0 : Int), []) :: gs) = 0 + (mg_p1 gs) := rfl
          have q2 : mg_p2 (((35 : Int), on.toInt, (0 : Int), (0 : Int), []) :: gs) = 0 + (mg_p2 gs) := rfl
          have q3 : mg_p3 (((35 : Int), on.toInt, (0 : Int), (0 : Int), []) :: gs) = 3 + (mg_p3 gs) := rfl
          have q4 : mg_p4 (((35 : Int), on.toInt, (0 : Int), (0 : Int), []) :: gs) = 0 + (mg_p4 gs) := rfl
          refine ⟨_, _, _, bc, rfl, hS134, Or.inl ⟨⟨(RJ.fewer (pj' := []) hR137_ (fun _ h => nomatch h)), ?_, ?_⟩, rfl, ?_⟩⟩
          · exact (⟨⟨(show (0 : Int) ≤ 35 from by decide), (show (0 : Int) ≤ z8.toInt from by omega), (show 0 ≤ (f 20).toInt from by omega), (show 1 ≤ (f 37).toInt from by omega), (show 0 ≤ (f 32).toInt from by omega), (show (f 32).toInt ≤ (f 5).toInt from by omega), (show (f 5).toInt ≤ 48 from by omega), (show (f 37).toInt ≤ 2 * ((f 5).toInt) + 2 from by omega), trivial⟩, mg_cast (mg_good_ext _ _ _ _ _ _ (fun i _ => by show g'132 34 i = g 34 i; rw [show g'132 34 = g'110 34 from h136_ 34 (by decide), show g'110 34 = g'93 34 from h115_ 34 (by decide), show g'93 34 = g 34 from h101_ 34 (by decide)]) (fun i _ => by show g'132 38 i = g 38 i; rw [show g'132 38 = g'110 38 from h136_ 38 (by decide), show g'110 38 = g'93 38 from h115_ 38 (by decide), show g'93 38 = g 38 from h101_ 38 (by decide)]) hrest) (by show (f 15).toInt + -1 = z8.toInt + 0; omega) (by show (f 20).toInt = (f 20).toInt; omega) (by show (f 37).toInt + 0 = (f 37).toInt + 0; omega) (by show (f 32).toInt + 0 = (f 32).toInt + 0; omega) (by show (f 5).toInt + -1 = (f 5).toInt + -1; omega)⟩ : mg_good (g'132 34) (g'132 38) (((35 : Int), on.toInt, (0 : Int), (0 : Int), []) :: gs) (z8.toInt) ((f 20).toInt) ((f 37).toInt) ((f 32).toInt) ((f 5).toInt))
          · exact ⟨(by show 0 ≤ z125.toInt; omega), (by show z125.toInt ≤ (f 0).toInt; omega), (by show (f 0).toInt ≤ 512; omega), (by show 0 ≤ (f 24).toInt; omega), (by show (f 24).toInt + (f 20).toInt + mg_p1 (((35 : Int), on.toInt, (0 : Int), (0 : Int), []) :: gs) ≤ 4 * z125.toInt; omega), (by show (f 20).toInt ≤ z125.toInt; omega), (by show z8.toInt + mg_p2 (((35 : Int), on.toInt, (0 : Int), (0 : Int), []) :: gs) ≤ z125.toInt; omega), (by show mg_p3 (((35 : Int), on.toInt, (0 : Int), (0 : Int), []) :: gs) ≤ 20 * z125.toInt + 20; omega), (by show 0 ≤ z108.toInt; omega), (by show z108.toInt + 3 * (f 20).toInt + mg_p4 (((35 : Int), on.toInt, (0 : Int), (0 : Int), []) :: gs) ≤ 60 * z125.toInt + 60; omega), (by show 0 ≤ o90.toInt; omega), (by show o90.toInt + 64 * mj_n (g'132 16) z8.toNatClampNeg 3 ≤ 64 * z125.toInt; rw [show g'132 16 = g'110 16 from h136_ 16 (by decide), show g'110 16 = g'93 16 from h115_ 16 (by decide)]; omega), (by show 0 ≤ (f 44).toInt; omega), (by show (f 44).toInt ≤ z125.toInt; omega), (by show 0 ≤ (f 48).toInt; omega), (by show (f 48).toInt ≤ z125.toInt; omega), (by show 1 ≤ (f 53).toInt; omega), (by show (f 53).toInt ≤ z125.toInt + 1; omega)⟩
          · show 100 * ((f 0).toInt - z125.toInt) + mg_p3 (((35 : Int), on.toInt, (0 : Int), (0 : Int), []) :: gs) < 100 * ((f 0).toInt - (f 4).toInt) + (1 + mg_p3 gs); omega
        · refine am_e13f hi_220_6 (am_cF (m := r119.toInt) (n := (69 : Int)) rfl (by decide) c124) ?_
          refine am_e2 (v := 39) hi_220_9 rfl ?_
          refine am_e32n (as := [.ref 39]) (la := [some (.ref 39)]) (rest := []) hi_220_10 (am_hd0 (M := 220) (by decide) 10) (Nat.le_of_ble_eq_true rfl) (Nat.le_of_ble_eq_true rfl) (show 1 ≤ am_P0.2.2.1 183 from by decide +kernel) rfl (am_recv_ok hS121.fs) rfl rfl (ct_next (d := (d + 3)) hS121   (by show (0 : Int) ≤ (f 4).toInt; omega) (by show (f 0).toInt ≤ (16384 : Int); omega)) ?_
          rintro v138 S139 (⟨r140, hv141, hS142, h143⟩)
          subst hv141
          have h143_ : (f 4).toInt < (f 0).toInt ∨ r140.toInt = (-1 : Int) := h143
          show am_E _ _ _ _ [some (.ref 39), some (.int on)] [.int r140] _ _
          refine am_e0 hi_220_13 ?_
          by_cases c145 : ¬ r140.toInt = (67 : Int)
          · refine am_e13t hi_220_15 (am_cT (m := r140.toInt) (n := (67 : Int)) rfl (by decide) c145) ?_
            refine am_e2 (v := 39) hi_220_40 rfl ?_
            refine am_e0 hi_220_41 ?_
            refine am_e32n (as := [.ref 39, .int 63]) (la := [some (.ref 39), some (.int 63)]) (rest := []) hi_220_43 (am_hd0 (M := 220) (by decide) 43) (Nat.le_of_ble_eq_true rfl) (Nat.le_of_ble_eq_true rfl) (show 2 ≤ am_P0.2.2.1 199 from by decide +kernel) rfl (am_recv_ok hS142.fs) rfl rfl (ct_leave (d := (d + 1)) hS142   (by show (0 : Int) ≤ (f 4).toInt; omega) (by show (f 0).toInt ≤ (16384 : Int); omega) (by show (0 : Int) ≤ (63 : Int); omega) (by show (0 : Int) ≤ (f 5).toInt; omega) (by show (f 5).toInt ≤ (48 : Int); omega)) ?_
            rintro v146 S147 (⟨z148, y149, hv150, hS151, h152, h153, h154⟩ | ⟨a156, b157, hv158, hS159⟩)
            · subst hv150
              have h152_ : z148.toInt = (f 4).toInt + 1 := h152
              have h153_ : (f 4).toInt < (f 0).toInt := h153
              have h154_ : y149.toInt = (f 5).toInt - 1 := h154
              replace hS151 : MS S0 S147 (upd (upd (upd (upd (upd (upd f 4 z148) 5 y149) 15 z8) 62 o90) 68 z108) 75 m92) g'110 := hS151
              have hR161 : RJ (upd (upd (upd (upd (upd (upd f 4 z148) 5 y149) 15 z8) 62 o90) 68 z108) 75 m92) g'110 gs bc [] 0 (s91.toNatClampNeg :: []) := RJ.at hR116_ (by show (f 4).toInt ≤ z148.toInt; omega)
              show am_E _ _ _ _ [some (.ref 39), some (.int on)] [.int 1] _ _
              refine am_e6i hi_220_46 ?_
              refine am_e35 hi_220_47 ?_
              show am_E _ _ _ _ [some (.ref 39), some (.int on), some (.int tw), some (.int 1)] [] _ _
              refine am_e35 hi_221_95 ?_
              show am_E _ _ _ _ [some (.ref 39), some (.int 39), some (.int on), some (.int tw)] [] _ _
              refine am_e18 hi_181_366 ?_
              refine am_e35 hi_181_397 ?_
              show am_E _ _ _ _ [some (.ref 39), some (.int 39), some (.int on), some (.int tw), some (.int th)] [] _ _
              refine am_e35 hi_180_13 ?_
              have q1 : mg_p1 gs = mg_p1 gs := rfl
              have q2 : mg_p2 gs = mg_p2 gs := rfl
              have q3 : mg_p3 gs = mg_p3 gs := rfl
              have q4 : mg_p4 gs = mg_p4 gs := rfl
              refine ⟨_, _, _, bc, rfl, hS151, Or.inl ⟨⟨(RJ.fewer (pj' := []) hR161 (fun _ h => nomatch h)), ?_, ?_⟩, rfl, ?_⟩⟩
              · exact (mg_cast (mg_good_ext _ _ _ _ _ _ (fun i _ => by show g'110 34 i = g 34 i; rw [show g'110 34 = g'93 34 from h115_ 34 (by decide), show g'93 34 = g 34 from h101_ 34 (by decide)]) (fun i _ => by show g'110 38 i = g 38 i; rw [show g'110 38 = g'93 38 from h115_ 38 (by decide), show g'93 38 = g 38 from h101_ 38 (by decide)]) hrest) (by show (f 15).toInt + -1 = z8.toInt; omega) (by show (f 20).toInt = (f 20).toInt; omega) (by show (f 37).toInt + 0 = (f 37).toInt; omega) (by show (f 32).toInt + 0 = (f 32).toInt; omega) (by show (f 5).toInt + -1 = y149.toInt; omega) : mg_good (g'110 34) (g'110 38) gs (z8.toInt) ((f 20).toInt) ((f 37).toInt) ((f 32).toInt) (y149.toInt))
              · exact ⟨(by show 0 ≤ z148.toInt; omega), (by show z148.toInt ≤ (f 0).toInt; omega), (by show (f 0).toInt ≤ 512; omega), (by show 0 ≤ (f 24).toInt; omega), (by show (f 24).toInt + (f 20).toInt + mg_p1 gs ≤ 4 * z148.toInt; omega), (by show (f 20).toInt ≤ z148.toInt; omega), (by show z8.toInt + mg_p2 gs ≤ z148.toInt; omega), (by show mg_p3 gs ≤ 20 * z148.toInt + 20; omega), (by show 0 ≤ z108.toInt; omega), (by show z108.toInt + 3 * (f 20).toInt + mg_p4 gs ≤ 60 * z148.toInt + 60; omega), (by show 0 ≤ o90.toInt; omega), (by show o90.toInt + 64 * mj_n (g'110 16) z8.toNatClampNeg 3 ≤ 64 * z148.toInt; rw [show g'110 16 = g'93 16 from h115_ 16 (by decide)]; omega), (by show 0 ≤ (f 44).toInt; omega), (by show (f 44).toInt ≤ z148.toInt; omega), (by show 0 ≤ (f 48).toInt; omega), (by show (f 48).toInt ≤ z148.toInt; omega), (by show 1 ≤ (f 53).toInt; omega), (by show (f 53).toInt ≤ z148.toInt + 1; omega)⟩
              · show 100 * ((f 0).toInt - z148.toInt) + mg_p3 gs < 100 * ((f 0).toInt - (f 4).toInt) + (1 + mg_p3 gs); omega
            · subst hv158
              replace hS159 : MS S0 S147 (upd (upd (upd (upd (upd (upd (upd f 6 a156) 7 b157) 10 0) 15 z8) 62 o90) 68 z108) 75 m92) g'110 := hS159
              show am_E _ _ _ _ [some (.ref 39), some (.int on)] [.int 0] _ _
              refine am_e6i hi_220_46 ?_
              refine am_e35 hi_220_47 ?_
              show am_E _ _ _ _ [some (.ref 39), some (.int on), some (.int tw), some (.int 1)] [] _ _
              refine am_e35 hi_221_95 ?_
              show am_E _ _ _ _ [some (.ref 39), some (.int 39), some (.int on), some (.int tw)] [] _ _
              refine am_e18 hi_181_366 ?_
              refine am_e35 hi_181_397 ?_
              show am_E _ _ _ _ [some (.ref 39), some (.int 39), some (.int on), some (.int tw), some (.int th)] [] _ _
              refine am_e35 hi_180_13 ?_
              have hRc := rj_clear0 hR116_
              refine ⟨_, _, [], _, rfl, hS159, Or.inr ⟨hRc, rfl, (by show 0 ≤ (f 4).toInt; omega), (by show (f 4).toInt ≤ (f 0).toInt; omega), (by show 0 ≤ (f 32).toInt; omega), (by show (f 32).toInt ≤ 63; omega), (by show 1 ≤ (f 53).toInt; omega), (by show (f 53).toInt ≤ 600; omega), (by show 0 ≤ z108.toInt; omega), (by show z108.toInt ≤ 60000; omega), (by show 0 ≤ (f 48).toInt; omega), (by show (f 48).toInt ≤ 8000; omega), (by show 0 ≤ (f 37).toInt; omega), (by show (f 37).toInt ≤ 128; omega), (by show 0 ≤ o90.toInt; omega), (by show o90.toInt ≤ 65000; omega)⟩⟩
          · refine am_e13f hi_220_15 (am_cF (m := r140.toInt) (n := (67 : Int)) rfl (by decide) c145) ?_
            refine am_e2 (v := 39) hi_220_18 rfl ?_
            refine am_e7 hi_220_19 ?_
            refine mm_20 (v := .int (f 4)) hS142 hi_220_20 rfl ?_
            refine am_e0 hi_220_23 ?_
            obtain ⟨z162, hz162, tz162⟩ := am_addI (x := f 4) (y := 1) (m := (f 4).toInt) (n := (1 : Int)) rfl (by decide) (by omega) (by omega)
            refine am_e10 (z := z162) hi_220_24 hz162 ?_
            refine mm_21 (v := z162) hS142 hi_220_25 rfl (Nat.le_of_ble_eq_true rfl) ms_4 ?_
            intro S163 hS164
            replace hS164 : MS S0 S163 (upd (upd (upd (upd (upd f 4 z162) 15 z8) 62 o90) 68 z108) 75 m92) g'110 := hS164
            have hR165 : RJ (upd (upd (upd (upd (upd f 4 z162) 15 z8) 62 o90) 68 z108) 75 m92) g'110 gs bc [] 0 (s91.toNatClampNeg :: []) := RJ.at hR116_ (by show (f 4).toInt ≤ z162.toInt; omega)
            refine am_e2 (v := 39) hi_220_28 rfl ?_
            refine am_e0 hi_220_29 ?_
            refine am_e1 (v := on) hi_220_31 rfl ?_
            refine am_e0 hi_220_32 ?_
            refine am_e0 hi_220_33 ?_
            refine am_e32n (as := [.ref 39, .int 35, .int on, .int 0, .int 0]) (la := [some (.ref 39), some (.int 35), some (.int on), some (.int 0), some (.int 0)]) (rest := []) hi_220_34 (am_hd0 (M := 220) (by decide) 34) (Nat.le_of_ble_eq_true rfl) (Nat.le_of_ble_eq_true rfl) (show 5 ≤ am_P0.2.2.1 179 from by decide +kernel) rfl (am_recv_ok hS164.fs) rfl rfl (ct_pile (d := (d + 4)) hS164 hR165 (mj_e_plain (by decide)) (by show (0 : Int) ≤ (f 10).toInt; omega) (by show (f 10).toInt ≤ (65535 : Int); omega)) ?_
            rintro v166 S167 (⟨z168, g'169, hv170, hS171, hR174, h172, h173⟩)
            subst hv170
            have h172_ : z168.toInt = (f 10).toInt + 1 := h172
            have h173_ : ∀ j, j ∉ [11, 12, 13, 14] → g'169 j = g'110 j := h173
            replace hS171 : MS S0 S167 (upd (upd (upd (upd (upd (upd f 4 z162) 10 z168) 15 z8) 62 o90) 68 z108) 75 m92) g'169 := hS171
            have hR174_ : RJ (upd (upd (upd (upd (upd (upd f 4 z162) 10 z168) 15 z8) 62 o90) 68 z108) 75 m92) g'169 (((35 : Int), on.toInt, (0 : Int), (0 : Int), []) :: gs) bc [] 0 (s91.toNatClampNeg :: []) := hR174
            show am_E _ _ _ _ [some (.ref 39), some (.int on)] [] _ _
            refine am_e18 hi_220_37 ?_
            refine am_e35 hi_220_47 ?_
            show am_E _ _ _ _ [some (.ref 39), some (.int on), some (.int tw), some (.int 1)] [] _ _
            refine am_e35 hi_221_95 ?_
            show am_E _ _ _ _ [some (.ref 39), some (.int 39), some (.int on), some (.int tw)] [] _ _
            refine am_e18 hi_181_366 ?_
            refine am_e35 hi_181_397 ?_
            show am_E _ _ _ _ [some (.ref 39), some (.int 39), some (.int on), some (.int tw), some (.int th)] [] _ _
            refine am_e35 hi_180_13 ?_
            have q1 : mg_p1 (((35 : Int), on.toInt, (0 : Int), (0 : Int), []) :: gs) = 0 + (mg_p1 gs) := rfl
            have q2 : mg_p2 (((35 : Int), on.toInt, (0 : Int), (0 : Int), []) :: gs) = 0 + (mg_p2 gs) := rfl
            have q3 : mg_p3 (((35 : Int), on.toInt, (0 : Int), (0 : Int), []) :: gs) = 3 + (mg_p3 gs) := rfl
            have q4 : mg_p4 (((35 : Int), on.toInt, (0 : Int), (0 : Int), []) :: gs) = 0 + (mg_p4 gs) := rfl
            refine ⟨_, _, _, bc, rfl, hS171, Or.inl ⟨⟨(RJ.fewer (pj' := []) hR174_ (fun _ h => nomatch h)), ?_, ?_⟩, rfl, ?_⟩⟩
            · exact (⟨⟨(show (0 : Int) ≤ 35 from by decide), (show (0 : Int) ≤ z8.toInt from by omega), (show 0 ≤ (f 20).toInt from by omega), (show 1 ≤ (f 37).toInt from by omega), (show 0 ≤ (f 32).toInt from by omega), (show (f 32).toInt ≤ (f 5).toInt from by omega), (show (f 5).toInt ≤ 48 from by omega), (show (f 37).toInt ≤ 2 * ((f 5).toInt) + 2 from by omega), trivial⟩, mg_cast (mg_good_ext _ _ _ _ _ _ (fun i _ => by show g'169 34 i = g 34 i; rw [show g'169 34 = g'110 34 from h173_ 34 (by decide), show g'110 34 = g'93 34 from h115_ 34 (by decide), show g'93 34 = g 34 from h101_ 34 (by decide)]) (fun i _ => by show g'169 38 i = g 38 i; rw [show g'169 38 = g'110 38 from h173_ 38 (by decide), show g'110 38 = g'93 38 from h115_ 38 (by decide), show g'93 38 = g 38 from h101_ 38 (by decide)]) hrest) (by show (f 15).toInt + -1 = z8.toInt + 0; omega) (by show (f 20).toInt = (f 20).toInt; omega) (by show (f 37).toInt + 0 = (f 37).toInt + 0; omega) (by show (f 32).toInt + 0 = (f 32).toInt + 0; omega) (by show (f 5).toInt + -1 = (f 5).toInt + -1; omega)⟩ : mg_good (g'169 34) (g'169 38) (((35 : Int), on.toInt, (0 : Int), (0 : Int), []) :: gs) (z8.toInt) ((f 20).toInt) ((f 37).toInt) ((f 32).toInt) ((f 5).toInt))
            · exact ⟨(by show 0 ≤ z162.toInt; omega), (by show z162.toInt ≤ (f 0).toInt; omega), (by show (f 0).toInt ≤ 512; omega), (by show 0 ≤ (f 24).toInt; omega), (by show (f 24).toInt + (f 20).toInt + mg_p1 (((35 : Int), on.toInt, (0 : Int), (0 : Int), []) :: gs) ≤ 4 * z162.toInt; omega), (by show (f 20).toInt ≤ z162.toInt; omega), (by show z8.toInt + mg_p2 (((35 : Int), on.toInt, (0 : Int), (0 : Int), []) :: gs) ≤ z162.toInt; omega), (by show mg_p3 (((35 : Int), on.toInt, (0 : Int), (0 : Int), []) :: gs) ≤ 20 * z162.toInt + 20; omega), (by show 0 ≤ z108.toInt; omega), (by show z108.toInt + 3 * (f 20).toInt + mg_p4 (((35 : Int), on.toInt, (0 : Int), (0 : Int), []) :: gs) ≤ 60 * z162.toInt + 60; omega), (by show 0 ≤ o90.toInt; omega), (by show o90.toInt + 64 * mj_n (g'169 16) z8.toNatClampNeg 3 ≤ 64 * z162.toInt; rw [show g'169 16 = g'110 16 from h173_ 16 (by decide), show g'110 16 = g'93 16 from h115_ 16 (by decide)]; omega), (by show 0 ≤ (f 44).toInt; omega), (by show (f 44).toInt ≤ z162.toInt; omega), (by show 0 ≤ (f 48).toInt; omega), (by show (f 48).toInt ≤ z162.toInt; omega), (by show 1 ≤ (f 53).toInt; omega), (by show (f 53).toInt ≤ z162.toInt + 1; omega)⟩
            · show 100 * ((f 0).toInt - z162.toInt) + mg_p3 (((35 : Int), on.toInt, (0 : Int), (0 : Int), []) :: gs) < 100 * ((f 0).toInt - (f 4).toInt) + (1 + mg_p3 gs); omega
      · refine am_e13f hi_216_27 (am_cF (m := (g 16 z8.toNatClampNeg).toInt) (n := (2 : Int)) rfl (by decide) c87) ?_
        refine am_e0 hi_216_30 ?_
        refine am_e18 hi_216_31 ?_
        refine am_e36 hi_216_35 (by decide) ?_
        show am_E _ _ _ _ [some (.ref 39), some (.int on), some (.int tw), some (.int 1)] [.int 1] _ _
        refine am_e12f hi_221_56 (by decide) ?_
        refine am_e2 (v := 39) hi_221_59 rfl ?_
        refine am_e32w (as := [.ref 39]) (la := [some (.ref 39), none]) (rest := []) hi_221_60 (am_hd0 (M := 221) (by decide) 60) (Nat.le_of_ble_eq_true rfl) (Nat.le_of_ble_eq_true rfl) (show 1 ≤ am_P0.2.2.1 217 from by decide +kernel) rfl (am_recv_ok hS4.fs) rfl rfl ?_
        refine am_e2 (v := 39) hi_217_0 rfl ?_
        refine mm_20 (v := .ref 47) hS4 hi_217_1 rfl ?_
        refine am_e2 (v := 39) hi_217_4 rfl ?_
        refine mm_20 (v := .int (f 15)) hS4 hi_217_5 rfl ?_
        refine am_e0 hi_217_8 ?_
        refine am_e10 (z := z8) hi_217_9 hz8 ?_
        refine mm_25 hS4 ma_17 hi_217_10 (by decide) (by omega) (by omega) ?_
        show am_E _ _ _ _ [some (.ref 39), none] [.int (g 17 z8.toNatClampNeg)] _ _
        have r175 : (g 16 z8.toNatClampNeg).toInt = 1 ∨ (g 16 z8.toNatClampNeg).toInt = 2 → 0 ≤ (g 17 z8.toNatClampNeg).toInt ∧ (g 17 z8.toNatClampNeg).toInt < 65536 := RJ.vc hR z8.toNatClampNeg
        refine am_e3 (ls' := [some (.ref 39), some (.int (g 17 z8.toNatClampNeg))]) hi_217_11 (Nat.le_of_ble_eq_true rfl) rfl ?_
        refine am_e2 (v := 39) hi_217_12 rfl ?_
        refine mm_20 (v := .ref 91) hS4 hi_217_13 rfl ?_
        refine am_e1 (v := g 17 z8.toNatClampNeg) hi_217_16 rfl ?_
        refine am_e2 (v := 39) hi_217_17 rfl ?_
        refine mm_20 (v := .ref 46) hS4 hi_217_18 rfl ?_
        refine am_e2 (v := 39) hi_217_21 rfl ?_
        refine mm_20 (v := .int (f 15)) hS4 hi_217_22 rfl ?_
        refine am_e0 hi_217_25 ?_
        refine am_e10 (z := z8) hi_217_26 hz8 ?_
        refine mm_25 hS4 ma_16 hi_217_27 (by decide) (by omega) (by omega) ?_
        show am_E _ _ _ _ [some (.ref 39), some (.int (g 17 z8.toNatClampNeg))] [.int (g 16 z8.toNatClampNeg), .int (g 17 z8.toNatClampNeg), .ref 91] _ _
        refine am_e0 hi_217_28 ?_
        refine am_e13t hi_217_29 (am_cT (m := (g 16 z8.toNatClampNeg).toInt) (n := (1 : Int)) rfl (by decide) (by simp only [am_cI]; omega)) ?_
        refine am_e0 hi_217_45 ?_
        refine mm_26 hS4 ma_72 hi_217_46 (by decide) (by omega) (by omega) (fun h => nomatch h) ?_
        intro S176 hS177
        refine am_e2 (v := 39) hi_217_47 rfl ?_
        refine am_e7 hi_217_48 ?_
        refine mm_20 (v := .int (f 15)) hS177 hi_217_49 rfl ?_
        refine am_e0 hi_217_52 ?_
        refine am_e10 (z := z8) hi_217_53 hz8 ?_
        refine mm_21 (v := z8) hS177 hi_217_54 rfl (Nat.le_of_ble_eq_true rfl) ms_15 ?_
        intro S178 hS179
        have hp180 : mj_n (g 16) (f 15).toNatClampNeg 3 = mj_n (g 16) z8.toNatClampNeg 3 + if (g 16 z8.toNatClampNeg).toInt = 3 then 1 else 0 := mj_pop (by rw [cl_toNat, cl_toNat]; omega)
        have hp1801 : mj_n (g 16) z8.toNatClampNeg 3 ≤ mj_n (g 16) (f 15).toNatClampNeg 3 := by rw [hp180]; split <;> omega
        have hp1802 : (g 16 z8.toNatClampNeg).toInt = 3 → mj_n (g 16) z8.toNatClampNeg 3 + 1 ≤ mj_n (g 16) (f 15).toNatClampNeg 3 := fun q => by rw [hp180, if_pos q]; exact Int.le_refl _
        refine am_e35 hi_217_57 ?_
        show am_E _ _ _ _ [some (.ref 39), some (.int on), some (.int tw), some (.int 1)] [] _ _
        refine am_e2 (v := 39) hi_221_63 rfl ?_
        refine am_e0 hi_221_64 ?_
        refine am_e1 (v := on) hi_221_66 rfl ?_
        refine am_e0 hi_221_67 ?_
        refine am_e1 (v := tw) hi_221_68 rfl ?_
        refine am_e32n (as := [.ref 39, .int 24, .int on, .int 0, .int tw]) (la := [some (.ref 39), some (.int 24), some (.int on), some (.int 0), some (.int tw)]) (rest := []) hi_221_69 (am_hd0 (M := 221) (by decide) 69) (Nat.le_of_ble_eq_true rfl) (Nat.le_of_ble_eq_true rfl) (show 5 ≤ am_P0.2.2.1 189 from by decide +kernel) rfl (am_recv_ok hS179.fs) rfl rfl (ct_put (d := (d + 5)) hS179 hR  (by show (0 : Int) ≤ (f 32).toInt; omega) (by show (f 32).toInt ≤ (63 : Int); omega) (by show (f 53).toInt ≤ (4096 : Int); omega) (by show (0 : Int) ≤ (f 68).toInt; omega) (by show (f 68).toInt ≤ (65534 : Int); omega)) ?_
        rintro v181 S182 (⟨z183, r184, g'185, hv186, hS187, hR191, h188, h189, h190⟩)
        subst hv186
        have h188_ : z183.toInt = (f 68).toInt + 1 := h188
        have h189_ : r184.toInt = (f 68).toInt := h189
        have h190_ : ∀ j, j ∉ [60, 69, 70, 71, 72, 73] → g'185 j = (upg g 72 (g 17 z8.toNatClampNeg).toNatClampNeg 0) j := h190
        have hR191_ : RJ (upd (upd f 15 z8) 68 z183) g'185 gs bc [] 0 ((f 68).toNatClampNeg :: []) := hR191
        show am_E _ _ _ _ [some (.ref 39), some (.int on), some (.int tw), some (.int 1)] [.int r184] _ _
        refine am_e6i hi_221_72 ?_
        refine am_e18 hi_221_73 ?_
        refine am_e2 (v := 39) hi_221_90 rfl ?_
        refine am_e1 (v := on) hi_221_91 rfl ?_
        refine am_e32w (as := [.ref 39, .int on]) (la := [some (.ref 39), some (.int on)]) (rest := []) hi_221_92 (am_hd0 (M := 221) (by decide) 92) (Nat.le_of_ble_eq_true rfl) (Nat.le_of_ble_eq_true rfl) (show 2 ≤ am_P0.2.2.1 220 from by decide +kernel) rfl (am_recv_ok hS187.fs) rfl rfl ?_
        refine am_e2 (v := 39) hi_220_0 rfl ?_
        refine am_e32n (as := [.ref 39]) (la := [some (.ref 39)]) (rest := []) hi_220_1 (am_hd0 (M := 220) (by decide) 1) (Nat.le_of_ble_eq_true rfl) (Nat.le_of_ble_eq_true rfl) (show 1 ≤ am_P0.2.2.1 183 from by decide +kernel) rfl (am_recv_ok hS187.fs) rfl rfl (ct_next (d := (d + 3)) hS187   (by show (0 : Int) ≤ (f 4).toInt; omega) (by show (f 0).toInt ≤ (16384 : Int); omega)) ?_
        rintro v192 S193 (⟨r194, hv195, hS196, h197⟩)
        subst hv195
        have h197_ : (f 4).toInt < (f 0).toInt ∨ r194.toInt = (-1 : Int) := h197
        show am_E _ _ _ _ [some (.ref 39), some (.int on)] [.int r194] _ _
        refine am_e0 hi_220_4 ?_
        by_cases c199 : r194.toInt = (69 : Int)
        · refine am_e13t hi_220_6 (am_cT (m := r194.toInt) (n := (69 : Int)) rfl (by decide) c199) ?_
          refine am_e2 (v := 39) hi_220_18 rfl ?_
          refine am_e7 hi_220_19 ?_
          refine mm_20 (v := .int (f 4)) hS196 hi_220_20 rfl ?_
          refine am_e0 hi_220_23 ?_
          obtain ⟨z200, hz200, tz200⟩ := am_addI (x := f 4) (y := 1) (m := (f 4).toInt) (n := (1 : Int)) rfl (by decide) (by omega) (by omega)
          refine am_e10 (z := z200) hi_220_24 hz200 ?_
          refine mm_21 (v := z200) hS196 hi_220_25 rfl (Nat.le_of_ble_eq_true rfl) ms_4 ?_
          intro S201 hS202
          replace hS202 : MS S0 S201 (upd (upd (upd f 4 z200) 15 z8) 68 z183) g'185 := hS202
          have hR203 : RJ (upd (upd (upd f 4 z200) 15 z8) 68 z183) g'185 gs bc [] 0 ((f 68).toNatClampNeg :: []) := RJ.at hR191_ (by show (f 4).toInt ≤ z200.toInt; omega)
          refine am_e2 (v := 39) hi_220_28 rfl ?_
          refine am_e0 hi_220_29 ?_
          refine am_e1 (v := on) hi_220_31 rfl ?_
          refine am_e0 hi_220_32 ?_
          refine am_e0 hi_220_33 ?_
          refine am_e32n (as := [.ref 39, .int 35, .int on, .int 0, .int 0]) (la := [some (.ref 39), some (.int 35), some (.int on), some (.int 0), some (.int 0)]) (rest := []) hi_220_34 (am_hd0 (M := 220) (by decide) 34) (Nat.le_of_ble_eq_true rfl) (Nat.le_of_ble_eq_true rfl) (show 5 ≤ am_P0.2.2.1 179 from by decide +kernel) rfl (am_recv_ok hS202.fs) rfl rfl (ct_pile (d := (d + 4)) hS202 hR203 (mj_e_plain (by decide)) (by show (0 : Int) ≤ (f 10).toInt; omega) (by show (f 10).toInt ≤ (65535 : Int); omega)) ?_
          rintro v204 S205 (⟨z206, g'207, hv208, hS209, hR212, h210, h211⟩)
          subst hv208
          have h210_ : z206.toInt = (f 10).toInt + 1 := h210
          have h211_ : ∀ j, j ∉ [11, 12, 13, 14] → g'207 j = g'185 j := h211
          replace hS209 : MS S0 S205 (upd (upd (upd (upd f 4 z200) 10 z206) 15 z8) 68 z183) g'207 := hS209
          have hR212_ : RJ (upd (upd (upd (upd f 4 z200) 10 z206) 15 z8) 68 z183) g'207 (((35 : Int), on.toInt, (0 : Int), (0 : Int), []) :: gs) bc [] 0 ((f 68).toNatClampNeg :: []) := hR212
          show am_E _ _ _ _ [some (.ref 39), some (.int on)] [] _ _
          refine am_e18 hi_220_37 ?_
          refine am_e35 hi_220_47 ?_
          show am_E _ _ _ _ [some (.ref 39), some (.int on), some (.int tw), some (.int 1)] [] _ _
          refine am_e35 hi_221_95 ?_
          show am_E _ _ _ _ [some (.ref 39), some (.int 39), some (.int on), some (.int tw)] [] _ _
          refine am_e18 hi_181_366 ?_
          refine am_e35 hi_181_397 ?_
          show am_E _ _ _ _ [some (.ref 39), some (.int 39), some (.int on), some (.int tw), some (.int th)] [] _ _
          refine am_e35 hi_180_13 ?_
          have q1 : mg_p1 (((35 : Int), on.toInt, (0 : Int), (0 : Int), []) :: gs) = 0 + (mg_p1 gs) := rfl
          have q2 : mg_p2 (((35 : Int), on.toInt, (0 : Int), (0 : Int), []) :: gs) = 0 + (mg_p2 gs) := rfl
          have q3 : mg_p3 (((35 : Int), on.toInt, (0 : Int), (0 : Int), []) :: gs) = 3 + (mg_p3 gs) := rfl
          have q4 : mg_p4 (((35 : Int), on.toInt, (0 : Int), (0 : Int), []) :: gs) = 0 + (mg_p4 gs) := rfl
          refine ⟨_, _, _, bc, rfl, hS209, Or.inl ⟨⟨(RJ.fewer (pj' := []) hR212_ (fun _ h => nomatch h)), ?_, ?_⟩, rfl, ?_⟩⟩
          · exact (⟨⟨(show (0 : Int) ≤ 35 from by decide), (show (0 : Int) ≤ z8.toInt from by omega), (show 0 ≤ (f 20).toInt from by omega), (show 1 ≤ (f 37).toInt from by omega), (show 0 ≤ (f 32).toInt from by omega), (show (f 32).toInt ≤ (f 5).toInt from by omega), (show (f 5).toInt ≤ 48 from by omega), (show (f 37).toInt ≤ 2 * ((f 5).toInt) + 2 from by omega), trivial⟩, mg_cast (mg_good_ext _ _ _ _ _ _ (fun i _ => by show g'207 34 i = g 34 i; rw [show g'207 34 = g'185 34 from h211_ 34 (by decide), show g'185 34 = g 34 from h190_ 34 (by decide)]) (fun i _ => by show g'207 38 i = g 38 i; rw [show g'207 38 = g'185 38 from h211_ 38 (by decide), show g'185 38 = g 38 from h190_ 38 (by decide)]) hrest) (by show (f 15).toInt + -1 = z8.toInt + 0; omega) (by show (f 20).toInt = (f 20).toInt; omega) (by show (f 37).toInt + 0 = (f 37).toInt + 0; omega) (by show (f 32).toInt + 0 = (f 32).toInt + 0; omega) (by show (f 5).toInt + -1 = (f 5).toInt + -1; omega)⟩ : mg_good (g'207 34) (g'207 38) (((35 : Int), on.toInt, (0 : Int), (0 : Int), []) :: gs) (z8.toInt) ((f 20).toInt) ((f 37).toInt) ((f 32).toInt) ((f 5).toInt))
          · exact ⟨(by show 0 ≤ z200.toInt; omega), (by show z200.toInt ≤ (f 0).toInt; omega), (by show (f 0).toInt ≤ 512; omega), (by show 0 ≤ (f 24).toInt; omega), (by show (f 24).toInt + (f 20).toInt + mg_p1 (((35 : Int), on.toInt, (0 : Int), (0 : Int), []) :: gs) ≤ 4 * z200.toInt; omega), (by show (f 20).toInt ≤ z200.toInt; omega), (by show z8.toInt + mg_p2 (((35 : Int), on.toInt, (0 : Int), (0 : Int), []) :: gs) ≤ z200.toInt; omega), (by show mg_p3 (((35 : Int), on.toInt, (0 : Int), (0 : Int), []) :: gs) ≤ 20 * z200.toInt + 20; omega), (by show 0 ≤ z183.toInt; omega), (by show z183.toInt + 3 * (f 20).toInt + mg_p4 (((35 : Int), on.toInt, (0 : Int), (0 : Int), []) :: gs) ≤ 60 * z200.toInt + 60; omega), (by show 0 ≤ (f 62).toInt; omega), (by show (f 62).toInt + 64 * mj_n (g'207 16) z8.toNatClampNeg 3 ≤ 64 * z200.toInt; rw [show g'207 16 = g'185 16 from h211_ 16 (by decide), show g'185 16 = g 16 from h190_ 16 (by decide)]; omega), (by show 0 ≤ (f 44).toInt; omega), (by show (f 44).toInt ≤ z200.toInt; omega), (by show 0 ≤ (f 48).toInt; omega), (by show (f 48).toInt ≤ z200.toInt; omega), (by show 1 ≤ (f 53).toInt; omega), (by show (f 53).toInt ≤ z200.toInt + 1; omega)⟩
          · show 100 * ((f 0).toInt - z200.toInt) + mg_p3 (((35 : Int), on.toInt, (0 : Int), (0 : Int), []) :: gs) < 100 * ((f 0).toInt - (f 4).toInt) + (1 + mg_p3 gs); omega
        · refine am_e13f hi_220_6 (am_cF (m := r194.toInt) (n := (69 : Int)) rfl (by decide) c199) ?_
          refine am_e2 (v := 39) hi_220_9 rfl ?_
          refine am_e32n (as := [.ref 39]) (la := [some (.ref 39)]) (rest := []) hi_220_10 (am_hd0 (M := 220) (by decide) 10) (Nat.le_of_ble_eq_true rfl) (Nat.le_of_ble_eq_true rfl) (show 1 ≤ am_P0.2.2.1 183 from by decide +kernel) rfl (am_recv_ok hS196.fs) rfl rfl (ct_next (d := (d + 3)) hS196   (by show (0 : Int) ≤ (f 4).toInt; omega) (by show (f 0).toInt ≤ (16384 : Int); omega)) ?_
          rintro v213 S214 (⟨r215, hv216, hS217, h218⟩)
          subst hv216
          have h218_ : (f 4).toInt < (f 0).toInt ∨ r215.toInt = (-1 : Int) := h218
          show am_E _ _ _ _ [some (.ref 39), some (.int on)] [.int r215] _ _
          refine am_e0 hi_220_13 ?_
          by_cases c220 : ¬ r215.toInt = (67 : Int)
          · refine am_e13t hi_220_15 (am_cT (m := r215.toInt) (n := (67 : Int)) rfl (by decide) c220) ?_
            refine am_e2 (v := 39) hi_220_40 rfl ?_
            refine am_e0 hi_220_41 ?_
            refine am_e32n (as := [.ref 39, .int 63]) (la := [some (.ref 39), some (.int 63)]) (rest := []) hi_220_43 (am_hd0 (M := 220) (by decide) 43) (Nat.le_of_ble_eq_true rfl) (Nat.le_of_ble_eq_true rfl) (show 2 ≤ am_P0.2.2.1 199 from by decide +kernel) rfl (am_recv_ok hS217.fs) rfl rfl (ct_leave (d := (d + 1)) hS217   (by show (0 : Int) ≤ (f 4).toInt; omega) (by show (f 0).toInt ≤ (16384 : Int); omega) (by show (0 : Int) ≤ (63 : Int); omega) (by show (0 : Int) ≤ (f 5).toInt; omega) (by show (f 5).toInt ≤ (48 : Int); omega)) ?_
            rintro v221 S222 (⟨z223, y224, hv225, hS226, h227, h228, h229⟩ | ⟨a231, b232, hv233, hS234⟩)
            · subst hv225
              have h227_ : z223.toInt = (f 4).toInt + 1 := h227
              have h228_ : (f 4).toInt < (f 0).toInt := h228
              have h229_ : y224.toInt = (f 5).toInt - 1 := h229
              replace hS226 : MS S0 S222 (upd (upd (upd (upd f 4 z223) 5 y224) 15 z8) 68 z183) g'185 := hS226
              have hR236 : RJ (upd (upd (upd (upd f 4 z223) 5 y224) 15 z8) 68 z183) g'185 gs bc [] 0 ((f 68).toNatClampNeg :: []) := RJ.at hR191_ (by show (f 4).toInt ≤ z223.toInt; omega)
              show am_E _ _ _ _ [some (.ref 39), some (.int on)] [.int 1] _ _
              refine am_e6i hi_220_46 ?_
              refine am_e35 hi_220_47 ?_
              show am_E _ _ _ _ [some (.ref 39), some (.int on), some (.int tw), some (.int 1)] [] _ _
              refine am_e35 hi_221_95 ?_
              show am_E _ _ _ _ [some (.ref 39), some (.int 39), some (.int on), some (.int tw)] [] _ _
              refine am_e18 hi_181_366 ?_
              refine am_e35 hi_181_397 ?_
              show am_E _ _ _ _ [some (.ref 39), some (.int 39), some (.int on), some (.int tw), some (.int th)] [] _ _
              refine am_e35 hi_180_13 ?_
              have q1 : mg_p1 gs = mg_p1 gs := rfl
              have q2 : mg_p2 gs = mg_p2 gs := rfl
              have q3 : mg_p3 gs = mg_p3 gs := rfl
              have q4 : mg_p4 gs = mg_p4 gs := rfl
              refine ⟨_, _, _, bc, rfl, hS226, Or.inl ⟨⟨(RJ.fewer (pj' := []) hR236 (fun _ h => nomatch h)), ?_, ?_⟩, rfl, ?_⟩⟩
              · exact (mg_cast (mg_good_ext _ _ _ _ _ _ (fun i _ => by show g'185 34 i = g 34 i; rw [show g'185 34 = g 34 from h190_ 34 (by decide)]) (fun i _ => by show g'185 38 i = g 38 i; rw [show g'185 38 = g 38 from h190_ 38 (by decide)]) hrest) (by show (f 15).toInt + -1 = z8.toInt; omega) (by show (f 20).toInt = (f 20).toInt; omega) (by show (f 37).toInt + 0 = (f 37).toInt; omega) (by show (f 32).toInt + 0 = (f 32).toInt; omega) (by show (f 5).toInt + -1 = y224.toInt; omega) : mg_good (g'185 34) (g'185 38) gs (z8.toInt) ((f 20).toInt) ((f 37).toInt) ((f 32).toInt) (y224.toInt))
              · exact ⟨(by show 0 ≤ z223.toInt; omega), (by show z223.toInt ≤ (f 0).toInt; omega), (by show (f 0).toInt ≤ 512; omega), (by show 0 ≤ (f 24).toInt; omega), (by show (f 24).toInt + (f 20).toInt + mg_p1 gs ≤ 4 * z223.toInt; omega), (by show (f 20).toInt ≤ z223.toInt; omega), (by show z8.toInt + mg_p2 gs ≤ z223.toInt; omega), (by show mg_p3 gs ≤ 20 * z223.toInt + 20; omega), (by show 0 ≤ z183.toInt; omega), (by show z183.toInt + 3 * (f 20).toInt + mg_p4 gs ≤ 60 * z223.toInt + 60; omega), (by show 0 ≤ (f 62).toInt; omega), (by show (f 62).toInt + 64 * mj_n (g'185 16) z8.toNatClampNeg 3 ≤ 64 * z223.toInt; rw [show g'185 16 = g 16 from h190_ 16 (by decide)]; omega), (by show 0 ≤ (f 44).toInt; omega), (by show (f 44).toInt ≤ z223.toInt; omega), (by show 0 ≤ (f 48).toInt; omega), (by show (f 48).toInt ≤ z223.toInt; omega), (by show 1 ≤ (f 53).toInt; omega), (by show (f 53).toInt ≤ z223.toInt + 1; omega)⟩
              · show 100 * ((f 0).toInt - z223.toInt) + mg_p3 gs < 100 * ((f 0).toInt - (f 4).toInt) + (1 + mg_p3 gs); omega
            · subst hv233
              replace hS234 : MS S0 S222 (upd (upd (upd (upd (upd f 6 a231) 7 b232) 10 0) 15 z8) 68 z183) g'185 := hS234
              show am_E _ _ _ _ [some (.ref 39), some (.int on)] [.int 0] _ _
              refine am_e6i hi_220_46 ?_
              refine am_e35 hi_220_47 ?_
              show am_E _ _ _ _ [some (.ref 39), some (.int on), some (.int tw), some (.int 1)] [] _ _
              refine am_e35 hi_221_95 ?_
              show am_E _ _ _ _ [some (.ref 39), some (.int 39), some (.int on), some (.int tw)] [] _ _
              refine am_e18 hi_181_366 ?_
              refine am_e35 hi_181_397 ?_
              show am_E _ _ _ _ [some (.ref 39), some (.int 39), some (.int on), some (.int tw), some (.int th)] [] _ _
              refine am_e35 hi_180_13 ?_
              have hRc := rj_clear0 hR191_
              refine ⟨_, _, [], _, rfl, hS234, Or.inr ⟨hRc, rfl, (by show 0 ≤ (f 4).toInt; omega), (by show (f 4).toInt ≤ (f 0).toInt; omega), (by show 0 ≤ (f 32).toInt; omega), (by show (f 32).toInt ≤ 63; omega), (by show 1 ≤ (f 53).toInt; omega), (by show (f 53).toInt ≤ 600; omega), (by show 0 ≤ z183.toInt; omega), (by show z183.toInt ≤ 60000; omega), (by show 0 ≤ (f 48).toInt; omega), (by show (f 48).toInt ≤ 8000; omega), (by show 0 ≤ (f 37).toInt; omega), (by show (f 37).toInt ≤ 128; omega), (by show 0 ≤ (f 62).toInt; omega), (by show (f 62).toInt ≤ 65000; omega)⟩⟩
          · refine am_e13f hi_220_15 (am_cF (m := r215.toInt) (n := (67 : Int)) rfl (by decide) c220) ?_
            refine am_e2 (v := 39) hi_220_18 rfl ?_
            refine am_e7 hi_220_19 ?_
            refine mm_20 (v := .int (f 4)) hS217 hi_220_20 rfl ?_
            refine am_e0 hi_220_23 ?_
            obtain ⟨z237, hz237, tz237⟩ := am_addI (x := f 4) (y := 1) (m := (f 4).toInt) (n := (1 : Int)) rfl (by decide) (by omega) (by omega)
            refine am_e10 (z := z237) hi_220_24 hz237 ?_
            refine mm_21 (v := z237) hS217 hi_220_25 rfl (Nat.le_of_ble_eq_true rfl) ms_4 ?_
            intro S238 hS239
            replace hS239 : MS S0 S238 (upd (upd (upd f 4 z237) 15 z8) 68 z183) g'185 := hS239
            have hR240 : RJ (upd (upd (upd f 4 z237) 15 z8) 68 z183) g'185 gs bc [] 0 ((f 68).toNatClampNeg :: []) := RJ.at hR191_ (by show (f 4).toInt ≤ z237.toInt; omega)
            refine am_e2 (v := 39) hi_220_28 rfl ?_
            refine am_e0 hi_220_29 ?_
            refine am_e1 (v := on) hi_220_31 rfl ?_
            refine am_e0 hi_220_32 ?_
            refine am_e0 hi_220_33 ?_
            refine am_e32n (as := [.ref 39, .int 35, .int on, .int 0, .int 0]) (la := [some (.ref 39), some (.int 35), some (.int on), some (.int 0), some (.int 0)]) (rest := []) hi_220_34 (am_hd0 (M := 220) (by decide) 34) (Nat.le_of_ble_eq_true rfl) (Nat.le_of_ble_eq_true rfl) (show 5 ≤ am_P0.2.2.1 179 from by decide +kernel) rfl (am_recv_ok hS239.fs) rfl rfl (ct_pile (d := (d + 4)) hS239 hR240 (mj_e_plain (by decide)) (by show (0 : Int) ≤ (f 10).toInt; omega) (by show (f 10).toInt ≤ (65535 : Int); omega)) ?_
            rintro v241 S242 (⟨z243, g'244, hv245, hS246, hR249, h247, h248⟩)
            subst hv245
            have h247_ : z243.toInt = (f 10).toInt + 1 := h247
            have h248_ : ∀ j, j ∉ [11, 12, 13, 14] → g'244 j = g'185 j := h248
            replace hS246 : MS S0 S242 (upd (upd (upd (upd f 4 z237) 10 z243) 15 z8) 68 z183) g'244 := hS246
            have hR249_ : RJ (upd (upd (upd (upd f 4 z237) 10 z243) 15 z8) 68 z183) g'244 (((35 : Int), on.toInt, (0 : Int), (0 : Int), []) :: gs) bc [] 0 ((f 68).toNatClampNeg :: []) := hR249
            show am_E _ _ _ _ [some (.ref 39), some (.int on)] [] _ _
            refine am_e18 hi_220_37 ?_
            refine am_e35 hi_220_47 ?_
            show am_E _ _ _ _ [some (.ref 39), some (.int on), some (.int tw), some (.int 1)] [] _ _
            refine am_e35 hi_221_95 ?_
            show am_E _ _ _ _ [some (.ref 39), some (.int 39), some (.int on), some (.int tw)] [] _ _
            refine am_e18 hi_181_366 ?_
            refine am_e35 hi_181_397 ?_
            show am_E _ _ _ _ [some (.ref 39), some (.int 39), some (.int on), some (.int tw), some (.int th)] [] _ _
            refine am_e35 hi_180_13 ?_
            have q1 : mg_p1 (((35 : Int), on.toInt, (0 : Int), (0 : Int), []) :: gs) = 0 + (mg_p1 gs) := rfl
            have q2 : mg_p2 (((35 : Int), on.toInt, (0 : Int), (0 : Int), []) :: gs) = 0 + (mg_p2 gs) := rfl
            have q3 : mg_p3 (((35 : Int), on.toInt, (0 : Int), (0 : Int), []) :: gs) = 3 + (mg_p3 gs) := rfl
            have q4 : mg_p4 (((35 : Int), on.toInt, (0 : Int), (0 : Int), []) :: gs) = 0 + (mg_p4 gs) := rfl
            refine ⟨_, _, _, bc, rfl, hS246, Or.inl ⟨⟨(RJ.fewer (pj' := []) hR249_ (fun _ h => nomatch h)), ?_, ?_⟩, rfl, ?_⟩⟩
            · exact (⟨⟨(show (0 : Int) ≤ 35 from by decide), (show (0 : Int) ≤ z8.toInt from by omega), (show 0 ≤ (f 20).toInt from by omega), (show 1 ≤ (f 37).toInt from by omega), (show 0 ≤ (f 32).toInt from by omega), (show (f 32).toInt ≤ (f 5).toInt from by omega), (show (f 5).toInt ≤ 48 from by omega), (show (f 37).toInt ≤ 2 * ((f 5).toInt) + 2 from by omega), trivial⟩, mg_cast (mg_good_ext _ _ _ _ _ _ (fun i _ => by show g'244 34 i = g 34 i; rw [show g'244 34 = g'185 34 from h248_ 34 (by decide), show g'185 34 = g 34 from h190_ 34 (by decide)]) (fun i _ => by show g'244 38 i = g 38 i; rw [show g'244 38 = g'185 38 from h248_ 38 (by decide), show g'185 38 = g 38 from h190_ 38 (by decide)]) hrest) (by show (f 15).toInt + -1 = z8.toInt + 0; omega) (by show (f 20).toInt = (f 20).toInt; omega) (by show (f 37).toInt + 0 = (f 37).toInt + 0; omega) (by show (f 32).toInt + 0 = (f 32).toInt + 0; omega) (by show (f 5).toInt + -1 = (f 5).toInt + -1; omega)⟩ : mg_good (g'244 34) (g'244 38) (((35 : Int), on.toInt, (0 : Int), (0 : Int), []) :: gs) (z8.toInt) ((f 20).toInt) ((f 37).toInt) ((f 32).toInt) ((f 5).toInt))
            · exact ⟨(by show 0 ≤ z237.toInt; omega), (by show z237.toInt ≤ (f 0).toInt; omega), (by show (f 0).toInt ≤ 512; omega), (by show 0 ≤ (f 24).toInt; omega), (by show (f 24).toInt + (f 20).toInt + mg_p1 (((35 : Int), on.toInt, (0 : Int), (0 : Int), []) :: gs) ≤ 4 * z237.toInt; omega), (by show (f 20).toInt ≤ z237.toInt; omega), (by show z8.toInt + mg_p2 (((35 : Int), on.toInt, (0 : Int), (0 : Int), []) :: gs) ≤ z237.toInt; omega), (by show mg_p3 (((35 : Int), on.toInt, (0 : Int), (0 : Int), []) :: gs) ≤ 20 * z237.toInt + 20; omega), (by show 0 ≤ z183.toInt; omega), (by show z183.toInt + 3 * (f 20).toInt + mg_p4 (((35 : Int), on.toInt, (0 : Int), (0 : Int), []) :: gs) ≤ 60 * z237.toInt + 60; omega), (by show 0 ≤ (f 62).toInt; omega), (by show (f 62).toInt + 64 * mj_n (g'244 16) z8.toNatClampNeg 3 ≤ 64 * z237.toInt; rw [show g'244 16 = g'185 16 from h248_ 16 (by decide), show g'185 16 = g 16 from h190_ 16 (by decide)]; omega), (by show 0 ≤ (f 44).toInt; omega), (by show (f 44).toInt ≤ z237.toInt; omega), (by show 0 ≤ (f 48).toInt; omega), (by show (f 48).toInt ≤ z237.toInt; omega), (by show 1 ≤ (f 53).toInt; omega), (by show (f 53).toInt ≤ z237.toInt + 1; omega)⟩
            · show 100 * ((f 0).toInt - z237.toInt) + mg_p3 (((35 : Int), on.toInt, (0 : Int), (0 : Int), []) :: gs) < 100 * ((f 0).toInt - (f 4).toInt) + (1 + mg_p3 gs); omega
  · refine am_e13f hi_221_6 (am_cF (m := r2.toInt) (n := (63 : Int)) rfl (by decide) c7) ?_
    refine am_e2 (v := 39) hi_221_9 rfl ?_
    refine am_e32n (as := [.ref 39]) (la := [some (.ref 39)]) (rest := []) hi_221_10 (am_hd0 (M := 221) (by decide) 10) (Nat.le_of_ble_eq_true rfl) (Nat.le_of_ble_eq_true rfl) (show 1 ≤ am_P0.2.2.1 183 from by decide +kernel) rfl (am_recv_ok hS4.fs) rfl rfl (ct_next (d := (d + 4)) hS4   (by show (0 : Int) ≤ (f 4).toInt; omega) (by show (f 0).toInt ≤ (16384 : Int); omega)) ?_
    rintro v250 S251 (⟨r252, hv253, hS254, h255⟩)
    subst hv253
    have h255_ : (f 4).toInt < (f 0).toInt ∨ r252.toInt = (-1 : Int) := h255
    show am_E _ _ _ _ [some (.ref 39), some (.int on), some (.int tw), none] [.int r252] _ _
    refine am_e0 hi_221_13 ?_
    by_cases c257 : r252.toInt = (69 : Int)
    · refine am_e13t hi_221_15 (am_cT (m := r252.toInt) (n := (69 : Int)) rfl (by decide) c257) ?_
      refine am_e2 (v := 39) hi_221_27 rfl ?_
      refine am_e2 (v := 39) hi_221_28 rfl ?_
      refine mm_20 (v := .int (f 4)) hS254 hi_221_29 rfl ?_
      refine am_e0 hi_221_32 ?_
      obtain ⟨z258, hz258, tz258⟩ := am_addI (x := f 4) (y := 1) (m := (f 4).toInt) (n := (1 : Int)) rfl (by decide) (by omega) (by omega)
      refine am_e10 (z := z258) hi_221_33 hz258 ?_
      refine am_e32n (as := [.ref 39, .int z258]) (la := [some (.ref 39), some (.int z258)]) (rest := []) hi_221_34 (am_hd0 (M := 221) (by decide) 34) (Nat.le_of_ble_eq_true rfl) (Nat.le_of_ble_eq_true rfl) (show 2 ≤ am_P0.2.2.1 184 from by decide +kernel) rfl (am_recv_ok hS254.fs) rfl rfl (ct_kindAt (d := (d + 5)) hS254   (by show (0 : Int) ≤ z258.toInt; omega) (by show (f 0).toInt ≤ (16384 : Int); omega)) ?_
      rintro v259 S260 (⟨r261, hv262, hS263, h264⟩)
      subst hv262
      have h264_ : z258.toInt < (f 0).toInt ∨ r261.toInt = (-1 : Int) := h264
      show am_E _ _ _ _ [some (.ref 39), some (.int on), some (.int tw), none] [.int r261] _ _
      refine am_e0 hi_221_37 ?_
      by_cases c266 : ¬ r261.toInt = (63 : Int)
      · refine am_e13t hi_221_39 (am_cT (m := r261.toInt) (n := (63 : Int)) rfl (by decide) c266) ?_
        refine am_e0 hi_221_46 ?_
        refine am_e3 (ls' := [some (.ref 39), some (.int on), some (.int tw), some (.int 0)]) hi_221_47 (Nat.le_of_ble_eq_true rfl) rfl ?_
        refine am_e1 (v := 0) hi_221_48 rfl ?_
        refine am_e12t hi_221_49 (by decide) ?_
        refine am_e2 (v := 39) hi_221_76 rfl ?_
        refine am_e32w (as := [.ref 39]) (la := [some (.ref 39)]) (rest := []) hi_221_77 (am_hd0 (M := 221) (by decide) 77) (Nat.le_of_ble_eq_true rfl) (Nat.le_of_ble_eq_true rfl) (show 1 ≤ am_P0.2.2.1 209 from by decide +kernel) rfl (am_recv_ok hS263.fs) rfl rfl ?_
        refine am_e2 (v := 39) hi_209_0 rfl ?_
        refine am_e32n (as := [.ref 39]) (la := [some (.ref 39), none, none, none]) (rest := []) hi_209_1 (am_hd0 (M := 209) (by decide) 1) (Nat.le_of_ble_eq_true rfl) (Nat.le_of_ble_eq_true rfl) (show 1 ≤ am_P0.2.2.1 204 from by decide +kernel) rfl (am_recv_ok hS263.fs) rfl rfl (ct_load (d := (d + 2)) hS263 hR  (by show (0 : Int) ≤ (f 32).toInt; omega) (by show (f 32).toInt ≤ (63 : Int); omega) (by show (f 53).toInt ≤ (4096 : Int); omega) (by show (0 : Int) ≤ (f 68).toInt; omega) (by show (f 68).toInt ≤ (65534 : Int); omega) (by show (1 : Int) ≤ (f 15).toInt; omega) (by show (f 15).toInt ≤ (32767 : Int); omega) (by show (0 : Int) ≤ (f 24).toInt; omega) (by show (f 24).toInt ≤ (16384 : Int); omega) (by show (0 : Int) ≤ (f 62).toInt; omega) (by show (f 62).toInt ≤ (65000 : Int); omega)) ?_
        rintro v267 S268 (⟨o269, s270, m271, g'272, hv273, hS274, hR281, h275, h276, h277, h278, h279, h280⟩)
        subst hv273
        have h275_ : (f 62).toInt ≤ o269.toInt := h275
        have h276_ : o269.toInt ≤ (f 62).toInt + 64 := h276
        have h277_ : (f 68).toInt ≤ s270.toInt := h277
        have h278_ : s270.toInt ≤ (f 68).toInt + 1 := h278
        have h279_ : o269.toInt + 64 * mj_n (g'272 16) (f 15).toNatClampNeg 3 ≤ (f 62).toInt + 64 * mj_n (g 16) (f 15).toNatClampNeg 3 := h279
        have h280_ : ∀ j, j ∉ [16, 60, 63, 64, 65, 66, 67, 69, 70, 71, 72, 73] → g'272 j = g j := h280
        have hR281_ : RJ (upd (upd (upd f 62 o269) 68 s270) 75 m271) g'272 gs bc [] 0 [] := hR281
        show am_E _ _ _ _ [some (.ref 39)] [] _ _
        refine am_e2 (v := 39) hi_209_4 rfl ?_
        refine am_e7 hi_209_5 ?_
        refine mm_20 (v := .int (f 15)) hS274 hi_209_6 rfl ?_
        refine am_e0 hi_209_9 ?_
        obtain ⟨z282, hz282, tz282⟩ := am_subI (x := f 15) (y := 1) (m := (f 15).toInt) (n := (1 : Int)) rfl (by decide) (by omega) (by omega)
        refine am_e10 (z := z282) hi_209_10 hz282 ?_
        refine mm_21 (v := z282) hS274 hi_209_11 rfl (Nat.le_of_ble_eq_true rfl) ms_15 ?_
        intro S283 hS284
        replace hS284 : MS S0 S283 (upd (upd (upd (upd f 15 z282) 62 o269) 68 s270) 75 m271) g'272 := hS284
        have hp285 : mj_n (g'272 16) (f 15).toNatClampNeg 3 = mj_n (g'272 16) z282.toNatClampNeg 3 + if (g'272 16 z282.toNatClampNeg).toInt = 3 then 1 else 0 := mj_pop (by rw [cl_toNat, cl_toNat]; omega)
        have hp2851 : mj_n (g'272 16) z282.toNatClampNeg 3 ≤ mj_n (g'272 16) (f 15).toNatClampNeg 3 := by rw [hp285]; split <;> omega
        have hp2852 : (g'272 16 z282.toNatClampNeg).toInt = 3 → mj_n (g'272 16) z282.toNatClampNeg 3 + 1 ≤ mj_n (g'272 16) (f 15).toNatClampNeg 3 := fun q => by rw [hp285, if_pos q]; exact Int.le_refl _
        refine am_e35 hi_209_14 ?_
        show am_E _ _ _ _ [some (.ref 39), some (.int on), some (.int tw), some (.int 0)] [] _ _
        refine am_e2 (v := 39) hi_221_80 rfl ?_
        refine am_e0 hi_221_81 ?_
        refine am_e1 (v := on) hi_221_83 rfl ?_
        refine am_e0 hi_221_84 ?_
        refine am_e1 (v := tw) hi_221_85 rfl ?_
        refine am_e32n (as := [.ref 39, .int 23, .int on, .int 0, .int tw]) (la := [some (.ref 39), some (.int 23), some (.int on), some (.int 0), some (.int tw)]) (rest := []) hi_221_86 (am_hd0 (M := 221) (by decide) 86) (Nat.le_of_ble_eq_true rfl) (Nat.le_of_ble_eq_true rfl) (show 5 ≤ am_P0.2.2.1 189 from by decide +kernel) rfl (am_recv_ok hS284.fs) rfl rfl (ct_put (d := (d + 5)) hS284 hR281_  (by show (0 : Int) ≤ (f 32).toInt; omega) (by show (f 32).toInt ≤ (63 : Int); omega) (by show (f 53).toInt ≤ (4096 : Int); omega) (by show (0 : Int) ≤ s270.toInt; omega) (by show s270.toInt ≤ (65534 : Int); omega)) ?_
        rintro v286 S287 (⟨z288, r289, g'290, hv291, hS292, hR296, h293, h294, h295⟩)
        subst hv291
        have h293_ : z288.toInt = s270.toInt + 1 := h293
        have h294_ : r289.toInt = s270.toInt := h294
        have h295_ : ∀ j, j ∉ [60, 69, 70, 71, 72, 73] → g'290 j = g'272 j := h295
        replace hS292 : MS S0 S287 (upd (upd (upd (upd f 15 z282) 62 o269) 68 z288) 75 m271) g'290 := hS292
        have hR296_ : RJ (upd (upd (upd (upd f 15 z282) 62 o269) 68 z288) 75 m271) g'290 gs bc [] 0 (s270.toNatClampNeg :: []) := hR296
        show am_E _ _ _ _ [some (.ref 39), some (.int on), some (.int tw), some (.int 0)] [.int r289] _ _
        refine am_e6i hi_221_89 ?_
        refine am_e2 (v := 39) hi_221_90 rfl ?_
        refine am_e1 (v := on) hi_221_91 rfl ?_
        refine am_e32w (as := [.ref 39, .int on]) (la := [some (.ref 39), some (.int on)]) (rest := []) hi_221_92 (am_hd0 (M := 221) (by decide) 92) (Nat.le_of_ble_eq_true rfl) (Nat.le_of_ble_eq_true rfl) (show 2 ≤ am_P0.2.2.1 220 from by decide +kernel) rfl (am_recv_ok hS292.fs) rfl rfl ?_
        refine am_e2 (v := 39) hi_220_0 rfl ?_
        refine am_e32n (as := [.ref 39]) (la := [some (.ref 39)]) (rest := []) hi_220_1 (am_hd0 (M := 220) (by decide) 1) (Nat.le_of_ble_eq_true rfl) (Nat.le_of_ble_eq_true rfl) (show 1 ≤ am_P0.2.2.1 183 from by decide +kernel) rfl (am_recv_ok hS292.fs) rfl rfl (ct_next (d := (d + 3)) hS292   (by show (0 : Int) ≤ (f 4).toInt; omega) (by show (f 0).toInt ≤ (16384 : Int); omega)) ?_
        rintro v297 S298 (⟨r299, hv300, hS301, h302⟩)
        subst hv300
        have h302_ : (f 4).toInt < (f 0).toInt ∨ r299.toInt = (-1 : Int) := h302
        show am_E _ _ _ _ [some (.ref 39), some (.int on)] [.int r299] _ _
        refine am_e0 hi_220_4 ?_
        by_cases c304 : r299.toInt = (69 : Int)
        · refine am_e13t hi_220_6 (am_cT (m := r299.toInt) (n := (69 : Int)) rfl (by decide) c304) ?_
          refine am_e2 (v := 39) hi_220_18 rfl ?_
          refine am_e7 hi_220_19 ?_
          refine mm_20 (v := .int (f 4)) hS301 hi_220_20 rfl ?_
          refine am_e0 hi_220_23 ?_
          refine am_e10 (z := z258) hi_220_24 hz258 ?_
          refine mm_21 (v := z258) hS301 hi_220_25 rfl (Nat.le_of_ble_eq_true rfl) ms_4 ?_
          intro S305 hS306
          replace hS306 : MS S0 S305 (upd (upd (upd (upd (upd f 4 z258) 15 z282) 62 o269) 68 z288) 75 m271) g'290 := hS306
          have hR307 : RJ (upd (upd (upd (upd (upd f 4 z258) 15 z282) 62 o269) 68 z288) 75 m271) g'290 gs bc [] 0 (s270.toNatClampNeg :: []) := RJ.at hR296_ (by show (f 4).toInt ≤ z258.toInt; omega)
          refine am_e2 (v := 39) hi_220_28 rfl ?_
          refine am_e0 hi_220_29 ?_
          refine am_e1 (v := on) hi_220_31 rfl ?_
          refine am_e0 hi_220_32 ?_
          refine am_e0 hi_220_33 ?_
          refine am_e32n (as := [.ref 39, .int 35, .int on, .int 0, .int 0]) (la := [some (.ref 39), some (.int 35), some (.int on), some (.int 0), some (.int 0)]) (rest := []) hi_220_34 (am_hd0 (M := 220) (by decide) 34) (Nat.le_of_ble_eq_true rfl) (Nat.le_of_ble_eq_true rfl) (show 5 ≤ am_P0.2.2.1 179 from by decide +kernel) rfl (am_recv_ok hS306.fs) rfl rfl (ct_pile (d := (d + 4)) hS306 hR307 (mj_e_plain (by decide)) (by show (0 : Int) ≤ (f 10).toInt; omega) (by show (f 10).toInt ≤ (65535 : Int); omega)) ?_
          rintro v308 S309 (⟨z310, g'311, hv312, hS313, hR316, h314, h315⟩)
          subst hv312
          have h314_ : z310.toInt = (f 10).toInt + 1 := h314
          have h315_ : ∀ j, j ∉ [11, 12, 13, 14] → g'311 j = g'290 j := h315
          replace hS313 : MS S0 S309 (upd (upd (upd (upd (upd (upd f 4 z258) 10 z310) 15 z282) 62 o269) 68 z288) 75 m271) g'311 := hS313
          have hR316_ : RJ (upd (upd (upd (upd (upd (upd f 4 z258) 10 z310) 15 z282) 62 o269) 68 z288) 75 m271) g'311 (((35 : Int), on.toInt, (0 : Int), (0 : Int), []) :: gs) bc [] 0 (s270.toNatClampNeg :: []) := hR316
          show am_E _ _ _ _ [some (.ref 39), some (.int on)] [] _ _
          refine am_e18 hi_220_37 ?_
          refine am_e35 hi_220_47 ?_
          show am_E _ _ _ _ [some (.ref 39), some (.int on), some (.int tw), some (.int 0)] [] _ _
          refine am_e35 hi_221_95 ?_
          show am_E _ _ _ _ [some (.ref 39), some (.int 39), some (.int on), some (.int tw)] [] _ _
          refine am_e18 hi_181_366 ?_
          refine am_e35 hi_181_397 ?_
          show am_E _ _ _ _ [some (.ref 39), some (.int 39), some (.int on), some (.int tw), some (.int th)] [] _ _
          refine am_e35 hi_180_13 ?_
          have q1 : mg_p1 (((35 : Int), on.toInt, (0 : Int), (0 : Int), []) :: gs) = 0 + (mg_p1 gs) := rfl
          have q2 : mg_p2 (((35 : Int), on.toInt, (0 : Int), (0 : Int), []) :: gs) = 0 + (mg_p2 gs) := rfl
          have q3 : mg_p3 (((35 : Int), on.toInt, (0 : Int), (0 : Int), []) :: gs) = 3 + (mg_p3 gs) := rfl
          have q4 : mg_p4 (((35 : Int), on.toInt, (0 : Int), (0 : Int), []) :: gs) = 0 + (mg_p4 gs) := rfl
          refine ⟨_, _, _, bc, rfl, hS313, Or.inl ⟨⟨(RJ.fewer (pj' := []) hR316_ (fun _ h => nomatch h)), ?_, ?_⟩, rfl, ?_⟩⟩
          · exact (⟨⟨(show (0 : Int) ≤ 35 from by decide), (show (0 : Int) ≤ z282.toInt from by omega), (show 0 ≤ (f 20).toInt from by omega), (show 1 ≤ (f 37).toInt from by omega), (show 0 ≤ (f 32).toInt from by omega), (show (f 32).toInt ≤ (f 5).toInt from by omega), (show (f 5).toInt ≤ 48 from by omega), (show (f 37).toInt ≤ 2 * ((f 5).toInt) + 2 from by omega), trivial⟩, mg_cast (mg_good_ext _ _ _ _ _ _ (fun i _ => by show g'311 34 i = g 34 i; rw [show g'311 34 = g'290 34 from h315_ 34 (by decide), show g'290 34 = g'272 34 from h295_ 34 (by decide), show g'272 34 = g 34 from h280_ 34 (by decide)]) (fun i _ => by show g'311 38 i = g 38 i; rw [show g'311 38 = g'290 38 from h315_ 38 (by decide), show g'290 38 = g'272 38 from h295_ 38 (by decide), show g'272 38 = g 38 from h280_ 38 (by decide)]) hrest) (by show (f 15).toInt + -1 = z282.toInt + 0; omega) (by show (f 20).toInt = (f 20).toInt; omega) (by show (f 37).toInt + 0 = (f 37).toInt + 0; omega) (by show (f 32).toInt + 0 = (f 32).toInt + 0; omega) (by show (f 5).toInt + -1 = (f 5).toInt + -1; omega)⟩ : mg_good (g'311 34) (g'311 38) (((35 : Int), on.toInt, (0 : Int), (0 : Int), []) :: gs) (z282.toInt) ((f 20).toInt) ((f 37).toInt) ((f 32).toInt) ((f 5).toInt))
          · exact ⟨(by show 0 ≤ z258.toInt; omega), (by show z258.toInt ≤ (f 0).toInt; omega), (by show (f 0).toInt ≤ 512; omega), (by show 0 ≤ (f 24).toInt; omega), (by show (f 24).toInt + (f 20).toInt + mg_p1 (((35 : Int), on.toInt, (0 : Int), (0 : Int), []) :: gs) ≤ 4 * z258.toInt; omega), (by show (f 20).toInt ≤ z258.toInt; omega), (by show z282.toInt + mg_p2 (((35 : Int), on.toInt, (0 : Int), (0 : Int), []) :: gs) ≤ z258.toInt; omega), (by show mg_p3 (((35 : Int), on.toInt, (0 : Int), (0 : Int), []) :: gs) ≤ 20 * z258.toInt + 20; omega), (by show 0 ≤ z288.toInt; omega), (by show z288.toInt + 3 * (f 20).toInt + mg_p4 (((35 : Int), on.toInt, (0 : Int), (0 : Int), []) :: gs) ≤ 60 * z258.toInt + 60; omega), (by show 0 ≤ o269.toInt; omega), (by show o269.toInt + 64 * mj_n (g'311 16) z282.toNatClampNeg 3 ≤ 64 * z258.toInt; rw [show g'311 16 = g'290 16 from h315_ 16 (by decide), show g'290 16 = g'272 16 from h295_ 16 (by decide)]; omega), (by show 0 ≤ (f 44).toInt; omega), (by show (f 44).toInt ≤ z258.toInt; omega), (by show 0 ≤ (f 48).toInt; omega), (by show (f 48).toInt ≤ z258.toInt; omega), (by show 1 ≤ (f 53).toInt; omega), (by show (f 53).toInt ≤ z258.toInt + 1; omega)⟩
          · show 100 * ((f 0).toInt - z258.toInt) + mg_p3 (((35 : Int), on.toInt, (0 : Int), (0 : Int), []) :: gs) < 100 * ((f 0).toInt - (f 4).toInt) + (1 + mg_p3 gs); omega
        · refine am_e13f hi_220_6 (am_cF (m := r299.toInt) (n := (69 : Int)) rfl (by decide) c304) ?_
          refine am_e2 (v := 39) hi_220_9 rfl ?_
          refine am_e32n (as := [.ref 39]) (la := [some (.ref 39)]) (rest := []) hi_220_10 (am_hd0 (M := 220) (by decide) 10) (Nat.le_of_ble_eq_true rfl) (Nat.le_of_ble_eq_true rfl) (show 1 ≤ am_P0.2.2.1 183 from by decide +kernel) rfl (am_recv_ok hS301.fs) rfl rfl (ct_next (d := (d + 3)) hS301   (by show (0 : Int) ≤ (f 4).toInt; omega) (by show (f 0).toInt ≤ (16384 : Int); omega)) ?_
          rintro v317 S318 (⟨r319, hv320, hS321, h322⟩)
          subst hv320
          have h322_ : (f 4).toInt < (f 0).toInt ∨ r319.toInt = (-1 : Int) := h322
          show am_E _ _ _ _ [some (.ref 39), some (.int on)] [.int r319] _ _
          refine am_e0 hi_220_13 ?_
          by_cases c324 : ¬ r319.toInt = (67 : Int)
          · refine am_e13t hi_220_15 (am_cT (m := r319.toInt) (n := (67 : Int)) rfl (by decide) c324) ?_
            refine am_e2 (v := 39) hi_220_40 rfl ?_
            refine am_e0 hi_220_41 ?_
            refine am_e32n (as := [.ref 39, .int 63]) (la := [some (.ref 39), some (.int 63)]) (rest := []) hi_220_43 (am_hd0 (M := 220) (by decide) 43) (Nat.le_of_ble_eq_true rfl) (Nat.le_of_ble_eq_true rfl) (show 2 ≤ am_P0.2.2.1 199 from by decide +kernel) rfl (am_recv_ok hS321.fs) rfl rfl (ct_leave (d := (d + 1)) hS321   (by show (0 : Int) ≤ (f 4).toInt; omega) (by show (f 0).toInt ≤ (16384 : Int); omega) (by show (0 : Int) ≤ (63 : Int); omega) (by show (0 : Int) ≤ (f 5).toInt; omega) (by show (f 5).toInt ≤ (48 : Int); omega)) ?_
            rintro v325 S326 (⟨z327, y328, hv329, hS330, h331, h332, h333⟩ | ⟨a335, b336, hv337, hS338⟩)
            · subst hv329
              have h331_ : z327.toInt = (f 4).toInt + 1 := h331
              have h332_ : (f 4).toInt < (f 0).toInt := h332
              have h333_ : y328.toInt = (f 5).toInt - 1 := h333
              replace hS330 : MS S0 S326 (upd (upd (upd (upd (upd (upd f 4 z327) 5 y328) 15 z282) 62 o269) 68 z288) 75 m271) g'290 := hS330
              have hR340 : RJ (upd (upd (upd (upd (upd (upd f 4 z327) 5 y328) 15 z282) 62 o269) 68 z288) 75 m271) g'290 gs bc [] 0 (s270.toNatClampNeg :: []) := RJ.at hR296_ (by show (f 4).toInt ≤ z327.toInt; omega)
              show am_E _ _ _ _ [some (.ref 39), some (.int on)] [.int 1] _ _
              refine am_e6i hi_220_46 ?_
              refine am_e35 hi_220_47 ?_
              show am_E _ _ _ _ [some (.ref 39), some (.int on), some (.int tw), some (.int 0)] [] _ _
              refine am_e35 hi_221_95 ?_
              show am_E _ _ _ _ [some (.ref 39), some (.int 39), some (.int on), some (.int tw)] [] _ _
              refine am_e18 hi_181_366 ?_
              refine am_e35 hi_181_397 ?_
              show am_E _ _ _ _ [some (.ref 39), some (.int 39), some (.int on), some (.int tw), some (.int th)] [] _ _
              refine am_e35 hi_180_13 ?_
              have q1 : mg_p1 gs = mg_p1 gs := rfl
              have q2 : mg_p2 gs = mg_p2 gs := rfl
              have q3 : mg_p3 gs = mg_p3 gs := rfl
              have q4 : mg_p4 gs = mg_p4 gs := rfl
              refine ⟨_, _, _, bc, rfl, hS330, Or.inl ⟨⟨(RJ.fewer (pj' := []) hR340 (fun _ h => nomatch h)), ?_, ?_⟩, rfl, ?_⟩⟩
              · exact (mg_cast (mg_good_ext _ _ _ _ _ _ (fun i _ => by show g'290 34 i = g 34 i; rw [show g'290 34 = g'272 34 from h295_ 34 (by decide), show g'272 34 = g 34 from h280_ 34 (by decide)]) (fun i _ => by show g'290 38 i = g 38 i; rw [show g'290 38 = g'272 38 from h295_ 38 (by decide), show g'272 38 = g 38 from h280_ 38 (by decide)]) hrest) (by show (f 15).toInt + -1 = z282.toInt; omega) (by show (f 20).toInt = (f 20).toInt; omega) (by show (f 37).toInt + 0 = (f 37).toInt; omega) (by show (f 32).toInt + 0 = (f 32).toInt; omega) (by show (f 5).toInt + -1 = y328.toInt; omega) : mg_good (g'290 34) (g'290 38) gs (z282.toInt) ((f 20).toInt) ((f 37).toInt) ((f 32).toInt) (y328.toInt))
              · exact ⟨(by show 0 ≤ z327.toInt; omega), (by show z327.toInt ≤ (f 0).toInt; omega), (by show (f 0).toInt ≤ 512; omega), (by show 0 ≤ (f 24).toInt; omega), (by show (f 24).toInt + (f 20).toInt + mg_p1 gs ≤ 4 * z327.toInt; omega), (by show (f 20).toInt ≤ z327.toInt; omega), (by show z282.toInt + mg_p2 gs ≤ z327.toInt; omega), (by show mg_p3 gs ≤ 20 * z327.toInt + 20; omega), (by show 0 ≤ z288.toInt; omega), (by show z288.toInt + 3 * (f 20).toInt + mg_p4 gs ≤ 60 * z327.toInt + 60; omega), (by show 0 ≤ o269.toInt; omega), (by show o269.toInt + 64 * mj_n (g'290 16) z282.toNatClampNeg 3 ≤ 64 * z327.toInt; rw [show g'290 16 = g'272 16 from h295_ 16 (by decide)]; omega), (by show 0 ≤ (f 44).toInt; omega), (by show (f 44).toInt ≤ z327.toInt; omega), (by show 0 ≤ (f 48).toInt; omega), (by show (f 48).toInt ≤ z327.toInt; omega), (by show 1 ≤ (f 53).toInt; omega), (by show (f 53).toInt ≤ z327.toInt + 1; omega)⟩
              · show 100 * ((f 0).toInt - z327.toInt) + mg_p3 gs < 100 * ((f 0).toInt - (f 4).toInt) + (1 + mg_p3 gs); omega
            · subst hv337
              replace hS338 : MS S0 S326 (upd (upd (upd (upd (upd (upd (upd f 6 a335) 7 b336) 10 0) 15 z282) 62 o269) 68 z288) 75 m271) g'290 := hS338
              show am_E _ _ _ _ [some (.ref 39), some (.int on)] [.int 0] _ _
              refine am_e6i hi_220_46 ?_
              refine am_e35 hi_220_47 ?_
              show am_E _ _ _ _ [some (.ref 39), some (.int on), some (.int tw), some (.int 0)] [] _ _
              refine am_e35 hi_221_95 ?_
              show am_E _ _ _ _ [some (.ref 39), some (.int 39), some (.int on), some (.int tw)] [] _ _
              refine am_e18 hi_181_366 ?_
              refine am_e35 hi_181_397 ?_
              show am_E _ _ _ _ [some (.ref 39), some (.int 39), some (.int on), some (.int tw), some (.int th)] [] _ _
              refine am_e35 hi_180_13 ?_
              have hRc := rj_clear0 hR296_
              refine ⟨_, _, [], _, rfl, hS338, Or.inr ⟨hRc, rfl, (by show 0 ≤ (f 4).toInt; omega), (by show (f 4).toInt ≤ (f 0).toInt; omega), (by show 0 ≤ (f 32).toInt; omega), (by show (f 32).toInt ≤ 63; omega), (by show 1 ≤ (f 53).toInt; omega), (by show (f 53).toInt ≤ 600; omega), (by show 0 ≤ z288.toInt; omega), (by show z288.toInt ≤ 60000; omega), (by show 0 ≤ (f 48).toInt; omega), (by show (f 48).toInt ≤ 8000; omega), (by show 0 ≤ (f 37).toInt; omega), (by show (f 37).toInt ≤ 128; omega), (by show 0 ≤ o269.toInt; omega), (by show o269.toInt ≤ 65000; omega)⟩⟩
          · refine am_e13f hi_220_15 (am_cF (m := r319.toInt) (n := (67 : Int)) rfl (by decide) c324) ?_
            refine am_e2 (v := 39) hi_220_18 rfl ?_
            refine am_e7 hi_220_19 ?_
            refine mm_20 (v := .int (f 4)) hS321 hi_220_20 rfl ?_
            refine am_e0 hi_220_23 ?_
            refine am_e10 (z := z258) hi_220_24 hz258 ?_
            refine mm_21 (v := z258) hS321 hi_220_25 rfl (Nat.le_of_ble_eq_true rfl) ms_4 ?_
            intro S341 hS342
            replace hS342 : MS S0 S341 (upd (upd (upd (upd (upd f 4 z258) 15 z282) 62 o269) 68 z288) 75 m271) g'290 := hS342
            have hR343 : RJ (upd (upd (upd (upd (upd f 4 z258) 15 z282) 62 o269) 68 z288) 75 m271) g'290 gs bc [] 0 (s270.toNatClampNeg :: []) := RJ.at hR296_ (by show (f 4).toInt ≤ z258.toInt; omega)
            refine am_e2 (v := 39) hi_220_28 rfl ?_
            refine am_e0 hi_220_29 ?_
            refine am_e1 (v := on) hi_220_31 rfl ?_
            refine am_e0 hi_220_32 ?_
            refine am_e0 hi_220_33 ?_
            refine am_e32n (as := [.ref 39, .int 35, .int on, .int 0, .int 0]) (la := [some (.ref 39), some (.int 35), some (.int on), some (.int 0), some (.int 0)]) (rest := []) hi_220_34 (am_hd0 (M := 220) (by decide) 34) (Nat.le_of_ble_eq_true rfl) (Nat.le_of_ble_eq_true rfl) (show 5 ≤ am_P0.2.2.1 179 from by decide +kernel) rfl (am_recv_ok hS342.fs) rfl rfl (ct_pile (d := (d + 4)) hS342 hR343 (mj_e_plain (by decide)) (by show (0 : Int) ≤ (f 10).toInt; omega) (by show (f 10).toInt ≤ (65535 : Int); omega)) ?_
            rintro v344 S345 (⟨z346, g'347, hv348, hS349, hR352, h350, h351⟩)
            subst hv348
            have h350_ : z346.toInt = (f 10).toInt + 1 := h350
            have h351_ : ∀ j, j ∉ [11, 12, 13, 14] → g'347 j = g'290 j := h351
            replace hS349 : MS S0 S345 (upd (upd (upd (upd (upd (upd f 4 z258) 10 z346) 15 z282) 62 o269) 68 z288) 75 m271) g'347 := hS349
            have hR352_ : RJ (upd (upd (upd (upd (upd (upd f 4 z258) 10 z346) 15 z282) 62 o269) 68 z288) 75 m271) g'347 (((35 : Int), on.toInt, (0 : Int), (0 : Int), []) :: gs) bc [] 0 (s270.toNatClampNeg :: []) := hR352
            show am_E _ _ _ _ [some (.ref 39), some (.int on)] [] _ _
            refine am_e18 hi_220_37 ?_
            refine am_e35 hi_220_47 ?_
            show am_E _ _ _ _ [some (.ref 39), some (.int on), some (.int tw), some (.int 0)] [] _ _
            refine am_e35 hi_221_95 ?_
            show am_E _ _ _ _ [some (.ref 39), some (.int 39), some (.int on), some (.int tw)] [] _ _
            refine am_e18 hi_181_366 ?_
            refine am_e35 hi_181_397 ?_
            show am_E _ _ _ _ [some (.ref 39), some (.int 39), some (.int on), some (.int tw), some (.int th)] [] _ _
            refine am_e35 hi_180_13 ?_
            have q1 : mg_p1 (((35 : Int), on.toInt, (0 : Int), (0 : Int), []) :: gs) = 0 + (mg_p1 gs) := rfl
            have q2 : mg_p2 (((35 : Int), on.toInt, (0 : Int), (0 : Int), []) :: gs) = 0 + (mg_p2 gs) := rfl
            have q3 : mg_p3 (((35 : Int), on.toInt, (0 : Int), (0 : Int), []) :: gs) = 3 + (mg_p3 gs) := rfl
            have q4 : mg_p4 (((35 : Int), on.toInt, (0 : Int), (0 : Int), []) :: gs) = 0 + (mg_p4 gs) := rfl
            refine ⟨_, _, _, bc, rfl, hS349, Or.inl ⟨⟨(RJ.fewer (pj' := []) hR352_ (fun _ h => nomatch h)), ?_, ?_⟩, rfl, ?_⟩⟩
            · exact (⟨⟨(show (0 : Int) ≤ 35 from by decide), (show (0 : Int) ≤ z282.toInt from by omega), (show 0 ≤ (f 20).toInt from by omega), (show 1 ≤ (f 37).toInt from by omega), (show 0 ≤ (f 32).toInt from by omega), (show (f 32).toInt ≤ (f 5).toInt from by omega), (show (f 5).toInt ≤ 48 from by omega), (show (f 37).toInt ≤ 2 * ((f 5).toInt) + 2 from by omega), trivial⟩, mg_cast (mg_good_ext _ _ _ _ _ _ (fun i _ => by show g'347 34 i = g 34 i; rw [show g'347 34 = g'290 34 from h351_ 34 (by decide), show g'290 34 = g'272 34 from h295_ 34 (by decide), show g'272 34 = g 34 from h280_ 34 (by decide)]) (fun i _ => by show g'347 38 i = g 38 i; rw [show g'347 38 = g'290 38 from h351_ 38 (by decide), show g'290 38 = g'272 38 from h295_ 38 (by decide), show g'272 38 = g 38 from h280_ 38 (by decide)]) hrest) (by show (f 15).toInt + -1 = z282.toInt + 0; omega) (by show (f 20).toInt = (f 20).toInt; omega) (by show (f 37).toInt + 0 = (f 37).toInt + 0; omega) (by show (f 32).toInt + 0 = (f 32).toInt + 0; omega) (by show (f 5).toInt + -1 = (f 5).toInt + -1; omega)⟩ : mg_good (g'347 34) (g'347 38) (((35 : Int), on.toInt, (0 : Int), (0 : Int), []) :: gs) (z282.toInt) ((f 20).toInt) ((f 37).toInt) ((f 32).toInt) ((f 5).toInt))
            · exact ⟨(by show 0 ≤ z258.toInt; omega), (by show z258.toInt ≤ (f 0).toInt; omega), (by show (f 0).toInt ≤ 512; omega), (by show 0 ≤ (f 24).toInt; omega), (by show (f 24).toInt + (f 20).toInt + mg_p1 (((35 : Int), on.toInt, (0 : Int), (0 : Int), []) :: gs) ≤ 4 * z258.toInt; omega), (by show (f 20).toInt ≤ z258.toInt; omega), (by show z282.toInt + mg_p2 (((35 : Int), on.toInt, (0 : Int), (0 : Int), []) :: gs) ≤ z258.toInt; omega), (by show mg_p3 (((35 : Int), on.toInt, (0 : Int), (0 : Int), []) :: gs) ≤ 20 * z258.toInt + 20; omega), (by show 0 ≤ z288.toInt; omega), (by show z288.toInt + 3 * (f 20).toInt + mg_p4 (((35 : Int), on.toInt, (0 : Int), (0 : Int), []) :: gs) ≤ 60 * z258.toInt + 60; omega), (by show 0 ≤ o269.toInt; omega), (by show o269.toInt + 64 * mj_n (g'347 16) z282.toNatClampNeg 3 ≤ 64 * z258.toInt; rw [show g'347 16 = g'290 16 from h351_ 16 (by decide), show g'290 16 = g'272 16 from h295_ 16 (by decide)]; omega), (by show 0 ≤ (f 44).toInt; omega), (by show (f 44).toInt ≤ z258.toInt; omega), (by show 0 ≤ (f 48).toInt; omega), (by show (f 48).toInt ≤ z258.toInt; omega), (by show 1 ≤ (f 53).toInt; omega), (by show (f 53).toInt ≤ z258.toInt + 1; omega)⟩
            · show 100 * ((f 0).toInt - z258.toInt) + mg_p3 (((35 : Int), on.toInt, (0 : Int), (0 : Int), []) :: gs) < 100 * ((f 0).toInt - (f 4).toInt) + (1 + mg_p3 gs); omega
      · refine am_e13f hi_221_39 (am_cF (m := r261.toInt) (n := (63 : Int)) rfl (by decide) c266) ?_
        refine am_e0 hi_221_42 ?_
        refine am_e18 hi_221_43 ?_
        refine am_e3 (ls' := [some (.ref 39), some (.int on), some (.int tw), some (.int 1)]) hi_221_47 (Nat.le_of_ble_eq_true rfl) rfl ?_
        refine am_e1 (v := 1) hi_221_48 rfl ?_
        refine am_e12f hi_221_49 (by decide) ?_
        refine am_e2 (v := 39) hi_221_52 rfl ?_
        refine am_e32w (as := [.ref 39]) (la := [some (.ref 39)]) (rest := []) hi_221_53 (am_hd0 (M := 221) (by decide) 53) (Nat.le_of_ble_eq_true rfl) (Nat.le_of_ble_eq_true rfl) (show 1 ≤ am_P0.2.2.1 216 from by decide +kernel) rfl (am_recv_ok hS263.fs) rfl rfl ?_
        refine am_e2 (v := 39) hi_216_0 rfl ?_
        refine mm_20 (v := .ref 46) hS263 hi_216_1 rfl ?_
        refine am_e2 (v := 39) hi_216_4 rfl ?_
        refine mm_20 (v := .int (f 15)) hS263 hi_216_5 rfl ?_
        refine am_e0 hi_216_8 ?_
        obtain ⟨z353, hz353, tz353⟩ := am_subI (x := f 15) (y := 1) (m := (f 15).toInt) (n := (1 : Int)) rfl (by decide) (by omega) (by omega)
        refine am_e10 (z := z353) hi_216_9 hz353 ?_
        refine mm_25 hS263 ma_16 hi_216_10 (by decide) (by omega) (by omega) ?_
        show am_E _ _ _ _ [some (.ref 39)] [.int (g 16 z353.toNatClampNeg)] _ _
        refine am_e0 hi_216_11 ?_
        by_cases c354 : (g 16 z353.toNatClampNeg).toInt = (1 : Int)
        · refine am_e13t hi_216_12 (am_cT (m := (g 16 z353.toNatClampNeg).toInt) (n := (1 : Int)) rfl (by decide) c354) ?_
          refine am_e0 hi_216_30 ?_
          refine am_e18 hi_216_31 ?_
          refine am_e36 hi_216_35 (by decide) ?_
          show am_E _ _ _ _ [some (.ref 39), some (.int on), some (.int tw), some (.int 1)] [.int 1] _ _
          refine am_e12f hi_221_56 (by decide) ?_
          refine am_e2 (v := 39) hi_221_59 rfl ?_
          refine am_e32w (as := [.ref 39]) (la := [some (.ref 39), none]) (rest := []) hi_221_60 (am_hd0 (M := 221) (by decide) 60) (Nat.le_of_ble_eq_true rfl) (Nat.le_of_ble_eq_true rfl) (show 1 ≤ am_P0.2.2.1 217 from by decide +kernel) rfl (am_recv_ok hS263.fs) rfl rfl ?_
          refine am_e2 (v := 39) hi_217_0 rfl ?_
          refine mm_20 (v := .ref 47) hS263 hi_217_1 rfl ?_
          refine am_e2 (v := 39) hi_217_4 rfl ?_
          refine mm_20 (v := .int (f 15)) hS263 hi_217_5 rfl ?_
          refine am_e0 hi_217_8 ?_
          refine am_e10 (z := z353) hi_217_9 hz353 ?_
          refine mm_25 hS263 ma_17 hi_217_10 (by decide) (by omega) (by omega) ?_
          show am_E _ _ _ _ [some (.ref 39), none] [.int (g 17 z353.toNatClampNeg)] _ _
          have r355 : (g 16 z353.toNatClampNeg).toInt = 1 ∨ (g 16 z353.toNatClampNeg).toInt = 2 → 0 ≤ (g 17 z353.toNatClampNeg).toInt ∧ (g 17 z353.toNatClampNeg).toInt < 65536 := RJ.vc hR z353.toNatClampNeg
          refine am_e3 (ls' := [some (.ref 39), some (.int (g 17 z353.toNatClampNeg))]) hi_217_11 (Nat.le_of_ble_eq_true rfl) rfl ?_
          refine am_e2 (v := 39) hi_217_12 rfl ?_
          refine mm_20 (v := .ref 91) hS263 hi_217_13 rfl ?_
          refine am_e1 (v := g 17 z353.toNatClampNeg) hi_217_16 rfl ?_
          refine am_e2 (v := 39) hi_217_17 rfl ?_
          refine mm_20 (v := .ref 46) hS263 hi_217_18 rfl ?_
          refine am_e2 (v := 39) hi_217_21 rfl ?_
          refine mm_20 (v := .int (f 15)) hS263 hi_217_22 rfl ?_
          refine am_e0 hi_217_25 ?_
          refine am_e10 (z := z353) hi_217_26 hz353 ?_
          refine mm_25 hS263 ma_16 hi_217_27 (by decide) (by omega) (by omega) ?_
          show am_E _ _ _ _ [some (.ref 39), some (.int (g 17 z353.toNatClampNeg))] [.int (g 16 z353.toNatClampNeg), .int (g 17 z353.toNatClampNeg), .ref 91] _ _
          refine am_e0 hi_217_28 ?_
          refine am_e13f hi_217_29 (am_cF (m := (g 16 z353.toNatClampNeg).toInt) (n := (1 : Int)) rfl (by decide) (by simp only [am_cI]; omega)) ?_
          refine am_e2 (v := 39) hi_217_32 rfl ?_
          refine mm_20 (v := .ref 91) hS263 hi_217_33 rfl ?_
          refine am_e1 (v := g 17 z353.toNatClampNeg) hi_217_36 rfl ?_
          refine mm_25 hS263 ma_72 hi_217_37 (by decide) (by omega) (by omega) ?_
          show am_E _ _ _ _ [some (.ref 39), some (.int (g 17 z353.toNatClampNeg))] [.int (g 72 (g 17 z353.toNatClampNeg).toNatClampNeg), .int (g 17 z353.toNatClampNeg), .ref 91] _ _
          refine am_e0 hi_217_38 ?_
          obtain ⟨z356, hz356⟩ : ∃ q__, am_bin 3 (g 72 (g 17 z353.toNatClampNeg).toNatClampNeg) 1 = q__ := ⟨_, rfl⟩
          refine am_e10 (z := z356) hi_217_39 hz356 ?_
          refine am_e0 hi_217_40 ?_
          obtain ⟨z357, hz357⟩ : ∃ q__, am_bin 4 z356 4 = q__ := ⟨_, rfl⟩
          refine am_e10 (z := z357) hi_217_41 hz357 ?_
          refine am_e18 hi_217_42 ?_
          refine mm_26 hS263 ma_72 hi_217_46 (by decide) (by omega) (by omega) (fun h => nomatch h) ?_
          intro S358 hS359
          refine am_e2 (v := 39) hi_217_47 rfl ?_
          refine am_e7 hi_217_48 ?_
          refine mm_20 (v := .int (f 15)) hS359 hi_217_49 rfl ?_
          refine am_e0 hi_217_52 ?_
          refine am_e10 (z := z353) hi_217_53 hz353 ?_
          refine mm_21 (v := z353) hS359 hi_217_54 rfl (Nat.le_of_ble_eq_true rfl) ms_15 ?_
          intro S360 hS361
          have hp362 : mj_n (g 16) (f 15).toNatClampNeg 3 = mj_n (g 16) z353.toNatClampNeg 3 + if (g 16 z353.toNatClampNeg).toInt = 3 then 1 else 0 := mj_pop (by rw [cl_toNat, cl_toNat]; omega)
          have hp3621 : mj_n (g 16) z353.toNatClampNeg 3 ≤ mj_n (g 16) (f 15).toNatClampNeg 3 := by rw [hp362]; split <;> omega
          have hp3622 : (g 16 z353.toNatClampNeg).toInt = 3 → mj_n (g 16) z353.toNatClampNeg 3 + 1 ≤ mj_n (g 16) (f 15).toNatClampNeg 3 := fun q => by rw [hp362, if_pos q]; exact Int.le_refl _
          refine am_e35 hi_217_57 ?_
          show am_E _ _ _ _ [some (.ref 39), some (.int on), some (.int tw), some (.int 1)] [] _ _
          refine am_e2 (v := 39) hi_221_63 rfl ?_
          refine am_e0 hi_221_64 ?_
          refine am_e1 (v := on) hi_221_66 rfl ?_
          refine am_e0 hi_221_67 ?_
          refine am_e1 (v := tw) hi_221_68 rfl ?_
          refine am_e32n (as := [.ref 39, .int 24, .int on, .int 0, .int tw]) (la := [some (.ref 39), some (.int 24), some (.int on), some (.int 0), some (.int tw)]) (rest := []) hi_221_69 (am_hd0 (M := 221) (by decide) 69) (Nat.le_of_ble_eq_true rfl) (Nat.le_of_ble_eq_true rfl) (show 5 ≤ am_P0.2.2.1 189 from by decide +kernel) rfl (am_recv_ok hS361.fs) rfl rfl (ct_put (d := (d + 5)) hS361 hR  (by show (0 : Int) ≤ (f 32).toInt; omega) (by show (f 32).toInt ≤ (63 : Int); omega) (by show (f 53).toInt ≤ (4096 : Int); omega) (by show (0 : Int) ≤ (f 68).toInt; omega) (by show (f 68).toInt ≤ (65534 : Int); omega)) ?_
          rintro v363 S364 (⟨z365, r366, g'367, hv368, hS369, hR373, h370, h371, h372⟩)
          subst hv368
          have h370_ : z365.toInt = (f 68).toInt + 1 := h370
          have h371_ : r366.toInt = (f 68).toInt := h371
          have h372_ : ∀ j, j ∉ [60, 69, 70, 71, 72, 73] → g'367 j = (upg g 72 (g 17 z353.toNatClampNeg).toNatClampNeg z357) j := h372
          have hR373_ : RJ (upd (upd f 15 z353) 68 z365) g'367 gs bc [] 0 ((f 68).toNatClampNeg :: []) := hR373
          show am_E _ _ _ _ [some (.ref 39), some (.int on), some (.int tw), some (.int 1)] [.int r366] _ _
          refine am_e6i hi_221_72 ?_
          refine am_e18 hi_221_73 ?_
          refine am_e2 (v := 39) hi_221_90 rfl ?_
          refine am_e1 (v := on) hi_221_91 rfl ?_
          refine am_e32w (as := [.ref 39, .int on]) (la := [some (.ref 39), some (.int on)]) (rest := []) hi_221_92 (am_hd0 (M := 221) (by decide) 92) (Nat.le_of_ble_eq_true rfl) (Nat.le_of_ble_eq_true rfl) (show 2 ≤ am_P0.2.2.1 220 from by decide +kernel) rfl (am_recv_ok hS369.fs) rfl rfl ?_
          refine am_e2 (v := 39) hi_220_0 rfl ?_
          refine am_e32n (as := [.ref 39]) (la := [some (.ref 39)]) (rest := []) hi_220_1 (am_hd0 (M := 220) (by decide) 1) (Nat.le_of_ble_eq_true rfl) (Nat.le_of_ble_eq_true rfl) (show 1 ≤ am_P0.2.2.1 183 from by decide +kernel) rfl (am_recv_ok hS369.fs) rfl rfl (ct_next (d := (d + 3)) hS369   (by show (0 : Int) ≤ (f 4).toInt; omega) (by show (f 0).toInt ≤ (16384 : Int); omega)) ?_
          rintro v374 S375 (⟨r376, hv377, hS378, h379⟩)
          subst hv377
          have h379_ : (f 4).toInt < (f 0).toInt ∨ r376.toInt = (-1 : Int) := h379
          show am_E _ _ _ _ [some (.ref 39), some (.int on)] [.int r376] _ _
          refine am_e0 hi_220_4 ?_
          by_cases c381 : r376.toInt = (69 : Int)
          · refine am_e13t hi_220_6 (am_cT (m := r376.toInt) (n := (69 : Int)) rfl (by decide) c381) ?_
            refine am_e2 (v := 39) hi_220_18 rfl ?_
            refine am_e7 hi_220_19 ?_
            refine mm_20 (v := .int (f 4)) hS378 hi_220_20 rfl ?_
            refine am_e0 hi_220_23 ?_
            refine am_e10 (z := z258) hi_220_24 hz258 ?_
            refine mm_21 (v := z258) hS378 hi_220_25 rfl (Nat.le_of_ble_eq_true rfl) ms_4 ?_
            intro S382 hS383
            replace hS383 : MS S0 S382 (upd (upd (upd f 4 z258) 15 z353) 68 z365) g'367 := hS383
            have hR384 : RJ (upd (upd (upd f 4 z258) 15 z353) 68 z365) g'367 gs bc [] 0 ((f 68).toNatClampNeg :: []) := RJ.at hR373_ (by show (f 4).toInt ≤ z258.toInt; omega)
            refine am_e2 (v := 39) hi_220_28 rfl ?_
            refine am_e0 hi_220_29 ?_
            refine am_e1 (v := on) hi_220_31 rfl ?_
            refine am_e0 hi_220_32 ?_
            refine am_e0 hi_220_33 ?_
            refine am_e32n (as := [.ref 39, .int 35, .int on, .int 0, .int 0]) (la := [some (.ref 39), some (.int 35), some (.int on), some (.int 0), some (.int 0)]) (rest := []) hi_220_34 (am_hd0 (M := 220) (by decide) 34) (Nat.le_of_ble_eq_true rfl) (Nat.le_of_ble_eq_true rfl) (show 5 ≤ am_P0.2.2.1 179 from by decide +kernel) rfl (am_recv_ok hS383.fs) rfl rfl (ct_pile (d := (d + 4)) hS383 hR384 (mj_e_plain (by decide)) (by show (0 : Int) ≤ (f 10).toInt; omega) (by show (f 10).toInt ≤ (65535 : Int); omega)) ?_
            rintro v385 S386 (⟨z387, g'388, hv389, hS390, hR393, h391, h392⟩)
            subst hv389
            have h391_ : z387.toInt = (f 10).toInt + 1 := h391
            have h392_ : ∀ j, j ∉ [11, 12, 13, 14] → g'388 j = g'367 j := h392
            replace hS390 : MS S0 S386 (upd (upd (upd (upd f 4 z258) 10 z387) 15 z353) 68 z365) g'388 := hS390
            have hR393_ : RJ (upd (upd (upd (upd f 4 z258) 10 z387) 15 z353) 68 z365) g'388 (((35 : Int), on.toInt, (0 : Int), (0 : Int), []) :: gs) bc [] 0 ((f 68).toNatClampNeg :: []) := hR393
            show am_E _ _ _ _ [some (.ref 39), some (.int on)] [] _ _
            refine am_e18 hi_220_37 ?_
            refine am_e35 hi_220_47 ?_
            show am_E _ _ _ _ [some (.ref 39), some (.int on), some (.int tw), some (.int 1)] [] _ _
            refine am_e35 hi_221_95 ?_
            show am_E _ _ _ _ [some (.ref 39), some (.int 39), some (.int on), some (.int tw)] [] _ _
            refine am_e18 hi_181_366 ?_
            refine am_e35 hi_181_397 ?_
            show am_E _ _ _ _ [some (.ref 39), some (.int 39), some (.int on), some (.int tw), some (.int th)] [] _ _
            refine am_e35 hi_180_13 ?_
            have q1 : mg_p1 (((35 : Int), on.toInt, (0 : Int), (0 : Int), []) :: gs) = 0 + (mg_p1 gs) := rfl
            have q2 : mg_p2 (((35 : Int), on.toInt, (0 : Int), (0 : Int), []) :: gs) = 0 + (mg_p2 gs) := rfl
            have q3 : mg_p3 (((35 : Int), on.toInt, (0 : Int), (0 : Int), []) :: gs) = 3 + (mg_p3 gs) := rfl
            have q4 : mg_p4 (((35 : Int), on.toInt, (0 : Int), (0 : Int), []) :: gs) = 0 + (mg_p4 gs) := rfl
            refine ⟨_, _, _, bc, rfl, hS390, Or.inl ⟨⟨(RJ.fewer (pj' := []) hR393_ (fun _ h => nomatch h)), ?_, ?_⟩, rfl, ?_⟩⟩
            · exact (⟨⟨(show (0 : Int) ≤ 35 from by decide), (show (0 : Int) ≤ z353.toInt from by omega), (show 0 ≤ (f 20).toInt from by omega), (show 1 ≤ (f 37).toInt from by omega), (show 0 ≤ (f 32).toInt from by omega), (show (f 32).toInt ≤ (f 5).toInt from by omega), (show (f 5).toInt ≤ 48 from by omega), (show (f 37).toInt ≤ 2 * ((f 5).toInt) + 2 from by omega), trivial⟩, mg_cast (mg_good_ext _ _ _ _ _ _ (fun i _ => by show g'388 34 i = g 34 i; rw [show g'388 34 = g'367 34 from h392_ 34 (by decide), show g'367 34 = g 34 from h372_ 34 (by decide)]) (fun i _ => by show g'388 38 i = g 38 i; rw [show g'388 38 = g'367 38 from h392_ 38 (by decide), show g'367 38 = g 38 from h372_ 38 (by decide)]) hrest) (by show (f 15).toInt + -1 = z353.toInt + 0; omega) (by show (f 20).toInt = (f 20).toInt; omega) (by show (f 37).toInt + 0 = (f 37).toInt + 0; omega) (by show (f 32).toInt + 0 = (f 32).toInt + 0; omega) (by show (f 5).toInt + -1 = (f 5).toInt + -1; omega)⟩ : mg_good (g'388 34) (g'388 38) (((35 : Int), on.toInt, (0 : Int), (0 : Int), []) :: gs) (z353.toInt) ((f 20).toInt) ((f 37).toInt) ((f 32).toInt) ((f 5).toInt))
            · exact ⟨(by show 0 ≤ z258.toInt; omega), (by show z258.toInt ≤ (f 0).toInt; omega), (by show (f 0).toInt ≤ 512; omega), (by show 0 ≤ (f 24).toInt; omega), (by show (f 24).toInt + (f 20).toInt + mg_p1 (((35 : Int), on.toInt, (0 : Int), (0 : Int), []) :: gs) ≤ 4 * z258.toInt; omega), (by show (f 20).toInt ≤ z258.toInt; omega), (by show z353.toInt + mg_p2 (((35 : Int), on.toInt, (0 : Int), (0 : Int), []) :: gs) ≤ z258.toInt; omega), (by show mg_p3 (((35 : Int), on.toInt, (0 : Int), (0 : Int), []) :: gs) ≤ 20 * z258.toInt + 20; omega), (by show 0 ≤ z365.toInt; omega), (by show z365.toInt + 3 * (f 20).toInt + mg_p4 (((35 : Int), on.toInt, (0 : Int), (0 : Int), []) :: gs) ≤ 60 * z258.toInt + 60; omega), (by show 0 ≤ (f 62).toInt; omega), (by show (f 62).toInt + 64 * mj_n (g'388 16) z353.toNatClampNeg 3 ≤ 64 * z258.toInt; rw [show g'388 16 = g'367 16 from h392_ 16 (by decide), show g'367 16 = g 16 from h372_ 16 (by decide)]; omega), (by show 0 ≤ (f 44).toInt; omega), (by show (f 44).toInt ≤ z258.toInt; omega), (by show 0 ≤ (f 48).toInt; omega), (by show (f 48).toInt ≤ z258.toInt; omega), (by show 1 ≤ (f 53).toInt; omega), (by show (f 53).toInt ≤ z258.toInt + 1; omega)⟩
            · show 100 * ((f 0).toInt - z258.toInt) + mg_p3 (((35 : Int), on.toInt, (0 : Int), (0 : Int), []) :: gs) < 100 * ((f 0).toInt - (f 4).toInt) + (1 + mg_p3 gs); omega
          · refine am_e13f hi_220_6 (am_cF (m := r376.toInt) (n := (69 : Int)) rfl (by decide) c381) ?_
            refine am_e2 (v := 39) hi_220_9 rfl ?_
            refine am_e32n (as := [.ref 39]) (la := [some (.ref 39)]) (rest := []) hi_220_10 (am_hd0 (M := 220) (by decide) 10) (Nat.le_of_ble_eq_true rfl) (Nat.le_of_ble_eq_true rfl) (show 1 ≤ am_P0.2.2.1 183 from by decide +kernel) rfl (am_recv_ok hS378.fs) rfl rfl (ct_next (d := (d + 3)) hS378   (by show (0 : Int) ≤ (f 4).toInt; omega) (by show (f 0).toInt ≤ (16384 : Int); omega)) ?_
            rintro v394 S395 (⟨r396, hv397, hS398, h399⟩)
            subst hv397
            have h399_ : (f 4).toInt < (f 0).toInt ∨ r396.toInt = (-1 : Int) := h399
            show am_E _ _ _ _ [some (.ref 39), some (.int on)] [.int r396] _ _
            refine am_e0 hi_220_13 ?_
            by_cases c401 : ¬ r396.toInt = (67 : Int)
            · refine am_e13t hi_220_15 (am_cT (m := r396.toInt) (n := (67 : Int)) rfl (by decide) c401) ?_
              refine am_e2 (v := 39) hi_220_40 rfl ?_
              refine am_e0 hi_220_41 ?_
              refine am_e32n (as := [.ref 39, .int 63]) (la := [some (.ref 39), some (.int 63)]) (rest := []) hi_220_43 (am_hd0 (M := 220) (by decide) 43) (Nat.le_of_ble_eq_true rfl) (Nat.le_of_ble_eq_true rfl) (show 2 ≤ am_P0.2.2.1 199 from by decide +kernel) rfl (am_recv_ok hS398.fs) rfl rfl (ct_leave (d := (d + 1)) hS398   (by show (0 : Int) ≤ (f 4).toInt; omega) (by show (f 0).toInt ≤ (16384 : Int); omega) (by show (0 : Int) ≤ (63 : Int); omega) (by show (0 : Int) ≤ (f 5).toInt; omega) (by show (f 5).toInt ≤ (48 : Int); omega)) ?_
              rintro v402 S403 (⟨z404, y405, hv406, hS407, h408, h409, h410⟩ | ⟨a412, b413, hv414, hS415⟩)
              · subst hv406
                have h408_ : z404.toInt = (f 4).toInt + 1 := h408
                have h409_ : (f 4).toInt < (f 0).toInt := h409
                have h410_ : y405.toInt = (f 5).toInt - 1 := h410
                replace hS407 : MS S0 S403 (upd (upd (upd (upd f 4 z404) 5 y405) 15 z353) 68 z365) g'367 := hS407
                have hR417 : RJ (upd (upd (upd (upd f 4 z404) 5 y405) 15 z353) 68 z365) g'367 gs bc [] 0 ((f 68).toNatClampNeg :: []) := RJ.at hR373_ (by show (f 4).toInt ≤ z404.toInt; omega)
                show am_E _ _ _ _ [some (.ref 39), some (.int on)] [.int 1] _ _
                refine am_e6i hi_220_46 ?_
                refine am_e35 hi_220_47 ?_
                show am_E _ _ _ _ [some (.ref 39), some (.int on), some (.int tw), some (.int 1)] [] _ _
                refine am_e35 hi_221_95 ?_
                show am_E _ _ _ _ [some (.ref 39), some (.int 39), some (.int on), some (.int tw)] [] _ _
                refine am_e18 hi_181_366 ?_
                refine am_e35 hi_181_397 ?_
                show am_E _ _ _ _ [some (.ref 39), some (.int 39), some (.int on), some (.int tw), some (.int th)] [] _ _
                refine am_e35 hi_180_13 ?_
                have q1 : mg_p1 gs = mg_p1 gs := rfl
                have q2 : mg_p2 gs = mg_p2 gs := rfl
                have q3 : mg_p3 gs = mg_p3 gs := rfl
                have q4 : mg_p4 gs = mg_p4 gs := rfl
                refine ⟨_, _, _, bc, rfl, hS407, Or.inl ⟨⟨(RJ.fewer (pj' := []) hR417 (fun _ h => nomatch h)), ?_, ?_⟩, rfl, ?_⟩⟩
                · exact (mg_cast (mg_good_ext _ _ _ _ _ _ (fun i _ => by show g'367 34 i = g 34 i; rw [show g'367 34 = g 34 from h372_ 34 (by decide)]) (fun i _ => by show g'367 38 i = g 38 i; rw [show g'367 38 = g 38 from h372_ 38 (by decide)]) hrest) (by show (f 15).toInt + -1 = z353.toInt; omega) (by show (f 20).toInt = (f 20).toInt; omega) (by show (f 37).toInt + 0 = (f 37).toInt; omega) (by show (f 32).toInt + 0 = (f 32).toInt; omega) (by show (f 5).toInt + -1 = y405.toInt; omega) : mg_good (g'367 34) (g'367 38) gs (z353.toInt) ((f 20).toInt) ((f 37).toInt) ((f 32).toInt) (y405.toInt))
                · exact ⟨(by show 0 ≤ z404.toInt; omega), (by show z404.toInt ≤ (f 0).toInt; omega), (by show (f 0).toInt ≤ 512; omega), (by show 0 ≤ (f 24).toInt; omega), (by show (f 24).toInt + (f 20).toInt + mg_p1 gs ≤ 4 * z404.toInt; omega), (by show (f 20).toInt ≤ z404.toInt; omega), (by show z353.toInt + mg_p2 gs ≤ z404.toInt; omega), (by show mg_p3 gs ≤ 20 * z404.toInt + 20; omega), (by show 0 ≤ z365.toInt; omega), (by show z365.toInt + 3 * (f 20).toInt + mg_p4 gs ≤ 60 * z404.toInt + 60; omega), (by show 0 ≤ (f 62).toInt; omega), (by show (f 62).toInt + 64 * mj_n (g'367 16) z353.toNatClampNeg 3 ≤ 64 * z404.toInt; rw [show g'367 16 = g 16 from h372_ 16 (by decide)]; omega), (by show 0 ≤ (f 44).toInt; omega), (by show (f 44).toInt ≤ z404.toInt; omega), (by show 0 ≤ (f 48).toInt; omega), (by show (f 48).toInt ≤ z404.toInt; omega), (by show 1 ≤ (f 53).toInt; omega), (by show (f 53).toInt ≤ z404.toInt + 1; omega)⟩
                · show 100 * ((f 0).toInt - z404.toInt) + mg_p3 gs < 100 * ((f 0).toInt - (f 4).toInt) + (1 + mg_p3 gs); omega
              · subst hv414
                replace hS415 : MS S0 S403 (upd (upd (upd (upd (upd f 6 a412) 7 b413) 10 0) 15 z353) 68 z365) g'367 := hS415
                show am_E _ _ _ _ [some (.ref 39), some (.int on)] [.int 0] _ _
                refine am_e6i hi_220_46 ?_
                refine am_e35 hi_220_47 ?_
                show am_E _ _ _ _ [some (.ref 39), some (.int on), some (.int tw), some (.int 1)] [] _ _
                refine am_e35 hi_221_95 ?_
                show am_E _ _ _ _ [some (.ref 39), some (.int 39), some (.int on), some (.int tw)] [] _ _
                refine am_e18 hi_181_366 ?_
                refine am_e35 hi_181_397 ?_
                show am_E _ _ _ _ [some (.ref 39), some (.int 39), some (.int on), some (.int tw), some (.int th)] [] _ _
                refine am_e35 hi_180_13 ?_
                have hRc := rj_clear0 hR373_
                refine ⟨_, _, [], _, rfl, hS415, Or.inr ⟨hRc, rfl, (by show 0 ≤ (f 4).toInt; omega), (by show (f 4).toInt ≤ (f 0).toInt; omega), (by show 0 ≤ (f 32).toInt; omega), (by show (f 32).toInt ≤ 63; omega), (by show 1 ≤ (f 53).toInt; omega), (by show (f 53).toInt ≤ 600; omega), (by show 0 ≤ z365.toInt; omega), (by show z365.toInt ≤ 60000; omega), (by show 0 ≤ (f 48).toInt; omega), (by show (f 48).toInt ≤ 8000; omega), (by show 0 ≤ (f 37).toInt; omega), (by show (f 37).toInt ≤ 128; omega), (by show 0 ≤ (f 62).toInt; omega), (by show (f 62).toInt ≤ 65000; omega)⟩⟩
            · refine am_e13f hi_220_15 (am_cF (m := r396.toInt) (n := (67 : Int)) rfl (by decide) c401) ?_
              refine am_e2 (v := 39) hi_220_18 rfl ?_
              refine am_e7 hi_220_19 ?_
              refine mm_20 (v := .int (f 4)) hS398 hi_220_20 rfl ?_
              refine am_e0 hi_220_23 ?_
              refine am_e10 (z := z258) hi_220_24 hz258 ?_
              refine mm_21 (v := z258) hS398 hi_220_25 rfl (Nat.le_of_ble_eq_true rfl) ms_4 ?_
              intro S418 hS419
              replace hS419 : MS S0 S418 (upd (upd (upd f 4 z258) 15 z353) 68 z365) g'367 := hS419
              have hR420 : RJ (upd (upd (upd f 4 z258) 15 z353) 68 z365) g'367 gs bc [] 0 ((f 68).toNatClampNeg :: []) := RJ.at hR373_ (by show (f 4).toInt ≤ z258.toInt; omega)
              refine am_e2 (v := 39) hi_220_28 rfl ?_
              refine am_e0 hi_220_29 ?_
              refine am_e1 (v := on) hi_220_31 rfl ?_
              refine am_e0 hi_220_32 ?_
              refine am_e0 hi_220_33 ?_
              refine am_e32n (as := [.ref 39, .int 35, .int on, .int 0, .int 0]) (la := [some (.ref 39), some (.int 35), some (.int on), some (.int 0), some (.int 0)]) (rest := []) hi_220_34 (am_hd0 (M := 220) (by decide) 34) (Nat.le_of_ble_eq_true rfl) (Nat.le_of_ble_eq_true rfl) (show 5 ≤ am_P0.2.2.1 179 from by decide +kernel) rfl (am_recv_ok hS419.fs) rfl rfl (ct_pile (d := (d + 4)) hS419 hR420 (mj_e_plain (by decide)) (by show (0 : Int) ≤ (f 10).toInt; omega) (by show (f 10).toInt ≤ (65535 : Int); omega)) ?_
              rintro v421 S422 (⟨z423, g'424, hv425, hS426, hR429, h427, h428⟩)
              subst hv425
              have h427_ : z423.toInt = (f 10).toInt + 1 := h427
              have h428_ : ∀ j, j ∉ [11, 12, 13, 14] → g'424 j = g'367 j := h428
              replace hS426 : MS S0 S422 (upd (upd (upd (upd f 4 z258) 10 z423) 15 z353) 68 z365) g'424 := hS426
              have hR429_ : RJ (upd (upd (upd (upd f 4 z258) 10 z423) 15 z353) 68 z365) g'424 (((35 : Int), on.toInt, (0 : Int), (0 : Int), []) :: gs) bc [] 0 ((f 68).toNatClampNeg :: []) := hR429
              show am_E _ _ _ _ [some (.ref 39), some (.int on)] [] _ _
              refine am_e18 hi_220_37 ?_
              refine am_e35 hi_220_47 ?_
              show am_E _ _ _ _ [some (.ref 39), some (.int on), some (.int tw), some (.int 1)] [] _ _
              refine am_e35 hi_221_95 ?_
              show am_E _ _ _ _ [some (.ref 39), some (.int 39), some (.int on), some (.int tw)] [] _ _
              refine am_e18 hi_181_366 ?_
              refine am_e35 hi_181_397 ?_
              show am_E _ _ _ _ [some (.ref 39), some (.int 39), some (.int on), some (.int tw), some (.int th)] [] _ _
              refine am_e35 hi_180_13 ?_
              have q1 : mg_p1 (((35 : Int), on.toInt, (0 : Int), (0 : Int), []) :: gs) = 0 + (mg_p1 gs) := rfl
              have q2 : mg_p2 (((35 : Int), on.toInt, (0 : Int), (0 : Int), []) :: gs) = 0 + (mg_p2 gs) := rfl
              have q3 : mg_p3 (((35 : Int), on.toInt, (0 : Int), (0 : Int), []) :: gs) = 3 + (mg_p3 gs) := rfl
              have q4 : mg_p4 (((35 : Int), on.toInt, (0 : Int), (0 : Int), []) :: gs) = 0 + (mg_p4 gs) := rfl
              refine ⟨_, _, _, bc, rfl, hS426, Or.inl ⟨⟨(RJ.fewer (pj' := []) hR429_ (fun _ h => nomatch h)), ?_, ?_⟩, rfl, ?_⟩⟩
              · exact (⟨⟨(show (0 : Int) ≤ 35 from by decide), (show (0 : Int) ≤ z353.toInt from by omega), (show 0 ≤ (f 20).toInt from by omega), (show 1 ≤ (f 37).toInt from by omega), (show 0 ≤ (f 32).toInt from by omega), (show (f 32).toInt ≤ (f 5).toInt from by omega), (show (f 5).toInt ≤ 48 from by omega), (show (f 37).toInt ≤ 2 * ((f 5).toInt) + 2 from by omega), trivial⟩, mg_cast (mg_good_ext _ _ _ _ _ _ (fun i _ => by show g'424 34 i = g 34 i; rw [show g'424 34 = g'367 34 from h428_ 34 (by decide), show g'367 34 = g 34 from h372_ 34 (by decide)]) (fun i _ => by show g'424 38 i = g 38 i; rw [show g'424 38 = g'367 38 from h428_ 38 (by decide), show g'367 38 = g 38 from h372_ 38 (by decide)]) hrest) (by show (f 15).toInt + -1 = z353.toInt + 0; omega) (by show (f 20).toInt = (f 20).toInt; omega) (by show (f 37).toInt + 0 = (f 37).toInt + 0; omega) (by show (f 32).toInt + 0 = (f 32).toInt + 0; omega) (by show (f 5).toInt + -1 = (f 5).toInt + -1; omega)⟩ : mg_good (g'424 34) (g'424 38) (((35 : Int), on.toInt, (0 : Int), (0 : Int), []) :: gs) (z353.toInt) ((f 20).toInt) ((f 37).toInt) ((f 32).toInt) ((f 5).toInt))
              · exact ⟨(by show 0 ≤ z258.toInt; omega), (by show z258.toInt ≤ (f 0).toInt; omega), (by show (f 0).toInt ≤ 512; omega), (by show 0 ≤ (f 24).toInt; omega), (by show (f 24).toInt + (f 20).toInt + mg_p1 (((35 : Int), on.toInt, (0 : Int), (0 : Int), []) :: gs) ≤ 4 * z258.toInt; omega), (by show (f 20).toInt ≤ z258.toInt; omega), (by show z353.toInt + mg_p2 (((35 : Int), on.toInt, (0 : Int), (0 : Int), []) :: gs) ≤ z258.toInt; omega), (by show mg_p3 (((35 : Int), on.toInt, (0 : Int), (0 : Int), []) :: gs) ≤ 20 * z258.toInt + 20; omega), (by show 0 ≤ z365.toInt; omega), (by show z365.toInt + 3 * (f 20).toInt + mg_p4 (((35 : Int), on.toInt, (0 : Int), (0 : Int), []) :: gs) ≤ 60 * z258.toInt + 60; omega), (by show 0 ≤ (f 62).toInt; omega), (by show (f 62).toInt + 64 * mj_n (g'424 16) z353.toNatClampNeg 3 ≤ 64 * z258.toInt; rw [show g'424 16 = g'367 16 from h428_ 16 (by decide), show g'367 16 = g 16 from h372_ 16 (by decide)]; omega), (by show 0 ≤ (f 44).toInt; omega), (by show (f 44).toInt ≤ z258.toInt; omega), (by show 0 ≤ (f 48).toInt; omega), (by show (f 48).toInt ≤ z258.toInt; omega), (by show 1 ≤ (f 53).toInt; omega), (by show (f 53).toInt ≤ z258.toInt + 1; omega)⟩
              · show 100 * ((f 0).toInt - z258.toInt) + mg_p3 (((35 : Int), on.toInt, (0 : Int), (0 : Int), []) :: gs) < 100 * ((f 0).toInt - (f 4).toInt) + (1 + mg_p3 gs); omega
        · refine am_e13f hi_216_12 (am_cF (m := (g 16 z353.toNatClampNeg).toInt) (n := (1 : Int)) rfl (by decide) c354) ?_
          refine am_e2 (v := 39) hi_216_15 rfl ?_
          refine mm_20 (v := .ref 46) hS263 hi_216_16 rfl ?_
          refine am_e2 (v := 39) hi_216_19 rfl ?_
          refine mm_20 (v := .int (f 15)) hS263 hi_216_20 rfl ?_
          refine am_e0 hi_216_23 ?_
          refine am_e10 (z := z353) hi_216_24 hz353 ?_
          refine mm_25 hS263 ma_16 hi_216_25 (by decide) (by omega) (by omega) ?_
          show am_E _ _ _ _ [some (.ref 39)] [.int (g 16 z353.toNatClampNeg)] _ _
          refine am_e0 hi_216_26 ?_
          by_cases c430 : ¬ (g 16 z353.toNatClampNeg).toInt = (2 : Int)
          · refine am_e13t hi_216_27 (am_cT (m := (g 16 z353.toNatClampNeg).toInt) (n := (2 : Int)) rfl (by decide) c430) ?_
            refine am_e0 hi_216_34 ?_
            refine am_e36 hi_216_35 (by decide) ?_
            show am_E _ _ _ _ [some (.ref 39), some (.int on), some (.int tw), some (.int 1)] [.int 0] _ _
            refine am_e12t hi_221_56 (by decide) ?_
            refine am_e2 (v := 39) hi_221_76 rfl ?_
            refine am_e32w (as := [.ref 39]) (la := [some (.ref 39)]) (rest := []) hi_221_77 (am_hd0 (M := 221) (by decide) 77) (Nat.le_of_ble_eq_true rfl) (Nat.le_of_ble_eq_true rfl) (show 1 ≤ am_P0.2.2.1 209 from by decide +kernel) rfl (am_recv_ok hS263.fs) rfl rfl ?_
            refine am_e2 (v := 39) hi_209_0 rfl ?_
            refine am_e32n (as := [.ref 39]) (la := [some (.ref 39), none, none, none]) (rest := []) hi_209_1 (am_hd0 (M := 209) (by decide) 1) (Nat.le_of_ble_eq_true rfl) (Nat.le_of_ble_eq_true rfl) (show 1 ≤ am_P0.2.2.1 204 from by decide +kernel) rfl (am_recv_ok hS263.fs) rfl rfl (ct_load (d := (d + 2)) hS263 hR  (by show (0 : Int) ≤ (f 32).toInt; omega) (by show (f 32).toInt ≤ (63 : Int); omega) (by show (f 53).toInt ≤ (4096 : Int); omega) (by show (0 : Int) ≤ (f 68).toInt; omega) (by show (f 68).toInt ≤ (65534 : Int); omega) (by show (1 : Int) ≤ (f 15).toInt; omega) (by show (f 15).toInt ≤ (32767 : Int); omega) (by show (0 : Int) ≤ (f 24).toInt; omega) (by show (f 24).toInt ≤ (16384 : Int); omega) (by show (0 : Int) ≤ (f 62).toInt; omega) (by show (f 62).toInt ≤ (65000 : Int); omega)) ?_
            rintro v431 S432 (⟨o433, s434, m435, g'436, hv437, hS438, hR445, h439, h440, h441, h442, h443, h444⟩)
            subst hv437
            have h439_ : (f 62).toInt ≤ o433.toInt := h439
            have h440_ : o433.toInt ≤ (f 62).toInt + 64 := h440
            have h441_ : (f 68).toInt ≤ s434.toInt := h441
            have h442_ : s434.toInt ≤ (f 68).toInt + 1 := h442
            have h443_ : o433.toInt + 64 * mj_n (g'436 16) (f 15).toNatClampNeg 3 ≤ (f 62).toInt + 64 * mj_n (g 16) (f 15).toNatClampNeg 3 := h443
            have h444_ : ∀ j, j ∉ [16, 60, 63, 64, 65, 66, 67, 69, 70, 71, 72, 73] → g'436 j = g j := h444
            have hR445_ : RJ (upd (upd (upd f 62 o433) 68 s434) 75 m435) g'436 gs bc [] 0 [] := hR445
            show am_E _ _ _ _ [some (.ref 39)] [] _ _
            refine am_e2 (v := 39) hi_209_4 rfl ?_
            refine am_e7 hi_209_5 ?_
            refine mm_20 (v := .int (f 15)) hS438 hi_209_6 rfl ?_
            refine am_e0 hi_209_9 ?_
            refine am_e10 (z := z353) hi_209_10 hz353 ?_
            refine mm_21 (v := z353) hS438 hi_209_11 rfl (Nat.le_of_ble_eq_true rfl) ms_15 ?_
            intro S446 hS447
            replace hS447 : MS S0 S446 (upd (upd (upd (upd f 15 z353) 62 o433) 68 s434) 75 m435) g'436 := hS447
            have hp448 : mj_n (g'436 16) (f 15).toNatClampNeg 3 = mj_n (g'436 16) z353.toNatClampNeg 3 + if (g'436 16 z353.toNatClampNeg).toInt = 3 then 1 else 0 := mj_pop (by rw [cl_toNat, cl_toNat]; omega)
            have hp4481 : mj_n (g'436 16) z353.toNatClampNeg 3 ≤ mj_n (g'436 16) (f 15).toNatClampNeg 3 := by rw [hp448]; split <;> omega
            have hp4482 : (g'436 16 z353.toNatClampNeg).toInt = 3 → mj_n (g'436 16) z353.toNatClampNeg 3 + 1 ≤ mj_n (g'436 16) (f 15).toNatClampNeg 3 := fun q => by rw [hp448, if_pos q]; exact Int.le_refl _
            refine am_e35 hi_209_14 ?_
            show am_E _ _ _ _ [some (.ref 39), some (.int on), some (.int tw), some (.int 1)] [] _ _
            refine am_e2 (v := 39) hi_221_80 rfl ?_
            refine am_e0 hi_221_81 ?_
            refine am_e1 (v := on) hi_221_83 rfl ?_
            refine am_e0 hi_221_84 ?_
            refine am_e1 (v := tw) hi_221_85 rfl ?_
            refine am_e32n (as := [.ref 39, .int 23, .int on, .int 0, .int tw]) (la := [some (.ref 39), some (.int 23), some (.int on), some (.int 0), some (.int tw)]) (rest := []) hi_221_86 (am_hd0 (M := 221) (by decide) 86) (Nat.le_of_ble_eq_true rfl) (Nat.le_of_ble_eq_true rfl) (show 5 ≤ am_P0.2.2.1 189 from by decide +kernel) rfl (am_recv_ok hS447.fs) rfl rfl (ct_put (d := (d + 5)) hS447 hR445_  (by show (0 : Int) ≤ (f 32).toInt; omega) (by show (f 32).toInt ≤ (63 : Int); omega) (by show (f 53).toInt ≤ (4096 : Int); omega) (by show (0 : Int) ≤ s434.toInt; omega) (by show s434.toInt ≤ (65534 : Int); omega)) ?_
            rintro v449 S450 (⟨z451, r452, g'453, hv454, hS455, hR459, h456, h457, h458⟩)
            subst hv454
            have h456_ : z451.toInt = s434.toInt + 1 := h456
            have h457_ : r452.toInt = s434.toInt := h457
            have h458_ : ∀ j, j ∉ [60, 69, 70, 71, 72, 73] → g'453 j = g'436 j := h458
            replace hS455 : MS S0 S450 (upd (upd (upd (upd f 15 z353) 62 o433) 68 z451) 75 m435) g'453 := hS455
            have hR459_ : RJ (upd (upd (upd (upd f 15 z353) 62 o433) 68 z451) 75 m435) g'453 gs bc [] 0 (s434.toNatClampNeg :: []) := hR459
            show am_E _ _ _ _ [some (.ref 39), some (.int on), some (.int tw), some (.int 1)] [.int r452] _ _
            refine am_e6i hi_221_89 ?_
            refine am_e2 (v := 39) hi_221_90 rfl ?_
            refine am_e1 (v := on) hi_221_91 rfl ?_
            refine am_e32w (as := [.ref 39, .int on]) (la := [some (.ref 39), some (.int on)]) (rest := []) hi_221_92 (am_hd0 (M := 221) (by decide) 92) (Nat.le_of_ble_eq_true rfl) (Nat.le_of_ble_eq_true rfl) (show 2 ≤ am_P0.2.2.1 220 from by decide +kernel) rfl (am_recv_ok hS455.fs) rfl rfl ?_
            refine am_e2 (v := 39) hi_220_0 rfl ?_
            refine am_e32n (as := [.ref 39]) (la := [some (.ref 39)]) (rest := []) hi_220_1 (am_hd0 (M := 220) (by decide) 1) (Nat.le_of_ble_eq_true rfl) (Nat.le_of_ble_eq_true rfl) (show 1 ≤ am_P0.2.2.1 183 from by decide +kernel) rfl (am_recv_ok hS455.fs) rfl rfl (ct_next (d := (d + 3)) hS455   (by show (0 : Int) ≤ (f 4).toInt; omega) (by show (f 0).toInt ≤ (16384 : Int); omega)) ?_
            rintro v460 S461 (⟨r462, hv463, hS464, h465⟩)
            subst hv463
            have h465_ : (f 4).toInt < (f 0).toInt ∨ r462.toInt = (-1 : Int) := h465
            show am_E _ _ _ _ [some (.ref 39), some (.int on)] [.int r462] _ _
            refine am_e0 hi_220_4 ?_
            by_cases c467 : r462.toInt = (69 : Int)
            · refine am_e13t hi_220_6 (am_cT (m := r462.toInt) (n := (69 : Int)) rfl (by decide) c467) ?_
              refine am_e2 (v := 39) hi_220_18 rfl ?_
              refine am_e7 hi_220_19 ?_
              refine mm_20 (v := .int (f 4)) hS464 hi_220_20 rfl ?_
              refine am_e0 hi_220_23 ?_
              refine am_e10 (z := z258) hi_220_24 hz258 ?_
              refine mm_21 (v := z258) hS464 hi_220_25 rfl (Nat.le_of_ble_eq_true rfl) ms_4 ?_
              intro S468 hS469
              replace hS469 : MS S0 S468 (upd (upd (upd (upd (upd f 4 z258) 15 z353) 62 o433) 68 z451) 75 m435) g'453 := hS469
              have hR470 : RJ (upd (upd (upd (upd (upd f 4 z258) 15 z353) 62 o433) 68 z451) 75 m435) g'453 gs bc [] 0 (s434.toNatClampNeg :: []) := RJ.at hR459_ (by show (f 4).toInt ≤ z258.toInt; omega)
              refine am_e2 (v := 39) hi_220_28 rfl ?_
              refine am_e0 hi_220_29 ?_
              refine am_e1 (v := on) hi_220_31 rfl ?_
              refine am_e0 hi_220_32 ?_
              refine am_e0 hi_220_33 ?_
              refine am_e32n (as := [.ref 39, .int 35, .int on, .int 0, .int 0]) (la := [some (.ref 39), some (.int 35), some (.int on), some (.int 0), some (.int 0)]) (rest := []) hi_220_34 (am_hd0 (M := 220) (by decide) 34) (Nat.le_of_ble_eq_true rfl) (Nat.le_of_ble_eq_true rfl) (show 5 ≤ am_P0.2.2.1 179 from by decide +kernel) rfl (am_recv_ok hS469.fs) rfl rfl (ct_pile (d := (d + 4)) hS469 hR470 (mj_e_plain (by decide)) (by show (0 : Int) ≤ (f 10).toInt; omega) (by show (f 10).toInt ≤ (65535 : Int); omega)) ?_
              rintro v471 S472 (⟨z473, g'474, hv475, hS476, hR479, h477, h478⟩)
              subst hv475
              have h477_ : z473.toInt = (f 10).toInt + 1 := h477
              have h478_ : ∀ j, j ∉ [11, 12, 13, 14] → g'474 j = g'453 j := h478
              replace hS476 : MS S0 S472 (upd (upd (upd (upd (upd (upd f 4 z258) 10 z473) 15 z353) 62 o433) 68 z451) 75 m435) g'474 := hS476
              have hR479_ : RJ (upd (upd (upd (upd (upd (upd f 4 z258) 10 z473) 15 z353) 62 o433) 68 z451) 75 m435) g'474 (((35 : Int), on.toInt, (0 : Int), (0 : Int), []) :: gs) bc [] 0 (s434.toNatClampNeg :: []) := hR479
              show am_E _ _ _ _ [some (.ref 39), some (.int on)] [] _ _
              refine am_e18 hi_220_37 ?_
              refine am_e35 hi_220_47 ?_
              show am_E _ _ _ _ [some (.ref 39), some (.int on), some (.int tw), some (.int 1)] [] _ _
              refine am_e35 hi_221_95 ?_
              show am_E _ _ _ _ [some (.ref 39), some (.int 39), some (.int on), some (.int tw)] [] _ _
              refine am_e18 hi_181_366 ?_
              refine am_e35 hi_181_397 ?_
              show am_E _ _ _ _ [some (.ref 39), some (.int 39), some (.int on), some (.int tw), some (.int th)] [] _ _
              refine am_e35 hi_180_13 ?_
              have q1 : mg_p1 (((35 : Int), on.toInt, (0 : Int), (0 : Int), []) :: gs) = 0 + (mg_p1 gs) := rfl
              have q2 : mg_p2 (((35 : Int), on.toInt, (0 : Int), (0 : Int), []) :: gs) = 0 + (mg_p2 gs) := rfl
              have q3 : mg_p3 (((35 : Int), on.toInt, (0 : Int), (0 : Int), []) :: gs) = 3 + (mg_p3 gs) := rfl
              have q4 : mg_p4 (((35 : Int), on.toInt, (0 : Int), (0 : Int), []) :: gs) = 0 + (mg_p4 gs) := rfl
              refine ⟨_, _, _, bc, rfl, hS476, Or.inl ⟨⟨(RJ.fewer (pj' := []) hR479_ (fun _ h => nomatch h)), ?_, ?_⟩, rfl, ?_⟩⟩
              · exact (⟨⟨(show (0 : Int) ≤ 35 from by decide), (show (0 : Int) ≤ z353.toInt from by omega), (show 0 ≤ (f 20).toInt from by omega), (show 1 ≤ (f 37).toInt from by omega), (show 0 ≤ (f 32).toInt from by omega), (show (f 32).toInt ≤ (f 5).toInt from by omega), (show (f 5).toInt ≤ 48 from by omega), (show (f 37).toInt ≤ 2 * ((f 5).toInt) + 2 from by omega), trivial⟩, mg_cast (mg_good_ext _ _ _ _ _ _ (fun i _ => by show g'474 34 i = g 34 i; rw [show g'474 34 = g'453 34 from h478_ 34 (by decide), show g'453 34 = g'436 34 from h458_ 34 (by decide), show g'436 34 = g 34 from h444_ 34 (by decide)]) (fun i _ => by show g'474 38 i = g 38 i; rw [show g'474 38 = g'453 38 from h478_ 38 (by decide), show g'453 38 = g'436 38 from h458_ 38 (by decide), show g'436 38 = g 38 from h444_ 38 (by decide)]) hrest) (by show (f 15).toInt + -1 = z353.toInt + 0; omega) (by show (f 20).toInt = (f 20).toInt; omega) (by show (f 37).toInt + 0 = (f 37).toInt + 0; omega) (by show (f 32).toInt + 0 = (f 32).toInt + 0; omega) (by show (f 5).toInt + -1 = (f 5).toInt + -1; omega)⟩ : mg_good (g'474 34) (g'474 38) (((35 : Int), on.toInt, (0 : Int), (0 : Int), []) :: gs) (z353.toInt) ((f 20).toInt) ((f 37).toInt) ((f 32).toInt) ((f 5).toInt))
              · exact ⟨(by show 0 ≤ z258.toInt; omega), (by show z258.toInt ≤ (f 0).toInt; omega), (by show (f 0).toInt ≤ 512; omega), (by show 0 ≤ (f 24).toInt; omega), (by show (f 24).toInt + (f 20).toInt + mg_p1 (((35 : Int), on.toInt, (0 : Int), (0 : Int), []) :: gs) ≤ 4 * z258.toInt; omega), (by show (f 20).toInt ≤ z258.toInt; omega), (by show z353.toInt + mg_p2 (((35 : Int), on.toInt, (0 : Int), (0 : Int), []) :: gs) ≤ z258.toInt; omega), (by show mg_p3 (((35 : Int), on.toInt, (0 : Int), (0 : Int), []) :: gs) ≤ 20 * z258.toInt + 20; omega), (by show 0 ≤ z451.toInt; omega), (by show z451.toInt + 3 * (f 20).toInt + mg_p4 (((35 : Int), on.toInt, (0 : Int), (0 : Int), []) :: gs) ≤ 60 * z258.toInt + 60; omega), (by show 0 ≤ o433.toInt; omega), (by show o433.toInt + 64 * mj_n (g'474 16) z353.toNatClampNeg 3 ≤ 64 * z258.toInt; rw [show g'474 16 = g'453 16 from h478_ 16 (by decide), show g'453 16 = g'436 16 from h458_ 16 (by decide)]; omega), (by show 0 ≤ (f 44).toInt; omega), (by show (f 44).toInt ≤ z258.toInt; omega), (by show 0 ≤ (f 48).toInt; omega), (by show (f 48).toInt ≤ z258.toInt; omega), (by show 1 ≤ (f 53).toInt; omega), (by show (f 53).toInt ≤ z258.toInt + 1; omega)⟩
              · show 100 * ((f 0).toInt - z258.toInt) + mg_p3 (((35 : Int), on.toInt, (0 : Int), (0 : Int), []) :: gs) < 100 * ((f 0).toInt - (f 4).toInt) + (1 + mg_p3 gs); omega
            · refine am_e13f hi_220_6 (am_cF (m := r462.toInt) (n := (69 : Int)) rfl (by decide) c467) ?_
              refine am_e2 (v := 39) hi_220_9 rfl ?_
              refine am_e32n (as := [.ref 39]) (la := [some (.ref 39)]) (rest := []) hi_220_10 (am_hd0 (M := 220) (by decide) 10) (Nat.le_of_ble_eq_true rfl) (Nat.le_of_ble_eq_true rfl) (show 1 ≤ am_P0.2.2.1 183 from by decide +kernel) rfl (am_recv_ok hS464.fs) rfl rfl (ct_next (d := (d + 3)) hS464   (by show (0 : Int) ≤ (f 4).toInt; omega) (by show (f 0).toInt ≤ (16384 : Int); omega)) ?_
              rintro v480 S481 (⟨r482, hv483, hS484, h485⟩)
              subst hv483
              have h485_ : (f 4).toInt < (f 0).toInt ∨ r482.toInt = (-1 : Int) := h485
              show am_E _ _ _ _ [some (.ref 39), some (.int on)] [.int r482] _ _
              refine am_e0 hi_220_13 ?_
              by_cases c487 : ¬ r482.toInt = (67 : Int)
              · refine am_e13t hi_220_15 (am_cT (m := r482.toInt) (n := (67 : Int)) rfl (by decide) c487) ?_
                refine am_e2 (v := 39) hi_220_40 rfl ?_
                refine am_e0 hi_220_41 ?_
                refine am_e32n (as := [.ref 39, .int 63]) (la := [some (.ref 39), some (.int 63)]) (rest := []) hi_220_43 (am_hd0 (M := 220) (by decide) 43) (Nat.le_of_ble_eq_true rfl) (Nat.le_of_ble_eq_true rfl) (show 2 ≤ am_P0.2.2.1 199 from by decide +kernel) rfl (am_recv_ok hS484.fs) rfl rfl (ct_leave (d := (d + 1)) hS484   (by show (0 : Int) ≤ (f 4).toInt; omega) (by show (f 0).toInt ≤ (16384 : Int); omega) (by show (0 : Int) ≤ (63 : Int); omega) (by show (0 : Int) ≤ (f 5).toInt; omega) (by show (f 5).toInt ≤ (48 : Int); omega)) ?_
                rintro v488 S489 (⟨z490, y491, hv492, hS493, h494, h495, h496⟩ | ⟨a498, b499, hv500, hS501⟩)
                · subst hv492
                  have h494_ : z490.toInt = (f 4).toInt + 1 := h494
                  have h495_ : (f 4).toInt < (f 0).toInt := h495
                  have h496_ : y491.toInt = (f 5).toInt - 1 := h496
                  replace hS493 : MS S0 S489 (upd (upd (upd (upd (upd (upd f 4 z490) 5 y491) 15 z353) 62 o433) 68 z451) 75 m435) g'453 := hS493
                  have hR503 : RJ (upd (upd (upd (upd (upd (upd f 4 z490) 5 y491) 15 z353) 62 o433) 68 z451) 75 m435) g'453 gs bc [] 0 (s434.toNatClampNeg :: []) := RJ.at hR459_ (by show (f 4).toInt ≤ z490.toInt; omega)
                  show am_E _ _ _ _ [some (.ref 39), some (.int on)] [.int 1] _ _
                  refine am_e6i hi_220_46 ?_
                  refine am_e35 hi_220_47 ?_
                  show am_E _ _ _ _ [some (.ref 39), some (.int on), some (.int tw), some (.int 1)] [] _ _
                  refine am_e35 hi_221_95 ?_
                  show am_E _ _ _ _ [some (.ref 39), some (.int 39), some (.int on), some (.int tw)] [] _ _
                  refine am_e18 hi_181_366 ?_
                  refine am_e35 hi_181_397 ?_
                  show am_E _ _ _ _ [some (.ref 39), some (.int 39), some (.int on), some (.int tw), some (.int th)] [] _ _
                  refine am_e35 hi_180_13 ?_
                  have q1 : mg_p1 gs = mg_p1 gs := rfl
                  have q2 : mg_p2 gs = mg_p2 gs := rfl
                  have q3 : mg_p3 gs = mg_p3 gs := rfl
                  have q4 : mg_p4 gs = mg_p4 gs := rfl
                  refine ⟨_, _, _, bc, rfl, hS493, Or.inl ⟨⟨(RJ.fewer (pj' := []) hR503 (fun _ h => nomatch h)), ?_, ?_⟩, rfl, ?_⟩⟩
                  · exact (mg_cast (mg_good_ext _ _ _ _ _ _ (fun i _ => by show g'453 34 i = g 34 i; rw [show g'453 34 = g'436 34 from h458_ 34 (by decide), show g'436 34 = g 34 from h444_ 34 (by decide)]) (fun i _ => by show g'453 38 i = g 38 i; rw [show g'453 38 = g'436 38 from h458_ 38 (by decide), show g'436 38 = g 38 from h444_ 38 (by decide)]) hrest) (by show (f 15).toInt + -1 = z353.toInt; omega) (by show (f 20).toInt = (f 20).toInt; omega) (by show (f 37).toInt + 0 = (f 37).toInt; omega) (by show (f 32).toInt + 0 = (f 32).toInt; omega) (by show (f 5).toInt + -1 = y491.toInt; omega) : mg_good (g'453 34) (g'453 38) gs (z353.toInt) ((f 20).toInt) ((f 37).toInt) ((f 32).toInt) (y491.toInt))
                  · exact ⟨(by show 0 ≤ z490.toInt; omega), (by show z490.toInt ≤ (f 0).toInt; omega), (by show (f 0).toInt ≤ 512; omega), (by show 0 ≤ (f 24).toInt; omega), (by show (f 24).toInt + (f 20).toInt + mg_p1 gs ≤ 4 * z490.toInt; omega), (by show (f 20).toInt ≤ z490.toInt; omega), (by show z353.toInt + mg_p2 gs ≤ z490.toInt; omega), (by show mg_p3 gs ≤ 20 * z490.toInt + 20; omega), (by show 0 ≤ z451.toInt; omega), (by show z451.toInt + 3 * (f 20).toInt + mg_p4 gs ≤ 60 * z490.toInt + 60; omega), (by show 0 ≤ o433.toInt; omega), (by show o433.toInt + 64 * mj_n (g'453 16) z353.toNatClampNeg 3 ≤ 64 * z490.toInt; rw [show g'453 16 = g'436 16 from h458_ 16 (by decide)]; omega), (by show 0 ≤ (f 44).toInt; omega), (by show (f 44).toInt ≤ z490.toInt; omega), (by show 0 ≤ (f 48).toInt; omega), (by show (f 48).toInt ≤ z490.toInt; omega), (by show 1 ≤ (f 53).toInt; omega), (by show (f 53).toInt ≤ z490.toInt + 1; omega)⟩
                  · show 100 * ((f 0).toInt - z490.toInt) + mg_p3 gs < 100 * ((f 0).toInt - (f 4).toInt) + (1 + mg_p3 gs); omega
                · subst hv500
                  replace hS501 : MS S0 S489 (upd (upd (upd (upd (upd (upd (upd f 6 a498) 7 b499) 10 0) 15 z353) 62 o433) 68 z451) 75 m435) g'453 := hS501
                  show am_E _ _ _ _ [some (.ref 39), some (.int on)] [.int 0] _ _
                  refine am_e6i hi_220_46 ?_
                  refine am_e35 hi_220_47 ?_
                  show am_E _ _ _ _ [some (.ref 39), some (.int on), some (.int tw), some (.int 1)] [] _ _
                  refine am_e35 hi_221_95 ?_
                  show am_E _ _ _ _ [some (.ref 39), some (.int 39), some (.int on), some (.int tw)] [] _ _
                  refine am_e18 hi_181_366 ?_
                  refine am_e35 hi_181_397 ?_
                  show am_E _ _ _ _ [some (.ref 39), some (.int 39), some (.int on), some (.int tw), some (.int th)] [] _ _
                  refine am_e35 hi_180_13 ?_
                  have hRc := rj_clear0 hR459_
                  refine ⟨_, _, [], _, rfl, hS501, Or.inr ⟨hRc, rfl, (by show 0 ≤ (f 4).toInt; omega), (by show (f 4).toInt ≤ (f 0).toInt; omega), (by show 0 ≤ (f 32).toInt; omega), (by show (f 32).toInt ≤ 63; omega), (by show 1 ≤ (f 53).toInt; omega), (by show (f 53).toInt ≤ 600; omega), (by show 0 ≤ z451.toInt; omega), (by show z451.toInt ≤ 60000; omega), (by show 0 ≤ (f 48).toInt; omega), (by show (f 48).toInt ≤ 8000; omega), (by show 0 ≤ (f 37).toInt; omega), (by show (f 37).toInt ≤ 128; omega), (by show 0 ≤ o433.toInt; omega), (by show o433.toInt ≤ 65000; omega)⟩⟩
              · refine am_e13f hi_220_15 (am_cF (m := r482.toInt) (n := (67 : Int)) rfl (by decide) c487) ?_
                refine am_e2 (v := 39) hi_220_18 rfl ?_
                refine am_e7 hi_220_19 ?_
                refine mm_20 (v := .int (f 4)) hS484 hi_220_20 rfl ?_
                refine am_e0 hi_220_23 ?_
                refine am_e10 (z := z258) hi_220_24 hz258 ?_
                refine mm_21 (v := z258) hS484 hi_220_25 rfl (Nat.le_of_ble_eq_true rfl) ms_4 ?_
                intro S504 hS505
                replace hS505 : MS S0 S504 (upd (upd (upd (upd (upd f 4 z258) 15 z353) 62 o433) 68 z451) 75 m435) g'453 := hS505
                have hR506 : RJ (upd (upd (upd (upd (upd f 4 z258) 15 z353) 62 o433) 68 z451) 75 m435) g'453 gs bc [] 0 (s434.toNatClampNeg :: []) := RJ.at hR459_ (by show (f 4).toInt ≤ z258.toInt; omega)
                refine am_e2 (v := 39) hi_220_28 rfl ?_
                refine am_e0 hi_220_29 ?_
                refine am_e1 (v := on) hi_220_31 rfl ?_
                refine am_e0 hi_220_32 ?_
                refine am_e0 hi_220_33 ?_
                refine am_e32n (as := [.ref 39, .int 35, .int on, .int 0, .int 0]) (la := [some (.ref 39), some (.int 35), some (.int on), some (.int 0), some (.int 0)]) (rest := []) hi_220_34 (am_hd0 (M := 220) (by decide) 34) (Nat.le_of_ble_eq_true rfl) (Nat.le_of_ble_eq_true rfl) (show 5 ≤ am_P0.2.2.1 179 from by decide +kernel) rfl (am_recv_ok hS505.fs) rfl rfl (ct_pile (d := (d + 4)) hS505 hR506 (mj_e_plain (by decide)) (by show (0 : Int) ≤ (f 10).toInt; omega) (by show (f 10).toInt ≤ (65535 : Int); omega)) ?_
                rintro v507 S508 (⟨z509, g'510, hv511, hS512, hR515, h513, h514⟩)
                subst hv511
                have h513_ : z509.toInt = (f 10).toInt + 1 := h513
                have h514_ : ∀ j, j ∉ [11, 12, 13, 14] → g'510 j = g'453 j := h514
                replace hS512 : MS S0 S508 (upd (upd (upd (upd (upd (upd f 4 z258) 10 z509) 15 z353) 62 o433) 68 z451) 75 m435) g'510 := hS512
                have hR515_ : RJ (upd (upd (upd (upd (upd (upd f 4 z258) 10 z509) 15 z353) 62 o433) 68 z451) 75 m435) g'510 (((35 : Int), on.toInt, (0 : Int), (0 : Int), []) :: gs) bc [] 0 (s434.toNatClampNeg :: []) := hR515
                show am_E _ _ _ _ [some (.ref 39), some (.int on)] [] _ _
                refine am_e18 hi_220_37 ?_
                refine am_e35 hi_220_47 ?_
                show am_E _ _ _ _ [some (.ref 39), some (.int on), some (.int tw), some (.int 1)] [] _ _
                refine am_e35 hi_221_95 ?_
                show am_E _ _ _ _ [some (.ref 39), some (.int 39), some (.int on), some (.int tw)] [] _ _
                refine am_e18 hi_181_366 ?_
                refine am_e35 hi_181_397 ?_
                show am_E _ _ _ _ [some (.ref 39), some (.int 39), some (.int on), some (.int tw), some (.int th)] [] _ _
                refine am_e35 hi_180_13 ?_
                have q1 : mg_p1 (((35 : Int), on.toInt, (0 : Int), (0 : Int), []) :: gs) = 0 + (mg_p1 gs) := rfl
                have q2 : mg_p2 (((35 : Int), on.toInt, (0 : Int), (0 : Int), []) :: gs) = 0 + (mg_p2 gs) := rfl
                have q3 : mg_p3 (((35 : Int), on.toInt, (0 : Int), (0 : Int), []) :: gs) = 3 + (mg_p3 gs) := rfl
                have q4 : mg_p4 (((35 : Int), on.toInt, (0 : Int), (0 : Int), []) :: gs) = 0 + (mg_p4 gs) := rfl
                refine ⟨_, _, _, bc, rfl, hS512, Or.inl ⟨⟨(RJ.fewer (pj' := []) hR515_ (fun _ h => nomatch h)), ?_, ?_⟩, rfl, ?_⟩⟩
                · exact (⟨⟨(show (0 : Int) ≤ 35 from by decide), (show (0 : Int) ≤ z353.toInt from by omega), (show 0 ≤ (f 20).toInt from by omega), (show 1 ≤ (f 37).toInt from by omega), (show 0 ≤ (f 32).toInt from by omega), (show (f 32).toInt ≤ (f 5).toInt from by omega), (show (f 5).toInt ≤ 48 from by omega), (show (f 37).toInt ≤ 2 * ((f 5).toInt) + 2 from by omega), trivial⟩, mg_cast (mg_good_ext _ _ _ _ _ _ (fun i _ => by show g'510 34 i = g 34 i; rw [show g'510 34 = g'453 34 from h514_ 34 (by decide), show g'453 34 = g'436 34 from h458_ 34 (by decide), show g'436 34 = g 34 from h444_ 34 (by decide)]) (fun i _ => by show g'510 38 i = g 38 i; rw [show g'510 38 = g'453 38 from h514_ 38 (by decide), show g'453 38 = g'436 38 from h458_ 38 (by decide), show g'436 38 = g 38 from h444_ 38 (by decide)]) hrest) (by show (f 15).toInt + -1 = z353.toInt + 0; omega) (by show (f 20).toInt = (f 20).toInt; omega) (by show (f 37).toInt + 0 = (f 37).toInt + 0; omega) (by show (f 32).toInt + 0 = (f 32).toInt + 0; omega) (by show (f 5).toInt + -1 = (f 5).toInt + -1; omega)⟩ : mg_good (g'510 34) (g'510 38) (((35 : Int), on.toInt, (0 : Int), (0 : Int), []) :: gs) (z353.toInt) ((f 20).toInt) ((f 37).toInt) ((f 32).toInt) ((f 5).toInt))
                · exact ⟨(by show 0 ≤ z258.toInt; omega), (by show z258.toInt ≤ (f 0).toInt; omega), (by show (f 0).toInt ≤ 512; omega), (by show 0 ≤ (f 24).toInt; omega), (by show (f 24).toInt + (f 20).toInt + mg_p1 (((35 : Int), on.toInt, (0 : Int), (0 : Int), []) :: gs) ≤ 4 * z258.toInt; omega), (by show (f 20).toInt ≤ z258.toInt; omega), (by show z353.toInt + mg_p2 (((35 : Int), on.toInt, (0 : Int), (0 : Int), []) :: gs) ≤ z258.toInt; omega), (by show mg_p3 (((35 : Int), on.toInt, (0 : Int), (0 : Int), []) :: gs) ≤ 20 * z258.toInt + 20; omega), (by show 0 ≤ z451.toInt; omega), (by show z451.toInt + 3 * (f 20).toInt + mg_p4 (((35 : Int), on.toInt, (0 : Int), (0 : Int), []) :: gs) ≤ 60 * z258.toInt + 60; omega), (by show 0 ≤ o433.toInt; omega), (by show o433.toInt + 64 * mj_n (g'510 16) z353.toNatClampNeg 3 ≤ 64 * z258.toInt; rw [show g'510 16 = g'453 16 from h514_ 16 (by decide), show g'453 16 = g'436 16 from h458_ 16 (by decide)]; omega), (by show 0 ≤ (f 44).toInt; omega), (by show (f 44).toInt ≤ z258.toInt; omega), (by show 0 ≤ (f 48).toInt; omega), (by show (f 48).toInt ≤ z258.toInt; omega), (by show 1 ≤ (f 53).toInt; omega), (by show (f 53).toInt ≤ z258.toInt + 1; omega)⟩
                · show 100 * ((f 0).toInt - z258.toInt) + mg_p3 (((35 : Int), on.toInt, (0 : Int), (0 : Int), []) :: gs) < 100 * ((f 0).toInt - (f 4).toInt) + (1 + mg_p3 gs); omega
          · refine am_e13f hi_216_27 (am_cF (m := (g 16 z353.toNatClampNeg).toInt) (n := (2 : Int)) rfl (by decide) c430) ?_
            refine am_e0 hi_216_30 ?_
            refine am_e18 hi_216_31 ?_
            refine am_e36 hi_216_35 (by decide) ?_
            show am_E _ _ _ _ [some (.ref 39), some (.int on), some (.int tw), some (.int 1)] [.int 1] _ _
            refine am_e12f hi_221_56 (by decide) ?_
            refine am_e2 (v := 39) hi_221_59 rfl ?_
            refine am_e32w (as := [.ref 39]) (la := [some (.ref 39), none]) (rest := []) hi_221_60 (am_hd0 (M := 221) (by decide) 60) (Nat.le_of_ble_eq_true rfl) (Nat.le_of_ble_eq_true rfl) (show 1 ≤ am_P0.2.2.1 217 from by decide +kernel) rfl (am_recv_ok hS263.fs) rfl rfl ?_
            refine am_e2 (v := 39) hi_217_0 rfl ?_
            refine mm_20 (v := .ref 47) hS263 hi_217_1 rfl ?_
            refine am_e2 (v := 39) hi_217_4 rfl ?_
            refine mm_20 (v := .int (f 15)) hS263 hi_217_5 rfl ?_
            refine am_e0 hi_217_8 ?_
            refine am_e10 (z := z353) hi_217_9 hz353 ?_
            refine mm_25 hS263 ma_17 hi_217_10 (by decide) (by omega) (by omega) ?_
            show am_E _ _ _ _ [some (.ref 39), none] [.int (g 17 z353.toNatClampNeg)] _ _
            have r516 : (g 16 z353.toNatClampNeg).toInt = 1 ∨ (g 16 z353.toNatClampNeg).toInt = 2 → 0 ≤ (g 17 z353.toNatClampNeg).toInt ∧ (g 17 z353.toNatClampNeg).toInt < 65536 := RJ.vc hR z353.toNatClampNeg
            refine am_e3 (ls' := [some (.ref 39), some (.int (g 17 z353.toNatClampNeg))]) hi_217_11 (Nat.le_of_ble_eq_true rfl) rfl ?_
            refine am_e2 (v := 39) hi_217_12 rfl ?_
            refine mm_20 (v := .ref 91) hS263 hi_217_13 rfl ?_
            refine am_e1 (v := g 17 z353.toNatClampNeg) hi_217_16 rfl ?_
            refine am_e2 (v := 39) hi_217_17 rfl ?_
            refine mm_20 (v := .ref 46) hS263 hi_217_18 rfl ?_
            refine am_e2 (v := 39) hi_217_21 rfl ?_
            refine mm_20 (v := .int (f 15)) hS263 hi_217_22 rfl ?_
            refine am_e0 hi_217_25 ?_
            refine am_e10 (z := z353) hi_217_26 hz353 ?_
            refine mm_25 hS263 ma_16 hi_217_27 (by decide) (by omega) (by omega) ?_
            show am_E _ _ _ _ [some (.ref 39), some (.int (g 17 z353.toNatClampNeg))] [.int (g 16 z353.toNatClampNeg), .int (g 17 z353.toNatClampNeg), .ref 91] _ _
            refine am_e0 hi_217_28 ?_
            refine am_e13t hi_217_29 (am_cT (m := (g 16 z353.toNatClampNeg).toInt) (n := (1 : Int)) rfl (by decide) (by simp only [am_cI]; omega)) ?_
            refine am_e0 hi_217_45 ?_
            refine mm_26 hS263 ma_72 hi_217_46 (by decide) (by omega) (by omega) (fun h => nomatch h) ?_
            intro S517 hS518
            refine am_e2 (v := 39) hi_217_47 rfl ?_
            refine am_e7 hi_217_48 ?_
            refine mm_20 (v := .int (f 15)) hS518 hi_217_49 rfl ?_
            refine am_e0 hi_217_52 ?_
            refine am_e10 (z := z353) hi_217_53 hz353 ?_
            refine mm_21 (v := z353) hS518 hi_217_54 rfl (Nat.le_of_ble_eq_true rfl) ms_15 ?_
            intro S519 hS520
            have hp521 : mj_n (g 16) (f 15).toNatClampNeg 3 = mj_n (g 16) z353.toNatClampNeg 3 + if (g 16 z353.toNatClampNeg).toInt = 3 then 1 else 0 := mj_pop (by rw [cl_toNat, cl_toNat]; omega)
            have hp5211 : mj_n (g 16) z353.toNatClampNeg 3 ≤ mj_n (g 16) (f 15).toNatClampNeg 3 := by rw [hp521]; split <;> omega
            have hp5212 : (g 16 z353.toNatClampNeg).toInt = 3 → mj_n (g 16) z353.toNatClampNeg 3 + 1 ≤ mj_n (g 16) (f 15).toNatClampNeg 3 := fun q => by rw [hp521, if_pos q]; exact Int.le_refl _
            refine am_e35 hi_217_57 ?_
            show am_E _ _ _ _ [some (.ref 39), some (.int on), some (.int tw), some (.int 1)] [] _ _
            refine am_e2 (v := 39) hi_221_63 rfl ?_
            refine am_e0 hi_221_64 ?_
            refine am_e1 (v := on) hi_221_66 rfl ?_
            refine am_e0 hi_221_67 ?_
            refine am_e1 (v := tw) hi_221_68 rfl ?_
            refine am_e32n (as := [.ref 39, .int 24, .int on, .int 0, .int tw]) (la := [some (.ref 39), some (.int 24), some (.int on), some (.int 0), some (.int tw)]) (rest := []) hi_221_69 (am_hd0 (M := 221) (by decide) 69) (Nat.le_of_ble_eq_true rfl) (Nat.le_of_ble_eq_true rfl) (show 5 ≤ am_P0.2.2.1 189 from by decide +kernel) rfl (am_recv_ok hS520.fs) rfl rfl (ct_put (d := (d + 5)) hS520 hR  (by show (0 : Int) ≤ (f 32).toInt; omega) (by show (f 32).toInt ≤ (63 : Int); omega) (by show (f 53).toInt ≤ (4096 : Int); omega) (by show (0 : Int) ≤ (f 68).toInt; omega) (by show (f 68).toInt ≤ (65534 : Int); omega)) ?_
            rintro v522 S523 (⟨z524, r525, g'526, hv527, hS528, hR532, h529, h530, h531⟩)
            subst hv527
            have h529_ : z524.toInt = (f 68).toInt + 1 := h529
            have h530_ : r525.toInt = (f 68).toInt := h530
            have h531_ : ∀ j, j ∉ [60, 69, 70, 71, 72, 73] → g'526 j = (upg g 72 (g 17 z353.toNatClampNeg).toNatClampNeg 0) j := h531
            have hR532_ : RJ (upd (upd f 15 z353) 68 z524) g'526 gs bc [] 0 ((f 68).toNatClampNeg :: []) := hR532
            show am_E _ _ _ _ [some (.ref 39), some (.int on), some (.int tw), some (.int 1)] [.int r525] _ _
            refine am_e6i hi_221_72 ?_
            refine am_e18 hi_221_73 ?_
            refine am_e2 (v := 39) hi_221_90 rfl ?_
            refine am_e1 (v := on) hi_221_91 rfl ?_
            refine am_e32w (as := [.ref 39, .int on]) (la := [some (.ref 39), some (.int on)]) (rest := []) hi_221_92 (am_hd0 (M := 221) (by decide) 92) (Nat.le_of_ble_eq_true rfl) (Nat.le_of_ble_eq_true rfl) (show 2 ≤ am_P0.2.2.1 220 from by decide +kernel) rfl (am_recv_ok hS528.fs) rfl rfl ?_
            refine am_e2 (v := 39) hi_220_0 rfl ?_
            refine am_e32n (as := [.ref 39]) (la := [some (.ref 39)]) (rest := []) hi_220_1 (am_hd0 (M := 220) (by decide) 1) (Nat.le_of_ble_eq_true rfl) (Nat.le_of_ble_eq_true rfl) (show 1 ≤ am_P0.2.2.1 183 from by decide +kernel) rfl (am_recv_ok hS528.fs) rfl rfl (ct_next (d := (d + 3)) hS528   (by show (0 : Int) ≤ (f 4).toInt; omega) (by show (f 0).toInt ≤ (16384 : Int); omega)) ?_
            rintro v533 S534 (⟨r535, hv536, hS537, h538⟩)
            subst hv536
            have h538_ : (f 4).toInt < (f 0).toInt ∨ r535.toInt = (-1 : Int) := h538
            show am_E _ _ _ _ [some (.ref 39), some (.int on)] [.int r535] _ _
            refine am_e0 hi_220_4 ?_
            by_cases c540 : r535.toInt = (69 : Int)
            · refine am_e13t hi_220_6 (am_cT (m := r535.toInt) (n := (69 : Int)) rfl (by decide) c540) ?_
              refine am_e2 (v := 39) hi_220_18 rfl ?_
              refine am_e7 hi_220_19 ?_
              refine mm_20 (v := .int (f 4)) hS537 hi_220_20 rfl ?_
              refine am_e0 hi_220_23 ?_
              refine am_e10 (z := z258) hi_220_24 hz258 ?_
              refine mm_21 (v := z258) hS537 hi_220_25 rfl (Nat.le_of_ble_eq_true rfl) ms_4 ?_
              intro S541 hS542
              replace hS542 : MS S0 S541 (upd (upd (upd f 4 z258) 15 z353) 68 z524) g'526 := hS542
              have hR543 : RJ (upd (upd (upd f 4 z258) 15 z353) 68 z524) g'526 gs bc [] 0 ((f 68).toNatClampNeg :: []) := RJ.at hR532_ (by show (f 4).toInt ≤ z258.toInt; omega)
              refine am_e2 (v := 39) hi_220_28 rfl ?_
              refine am_e0 hi_220_29 ?_
              refine am_e1 (v := on) hi_220_31 rfl ?_
              refine am_e0 hi_220_32 ?_
              refine am_e0 hi_220_33 ?_
              refine am_e32n (as := [.ref 39, .int 35, .int on, .int 0, .int 0]) (la := [some (.ref 39), some (.int 35), some (.int on), some (.int 0), some (.int 0)]) (rest := []) hi_220_34 (am_hd0 (M := 220) (by decide) 34) (Nat.le_of_ble_eq_true rfl) (Nat.le_of_ble_eq_true rfl) (show 5 ≤ am_P0.2.2.1 179 from by decide +kernel) rfl (am_recv_ok hS542.fs) rfl rfl (ct_pile (d := (d + 4)) hS542 hR543 (mj_e_plain (by decide)) (by show (0 : Int) ≤ (f 10).toInt; omega) (by show (f 10).toInt ≤ (65535 : Int); omega)) ?_
              rintro v544 S545 (⟨z546, g'547, hv548, hS549, hR552, h550, h551⟩)
              subst hv548
              have h550_ : z546.toInt = (f 10).toInt + 1 := h550
              have h551_ : ∀ j, j ∉ [11, 12, 13, 14] → g'547 j = g'526 j := h551
              replace hS549 : MS S0 S545 (upd (upd (upd (upd f 4 z258) 10 z546) 15 z353) 68 z524) g'547 := hS549
              have hR552_ : RJ (upd (upd (upd (upd f 4 z258) 10 z546) 15 z353) 68 z524) g'547 (((35 : Int), on.toInt, (0 : Int), (0 : Int), []) :: gs) bc [] 0 ((f 68).toNatClampNeg :: []) := hR552
              show am_E _ _ _ _ [some (.ref 39), some (.int on)] [] _ _
              refine am_e18 hi_220_37 ?_
              refine am_e35 hi_220_47 ?_
              show am_E _ _ _ _ [some (.ref 39), some (.int on), some (.int tw), some (.int 1)] [] _ _
              refine am_e35 hi_221_95 ?_
              show am_E _ _ _ _ [some (.ref 39), some (.int 39), some (.int on), some (.int tw)] [] _ _
              refine am_e18 hi_181_366 ?_
              refine am_e35 hi_181_397 ?_
              show am_E _ _ _ _ [some (.ref 39), some (.int 39), some (.int on), some (.int tw), some (.int th)] [] _ _
              refine am_e35 hi_180_13 ?_
              have q1 : mg_p1 (((35 : Int), on.toInt, (0 : Int), (0 : Int), []) :: gs) = 0 + (mg_p1 gs) := rfl
              have q2 : mg_p2 (((35 : Int), on.toInt, (0 : Int), (0 : Int), []) :: gs) = 0 + (mg_p2 gs) := rfl
              have q3 : mg_p3 (((35 : Int), on.toInt, (0 : Int), (0 : Int), []) :: gs) = 3 + (mg_p3 gs) := rfl
              have q4 : mg_p4 (((35 : Int), on.toInt, (0 : Int), (0 : Int), []) :: gs) = 0 + (mg_p4 gs) := rfl
              refine ⟨_, _, _, bc, rfl, hS549, Or.inl ⟨⟨(RJ.fewer (pj' := []) hR552_ (fun _ h => nomatch h)), ?_, ?_⟩, rfl, ?_⟩⟩
              · exact (⟨⟨(show (0 : Int) ≤ 35 from by decide), (show (0 : Int) ≤ z353.toInt from by omega), (show 0 ≤ (f 20).toInt from by omega), (show 1 ≤ (f 37).toInt from by omega), (show 0 ≤ (f 32).toInt from by omega), (show (f 32).toInt ≤ (f 5).toInt from by omega), (show (f 5).toInt ≤ 48 from by omega), (show (f 37).toInt ≤ 2 * ((f 5).toInt) + 2 from by omega), trivial⟩, mg_cast (mg_good_ext _ _ _ _ _ _ (fun i _ => by show g'547 34 i = g 34 i; rw [show g'547 34 = g'526 34 from h551_ 34 (by decide), show g'526 34 = g 34 from h531_ 34 (by decide)]) (fun i _ => by show g'547 38 i = g 38 i; rw [show g'547 38 = g'526 38 from h551_ 38 (by decide), show g'526 38 = g 38 from h531_ 38 (by decide)]) hrest) (by show (f 15).toInt + -1 = z353.toInt + 0; omega) (by show (f 20).toInt = (f 20).toInt; omega) (by show (f 37).toInt + 0 = (f 37).toInt + 0; omega) (by show (f 32).toInt + 0 = (f 32).toInt + 0; omega) (by show (f 5).toInt + -1 = (f 5).toInt + -1; omega)⟩ : mg_good (g'547 34) (g'547 38) (((35 : Int), on.toInt, (0 : Int), (0 : Int), []) :: gs) (z353.toInt) ((f 20).toInt) ((f 37).toInt) ((f 32).toInt) ((f 5).toInt))
              · exact ⟨(by show 0 ≤ z258.toInt; omega), (by show z258.toInt ≤ (f 0).toInt; omega), (by show (f 0).toInt ≤ 512; omega), (by show 0 ≤ (f 24).toInt; omega), (by show (f 24).toInt + (f 20).toInt + mg_p1 (((35 : Int), on.toInt, (0 : Int), (0 : Int), []) :: gs) ≤ 4 * z258.toInt; omega), (by show (f 20).toInt ≤ z258.toInt; omega), (by show z353.toInt + mg_p2 (((35 : Int), on.toInt, (0 : Int), (0 : Int), []) :: gs) ≤ z258.toInt; omega), (by show mg_p3 (((35 : Int), on.toInt, (0 : Int), (0 : Int), []) :: gs) ≤ 20 * z258.toInt + 20; omega), (by show 0 ≤ z524.toInt; omega), (by show z524.toInt + 3 * (f 20).toInt + mg_p4 (((35 : Int), on.toInt, (0 : Int), (0 : Int), []) :: gs) ≤ 60 * z258.toInt + 60; omega), (by show 0 ≤ (f 62).toInt; omega), (by show (f 62).toInt + 64 * mj_n (g'547 16) z353.toNatClampNeg 3 ≤ 64 * z258.toInt; rw [show g'547 16 = g'526 16 from h551_ 16 (by decide), show g'526 16 = g 16 from h531_ 16 (by decide)]; omega), (by show 0 ≤ (f 44).toInt; omega), (by show (f 44).toInt ≤ z258.toInt; omega), (by show 0 ≤ (f 48).toInt; omega), (by show (f 48).toInt ≤ z258.toInt; omega), (by show 1 ≤ (f 53).toInt; omega), (by show (f 53).toInt ≤ z258.toInt + 1; omega)⟩
              · show 100 * ((f 0).toInt - z258.toInt) + mg_p3 (((35 : Int), on.toInt, (0 : Int), (0 : Int), []) :: gs) < 100 * ((f 0).toInt - (f 4).toInt) + (1 + mg_p3 gs); omega
            · refine am_e13f hi_220_6 (am_cF (m := r535.toInt) (n := (69 : Int)) rfl (by decide) c540) ?_
              refine am_e2 (v := 39) hi_220_9 rfl ?_
              refine am_e32n (as := [.ref 39]) (la := [some (.ref 39)]) (rest := []) hi_220_10 (am_hd0 (M := 220) (by decide) 10) (Nat.le_of_ble_eq_true rfl) (Nat.le_of_ble_eq_true rfl) (show 1 ≤ am_P0.2.2.1 183 from by decide +kernel) rfl (am_recv_ok hS537.fs) rfl rfl (ct_next (d := (d + 3)) hS537   (by show (0 : Int) ≤ (f 4).toInt; omega) (by show (f 0).toInt ≤ (16384 : Int); omega)) ?_
              rintro v553 S554 (⟨r555, hv556, hS557, h558⟩)
              subst hv556
              have h558_ : (f 4).toInt < (f 0).toInt ∨ r555.toInt = (-1 : Int) := h558
              show am_E _ _ _ _ [some (.ref 39), some (.int on)] [.int r555] _ _
              refine am_e0 hi_220_13 ?_
              by_cases c560 : ¬ r555.toInt = (67 : Int)
              · refine am_e13t hi_220_15 (am_cT (m := r555.toInt) (n := (67 : Int)) rfl (by decide) c560) ?_
                refine am_e2 (v := 39) hi_220_40 rfl ?_
                refine am_e0 hi_220_41 ?_
                refine am_e32n (as := [.ref 39, .int 63]) (la := [some (.ref 39), some (.int 63)]) (rest := []) hi_220_43 (am_hd0 (M := 220) (by decide) 43) (Nat.le_of_ble_eq_true rfl) (Nat.le_of_ble_eq_true rfl) (show 2 ≤ am_P0.2.2.1 199 from by decide +kernel) rfl (am_recv_ok hS557.fs) rfl rfl (ct_leave (d := (d + 1)) hS557   (by show (0 : Int) ≤ (f 4).toInt; omega) (by show (f 0).toInt ≤ (16384 : Int); omega) (by show (0 : Int) ≤ (63 : Int); omega) (by show (0 : Int) ≤ (f 5).toInt; omega) (by show (f 5).toInt ≤ (48 : Int); omega)) ?_
                rintro v561 S562 (⟨z563, y564, hv565, hS566, h567, h568, h569⟩ | ⟨a571, b572, hv573, hS574⟩)
                · subst hv565
                  have h567_ : z563.toInt = (f 4).toInt + 1 := h567
                  have h568_ : (f 4).toInt < (f 0).toInt := h568
                  have h569_ : y564.toInt = (f 5).toInt - 1 := h569
                  replace hS566 : MS S0 S562 (upd (upd (upd (upd f 4 z563) 5 y564) 15 z353) 68 z524) g'526 := hS566
                  have hR576 : RJ (upd (upd (upd (upd f 4 z563) 5 y564) 15 z353) 68 z524) g'526 gs bc [] 0 ((f 68).toNatClampNeg :: []) := RJ.at hR532_ (by show (f 4).toInt ≤ z563.toInt; omega)
                  show am_E _ _ _ _ [some (.ref 39), some (.int on)] [.int 1] _ _
                  refine am_e6i hi_220_46 ?_
                  refine am_e35 hi_220_47 ?_
                  show am_E _ _ _ _ [some (.ref 39), some (.int on), some (.int tw), some (.int 1)] [] _ _
                  refine am_e35 hi_221_95 ?_
                  show am_E _ _ _ _ [some (.ref 39), some (.int 39), some (.int on), some (.int tw)] [] _ _
                  refine am_e18 hi_181_366 ?_
                  refine am_e35 hi_181_397 ?_
                  show am_E _ _ _ _ [some (.ref 39), some (.int 39), some (.int on), some (.int tw), some (.int th)] [] _ _
                  refine am_e35 hi_180_13 ?_
                  have q1 : mg_p1 gs = mg_p1 gs := rfl
                  have q2 : mg_p2 gs = mg_p2 gs := rfl
                  have q3 : mg_p3 gs = mg_p3 gs := rfl
                  have q4 : mg_p4 gs = mg_p4 gs := rfl
                  refine ⟨_, _, _, bc, rfl, hS566, Or.inl ⟨⟨(RJ.fewer (pj' := []) hR576 (fun _ h => nomatch h)), ?_, ?_⟩, rfl, ?_⟩⟩
                  · exact (mg_cast (mg_good_ext _ _ _ _ _ _ (fun i _ => by show g'526 34 i = g 34 i; rw [show g'526 34 = g 34 from h531_ 34 (by decide)]) (fun i _ => by show g'526 38 i = g 38 i; rw [show g'526 38 = g 38 from h531_ 38 (by decide)]) hrest) (by show (f 15).toInt + -1 = z353.toInt; omega) (by show (f 20).toInt = (f 20).toInt; omega) (by show (f 37).toInt + 0 = (f 37).toInt; omega) (by show (f 32).toInt + 0 = (f 32).toInt; omega) (by show (f 5).toInt + -1 = y564.toInt; omega) : mg_good (g'526 34) (g'526 38) gs (z353.toInt) ((f 20).toInt) ((f 37).toInt) ((f 32).toInt) (y564.toInt))
                  · exact ⟨(by show 0 ≤ z563.toInt; omega), (by show z563.toInt ≤ (f 0).toInt; omega), (by show (f 0).toInt ≤ 512; omega), (by show 0 ≤ (f 24).toInt; omega), (by show (f 24).toInt + (f 20).toInt + mg_p1 gs ≤ 4 * z563.toInt; omega), (by show (f 20).toInt ≤ z563.toInt; omega), (by show z353.toInt + mg_p2 gs ≤ z563.toInt; omega), (by show mg_p3 gs ≤ 20 * z563.toInt + 20; omega), (by show 0 ≤ z524.toInt; omega), (by show z524.toInt + 3 * (f 20).toInt + mg_p4 gs ≤ 60 * z563.toInt + 60; omega), (by show 0 ≤ (f 62).toInt; omega), (by show (f 62).toInt + 64 * mj_n (g'526 16) z353.toNatClampNeg 3 ≤ 64 * z563.toInt; rw [show g'526 16 = g 16 from h531_ 16 (by decide)]; omega), (by show 0 ≤ (f 44).toInt; omega), (by show (f 44).toInt ≤ z563.toInt; omega), (by show 0 ≤ (f 48).toInt; omega), (by show (f 48).toInt ≤ z563.toInt; omega), (by show 1 ≤ (f 53).toInt; omega), (by show (f 53).toInt ≤ z563.toInt + 1; omega)⟩
                  · show 100 * ((f 0).toInt - z563.toInt) + mg_p3 gs < 100 * ((f 0).toInt - (f 4).toInt) + (1 + mg_p3 gs); omega
                · subst hv573
                  replace hS574 : MS S0 S562 (upd (upd (upd (upd (upd f 6 a571) 7 b572) 10 0) 15 z353) 68 z524) g'526 := hS574
                  show am_E _ _ _ _ [some (.ref 39), some (.int on)] [.int 0] _ _
                  refine am_e6i hi_220_46 ?_
                  refine am_e35 hi_220_47 ?_
                  show am_E _ _ _ _ [some (.ref 39), some (.int on), some (.int tw), some (.int 1)] [] _ _
                  refine am_e35 hi_221_95 ?_
                  show am_E _ _ _ _ [some (.ref 39), some (.int 39), some (.int on), some (.int tw)] [] _ _
                  refine am_e18 hi_181_366 ?_
                  refine am_e35 hi_181_397 ?_
                  show am_E _ _ _ _ [some (.ref 39), some (.int 39), some (.int on), some (.int tw), some (.int th)] [] _ _
                  refine am_e35 hi_180_13 ?_
                  have hRc := rj_clear0 hR532_
                  refine ⟨_, _, [], _, rfl, hS574, Or.inr ⟨hRc, rfl, (by show 0 ≤ (f 4).toInt; omega), (by show (f 4).toInt ≤ (f 0).toInt; omega), (by show 0 ≤ (f 32).toInt; omega), (by show (f 32).toInt ≤ 63; omega), (by show 1 ≤ (f 53).toInt; omega), (by show (f 53).toInt ≤ 600; omega), (by show 0 ≤ z524.toInt; omega), (by show z524.toInt ≤ 60000; omega), (by show 0 ≤ (f 48).toInt; omega), (by show (f 48).toInt ≤ 8000; omega), (by show 0 ≤ (f 37).toInt; omega), (by show (f 37).toInt ≤ 128; omega), (by show 0 ≤ (f 62).toInt; omega), (by show (f 62).toInt ≤ 65000; omega)⟩⟩
              · refine am_e13f hi_220_15 (am_cF (m := r555.toInt) (n := (67 : Int)) rfl (by decide) c560) ?_
                refine am_e2 (v := 39) hi_220_18 rfl ?_
                refine am_e7 hi_220_19 ?_
                refine mm_20 (v := .int (f 4)) hS557 hi_220_20 rfl ?_
                refine am_e0 hi_220_23 ?_
                refine am_e10 (z := z258) hi_220_24 hz258 ?_
                refine mm_21 (v := z258) hS557 hi_220_25 rfl (Nat.le_of_ble_eq_true rfl) ms_4 ?_
                intro S577 hS578
                replace hS578 : MS S0 S577 (upd (upd (upd f 4 z258) 15 z353) 68 z524) g'526 := hS578
                have hR579 : RJ (upd (upd (upd f 4 z258) 15 z353) 68 z524) g'526 gs bc [] 0 ((f 68).toNatClampNeg :: []) := RJ.at hR532_ (by show (f 4).toInt ≤ z258.toInt; omega)
                refine am_e2 (v := 39) hi_220_28 rfl ?_
                refine am_e0 hi_220_29 ?_
                refine am_e1 (v := on) hi_220_31 rfl ?_
                refine am_e0 hi_220_32 ?_
                refine am_e0 hi_220_33 ?_
                refine am_e32n (as := [.ref 39, .int 35, .int on, .int 0, .int 0]) (la := [some (.ref 39), some (.int 35), some (.int on), some (.int 0), some (.int 0)]) (rest := []) hi_220_34 (am_hd0 (M := 220) (by decide) 34) (Nat.le_of_ble_eq_true rfl) (Nat.le_of_ble_eq_true rfl) (show 5 ≤ am_P0.2.2.1 179 from by decide +kernel) rfl (am_recv_ok hS578.fs) rfl rfl (ct_pile (d := (d + 4)) hS578 hR579 (mj_e_plain (by decide)) (by show (0 : Int) ≤ (f 10).toInt; omega) (by show (f 10).toInt ≤ (65535 : Int); omega)) ?_
                rintro v580 S581 (⟨z582, g'583, hv584, hS585, hR588, h586, h587⟩)
                subst hv584
                have h586_ : z582.toInt = (f 10).toInt + 1 := h586
                have h587_ : ∀ j, j ∉ [11, 12, 13, 14] → g'583 j = g'526 j := h587
                replace hS585 : MS S0 S581 (upd (upd (upd (upd f 4 z258) 10 z582) 15 z353) 68 z524) g'583 := hS585
                have hR588_ : RJ (upd (upd (upd (upd f 4 z258) 10 z582) 15 z353) 68 z524) g'583 (((35 : Int), on.toInt, (0 : Int), (0 : Int), []) :: gs) bc [] 0 ((f 68).toNatClampNeg :: []) := hR588
                show am_E _ _ _ _ [some (.ref 39), some (.int on)] [] _ _
                refine am_e18 hi_220_37 ?_
                refine am_e35 hi_220_47 ?_
                show am_E _ _ _ _ [some (.ref 39), some (.int on), some (.int tw), some (.int 1)] [] _ _
                refine am_e35 hi_221_95 ?_
                show am_E _ _ _ _ [some (.ref 39), some (.int 39), some (.int on), some (.int tw)] [] _ _
                refine am_e18 hi_181_366 ?_
                refine am_e35 hi_181_397 ?_
                show am_E _ _ _ _ [some (.ref 39), some (.int 39), some (.int on), some (.int tw), some (.int th)] [] _ _
                refine am_e35 hi_180_13 ?_
                have q1 : mg_p1 (((35 : Int), on.toInt, (0 : Int), (0 : Int), []) :: gs) = 0 + (mg_p1 gs) := rfl
                have q2 : mg_p2 (((35 : Int), on.toInt, (0 : Int), (0 : Int), []) :: gs) = 0 + (mg_p2 gs) := rfl
                have q3 : mg_p3 (((35 : Int), on.toInt, (0 : Int), (0 : Int), []) :: gs) = 3 + (mg_p3 gs) := rfl
                have q4 : mg_p4 (((35 : Int), on.toInt, (0 : Int), (0 : Int), []) :: gs) = 0 + (mg_p4 gs) := rfl
                refine ⟨_, _, _, bc, rfl, hS585, Or.inl ⟨⟨(RJ.fewer (pj' := []) hR588_ (fun _ h => nomatch h)), ?_, ?_⟩, rfl, ?_⟩⟩
                · exact (⟨⟨(show (0 : Int) ≤ 35 from by decide), (show (0 : Int) ≤ z353.toInt from by omega), (show 0 ≤ (f 20).toInt from by omega), (show 1 ≤ (f 37).toInt from by omega), (show 0 ≤ (f 32).toInt from by omega), (show (f 32).toInt ≤ (f 5).toInt from by omega), (show (f 5).toInt ≤ 48 from by omega), (show (f 37).toInt ≤ 2 * ((f 5).toInt) + 2 from by omega), trivial⟩, mg_cast (mg_good_ext _ _ _ _ _ _ (fun i _ => by show g'583 34 i = g 34 i; rw [show g'583 34 = g'526 34 from h587_ 34 (by decide), show g'526 34 = g 34 from h531_ 34 (by decide)]) (fun i _ => by show g'583 38 i = g 38 i; rw [show g'583 38 = g'526 38 from h587_ 38 (by decide), show g'526 38 = g 38 from h531_ 38 (by decide)]) hrest) (by show (f 15).toInt + -1 = z353.toInt + 0; omega) (by show (f 20).toInt = (f 20).toInt; omega) (by show (f 37).toInt + 0 = (f 37).toInt + 0; omega) (by show (f 32).toInt + 0 = (f 32).toInt + 0; omega) (by show (f 5).toInt + -1 = (f 5).toInt + -1; omega)⟩ : mg_good (g'583 34) (g'583 38) (((35 : Int), on.toInt, (0 : Int), (0 : Int), []) :: gs) (z353.toInt) ((f 20).toInt) ((f 37).toInt) ((f 32).toInt) ((f 5).toInt))
                · exact ⟨(by show 0 ≤ z258.toInt; omega), (by show z258.toInt ≤ (f 0).toInt; omega), (by show (f 0).toInt ≤ 512; omega), (by show 0 ≤ (f 24).toInt; omega), (by show (f 24).toInt + (f 20).toInt + mg_p1 (((35 : Int), on.toInt, (0 : Int), (0 : Int), []) :: gs) ≤ 4 * z258.toInt; omega), (by show (f 20).toInt ≤ z258.toInt; omega), (by show z353.toInt + mg_p2 (((35 : Int), on.toInt, (0 : Int), (0 : Int), []) :: gs) ≤ z258.toInt; omega), (by show mg_p3 (((35 : Int), on.toInt, (0 : Int), (0 : Int), []) :: gs) ≤ 20 * z258.toInt + 20; omega), (by show 0 ≤ z524.toInt; omega), (by show z524.toInt + 3 * (f 20).toInt + mg_p4 (((35 : Int), on.toInt, (0 : Int), (0 : Int), []) :: gs) ≤ 60 * z258.toInt + 60; omega), (by show 0 ≤ (f 62).toInt; omega), (by show (f 62).toInt + 64 * mj_n (g'583 16) z353.toNatClampNeg 3 ≤ 64 * z258.toInt; rw [show g'583 16 = g'526 16 from h587_ 16 (by decide), show g'526 16 = g 16 from h531_ 16 (by decide)]; omega), (by show 0 ≤ (f 44).toInt; omega), (by show (f 44).toInt ≤ z258.toInt; omega), (by show 0 ≤ (f 48).toInt; omega), (by show (f 48).toInt ≤ z258.toInt; omega), (by show 1 ≤ (f 53).toInt; omega), (by show (f 53).toInt ≤ z258.toInt + 1; omega)⟩
                · show 100 * ((f 0).toInt - z258.toInt) + mg_p3 (((35 : Int), on.toInt, (0 : Int), (0 : Int), []) :: gs) < 100 * ((f 0).toInt - (f 4).toInt) + (1 + mg_p3 gs); omega
    · refine am_e13f hi_221_15 (am_cF (m := r252.toInt) (n := (69 : Int)) rfl (by decide) c257) ?_
      refine am_e2 (v := 39) hi_221_18 rfl ?_
      refine am_e32n (as := [.ref 39]) (la := [some (.ref 39)]) (rest := []) hi_221_19 (am_hd0 (M := 221) (by decide) 19) (Nat.le_of_ble_eq_true rfl) (Nat.le_of_ble_eq_true rfl) (show 1 ≤ am_P0.2.2.1 183 from by decide +kernel) rfl (am_recv_ok hS254.fs) rfl rfl (ct_next (d := (d + 4)) hS254   (by show (0 : Int) ≤ (f 4).toInt; omega) (by show (f 0).toInt ≤ (16384 : Int); omega)) ?_
      rintro v589 S590 (⟨r591, hv592, hS593, h594⟩)
      subst hv592
      have h594_ : (f 4).toInt < (f 0).toInt ∨ r591.toInt = (-1 : Int) := h594
      show am_E _ _ _ _ [some (.ref 39), some (.int on), some (.int tw), none] [.int r591] _ _
      refine am_e0 hi_221_22 ?_
      by_cases c596 : ¬ r591.toInt = (67 : Int)
      · refine am_e13t hi_221_24 (am_cT (m := r591.toInt) (n := (67 : Int)) rfl (by decide) c596) ?_
        refine am_e0 hi_221_46 ?_
        refine am_e3 (ls' := [some (.ref 39), some (.int on), some (.int tw), some (.int 0)]) hi_221_47 (Nat.le_of_ble_eq_true rfl) rfl ?_
        refine am_e1 (v := 0) hi_221_48 rfl ?_
        refine am_e12t hi_221_49 (by decide) ?_
        refine am_e2 (v := 39) hi_221_76 rfl ?_
        refine am_e32w (as := [.ref 39]) (la := [some (.ref 39)]) (rest := []) hi_221_77 (am_hd0 (M := 221) (by decide) 77) (Nat.le_of_ble_eq_true rfl) (Nat.le_of_ble_eq_true rfl) (show 1 ≤ am_P0.2.2.1 209 from by decide +kernel) rfl (am_recv_ok hS593.fs) rfl rfl ?_
        refine am_e2 (v := 39) hi_209_0 rfl ?_
        refine am_e32n (as := [.ref 39]) (la := [some (.ref 39), none, none, none]) (rest := []) hi_209_1 (am_hd0 (M := 209) (by decide) 1) (Nat.le_of_ble_eq_true rfl) (Nat.le_of_ble_eq_true rfl) (show 1 ≤ am_P0.2.2.1 204 from by decide +kernel) rfl (am_recv_ok hS593.fs) rfl rfl (ct_load (d := (d + 2)) hS593 hR  (by show (0 : Int) ≤ (f 32).toInt; omega) (by show (f 32).toInt ≤ (63 : Int); omega) (by show (f 53).toInt ≤ (4096 : Int); omega) (by show (0 : Int) ≤ (f 68).toInt; omega) (by show (f 68).toInt ≤ (65534 : Int); omega) (by show (1 : Int) ≤ (f 15).toInt; omega) (by show (f 15).toInt ≤ (32767 : Int); omega) (by show (0 : Int) ≤ (f 24).toInt; omega) (by show (f 24).toInt ≤ (16384 : Int); omega) (by show (0 : Int) ≤ (f 62).toInt; omega) (by show (f 62).toInt ≤ (65000 : Int); omega)) ?_
        rintro v597 S598 (⟨o599, s600, m601, g'602, hv603, hS604, hR611, h605, h606, h607, h608, h609, h610⟩)
        subst hv603
        have h605_ : (f 62).toInt ≤ o599.toInt := h605
        have h606_ : o599.toInt ≤ (f 62).toInt + 64 := h606
        have h607_ : (f 68).toInt ≤ s600.toInt := h607
        have h608_ : s600.toInt ≤ (f 68).toInt + 1 := h608
        have h609_ : o599.toInt + 64 * mj_n (g'602 16) (f 15).toNatClampNeg 3 ≤ (f 62).toInt + 64 * mj_n (g 16) (f 15).toNatClampNeg 3 := h609
        have h610_ : ∀ j, j ∉ [16, 60, 63, 64, 65, 66, 67, 69, 70, 71, 72, 73] → g'602 j = g j := h610
        have hR611_ : RJ (upd (upd (upd f 62 o599) 68 s600) 75 m601) g'602 gs bc [] 0 [] := hR611
        show am_E _ _ _ _ [some (.ref 39)] [] _ _
        refine am_e2 (v := 39) hi_209_4 rfl ?_
        refine am_e7 hi_209_5 ?_
        refine mm_20 (v := .int (f 15)) hS604 hi_209_6 rfl ?_
        refine am_e0 hi_209_9 ?_
        obtain ⟨z612, hz612, tz612⟩ := am_subI (x := f 15) (y := 1) (m := (f 15).toInt) (n := (1 : Int)) rfl (by decide) (by omega) (by omega)
        refine am_e10 (z := z612) hi_209_10 hz612 ?_
        refine mm_21 (v := z612) hS604 hi_209_11 rfl (Nat.le_of_ble_eq_true rfl) ms_15 ?_
        intro S613 hS614
        replace hS614 : MS S0 S613 (upd (upd (upd (upd f 15 z612) 62 o599) 68 s600) 75 m601) g'602 := hS614
        have hp615 : mj_n (g'602 16) (f 15).toNatClampNeg 3 = mj_n (g'602 16) z612.toNatClampNeg 3 + if (g'602 16 z612.toNatClampNeg).toInt = 3 then 1 else 0 := mj_pop (by rw [cl_toNat, cl_toNat]; omega)
        have hp6151 : mj_n (g'602 16) z612.toNatClampNeg 3 ≤ mj_n (g'602 16) (f 15).toNatClampNeg 3 := by rw [hp615]; split <;> omega
        have hp6152 : (g'602 16 z612.toNatClampNeg).toInt = 3 → mj_n (g'602 16) z612.toNatClampNeg 3 + 1 ≤ mj_n (g'602 16) (f 15).toNatClampNeg 3 := fun q => by rw [hp615, if_pos q]; exact Int.le_refl _
        refine am_e35 hi_209_14 ?_
        show am_E _ _ _ _ [some (.ref 39), some (.int on), some (.int tw), some (.int 0)] [] _ _
        refine am_e2 (v := 39) hi_221_80 rfl ?_
        refine am_e0 hi_221_81 ?_
        refine am_e1 (v := on) hi_221_83 rfl ?_
        refine am_e0 hi_221_84 ?_
        refine am_e1 (v := tw) hi_221_85 rfl ?_
        refine am_e32n (as := [.ref 39, .int 23, .int on, .int 0, .int tw]) (la := [some (.ref 39), some (.int 23), some (.int on), some (.int 0), some (.int tw)]) (rest := []) hi_221_86 (am_hd0 (M := 221) (by decide) 86) (Nat.le_of_ble_eq_true rfl) (Nat.le_of_ble_eq_true rfl) (show 5 ≤ am_P0.2.2.1 189 from by decide +kernel) rfl (am_recv_ok hS614.fs) rfl rfl (ct_put (d := (d + 5)) hS614 hR611_  (by show (0 : Int) ≤ (f 32).toInt; omega) (by show (f 32).toInt ≤ (63 : Int); omega) (by show (f 53).toInt ≤ (4096 : Int); omega) (by show (0 : Int) ≤ s600.toInt; omega) (by show s600.toInt ≤ (65534 : Int); omega)) ?_
        rintro v616 S617 (⟨z618, r619, g'620, hv621, hS622, hR626, h623, h624, h625⟩)
        subst hv621
        have h623_ : z618.toInt = s600.toInt + 1 := h623
        have h624_ : r619.toInt = s600.toInt := h624
        have h625_ : ∀ j, j ∉ [60, 69, 70, 71, 72, 73] → g'620 j = g'602 j := h625
        replace hS622 : MS S0 S617 (upd (upd (upd (upd f 15 z612) 62 o599) 68 z618) 75 m601) g'620 := hS622
        have hR626_ : RJ (upd (upd (upd (upd f 15 z612) 62 o599) 68 z618) 75 m601) g'620 gs bc [] 0 (s600.toNatClampNeg :: []) := hR626
        show am_E _ _ _ _ [some (.ref 39), some (.int on), some (.int tw), some (.int 0)] [.int r619] _ _
        refine am_e6i hi_221_89 ?_
        refine am_e2 (v := 39) hi_221_90 rfl ?_
        refine am_e1 (v := on) hi_221_91 rfl ?_
        refine am_e32w (as := [.ref 39, .int on]) (la := [some (.ref 39), some (.int on)]) (rest := []) hi_221_92 (am_hd0 (M := 221) (by decide) 92) (Nat.le_of_ble_eq_true rfl) (Nat.le_of_ble_eq_true rfl) (show 2 ≤ am_P0.2.2.1 220 from by decide +kernel) rfl (am_recv_ok hS622.fs) rfl rfl ?_
        refine am_e2 (v := 39) hi_220_0 rfl ?_
        refine am_e32n (as := [.ref 39]) (la := [some (.ref 39)]) (rest := []) hi_220_1 (am_hd0 (M := 220) (by decide) 1) (Nat.le_of_ble_eq_true rfl) (Nat.le_of_ble_eq_true rfl) (show 1 ≤ am_P0.2.2.1 183 from by decide +kernel) rfl (am_recv_ok hS622.fs) rfl rfl (ct_next (d := (d + 3)) hS622   (by show (0 : Int) ≤ (f 4).toInt; omega) (by show (f 0).toInt ≤ (16384 : Int); omega)) ?_
        rintro v627 S628 (⟨r629, hv630, hS631, h632⟩)
        subst hv630
        have h632_ : (f 4).toInt < (f 0).toInt ∨ r629.toInt = (-1 : Int) := h632
        show am_E _ _ _ _ [some (.ref 39), some (.int on)] [.int r629] _ _
        refine am_e0 hi_220_4 ?_
        by_cases c634 : r629.toInt = (69 : Int)
        · refine am_e13t hi_220_6 (am_cT (m := r629.toInt) (n := (69 : Int)) rfl (by decide) c634) ?_
          refine am_e2 (v := 39) hi_220_18 rfl ?_
          refine am_e7 hi_220_19 ?_
          refine mm_20 (v := .int (f 4)) hS631 hi_220_20 rfl ?_
          refine am_e0 hi_220_23 ?_
          obtain ⟨z635, hz635, tz635⟩ := am_addI (x := f 4) (y := 1) (m := (f 4).toInt) (n := (1 : Int)) rfl (by decide) (by omega) (by omega)
          refine am_e10 (z := z635) hi_220_24 hz635 ?_
          refine mm_21 (v := z635) hS631 hi_220_25 rfl (Nat.le_of_ble_eq_true rfl) ms_4 ?_
          intro S636 hS637
          replace hS637 : MS S0 S636 (upd (upd (upd (upd (upd f 4 z635) 15 z612) 62 o599) 68 z618) 75 m601) g'620 := hS637
          have hR638 : RJ (upd (upd (upd (upd (upd f 4 z635) 15 z612) 62 o599) 68 z618) 75 m601) g'620 gs bc [] 0 (s600.toNatClampNeg :: []) := RJ.at hR626_ (by show (f 4).toInt ≤ z635.toInt; omega)
          refine am_e2 (v := 39) hi_220_28 rfl ?_
          refine am_e0 hi_220_29 ?_
          refine am_e1 (v := on) hi_220_31 rfl ?_
          refine am_e0 hi_220_32 ?_
          refine am_e0 hi_220_33 ?_
          refine am_e32n (as := [.ref 39, .int 35, .int on, .int 0, .int 0]) (la := [some (.ref 39), some (.int 35), some (.int on), some (.int 0), some (.int 0)]) (rest := []) hi_220_34 (am_hd0 (M := 220) (by decide) 34) (Nat.le_of_ble_eq_true rfl) (Nat.le_of_ble_eq_true rfl) (show 5 ≤ am_P0.2.2.1 179 from by decide +kernel) rfl (am_recv_ok hS637.fs) rfl rfl (ct_pile (d := (d + 4)) hS637 hR638 (mj_e_plain (by decide)) (by show (0 : Int) ≤ (f 10).toInt; omega) (by show (f 10).toInt ≤ (65535 : Int); omega)) ?_
          rintro v639 S640 (⟨z641, g'642, hv643, hS644, hR647, h645, h646⟩)
          subst hv643
          have h645_ : z641.toInt = (f 10).toInt + 1 := h645
          have h646_ : ∀ j, j ∉ [11, 12, 13, 14] → g'642 j = g'620 j := h646
          replace hS644 : MS S0 S640 (upd (upd (upd (upd (upd (upd f 4 z635) 10 z641) 15 z612) 62 o599) 68 z618) 75 m601) g'642 := hS644
          have hR647_ : RJ (upd (upd (upd (upd (upd (upd f 4 z635) 10 z641) 15 z612) 62 o599) 68 z618) 75 m601) g'642 (((35 : Int), on.toInt, (0 : Int), (0 : Int), []) :: gs) bc [] 0 (s600.toNatClampNeg :: []) := hR647
          show am_E _ _ _ _ [some (.ref 39), some (.int on)] [] _ _
          refine am_e18 hi_220_37 ?_
          refine am_e35 hi_220_47 ?_
          show am_E _ _ _ _ [some (.ref 39), some (.int on), some (.int tw), some (.int 0)] [] _ _
          refine am_e35 hi_221_95 ?_
          show am_E _ _ _ _ [some (.ref 39), some (.int 39), some (.int on), some (.int tw)] [] _ _
          refine am_e18 hi_181_366 ?_
          refine am_e35 hi_181_397 ?_
          show am_E _ _ _ _ [some (.ref 39), some (.int 39), some (.int on), some (.int tw), some (.int th)] [] _ _
          refine am_e35 hi_180_13 ?_
          have q1 : mg_p1 (((35 : Int), on.toInt, (0 : Int), (0 : Int), []) :: gs) = 0 + (mg_p1 gs) := rfl
          have q2 : mg_p2 (((35 : Int), on.toInt, (0 : Int), (0 : Int), []) :: gs) = 0 + (mg_p2 gs) := rfl
          have q3 : mg_p3 (((35 : Int), on.toInt, (0 : Int), (0 : Int), []) :: gs) = 3 + (mg_p3 gs) := rfl
          have q4 : mg_p4 (((35 : Int), on.toInt, (0 : Int), (0 : Int), []) :: gs) = 0 + (mg_p4 gs) := rfl
          refine ⟨_, _, _, bc, rfl, hS644, Or.inl ⟨⟨(RJ.fewer (pj' := []) hR647_ (fun _ h => nomatch h)), ?_, ?_⟩, rfl, ?_⟩⟩
          · exact (⟨⟨(show (0 : Int) ≤ 35 from by decide), (show (0 : Int) ≤ z612.toInt from by omega), (show 0 ≤ (f 20).toInt from by omega), (show 1 ≤ (f 37).toInt from by omega), (show 0 ≤ (f 32).toInt from by omega), (show (f 32).toInt ≤ (f 5).toInt from by omega), (show (f 5).toInt ≤ 48 from by omega), (show (f 37).toInt ≤ 2 * ((f 5).toInt) + 2 from by omega), trivial⟩, mg_cast (mg_good_ext _ _ _ _ _ _ (fun i _ => by show g'642 34 i = g 34 i; rw [show g'642 34 = g'620 34 from h646_ 34 (by decide), show g'620 34 = g'602 34 from h625_ 34 (by decide), show g'602 34 = g 34 from h610_ 34 (by decide)]) (fun i _ => by show g'642 38 i = g 38 i; rw [show g'642 38 = g'620 38 from h646_ 38 (by decide), show g'620 38 = g'602 38 from h625_ 38 (by decide), show g'602 38 = g 38 from h610_ 38 (by decide)]) hrest) (by show (f 15).toInt + -1 = z612.toInt + 0; omega) (by show (f 20).toInt = (f 20).toInt; omega) (by show (f 37).toInt + 0 = (f 37).toInt + 0; omega) (by show (f 32).toInt + 0 = (f 32).toInt + 0; omega) (by show (f 5).toInt + -1 = (f 5).toInt + -1; omega)⟩ : mg_good (g'642 34) (g'642 38) (((35 : Int), on.toInt, (0 : Int), (0 : Int), []) :: gs) (z612.toInt) ((f 20).toInt) ((f 37).toInt) ((f 32).toInt) ((f 5).toInt))
          · exact ⟨(by show 0 ≤ z635.toInt; omega), (by show z635.toInt ≤ (f 0).toInt; omega), (by show (f 0).toInt ≤ 512; omega), (by show 0 ≤ (f 24).toInt; omega), (by show (f 24).toInt + (f 20).toInt + mg_p1 (((35 : Int), on.toInt, (0 : Int), (0 : Int), []) :: gs) ≤ 4 * z635.toInt; omega), (by show (f 20).toInt ≤ z635.toInt; omega), (by show z612.toInt + mg_p2 (((35 : Int), on.toInt, (0 : Int), (0 : Int), []) :: gs) ≤ z635.toInt; omega), (by show mg_p3 (((35 : Int), on.toInt, (0 : Int), (0 : Int), []) :: gs) ≤ 20 * z635.toInt + 20; omega), (by show 0 ≤ z618.toInt; omega), (by show z618.toInt + 3 * (f 20).toInt + mg_p4 (((35 : Int), on.toInt, (0 : Int), (0 : Int), []) :: gs) ≤ 60 * z635.toInt + 60; omega), (by show 0 ≤ o599.toInt; omega), (by show o599.toInt + 64 * mj_n (g'642 16) z612.toNatClampNeg 3 ≤ 64 * z635.toInt; rw [show g'642 16 = g'620 16 from h646_ 16 (by decide), show g'620 16 = g'602 16 from h625_ 16 (by decide)]; omega), (by show 0 ≤ (f 44).toInt; omega), (by show (f 44).toInt ≤ z635.toInt; omega), (by show 0 ≤ (f 48).toInt; omega), (by show (f 48).toInt ≤ z635.toInt; omega), (by show 1 ≤ (f 53).toInt; omega), (by show (f 53).toInt ≤ z635.toInt + 1; omega)⟩
          · show 100 * ((f 0).toInt - z635.toInt) + mg_p3 (((35 : Int), on.toInt, (0 : Int), (0 : Int), []) :: gs) < 100 * ((f 0).toInt - (f 4).toInt) + (1 + mg_p3 gs); omega
        · refine am_e13f hi_220_6 (am_cF (m := r629.toInt) (n := (69 : Int)) rfl (by decide) c634) ?_
          refine am_e2 (v := 39) hi_220_9 rfl ?_
          refine am_e32n (as := [.ref 39]) (la := [some (.ref 39)]) (rest := []) hi_220_10 (am_hd0 (M := 220) (by decide) 10) (Nat.le_of_ble_eq_true rfl) (Nat.le_of_ble_eq_true rfl) (show 1 ≤ am_P0.2.2.1 183 from by decide +kernel) rfl (am_recv_ok hS631.fs) rfl rfl (ct_next (d := (d + 3)) hS631   (by show (0 : Int) ≤ (f 4).toInt; omega) (by show (f 0).toInt ≤ (16384 : Int); omega)) ?_
          rintro v648 S649 (⟨r650, hv651, hS652, h653⟩)
          subst hv651
          have h653_ : (f 4).toInt < (f 0).toInt ∨ r650.toInt = (-1 : Int) := h653
          show am_E _ _ _ _ [some (.ref 39), some (.int on)] [.int r650] _ _
          refine am_e0 hi_220_13 ?_
          by_cases c655 : ¬ r650.toInt = (67 : Int)
          · refine am_e13t hi_220_15 (am_cT (m := r650.toInt) (n := (67 : Int)) rfl (by decide) c655) ?_
            refine am_e2 (v := 39) hi_220_40 rfl ?_
            refine am_e0 hi_220_41 ?_
            refine am_e32n (as := [.ref 39, .int 63]) (la := [some (.ref 39), some (.int 63)]) (rest := []) hi_220_43 (am_hd0 (M := 220) (by decide) 43) (Nat.le_of_ble_eq_true rfl) (Nat.le_of_ble_eq_true rfl) (show 2 ≤ am_P0.2.2.1 199 from by decide +kernel) rfl (am_recv_ok hS652.fs) rfl rfl (ct_leave (d := (d + 1)) hS652   (by show (0 : Int) ≤ (f 4).toInt; omega) (by show (f 0).toInt ≤ (16384 : Int); omega) (by show (0 : Int) ≤ (63 : Int); omega) (by show (0 : Int) ≤ (f 5).toInt; omega) (by show (f 5).toInt ≤ (48 : Int); omega)) ?_
            rintro v656 S657 (⟨z658, y659, hv660, hS661, h662, h663, h664⟩ | ⟨a666, b667, hv668, hS669⟩)
            · subst hv660
              have h662_ : z658.toInt = (f 4).toInt + 1 := h662
              have h663_ : (f 4).toInt < (f 0).toInt := h663
              have h664_ : y659.toInt = (f 5).toInt - 1 := h664
              replace hS661 : MS S0 S657 (upd (upd (upd (upd (upd (upd f 4 z658) 5 y659) 15 z612) 62 o599) 68 z618) 75 m601) g'620 := hS661
              have hR671 : RJ (upd (upd (upd (upd (upd (upd f 4 z658) 5 y659) 15 z612) 62 o599) 68 z618) 75 m601) g'620 gs bc [] 0 (s600.toNatClampNeg :: []) := RJ.at hR626_ (by show (f 4).toInt ≤ z658.toInt; omega)
              show am_E _ _ _ _ [some (.ref 39), some (.int on)] [.int 1] _ _
              refine am_e6i hi_220_46 ?_
              refine am_e35 hi_220_47 ?_
              show am_E _ _ _ _ [some (.ref 39), some (.int on), some (.int tw), some (.int 0)] [] _ _
              refine am_e35 hi_221_95 ?_
              show am_E _ _ _ _ [some (.ref 39), some (.int 39), some (.int on), some (.int tw)] [] _ _
              refine am_e18 hi_181_366 ?_
              refine am_e35 hi_181_397 ?_
              show am_E _ _ _ _ [some (.ref 39), some (.int 39), some (.int on), some (.int tw), some (.int th)] [] _ _
              refine am_e35 hi_180_13 ?_
              have q1 : mg_p1 gs = mg_p1 gs := rfl
              have q2 : mg_p2 gs = mg_p2 gs := rfl
              have q3 : mg_p3 gs = mg_p3 gs := rfl
              have q4 : mg_p4 gs = mg_p4 gs := rfl
              refine ⟨_, _, _, bc, rfl, hS661, Or.inl ⟨⟨(RJ.fewer (pj' := []) hR671 (fun _ h => nomatch h)), ?_, ?_⟩, rfl, ?_⟩⟩
              · exact (mg_cast (mg_good_ext _ _ _ _ _ _ (fun i _ => by show g'620 34 i = g 34 i; rw [show g'620 34 = g'602 34 from h625_ 34 (by decide), show g'602 34 = g 34 from h610_ 34 (by decide)]) (fun i _ => by show g'620 38 i = g 38 i; rw [show g'620 38 = g'602 38 from h625_ 38 (by decide), show g'602 38 = g 38 from h610_ 38 (by decide)]) hrest) (by show (f 15).toInt + -1 = z612.toInt; omega) (by show (f 20).toInt = (f 20).toInt; omega) (by show (f 37).toInt + 0 = (f 37).toInt; omega) (by show (f 32).toInt + 0 = (f 32).toInt; omega) (by show (f 5).toInt + -1 = y659.toInt; omega) : mg_good (g'620 34) (g'620 38) gs (z612.toInt) ((f 20).toInt) ((f 37).toInt) ((f 32).toInt) (y659.toInt))
              · exact ⟨(by show 0 ≤ z658.toInt; omega), (by show z658.toInt ≤ (f 0).toInt; omega), (by show (f 0).toInt ≤ 512; omega), (by show 0 ≤ (f 24).toInt; omega), (by show (f 24).toInt + (f 20).toInt + mg_p1 gs ≤ 4 * z658.toInt; omega), (by show (f 20).toInt ≤ z658.toInt; omega), (by show z612.toInt + mg_p2 gs ≤ z658.toInt; omega), (by show mg_p3 gs ≤ 20 * z658.toInt + 20; omega), (by show 0 ≤ z618.toInt; omega), (by show z618.toInt + 3 * (f 20).toInt + mg_p4 gs ≤ 60 * z658.toInt + 60; omega), (by show 0 ≤ o599.toInt; omega), (by show o599.toInt + 64 * mj_n (g'620 16) z612.toNatClampNeg 3 ≤ 64 * z658.toInt; rw [show g'620 16 = g'602 16 from h625_ 16 (by decide)]; omega), (by show 0 ≤ (f 44).toInt; omega), (by show (f 44).toInt ≤ z658.toInt; omega), (by show 0 ≤ (f 48).toInt; omega), (by show (f 48).toInt ≤ z658.toInt; omega), (by show 1 ≤ (f 53).toInt; omega), (by show (f 53).toInt ≤ z658.toInt + 1; omega)⟩
              · show 100 * ((f 0).toInt - z658.toInt) + mg_p3 gs < 100 * ((f 0).toInt - (f 4).toInt) + (1 + mg_p3 gs); omega
            · subst hv668
              replace hS669 : MS S0 S657 (upd (upd (upd (upd (upd (upd (upd f 6 a666) 7 b667) 10 0) 15 z612) 62 o599) 68 z618) 75 m601) g'620 := hS669
              show am_E _ _ _ _ [some (.ref 39), some (.int on)] [.int 0] _ _
              refine am_e6i hi_220_46 ?_
              refine am_e35 hi_220_47 ?_
              show am_E _ _ _ _ [some (.ref 39), some (.int on), some (.int tw), some (.int 0)] [] _ _
              refine am_e35 hi_221_95 ?_
              show am_E _ _ _ _ [some (.ref 39), some (.int 39), some (.int on), some (.int tw)] [] _ _
              refine am_e18 hi_181_366 ?_
              refine am_e35 hi_181_397 ?_
              show am_E _ _ _ _ [some (.ref 39), some (.int 39), some (.int on), some (.int tw), some (.int th)] [] _ _
              refine am_e35 hi_180_13 ?_
              have hRc := rj_clear0 hR626_
              refine ⟨_, _, [], _, rfl, hS669, Or.inr ⟨hRc, rfl, (by show 0 ≤ (f 4).toInt; omega), (by show (f 4).toInt ≤ (f 0).toInt; omega), (by show 0 ≤ (f 32).toInt; omega), (by show (f 32).toInt ≤ 63; omega), (by show 1 ≤ (f 53).toInt; omega), (by show (f 53).toInt ≤ 600; omega), (by show 0 ≤ z618.toInt; omega), (by show z618.toInt ≤ 60000; omega), (by show 0 ≤ (f 48).toInt; omega), (by show (f 48).toInt ≤ 8000; omega), (by show 0 ≤ (f 37).toInt; omega), (by show (f 37).toInt ≤ 128; omega), (by show 0 ≤ o599.toInt; omega), (by show o599.toInt ≤ 65000; omega)⟩⟩
          · refine am_e13f hi_220_15 (am_cF (m := r650.toInt) (n := (67 : Int)) rfl (by decide) c655) ?_
            refine am_e2 (v := 39) hi_220_18 rfl ?_
            refine am_e7 hi_220_19 ?_
            refine mm_20 (v := .int (f 4)) hS652 hi_220_20 rfl ?_
            refine am_e0 hi_220_23 ?_
            obtain ⟨z672, hz672, tz672⟩ := am_addI (x := f 4) (y := 1) (m := (f 4).toInt) (n := (1 : Int)) rfl (by decide) (by omega) (by omega)
            refine am_e10 (z := z672) hi_220_24 hz672 ?_
            refine mm_21 (v := z672) hS652 hi_220_25 rfl (Nat.le_of_ble_eq_true rfl) ms_4 ?_
            intro S673 hS674
            replace hS674 : MS S0 S673 (upd (upd (upd (upd (upd f 4 z672) 15 z612) 62 o599) 68 z618) 75 m601) g'620 := hS674
            have hR675 : RJ (upd (upd (upd (upd (upd f 4 z672) 15 z612) 62 o599) 68 z618) 75 m601) g'620 gs bc [] 0 (s600.toNatClampNeg :: []) := RJ.at hR626_ (by show (f 4).toInt ≤ z672.toInt; omega)
            refine am_e2 (v := 39) hi_220_28 rfl ?_
            refine am_e0 hi_220_29 ?_
            refine am_e1 (v := on) hi_220_31 rfl ?_
            refine am_e0 hi_220_32 ?_
            refine am_e0 hi_220_33 ?_
            refine am_e32n (as := [.ref 39, .int 35, .int on, .int 0, .int 0]) (la := [some (.ref 39), some (.int 35), some (.int on), some (.int 0), some (.int 0)]) (rest := []) hi_220_34 (am_hd0 (M := 220) (by decide) 34) (Nat.le_of_ble_eq_true rfl) (Nat.le_of_ble_eq_true rfl) (show 5 ≤ am_P0.2.2.1 179 from by decide +kernel) rfl (am_recv_ok hS674.fs) rfl rfl (ct_pile (d := (d + 4)) hS674 hR675 (mj_e_plain (by decide)) (by show (0 : Int) ≤ (f 10).toInt; omega) (by show (f 10).toInt ≤ (65535 : Int); omega)) ?_
            rintro v676 S677 (⟨z678, g'679, hv680, hS681, hR684, h682, h683⟩)
            subst hv680
            have h682_ : z678.toInt = (f 10).toInt + 1 := h682
            have h683_ : ∀ j, j ∉ [11, 12, 13, 14] → g'679 j = g'620 j := h683
            replace hS681 : MS S0 S677 (upd (upd (upd (upd (upd (upd f 4 z672) 10 z678) 15 z612) 62 o599) 68 z618) 75 m601) g'679 := hS681
            have hR684_ : RJ (upd (upd (upd (upd (upd (upd f 4 z672) 10 z678) 15 z612) 62 o599) 68 z618) 75 m601) g'679 (((35 : Int), on.toInt, (0 : Int), (0 : Int), []) :: gs) bc [] 0 (s600.toNatClampNeg :: []) := hR684
            show am_E _ _ _ _ [some (.ref 39), some (.int on)] [] _ _
            refine am_e18 hi_220_37 ?_
            refine am_e35 hi_220_47 ?_
            show am_E _ _ _ _ [some (.ref 39), some (.int on), some (.int tw), some (.int 0)] [] _ _
            refine am_e35 hi_221_95 ?_
            show am_E _ _ _ _ [some (.ref 39), some (.int 39), some (.int on), some (.int tw)] [] _ _
            refine am_e18 hi_181_366 ?_
            refine am_e35 hi_181_397 ?_
            show am_E _ _ _ _ [some (.ref 39), some (.int 39), some (.int on), some (.int tw), some (.int th)] [] _ _
            refine am_e35 hi_180_13 ?_
            have q1 : mg_p1 (((35 : Int), on.toInt, (0 : Int), (0 : Int), []) :: gs) = 0 + (mg_p1 gs) := rfl
            have q2 : mg_p2 (((35 : Int), on.toInt, (0 : Int), (0 : Int), []) :: gs) = 0 + (mg_p2 gs) := rfl
            have q3 : mg_p3 (((35 : Int), on.toInt, (0 : Int), (0 : Int), []) :: gs) = 3 + (mg_p3 gs) := rfl
            have q4 : mg_p4 (((35 : Int), on.toInt, (0 : Int), (0 : Int), []) :: gs) = 0 + (mg_p4 gs) := rfl
            refine ⟨_, _, _, bc, rfl, hS681, Or.inl ⟨⟨(RJ.fewer (pj' := []) hR684_ (fun _ h => nomatch h)), ?_, ?_⟩, rfl, ?_⟩⟩
            · exact (⟨⟨(show (0 : Int) ≤ 35 from by decide), (show (0 : Int) ≤ z612.toInt from by omega), (show 0 ≤ (f 20).toInt from by omega), (show 1 ≤ (f 37).toInt from by omega), (show 0 ≤ (f 32).toInt from by omega), (show (f 32).toInt ≤ (f 5).toInt from by omega), (show (f 5).toInt ≤ 48 from by omega), (show (f 37).toInt ≤ 2 * ((f 5).toInt) + 2 from by omega), trivial⟩, mg_cast (mg_good_ext _ _ _ _ _ _ (fun i _ => by show g'679 34 i = g 34 i; rw [show g'679 34 = g'620 34 from h683_ 34 (by decide), show g'620 34 = g'602 34 from h625_ 34 (by decide), show g'602 34 = g 34 from h610_ 34 (by decide)]) (fun i _ => by show g'679 38 i = g 38 i; rw [show g'679 38 = g'620 38 from h683_ 38 (by decide), show g'620 38 = g'602 38 from h625_ 38 (by decide), show g'602 38 = g 38 from h610_ 38 (by decide)]) hrest) (by show (f 15).toInt + -1 = z612.toInt + 0; omega) (by show (f 20).toInt = (f 20).toInt; omega) (by show (f 37).toInt + 0 = (f 37).toInt + 0; omega) (by show (f 32).toInt + 0 = (f 32).toInt + 0; omega) (by show (f 5).toInt + -1 = (f 5).toInt + -1; omega)⟩ : mg_good (g'679 34) (g'679 38) (((35 : Int), on.toInt, (0 : Int), (0 : Int), []) :: gs) (z612.toInt) ((f 20).toInt) ((f 37).toInt) ((f 32).toInt) ((f 5).toInt))
            · exact ⟨(by show 0 ≤ z672.toInt; omega), (by show z672.toInt ≤ (f 0).toInt; omega), (by show (f 0).toInt ≤ 512; omega), (by show 0 ≤ (f 24).toInt; omega), (by show (f 24).toInt + (f 20).toInt + mg_p1 (((35 : Int), on.toInt, (0 : Int), (0 : Int), []) :: gs) ≤ 4 * z672.toInt; omega), (by show (f 20).toInt ≤ z672.toInt; omega), (by show z612.toInt + mg_p2 (((35 : Int), on.toInt, (0 : Int), (0 : Int), []) :: gs) ≤ z672.toInt; omega), (by show mg_p3 (((35 : Int), on.toInt, (0 : Int), (0 : Int), []) :: gs) ≤ 20 * z672.toInt + 20; omega), (by show 0 ≤ z618.toInt; omega), (by show z618.toInt + 3 * (f 20).toInt + mg_p4 (((35 : Int), on.toInt, (0 : Int), (0 : Int), []) :: gs) ≤ 60 * z672.toInt + 60; omega), (by show 0 ≤ o599.toInt; omega), (by show o599.toInt + 64 * mj_n (g'679 16) z612.toNatClampNeg 3 ≤ 64 * z672.toInt; rw [show g'679 16 = g'620 16 from h683_ 16 (by decide), show g'620 16 = g'602 16 from h625_ 16 (by decide)]; omega), (by show 0 ≤ (f 44).toInt; omega), (by show (f 44).toInt ≤ z672.toInt; omega), (by show 0 ≤ (f 48).toInt; omega), (by show (f 48).toInt ≤ z672.toInt; omega), (by show 1 ≤ (f 53).toInt; omega), (by show (f 53).toInt ≤ z672.toInt + 1; omega)⟩
            · show 100 * ((f 0).toInt - z672.toInt) + mg_p3 (((35 : Int), on.toInt, (0 : Int), (0 : Int), []) :: gs) < 100 * ((f 0).toInt - (f 4).toInt) + (1 + mg_p3 gs); omega
      · refine am_e13f hi_221_24 (am_cF (m := r591.toInt) (n := (67 : Int)) rfl (by decide) c596) ?_
        refine am_e2 (v := 39) hi_221_27 rfl ?_
        refine am_e2 (v := 39) hi_221_28 rfl ?_
        refine mm_20 (v := .int (f 4)) hS593 hi_221_29 rfl ?_
        refine am_e0 hi_221_32 ?_
        obtain ⟨z685, hz685, tz685⟩ := am_addI (x := f 4) (y := 1) (m := (f 4).toInt) (n := (1 : Int)) rfl (by decide) (by omega) (by omega)
        refine am_e10 (z := z685) hi_221_33 hz685 ?_
        refine am_e32n (as := [.ref 39, .int z685]) (la := [some (.ref 39), some (.int z685)]) (rest := []) hi_221_34 (am_hd0 (M := 221) (by decide) 34) (Nat.le_of_ble_eq_true rfl) (Nat.le_of_ble_eq_true rfl) (show 2 ≤ am_P0.2.2.1 184 from by decide +kernel) rfl (am_recv_ok hS593.fs) rfl rfl (ct_kindAt (d := (d + 5)) hS593   (by show (0 : Int) ≤ z685.toInt; omega) (by show (f 0).toInt ≤ (16384 : Int); omega)) ?_
        rintro v686 S687 (⟨r688, hv689, hS690, h691⟩)
        subst hv689
        have h691_ : z685.toInt < (f 0).toInt ∨ r688.toInt = (-1 : Int) := h691
        show am_E _ _ _ _ [some (.ref 39), some (.int on), some (.int tw), none] [.int r688] _ _
        refine am_e0 hi_221_37 ?_
        by_cases c693 : ¬ r688.toInt = (63 : Int)
        · refine am_e13t hi_221_39 (am_cT (m := r688.toInt) (n := (63 : Int)) rfl (by decide) c693) ?_
          refine am_e0 hi_221_46 ?_
          refine am_e3 (ls' := [some (.ref 39), some (.int on), some (.int tw), some (.int 0)]) hi_221_47 (Nat.le_of_ble_eq_true rfl) rfl ?_
          refine am_e1 (v := 0) hi_221_48 rfl ?_
          refine am_e12t hi_221_49 (by decide) ?_
          refine am_e2 (v := 39) hi_221_76 rfl ?_
          refine am_e32w (as := [.ref 39]) (la := [some (.ref 39)]) (rest := []) hi_221_77 (am_hd0 (M := 221) (by decide) 77) (Nat.le_of_ble_eq_true rfl) (Nat.le_of_ble_eq_true rfl) (show 1 ≤ am_P0.2.2.1 209 from by decide +kernel) rfl (am_recv_ok hS690.fs) rfl rfl ?_
          refine am_e2 (v := 39) hi_209_0 rfl ?_
          refine am_e32n (as := [.ref 39]) (la := [some (.ref 39), none, none, none]) (rest := []) hi_209_1 (am_hd0 (M := 209) (by decide) 1) (Nat.le_of_ble_eq_true rfl) (Nat.le_of_ble_eq_true rfl) (show 1 ≤ am_P0.2.2.1 204 from by decide +kernel) rfl (am_recv_ok hS690.fs) rfl rfl (ct_load (d := (d + 2)) hS690 hR  (by show (0 : Int) ≤ (f 32).toInt; omega) (by show (f 32).toInt ≤ (63 : Int); omega) (by show (f 53).toInt ≤ (4096 : Int); omega) (by show (0 : Int) ≤ (f 68).toInt; omega) (by show (f 68).toInt ≤ (65534 : Int); omega) (by show (1 : Int) ≤ (f 15).toInt; omega) (by show (f 15).toInt ≤ (32767 : Int); omega) (by show (0 : Int) ≤ (f 24).toInt; omega) (by show (f 24).toInt ≤ (16384 : Int); omega) (by show (0 : Int) ≤ (f 62).toInt; omega) (by show (f 62).toInt ≤ (65000 : Int); omega)) ?_
          rintro v694 S695 (⟨o696, s697, m698, g'699, hv700, hS701, hR708, h702, h703, h704, h705, h706, h707⟩)
          subst hv700
          have h702_ : (f 62).toInt ≤ o696.toInt := h702
          have h703_ : o696.toInt ≤ (f 62).toInt + 64 := h703
          have h704_ : (f 68).toInt ≤ s697.toInt := h704
          have h705_ : s697.toInt ≤ (f 68).toInt + 1 := h705
          have h706_ : o696.toInt + 64 * mj_n (g'699 16) (f 15).toNatClampNeg 3 ≤ (f 62).toInt + 64 * mj_n (g 16) (f 15).toNatClampNeg 3 := h706
          have h707_ : ∀ j, j ∉ [16, 60, 63, 64, 65, 66, 67, 69, 70, 71, 72, 73] → g'699 j = g j := h707
          have hR708_ : RJ (upd (upd (upd f 62 o696) 68 s697) 75 m698) g'699 gs bc [] 0 [] := hR708
          show am_E _ _ _ _ [some (.ref 39)] [] _ _
          refine am_e2 (v := 39) hi_209_4 rfl ?_
          refine am_e7 hi_209_5 ?_
          refine mm_20 (v := .int (f 15)) hS701 hi_209_6 rfl ?_
          refine am_e0 hi_209_9 ?_
          obtain ⟨z709, hz709, tz709⟩ := am_subI (x := f 15) (y := 1) (m := (f 15).toInt) (n := (1 : Int)) rfl (by decide) (by omega) (by omega)
          refine am_e10 (z := z709) hi_209_10 hz709 ?_
          refine mm_21 (v := z709) hS701 hi_209_11 rfl (Nat.le_of_ble_eq_true rfl) ms_15 ?_
          intro S710 hS711
          replace hS711 : MS S0 S710 (upd (upd (upd (upd f 15 z709) 62 o696) 68 s697) 75 m698) g'699 := hS711
          have hp712 : mj_n (g'699 16) (f 15).toNatClampNeg 3 = mj_n (g'699 16) z709.toNatClampNeg 3 + if (g'699 16 z709.toNatClampNeg).toInt = 3 then 1 else 0 := mj_pop (by rw [cl_toNat, cl_toNat]; omega)
          have hp7121 : mj_n (g'699 16) z709.toNatClampNeg 3 ≤ mj_n (g'699 16) (f 15).toNatClampNeg 3 := by rw [hp712]; split <;> omega
          have hp7122 : (g'699 16 z709.toNatClampNeg).toInt = 3 → mj_n (g'699 16) z709.toNatClampNeg 3 + 1 ≤ mj_n (g'699 16) (f 15).toNatClampNeg 3 := fun q => by rw [hp712, if_pos q]; exact Int.le_refl _
          refine am_e35 hi_209_14 ?_
          show am_E _ _ _ _ [some (.ref 39), some (.int on), some (.int tw), some (.int 0)] [] _ _
          refine am_e2 (v := 39) hi_221_80 rfl ?_
          refine am_e0 hi_221_81 ?_
          refine am_e1 (v := on) hi_221_83 rfl ?_
          refine am_e0 hi_221_84 ?_
          refine am_e1 (v := tw) hi_221_85 rfl ?_
          refine am_e32n (as := [.ref 39, .int 23, .int on, .int 0, .int tw]) (la := [some (.ref 39), some (.int 23), some (.int on), some (.int 0), some (.int tw)]) (rest := []) hi_221_86 (am_hd0 (M := 221) (by decide) 86) (Nat.le_of_ble_eq_true rfl) (Nat.le_of_ble_eq_true rfl) (show 5 ≤ am_P0.2.2.1 189 from by decide +kernel) rfl (am_recv_ok hS711.fs) rfl rfl (ct_put (d := (d + 5)) hS711 hR708_  (by show (0 : Int) ≤ (f 32).toInt; omega) (by show (f 32).toInt ≤ (63 : Int); omega) (by show (f 53).toInt ≤ (4096 : Int); omega) (by show (0 : Int) ≤ s697.toInt; omega) (by show s697.toInt ≤ (65534 : Int); omega)) ?_
          rintro v713 S714 (⟨z715, r716, g'717, hv718, hS719, hR723, h720, h721, h722⟩)
          subst hv718
          have h720_ : z715.toInt = s697.toInt + 1 := h720
          have h721_ : r716.toInt = s697.toInt := h721
          have h722_ : ∀ j, j ∉ [60, 69, 70, 71, 72, 73] → g'717 j = g'699 j := h722
          replace hS719 : MS S0 S714 (upd (upd (upd (upd f 15 z709) 62 o696) 68 z715) 75 m698) g'717 := hS719
          have hR723_ : RJ (upd (upd (upd (upd f 15 z709) 62 o696) 68 z715) 75 m698) g'717 gs bc [] 0 (s697.toNatClampNeg :: []) := hR723
          show am_E _ _ _ _ [some (.ref 39), some (.int on), some (.int tw), some (.int 0)] [.int r716] _ _
          refine am_e6i hi_221_89 ?_
          refine am_e2 (v := 39) hi_221_90 rfl ?_
          refine am_e1 (v := on) hi_221_91 rfl ?_
          refine am_e32w (as := [.ref 39, .int on]) (la := [some (.ref 39), some (.int on)]) (rest := []) hi_221_92 (am_hd0 (M := 221) (by decide) 92) (Nat.le_of_ble_eq_true rfl) (Nat.le_of_ble_eq_true rfl) (show 2 ≤ am_P0.2.2.1 220 from by decide +kernel) rfl (am_recv_ok hS719.fs) rfl rfl ?_
          refine am_e2 (v := 39) hi_220_0 rfl ?_
          refine am_e32n (as := [.ref 39]) (la := [some (.ref 39)]) (rest := []) hi_220_1 (am_hd0 (M := 220) (by decide) 1) (Nat.le_of_ble_eq_true rfl) (Nat.le_of_ble_eq_true rfl) (show 1 ≤ am_P0.2.2.1 183 from by decide +kernel) rfl (am_recv_ok hS719.fs) rfl rfl (ct_next (d := (d + 3)) hS719   (by show (0 : Int) ≤ (f 4).toInt; omega) (by show (f 0).toInt ≤ (16384 : Int); omega)) ?_
          rintro v724 S725 (⟨r726, hv727, hS728, h729⟩)
          subst hv727
          have h729_ : (f 4).toInt < (f 0).toInt ∨ r726.toInt = (-1 : Int) := h729
          show am_E _ _ _ _ [some (.ref 39), some (.int on)] [.int r726] _ _
          refine am_e0 hi_220_4 ?_
          by_cases c731 : r726.toInt = (69 : Int)
          · refine am_e13t hi_220_6 (am_cT (m := r726.toInt) (n := (69 : Int)) rfl (by decide) c731) ?_
            refine am_e2 (v := 39) hi_220_18 rfl ?_
            refine am_e7 hi_220_19 ?_
            refine mm_20 (v := .int (f 4)) hS728 hi_220_20 rfl ?_
            refine am_e0 hi_220_23 ?_
            refine am_e10 (z := z685) hi_220_24 hz685 ?_
            refine mm_21 (v := z685) hS728 hi_220_25 rfl (Nat.le_of_ble_eq_true rfl) ms_4 ?_
            intro S732 hS733
            replace hS733 : MS S0 S732 (upd (upd (upd (upd (upd f 4 z685) 15 z709) 62 o696) 68 z715) 75 m698) g'717 := hS733
            have hR734 : RJ (upd (upd (upd (upd (upd f 4 z685) 15 z709) 62 o696) 68 z715) 75 m698) g'717 gs bc [] 0 (s697.toNatClampNeg :: []) := RJ.at hR723_ (by show (f 4).toInt ≤ z685.toInt; omega)
            refine am_e2 (v := 39) hi_220_28 rfl ?_
            refine am_e0 hi_220_29 ?_
            refine am_e1 (v := on) hi_220_31 rfl ?_
            refine am_e0 hi_220_32 ?_
            refine am_e0 hi_220_33 ?_
            refine am_e32n (as := [.ref 39, .int 35, .int on, .int 0, .int 0]) (la := [some (.ref 39), some (.int 35), some (.int on), some (.int 0), some (.int 0)]) (rest := []) hi_220_34 (am_hd0 (M := 220) (by decide) 34) (Nat.le_of_ble_eq_true rfl) (Nat.le_of_ble_eq_true rfl) (show 5 ≤ am_P0.2.2.1 179 from by decide +kernel) rfl (am_recv_ok hS733.fs) rfl rfl (ct_pile (d := (d + 4)) hS733 hR734 (mj_e_plain (by decide)) (by show (0 : Int) ≤ (f 10).toInt; omega) (by show (f 10).toInt ≤ (65535 : Int); omega)) ?_
            rintro v735 S736 (⟨z737, g'738, hv739, hS740, hR743, h741, h742⟩)
            subst hv739
            have h741_ : z737.toInt = (f 10).toInt + 1 := h741
            have h742_ : ∀ j, j ∉ [11, 12, 13, 14] → g'738 j = g'717 j := h742
            replace hS740 : MS S0 S736 (upd (upd (upd (upd (upd (upd f 4 z685) 10 z737) 15 z709) 62 o696) 68 z715) 75 m698) g'738 := hS740
            have hR743_ : RJ (upd (upd (upd (upd (upd (upd f 4 z685) 10 z737) 15 z709) 62 o696) 68 z715) 75 m698) g'738 (((35 : Int), on.toInt, (0 : Int), (0 : Int), []) :: gs) bc [] 0 (s697.toNatClampNeg :: []) := hR743
            show am_E _ _ _ _ [some (.ref 39), some (.int on)] [] _ _
            refine am_e18 hi_220_37 ?_
            refine am_e35 hi_220_47 ?_
            show am_E _ _ _ _ [some (.ref 39), some (.int on), some (.int tw), some (.int 0)] [] _ _
            refine am_e35 hi_221_95 ?_
            show am_E _ _ _ _ [some (.ref 39), some (.int 39), some (.int on), some (.int tw)] [] _ _
            refine am_e18 hi_181_366 ?_
            refine am_e35 hi_181_397 ?_
            show am_E _ _ _ _ [some (.ref 39), some (.int 39), some (.int on), some (.int tw), some (.int th)] [] _ _
            refine am_e35 hi_180_13 ?_
            have q1 : mg_p1 (((35 : Int), on.toInt, (0 : Int), (0 : Int), []) :: gs) = 0 + (mg_p1 gs) := rfl
            have q2 : mg_p2 (((35 : Int), on.toInt, (0 : Int), (0 : Int), []) :: gs) = 0 + (mg_p2 gs) := rfl
            have q3 : mg_p3 (((35 : Int), on.toInt, (0 : Int), (0 : Int), []) :: gs) = 3 + (mg_p3 gs) := rfl
            have q4 : mg_p4 (((35 : Int), on.toInt, (0 : Int), (0 : Int), []) :: gs) = 0 + (mg_p4 gs) := rfl
            refine ⟨_, _, _, bc, rfl, hS740, Or.inl ⟨⟨(RJ.fewer (pj' := []) hR743_ (fun _ h => nomatch h)), ?_, ?_⟩, rfl, ?_⟩⟩
            · exact (⟨⟨(show (0 : Int) ≤ 35 from by decide), (show (0 : Int) ≤ z709.toInt from by omega), (show 0 ≤ (f 20).toInt from by omega), (show 1 ≤ (f 37).toInt from by omega), (show 0 ≤ (f 32).toInt from by omega), (show (f 32).toInt ≤ (f 5).toInt from by omega), (show (f 5).toInt ≤ 48 from by omega), (show (f 37).toInt ≤ 2 * ((f 5).toInt) + 2 from by omega), trivial⟩, mg_cast (mg_good_ext _ _ _ _ _ _ (fun i _ => by show g'738 34 i = g 34 i; rw [show g'738 34 = g'717 34 from h742_ 34 (by decide), show g'717 34 = g'699 34 from h722_ 34 (by decide), show g'699 34 = g 34 from h707_ 34 (by decide)]) (fun i _ => by show g'738 38 i = g 38 i; rw [show g'738 38 = g'717 38 from h742_ 38 (by decide), show g'717 38 = g'699 38 from h722_ 38 (by decide), show g'699 38 = g 38 from h707_ 38 (by decide)]) hrest) (by show (f 15).toInt + -1 = z709.toInt + 0; omega) (by show (f 20).toInt = (f 20).toInt; omega) (by show (f 37).toInt + 0 = (f 37).toInt + 0; omega) (by show (f 32).toInt + 0 = (f 32).toInt + 0; omega) (by show (f 5).toInt + -1 = (f 5).toInt + -1; omega)⟩ : mg_good (g'738 34) (g'738 38) (((35 : Int), on.toInt, (0 : Int), (0 : Int), []) :: gs) (z709.toInt) ((f 20).toInt) ((f 37).toInt) ((f 32).toInt) ((f 5).toInt))
            · exact ⟨(by show 0 ≤ z685.toInt; omega), (by show z685.toInt ≤ (f 0).toInt; omega), (by show (f 0).toInt ≤ 512; omega), (by show 0 ≤ (f 24).toInt; omega), (by show (f 24).toInt + (f 20).toInt + mg_p1 (((35 : Int), on.toInt, (0 : Int), (0 : Int), []) :: gs) ≤ 4 * z685.toInt; omega), (by show (f 20).toInt ≤ z685.toInt; omega), (by show z709.toInt + mg_p2 (((35 : Int), on.toInt, (0 : Int), (0 : Int), []) :: gs) ≤ z685.toInt; omega), (by show mg_p3 (((35 : Int), on.toInt, (0 : Int), (0 : Int), []) :: gs) ≤ 20 * z685.toInt + 20; omega), (by show 0 ≤ z715.toInt; omega), (by show z715.toInt + 3 * (f 20).toInt + mg_p4 (((35 : Int), on.toInt, (0 : Int), (0 : Int), []) :: gs) ≤ 60 * z685.toInt + 60; omega), (by show 0 ≤ o696.toInt; omega), (by show o696.toInt + 64 * mj_n (g'738 16) z709.toNatClampNeg 3 ≤ 64 * z685.toInt; rw [show g'738 16 = g'717 16 from h742_ 16 (by decide), show g'717 16 = g'699 16 from h722_ 16 (by decide)]; omega), (by show 0 ≤ (f 44).toInt; omega), (by show (f 44).toInt ≤ z685.toInt; omega), (by show 0 ≤ (f 48).toInt; omega), (by show (f 48).toInt ≤ z685.toInt; omega), (by show 1 ≤ (f 53).toInt; omega), (by show (f 53).toInt ≤ z685.toInt + 1; omega)⟩
            · show 100 * ((f 0).toInt - z685.toInt) + mg_p3 (((35 : Int), on.toInt, (0 : Int), (0 : Int), []) :: gs) < 100 * ((f 0).toInt - (f 4).toInt) + (1 + mg_p3 gs); omega
          · refine am_e13f hi_220_6 (am_cF (m := r726.toInt) (n := (69 : Int)) rfl (by decide) c731) ?_
            refine am_e2 (v := 39) hi_220_9 rfl ?_
            refine am_e32n (as := [.ref 39]) (la := [some (.ref 39)]) (rest := []) hi_220_10 (am_hd0 (M := 220) (by decide) 10) (Nat.le_of_ble_eq_true rfl) (Nat.le_of_ble_eq_true rfl) (show 1 ≤ am_P0.2.2.1 183 from by decide +kernel) rfl (am_recv_ok hS728.fs) rfl rfl (ct_next (d := (d + 3)) hS728   (by show (0 : Int) ≤ (f 4).toInt; omega) (by show (f 0).toInt ≤ (16384 : Int); omega)) ?_
            rintro v744 S745 (⟨r746, hv747, hS748, h749⟩)
            subst hv747
            have h749_ : (f 4).toInt < (f 0).toInt ∨ r746.toInt = (-1 : Int) := h749
            show am_E _ _ _ _ [some (.ref 39), some (.int on)] [.int r746] _ _
            refine am_e0 hi_220_13 ?_
            by_cases c751 : ¬ r746.toInt = (67 : Int)
            · refine am_e13t hi_220_15 (am_cT (m := r746.toInt) (n := (67 : Int)) rfl (by decide) c751) ?_
              refine am_e2 (v := 39) hi_220_40 rfl ?_
              refine am_e0 hi_220_41 ?_
              refine am_e32n (as := [.ref 39, .int 63]) (la := [some (.ref 39), some (.int 63)]) (rest := []) hi_220_43 (am_hd0 (M := 220) (by decide) 43) (Nat.le_of_ble_eq_true rfl) (Nat.le_of_ble_eq_true rfl) (show 2 ≤ am_P0.2.2.1 199 from by decide +kernel) rfl (am_recv_ok hS748.fs) rfl rfl (ct_leave (d := (d + 1)) hS748   (by show (0 : Int) ≤ (f 4).toInt; omega) (by show (f 0).toInt ≤ (16384 : Int); omega) (by show (0 : Int) ≤ (63 : Int); omega) (by show (0 : Int) ≤ (f 5).toInt; omega) (by show (f 5).toInt ≤ (48 : Int); omega)) ?_
              rintro v752 S753 (⟨z754, y755, hv756, hS757, h758, h759, h760⟩ | ⟨a762, b763, hv764, hS765⟩)
              · subst hv756
                have h758_ : z754.toInt = (f 4).toInt + 1 := h758
                have h759_ : (f 4).toInt < (f 0).toInt := h759
                have h760_ : y755.toInt = (f 5).toInt - 1 := h760
                replace hS757 : MS S0 S753 (upd (upd (upd (upd (upd (upd f 4 z754) 5 y755) 15 z709) 62 o696) 68 z715) 75 m698) g'717 := hS757
                have hR767 : RJ (upd (upd (upd (upd (upd (upd f 4 z754) 5 y755) 15 z709) 62 o696) 68 z715) 75 m698) g'717 gs bc [] 0 (s697.toNatClampNeg :: []) := RJ.at hR723_ (by show (f 4).toInt ≤ z754.toInt; omega)
                show am_E _ _ _ _ [some (.ref 39), some (.int on)] [.int 1] _ _
                refine am_e6i hi_220_46 ?_
                refine am_e35 hi_220_47 ?_
                show am_E _ _ _ _ [some (.ref 39), some (.int on), some (.int tw), some (.int 0)] [] _ _
                refine am_e35 hi_221_95 ?_
                show am_E _ _ _ _ [some (.ref 39), some (.int 39), some (.int on), some (.int tw)] [] _ _
                refine am_e18 hi_181_366 ?_
                refine am_e35 hi_181_397 ?_
                show am_E _ _ _ _ [some (.ref 39), some (.int 39), some (.int on), some (.int tw), some (.int th)] [] _ _
                refine am_e35 hi_180_13 ?_
                have q1 : mg_p1 gs = mg_p1 gs := rfl
                have q2 : mg_p2 gs = mg_p2 gs := rfl
                have q3 : mg_p3 gs = mg_p3 gs := rfl
                have q4 : mg_p4 gs = mg_p4 gs := rfl
                refine ⟨_, _, _, bc, rfl, hS757, Or.inl ⟨⟨(RJ.fewer (pj' := []) hR767 (fun _ h => nomatch h)), ?_, ?_⟩, rfl, ?_⟩⟩
                · exact (mg_cast (mg_good_ext _ _ _ _ _ _ (fun i _ => by show g'717 34 i = g 34 i; rw [show g'717 34 = g'699 34 from h722_ 34 (by decide), show g'699 34 = g 34 from h707_ 34 (by decide)]) (fun i _ => by show g'717 38 i = g 38 i; rw [show g'717 38 = g'699 38 from h722_ 38 (by decide), show g'699 38 = g 38 from h707_ 38 (by decide)]) hrest) (by show (f 15).toInt + -1 = z709.toInt; omega) (by show (f 20).toInt = (f 20).toInt; omega) (by show (f 37).toInt + 0 = (f 37).toInt; omega) (by show (f 32).toInt + 0 = (f 32).toInt; omega) (by show (f 5).toInt + -1 = y755.toInt; omega) : mg_good (g'717 34) (g'717 38) gs (z709.toInt) ((f 20).toInt) ((f 37).toInt) ((f 32).toInt) (y755.toInt))
                · exact ⟨(by show 0 ≤ z754.toInt; omega), (by show z754.toInt ≤ (f 0).toInt; omega), (by show (f 0).toInt ≤ 512; omega), (by show 0 ≤ (f 24).toInt; omega), (by show (f 24).toInt + (f 20).toInt + mg_p1 gs ≤ 4 * z754.toInt; omega), (by show (f 20).toInt ≤ z754.toInt; omega), (by show z709.toInt + mg_p2 gs ≤ z754.toInt; omega), (by show mg_p3 gs ≤ 20 * z754.toInt + 20; omega), (by show 0 ≤ z715.toInt; omega), (by show z715.toInt + 3 * (f 20).toInt + mg_p4 gs ≤ 60 * z754.toInt + 60; omega), (by show 0 ≤ o696.toInt; omega), (by show o696.toInt + 64 * mj_n (g'717 16) z709.toNatClampNeg 3 ≤ 64 * z754.toInt; rw [show g'717 16 = g'699 16 from h722_ 16 (by decide)]; omega), (by show 0 ≤ (f 44).toInt; omega), (by show (f 44).toInt ≤ z754.toInt; omega), (by show 0 ≤ (f 48).toInt; omega), (by show (f 48).toInt ≤ z754.toInt; omega), (by show 1 ≤ (f 53).toInt; omega), (by show (f 53).toInt ≤ z754.toInt + 1; omega)⟩
                · show 100 * ((f 0).toInt - z754.toInt) + mg_p3 gs < 100 * ((f 0).toInt - (f 4).toInt) + (1 + mg_p3 gs); omega
              · subst hv764
                replace hS765 : MS S0 S753 (upd (upd (upd (upd (upd (upd (upd f 6 a762) 7 b763) 10 0) 15 z709) 62 o696) 68 z715) 75 m698) g'717 := hS765
                show am_E _ _ _ _ [some (.ref 39), some (.int on)] [.int 0] _ _
                refine am_e6i hi_220_46 ?_
                refine am_e35 hi_220_47 ?_
                show am_E _ _ _ _ [some (.ref 39), some (.int on), some (.int tw), some (.int 0)] [] _ _
                refine am_e35 hi_221_95 ?_
                show am_E _ _ _ _ [some (.ref 39), some (.int 39), some (.int on), some (.int tw)] [] _ _
                refine am_e18 hi_181_366 ?_
                refine am_e35 hi_181_397 ?_
                show am_E _ _ _ _ [some (.ref 39), some (.int 39), some (.int on), some (.int tw), some (.int th)] [] _ _
                refine am_e35 hi_180_13 ?_
                have hRc := rj_clear0 hR723_
                refine ⟨_, _, [], _, rfl, hS765, Or.inr ⟨hRc, rfl, (by show 0 ≤ (f 4).toInt; omega), (by show (f 4).toInt ≤ (f 0).toInt; omega), (by show 0 ≤ (f 32).toInt; omega), (by show (f 32).toInt ≤ 63; omega), (by show 1 ≤ (f 53).toInt; omega), (by show (f 53).toInt ≤ 600; omega), (by show 0 ≤ z715.toInt; omega), (by show z715.toInt ≤ 60000; omega), (by show 0 ≤ (f 48).toInt; omega), (by show (f 48).toInt ≤ 8000; omega), (by show 0 ≤ (f 37).toInt; omega), (by show (f 37).toInt ≤ 128; omega), (by show 0 ≤ o696.toInt; omega), (by show o696.toInt ≤ 65000; omega)⟩⟩
            · refine am_e13f hi_220_15 (am_cF (m := r746.toInt) (n := (67 : Int)) rfl (by decide) c751) ?_
              refine am_e2 (v := 39) hi_220_18 rfl ?_
              refine am_e7 hi_220_19 ?_
              refine mm_20 (v := .int (f 4)) hS748 hi_220_20 rfl ?_
              refine am_e0 hi_220_23 ?_
              refine am_e10 (z := z685) hi_220_24 hz685 ?_
              refine mm_21 (v := z685) hS748 hi_220_25 rfl (Nat.le_of_ble_eq_true rfl) ms_4 ?_
              intro S768 hS769
              replace hS769 : MS S0 S768 (upd (upd (upd (upd (upd f 4 z685) 15 z709) 62 o696) 68 z715) 75 m698) g'717 := hS769
              have hR770 : RJ (upd (upd (upd (upd (upd f 4 z685) 15 z709) 62 o696) 68 z715) 75 m698) g'717 gs bc [] 0 (s697.toNatClampNeg :: []) := RJ.at hR723_ (by show (f 4).toInt ≤ z685.toInt; omega)
              refine am_e2 (v := 39) hi_220_28 rfl ?_
              refine am_e0 hi_220_29 ?_
              refine am_e1 (v := on) hi_220_31 rfl ?_
              refine am_e0 hi_220_32 ?_
              refine am_e0 hi_220_33 ?_
              refine am_e32n (as := [.ref 39, .int 35, .int on, .int 0, .int 0]) (la := [some (.ref 39), some (.int 35), some (.int on), some (.int 0), some (.int 0)]) (rest := []) hi_220_34 (am_hd0 (M := 220) (by decide) 34) (Nat.le_of_ble_eq_true rfl) (Nat.le_of_ble_eq_true rfl) (show 5 ≤ am_P0.2.2.1 179 from by decide +kernel) rfl (am_recv_ok hS769.fs) rfl rfl (ct_pile (d := (d + 4)) hS769 hR770 (mj_e_plain (by decide)) (by show (0 : Int) ≤ (f 10).toInt; omega) (by show (f 10).toInt ≤ (65535 : Int); omega)) ?_
              rintro v771 S772 (⟨z773, g'774, hv775, hS776, hR779, h777, h778⟩)
              subst hv775
              have h777_ : z773.toInt = (f 10).toInt + 1 := h777
              have h778_ : ∀ j, j ∉ [11, 12, 13, 14] → g'774 j = g'717 j := h778
              replace hS776 : MS S0 S772 (upd (upd (upd (upd (upd (upd f 4 z685) 10 z773) 15 z709) 62 o696) 68 z715) 75 m698) g'774 := hS776
              have hR779_ : RJ (upd (upd (upd (upd (upd (upd f 4 z685) 10 z773) 15 z709) 62 o696) 68 z715) 75 m698) g'774 (((35 : Int), on.toInt, (0 : Int), (0 : Int), []) :: gs) bc [] 0 (s697.toNatClampNeg :: []) := hR779
              show am_E _ _ _ _ [some (.ref 39), some (.int on)] [] _ _
              refine am_e18 hi_220_37 ?_
              refine am_e35 hi_220_47 ?_
              show am_E _ _ _ _ [some (.ref 39), some (.int on), some (.int tw), some (.int 0)] [] _ _
              refine am_e35 hi_221_95 ?_
              show am_E _ _ _ _ [some (.ref 39), some (.int 39), some (.int on), some (.int tw)] [] _ _
              refine am_e18 hi_181_366 ?_
              refine am_e35 hi_181_397 ?_
              show am_E _ _ _ _ [some (.ref 39), some (.int 39), some (.int on), some (.int tw), some (.int th)] [] _ _
              refine am_e35 hi_180_13 ?_
              have q1 : mg_p1 (((35 : Int), on.toInt, (0 : Int), (0 : Int), []) :: gs) = 0 + (mg_p1 gs) := rfl
              have q2 : mg_p2 (((35 : Int), on.toInt, (0 : Int), (0 : Int), []) :: gs) = 0 + (mg_p2 gs) := rfl
              have q3 : mg_p3 (((35 : Int), on.toInt, (0 : Int), (0 : Int), []) :: gs) = 3 + (mg_p3 gs) := rfl
              have q4 : mg_p4 (((35 : Int), on.toInt, (0 : Int), (0 : Int), []) :: gs) = 0 + (mg_p4 gs) := rfl
              refine ⟨_, _, _, bc, rfl, hS776, Or.inl ⟨⟨(RJ.fewer (pj' := []) hR779_ (fun _ h => nomatch h)), ?_, ?_⟩, rfl, ?_⟩⟩
              · exact (⟨⟨(show (0 : Int) ≤ 35 from by decide), (show (0 : Int) ≤ z709.toInt from by omega), (show 0 ≤ (f 20).toInt from by omega), (show 1 ≤ (f 37).toInt from by omega), (show 0 ≤ (f 32).toInt from by omega), (show (f 32).toInt ≤ (f 5).toInt from by omega), (show (f 5).toInt ≤ 48 from by omega), (show (f 37).toInt ≤ 2 * ((f 5).toInt) + 2 from by omega), trivial⟩, mg_cast (mg_good_ext _ _ _ _ _ _ (fun i _ => by show g'774 34 i = g 34 i; rw [show g'774 34 = g'717 34 from h778_ 34 (by decide), show g'717 34 = g'699 34 from h722_ 34 (by decide), show g'699 34 = g 34 from h707_ 34 (by decide)]) (fun i _ => by show g'774 38 i = g 38 i; rw [show g'774 38 = g'717 38 from h778_ 38 (by decide), show g'717 38 = g'699 38 from h722_ 38 (by decide), show g'699 38 = g 38 from h707_ 38 (by decide)]) hrest) (by show (f 15).toInt + -1 = z709.toInt + 0; omega) (by show (f 20).toInt = (f 20).toInt; omega) (by show (f 37).toInt + 0 = (f 37).toInt + 0; omega) (by show (f 32).toInt + 0 = (f 32).toInt + 0; omega) (by show (f 5).toInt + -1 = (f 5).toInt + -1; omega)⟩ : mg_good (g'774 34) (g'774 38) (((35 : Int), on.toInt, (0 : Int), (0 : Int), []) :: gs) (z709.toInt) ((f 20).toInt) ((f 37).toInt) ((f 32).toInt) ((f 5).toInt))
              · exact ⟨(by show 0 ≤ z685.toInt; omega), (by show z685.toInt ≤ (f 0).toInt; omega), (by show (f 0).toInt ≤ 512; omega), (by show 0 ≤ (f 24).toInt; omega), (by show (f 24).toInt + (f 20).toInt + mg_p1 (((35 : Int), on.toInt, (0 : Int), (0 : Int), []) :: gs) ≤ 4 * z685.toInt; omega), (by show (f 20).toInt ≤ z685.toInt; omega), (by show z709.toInt + mg_p2 (((35 : Int), on.toInt, (0 : Int), (0 : Int), []) :: gs) ≤ z685.toInt; omega), (by show mg_p3 (((35 : Int), on.toInt, (0 : Int), (0 : Int), []) :: gs) ≤ 20 * z685.toInt + 20; omega), (by show 0 ≤ z715.toInt; omega), (by show z715.toInt + 3 * (f 20).toInt + mg_p4 (((35 : Int), on.toInt, (0 : Int), (0 : Int), []) :: gs) ≤ 60 * z685.toInt + 60; omega), (by show 0 ≤ o696.toInt; omega), (by show o696.toInt + 64 * mj_n (g'774 16) z709.toNatClampNeg 3 ≤ 64 * z685.toInt; rw [show g'774 16 = g'717 16 from h778_ 16 (by decide), show g'717 16 = g'699 16 from h722_ 16 (by decide)]; omega), (by show 0 ≤ (f 44).toInt; omega), (by show (f 44).toInt ≤ z685.toInt; omega), (by show 0 ≤ (f 48).toInt; omega), (by show (f 48).toInt ≤ z685.toInt; omega), (by show 1 ≤ (f 53).toInt; omega), (by show (f 53).toInt ≤ z685.toInt + 1; omega)⟩
              · show 100 * ((f 0).toInt - z685.toInt) + mg_p3 (((35 : Int), on.toInt, (0 : Int), (0 : Int), []) :: gs) < 100 * ((f 0).toInt - (f 4).toInt) + (1 + mg_p3 gs); omega
        · refine am_e13f hi_221_39 (am_cF (m := r688.toInt) (n := (63 : Int)) rfl (by decide) c693) ?_
          refine am_e0 hi_221_42 ?_
          refine am_e18 hi_221_43 ?_
          refine am_e3 (ls' := [some (.ref 39), some (.int on), some (.int tw), some (.int 1)]) hi_221_47 (Nat.le_of_ble_eq_true rfl) rfl ?_
          refine am_e1 (v := 1) hi_221_48 rfl ?_
          refine am_e12f hi_221_49 (by decide) ?_
          refine am_e2 (v := 39) hi_221_52 rfl ?_
          refine am_e32w (as := [.ref 39]) (la := [some (.ref 39)]) (rest := []) hi_221_53 (am_hd0 (M := 221) (by decide) 53) (Nat.le_of_ble_eq_true rfl) (Nat.le_of_ble_eq_true rfl) (show 1 ≤ am_P0.2.2.1 216 from by decide +kernel) rfl (am_recv_ok hS690.fs) rfl rfl ?_
          refine am_e2 (v := 39) hi_216_0 rfl ?_
          refine mm_20 (v := .ref 46) hS690 hi_216_1 rfl ?_
          refine am_e2 (v := 39) hi_216_4 rfl ?_
          refine mm_20 (v := .int (f 15)) hS690 hi_216_5 rfl ?_
          refine am_e0 hi_216_8 ?_
          obtain ⟨z780, hz780, tz780⟩ := am_subI (x := f 15) (y := 1) (m := (f 15).toInt) (n := (1 : Int)) rfl (by decide) (by omega) (by omega)
          refine am_e10 (z := z780) hi_216_9 hz780 ?_
          refine mm_25 hS690 ma_16 hi_216_10 (by decide) (by omega) (by omega) ?_
          show am_E _ _ _ _ [some (.ref 39)] [.int (g 16 z780.toNatClampNeg)] _ _
          refine am_e0 hi_216_11 ?_
          by_cases c781 : (g 16 z780.toNatClampNeg).toInt = (1 : Int)
          · refine am_e13t hi_216_12 (am_cT (m := (g 16 z780.toNatClampNeg).toInt) (n := (1 : Int)) rfl (by decide) c781) ?_
            refine am_e0 hi_216_30 ?_
            refine am_e18 hi_216_31 ?_
            refine am_e36 hi_216_35 (by decide) ?_
            show am_E _ _ _ _ [some (.ref 39), some (.int on), some (.int tw), some (.int 1)] [.int 1] _ _
            refine am_e12f hi_221_56 (by decide) ?_
            refine am_e2 (v := 39) hi_221_59 rfl ?_
            refine am_e32w (as := [.ref 39]) (la := [some (.ref 39), none]) (rest := []) hi_221_60 (am_hd0 (M := 221) (by decide) 60) (Nat.le_of_ble_eq_true rfl) (Nat.le_of_ble_eq_true rfl) (show 1 ≤ am_P0.2.2.1 217 from by decide +kernel) rfl (am_recv_ok hS690.fs) rfl rfl ?_
            refine am_e2 (v := 39) hi_217_0 rfl ?_
            refine mm_20 (v := .ref 47) hS690 hi_217_1 rfl ?_
            refine am_e2 (v := 39) hi_217_4 rfl ?_
            refine mm_20 (v := .int (f 15)) hS690 hi_217_5 rfl ?_
            refine am_e0 hi_217_8 ?_
            refine am_e10 (z := z780) hi_217_9 hz780 ?_
            refine mm_25 hS690 ma_17 hi_217_10 (by decide) (by omega) (by omega) ?_
            show am_E _ _ _ _ [some (.ref 39), none] [.int (g 17 z780.toNatClampNeg)] _ _
            have r782 : (g 16 z780.toNatClampNeg).toInt = 1 ∨ (g 16 z780.toNatClampNeg).toInt = 2 → 0 ≤ (g 17 z780.toNatClampNeg).toInt ∧ (g 17 z780.toNatClampNeg).toInt < 65536 := RJ.vc hR z780.toNatClampNeg
            refine am_e3 (ls' := [some (.ref 39), some (.int (g 17 z780.toNatClampNeg))]) hi_217_11 (Nat.le_of_ble_eq_true rfl) rfl ?_
            refine am_e2 (v := 39) hi_217_12 rfl ?_
            refine mm_20 (v := .ref 91) hS690 hi_217_13 rfl ?_
            refine am_e1 (v := g 17 z780.toNatClampNeg) hi_217_16 rfl ?_
            refine am_e2 (v := 39) hi_217_17 rfl ?_
            refine mm_20 (v := .ref 46) hS690 hi_217_18 rfl ?_
            refine am_e2 (v := 39) hi_217_21 rfl ?_
            refine mm_20 (v := .int (f 15)) hS690 hi_217_22 rfl ?_
            refine am_e0 hi_217_25 ?_
            refine am_e10 (z := z780) hi_217_26 hz780 ?_
            refine mm_25 hS690 ma_16 hi_217_27 (by decide) (by omega) (by omega) ?_
            show am_E _ _ _ _ [some (.ref 39), some (.int (g 17 z780.toNatClampNeg))] [.int (g 16 z780.toNatClampNeg), .int (g 17 z780.toNatClampNeg), .ref 91] _ _
            refine am_e0 hi_217_28 ?_
            refine am_e13f hi_217_29 (am_cF (m := (g 16 z780.toNatClampNeg).toInt) (n := (1 : Int)) rfl (by decide) (by simp only [am_cI]; omega)) ?_
            refine am_e2 (v := 39) hi_217_32 rfl ?_
            refine mm_20 (v := .ref 91) hS690 hi_217_33 rfl ?_
            refine am_e1 (v := g 17 z780.toNatClampNeg) hi_217_36 rfl ?_
            refine mm_25 hS690 ma_72 hi_217_37 (by decide) (by omega) (by omega) ?_
            show am_E _ _ _ _ [some (.ref 39), some (.int (g 17 z780.toNatClampNeg))] [.int (g 72 (g 17 z780.toNatClampNeg).toNatClampNeg), .int (g 17 z780.toNatClampNeg), .ref 91] _ _
            refine am_e0 hi_217_38 ?_
            obtain ⟨z783, hz783⟩ : ∃ q__, am_bin 3 (g 72 (g 17 z780.toNatClampNeg).toNatClampNeg) 1 = q__ := ⟨_, rfl⟩
            refine am_e10 (z := z783) hi_217_39 hz783 ?_
            refine am_e0 hi_217_40 ?_
            obtain ⟨z784, hz784⟩ : ∃ q__, am_bin 4 z783 4 = q__ := ⟨_, rfl⟩
            refine am_e10 (z := z784) hi_217_41 hz784 ?_
            refine am_e18 hi_217_42 ?_
            refine mm_26 hS690 ma_72 hi_217_46 (by decide) (by omega) (by omega) (fun h => nomatch h) ?_
            intro S785 hS786
            refine am_e2 (v := 39) hi_217_47 rfl ?_
            refine am_e7 hi_217_48 ?_
            refine mm_20 (v := .int (f 15)) hS786 hi_217_49 rfl ?_
            refine am_e0 hi_217_52 ?_
            refine am_e10 (z := z780) hi_217_53 hz780 ?_
            refine mm_21 (v := z780) hS786 hi_217_54 rfl (Nat.le_of_ble_eq_true rfl) ms_15 ?_
            intro S787 hS788
            have hp789 : mj_n (g 16) (f 15).toNatClampNeg 3 = mj_n (g 16) z780.toNatClampNeg 3 + if (g 16 z780.toNatClampNeg).toInt = 3 then 1 else 0 := mj_pop (by rw [cl_toNat, cl_toNat]; omega)
            have hp7891 : mj_n (g 16) z780.toNatClampNeg 3 ≤ mj_n (g 16) (f 15).toNatClampNeg 3 := by rw [hp789]; split <;> omega
            have hp7892 : (g 16 z780.toNatClampNeg).toInt = 3 → mj_n (g 16) z780.toNatClampNeg 3 + 1 ≤ mj_n (g 16) (f 15).toNatClampNeg 3 := fun q => by rw [hp789, if_pos q]; exact Int.le_refl _
            refine am_e35 hi_217_57 ?_
            show am_E _ _ _ _ [some (.ref 39), some (.int on), some (.int tw), some (.int 1)] [] _ _
            refine am_e2 (v := 39) hi_221_63 rfl ?_
            refine am_e0 hi_221_64 ?_
            refine am_e1 (v := on) hi_221_66 rfl ?_
            refine am_e0 hi_221_67 ?_
            refine am_e1 (v := tw) hi_221_68 rfl ?_
            refine am_e32n (as := [.ref 39, .int 24, .int on, .int 0, .int tw]) (la := [some (.ref 39), some (.int 24), some (.int on), some (.int 0), some (.int tw)]) (rest := []) hi_221_69 (am_hd0 (M := 221) (by decide) 69) (Nat.le_of_ble_eq_true rfl) (Nat.le_of_ble_eq_true rfl) (show 5 ≤ am_P0.2.2.1 189 from by decide +kernel) rfl (am_recv_ok hS788.fs) rfl rfl (ct_put (d := (d + 5)) hS788 hR  (by show (0 : Int) ≤ (f 32).toInt; omega) (by show (f 32).toInt ≤ (63 : Int); omega) (by show (f 53).toInt ≤ (4096 : Int); omega) (by show (0 : Int) ≤ (f 68).toInt; omega) (by show (f 68).toInt ≤ (65534 : Int); omega)) ?_
            rintro v790 S791 (⟨z792, r793, g'794, hv795, hS796, hR800, h797, h798, h799⟩)
            subst hv795
            have h797_ : z792.toInt = (f 68).toInt + 1 := h797
            have h798_ : r793.toInt = (f 68).toInt := h798
            have h799_ : ∀ j, j ∉ [60, 69, 70, 71, 72, 73] → g'794 j = (upg g 72 (g 17 z780.toNatClampNeg).toNatClampNeg z784) j := h799
            have hR800_ : RJ (upd (upd f 15 z780) 68 z792) g'794 gs bc [] 0 ((f 68).toNatClampNeg :: []) := hR800
            show am_E _ _ _ _ [some (.ref 39), some (.int on), some (.int tw), some (.int 1)] [.int r793] _ _
            refine am_e6i hi_221_72 ?_
            refine am_e18 hi_221_73 ?_
            refine am_e2 (v := 39) hi_221_90 rfl ?_
            refine am_e1 (v := on) hi_221_91 rfl ?_
            refine am_e32w (as := [.ref 39, .int on]) (la := [some (.ref 39), some (.int on)]) (rest := []) hi_221_92 (am_hd0 (M := 221) (by decide) 92) (Nat.le_of_ble_eq_true rfl) (Nat.le_of_ble_eq_true rfl) (show 2 ≤ am_P0.2.2.1 220 from by decide +kernel) rfl (am_recv_ok hS796.fs) rfl rfl ?_
            refine am_e2 (v := 39) hi_220_0 rfl ?_
            refine am_e32n (as := [.ref 39]) (la := [some (.ref 39)]) (rest := []) hi_220_1 (am_hd0 (M := 220) (by decide) 1) (Nat.le_of_ble_eq_true rfl) (Nat.le_of_ble_eq_true rfl) (show 1 ≤ am_P0.2.2.1 183 from by decide +kernel) rfl (am_recv_ok hS796.fs) rfl rfl (ct_next (d := (d + 3)) hS796   (by show (0 : Int) ≤ (f 4).toInt; omega) (by show (f 0).toInt ≤ (16384 : Int); omega)) ?_
            rintro v801 S802 (⟨r803, hv804, hS805, h806⟩)
            subst hv804
            have h806_ : (f 4).toInt < (f 0).toInt ∨ r803.toInt = (-1 : Int) := h806
            show am_E _ _ _ _ [some (.ref 39), some (.int on)] [.int r803] _ _
            refine am_e0 hi_220_4 ?_
            by_cases c808 : r803.toInt = (69 : Int)
            · refine am_e13t hi_220_6 (am_cT (m := r803.toInt) (n := (69 : Int)) rfl (by decide) c808) ?_
              refine am_e2 (v := 39) hi_220_18 rfl ?_
              refine am_e7 hi_220_19 ?_
              refine mm_20 (v := .int (f 4)) hS805 hi_220_20 rfl ?_
              refine am_e0 hi_220_23 ?_
              refine am_e10 (z := z685) hi_220_24 hz685 ?_
              refine mm_21 (v := z685) hS805 hi_220_25 rfl (Nat.le_of_ble_eq_true rfl) ms_4 ?_
              intro S809 hS810
              replace hS810 : MS S0 S809 (upd (upd (upd f 4 z685) 15 z780) 68 z792) g'794 := hS810
              have hR811 : RJ (upd (upd (upd f 4 z685) 15 z780) 68 z792) g'794 gs bc [] 0 ((f 68).toNatClampNeg :: []) := RJ.at hR800_ (by show (f 4).toInt ≤ z685.toInt; omega)
              refine am_e2 (v := 39) hi_220_28 rfl ?_
              refine am_e0 hi_220_29 ?_
              refine am_e1 (v := on) hi_220_31 rfl ?_
              refine am_e0 hi_220_32 ?_
              refine am_e0 hi_220_33 ?_
              refine am_e32n (as := [.ref 39, .int 35, .int on, .int 0, .int 0]) (la := [some (.ref 39), some (.int 35), some (.int on), some (.int 0), some (.int 0)]) (rest := []) hi_220_34 (am_hd0 (M := 220) (by decide) 34) (Nat.le_of_ble_eq_true rfl) (Nat.le_of_ble_eq_true rfl) (show 5 ≤ am_P0.2.2.1 179 from by decide +kernel) rfl (am_recv_ok hS810.fs) rfl rfl (ct_pile (d := (d + 4)) hS810 hR811 (mj_e_plain (by decide)) (by show (0 : Int) ≤ (f 10).toInt; omega) (by show (f 10).toInt ≤ (65535 : Int); omega)) ?_
              rintro v812 S813 (⟨z814, g'815, hv816, hS817, hR820, h818, h819⟩)
              subst hv816
              have h818_ : z814.toInt = (f 10).toInt + 1 := h818
              have h819_ : ∀ j, j ∉ [11, 12, 13, 14] → g'815 j = g'794 j := h819
              replace hS817 : MS S0 S813 (upd (upd (upd (upd f 4 z685) 10 z814) 15 z780) 68 z792) g'815 := hS817
              have hR820_ : RJ (upd (upd (upd (upd f 4 z685) 10 z814) 15 z780) 68 z792) g'815 (((35 : Int), on.toInt, (0 : Int), (0 : Int), []) :: gs) bc [] 0 ((f 68).toNatClampNeg :: []) := hR820
              show am_E _ _ _ _ [some (.ref 39), some (.int on)] [] _ _
              refine am_e18 hi_220_37 ?_
              refine am_e35 hi_220_47 ?_
              show am_E _ _ _ _ [some (.ref 39), some (.int on), some (.int tw), some (.int 1)] [] _ _
              refine am_e35 hi_221_95 ?_
              show am_E _ _ _ _ [some (.ref 39), some (.int 39), some (.int on), some (.int tw)] [] _ _
              refine am_e18 hi_181_366 ?_
              refine am_e35 hi_181_397 ?_
              show am_E _ _ _ _ [some (.ref 39), some (.int 39), some (.int on), some (.int tw), some (.int th)] [] _ _
              refine am_e35 hi_180_13 ?_
              have q1 : mg_p1 (((35 : Int), on.toInt, (0 : Int), (0 : Int), []) :: gs) = 0 + (mg_p1 gs) := rfl
              have q2 : mg_p2 (((35 : Int), on.toInt, (0 : Int), (0 : Int), []) :: gs) = 0 + (mg_p2 gs) := rfl
              have q3 : mg_p3 (((35 : Int), on.toInt, (0 : Int), (0 : Int), []) :: gs) = 3 + (mg_p3 gs) := rfl
              have q4 : mg_p4 (((35 : Int), on.toInt, (0 : Int), (0 : Int), []) :: gs) = 0 + (mg_p4 gs) := rfl
              refine ⟨_, _, _, bc, rfl, hS817, Or.inl ⟨⟨(RJ.fewer (pj' := []) hR820_ (fun _ h => nomatch h)), ?_, ?_⟩, rfl, ?_⟩⟩
              · exact (⟨⟨(show (0 : Int) ≤ 35 from by decide), (show (0 : Int) ≤ z780.toInt from by omega), (show 0 ≤ (f 20).toInt from by omega), (show 1 ≤ (f 37).toInt from by omega), (show 0 ≤ (f 32).toInt from by omega), (show (f 32).toInt ≤ (f 5).toInt from by omega), (show (f 5).toInt ≤ 48 from by omega), (show (f 37).toInt ≤ 2 * ((f 5).toInt) + 2 from by omega), trivial⟩, mg_cast (mg_good_ext _ _ _ _ _ _ (fun i _ => by show g'815 34 i = g 34 i; rw [show g'815 34 = g'794 34 from h819_ 34 (by decide), show g'794 34 = g 34 from h799_ 34 (by decide)]) (fun i _ => by show g'815 38 i = g 38 i; rw [show g'815 38 = g'794 38 from h819_ 38 (by decide), show g'794 38 = g 38 from h799_ 38 (by decide)]) hrest) (by show (f 15).toInt + -1 = z780.toInt + 0; omega) (by show (f 20).toInt = (f 20).toInt; omega) (by show (f 37).toInt + 0 = (f 37).toInt + 0; omega) (by show (f 32).toInt + 0 = (f 32).toInt + 0; omega) (by show (f 5).toInt + -1 = (f 5).toInt + -1; omega)⟩ : mg_good (g'815 34) (g'815 38) (((35 : Int), on.toInt, (0 : Int), (0 : Int), []) :: gs) (z780.toInt) ((f 20).toInt) ((f 37).toInt) ((f 32).toInt) ((f 5).toInt))
              · exact ⟨(by show 0 ≤ z685.toInt; omega), (by show z685.toInt ≤ (f 0).toInt; omega), (by show (f 0).toInt ≤ 512; omega), (by show 0 ≤ (f 24).toInt; omega), (by show (f 24).toInt + (f 20).toInt + mg_p1 (((35 : Int), on.toInt, (0 : Int), (0 : Int), []) :: gs) ≤ 4 * z685.toInt; omega), (by show (f 20).toInt ≤ z685.toInt; omega), (by show z780.toInt + mg_p2 (((35 : Int), on.toInt, (0 : Int), (0 : Int), []) :: gs) ≤ z685.toInt; omega), (by show mg_p3 (((35 : Int), on.toInt, (0 : Int), (0 : Int), []) :: gs) ≤ 20 * z685.toInt + 20; omega), (by show 0 ≤ z792.toInt; omega), (by show z792.toInt + 3 * (f 20).toInt + mg_p4 (((35 : Int), on.toInt, (0 : Int), (0 : Int), []) :: gs) ≤ 60 * z685.toInt + 60; omega), (by show 0 ≤ (f 62).toInt; omega), (by show (f 62).toInt + 64 * mj_n (g'815 16) z780.toNatClampNeg 3 ≤ 64 * z685.toInt; rw [show g'815 16 = g'794 16 from h819_ 16 (by decide), show g'794 16 = g 16 from h799_ 16 (by decide)]; omega), (by show 0 ≤ (f 44).toInt; omega), (by show (f 44).toInt ≤ z685.toInt; omega), (by show 0 ≤ (f 48).toInt; omega), (by show (f 48).toInt ≤ z685.toInt; omega), (by show 1 ≤ (f 53).toInt; omega), (by show (f 53).toInt ≤ z685.toInt + 1; omega)⟩
              · show 100 * ((f 0).toInt - z685.toInt) + mg_p3 (((35 : Int), on.toInt, (0 : Int), (0 : Int), []) :: gs) < 100 * ((f 0).toInt - (f 4).toInt) + (1 + mg_p3 gs); omega
            · refine am_e13f hi_220_6 (am_cF (m := r803.toInt) (n := (69 : Int)) rfl (by decide) c808) ?_
              refine am_e2 (v := 39) hi_220_9 rfl ?_
              refine am_e32n (as := [.ref 39]) (la := [some (.ref 39)]) (rest := []) hi_220_10 (am_hd0 (M := 220) (by decide) 10) (Nat.le_of_ble_eq_true rfl) (Nat.le_of_ble_eq_true rfl) (show 1 ≤ am_P0.2.2.1 183 from by decide +kernel) rfl (am_recv_ok hS805.fs) rfl rfl (ct_next (d := (d + 3)) hS805   (by show (0 : Int) ≤ (f 4).toInt; omega) (by show (f 0).toInt ≤ (16384 : Int); omega)) ?_
              rintro v821 S822 (⟨r823, hv824, hS825, h826⟩)
              subst hv824
              have h826_ : (f 4).toInt < (f 0).toInt ∨ r823.toInt = (-1 : Int) := h826
              show am_E _ _ _ _ [some (.ref 39), some (.int on)] [.int r823] _ _
              refine am_e0 hi_220_13 ?_
              by_cases c828 : ¬ r823.toInt = (67 : Int)
              · refine am_e13t hi_220_15 (am_cT (m := r823.toInt) (n := (67 : Int)) rfl (by decide) c828) ?_
                refine am_e2 (v := 39) hi_220_40 rfl ?_
                refine am_e0 hi_220_41 ?_
                refine am_e32n (as := [.ref 39, .int 63]) (la := [some (.ref 39), some (.int 63)]) (rest := []) hi_220_43 (am_hd0 (M := 220) (by decide) 43) (Nat.le_of_ble_eq_true rfl) (Nat.le_of_ble_eq_true rfl) (show 2 ≤ am_P0.2.2.1 199 from by decide +kernel) rfl (am_recv_ok hS825.fs) rfl rfl (ct_leave (d := (d + 1)) hS825   (by show (0 : Int) ≤ (f 4).toInt; omega) (by show (f 0).toInt ≤ (16384 : Int); omega) (by show (0 : Int) ≤ (63 : Int); omega) (by show (0 : Int) ≤ (f 5).toInt; omega) (by show (f 5).toInt ≤ (48 : Int); omega)) ?_
                rintro v829 S830 (⟨z831, y832, hv833, hS834, h835, h836, h837⟩ | ⟨a839, b840, hv841, hS842⟩)
                · subst hv833
                  have h835_ : z831.toInt = (f 4).toInt + 1 := h835
                  have h836_ : (f 4).toInt < (f 0).toInt := h836
                  have h837_ : y832.toInt = (f 5).toInt - 1 := h837
                  replace hS834 : MS S0 S830 (upd (upd (upd (upd f 4 z831) 5 y832) 15 z780) 68 z792) g'794 := hS834
                  have hR844 : RJ (upd (upd (upd (upd f 4 z831) 5 y832) 15 z780) 68 z792) g'794 gs bc [] 0 ((f 68).toNatClampNeg :: []) := RJ.at hR800_ (by show (f 4).toInt ≤ z831.toInt; omega)
                  show am_E _ _ _ _ [some (.ref 39), some (.int on)] [.int 1] _ _
                  refine am_e6i hi_220_46 ?_
                  refine am_e35 hi_220_47 ?_
                  show am_E _ _ _ _ [some (.ref 39), some (.int on), some (.int tw), some (.int 1)] [] _ _
                  refine am_e35 hi_221_95 ?_
                  show am_E _ _ _ _ [some (.ref 39), some (.int 39), some (.int on), some (.int tw)] [] _ _
                  refine am_e18 hi_181_366 ?_
                  refine am_e35 hi_181_397 ?_
                  show am_E _ _ _ _ [some (.ref 39), some (.int 39), some (.int on), some (.int tw), some (.int th)] [] _ _
                  refine am_e35 hi_180_13 ?_
                  have q1 : mg_p1 gs = mg_p1 gs := rfl
                  have q2 : mg_p2 gs = mg_p2 gs := rfl
                  have q3 : mg_p3 gs = mg_p3 gs := rfl
                  have q4 : mg_p4 gs = mg_p4 gs := rfl
                  refine ⟨_, _, _, bc, rfl, hS834, Or.inl ⟨⟨(RJ.fewer (pj' := []) hR844 (fun _ h => nomatch h)), ?_, ?_⟩, rfl, ?_⟩⟩
                  · exact (mg_cast (mg_good_ext _ _ _ _ _ _ (fun i _ => by show g'794 34 i = g 34 i; rw [show g'794 34 = g 34 from h799_ 34 (by decide)]) (fun i _ => by show g'794 38 i = g 38 i; rw [show g'794 38 = g 38 from h799_ 38 (by decide)]) hrest) (by show (f 15).toInt + -1 = z780.toInt; omega) (by show (f 20).toInt = (f 20).toInt; omega) (by show (f 37).toInt + 0 = (f 37).toInt; omega) (by show (f 32).toInt + 0 = (f 32).toInt; omega) (by show (f 5).toInt + -1 = y832.toInt; omega) : mg_good (g'794 34) (g'794 38) gs (z780.toInt) ((f 20).toInt) ((f 37).toInt) ((f 32).toInt) (y832.toInt))
                  · exact ⟨(by show 0 ≤ z831.toInt; omega), (by show z831.toInt ≤ (f 0).toInt; omega), (by show (f 0).toInt ≤ 512; omega), (by show 0 ≤ (f 24).toInt; omega), (by show (f 24).toInt + (f 20).toInt + mg_p1 gs ≤ 4 * z831.toInt; omega), (by show (f 20).toInt ≤ z831.toInt; omega), (by show z780.toInt + mg_p2 gs ≤ z831.toInt; omega), (by show mg_p3 gs ≤ 20 * z831.toInt + 20; omega), (by show 0 ≤ z792.toInt; omega), (by show z792.toInt + 3 * (f 20).toInt + mg_p4 gs ≤ 60 * z831.toInt + 60; omega), (by show 0 ≤ (f 62).toInt; omega), (by show (f 62).toInt + 64 * mj_n (g'794 16) z780.toNatClampNeg 3 ≤ 64 * z831.toInt; rw [show g'794 16 = g 16 from h799_ 16 (by decide)]; omega), (by show 0 ≤ (f 44).toInt; omega), (by show (f 44).toInt ≤ z831.toInt; omega), (by show 0 ≤ (f 48).toInt; omega), (by show (f 48).toInt ≤ z831.toInt; omega), (by show 1 ≤ (f 53).toInt; omega), (by show (f 53).toInt ≤ z831.toInt + 1; omega)⟩
                  · show 100 * ((f 0).toInt - z831.toInt) + mg_p3 gs < 100 * ((f 0).toInt - (f 4).toInt) + (1 + mg_p3 gs); omega
                · subst hv841
                  replace hS842 : MS S0 S830 (upd (upd (upd (upd (upd f 6 a839) 7 b840) 10 0) 15 z780) 68 z792) g'794 := hS842
                  show am_E _ _ _ _ [some (.ref 39), some (.int on)] [.int 0] _ _
                  refine am_e6i hi_220_46 ?_
                  refine am_e35 hi_220_47 ?_
                  show am_E _ _ _ _ [some (.ref 39), some (.int on), some (.int tw), some (.int 1)] [] _ _
                  refine am_e35 hi_221_95 ?_
                  show am_E _ _ _ _ [some (.ref 39), some (.int 39), some (.int on), some (.int tw)] [] _ _
                  refine am_e18 hi_181_366 ?_
                  refine am_e35 hi_181_397 ?_
                  show am_E _ _ _ _ [some (.ref 39), some (.int 39), some (.int on), some (.int tw), some (.int th)] [] _ _
                  refine am_e35 hi_180_13 ?_
                  have hRc := rj_clear0 hR800_
                  refine ⟨_, _, [], _, rfl, hS842, Or.inr ⟨hRc, rfl, (by show 0 ≤ (f 4).toInt; omega), (by show (f 4).toInt ≤ (f 0).toInt; omega), (by show 0 ≤ (f 32).toInt; omega), (by show (f 32).toInt ≤ 63; omega), (by show 1 ≤ (f 53).toInt; omega), (by show (f 53).toInt ≤ 600; omega), (by show 0 ≤ z792.toInt; omega), (by show z792.toInt ≤ 60000; omega), (by show 0 ≤ (f 48).toInt; omega), (by show (f 48).toInt ≤ 8000; omega), (by show 0 ≤ (f 37).toInt; omega), (by show (f 37).toInt ≤ 128; omega), (by show 0 ≤ (f 62).toInt; omega), (by show (f 62).toInt ≤ 65000; omega)⟩⟩
              · refine am_e13f hi_220_15 (am_cF (m := r823.toInt) (n := (67 : Int)) rfl (by decide) c828) ?_
                refine am_e2 (v := 39) hi_220_18 rfl ?_
                refine am_e7 hi_220_19 ?_
                refine mm_20 (v := .int (f 4)) hS825 hi_220_20 rfl ?_
                refine am_e0 hi_220_23 ?_
                refine am_e10 (z := z685) hi_220_24 hz685 ?_
                refine mm_21 (v := z685) hS825 hi_220_25 rfl (Nat.le_of_ble_eq_true rfl) ms_4 ?_
                intro S845 hS846
                replace hS846 : MS S0 S845 (upd (upd (upd f 4 z685) 15 z780) 68 z792) g'794 := hS846
                have hR847 : RJ (upd (upd (upd f 4 z685) 15 z780) 68 z792) g'794 gs bc [] 0 ((f 68).toNatClampNeg :: []) := RJ.at hR800_ (by show (f 4).toInt ≤ z685.toInt; omega)
                refine am_e2 (v := 39) hi_220_28 rfl ?_
                refine am_e0 hi_220_29 ?_
                refine am_e1 (v := on) hi_220_31 rfl ?_
                refine am_e0 hi_220_32 ?_
                refine am_e0 hi_220_33 ?_
                refine am_e32n (as := [.ref 39, .int 35, .int on, .int 0, .int 0]) (la := [some (.ref 39), some (.int 35), some (.int on), some (.int 0), some (.int 0)]) (rest := []) hi_220_34 (am_hd0 (M := 220) (by decide) 34) (Nat.le_of_ble_eq_true rfl) (Nat.le_of_ble_eq_true rfl) (show 5 ≤ am_P0.2.2.1 179 from by decide +kernel) rfl (am_recv_ok hS846.fs) rfl rfl (ct_pile (d := (d + 4)) hS846 hR847 (mj_e_plain (by decide)) (by show (0 : Int) ≤ (f 10).toInt; omega) (by show (f 10).toInt ≤ (65535 : Int); omega)) ?_
                rintro v848 S849 (⟨z850, g'851, hv852, hS853, hR856, h854, h855⟩)
                subst hv852
                have h854_ : z850.toInt = (f 10).toInt + 1 := h854
                have h855_ : ∀ j, j ∉ [11, 12, 13, 14] → g'851 j = g'794 j := h855
                replace hS853 : MS S0 S849 (upd (upd (upd (upd f 4 z685) 10 z850) 15 z780) 68 z792) g'851 := hS853
                have hR856_ : RJ (upd (upd (upd (upd f 4 z685) 10 z850) 15 z780) 68 z792) g'851 (((35 : Int), on.toInt, (0 : Int), (0 : Int), []) :: gs) bc [] 0 ((f 68).toNatClampNeg :: []) := hR856
                show am_E _ _ _ _ [some (.ref 39), some (.int on)] [] _ _
                refine am_e18 hi_220_37 ?_
                refine am_e35 hi_220_47 ?_
                show am_E _ _ _ _ [some (.ref 39), some (.int on), some (.int tw), some (.int 1)] [] _ _
                refine am_e35 hi_221_95 ?_
                show am_E _ _ _ _ [some (.ref 39), some (.int 39), some (.int on), some (.int tw)] [] _ _
                refine am_e18 hi_181_366 ?_
                refine am_e35 hi_181_397 ?_
                show am_E _ _ _ _ [some (.ref 39), some (.int 39), some (.int on), some (.int tw), some (.int th)] [] _ _
                refine am_e35 hi_180_13 ?_
                have q1 : mg_p1 (((35 : Int), on.toInt, (0 : Int), (0 : Int), []) :: gs) = 0 + (mg_p1 gs) := rfl
                have q2 : mg_p2 (((35 : Int), on.toInt, (0 : Int), (0 : Int), []) :: gs) = 0 + (mg_p2 gs) := rfl
                have q3 : mg_p3 (((35 : Int), on.toInt, (0 : Int), (0 : Int), []) :: gs) = 3 + (mg_p3 gs) := rfl
                have q4 : mg_p4 (((35 : Int), on.toInt, (0 : Int), (0 : Int), []) :: gs) = 0 + (mg_p4 gs) := rfl
                refine ⟨_, _, _, bc, rfl, hS853, Or.inl ⟨⟨(RJ.fewer (pj' := []) hR856_ (fun _ h => nomatch h)), ?_, ?_⟩, rfl, ?_⟩⟩
                · exact (⟨⟨(show (0 : Int) ≤ 35 from by decide), (show (0 : Int) ≤ z780.toInt from by omega), (show 0 ≤ (f 20).toInt from by omega), (show 1 ≤ (f 37).toInt from by omega), (show 0 ≤ (f 32).toInt from by omega), (show (f 32).toInt ≤ (f 5).toInt from by omega), (show (f 5).toInt ≤ 48 from by omega), (show (f 37).toInt ≤ 2 * ((f 5).toInt) + 2 from by omega), trivial⟩, mg_cast (mg_good_ext _ _ _ _ _ _ (fun i _ => by show g'851 34 i = g 34 i; rw [show g'851 34 = g'794 34 from h855_ 34 (by decide), show g'794 34 = g 34 from h799_ 34 (by decide)]) (fun i _ => by show g'851 38 i = g 38 i; rw [show g'851 38 = g'794 38 from h855_ 38 (by decide), show g'794 38 = g 38 from h799_ 38 (by decide)]) hrest) (by show (f 15).toInt + -1 = z780.toInt + 0; omega) (by show (f 20).toInt = (f 20).toInt; omega) (by show (f 37).toInt + 0 = (f 37).toInt + 0; omega) (by show (f 32).toInt + 0 = (f 32).toInt + 0; omega) (by show (f 5).toInt + -1 = (f 5).toInt + -1; omega)⟩ : mg_good (g'851 34) (g'851 38) (((35 : Int), on.toInt, (0 : Int), (0 : Int), []) :: gs) (z780.toInt) ((f 20).toInt) ((f 37).toInt) ((f 32).toInt) ((f 5).toInt))
                · exact ⟨(by show 0 ≤ z685.toInt; omega), (by show z685.toInt ≤ (f 0).toInt; omega), (by show (f 0).toInt ≤ 512; omega), (by show 0 ≤ (f 24).toInt; omega), (by show (f 24).toInt + (f 20).toInt + mg_p1 (((35 : Int), on.toInt, (0 : Int), (0 : Int), []) :: gs) ≤ 4 * z685.toInt; omega), (by show (f 20).toInt ≤ z685.toInt; omega), (by show z780.toInt + mg_p2 (((35 : Int), on.toInt, (0 : Int), (0 : Int), []) :: gs) ≤ z685.toInt; omega), (by show mg_p3 (((35 : Int), on.toInt, (0 : Int), (0 : Int), []) :: gs) ≤ 20 * z685.toInt + 20; omega), (by show 0 ≤ z792.toInt; omega), (by show z792.toInt + 3 * (f 20).toInt + mg_p4 (((35 : Int), on.toInt, (0 : Int), (0 : Int), []) :: gs) ≤ 60 * z685.toInt + 60; omega), (by show 0 ≤ (f 62).toInt; omega), (by show (f 62).toInt + 64 * mj_n (g'851 16) z780.toNatClampNeg 3 ≤ 64 * z685.toInt; rw [show g'851 16 = g'794 16 from h855_ 16 (by decide), show g'794 16 = g 16 from h799_ 16 (by decide)]; omega), (by show 0 ≤ (f 44).toInt; omega), (by show (f 44).toInt ≤ z685.toInt; omega), (by show 0 ≤ (f 48).toInt; omega), (by show (f 48).toInt ≤ z685.toInt; omega), (by show 1 ≤ (f 53).toInt; omega), (by show (f 53).toInt ≤ z685.toInt + 1; omega)⟩
                · show 100 * ((f 0).toInt - z685.toInt) + mg_p3 (((35 : Int), on.toInt, (0 : Int), (0 : Int), []) :: gs) < 100 * ((f 0).toInt - (f 4).toInt) + (1 + mg_p3 gs); omega
          · refine am_e13f hi_216_12 (am_cF (m := (g 16 z780.toNatClampNeg).toInt) (n := (1 : Int)) rfl (by decide) c781) ?_
            refine am_e2 (v := 39) hi_216_15 rfl ?_
            refine mm_20 (v := .ref 46) hS690 hi_216_16 rfl ?_
            refine am_e2 (v := 39) hi_216_19 rfl ?_
            refine mm_20 (v := .int (f 15)) hS690 hi_216_20 rfl ?_
            refine am_e0 hi_216_23 ?_
            refine am_e10 (z := z780) hi_216_24 hz780 ?_
            refine mm_25 hS690 ma_16 hi_216_25 (by decide) (by omega) (by omega) ?_
            show am_E _ _ _ _ [some (.ref 39)] [.int (g 16 z780.toNatClampNeg)] _ _
            refine am_e0 hi_216_26 ?_
            by_cases c857 : ¬ (g 16 z780.toNatClampNeg).toInt = (2 : Int)
            · refine am_e13t hi_216_27 (am_cT (m := (g 16 z780.toNatClampNeg).toInt) (n := (2 : Int)) rfl (by decide) c857) ?_
              refine am_e0 hi_216_34 ?_
              refine am_e36 hi_216_35 (by decide) ?_
              show am_E _ _ _ _ [some (.ref 39), some (.int on), some (.int tw), some (.int 1)] [.int 0] _ _
              refine am_e12t hi_221_56 (by decide) ?_
              refine am_e2 (v := 39) hi_221_76 rfl ?_
              refine am_e32w (as := [.ref 39]) (la := [some (.ref 39)]) (rest := []) hi_221_77 (am_hd0 (M := 221) (by decide) 77) (Nat.le_of_ble_eq_true rfl) (Nat.le_of_ble_eq_true rfl) (show 1 ≤ am_P0.2.2.1 209 from by decide +kernel) rfl (am_recv_ok hS690.fs) rfl rfl ?_
              refine am_e2 (v := 39) hi_209_0 rfl ?_
              refine am_e32n (as := [.ref 39]) (la := [some (.ref 39), none, none, none]) (rest := []) hi_209_1 (am_hd0 (M := 209) (by decide) 1) (Nat.le_of_ble_eq_true rfl) (Nat.le_of_ble_eq_true rfl) (show 1 ≤ am_P0.2.2.1 204 from by decide +kernel) rfl (am_recv_ok hS690.fs) rfl rfl (ct_load (d := (d + 2)) hS690 hR  (by show (0 : Int) ≤ (f 32).toInt; omega) (by show (f 32).toInt ≤ (63 : Int); omega) (by show (f 53).toInt ≤ (4096 : Int); omega) (by show (0 : Int) ≤ (f 68).toInt; omega) (by show (f 68).toInt ≤ (65534 : Int); omega) (by show (1 : Int) ≤ (f 15).toInt; omega) (by show (f 15).toInt ≤ (32767 : Int); omega) (by show (0 : Int) ≤ (f 24).toInt; omega) (by show (f 24).toInt ≤ (16384 : Int); omega) (by show (0 : Int) ≤ (f 62).toInt; omega) (by show (f 62).toInt ≤ (65000 : Int); omega)) ?_
              rintro v858 S859 (⟨o860, s861, m862, g'863, hv864, hS865, hR872, h866, h867, h868, h869, h870, h871⟩)
              subst hv864
              have h866_ : (f 62).toInt ≤ o860.toInt := h866
              have h867_ : o860.toInt ≤ (f 62).toInt + 64 := h867
              have h868_ : (f 68).toInt ≤ s861.toInt := h868
              have h869_ : s861.toInt ≤ (f 68).toInt + 1 := h869
              have h870_ : o860.toInt + 64 * mj_n (g'863 16) (f 15).toNatClampNeg 3 ≤ (f 62).toInt + 64 * mj_n (g 16) (f 15).toNatClampNeg 3 := h870
              have h871_ : ∀ j, j ∉ [16, 60, 63, 64, 65, 66, 67, 69, 70, 71, 72, 73] → g'863 j = g j := h871
              have hR872_ : RJ (upd (upd (upd f 62 o860) 68 s861) 75 m862) g'863 gs bc [] 0 [] := hR872
              show am_E _ _ _ _ [some (.ref 39)] [] _ _
              refine am_e2 (v := 39) hi_209_4 rfl ?_
              refine am_e7 hi_209_5 ?_
              refine mm_20 (v := .int (f 15)) hS865 hi_209_6 rfl ?_
              refine am_e0 hi_209_9 ?_
              refine am_e10 (z := z780) hi_209_10 hz780 ?_
              refine mm_21 (v := z780) hS865 hi_209_11 rfl (Nat.le_of_ble_eq_true rfl) ms_15 ?_
              intro S873 hS874
              replace hS874 : MS S0 S873 (upd (upd (upd (upd f 15 z780) 62 o860) 68 s861) 75 m862) g'863 := hS874
              have hp875 : mj_n (g'863 16) (f 15).toNatClampNeg 3 = mj_n (g'863 16) z780.toNatClampNeg 3 + if (g'863 16 z780.toNatClampNeg).toInt = 3 then 1 else 0 := mj_pop (by rw [cl_toNat, cl_toNat]; omega)
              have hp8751 : mj_n (g'863 16) z780.toNatClampNeg 3 ≤ mj_n (g'863 16) (f 15).toNatClampNeg 3 := by rw [hp875]; split <;> omega
              have hp8752 : (g'863 16 z780.toNatClampNeg).toInt = 3 → mj_n (g'863 16) z780.toNatClampNeg 3 + 1 ≤ mj_n (g'863 16) (f 15).toNatClampNeg 3 := fun q => by rw [hp875, if_pos q]; exact Int.le_refl _
              refine am_e35 hi_209_14 ?_
              show am_E _ _ _ _ [some (.ref 39), some (.int on), some (.int tw), some (.int 1)] [] _ _
              refine am_e2 (v := 39) hi_221_80 rfl ?_
              refine am_e0 hi_221_81 ?_
              refine am_e1 (v := on) hi_221_83 rfl ?_
              refine am_e0 hi_221_84 ?_
              refine am_e1 (v := tw) hi_221_85 rfl ?_
              refine am_e32n (as := [.ref 39, .int 23, .int on, .int 0, .int tw]) (la := [some (.ref 39), some (.int 23), some (.int on), some (.int 0), some (.int tw)]) (rest := []) hi_221_86 (am_hd0 (M := 221) (by decide) 86) (Nat.le_of_ble_eq_true rfl) (Nat.le_of_ble_eq_true rfl) (show 5 ≤ am_P0.2.2.1 189 from by decide +kernel) rfl (am_recv_ok hS874.fs) rfl rfl (ct_put (d := (d + 5)) hS874 hR872_  (by show (0 : Int) ≤ (f 32).toInt; omega) (by show (f 32).toInt ≤ (63 : Int); omega) (by show (f 53).toInt ≤ (4096 : Int); omega) (by show (0 : Int) ≤ s861.toInt; omega) (by show s861.toInt ≤ (65534 : Int); omega)) ?_
              rintro v876 S877 (⟨z878, r879, g'880, hv881, hS882, hR886, h883, h884, h885⟩)
              subst hv881
              have h883_ : z878.toInt = s861.toInt + 1 := h883
              have h884_ : r879.toInt = s861.toInt := h884
              have h885_ : ∀ j, j ∉ [60, 69, 70, 71, 72, 73] → g'880 j = g'863 j := h885
              replace hS882 : MS S0 S877 (upd (upd (upd (upd f 15 z780) 62 o860) 68 z878) 75 m862) g'880 := hS882
              have hR886_ : RJ (upd (upd (upd (upd f 15 z780) 62 o860) 68 z878) 75 m862) g'880 gs bc [] 0 (s861.toNatClampNeg :: []) := hR886
              show am_E _ _ _ _ [some (.ref 39), some (.int on), some (.int tw), some (.int 1)] [.int r879] _ _
              refine am_e6i hi_221_89 ?_
              refine am_e2 (v := 39) hi_221_90 rfl ?_
              refine am_e1 (v := on) hi_221_91 rfl ?_
              refine am_e32w (as := [.ref 39, .int on]) (la := [some (.ref 39), some (.int on)]) (rest := []) hi_221_92 (am_hd0 (M := 221) (by decide) 92) (Nat.le_of_ble_eq_true rfl) (Nat.le_of_ble_eq_true rfl) (show 2 ≤ am_P0.2.2.1 220 from by decide +kernel) rfl (am_recv_ok hS882.fs) rfl rfl ?_
              refine am_e2 (v := 39) hi_220_0 rfl ?_
              refine am_e32n (as := [.ref 39]) (la := [some (.ref 39)]) (rest := []) hi_220_1 (am_hd0 (M := 220) (by decide) 1) (Nat.le_of_ble_eq_true rfl) (Nat.le_of_ble_eq_true rfl) (show 1 ≤ am_P0.2.2.1 183 from by decide +kernel) rfl (am_recv_ok hS882.fs) rfl rfl (ct_next (d := (d + 3)) hS882   (by show (0 : Int) ≤ (f 4).toInt; omega) (by show (f 0).toInt ≤ (16384 : Int); omega)) ?_
              rintro v887 S888 (⟨r889, hv890, hS891, h892⟩)
              subst hv890
              have h892_ : (f 4).toInt < (f 0).toInt ∨ r889.toInt = (-1 : Int) := h892
              show am_E _ _ _ _ [some (.ref 39), some (.int on)] [.int r889] _ _
              refine am_e0 hi_220_4 ?_
              by_cases c894 : r889.toInt = (69 : Int)
              · refine am_e13t hi_220_6 (am_cT (m := r889.toInt) (n := (69 : Int)) rfl (by decide) c894) ?_
                refine am_e2 (v := 39) hi_220_18 rfl ?_
                refine am_e7 hi_220_19 ?_
                refine mm_20 (v := .int (f 4)) hS891 hi_220_20 rfl ?_
                refine am_e0 hi_220_23 ?_
                refine am_e10 (z := z685) hi_220_24 hz685 ?_
                refine mm_21 (v := z685) hS891 hi_220_25 rfl (Nat.le_of_ble_eq_true rfl) ms_4 ?_
                intro S895 hS896
                replace hS896 : MS S0 S895 (upd (upd (upd (upd (upd f 4 z685) 15 z780) 62 o860) 68 z878) 75 m862) g'880 := hS896
                have hR897 : RJ (upd (upd (upd (upd (upd f 4 z685) 15 z780) 62 o860) 68 z878) 75 m862) g'880 gs bc [] 0 (s861.toNatClampNeg :: []) := RJ.at hR886_ (by show (f 4).toInt ≤ z685.toInt; omega)
                refine am_e2 (v := 39) hi_220_28 rfl ?_
                refine am_e0 hi_220_29 ?_
                refine am_e1 (v := on) hi_220_31 rfl ?_
                refine am_e0 hi_220_32 ?_
                refine am_e0 hi_220_33 ?_
                refine am_e32n (as := [.ref 39, .int 35, .int on, .int 0, .int 0]) (la := [some (.ref 39), some (.int 35), some (.int on), some (.int 0), some (.int 0)]) (rest := []) hi_220_34 (am_hd0 (M := 220) (by decide) 34) (Nat.le_of_ble_eq_true rfl) (Nat.le_of_ble_eq_true rfl) (show 5 ≤ am_P0.2.2.1 179 from by decide +kernel) rfl (am_recv_ok hS896.fs) rfl rfl (ct_pile (d := (d + 4)) hS896 hR897 (mj_e_plain (by decide)) (by show (0 : Int) ≤ (f 10).toInt; omega) (by show (f 10).toInt ≤ (65535 : Int); omega)) ?_
                rintro v898 S899 (⟨z900, g'901, hv902, hS903, hR906, h904, h905⟩)
                subst hv902
                have h904_ : z900.toInt = (f 10).toInt + 1 := h904
                have h905_ : ∀ j, j ∉ [11, 12, 13, 14] → g'901 j = g'880 j := h905
                replace hS903 : MS S0 S899 (upd (upd (upd (upd (upd (upd f 4 z685) 10 z900) 15 z780) 62 o860) 68 z878) 75 m862) g'901 := hS903
                have hR906_ : RJ (upd (upd (upd (upd (upd (upd f 4 z685) 10 z900) 15 z780) 62 o860) 68 z878) 75 m862) g'901 (((35 : Int), on.toInt, (0 : Int), (0 : Int), []) :: gs) bc [] 0 (s861.toNatClampNeg :: []) := hR906
                show am_E _ _ _ _ [some (.ref 39), some (.int on)] [] _ _
                refine am_e18 hi_220_37 ?_
                refine am_e35 hi_220_47 ?_
                show am_E _ _ _ _ [some (.ref 39), some (.int on), some (.int tw), some (.int 1)] [] _ _
                refine am_e35 hi_221_95 ?_
                show am_E _ _ _ _ [some (.ref 39), some (.int 39), some (.int on), some (.int tw)] [] _ _
                refine am_e18 hi_181_366 ?_
                refine am_e35 hi_181_397 ?_
                show am_E _ _ _ _ [some (.ref 39), some (.int 39), some (.int on), some (.int tw), some (.int th)] [] _ _
                refine am_e35 hi_180_13 ?_
                have q1 : mg_p1 (((35 : Int), on.toInt, (0 : Int), (0 : Int), []) :: gs) = 0 + (mg_p1 gs) := rfl
                have q2 : mg_p2 (((35 : Int), on.toInt, (0 : Int), (0 : Int), []) :: gs) = 0 + (mg_p2 gs) := rfl
                have q3 : mg_p3 (((35 : Int), on.toInt, (0 : Int), (0 : Int), []) :: gs) = 3 + (mg_p3 gs) := rfl
                have q4 : mg_p4 (((35 : Int), on.toInt, (0 : Int), (0 : Int), []) :: gs) = 0 + (mg_p4 gs) := rfl
                refine ⟨_, _, _, bc, rfl, hS903, Or.inl ⟨⟨(RJ.fewer (pj' := []) hR906_ (fun _ h => nomatch h)), ?_, ?_⟩, rfl, ?_⟩⟩
                · exact (⟨⟨(show (0 : Int) ≤ 35 from by decide), (show (0 : Int) ≤ z780.toInt from by omega), (show 0 ≤ (f 20).toInt from by omega), (show 1 ≤ (f 37).toInt from by omega), (show 0 ≤ (f 32).toInt from by omega), (show (f 32).toInt ≤ (f 5).toInt from by omega), (show (f 5).toInt ≤ 48 from by omega), (show (f 37).toInt ≤ 2 * ((f 5).toInt) + 2 from by omega), trivial⟩, mg_cast (mg_good_ext _ _ _ _ _ _ (fun i _ => by show g'901 34 i = g 34 i; rw [show g'901 34 = g'880 34 from h905_ 34 (by decide), show g'880 34 = g'863 34 from h885_ 34 (by decide), show g'863 34 = g 34 from h871_ 34 (by decide)]) (fun i _ => by show g'901 38 i = g 38 i; rw [show g'901 38 = g'880 38 from h905_ 38 (by decide), show g'880 38 = g'863 38 from h885_ 38 (by decide), show g'863 38 = g 38 from h871_ 38 (by decide)]) hrest) (by show (f 15).toInt + -1 = z780.toInt + 0; omega) (by show (f 20).toInt = (f 20).toInt; omega) (by show (f 37).toInt + 0 = (f 37).toInt + 0; omega) (by show (f 32).toInt + 0 = (f 32).toInt + 0; omega) (by show (f 5).toInt + -1 = (f 5).toInt + -1; omega)⟩ : mg_good (g'901 34) (g'901 38) (((35 : Int), on.toInt, (0 : Int), (0 : Int), []) :: gs) (z780.toInt) ((f 20).toInt) ((f 37).toInt) ((f 32).toInt) ((f 5).toInt))
                · exact ⟨(by show 0 ≤ z685.toInt; omega), (by show z685.toInt ≤ (f 0).toInt; omega), (by show (f 0).toInt ≤ 512; omega), (by show 0 ≤ (f 24).toInt; omega), (by show (f 24).toInt + (f 20).toInt + mg_p1 (((35 : Int), on.toInt, (0 : Int), (0 : Int), []) :: gs) ≤ 4 * z685.toInt; omega), (by show (f 20).toInt ≤ z685.toInt; omega), (by show z780.toInt + mg_p2 (((35 : Int), on.toInt, (0 : Int), (0 : Int), []) :: gs) ≤ z685.toInt; omega), (by show mg_p3 (((35 : Int), on.toInt, (0 : Int), (0 : Int), []) :: gs) ≤ 20 * z685.toInt + 20; omega), (by show 0 ≤ z878.toInt; omega), (by show z878.toInt + 3 * (f 20).toInt + mg_p4 (((35 : Int), on.toInt, (0 : Int), (0 : Int), []) :: gs) ≤ 60 * z685.toInt + 60; omega), (by show 0 ≤ o860.toInt; omega), (by show o860.toInt + 64 * mj_n (g'901 16) z780.toNatClampNeg 3 ≤ 64 * z685.toInt; rw [show g'901 16 = g'880 16 from h905_ 16 (by decide), show g'880 16 = g'863 16 from h885_ 16 (by decide)]; omega), (by show 0 ≤ (f 44).toInt; omega), (by show (f 44).toInt ≤ z685.toInt; omega), (by show 0 ≤ (f 48).toInt; omega), (by show (f 48).toInt ≤ z685.toInt; omega), (by show 1 ≤ (f 53).toInt; omega), (by show (f 53).toInt ≤ z685.toInt + 1; omega)⟩
                · show 100 * ((f 0).toInt - z685.toInt) + mg_p3 (((35 : Int), on.toInt, (0 : Int), (0 : Int), []) :: gs) < 100 * ((f 0).toInt - (f 4).toInt) + (1 + mg_p3 gs); omega
              · refine am_e13f hi_220_6 (am_cF (m := r889.toInt) (n := (69 : Int)) rfl (by decide) c894) ?_
                refine am_e2 (v := 39) hi_220_9 rfl ?_
                refine am_e32n (as := [.ref 39]) (la := [some (.ref 39)]) (rest := []) hi_220_10 (am_hd0 (M := 220) (by decide) 10) (Nat.le_of_ble_eq_true rfl) (Nat.le_of_ble_eq_true rfl) (show 1 ≤ am_P0.2.2.1 183 from by decide +kernel) rfl (am_recv_ok hS891.fs) rfl rfl (ct_next (d := (d + 3)) hS891   (by show (0 : Int) ≤ (f 4).toInt; omega) (by show (f 0).toInt ≤ (16384 : Int); omega)) ?_
                rintro v907 S908 (⟨r909, hv910, hS911, h912⟩)
                subst hv910
                have h912_ : (f 4).toInt < (f 0).toInt ∨ r909.toInt = (-1 : Int) := h912
                show am_E _ _ _ _ [some (.ref 39), some (.int on)] [.int r909] _ _
                refine am_e0 hi_220_13 ?_
                by_cases c914 : ¬ r909.toInt = (67 : Int)
                · refine am_e13t hi_220_15 (am_cT (m := r909.toInt) (n := (67 : Int)) rfl (by decide) c914) ?_
                  refine am_e2 (v := 39) hi_220_40 rfl ?_
                  refine am_e0 hi_220_41 ?_
                  refine am_e32n (as := [.ref 39, .int 63]) (la := [some (.ref 39), some (.int 63)]) (rest := []) hi_220_43 (am_hd0 (M := 220) (by decide) 43) (Nat.le_of_ble_eq_true rfl) (Nat.le_of_ble_eq_true rfl) (show 2 ≤ am_P0.2.2.1 199 from by decide +kernel) rfl (am_recv_ok hS911.fs) rfl rfl (ct_leave (d := (d + 1)) hS911   (by show (0 : Int) ≤ (f 4).toInt; omega) (by show (f 0).toInt ≤ (16384 : Int); omega) (by show (0 : Int) ≤ (63 : Int); omega) (by show (0 : Int) ≤ (f 5).toInt; omega) (by show (f 5).toInt ≤ (48 : Int); omega)) ?_
                  rintro v915 S916 (⟨z917, y918, hv919, hS920, h921, h922, h923⟩ | ⟨a925, b926, hv927, hS928⟩)
                  · subst hv919
                    have h921_ : z917.toInt = (f 4).toInt + 1 := h921
                    have h922_ : (f 4).toInt < (f 0).toInt := h922
                    have h923_ : y918.toInt = (f 5).toInt - 1 := h923
                    replace hS920 : MS S0 S916 (upd (upd (upd (upd (upd (upd f 4 z917) 5 y918) 15 z780) 62 o860) 68 z878) 75 m862) g'880 := hS920
                    have hR930 : RJ (upd (upd (upd (upd (upd (upd f 4 z917) 5 y918) 15 z780) 62 o860) 68 z878) 75 m862) g'880 gs bc [] 0 (s861.toNatClampNeg :: []) := RJ.at hR886_ (by show (f 4).toInt ≤ z917.toInt; omega)
                    show am_E _ _ _ _ [some (.ref 39), some (.int on)] [.int 1] _ _
                    refine am_e6i hi_220_46 ?_
                    refine am_e35 hi_220_47 ?_
                    show am_E _ _ _ _ [some (.ref 39), some (.int on), some (.int tw), some (.int 1)] [] _ _
                    refine am_e35 hi_221_95 ?_
                    show am_E _ _ _ _ [some (.ref 39), some (.int 39), some (.int on), some (.int tw)] [] _ _
                    refine am_e18 hi_181_366 ?_
                    refine am_e35 hi_181_397 ?_
                    show am_E _ _ _ _ [some (.ref 39), some (.int 39), some (.int on), some (.int tw), some (.int th)] [] _ _
                    refine am_e35 hi_180_13 ?_
                    have q1 : mg_p1 gs = mg_p1 gs := rfl
                    have q2 : mg_p2 gs = mg_p2 gs := rfl
                    have q3 : mg_p3 gs = mg_p3 gs := rfl
                    have q4 : mg_p4 gs = mg_p4 gs := rfl
                    refine ⟨_, _, _, bc, rfl, hS920, Or.inl ⟨⟨(RJ.fewer (pj' := []) hR930 (fun _ h => nomatch h)), ?_, ?_⟩, rfl, ?_⟩⟩
                    · exact (mg_cast (mg_good_ext _ _ _ _ _ _ (fun i _ => by show g'880 34 i = g 34 i; rw [show g'880 34 = g'863 34 from h885_ 34 (by decide), show g'863 34 = g 34 from h871_ 34 (by decide)]) (fun i _ => by show g'880 38 i = g 38 i; rw [show g'880 38 = g'863 38 from h885_ 38 (by decide), show g'863 38 = g 38 from h871_ 38 (by decide)]) hrest) (by show (f 15).toInt + -1 = z780.toInt; omega) (by show (f 20).toInt = (f 20).toInt; omega) (by show (f 37).toInt + 0 = (f 37).toInt; omega) (by show (f 32).toInt + 0 = (f 32).toInt; omega) (by show (f 5).toInt + -1 = y918.toInt; omega) : mg_good (g'880 34) (g'880 38) gs (z780.toInt) ((f 20).toInt) ((f 37).toInt) ((f 32).toInt) (y918.toInt))
                    · exact ⟨(by show 0 ≤ z917.toInt; omega), (by show z917.toInt ≤ (f 0).toInt; omega), (by show (f 0).toInt ≤ 512; omega), (by show 0 ≤ (f 24).toInt; omega), (by show (f 24).toInt + (f 20).toInt + mg_p1 gs ≤ 4 * z917.toInt; omega), (by show (f 20).toInt ≤ z917.toInt; omega), (by show z780.toInt + mg_p2 gs ≤ z917.toInt; omega), (by show mg_p3 gs ≤ 20 * z917.toInt + 20; omega), (by show 0 ≤ z878.toInt; omega), (by show z878.toInt + 3 * (f 20).toInt + mg_p4 gs ≤ 60 * z917.toInt + 60; omega), (by show 0 ≤ o860.toInt; omega), (by show o860.toInt + 64 * mj_n (g'880 16) z780.toNatClampNeg 3 ≤ 64 * z917.toInt; rw [show g'880 16 = g'863 16 from h885_ 16 (by decide)]; omega), (by show 0 ≤ (f 44).toInt; omega), (by show (f 44).toInt ≤ z917.toInt; omega), (by show 0 ≤ (f 48).toInt; omega), (by show (f 48).toInt ≤ z917.toInt; omega), (by show 1 ≤ (f 53).toInt; omega), (by show (f 53).toInt ≤ z917.toInt + 1; omega)⟩
                    · show 100 * ((f 0).toInt - z917.toInt) + mg_p3 gs < 100 * ((f 0).toInt - (f 4).toInt) + (1 + mg_p3 gs); omega
                  · subst hv927
                    replace hS928 : MS S0 S916 (upd (upd (upd (upd (upd (upd (upd f 6 a925) 7 b926) 10 0) 15 z780) 62 o860) 68 z878) 75 m862) g'880 := hS928
                    show am_E _ _ _ _ [some (.ref 39), some (.int on)] [.int 0] _ _
                    refine am_e6i hi_220_46 ?_
                    refine am_e35 hi_220_47 ?_
                    show am_E _ _ _ _ [some (.ref 39), some (.int on), some (.int tw), some (.int 1)] [] _ _
                    refine am_e35 hi_221_95 ?_
                    show am_E _ _ _ _ [some (.ref 39), some (.int 39), some (.int on), some (.int tw)] [] _ _
                    refine am_e18 hi_181_366 ?_
                    refine am_e35 hi_181_397 ?_
                    show am_E _ _ _ _ [some (.ref 39), some (.int 39), some (.int on), some (.int tw), some (.int th)] [] _ _
                    refine am_e35 hi_180_13 ?_
                    have hRc := rj_clear0 hR886_
                    refine ⟨_, _, [], _, rfl, hS928, Or.inr ⟨hRc, rfl, (by show 0 ≤ (f 4).toInt; omega), (by show (f 4).toInt ≤ (f 0).toInt; omega), (by show 0 ≤ (f 32).toInt; omega), (by show (f 32).toInt ≤ 63; omega), (by show 1 ≤ (f 53).toInt; omega), (by show (f 53).toInt ≤ 600; omega), (by show 0 ≤ z878.toInt; omega), (by show z878.toInt ≤ 60000; omega), (by show 0 ≤ (f 48).toInt; omega), (by show (f 48).toInt ≤ 8000; omega), (by show 0 ≤ (f 37).toInt; omega), (by show (f 37).toInt ≤ 128; omega), (by show 0 ≤ o860.toInt; omega), (by show o860.toInt ≤ 65000; omega)⟩⟩
                · refine am_e13f hi_220_15 (am_cF (m := r909.toInt) (n := (67 : Int)) rfl (by decide) c914) ?_
                  refine am_e2 (v := 39) hi_220_18 rfl ?_
                  refine am_e7 hi_220_19 ?_
                  refine mm_20 (v := .int (f 4)) hS911 hi_220_20 rfl ?_
                  refine am_e0 hi_220_23 ?_
                  refine am_e10 (z := z685) hi_220_24 hz685 ?_
                  refine mm_21 (v := z685) hS911 hi_220_25 rfl (Nat.le_of_ble_eq_true rfl) ms_4 ?_
                  intro S931 hS932
                  replace hS932 : MS S0 S931 (upd (upd (upd (upd (upd f 4 z685) 15 z780) 62 o860) 68 z878) 75 m862) g'880 := hS932
                  have hR933 : RJ (upd (upd (upd (upd (upd f 4 z685) 15 z780) 62 o860) 68 z878) 75 m862) g'880 gs bc [] 0 (s861.toNatClampNeg :: []) := RJ.at hR886_ (by show (f 4).toInt ≤ z685.toInt; omega)
                  refine am_e2 (v := 39) hi_220_28 rfl ?_
                  refine am_e0 hi_220_29 ?_
                  refine am_e1 (v := on) hi_220_31 rfl ?_
                  refine am_e0 hi_220_32 ?_
                  refine am_e0 hi_220_33 ?_
                  refine am_e32n (as := [.ref 39, .int 35, .int on, .int 0, .int 0]) (la := [some (.ref 39), some (.int 35), some (.int on), some (.int 0), some (.int 0)]) (rest := []) hi_220_34 (am_hd0 (M := 220) (by decide) 34) (Nat.le_of_ble_eq_true rfl) (Nat.le_of_ble_eq_true rfl) (show 5 ≤ am_P0.2.2.1 179 from by decide +kernel) rfl (am_recv_ok hS932.fs) rfl rfl (ct_pile (d := (d + 4)) hS932 hR933 (mj_e_plain (by decide)) (by show (0 : Int) ≤ (f 10).toInt; omega) (by show (f 10).toInt ≤ (65535 : Int); omega)) ?_
                  rintro v934 S935 (⟨z936, g'937, hv938, hS939, hR942, h940, h941⟩)
                  subst hv938
                  have h940_ : z936.toInt = (f 10).toInt + 1 := h940
                  have h941_ : ∀ j, j ∉ [11, 12, 13, 14] → g'937 j = g'880 j := h941
                  replace hS939 : MS S0 S935 (upd (upd (upd (upd (upd (upd f 4 z685) 10 z936) 15 z780) 62 o860) 68 z878) 75 m862) g'937 := hS939
                  have hR942_ : RJ (upd (upd (upd (upd (upd (upd f 4 z685) 10 z936) 15 z780) 62 o860) 68 z878) 75 m862) g'937 (((35 : Int), on.toInt, (0 : Int), (0 : Int), []) :: gs) bc [] 0 (s861.toNatClampNeg :: []) := hR942
                  show am_E _ _ _ _ [some (.ref 39), some (.int on)] [] _ _
                  refine am_e18 hi_220_37 ?_
                  refine am_e35 hi_220_47 ?_
                  show am_E _ _ _ _ [some (.ref 39), some (.int on), some (.int tw), some (.int 1)] [] _ _
                  refine am_e35 hi_221_95 ?_
                  show am_E _ _ _ _ [some (.ref 39), some (.int 39), some (.int on), some (.int tw)] [] _ _
                  refine am_e18 hi_181_366 ?_
                  refine am_e35 hi_181_397 ?_
                  show am_E _ _ _ _ [some (.ref 39), some (.int 39), some (.int on), some (.int tw), some (.int th)] [] _ _
                  refine am_e35 hi_180_13 ?_
                  have q1 : mg_p1 (((35 : Int), on.toInt, (0 : Int), (0 : Int), []) :: gs) = 0 + (mg_p1 gs) := rfl
                  have q2 : mg_p2 (((35 : Int), on.toInt, (0 : Int), (0 : Int), []) :: gs) = 0 + (mg_p2 gs) := rfl
                  have q3 : mg_p3 (((35 : Int), on.toInt, (0 : Int), (0 : Int), []) :: gs) = 3 + (mg_p3 gs) := rfl
                  have q4 : mg_p4 (((35 : Int), on.toInt, (0 : Int), (0 : Int), []) :: gs) = 0 + (mg_p4 gs) := rfl
                  refine ⟨_, _, _, bc, rfl, hS939, Or.inl ⟨⟨(RJ.fewer (pj' := []) hR942_ (fun _ h => nomatch h)), ?_, ?_⟩, rfl, ?_⟩⟩
                  · exact (⟨⟨(show (0 : Int) ≤ 35 from by decide), (show (0 : Int) ≤ z780.toInt from by omega), (show 0 ≤ (f 20).toInt from by omega), (show 1 ≤ (f 37).toInt from by omega), (show 0 ≤ (f 32).toInt from by omega), (show (f 32).toInt ≤ (f 5).toInt from by omega), (show (f 5).toInt ≤ 48 from by omega), (show (f 37).toInt ≤ 2 * ((f 5).toInt) + 2 from by omega), trivial⟩, mg_cast (mg_good_ext _ _ _ _ _ _ (fun i _ => by show g'937 34 i = g 34 i; rw [show g'937 34 = g'880 34 from h941_ 34 (by decide), show g'880 34 = g'863 34 from h885_ 34 (by decide), show g'863 34 = g 34 from h871_ 34 (by decide)]) (fun i _ => by show g'937 38 i = g 38 i; rw [show g'937 38 = g'880 38 from h941_ 38 (by decide), show g'880 38 = g'863 38 from h885_ 38 (by decide), show g'863 38 = g 38 from h871_ 38 (by decide)]) hrest) (by show (f 15).toInt + -1 = z780.toInt + 0; omega) (by show (f 20).toInt = (f 20).toInt; omega) (by show (f 37).toInt + 0 = (f 37).toInt + 0; omega) (by show (f 32).toInt + 0 = (f 32).toInt + 0; omega) (by show (f 5).toInt + -1 = (f 5).toInt + -1; omega)⟩ : mg_good (g'937 34) (g'937 38) (((35 : Int), on.toInt, (0 : Int), (0 : Int), []) :: gs) (z780.toInt) ((f 20).toInt) ((f 37).toInt) ((f 32).toInt) ((f 5).toInt))
                  · exact ⟨(by show 0 ≤ z685.toInt; omega), (by show z685.toInt ≤ (f 0).toInt; omega), (by show (f 0).toInt ≤ 512; omega), (by show 0 ≤ (f 24).toInt; omega), (by show (f 24).toInt + (f 20).toInt + mg_p1 (((35 : Int), on.toInt, (0 : Int), (0 : Int), []) :: gs) ≤ 4 * z685.toInt; omega), (by show (f 20).toInt ≤ z685.toInt; omega), (by show z780.toInt + mg_p2 (((35 : Int), on.toInt, (0 : Int), (0 : Int), []) :: gs) ≤ z685.toInt; omega), (by show mg_p3 (((35 : Int), on.toInt, (0 : Int), (0 : Int), []) :: gs) ≤ 20 * z685.toInt + 20; omega), (by show 0 ≤ z878.toInt; omega), (by show z878.toInt + 3 * (f 20).toInt + mg_p4 (((35 : Int), on.toInt, (0 : Int), (0 : Int), []) :: gs) ≤ 60 * z685.toInt + 60; omega), (by show 0 ≤ o860.toInt; omega), (by show o860.toInt + 64 * mj_n (g'937 16) z780.toNatClampNeg 3 ≤ 64 * z685.toInt; rw [show g'937 16 = g'880 16 from h941_ 16 (by decide), show g'880 16 = g'863 16 from h885_ 16 (by decide)]; omega), (by show 0 ≤ (f 44).toInt; omega), (by show (f 44).toInt ≤ z685.toInt; omega), (by show 0 ≤ (f 48).toInt; omega), (by show (f 48).toInt ≤ z685.toInt; omega), (by show 1 ≤ (f 53).toInt; omega), (by show (f 53).toInt ≤ z685.toInt + 1; omega)⟩
                  · show 100 * ((f 0).toInt - z685.toInt) + mg_p3 (((35 : Int), on.toInt, (0 : Int), (0 : Int), []) :: gs) < 100 * ((f 0).toInt - (f 4).toInt) + (1 + mg_p3 gs); omega
            · refine am_e13f hi_216_27 (am_cF (m := (g 16 z780.toNatClampNeg).toInt) (n := (2 : Int)) rfl (by decide) c857) ?_
              refine am_e0 hi_216_30 ?_
              refine am_e18 hi_216_31 ?_
              refine am_e36 hi_216_35 (by decide) ?_
              show am_E _ _ _ _ [some (.ref 39), some (.int on), some (.int tw), some (.int 1)] [.int 1] _ _
              refine am_e12f hi_221_56 (by decide) ?_
              refine am_e2 (v := 39) hi_221_59 rfl ?_
              refine am_e32w (as := [.ref 39]) (la := [some (.ref 39), none]) (rest := []) hi_221_60 (am_hd0 (M := 221) (by decide) 60) (Nat.le_of_ble_eq_true rfl) (Nat.le_of_ble_eq_true rfl) (show 1 ≤ am_P0.2.2.1 217 from by decide +kernel) rfl (am_recv_ok hS690.fs) rfl rfl ?_
              refine am_e2 (v := 39) hi_217_0 rfl ?_
              refine mm_20 (v := .ref 47) hS690 hi_217_1 rfl ?_
              refine am_e2 (v := 39) hi_217_4 rfl ?_
              refine mm_20 (v := .int (f 15)) hS690 hi_217_5 rfl ?_
              refine am_e0 hi_217_8 ?_
              refine am_e10 (z := z780) hi_217_9 hz780 ?_
              refine mm_25 hS690 ma_17 hi_217_10 (by decide) (by omega) (by omega) ?_
              show am_E _ _ _ _ [some (.ref 39), none] [.int (g 17 z780.toNatClampNeg)] _ _
              have r943 : (g 16 z780.toNatClampNeg).toInt = 1 ∨ (g 16 z780.toNatClampNeg).toInt = 2 → 0 ≤ (g 17 z780.toNatClampNeg).toInt ∧ (g 17 z780.toNatClampNeg).toInt < 65536 := RJ.vc hR z780.toNatClampNeg
              refine am_e3 (ls' := [some (.ref 39), some (.int (g 17 z780.toNatClampNeg))]) hi_217_11 (Nat.le_of_ble_eq_true rfl) rfl ?_
              refine am_e2 (v := 39) hi_217_12 rfl ?_
              refine mm_20 (v := .ref 91) hS690 hi_217_13 rfl ?_
              refine am_e1 (v := g 17 z780.toNatClampNeg) hi_217_16 rfl ?_
              refine am_e2 (v := 39) hi_217_17 rfl ?_
              refine mm_20 (v := .ref 46) hS690 hi_217_18 rfl ?_
              refine am_e2 (v := 39) hi_217_21 rfl ?_
              refine mm_20 (v := .int (f 15)) hS690 hi_217_22 rfl ?_
              refine am_e0 hi_217_25 ?_
              refine am_e10 (z := z780) hi_217_26 hz780 ?_
              refine mm_25 hS690 ma_16 hi_217_27 (by decide) (by omega) (by omega) ?_
              show am_E _ _ _ _ [some (.ref 39), some (.int (g 17 z780.toNatClampNeg))] [.int (g 16 z780.toNatClampNeg), .int (g 17 z780.toNatClampNeg), .ref 91] _ _
              refine am_e0 hi_217_28 ?_
              refine am_e13t hi_217_29 (am_cT (m := (g 16 z780.toNatClampNeg).toInt) (n := (1 : Int)) rfl (by decide) (by simp only [am_cI]; omega)) ?_
              refine am_e0 hi_217_45 ?_
              refine mm_26 hS690 ma_72 hi_217_46 (by decide) (by omega) (by omega) (fun h => nomatch h) ?_
              intro S944 hS945
              refine am_e2 (v := 39) hi_217_47 rfl ?_
              refine am_e7 hi_217_48 ?_
              refine mm_20 (v := .int (f 15)) hS945 hi_217_49 rfl ?_
              refine am_e0 hi_217_52 ?_
              refine am_e10 (z := z780) hi_217_53 hz780 ?_
              refine mm_21 (v := z780) hS945 hi_217_54 rfl (Nat.le_of_ble_eq_true rfl) ms_15 ?_
              intro S946 hS947
              have hp948 : mj_n (g 16) (f 15).toNatClampNeg 3 = mj_n (g 16) z780.toNatClampNeg 3 + if (g 16 z780.toNatClampNeg).toInt = 3 then 1 else 0 := mj_pop (by rw [cl_toNat, cl_toNat]; omega)
              have hp9481 : mj_n (g 16) z780.toNatClampNeg 3 ≤ mj_n (g 16) (f 15).toNatClampNeg 3 := by rw [hp948]; split <;> omega
              have hp9482 : (g 16 z780.toNatClampNeg).toInt = 3 → mj_n (g 16) z780.toNatClampNeg 3 + 1 ≤ mj_n (g 16) (f 15).toNatClampNeg 3 := fun q => by rw [hp948, if_pos q]; exact Int.le_refl _
              refine am_e35 hi_217_57 ?_
              show am_E _ _ _ _ [some (.ref 39), some (.int on), some (.int tw), some (.int 1)] [] _ _
              refine am_e2 (v := 39) hi_221_63 rfl ?_
              refine am_e0 hi_221_64 ?_
              refine am_e1 (v := on) hi_221_66 rfl ?_
              refine am_e0 hi_221_67 ?_
              refine am_e1 (v := tw) hi_221_68 rfl ?_
              refine am_e32n (as := [.ref 39, .int 24, .int on, .int 0, .int tw]) (la := [some (.ref 39), some (.int 24), some (.int on), some (.int 0), some (.int tw)]) (rest := []) hi_221_69 (am_hd0 (M := 221) (by decide) 69) (Nat.le_of_ble_eq_true rfl) (Nat.le_of_ble_eq_true rfl) (show 5 ≤ am_P0.2.2.1 189 from by decide +kernel) rfl (am_recv_ok hS947.fs) rfl rfl (ct_put (d := (d + 5)) hS947 hR  (by show (0 : Int) ≤ (f 32).toInt; omega) (by show (f 32).toInt ≤ (63 : Int); omega) (by show (f 53).toInt ≤ (4096 : Int); omega) (by show (0 : Int) ≤ (f 68).toInt; omega) (by show (f 68).toInt ≤ (65534 : Int); omega)) ?_
              rintro v949 S950 (⟨z951, r952, g'953, hv954, hS955, hR959, h956, h957, h958⟩)
              subst hv954
              have h956_ : z951.toInt = (f 68).toInt + 1 := h956
              have h957_ : r952.toInt = (f 68).toInt := h957
              have h958_ : ∀ j, j ∉ [60, 69, 70, 71, 72, 73] → g'953 j = (upg g 72 (g 17 z780.toNatClampNeg).toNatClampNeg 0) j := h958
              have hR959_ : RJ (upd (upd f 15 z780) 68 z951) g'953 gs bc [] 0 ((f 68).toNatClampNeg :: []) := hR959
              show am_E _ _ _ _ [some (.ref 39), some (.int on), some (.int tw), some (.int 1)] [.int r952] _ _
              refine am_e6i hi_221_72 ?_
              refine am_e18 hi_221_73 ?_
              refine am_e2 (v := 39) hi_221_90 rfl ?_
              refine am_e1 (v := on) hi_221_91 rfl ?_
              refine am_e32w (as := [.ref 39, .int on]) (la := [some (.ref 39), some (.int on)]) (rest := []) hi_221_92 (am_hd0 (M := 221) (by decide) 92) (Nat.le_of_ble_eq_true rfl) (Nat.le_of_ble_eq_true rfl) (show 2 ≤ am_P0.2.2.1 220 from by decide +kernel) rfl (am_recv_ok hS955.fs) rfl rfl ?_
              refine am_e2 (v := 39) hi_220_0 rfl ?_
              refine am_e32n (as := [.ref 39]) (la := [some (.ref 39)]) (rest := []) hi_220_1 (am_hd0 (M := 220) (by decide) 1) (Nat.le_of_ble_eq_true rfl) (Nat.le_of_ble_eq_true rfl) (show 1 ≤ am_P0.2.2.1 183 from by decide +kernel) rfl (am_recv_ok hS955.fs) rfl rfl (ct_next (d := (d + 3)) hS955   (by show (0 : Int) ≤ (f 4).toInt; omega) (by show (f 0).toInt ≤ (16384 : Int); omega)) ?_
              rintro v960 S961 (⟨r962, hv963, hS964, h965⟩)
              subst hv963
              have h965_ : (f 4).toInt < (f 0).toInt ∨ r962.toInt = (-1 : Int) := h965
              show am_E _ _ _ _ [some (.ref 39), some (.int on)] [.int r962] _ _
              refine am_e0 hi_220_4 ?_
              by_cases c967 : r962.toInt = (69 : Int)
              · refine am_e13t hi_220_6 (am_cT (m := r962.toInt) (n := (69 : Int)) rfl (by decide) c967) ?_
                refine am_e2 (v := 39) hi_220_18 rfl ?_
                refine am_e7 hi_220_19 ?_
                refine mm_20 (v := .int (f 4)) hS964 hi_220_20 rfl ?_
                refine am_e0 hi_220_23 ?_
                refine am_e10 (z := z685) hi_220_24 hz685 ?_
                refine mm_21 (v := z685) hS964 hi_220_25 rfl (Nat.le_of_ble_eq_true rfl) ms_4 ?_
                intro S968 hS969
                replace hS969 : MS S0 S968 (upd (upd (upd f 4 z685) 15 z780) 68 z951) g'953 := hS969
                have hR970 : RJ (upd (upd (upd f 4 z685) 15 z780) 68 z951) g'953 gs bc [] 0 ((f 68).toNatClampNeg :: []) := RJ.at hR959_ (by show (f 4).toInt ≤ z685.toInt; omega)
                refine am_e2 (v := 39) hi_220_28 rfl ?_
                refine am_e0 hi_220_29 ?_
                refine am_e1 (v := on) hi_220_31 rfl ?_
                refine am_e0 hi_220_32 ?_
                refine am_e0 hi_220_33 ?_
                refine am_e32n (as := [.ref 39, .int 35, .int on, .int 0, .int 0]) (la := [some (.ref 39), some (.int 35), some (.int on), some (.int 0), some (.int 0)]) (rest := []) hi_220_34 (am_hd0 (M := 220) (by decide) 34) (Nat.le_of_ble_eq_true rfl) (Nat.le_of_ble_eq_true rfl) (show 5 ≤ am_P0.2.2.1 179 from by decide +kernel) rfl (am_recv_ok hS969.fs) rfl rfl (ct_pile (d := (d + 4)) hS969 hR970 (mj_e_plain (by decide)) (by show (0 : Int) ≤ (f 10).toInt; omega) (by show (f 10).toInt ≤ (65535 : Int); omega)) ?_
                rintro v971 S972 (⟨z973, g'974, hv975, hS976, hR979, h977, h978⟩)
                subst hv975
                have h977_ : z973.toInt = (f 10).toInt + 1 := h977
                have h978_ : ∀ j, j ∉ [11, 12, 13, 14] → g'974 j = g'953 j := h978
                replace hS976 : MS S0 S972 (upd (upd (upd (upd f 4 z685) 10 z973) 15 z780) 68 z951) g'974 := hS976
                have hR979_ : RJ (upd (upd (upd (upd f 4 z685) 10 z973) 15 z780) 68 z951) g'974 (((35 : Int), on.toInt, (0 : Int), (0 : Int), []) :: gs) bc [] 0 ((f 68).toNatClampNeg :: []) := hR979
                show am_E _ _ _ _ [some (.ref 39), some (.int on)] [] _ _
                refine am_e18 hi_220_37 ?_
                refine am_e35 hi_220_47 ?_
                show am_E _ _ _ _ [some (.ref 39), some (.int on), some (.int tw), some (.int 1)] [] _ _
                refine am_e35 hi_221_95 ?_
                show am_E _ _ _ _ [some (.ref 39), some (.int 39), some (.int on), some (.int tw)] [] _ _
                refine am_e18 hi_181_366 ?_
                refine am_e35 hi_181_397 ?_
                show am_E _ _ _ _ [some (.ref 39), some (.int 39), some (.int on), some (.int tw), some (.int th)] [] _ _
                refine am_e35 hi_180_13 ?_
                have q1 : mg_p1 (((35 : Int), on.toInt, (0 : Int), (0 : Int), []) :: gs) = 0 + (mg_p1 gs) := rfl
                have q2 : mg_p2 (((35 : Int), on.toInt, (0 : Int), (0 : Int), []) :: gs) = 0 + (mg_p2 gs) := rfl
                have q3 : mg_p3 (((35 : Int), on.toInt, (0 : Int), (0 : Int), []) :: gs) = 3 + (mg_p3 gs) := rfl
                have q4 : mg_p4 (((35 : Int), on.toInt, (0 : Int), (0 : Int), []) :: gs) = 0 + (mg_p4 gs) := rfl
                refine ⟨_, _, _, bc, rfl, hS976, Or.inl ⟨⟨(RJ.fewer (pj' := []) hR979_ (fun _ h => nomatch h)), ?_, ?_⟩, rfl, ?_⟩⟩
                · exact (⟨⟨(show (0 : Int) ≤ 35 from by decide), (show (0 : Int) ≤ z780.toInt from by omega), (show 0 ≤ (f 20).toInt from by omega), (show 1 ≤ (f 37).toInt from by omega), (show 0 ≤ (f 32).toInt from by omega), (show (f 32).toInt ≤ (f 5).toInt from by omega), (show (f 5).toInt ≤ 48 from by omega), (show (f 37).toInt ≤ 2 * ((f 5).toInt) + 2 from by omega), trivial⟩, mg_cast (mg_good_ext _ _ _ _ _ _ (fun i _ => by show g'974 34 i = g 34 i; rw [show g'974 34 = g'953 34 from h978_ 34 (by decide), show g'953 34 = g 34 from h958_ 34 (by decide)]) (fun i _ => by show g'974 38 i = g 38 i; rw [show g'974 38 = g'953 38 from h978_ 38 (by decide), show g'953 38 = g 38 from h958_ 38 (by decide)]) hrest) (by show (f 15).toInt + -1 = z780.toInt + 0; omega) (by show (f 20).toInt = (f 20).toInt; omega) (by show (f 37).toInt + 0 = (f 37).toInt + 0; omega) (by show (f 32).toInt + 0 = (f 32).toInt + 0; omega) (by show (f 5).toInt + -1 = (f 5).toInt + -1; omega)⟩ : mg_good (g'974 34) (g'974 38) (((35 : Int), on.toInt, (0 : Int), (0 : Int), []) :: gs) (z780.toInt) ((f 20).toInt) ((f 37).toInt) ((f 32).toInt) ((f 5).toInt))
                · exact ⟨(by show 0 ≤ z685.toInt; omega), (by show z685.toInt ≤ (f 0).toInt; omega), (by show (f 0).toInt ≤ 512; omega), (by show 0 ≤ (f 24).toInt; omega), (by show (f 24).toInt + (f 20).toInt + mg_p1 (((35 : Int), on.toInt, (0 : Int), (0 : Int), []) :: gs) ≤ 4 * z685.toInt; omega), (by show (f 20).toInt ≤ z685.toInt; omega), (by show z780.toInt + mg_p2 (((35 : Int), on.toInt, (0 : Int), (0 : Int), []) :: gs) ≤ z685.toInt; omega), (by show mg_p3 (((35 : Int), on.toInt, (0 : Int), (0 : Int), []) :: gs) ≤ 20 * z685.toInt + 20; omega), (by show 0 ≤ z951.toInt; omega), (by show z951.toInt + 3 * (f 20).toInt + mg_p4 (((35 : Int), on.toInt, (0 : Int), (0 : Int), []) :: gs) ≤ 60 * z685.toInt + 60; omega), (by show 0 ≤ (f 62).toInt; omega), (by show (f 62).toInt + 64 * mj_n (g'974 16) z780.toNatClampNeg 3 ≤ 64 * z685.toInt; rw [show g'974 16 = g'953 16 from h978_ 16 (by decide), show g'953 16 = g 16 from h958_ 16 (by decide)]; omega), (by show 0 ≤ (f 44).toInt; omega), (by show (f 44).toInt ≤ z685.toInt; omega), (by show 0 ≤ (f 48).toInt; omega), (by show (f 48).toInt ≤ z685.toInt; omega), (by show 1 ≤ (f 53).toInt; omega), (by show (f 53).toInt ≤ z685.toInt + 1; omega)⟩
                · show 100 * ((f 0).toInt - z685.toInt) + mg_p3 (((35 : Int), on.toInt, (0 : Int), (0 : Int), []) :: gs) < 100 * ((f 0).toInt - (f 4).toInt) + (1 + mg_p3 gs); omega
              · refine am_e13f hi_220_6 (am_cF (m := r962.toInt) (n := (69 : Int)) rfl (by decide) c967) ?_
                refine am_e2 (v := 39) hi_220_9 rfl ?_
                refine am_e32n (as := [.ref 39]) (la := [some (.ref 39)]) (rest := []) hi_220_10 (am_hd0 (M := 220) (by decide) 10) (Nat.le_of_ble_eq_true rfl) (Nat.le_of_ble_eq_true rfl) (show 1 ≤ am_P0.2.2.1 183 from by decide +kernel) rfl (am_recv_ok hS964.fs) rfl rfl (ct_next (d := (d + 3)) hS964   (by show (0 : Int) ≤ (f 4).toInt; omega) (by show (f 0).toInt ≤ (16384 : Int); omega)) ?_
                rintro v980 S981 (⟨r982, hv983, hS984, h985⟩)
                subst hv983
                have h985_ : (f 4).toInt < (f 0).toInt ∨ r982.toInt = (-1 : Int) := h985
                show am_E _ _ _ _ [some (.ref 39), some (.int on)] [.int r982] _ _
                refine am_e0 hi_220_13 ?_
                by_cases c987 : ¬ r982.toInt = (67 : Int)
                · refine am_e13t hi_220_15 (am_cT (m := r982.toInt) (n := (67 : Int)) rfl (by decide) c987) ?_
                  refine am_e2 (v := 39) hi_220_40 rfl ?_
                  refine am_e0 hi_220_41 ?_
                  refine am_e32n (as := [.ref 39, .int 63]) (la := [some (.ref 39), some (.int 63)]) (rest := []) hi_220_43 (am_hd0 (M := 220) (by decide) 43) (Nat.le_of_ble_eq_true rfl) (Nat.le_of_ble_eq_true rfl) (show 2 ≤ am_P0.2.2.1 199 from by decide +kernel) rfl (am_recv_ok hS984.fs) rfl rfl (ct_leave (d := (d + 1)) hS984   (by show (0 : Int) ≤ (f 4).toInt; omega) (by show (f 0).toInt ≤ (16384 : Int); omega) (by show (0 : Int) ≤ (63 : Int); omega) (by show (0 : Int) ≤ (f 5).toInt; omega) (by show (f 5).toInt ≤ (48 : Int); omega)) ?_
                  rintro v988 S989 (⟨z990, y991, hv992, hS993, h994, h995, h996⟩ | ⟨a998, b999, hv1000, hS1001⟩)
                  · subst hv992
                    have h994_ : z990.toInt = (f 4).toInt + 1 := h994
                    have h995_ : (f 4).toInt < (f 0).toInt := h995
                    have h996_ : y991.toInt = (f 5).toInt - 1 := h996
                    replace hS993 : MS S0 S989 (upd (upd (upd (upd f 4 z990) 5 y991) 15 z780) 68 z951) g'953 := hS993
                    have hR1003 : RJ (upd (upd (upd (upd f 4 z990) 5 y991) 15 z780) 68 z951) g'953 gs bc [] 0 ((f 68).toNatClampNeg :: []) := RJ.at hR959_ (by show (f 4).toInt ≤ z990.toInt; omega)
                    show am_E _ _ _ _ [some (.ref 39), some (.int on)] [.int 1] _ _
                    refine am_e6i hi_220_46 ?_
                    refine am_e35 hi_220_47 ?_
                    show am_E _ _ _ _ [some (.ref 39), some (.int on), some (.int tw), some (.int 1)] [] _ _
                    refine am_e35 hi_221_95 ?_
                    show am_E _ _ _ _ [some (.ref 39), some (.int 39), some (.int on), some (.int tw)] [] _ _
                    refine am_e18 hi_181_366 ?_
                    refine am_e35 hi_181_397 ?_
                    show am_E _ _ _ _ [some (.ref 39), some (.int 39), some (.int on), some (.int tw), some (.int th)] [] _ _
                    refine am_e35 hi_180_13 ?_
                    have q1 : mg_p1 gs = mg_p1 gs := rfl
                    have q2 : mg_p2 gs = mg_p2 gs := rfl
                    have q3 : mg_p3 gs = mg_p3 gs := rfl
                    have q4 : mg_p4 gs = mg_p4 gs := rfl
                    refine ⟨_, _, _, bc, rfl, hS993, Or.inl ⟨⟨(RJ.fewer (pj' := []) hR1003 (fun _ h => nomatch h)), ?_, ?_⟩, rfl, ?_⟩⟩
                    · exact (mg_cast (mg_good_ext _ _ _ _ _ _ (fun i _ => by show g'953 34 i = g 34 i; rw [show g'953 34 = g 34 from h958_ 34 (by decide)]) (fun i _ => by show g'953 38 i = g 38 i; rw [show g'953 38 = g 38 from h958_ 38 (by decide)]) hrest) (by show (f 15).toInt + -1 = z780.toInt; omega) (by show (f 20).toInt = (f 20).toInt; omega) (by show (f 37).toInt + 0 = (f 37).toInt; omega) (by show (f 32).toInt + 0 = (f 32).toInt; omega) (by show (f 5).toInt + -1 = y991.toInt; omega) : mg_good (g'953 34) (g'953 38) gs (z780.toInt) ((f 20).toInt) ((f 37).toInt) ((f 32).toInt) (y991.toInt))
                    · exact ⟨(by show 0 ≤ z990.toInt; omega), (by show z990.toInt ≤ (f 0).toInt; omega), (by show (f 0).toInt ≤ 512; omega), (by show 0 ≤ (f 24).toInt; omega), (by show (f 24).toInt + (f 20).toInt + mg_p1 gs ≤ 4 * z990.toInt; omega), (by show (f 20).toInt ≤ z990.toInt; omega), (by show z780.toInt + mg_p2 gs ≤ z990.toInt; omega), (by show mg_p3 gs ≤ 20 * z990.toInt + 20; omega), (by show 0 ≤ z951.toInt; omega), (by show z951.toInt + 3 * (f 20).toInt + mg_p4 gs ≤ 60 * z990.toInt + 60; omega), (by show 0 ≤ (f 62).toInt; omega), (by show (f 62).toInt + 64 * mj_n (g'953 16) z780.toNatClampNeg 3 ≤ 64 * z990.toInt; rw [show g'953 16 = g 16 from h958_ 16 (by decide)]; omega), (by show 0 ≤ (f 44).toInt; omega), (by show (f 44).toInt ≤ z990.toInt; omega), (by show 0 ≤ (f 48).toInt; omega), (by show (f 48).toInt ≤ z990.toInt; omega), (by show 1 ≤ (f 53).toInt; omega), (by show (f 53).toInt ≤ z990.toInt + 1; omega)⟩
                    · show 100 * ((f 0).toInt - z990.toInt) + mg_p3 gs < 100 * ((f 0).toInt - (f 4).toInt) + (1 + mg_p3 gs); omega
                  · subst hv1000
                    replace hS1001 : MS S0 S989 (upd (upd (upd (upd (upd f 6 a998) 7 b999) 10 0) 15 z780) 68 z951) g'953 := hS1001
                    show am_E _ _ _ _ [some (.ref 39), some (.int on)] [.int 0] _ _
                    refine am_e6i hi_220_46 ?_
                    refine am_e35 hi_220_47 ?_
                    show am_E _ _ _ _ [some (.ref 39), some (.int on), some (.int tw), some (.int 1)] [] _ _
                    refine am_e35 hi_221_95 ?_
                    show am_E _ _ _ _ [some (.ref 39), some (.int 39), some (.int on), some (.int tw)] [] _ _
                    refine am_e18 hi_181_366 ?_
                    refine am_e35 hi_181_397 ?_
                    show am_E _ _ _ _ [some (.ref 39), some (.int 39), some (.int on), some (.int tw), some (.int th)] [] _ _
                    refine am_e35 hi_180_13 ?_
                    have hRc := rj_clear0 hR959_
                    refine ⟨_, _, [], _, rfl, hS1001, Or.inr ⟨hRc, rfl, (by show 0 ≤ (f 4).toInt; omega), (by show (f 4).toInt ≤ (f 0).toInt; omega), (by show 0 ≤ (f 32).toInt; omega), (by show (f 32).toInt ≤ 63; omega), (by show 1 ≤ (f 53).toInt; omega), (by show (f 53).toInt ≤ 600; omega), (by show 0 ≤ z951.toInt; omega), (by show z951.toInt ≤ 60000; omega), (by show 0 ≤ (f 48).toInt; omega), (by show (f 48).toInt ≤ 8000; omega), (by show 0 ≤ (f 37).toInt; omega), (by show (f 37).toInt ≤ 128; omega), (by show 0 ≤ (f 62).toInt; omega), (by show (f 62).toInt ≤ 65000; omega)⟩⟩
                · refine am_e13f hi_220_15 (am_cF (m := r982.toInt) (n := (67 : Int)) rfl (by decide) c987) ?_
                  refine am_e2 (v := 39) hi_220_18 rfl ?_
                  refine am_e7 hi_220_19 ?_
                  refine mm_20 (v := .int (f 4)) hS984 hi_220_20 rfl ?_
                  refine am_e0 hi_220_23 ?_
                  refine am_e10 (z := z685) hi_220_24 hz685 ?_
                  refine mm_21 (v := z685) hS984 hi_220_25 rfl (Nat.le_of_ble_eq_true rfl) ms_4 ?_
                  intro S1004 hS1005
                  replace hS1005 : MS S0 S1004 (upd (upd (upd f 4 z685) 15 z780) 68 z951) g'953 := hS1005
                  have hR1006 : RJ (upd (upd (upd f 4 z685) 15 z780) 68 z951) g'953 gs bc [] 0 ((f 68).toNatClampNeg :: []) := RJ.at hR959_ (by show (f 4).toInt ≤ z685.toInt; omega)
                  refine am_e2 (v := 39) hi_220_28 rfl ?_
                  refine am_e0 hi_220_29 ?_
                  refine am_e1 (v := on) hi_220_31 rfl ?_
                  refine am_e0 hi_220_32 ?_
                  refine am_e0 hi_220_33 ?_
                  refine am_e32n (as := [.ref 39, .int 35, .int on, .int 0, .int 0]) (la := [some (.ref 39), some (.int 35), some (.int on), some (.int 0), some (.int 0)]) (rest := []) hi_220_34 (am_hd0 (M := 220) (by decide) 34) (Nat.le_of_ble_eq_true rfl) (Nat.le_of_ble_eq_true rfl) (show 5 ≤ am_P0.2.2.1 179 from by decide +kernel) rfl (am_recv_ok hS1005.fs) rfl rfl (ct_pile (d := (d + 4)) hS1005 hR1006 (mj_e_plain (by decide)) (by show (0 : Int) ≤ (f 10).toInt; omega) (by show (f 10).toInt ≤ (65535 : Int); omega)) ?_
                  rintro v1007 S1008 (⟨z1009, g'1010, hv1011, hS1012, hR1015, h1013, h1014⟩)
                  subst hv1011
                  have h1013_ : z1009.toInt = (f 10).toInt + 1 := h1013
                  have h1014_ : ∀ j, j ∉ [11, 12, 13, 14] → g'1010 j = g'953 j := h1014
                  replace hS1012 : MS S0 S1008 (upd (upd (upd (upd f 4 z685) 10 z1009) 15 z780) 68 z951) g'1010 := hS1012
                  have hR1015_ : RJ (upd (upd (upd (upd f 4 z685) 10 z1009) 15 z780) 68 z951) g'1010 (((35 : Int), on.toInt, (0 : Int), (0 : Int), []) :: gs) bc [] 0 ((f 68).toNatClampNeg :: []) := hR1015
                  show am_E _ _ _ _ [some (.ref 39), some (.int on)] [] _ _
                  refine am_e18 hi_220_37 ?_
                  refine am_e35 hi_220_47 ?_
                  show am_E _ _ _ _ [some (.ref 39), some (.int on), some (.int tw), some (.int 1)] [] _ _
                  refine am_e35 hi_221_95 ?_
                  show am_E _ _ _ _ [some (.ref 39), some (.int 39), some (.int on), some (.int tw)] [] _ _
                  refine am_e18 hi_181_366 ?_
                  refine am_e35 hi_181_397 ?_
                  show am_E _ _ _ _ [some (.ref 39), some (.int 39), some (.int on), some (.int tw), some (.int th)] [] _ _
                  refine am_e35 hi_180_13 ?_
                  have q1 : mg_p1 (((35 : Int), on.toInt, (0 : Int), (0 : Int), []) :: gs) = 0 + (mg_p1 gs) := rfl
                  have q2 : mg_p2 (((35 : Int), on.toInt, (0 : Int), (0 : Int), []) :: gs) = 0 + (mg_p2 gs) := rfl
                  have q3 : mg_p3 (((35 : Int), on.toInt, (0 : Int), (0 : Int), []) :: gs) = 3 + (mg_p3 gs) := rfl
                  have q4 : mg_p4 (((35 : Int), on.toInt, (0 : Int), (0 : Int), []) :: gs) = 0 + (mg_p4 gs) := rfl
                  refine ⟨_, _, _, bc, rfl, hS1012, Or.inl ⟨⟨(RJ.fewer (pj' := []) hR1015_ (fun _ h => nomatch h)), ?_, ?_⟩, rfl, ?_⟩⟩
                  · exact (⟨⟨(show (0 : Int) ≤ 35 from by decide), (show (0 : Int) ≤ z780.toInt from by omega), (show 0 ≤ (f 20).toInt from by omega), (show 1 ≤ (f 37).toInt from by omega), (show 0 ≤ (f 32).toInt from by omega), (show (f 32).toInt ≤ (f 5).toInt from by omega), (show (f 5).toInt ≤ 48 from by omega), (show (f 37).toInt ≤ 2 * ((f 5).toInt) + 2 from by omega), trivial⟩, mg_cast (mg_good_ext _ _ _ _ _ _ (fun i _ => by show g'1010 34 i = g 34 i; rw [show g'1010 34 = g'953 34 from h1014_ 34 (by decide), show g'953 34 = g 34 from h958_ 34 (by decide)]) (fun i _ => by show g'1010 38 i = g 38 i; rw [show g'1010 38 = g'953 38 from h1014_ 38 (by decide), show g'953 38 = g 38 from h958_ 38 (by decide)]) hrest) (by show (f 15).toInt + -1 = z780.toInt + 0; omega) (by show (f 20).toInt = (f 20).toInt; omega) (by show (f 37).toInt + 0 = (f 37).toInt + 0; omega) (by show (f 32).toInt + 0 = (f 32).toInt + 0; omega) (by show (f 5).toInt + -1 = (f 5).toInt + -1; omega)⟩ : mg_good (g'1010 34) (g'1010 38) (((35 : Int), on.toInt, (0 : Int), (0 : Int), []) :: gs) (z780.toInt) ((f 20).toInt) ((f 37).toInt) ((f 32).toInt) ((f 5).toInt))
                  · exact ⟨(by show 0 ≤ z685.toInt; omega), (by show z685.toInt ≤ (f 0).toInt; omega), (by show (f 0).toInt ≤ 512; omega), (by show 0 ≤ (f 24).toInt; omega), (by show (f 24).toInt + (f 20).toInt + mg_p1 (((35 : Int), on.toInt, (0 : Int), (0 : Int), []) :: gs) ≤ 4 * z685.toInt; omega), (by show (f 20).toInt ≤ z685.toInt; omega), (by show z780.toInt + mg_p2 (((35 : Int), on.toInt, (0 : Int), (0 : Int), []) :: gs) ≤ z685.toInt; omega), (by show mg_p3 (((35 : Int), on.toInt, (0 : Int), (0 : Int), []) :: gs) ≤ 20 * z685.toInt + 20; omega), (by show 0 ≤ z951.toInt; omega), (by show z951.toInt + 3 * (f 20).toInt + mg_p4 (((35 : Int), on.toInt, (0 : Int), (0 : Int), []) :: gs) ≤ 60 * z685.toInt + 60; omega), (by show 0 ≤ (f 62).toInt; omega), (by show (f 62).toInt + 64 * mj_n (g'1010 16) z780.toNatClampNeg 3 ≤ 64 * z685.toInt; rw [show g'1010 16 = g'953 16 from h1014_ 16 (by decide), show g'953 16 = g 16 from h958_ 16 (by decide)]; omega), (by show 0 ≤ (f 44).toInt; omega), (by show (f 44).toInt ≤ z685.toInt; omega), (by show 0 ≤ (f 48).toInt; omega), (by show (f 48).toInt ≤ z685.toInt; omega), (by show 1 ≤ (f 53).toInt; omega), (by show (f 53).toInt ≤ z685.toInt + 1; omega)⟩
                  · show 100 * ((f 0).toInt - z685.toInt) + mg_p3 (((35 : Int), on.toInt, (0 : Int), (0 : Int), []) :: gs) < 100 * ((f 0).toInt - (f 4).toInt) + (1 + mg_p3 gs); omega
