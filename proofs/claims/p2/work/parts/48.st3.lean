/-! STEPS: tables (printed by wip/p2/st1.py) -/
theorem st_35 {sc : Nat × (Nat → Int32)} {d : Nat} {S0 S : am_S} {f : Nat → Int32} {g : Nat → Nat → Int32} {on : Int32} {tw : Int32} {th : Int32} {gs : List mg_E} {bc : List (List Nat)} (hS : MS S0 S f g) (hR : RJ f g gs bc [] 0 []) (hrest : mg_good (g 34) (g 38) (g 23) gs ((f 15).toInt + 0) ((f 20).toInt) ((f 37).toInt + 0) ((f 32).toInt + 0) ((f 5).toInt + -1)) (p0 : 0 ≤ (f 4).toInt) (p1 : (f 4).toInt ≤ (f 0).toInt) (p2 : (f 0).toInt ≤ 512) (p3 : 0 ≤ (f 24).toInt) (p4 : (f 24).toInt + (f 20).toInt + mg_p1 gs ≤ 4 * (f 4).toInt) (p5 : (f 20).toInt ≤ (f 4).toInt) (p6 : (f 15).toInt + 0 + mg_p2 gs ≤ (f 4).toInt) (p7 : 3 + mg_p3 gs ≤ 20 * (f 4).toInt + 20) (p8 : 0 ≤ (f 68).toInt) (p9 : (f 68).toInt + 3 * (f 20).toInt + 0 + mg_p4 gs ≤ 60 * (f 4).toInt + 60) (p10 : 0 ≤ (f 62).toInt) (p11 : (f 62).toInt + 64 * mj_n (g 16) (f 15).toNatClampNeg 3 ≤ 64 * (f 4).toInt) (p12 : 0 ≤ (f 44).toInt) (p13 : (f 44).toInt ≤ (f 4).toInt) (p14 : 0 ≤ (f 48).toInt) (p15 : (f 48).toInt ≤ (f 4).toInt) (p16 : 1 ≤ (f 53).toInt) (p17 : (f 53).toInt ≤ (f 4).toInt + 1) (p18 : 0 ≤ (f 19).toInt) (p19 : (f 19).toInt ≤ 600) (p20 : 0 ≤ mg_p1 gs) (p21 : 0 ≤ mg_p2 gs) (p22 : 0 ≤ mg_p4 gs) (p23 : 0 ≤ (f 10).toInt) (p24 : (f 10).toInt ≤ mg_p3 gs) (p25 : 0 ≤ mj_n (g 16) (f 15).toNatClampNeg 3) (p26 : 0 ≤ (f 15).toInt) (p27 : 0 ≤ (f 20).toInt) (p28 : 1 ≤ (f 37).toInt) (p29 : 0 ≤ (f 32).toInt) (p30 : (f 32).toInt ≤ (f 5).toInt) (p31 : (f 5).toInt ≤ 48) (p32 : (f 37).toInt ≤ 2 * (f 5).toInt + 2) : am_E (am_PP sc) (d + 8) 180 0 [some (.ref 39), some (.int 35), some (.int on), some (.int tw), some (.int th)] [] S (am_N fun v S1 => ∃ (f' : Nat → Int32) (g' : Nat → Nat → Int32) (gs' : List mg_E) (bc' : List (List Nat)), v = none ∧ MS S0 S1 f' g' ∧ (mg_on f (100 * ((f 0).toInt - (f 4).toInt) + (3 + mg_p3 gs)) f' g' gs' bc' ∨ mg_off f f' g' bc')) := by
  have hbs := mg_basic hrest
  refine am_e1 (v := 35) hi_180_0 rfl ?_
  refine am_e0 hi_180_1 ?_
  refine am_e13f hi_180_3 (by decide) ?_
  refine am_e2 (v := 39) hi_180_6 rfl ?_
  refine am_e1 (v := 35) hi_180_7 rfl ?_
  refine am_e1 (v := on) hi_180_8 rfl ?_
  refine am_e1 (v := tw) hi_180_9 rfl ?_
  refine am_e32w (as := [.ref 39, .int 35, .int on, .int tw]) (la := [some (.ref 39), some (.int 35), some (.int on), some (.int tw)]) (rest := []) hi_180_10 (am_hd0 (M := 180) (by decide) 10) (Nat.le_of_ble_eq_true rfl) (Nat.le_of_ble_eq_true rfl) (show 4 ≤ am_P0.2.2.1 181 from by decide +kernel) rfl (am_recv_ok hS.fs) rfl rfl ?_
  refine am_e1 (v := 35) hi_181_0 rfl ?_
  refine am_e19 (t := 261) hi_181_1 (by decide) ?_
  refine am_e2 (v := 39) hi_181_261 rfl ?_
  refine am_e1 (v := on) hi_181_262 rfl ?_
  refine am_e32w (as := [.ref 39, .int on]) (la := [some (.ref 39), some (.int on), none, none]) (rest := []) hi_181_263 (am_hd0 (M := 181) (by decide) 263) (Nat.le_of_ble_eq_true rfl) (Nat.le_of_ble_eq_true rfl) (show 2 ≤ am_P0.2.2.1 219 from by decide +kernel) rfl (am_recv_ok hS.fs) rfl rfl ?_
  refine am_e2 (v := 39) hi_219_0 rfl ?_
  refine am_e32n (as := [.ref 39]) (la := [some (.ref 39)]) (rest := []) hi_219_1 (am_hd0 (M := 219) (by decide) 1) (Nat.le_of_ble_eq_true rfl) (Nat.le_of_ble_eq_true rfl) (show 1 ≤ am_P0.2.2.1 183 from by decide +kernel) rfl (am_recv_ok hS.fs) rfl rfl (ct_next (d := (d + 4)) hS   (by show (0 : Int) ≤ (f 4).toInt; omega) (by show (f 0).toInt ≤ (16384 : Int); omega)) ?_
  rintro v0 S1 (⟨r2, hv3, hS4, h5⟩)
  subst hv3
  have h5_ : (f 4).toInt < (f 0).toInt ∨ r2.toInt = (-1 : Int) := h5
  show am_E _ _ _ _ [some (.ref 39), some (.int on), none, none] [.int r2] _ _
  refine am_e3 (ls' := [some (.ref 39), some (.int on), some (.int r2), none]) hi_219_4 (Nat.le_of_ble_eq_true rfl) rfl ?_
  refine am_e2 (v := 39) hi_219_5 rfl ?_
  refine mm_20 (v := .int (f 4)) hS4 hi_219_6 rfl ?_
  refine am_e3 (ls' := [some (.ref 39), some (.int on), some (.int r2), some (.int (f 4))]) hi_219_9 (Nat.le_of_ble_eq_true rfl) rfl ?_
  refine am_e1 (v := r2) hi_219_10 rfl ?_
  refine am_e0 hi_219_11 ?_
  by_cases c7 : ¬ r2.toInt = (63 : Int)
  · refine am_e13t hi_219_13 (am_cT (m := r2.toInt) (n := (63 : Int)) rfl (by decide) c7) ?_
    refine am_e1 (v := r2) hi_219_26 rfl ?_
    refine am_e0 hi_219_27 ?_
    by_cases c8 : ¬ r2.toInt = (64 : Int)
    · refine am_e13t hi_219_29 (am_cT (m := r2.toInt) (n := (64 : Int)) rfl (by decide) c8) ?_
      refine am_e1 (v := r2) hi_219_59 rfl ?_
      refine am_e0 hi_219_60 ?_
      by_cases c9 : ¬ r2.toInt = (1 : Int)
      · refine am_e13t hi_219_61 (am_cT (m := r2.toInt) (n := (1 : Int)) rfl (by decide) c9) ?_
        refine am_e2 (v := 39) hi_219_106 rfl ?_
        refine am_e0 hi_219_107 ?_
        refine am_e1 (v := on) hi_219_109 rfl ?_
        refine am_e0 hi_219_110 ?_
        obtain ⟨z10, hz10⟩ : ∃ q__, am_bin 0 on 1 = q__ := ⟨_, rfl⟩
        refine am_e10 (z := z10) hi_219_111 hz10 ?_
        refine am_e1 (v := f 4) hi_219_112 rfl ?_
        refine am_e0 hi_219_113 ?_
        refine am_e32n (as := [.ref 39, .int 39, .int z10, .int (f 4), .int 0]) (la := [some (.ref 39), some (.int 39), some (.int z10), some (.int (f 4)), some (.int 0)]) (rest := []) hi_219_114 (am_hd0 (M := 219) (by decide) 114) (Nat.le_of_ble_eq_true rfl) (Nat.le_of_ble_eq_true rfl) (show 5 ≤ am_P0.2.2.1 179 from by decide +kernel) rfl (am_recv_ok hS4.fs) rfl rfl (ct_pile (d := (d + 5)) hS4 hR (mj_e_plain (by decide)) (by show (0 : Int) ≤ (f 10).toInt; omega) (by show (f 10).toInt ≤ (65535 : Int); omega)) ?_
        rintro v11 S12 (⟨z13, g'14, hv15, hS16, hR19, h17, h18⟩)
        subst hv15
        have h17_ : z13.toInt = (f 10).toInt + 1 := h17
        have h18_ : ∀ j, j ∉ [11, 12, 13, 14] → g'14 j = g j := h18
        have hR19_ : RJ (upd f 10 z13) g'14 (((39 : Int), z10.toInt, (f 4).toInt, (0 : Int), []) :: gs) bc [] 0 [] := hR19
        show am_E _ _ _ _ [some (.ref 39), some (.int on), some (.int r2), some (.int (f 4))] [] _ _
        refine am_e2 (v := 39) hi_219_117 rfl ?_
        refine am_e0 hi_219_118 ?_
        refine am_e32w (as := [.ref 39, .int 0]) (la := [some (.ref 39), some (.int 0)]) (rest := []) hi_219_119 (am_hd0 (M := 219) (by decide) 119) (Nat.le_of_ble_eq_true rfl) (Nat.le_of_ble_eq_true rfl) (show 2 ≤ am_P0.2.2.1 186 from by decide +kernel) rfl (am_recv_ok hS16.fs) rfl rfl ?_
        refine am_e2 (v := 39) hi_186_0 rfl ?_
        refine am_e0 hi_186_1 ?_
        refine am_e1 (v := 0) hi_186_3 rfl ?_
        refine am_e0 hi_186_4 ?_
        refine am_e0 hi_186_5 ?_
        refine am_e32n (as := [.ref 39, .int 23, .int 0, .int 0, .int 0]) (la := [some (.ref 39), some (.int 23), some (.int 0), some (.int 0), some (.int 0)]) (rest := []) hi_186_6 (am_hd0 (M := 186) (by decide) 6) (Nat.le_of_ble_eq_true rfl) (Nat.le_of_ble_eq_true rfl) (show 5 ≤ am_P0.2.2.1 179 from by decide +kernel) rfl (am_recv_ok hS16.fs) rfl rfl (ct_pile (d := (d + 4)) hS16 hR19_ (mj_e_plain (by decide)) (by show (0 : Int) ≤ z13.toInt; omega) (by show z13.toInt ≤ (65535 : Int); omega)) ?_
        rintro v20 S21 (⟨z22, g'23, hv24, hS25, hR28, h26, h27⟩)
        subst hv24
        have h26_ : z22.toInt = z13.toInt + 1 := h26
        have h27_ : ∀ j, j ∉ [11, 12, 13, 14] → g'23 j = g'14 j := h27
        replace hS25 : MS S0 S21 (upd f 10 z22) g'23 := hS25
        have hR28_ : RJ (upd f 10 z22) g'23 (((23 : Int), (0 : Int), (0 : Int), (0 : Int), []) :: (((39 : Int), z10.toInt, (f 4).toInt, (0 : Int), []) :: gs)) bc [] 0 [] := hR28
        show am_E _ _ _ _ [some (.ref 39), some (.int 0)] [] _ _
        refine am_e35 hi_186_9 ?_
        show am_E _ _ _ _ [some (.ref 39), some (.int on), some (.int r2), some (.int (f 4))] [] _ _
        refine am_e35 hi_219_122 ?_
        show am_E _ _ _ _ [some (.ref 39), some (.int 35), some (.int on), some (.int tw)] [] _ _
        refine am_e18 hi_181_266 ?_
        refine am_e35 hi_181_397 ?_
        show am_E _ _ _ _ [some (.ref 39), some (.int 35), some (.int on), some (.int tw), some (.int th)] [] _ _
        refine am_e35 hi_180_13 ?_
        have q1 : mg_p1 (((23 : Int), (0 : Int), (0 : Int), (0 : Int), []) :: (((39 : Int), z10.toInt, (f 4).toInt, (0 : Int), []) :: gs)) = 0 + (0 + (mg_p1 gs)) := rfl
        have q2 : mg_p2 (((23 : Int), (0 : Int), (0 : Int), (0 : Int), []) :: (((39 : Int), z10.toInt, (f 4).toInt, (0 : Int), []) :: gs)) = 0 + (0 + (mg_p2 gs)) := rfl
        have q3 : mg_p3 (((23 : Int), (0 : Int), (0 : Int), (0 : Int), []) :: (((39 : Int), z10.toInt, (f 4).toInt, (0 : Int), []) :: gs)) = 1 + (1 + (mg_p3 gs)) := rfl
        have q4 : mg_p4 (((23 : Int), (0 : Int), (0 : Int), (0 : Int), []) :: (((39 : Int), z10.toInt, (f 4).toInt, (0 : Int), []) :: gs)) = 0 + (0 + (mg_p4 gs)) := rfl
        refine ⟨_, _, _, bc, rfl, hS25, Or.inl ⟨⟨hR28_, ?_, ?_⟩, rfl, ?_⟩⟩
        · exact (⟨⟨(show mg_k 23 from by decide), (show (0 : Int) ≤ (f 15).toInt from by omega), (show 0 ≤ (f 20).toInt from by omega), (show 1 ≤ (f 37).toInt from by omega), (show 0 ≤ (f 32).toInt from by omega), (show (f 32).toInt ≤ (f 5).toInt from by omega), (show (f 5).toInt ≤ 48 from by omega), (show (f 37).toInt ≤ 2 * ((f 5).toInt) + 2 from by omega), (show 0 ≤ (0 : Int) from by omega)⟩, ⟨⟨(show mg_k 39 from by decide), (show (1 : Int) ≤ (f 15).toInt + 1 from by omega), (show 0 ≤ (f 20).toInt from by omega), (show 1 ≤ (f 37).toInt + 0 from by omega), (show 0 ≤ (f 32).toInt + 0 from by omega), (show (f 32).toInt + 0 ≤ (f 5).toInt + 0 from by omega), (show (f 5).toInt + 0 ≤ 48 from by omega), (show (f 37).toInt + 0 ≤ 2 * ((f 5).toInt + 0) + 2 from by omega), trivial⟩, mg_cast (mg_good_ext _ _ _ _ _ _ (fun i _ => by show g'23 34 i = g 34 i; rw [show g'23 34 = g'14 34 from h27_ 34 (by decide), show g'14 34 = g 34 from h18_ 34 (by decide)]) (fun i _ => by show g'23 38 i = g 38 i; rw [show g'23 38 = g'14 38 from h27_ 38 (by decide), show g'14 38 = g 38 from h18_ 38 (by decide)]) (fun i _ => by show g'23 23 i = g 23 i; rw [show g'23 23 = g'14 23 from h27_ 23 (by decide), show g'14 23 = g 23 from h18_ 23 (by decide)]) hrest) (by show (f 15).toInt + 0 = (f 15).toInt + 1 + -1; omega) (by show (f 20).toInt = (f 20).toInt; omega) (by show (f 37).toInt + 0 = (f 37).toInt + 0 + 0; omega) (by show (f 32).toInt + 0 = (f 32).toInt + 0 + 0; omega) (by show (f 5).toInt + -1 = (f 5).toInt + 0 + -1; omega)⟩⟩ : mg_good (g'23 34) (g'23 38) (g'23 23) (((23 : Int), (0 : Int), (0 : Int), (0 : Int), []) :: (((39 : Int), z10.toInt, (f 4).toInt, (0 : Int), []) :: gs)) ((f 15).toInt) ((f 20).toInt) ((f 37).toInt) ((f 32).toInt) ((f 5).toInt))
        · exact ⟨(by show 0 ≤ (f 4).toInt; omega), (by show (f 4).toInt ≤ (f 0).toInt; omega), (by show (f 0).toInt ≤ 512; omega), (by show 0 ≤ (f 24).toInt; omega), (by show (f 24).toInt + (f 20).toInt + mg_p1 (((23 : Int), (0 : Int), (0 : Int), (0 : Int), []) :: (((39 : Int), z10.toInt, (f 4).toInt, (0 : Int), []) :: gs)) ≤ 4 * (f 4).toInt; omega), (by show (f 20).toInt ≤ (f 4).toInt; omega), (by show (f 15).toInt + mg_p2 (((23 : Int), (0 : Int), (0 : Int), (0 : Int), []) :: (((39 : Int), z10.toInt, (f 4).toInt, (0 : Int), []) :: gs)) ≤ (f 4).toInt; omega), (by show mg_p3 (((23 : Int), (0 : Int), (0 : Int), (0 : Int), []) :: (((39 : Int), z10.toInt, (f 4).toInt, (0 : Int), []) :: gs)) ≤ 20 * (f 4).toInt + 20; omega), (by show 0 ≤ (f 68).toInt; omega), (by show (f 68).toInt + 3 * (f 20).toInt + mg_p4 (((23 : Int), (0 : Int), (0 : Int), (0 : Int), []) :: (((39 : Int), z10.toInt, (f 4).toInt, (0 : Int), []) :: gs)) ≤ 60 * (f 4).toInt + 60; omega), (by show 0 ≤ (f 62).toInt; omega), (by show (f 62).toInt + 64 * mj_n (g'23 16) (f 15).toNatClampNeg 3 ≤ 64 * (f 4).toInt; rw [show g'23 16 = g'14 16 from h27_ 16 (by decide), show g'14 16 = g 16 from h18_ 16 (by decide)]; omega), (by show 0 ≤ (f 44).toInt; omega), (by show (f 44).toInt ≤ (f 4).toInt; omega), (by show 0 ≤ (f 48).toInt; omega), (by show (f 48).toInt ≤ (f 4).toInt; omega), (by show 1 ≤ (f 53).toInt; omega), (by show (f 53).toInt ≤ (f 4).toInt + 1; omega), (by show 0 ≤ (f 19).toInt; omega), (by show (f 19).toInt ≤ 600; omega)⟩
        · show 100 * ((f 0).toInt - (f 4).toInt) + mg_p3 (((23 : Int), (0 : Int), (0 : Int), (0 : Int), []) :: (((39 : Int), z10.toInt, (f 4).toInt, (0 : Int), []) :: gs)) < 100 * ((f 0).toInt - (f 4).toInt) + (3 + mg_p3 gs); omega
      · refine am_e13f hi_219_61 (am_cF (m := r2.toInt) (n := (1 : Int)) rfl (by decide) c9) ?_
        refine am_e2 (v := 39) hi_219_64 rfl ?_
        refine am_e2 (v := 39) hi_219_65 rfl ?_
        refine mm_20 (v := .int (f 4)) hS4 hi_219_66 rfl ?_
        refine am_e0 hi_219_69 ?_
        obtain ⟨z29, hz29, tz29⟩ := am_addI (x := f 4) (y := 1) (m := (f 4).toInt) (n := (1 : Int)) rfl (by decide) (by omega) (by omega)
        refine am_e10 (z := z29) hi_219_70 hz29 ?_
        refine am_e32n (as := [.ref 39, .int z29]) (la := [some (.ref 39), some (.int z29)]) (rest := []) hi_219_71 (am_hd0 (M := 219) (by decide) 71) (Nat.le_of_ble_eq_true rfl) (Nat.le_of_ble_eq_true rfl) (show 2 ≤ am_P0.2.2.1 184 from by decide +kernel) rfl (am_recv_ok hS4.fs) rfl rfl (ct_kindAt (d := (d + 5)) hS4   (by show (0 : Int) ≤ z29.toInt; omega) (by show (f 0).toInt ≤ (16384 : Int); omega)) ?_
        rintro v30 S31 (⟨r32, hv33, hS34, h35⟩)
        subst hv33
        have h35_ : z29.toInt < (f 0).toInt ∨ r32.toInt = (-1 : Int) := h35
        show am_E _ _ _ _ [some (.ref 39), some (.int on), some (.int r2), some (.int (f 4))] [.int r32] _ _
        refine am_e0 hi_219_74 ?_
        by_cases c37 : ¬ r32.toInt = (59 : Int)
        · refine am_e13t hi_219_76 (am_cT (m := r32.toInt) (n := (59 : Int)) rfl (by decide) c37) ?_
          refine am_e2 (v := 39) hi_219_106 rfl ?_
          refine am_e0 hi_219_107 ?_
          refine am_e1 (v := on) hi_219_109 rfl ?_
          refine am_e0 hi_219_110 ?_
          obtain ⟨z38, hz38⟩ : ∃ q__, am_bin 0 on 1 = q__ := ⟨_, rfl⟩
          refine am_e10 (z := z38) hi_219_111 hz38 ?_
          refine am_e1 (v := f 4) hi_219_112 rfl ?_
          refine am_e0 hi_219_113 ?_
          refine am_e32n (as := [.ref 39, .int 39, .int z38, .int (f 4), .int 0]) (la := [some (.ref 39), some (.int 39), some (.int z38), some (.int (f 4)), some (.int 0)]) (rest := []) hi_219_114 (am_hd0 (M := 219) (by decide) 114) (Nat.le_of_ble_eq_true rfl) (Nat.le_of_ble_eq_true rfl) (show 5 ≤ am_P0.2.2.1 179 from by decide +kernel) rfl (am_recv_ok hS34.fs) rfl rfl (ct_pile (d := (d + 5)) hS34 hR (mj_e_plain (by decide)) (by show (0 : Int) ≤ (f 10).toInt; omega) (by show (f 10).toInt ≤ (65535 : Int); omega)) ?_
          rintro v39 S40 (⟨z41, g'42, hv43, hS44, hR47, h45, h46⟩)
          subst hv43
          have h45_ : z41.toInt = (f 10).toInt + 1 := h45
          have h46_ : ∀ j, j ∉ [11, 12, 13, 14] → g'42 j = g j := h46
          have hR47_ : RJ (upd f 10 z41) g'42 (((39 : Int), z38.toInt, (f 4).toInt, (0 : Int), []) :: gs) bc [] 0 [] := hR47
          show am_E _ _ _ _ [some (.ref 39), some (.int on), some (.int r2), some (.int (f 4))] [] _ _
          refine am_e2 (v := 39) hi_219_117 rfl ?_
          refine am_e0 hi_219_118 ?_
          refine am_e32w (as := [.ref 39, .int 0]) (la := [some (.ref 39), some (.int 0)]) (rest := []) hi_219_119 (am_hd0 (M := 219) (by decide) 119) (Nat.le_of_ble_eq_true rfl) (Nat.le_of_ble_eq_true rfl) (show 2 ≤ am_P0.2.2.1 186 from by decide +kernel) rfl (am_recv_ok hS44.fs) rfl rfl ?_
          refine am_e2 (v := 39) hi_186_0 rfl ?_
          refine am_e0 hi_186_1 ?_
          refine am_e1 (v := 0) hi_186_3 rfl ?_
          refine am_e0 hi_186_4 ?_
          refine am_e0 hi_186_5 ?_
          refine am_e32n (as := [.ref 39, .int 23, .int 0, .int 0, .int 0]) (la := [some (.ref 39), some (.int 23), some (.int 0), some (.int 0), some (.int 0)]) (rest := []) hi_186_6 (am_hd0 (M := 186) (by decide) 6) (Nat.le_of_ble_eq_true rfl) (Nat.le_of_ble_eq_true rfl) (show 5 ≤ am_P0.2.2.1 179 from by decide +kernel) rfl (am_recv_ok hS44.fs) rfl rfl (ct_pile (d := (d + 4)) hS44 hR47_ (mj_e_plain (by decide)) (by show (0 : Int) ≤ z41.toInt; omega) (by show z41.toInt ≤ (65535 : Int); omega)) ?_
          rintro v48 S49 (⟨z50, g'51, hv52, hS53, hR56, h54, h55⟩)
          subst hv52
          have h54_ : z50.toInt = z41.toInt + 1 := h54
          have h55_ : ∀ j, j ∉ [11, 12, 13, 14] → g'51 j = g'42 j := h55
          replace hS53 : MS S0 S49 (upd f 10 z50) g'51 := hS53
          have hR56_ : RJ (upd f 10 z50) g'51 (((23 : Int), (0 : Int), (0 : Int), (0 : Int), []) :: (((39 : Int), z38.toInt, (f 4).toInt, (0 : Int), []) :: gs)) bc [] 0 [] := hR56
          show am_E _ _ _ _ [some (.ref 39), some (.int 0)] [] _ _
          refine am_e35 hi_186_9 ?_
          show am_E _ _ _ _ [some (.ref 39), some (.int on), some (.int r2), some (.int (f 4))] [] _ _
          refine am_e35 hi_219_122 ?_
          show am_E _ _ _ _ [some (.ref 39), some (.int 35), some (.int on), some (.int tw)] [] _ _
          refine am_e18 hi_181_266 ?_
          refine am_e35 hi_181_397 ?_
          show am_E _ _ _ _ [some (.ref 39), some (.int 35), some (.int on), some (.int tw), some (.int th)] [] _ _
          refine am_e35 hi_180_13 ?_
          have q1 : mg_p1 (((23 : Int), (0 : Int), (0 : Int), (0 : Int), []) :: (((39 : Int), z38.toInt, (f 4).toInt, (0 : Int), []) :: gs)) = 0 + (0 + (mg_p1 gs)) := rfl
          have q2 : mg_p2 (((23 : Int), (0 : Int), (0 : Int), (0 : Int), []) :: (((39 : Int), z38.toInt, (f 4).toInt, (0 : Int), []) :: gs)) = 0 + (0 + (mg_p2 gs)) := rfl
          have q3 : mg_p3 (((23 : Int), (0 : Int), (0 : Int), (0 : Int), []) :: (((39 : Int), z38.toInt, (f 4).toInt, (0 : Int), []) :: gs)) = 1 + (1 + (mg_p3 gs)) := rfl
          have q4 : mg_p4 (((23 : Int), (0 : Int), (0 : Int), (0 : Int), []) :: (((39 : Int), z38.toInt, (f 4).toInt, (0 : Int), []) :: gs)) = 0 + (0 + (mg_p4 gs)) := rfl
          refine ⟨_, _, _, bc, rfl, hS53, Or.inl ⟨⟨hR56_, ?_, ?_⟩, rfl, ?_⟩⟩
          · exact (⟨⟨(show mg_k 23 from by decide), (show (0 : Int) ≤ (f 15).toInt from by omega), (show 0 ≤ (f 20).toInt from by omega), (show 1 ≤ (f 37).toInt from by omega), (show 0 ≤ (f 32).toInt from by omega), (show (f 32).toInt ≤ (f 5).toInt from by omega), (show (f 5).toInt ≤ 48 from by omega), (show (f 37).toInt ≤ 2 * ((f 5).toInt) + 2 from by omega), (show 0 ≤ (0 : Int) from by omega)⟩, ⟨⟨(show mg_k 39 from by decide), (show (1 : Int) ≤ (f 15).toInt + 1 from by omega), (show 0 ≤ (f 20).toInt from by omega), (show 1 ≤ (f 37).toInt + 0 from by omega), (show 0 ≤ (f 32).toInt + 0 from by omega), (show (f 32).toInt + 0 ≤ (f 5).toInt + 0 from by omega), (show (f 5).toInt + 0 ≤ 48 from by omega), (show (f 37).toInt + 0 ≤ 2 * ((f 5).toInt + 0) + 2 from by omega), trivial⟩, mg_cast (mg_good_ext _ _ _ _ _ _ (fun i _ => by show g'51 34 i = g 34 i; rw [show g'51 34 = g'42 34 from h55_ 34 (by decide), show g'42 34 = g 34 from h46_ 34 (by decide)]) (fun i _ => by show g'51 38 i = g 38 i; rw [show g'51 38 = g'42 38 from h55_ 38 (by decide), show g'42 38 = g 38 from h46_ 38 (by decide)]) (fun i _ => by show g'51 23 i = g 23 i; rw [show g'51 23 = g'42 23 from h55_ 23 (by decide), show g'42 23 = g 23 from h46_ 23 (by decide)]) hrest) (by show (f 15).toInt + 0 = (f 15).toInt + 1 + -1; omega) (by show (f 20).toInt = (f 20).toInt; omega) (by show (f 37).toInt + 0 = (f 37).toInt + 0 + 0; omega) (by show (f 32).toInt + 0 = (f 32).toInt + 0 + 0; omega) (by show (f 5).toInt + -1 = (f 5).toInt + 0 + -1; omega)⟩⟩ : mg_good (g'51 34) (g'51 38) (g'51 23) (((23 : Int), (0 : Int), (0 : Int), (0 : Int), []) :: (((39 : Int), z38.toInt, (f 4).toInt, (0 : Int), []) :: gs)) ((f 15).toInt) ((f 20).toInt) ((f 37).toInt) ((f 32).toInt) ((f 5).toInt))
          · exact ⟨(by show 0 ≤ (f 4).toInt; omega), (by show (f 4).toInt ≤ (f 0).toInt; omega), (by show (f 0).toInt ≤ 512; omega), (by show 0 ≤ (f 24).toInt; omega), (by show (f 24).toInt + (f 20).toInt + mg_p1 (((23 : Int), (0 : Int), (0 : Int), (0 : Int), []) :: (((39 : Int), z38.toInt, (f 4).toInt, (0 : Int), []) :: gs)) ≤ 4 * (f 4).toInt; omega), (by show (f 20).toInt ≤ (f 4).toInt; omega), (by show (f 15).toInt + mg_p2 (((23 : Int), (0 : Int), (0 : Int), (0 : Int), []) :: (((39 : Int), z38.toInt, (f 4).toInt, (0 : Int), []) :: gs)) ≤ (f 4).toInt; omega), (by show mg_p3 (((23 : Int), (0 : Int), (0 : Int), (0 : Int), []) :: (((39 : Int), z38.toInt, (f 4).toInt, (0 : Int), []) :: gs)) ≤ 20 * (f 4).toInt + 20; omega), (by show 0 ≤ (f 68).toInt; omega), (by show (f 68).toInt + 3 * (f 20).toInt + mg_p4 (((23 : Int), (0 : Int), (0 : Int), (0 : Int), []) :: (((39 : Int), z38.toInt, (f 4).toInt, (0 : Int), []) :: gs)) ≤ 60 * (f 4).toInt + 60; omega), (by show 0 ≤ (f 62).toInt; omega), (by show (f 62).toInt + 64 * mj_n (g'51 16) (f 15).toNatClampNeg 3 ≤ 64 * (f 4).toInt; rw [show g'51 16 = g'42 16 from h55_ 16 (by decide), show g'42 16 = g 16 from h46_ 16 (by decide)]; omega), (by show 0 ≤ (f 44).toInt; omega), (by show (f 44).toInt ≤ (f 4).toInt; omega), (by show 0 ≤ (f 48).toInt; omega), (by show (f 48).toInt ≤ (f 4).toInt; omega), (by show 1 ≤ (f 53).toInt; omega), (by show (f 53).toInt ≤ (f 4).toInt + 1; omega), (by show 0 ≤ (f 19).toInt; omega), (by show (f 19).toInt ≤ 600; omega)⟩
          · show 100 * ((f 0).toInt - (f 4).toInt) + mg_p3 (((23 : Int), (0 : Int), (0 : Int), (0 : Int), []) :: (((39 : Int), z38.toInt, (f 4).toInt, (0 : Int), []) :: gs)) < 100 * ((f 0).toInt - (f 4).toInt) + (3 + mg_p3 gs); omega
        · refine am_e13f hi_219_76 (am_cF (m := r32.toInt) (n := (59 : Int)) rfl (by decide) c37) ?_
          refine am_e2 (v := 39) hi_219_79 rfl ?_
          refine am_e7 hi_219_80 ?_
          refine mm_20 (v := .int (f 4)) hS34 hi_219_81 rfl ?_
          refine am_e0 hi_219_84 ?_
          obtain ⟨z57, hz57, tz57⟩ := am_addI (x := f 4) (y := 2) (m := (f 4).toInt) (n := (2 : Int)) rfl (by decide) (by omega) (by omega)
          refine am_e10 (z := z57) hi_219_85 hz57 ?_
          refine mm_21 (v := z57) hS34 hi_219_86 rfl (Nat.le_of_ble_eq_true rfl) ms_4 ?_
          intro S58 hS59
          have hR60 : RJ (upd f 4 z57) g gs bc [] 0 [] := RJ.at hR (by show (f 4).toInt ≤ z57.toInt; omega)
          refine am_e2 (v := 39) hi_219_89 rfl ?_
          refine am_e0 hi_219_90 ?_
          refine am_e1 (v := on) hi_219_92 rfl ?_
          refine am_e1 (v := f 4) hi_219_93 rfl ?_
          refine am_e0 hi_219_94 ?_
          refine am_e32n (as := [.ref 39, .int 38, .int on, .int (f 4), .int 0]) (la := [some (.ref 39), some (.int 38), some (.int on), some (.int (f 4)), some (.int 0)]) (rest := []) hi_219_95 (am_hd0 (M := 219) (by decide) 95) (Nat.le_of_ble_eq_true rfl) (Nat.le_of_ble_eq_true rfl) (show 5 ≤ am_P0.2.2.1 179 from by decide +kernel) rfl (am_recv_ok hS59.fs) rfl rfl (ct_pile (d := (d + 5)) hS59 hR60 (mj_e_plain (by decide)) (by show (0 : Int) ≤ (f 10).toInt; omega) (by show (f 10).toInt ≤ (65535 : Int); omega)) ?_
          rintro v61 S62 (⟨z63, g'64, hv65, hS66, hR69, h67, h68⟩)
          subst hv65
          have h67_ : z63.toInt = (f 10).toInt + 1 := h67
          have h68_ : ∀ j, j ∉ [11, 12, 13, 14] → g'64 j = g j := h68
          have hR69_ : RJ (upd (upd f 4 z57) 10 z63) g'64 (((38 : Int), on.toInt, (f 4).toInt, (0 : Int), []) :: gs) bc [] 0 [] := hR69
          show am_E _ _ _ _ [some (.ref 39), some (.int on), some (.int r2), some (.int (f 4))] [] _ _
          refine am_e2 (v := 39) hi_219_98 rfl ?_
          refine am_e0 hi_219_99 ?_
          refine am_e32w (as := [.ref 39, .int 0]) (la := [some (.ref 39), some (.int 0)]) (rest := []) hi_219_100 (am_hd0 (M := 219) (by decide) 100) (Nat.le_of_ble_eq_true rfl) (Nat.le_of_ble_eq_true rfl) (show 2 ≤ am_P0.2.2.1 186 from by decide +kernel) rfl (am_recv_ok hS66.fs) rfl rfl ?_
          refine am_e2 (v := 39) hi_186_0 rfl ?_
          refine am_e0 hi_186_1 ?_
          refine am_e1 (v := 0) hi_186_3 rfl ?_
          refine am_e0 hi_186_4 ?_
          refine am_e0 hi_186_5 ?_
          refine am_e32n (as := [.ref 39, .int 23, .int 0, .int 0, .int 0]) (la := [some (.ref 39), some (.int 23), some (.int 0), some (.int 0), some (.int 0)]) (rest := []) hi_186_6 (am_hd0 (M := 186) (by decide) 6) (Nat.le_of_ble_eq_true rfl) (Nat.le_of_ble_eq_true rfl) (show 5 ≤ am_P0.2.2.1 179 from by decide +kernel) rfl (am_recv_ok hS66.fs) rfl rfl (ct_pile (d := (d + 4)) hS66 hR69_ (mj_e_plain (by decide)) (by show (0 : Int) ≤ z63.toInt; omega) (by show z63.toInt ≤ (65535 : Int); omega)) ?_
          rintro v70 S71 (⟨z72, g'73, hv74, hS75, hR78, h76, h77⟩)
          subst hv74
          have h76_ : z72.toInt = z63.toInt + 1 := h76
          have h77_ : ∀ j, j ∉ [11, 12, 13, 14] → g'73 j = g'64 j := h77
          replace hS75 : MS S0 S71 (upd (upd f 4 z57) 10 z72) g'73 := hS75
          have hR78_ : RJ (upd (upd f 4 z57) 10 z72) g'73 (((23 : Int), (0 : Int), (0 : Int), (0 : Int), []) :: (((38 : Int), on.toInt, (f 4).toInt, (0 : Int), []) :: gs)) bc [] 0 [] := hR78
          show am_E _ _ _ _ [some (.ref 39), some (.int 0)] [] _ _
          refine am_e35 hi_186_9 ?_
          show am_E _ _ _ _ [some (.ref 39), some (.int on), some (.int r2), some (.int (f 4))] [] _ _
          refine am_e18 hi_219_103 ?_
          refine am_e35 hi_219_122 ?_
          show am_E _ _ _ _ [some (.ref 39), some (.int 35), some (.int on), some (.int tw)] [] _ _
          refine am_e18 hi_181_266 ?_
          refine am_e35 hi_181_397 ?_
          show am_E _ _ _ _ [some (.ref 39), some (.int 35), some (.int on), some (.int tw), some (.int th)] [] _ _
          refine am_e35 hi_180_13 ?_
          have q1 : mg_p1 (((23 : Int), (0 : Int), (0 : Int), (0 : Int), []) :: (((38 : Int), on.toInt, (f 4).toInt, (0 : Int), []) :: gs)) = 0 + (0 + (mg_p1 gs)) := rfl
          have q2 : mg_p2 (((23 : Int), (0 : Int), (0 : Int), (0 : Int), []) :: (((38 : Int), on.toInt, (f 4).toInt, (0 : Int), []) :: gs)) = 0 + (0 + (mg_p2 gs)) := rfl
          have q3 : mg_p3 (((23 : Int), (0 : Int), (0 : Int), (0 : Int), []) :: (((38 : Int), on.toInt, (f 4).toInt, (0 : Int), []) :: gs)) = 1 + (1 + (mg_p3 gs)) := rfl
          have q4 : mg_p4 (((23 : Int), (0 : Int), (0 : Int), (0 : Int), []) :: (((38 : Int), on.toInt, (f 4).toInt, (0 : Int), []) :: gs)) = 0 + (0 + (mg_p4 gs)) := rfl
          refine ⟨_, _, _, bc, rfl, hS75, Or.inl ⟨⟨hR78_, ?_, ?_⟩, rfl, ?_⟩⟩
          · exact (⟨⟨(show mg_k 23 from by decide), (show (0 : Int) ≤ (f 15).toInt from by omega), (show 0 ≤ (f 20).toInt from by omega), (show 1 ≤ (f 37).toInt from by omega), (show 0 ≤ (f 32).toInt from by omega), (show (f 32).toInt ≤ (f 5).toInt from by omega), (show (f 5).toInt ≤ 48 from by omega), (show (f 37).toInt ≤ 2 * ((f 5).toInt) + 2 from by omega), (show 0 ≤ (0 : Int) from by omega)⟩, ⟨⟨(show mg_k 38 from by decide), (show (1 : Int) ≤ (f 15).toInt + 1 from by omega), (show 0 ≤ (f 20).toInt from by omega), (show 1 ≤ (f 37).toInt + 0 from by omega), (show 0 ≤ (f 32).toInt + 0 from by omega), (show (f 32).toInt + 0 ≤ (f 5).toInt + 0 from by omega), (show (f 5).toInt + 0 ≤ 48 from by omega), (show (f 37).toInt + 0 ≤ 2 * ((f 5).toInt + 0) + 2 from by omega), ⟨(show 0 ≤ (f 4).toInt from by omega), (show (f 4).toInt ≤ 16000 from by omega)⟩⟩, mg_cast (mg_good_ext _ _ _ _ _ _ (fun i _ => by show g'73 34 i = g 34 i; rw [show g'73 34 = g'64 34 from h77_ 34 (by decide), show g'64 34 = g 34 from h68_ 34 (by decide)]) (fun i _ => by show g'73 38 i = g 38 i; rw [show g'73 38 = g'64 38 from h77_ 38 (by decide), show g'64 38 = g 38 from h68_ 38 (by decide)]) (fun i _ => by show g'73 23 i = g 23 i; rw [show g'73 23 = g'64 23 from h77_ 23 (by decide), show g'64 23 = g 23 from h68_ 23 (by decide)]) hrest) (by show (f 15).toInt + 0 = (f 15).toInt + 1 + -1; omega) (by show (f 20).toInt = (f 20).toInt; omega) (by show (f 37).toInt + 0 = (f 37).toInt + 0 + 0; omega) (by show (f 32).toInt + 0 = (f 32).toInt + 0 + 0; omega) (by show (f 5).toInt + -1 = (f 5).toInt + 0 + -1; omega)⟩⟩ : mg_good (g'73 34) (g'73 38) (g'73 23) (((23 : Int), (0 : Int), (0 : Int), (0 : Int), []) :: (((38 : Int), on.toInt, (f 4).toInt, (0 : Int), []) :: gs)) ((f 15).toInt) ((f 20).toInt) ((f 37).toInt) ((f 32).toInt) ((f 5).toInt))
          · exact ⟨(by show 0 ≤ z57.toInt; omega), (by show z57.toInt ≤ (f 0).toInt; omega), (by show (f 0).toInt ≤ 512; omega), (by show 0 ≤ (f 24).toInt; omega), (by show (f 24).toInt + (f 20).toInt + mg_p1 (((23 : Int), (0 : Int), (0 : Int), (0 : Int), []) :: (((38 : Int), on.toInt, (f 4).toInt, (0 : Int), []) :: gs)) ≤ 4 * z57.toInt; omega), (by show (f 20).toInt ≤ z57.toInt; omega), (by show (f 15).toInt + mg_p2 (((23 : Int), (0 : Int), (0 : Int), (0 : Int), []) :: (((38 : Int), on.toInt, (f 4).toInt, (0 : Int), []) :: gs)) ≤ z57.toInt; omega), (by show mg_p3 (((23 : Int), (0 : Int), (0 : Int), (0 : Int), []) :: (((38 : Int), on.toInt, (f 4).toInt, (0 : Int), []) :: gs)) ≤ 20 * z57.toInt + 20; omega), (by show 0 ≤ (f 68).toInt; omega), (by show (f 68).toInt + 3 * (f 20).toInt + mg_p4 (((23 : Int), (0 : Int), (0 : Int), (0 : Int), []) :: (((38 : Int), on.toInt, (f 4).toInt, (0 : Int), []) :: gs)) ≤ 60 * z57.toInt + 60; omega), (by show 0 ≤ (f 62).toInt; omega), (by show (f 62).toInt + 64 * mj_n (g'73 16) (f 15).toNatClampNeg 3 ≤ 64 * z57.toInt; rw [show g'73 16 = g'64 16 from h77_ 16 (by decide), show g'64 16 = g 16 from h68_ 16 (by decide)]; omega), (by show 0 ≤ (f 44).toInt; omega), (by show (f 44).toInt ≤ z57.toInt; omega), (by show 0 ≤ (f 48).toInt; omega), (by show (f 48).toInt ≤ z57.toInt; omega), (by show 1 ≤ (f 53).toInt; omega), (by show (f 53).toInt ≤ z57.toInt + 1; omega), (by show 0 ≤ (f 19).toInt; omega), (by show (f 19).toInt ≤ 600; omega)⟩
          · show 100 * ((f 0).toInt - z57.toInt) + mg_p3 (((23 : Int), (0 : Int), (0 : Int), (0 : Int), []) :: (((38 : Int), on.toInt, (f 4).toInt, (0 : Int), []) :: gs)) < 100 * ((f 0).toInt - (f 4).toInt) + (3 + mg_p3 gs); omega
    · refine am_e13f hi_219_29 (am_cF (m := r2.toInt) (n := (64 : Int)) rfl (by decide) c8) ?_
      refine am_e2 (v := 39) hi_219_32 rfl ?_
      refine am_e0 hi_219_33 ?_
      refine am_e32n (as := [.ref 39, .int 64]) (la := [some (.ref 39), some (.int 64)]) (rest := []) hi_219_35 (am_hd0 (M := 219) (by decide) 35) (Nat.le_of_ble_eq_true rfl) (Nat.le_of_ble_eq_true rfl) (show 2 ≤ am_P0.2.2.1 193 from by decide +kernel) rfl (am_recv_ok hS4.fs) rfl rfl (ct_enter (d := (d + 3)) hS4   (by show (0 : Int) ≤ (f 4).toInt; omega) (by show (f 0).toInt ≤ (16384 : Int); omega) (by show (0 : Int) ≤ (64 : Int); omega) (by show (0 : Int) ≤ (f 5).toInt; omega) (by show (f 5).toInt ≤ (48 : Int); omega)) ?_
      rintro v79 S80 (⟨z81, y82, hv83, hS84, h85, h86, h87, h88⟩ | ⟨a90, b91, hv92, hS93⟩)
      · subst hv83
        have h85_ : z81.toInt = (f 4).toInt + 1 := h85
        have h86_ : (f 4).toInt < (f 0).toInt := h86
        have h87_ : y82.toInt = (f 5).toInt + 1 := h87
        have h88_ : y82.toInt ≤ (48 : Int) := h88
        replace hS84 : MS S0 S80 (upd (upd f 4 z81) 5 y82) g := hS84
        have hR95 : RJ (upd (upd f 4 z81) 5 y82) g gs bc [] 0 [] := RJ.at hR (by show (f 4).toInt ≤ z81.toInt; omega)
        show am_E _ _ _ _ [some (.ref 39), some (.int on), some (.int r2), some (.int (f 4))] [.int 1] _ _
        refine am_e12t hi_219_38 (by decide) ?_
        refine am_e2 (v := 39) hi_219_42 rfl ?_
        refine am_e0 hi_219_43 ?_
        refine am_e1 (v := on) hi_219_45 rfl ?_
        refine am_e1 (v := f 4) hi_219_46 rfl ?_
        refine am_e0 hi_219_47 ?_
        refine am_e32n (as := [.ref 39, .int 36, .int on, .int (f 4), .int 0]) (la := [some (.ref 39), some (.int 36), some (.int on), some (.int (f 4)), some (.int 0)]) (rest := []) hi_219_48 (am_hd0 (M := 219) (by decide) 48) (Nat.le_of_ble_eq_true rfl) (Nat.le_of_ble_eq_true rfl) (show 5 ≤ am_P0.2.2.1 179 from by decide +kernel) rfl (am_recv_ok hS84.fs) rfl rfl (ct_pile (d := (d + 5)) hS84 hR95 (mj_e_plain (by decide)) (by show (0 : Int) ≤ (f 10).toInt; omega) (by show (f 10).toInt ≤ (65535 : Int); omega)) ?_
        rintro v96 S97 (⟨z98, g'99, hv100, hS101, hR104, h102, h103⟩)
        subst hv100
        have h102_ : z98.toInt = (f 10).toInt + 1 := h102
        have h103_ : ∀ j, j ∉ [11, 12, 13, 14] → g'99 j = g j := h103
        have hR104_ : RJ (upd (upd (upd f 4 z81) 5 y82) 10 z98) g'99 (((36 : Int), on.toInt, (f 4).toInt, (0 : Int), []) :: gs) bc [] 0 [] := hR104
        show am_E _ _ _ _ [some (.ref 39), some (.int on), some (.int r2), some (.int (f 4))] [] _ _
        refine am_e2 (v := 39) hi_219_51 rfl ?_
        refine am_e0 hi_219_52 ?_
        refine am_e32w (as := [.ref 39, .int 0]) (la := [some (.ref 39), some (.int 0)]) (rest := []) hi_219_53 (am_hd0 (M := 219) (by decide) 53) (Nat.le_of_ble_eq_true rfl) (Nat.le_of_ble_eq_true rfl) (show 2 ≤ am_P0.2.2.1 186 from by decide +kernel) rfl (am_recv_ok hS101.fs) rfl rfl ?_
        refine am_e2 (v := 39) hi_186_0 rfl ?_
        refine am_e0 hi_186_1 ?_
        refine am_e1 (v := 0) hi_186_3 rfl ?_
        refine am_e0 hi_186_4 ?_
        refine am_e0 hi_186_5 ?_
        refine am_e32n (as := [.ref 39, .int 23, .int 0, .int 0, .int 0]) (la := [some (.ref 39), some (.int 23), some (.int 0), some (.int 0), some (.int 0)]) (rest := []) hi_186_6 (am_hd0 (M := 186) (by decide) 6) (Nat.le_of_ble_eq_true rfl) (Nat.le_of_ble_eq_true rfl) (show 5 ≤ am_P0.2.2.1 179 from by decide +kernel) rfl (am_recv_ok hS101.fs) rfl rfl (ct_pile (d := (d + 4)) hS101 hR104_ (mj_e_plain (by decide)) (by show (0 : Int) ≤ z98.toInt; omega) (by show z98.toInt ≤ (65535 : Int); omega)) ?_
        rintro v105 S106 (⟨z107, g'108, hv109, hS110, hR113, h111, h112⟩)
        subst hv109
        have h111_ : z107.toInt = z98.toInt + 1 := h111
        have h112_ : ∀ j, j ∉ [11, 12, 13, 14] → g'108 j = g'99 j := h112
        replace hS110 : MS S0 S106 (upd (upd (upd f 4 z81) 5 y82) 10 z107) g'108 := hS110
        have hR113_ : RJ (upd (upd (upd f 4 z81) 5 y82) 10 z107) g'108 (((23 : Int), (0 : Int), (0 : Int), (0 : Int), []) :: (((36 : Int), on.toInt, (f 4).toInt, (0 : Int), []) :: gs)) bc [] 0 [] := hR113
        show am_E _ _ _ _ [some (.ref 39), some (.int 0)] [] _ _
        refine am_e35 hi_186_9 ?_
        show am_E _ _ _ _ [some (.ref 39), some (.int on), some (.int r2), some (.int (f 4))] [] _ _
        refine am_e18 hi_219_56 ?_
        refine am_e35 hi_219_122 ?_
        show am_E _ _ _ _ [some (.ref 39), some (.int 35), some (.int on), some (.int tw)] [] _ _
        refine am_e18 hi_181_266 ?_
        refine am_e35 hi_181_397 ?_
        show am_E _ _ _ _ [some (.ref 39), some (.int 35), some (.int on), some (.int tw), some (.int th)] [] _ _
        refine am_e35 hi_180_13 ?_
        have q1 : mg_p1 (((23 : Int), (0 : Int), (0 : Int), (0 : Int), []) :: (((36 : Int), on.toInt, (f 4).toInt, (0 : Int), []) :: gs)) = 0 + (0 + (mg_p1 gs)) := rfl
        have q2 : mg_p2 (((23 : Int), (0 : Int), (0 : Int), (0 : Int), []) :: (((36 : Int), on.toInt, (f 4).toInt, (0 : Int), []) :: gs)) = 0 + (0 + (mg_p2 gs)) := rfl
        have q3 : mg_p3 (((23 : Int), (0 : Int), (0 : Int), (0 : Int), []) :: (((36 : Int), on.toInt, (f 4).toInt, (0 : Int), []) :: gs)) = 1 + (1 + (mg_p3 gs)) := rfl
        have q4 : mg_p4 (((23 : Int), (0 : Int), (0 : Int), (0 : Int), []) :: (((36 : Int), on.toInt, (f 4).toInt, (0 : Int), []) :: gs)) = 0 + (0 + (mg_p4 gs)) := rfl
        refine ⟨_, _, _, bc, rfl, hS110, Or.inl ⟨⟨hR113_, ?_, ?_⟩, rfl, ?_⟩⟩
        · exact (⟨⟨(show mg_k 23 from by decide), (show (0 : Int) ≤ (f 15).toInt from by omega), (show 0 ≤ (f 20).toInt from by omega), (show 1 ≤ (f 37).toInt from by omega), (show 0 ≤ (f 32).toInt from by omega), (show (f 32).toInt ≤ y82.toInt from by omega), (show y82.toInt ≤ 48 from by omega), (show (f 37).toInt ≤ 2 * (y82.toInt) + 2 from by omega), (show 0 ≤ (0 : Int) from by omega)⟩, ⟨⟨(show mg_k 36 from by decide), (show (1 : Int) ≤ (f 15).toInt + 1 from by omega), (show 0 ≤ (f 20).toInt from by omega), (show 1 ≤ (f 37).toInt + 0 from by omega), (show 0 ≤ (f 32).toInt + 0 from by omega), (show (f 32).toInt + 0 ≤ y82.toInt + 0 from by omega), (show y82.toInt + 0 ≤ 48 from by omega), (show (f 37).toInt + 0 ≤ 2 * (y82.toInt + 0) + 2 from by omega), trivial⟩, mg_cast (mg_good_ext _ _ _ _ _ _ (fun i _ => by show g'108 34 i = g 34 i; rw [show g'108 34 = g'99 34 from h112_ 34 (by decide), show g'99 34 = g 34 from h103_ 34 (by decide)]) (fun i _ => by show g'108 38 i = g 38 i; rw [show g'108 38 = g'99 38 from h112_ 38 (by decide), show g'99 38 = g 38 from h103_ 38 (by decide)]) (fun i _ => by show g'108 23 i = g 23 i; rw [show g'108 23 = g'99 23 from h112_ 23 (by decide), show g'99 23 = g 23 from h103_ 23 (by decide)]) hrest) (by show (f 15).toInt + 0 = (f 15).toInt + 1 + -1; omega) (by show (f 20).toInt = (f 20).toInt; omega) (by show (f 37).toInt + 0 = (f 37).toInt + 0 + 0; omega) (by show (f 32).toInt + 0 = (f 32).toInt + 0 + 0; omega) (by show (f 5).toInt + -1 = y82.toInt + 0 + -2; omega)⟩⟩ : mg_good (g'108 34) (g'108 38) (g'108 23) (((23 : Int), (0 : Int), (0 : Int), (0 : Int), []) :: (((36 : Int), on.toInt, (f 4).toInt, (0 : Int), []) :: gs)) ((f 15).toInt) ((f 20).toInt) ((f 37).toInt) ((f 32).toInt) (y82.toInt))
        · exact ⟨(by show 0 ≤ z81.toInt; omega), (by show z81.toInt ≤ (f 0).toInt; omega), (by show (f 0).toInt ≤ 512; omega), (by show 0 ≤ (f 24).toInt; omega), (by show (f 24).toInt + (f 20).toInt + mg_p1 (((23 : Int), (0 : Int), (0 : Int), (0 : Int), []) :: (((36 : Int), on.toInt, (f 4).toInt, (0 : Int), []) :: gs)) ≤ 4 * z81.toInt; omega), (by show (f 20).toInt ≤ z81.toInt; omega), (by show (f 15).toInt + mg_p2 (((23 : Int), (0 : Int), (0 : Int), (0 : Int), []) :: (((36 : Int), on.toInt, (f 4).toInt, (0 : Int), []) :: gs)) ≤ z81.toInt; omega), (by show mg_p3 (((23 : Int), (0 : Int), (0 : Int), (0 : Int), []) :: (((36 : Int), on.toInt, (f 4).toInt, (0 : Int), []) :: gs)) ≤ 20 * z81.toInt + 20; omega), (by show 0 ≤ (f 68).toInt; omega), (by show (f 68).toInt + 3 * (f 20).toInt + mg_p4 (((23 : Int), (0 : Int), (0 : Int), (0 : Int), []) :: (((36 : Int), on.toInt, (f 4).toInt, (0 : Int), []) :: gs)) ≤ 60 * z81.toInt + 60; omega), (by show 0 ≤ (f 62).toInt; omega), (by show (f 62).toInt + 64 * mj_n (g'108 16) (f 15).toNatClampNeg 3 ≤ 64 * z81.toInt; rw [show g'108 16 = g'99 16 from h112_ 16 (by decide), show g'99 16 = g 16 from h103_ 16 (by decide)]; omega), (by show 0 ≤ (f 44).toInt; omega), (by show (f 44).toInt ≤ z81.toInt; omega), (by show 0 ≤ (f 48).toInt; omega), (by show (f 48).toInt ≤ z81.toInt; omega), (by show 1 ≤ (f 53).toInt; omega), (by show (f 53).toInt ≤ z81.toInt + 1; omega), (by show 0 ≤ (f 19).toInt; omega), (by show (f 19).toInt ≤ 600; omega)⟩
        · show 100 * ((f 0).toInt - z81.toInt) + mg_p3 (((23 : Int), (0 : Int), (0 : Int), (0 : Int), []) :: (((36 : Int), on.toInt, (f 4).toInt, (0 : Int), []) :: gs)) < 100 * ((f 0).toInt - (f 4).toInt) + (3 + mg_p3 gs); omega
      · subst hv92
        have hR114 := rj_clear0 hR
        have hR115 : RJ (upd (upd (upd f 6 a90) 7 b91) 10 0) g [] bc [] 0 [] := hR114
        show am_E _ _ _ _ [some (.ref 39), some (.int on), some (.int r2), some (.int (f 4))] [.int 0] _ _
        refine am_e12f hi_219_38 (by decide) ?_
        refine am_e35 hi_219_41 ?_
        show am_E _ _ _ _ [some (.ref 39), some (.int 35), some (.int on), some (.int tw)] [] _ _
        refine am_e18 hi_181_266 ?_
        refine am_e35 hi_181_397 ?_
        show am_E _ _ _ _ [some (.ref 39), some (.int 35), some (.int on), some (.int tw), some (.int th)] [] _ _
        refine am_e35 hi_180_13 ?_
        have hRc := rj_clear0 hR115
        refine ⟨_, _, [], _, rfl, hS93, Or.inr ⟨hRc, rfl, (by show 0 ≤ (f 4).toInt; omega), (by show (f 4).toInt ≤ (f 0).toInt; omega), (by show 0 ≤ (f 32).toInt; omega), (by show (f 32).toInt ≤ 63; omega), (by show 1 ≤ (f 53).toInt; omega), (by show (f 53).toInt ≤ 600; omega), (by show 0 ≤ (f 68).toInt; omega), (by show (f 68).toInt ≤ 60000; omega), (by show 0 ≤ (f 48).toInt; omega), (by show (f 48).toInt ≤ 8000; omega), (by show 0 ≤ (f 37).toInt; omega), (by show (f 37).toInt ≤ 128; omega), (by show 0 ≤ (f 62).toInt; omega), (by show (f 62).toInt ≤ 65000; omega), (by show 0 ≤ (f 19).toInt; omega), (by show (f 19).toInt ≤ 600; omega)⟩⟩
  · refine am_e13f hi_219_13 (am_cF (m := r2.toInt) (n := (63 : Int)) rfl (by decide) c7) ?_
    refine am_e2 (v := 39) hi_219_16 rfl ?_
    refine am_e0 hi_219_17 ?_
    refine am_e32n (as := [.ref 39, .int 63]) (la := [some (.ref 39), some (.int 63)]) (rest := []) hi_219_19 (am_hd0 (M := 219) (by decide) 19) (Nat.le_of_ble_eq_true rfl) (Nat.le_of_ble_eq_true rfl) (show 2 ≤ am_P0.2.2.1 199 from by decide +kernel) rfl (am_recv_ok hS4.fs) rfl rfl (ct_leave (d := (d + 2)) hS4   (by show (0 : Int) ≤ (f 4).toInt; omega) (by show (f 0).toInt ≤ (16384 : Int); omega) (by show (0 : Int) ≤ (63 : Int); omega) (by show (0 : Int) ≤ (f 5).toInt; omega) (by show (f 5).toInt ≤ (48 : Int); omega)) ?_
    rintro v116 S117 (⟨z118, y119, hv120, hS121, h122, h123, h124⟩ | ⟨a126, b127, hv128, hS129⟩)
    · subst hv120
      have h122_ : z118.toInt = (f 4).toInt + 1 := h122
      have h123_ : (f 4).toInt < (f 0).toInt := h123
      have h124_ : y119.toInt = (f 5).toInt - 1 := h124
      have hR131 : RJ (upd (upd f 4 z118) 5 y119) g gs bc [] 0 [] := RJ.at hR (by show (f 4).toInt ≤ z118.toInt; omega)
      show am_E _ _ _ _ [some (.ref 39), some (.int on), some (.int r2), some (.int (f 4))] [.int 1] _ _
      refine am_e6i hi_219_22 ?_
      refine am_e18 hi_219_23 ?_
      refine am_e35 hi_219_122 ?_
      show am_E _ _ _ _ [some (.ref 39), some (.int 35), some (.int on), some (.int tw)] [] _ _
      refine am_e18 hi_181_266 ?_
      refine am_e35 hi_181_397 ?_
      show am_E _ _ _ _ [some (.ref 39), some (.int 35), some (.int on), some (.int tw), some (.int th)] [] _ _
      refine am_e35 hi_180_13 ?_
      have q1 : mg_p1 gs = mg_p1 gs := rfl
      have q2 : mg_p2 gs = mg_p2 gs := rfl
      have q3 : mg_p3 gs = mg_p3 gs := rfl
      have q4 : mg_p4 gs = mg_p4 gs := rfl
      refine ⟨_, _, _, bc, rfl, hS121, Or.inl ⟨⟨hR131, ?_, ?_⟩, rfl, ?_⟩⟩
      · exact (mg_cast (mg_good_ext _ _ _ _ _ _ (fun _ _ => rfl) (fun _ _ => rfl) (fun _ _ => rfl) hrest) (by show (f 15).toInt + 0 = (f 15).toInt; omega) (by show (f 20).toInt = (f 20).toInt; omega) (by show (f 37).toInt + 0 = (f 37).toInt; omega) (by show (f 32).toInt + 0 = (f 32).toInt; omega) (by show (f 5).toInt + -1 = y119.toInt; omega) : mg_good (g 34) (g 38) (g 23) gs ((f 15).toInt) ((f 20).toInt) ((f 37).toInt) ((f 32).toInt) (y119.toInt))
      · exact ⟨(by show 0 ≤ z118.toInt; omega), (by show z118.toInt ≤ (f 0).toInt; omega), (by show (f 0).toInt ≤ 512; omega), (by show 0 ≤ (f 24).toInt; omega), (by show (f 24).toInt + (f 20).toInt + mg_p1 gs ≤ 4 * z118.toInt; omega), (by show (f 20).toInt ≤ z118.toInt; omega), (by show (f 15).toInt + mg_p2 gs ≤ z118.toInt; omega), (by show mg_p3 gs ≤ 20 * z118.toInt + 20; omega), (by show 0 ≤ (f 68).toInt; omega), (by show (f 68).toInt + 3 * (f 20).toInt + mg_p4 gs ≤ 60 * z118.toInt + 60; omega), (by show 0 ≤ (f 62).toInt; omega), (by show (f 62).toInt + 64 * mj_n (g 16) (f 15).toNatClampNeg 3 ≤ 64 * z118.toInt; omega), (by show 0 ≤ (f 44).toInt; omega), (by show (f 44).toInt ≤ z118.toInt; omega), (by show 0 ≤ (f 48).toInt; omega), (by show (f 48).toInt ≤ z118.toInt; omega), (by show 1 ≤ (f 53).toInt; omega), (by show (f 53).toInt ≤ z118.toInt + 1; omega), (by show 0 ≤ (f 19).toInt; omega), (by show (f 19).toInt ≤ 600; omega)⟩
      · show 100 * ((f 0).toInt - z118.toInt) + mg_p3 gs < 100 * ((f 0).toInt - (f 4).toInt) + (3 + mg_p3 gs); omega
    · subst hv128
      have hR132 := rj_clear0 hR
      have hR133 : RJ (upd (upd (upd f 6 a126) 7 b127) 10 0) g [] bc [] 0 [] := hR132
      show am_E _ _ _ _ [some (.ref 39), some (.int on), some (.int r2), some (.int (f 4))] [.int 0] _ _
      refine am_e6i hi_219_22 ?_
      refine am_e18 hi_219_23 ?_
      refine am_e35 hi_219_122 ?_
      show am_E _ _ _ _ [some (.ref 39), some (.int 35), some (.int on), some (.int tw)] [] _ _
      refine am_e18 hi_181_266 ?_
      refine am_e35 hi_181_397 ?_
      show am_E _ _ _ _ [some (.ref 39), some (.int 35), some (.int on), some (.int tw), some (.int th)] [] _ _
      refine am_e35 hi_180_13 ?_
      have hRc := rj_clear0 hR133
      refine ⟨_, _, [], _, rfl, hS129, Or.inr ⟨hRc, rfl, (by show 0 ≤ (f 4).toInt; omega), (by show (f 4).toInt ≤ (f 0).toInt; omega), (by show 0 ≤ (f 32).toInt; omega), (by show (f 32).toInt ≤ 63; omega), (by show 1 ≤ (f 53).toInt; omega), (by show (f 53).toInt ≤ 600; omega), (by show 0 ≤ (f 68).toInt; omega), (by show (f 68).toInt ≤ 60000; omega), (by show 0 ≤ (f 48).toInt; omega), (by show (f 48).toInt ≤ 8000; omega), (by show 0 ≤ (f 37).toInt; omega), (by show (f 37).toInt ≤ 128; omega), (by show 0 ≤ (f 62).toInt; omega), (by show (f 62).toInt ≤ 65000; omega), (by show 0 ≤ (f 19).toInt; omega), (by show (f 19).toInt ≤ 600; omega)⟩⟩
theorem st_36 {sc : Nat × (Nat → Int32)} {d : Nat} {S0 S : am_S} {f : Nat → Int32} {g : Nat → Nat → Int32} {on : Int32} {tw : Int32} {th : Int32} {gs : List mg_E} {bc : List (List Nat)} (hS : MS S0 S f g) (hR : RJ f g gs bc [] 0 []) (hrest : mg_good (g 34) (g 38) (g 23) gs ((f 15).toInt + -1) ((f 20).toInt) ((f 37).toInt + 0) ((f 32).toInt + 0) ((f 5).toInt + -2)) (p0 : 0 ≤ (f 4).toInt) (p1 : (f 4).toInt ≤ (f 0).toInt) (p2 : (f 0).toInt ≤ 512) (p3 : 0 ≤ (f 24).toInt) (p4 : (f 24).toInt + (f 20).toInt + mg_p1 gs ≤ 4 * (f 4).toInt) (p5 : (f 20).toInt ≤ (f 4).toInt) (p6 : (f 15).toInt + 0 + mg_p2 gs ≤ (f 4).toInt) (p7 : 1 + mg_p3 gs ≤ 20 * (f 4).toInt + 20) (p8 : 0 ≤ (f 68).toInt) (p9 : (f 68).toInt + 3 * (f 20).toInt + 0 + mg_p4 gs ≤ 60 * (f 4).toInt + 60) (p10 : 0 ≤ (f 62).toInt) (p11 : (f 62).toInt + 64 * mj_n (g 16) (f 15).toNatClampNeg 3 ≤ 64 * (f 4).toInt) (p12 : 0 ≤ (f 44).toInt) (p13 : (f 44).toInt ≤ (f 4).toInt) (p14 : 0 ≤ (f 48).toInt) (p15 : (f 48).toInt ≤ (f 4).toInt) (p16 : 1 ≤ (f 53).toInt) (p17 : (f 53).toInt ≤ (f 4).toInt + 1) (p18 : 0 ≤ (f 19).toInt) (p19 : (f 19).toInt ≤ 600) (p20 : 0 ≤ mg_p1 gs) (p21 : 0 ≤ mg_p2 gs) (p22 : 0 ≤ mg_p4 gs) (p23 : 0 ≤ (f 10).toInt) (p24 : (f 10).toInt ≤ mg_p3 gs) (p25 : 0 ≤ mj_n (g 16) (f 15).toNatClampNeg 3) (p26 : 1 ≤ (f 15).toInt) (p27 : 0 ≤ (f 20).toInt) (p28 : 1 ≤ (f 37).toInt) (p29 : 0 ≤ (f 32).toInt) (p30 : (f 32).toInt ≤ (f 5).toInt) (p31 : (f 5).toInt ≤ 48) (p32 : (f 37).toInt ≤ 2 * (f 5).toInt + 2) : am_E (am_PP sc) (d + 8) 180 0 [some (.ref 39), some (.int 36), some (.int on), some (.int tw), some (.int th)] [] S (am_N fun v S1 => ∃ (f' : Nat → Int32) (g' : Nat → Nat → Int32) (gs' : List mg_E) (bc' : List (List Nat)), v = none ∧ MS S0 S1 f' g' ∧ (mg_on f (100 * ((f 0).toInt - (f 4).toInt) + (1 + mg_p3 gs)) f' g' gs' bc' ∨ mg_off f f' g' bc')) := by
  have hbs := mg_basic hrest
  refine am_e1 (v := 36) hi_180_0 rfl ?_
  refine am_e0 hi_180_1 ?_
  refine am_e13f hi_180_3 (by decide) ?_
  refine am_e2 (v := 39) hi_180_6 rfl ?_
  refine am_e1 (v := 36) hi_180_7 rfl ?_
  refine am_e1 (v := on) hi_180_8 rfl ?_
  refine am_e1 (v := tw) hi_180_9 rfl ?_
  refine am_e32w (as := [.ref 39, .int 36, .int on, .int tw]) (la := [some (.ref 39), some (.int 36), some (.int on), some (.int tw)]) (rest := []) hi_180_10 (am_hd0 (M := 180) (by decide) 10) (Nat.le_of_ble_eq_true rfl) (Nat.le_of_ble_eq_true rfl) (show 4 ≤ am_P0.2.2.1 181 from by decide +kernel) rfl (am_recv_ok hS.fs) rfl rfl ?_
  refine am_e1 (v := 36) hi_181_0 rfl ?_
  refine am_e19 (t := 269) hi_181_1 (by decide) ?_
  refine am_e2 (v := 39) hi_181_269 rfl ?_
  refine am_e32w (as := [.ref 39]) (la := [some (.ref 39)]) (rest := []) hi_181_270 (am_hd0 (M := 181) (by decide) 270) (Nat.le_of_ble_eq_true rfl) (Nat.le_of_ble_eq_true rfl) (show 1 ≤ am_P0.2.2.1 209 from by decide +kernel) rfl (am_recv_ok hS.fs) rfl rfl ?_
  refine am_e2 (v := 39) hi_209_0 rfl ?_
  refine am_e32n (as := [.ref 39]) (la := [some (.ref 39), none, none, none]) (rest := []) hi_209_1 (am_hd0 (M := 209) (by decide) 1) (Nat.le_of_ble_eq_true rfl) (Nat.le_of_ble_eq_true rfl) (show 1 ≤ am_P0.2.2.1 204 from by decide +kernel) rfl (am_recv_ok hS.fs) rfl rfl (ct_load (d := (d + 3)) hS hR  (by show (0 : Int) ≤ (f 32).toInt; omega) (by show (f 32).toInt ≤ (63 : Int); omega) (by show (f 53).toInt ≤ (4096 : Int); omega) (by show (0 : Int) ≤ (f 68).toInt; omega) (by show (f 68).toInt ≤ (65534 : Int); omega) (by show (1 : Int) ≤ (f 15).toInt; omega) (by show (f 15).toInt ≤ (32767 : Int); omega) (by show (0 : Int) ≤ (f 24).toInt; omega) (by show (f 24).toInt ≤ (16384 : Int); omega) (by show (0 : Int) ≤ (f 62).toInt; omega) (by show (f 62).toInt ≤ (65000 : Int); omega)) ?_
  rintro v0 S1 (⟨o2, s3, m4, g'5, hv6, hS7, hR14, h8, h9, h10, h11, h12, h13⟩)
  subst hv6
  have h8_ : (f 62).toInt ≤ o2.toInt := h8
  have h9_ : o2.toInt ≤ (f 62).toInt + 64 := h9
  have h10_ : (f 68).toInt ≤ s3.toInt := h10
  have h11_ : s3.toInt ≤ (f 68).toInt + 1 := h11
  have h12_ : o2.toInt + 64 * mj_n (g'5 16) (f 15).toNatClampNeg 3 ≤ (f 62).toInt + 64 * mj_n (g 16) (f 15).toNatClampNeg 3 := h12
  have h13_ : ∀ j, j ∉ [16, 60, 63, 64, 65, 66, 67, 69, 70, 71, 72, 73] → g'5 j = g j := h13
  have hR14_ : RJ (upd (upd (upd f 62 o2) 68 s3) 75 m4) g'5 gs bc [] 0 [] := hR14
  show am_E _ _ _ _ [some (.ref 39)] [] _ _
  refine am_e2 (v := 39) hi_209_4 rfl ?_
  refine am_e7 hi_209_5 ?_
  refine mm_20 (v := .int (f 15)) hS7 hi_209_6 rfl ?_
  refine am_e0 hi_209_9 ?_
  obtain ⟨z15, hz15, tz15⟩ := am_subI (x := f 15) (y := 1) (m := (f 15).toInt) (n := (1 : Int)) rfl (by decide) (by omega) (by omega)
  refine am_e10 (z := z15) hi_209_10 hz15 ?_
  refine mm_21 (v := z15) hS7 hi_209_11 rfl (Nat.le_of_ble_eq_true rfl) ms_15 ?_
  intro S16 hS17
  replace hS17 : MS S0 S16 (upd (upd (upd (upd f 15 z15) 62 o2) 68 s3) 75 m4) g'5 := hS17
  have hp18 : mj_n (g'5 16) (f 15).toNatClampNeg 3 = mj_n (g'5 16) z15.toNatClampNeg 3 + if (g'5 16 z15.toNatClampNeg).toInt = 3 then 1 else 0 := mj_pop (by rw [cl_toNat, cl_toNat]; omega)
  have hp181 : mj_n (g'5 16) z15.toNatClampNeg 3 ≤ mj_n (g'5 16) (f 15).toNatClampNeg 3 := by rw [hp18]; split <;> omega
  have hp182 : (g'5 16 z15.toNatClampNeg).toInt = 3 → mj_n (g'5 16) z15.toNatClampNeg 3 + 1 ≤ mj_n (g'5 16) (f 15).toNatClampNeg 3 := fun q => by rw [hp18, if_pos q]; exact Int.le_refl _
  refine am_e35 hi_209_14 ?_
  show am_E _ _ _ _ [some (.ref 39), some (.int 36), some (.int on), some (.int tw)] [] _ _
  refine am_e2 (v := 39) hi_181_273 rfl ?_
  refine am_e0 hi_181_274 ?_
  refine am_e32n (as := [.ref 39, .int 65]) (la := [some (.ref 39), some (.int 65)]) (rest := []) hi_181_276 (am_hd0 (M := 181) (by decide) 276) (Nat.le_of_ble_eq_true rfl) (Nat.le_of_ble_eq_true rfl) (show 2 ≤ am_P0.2.2.1 199 from by decide +kernel) rfl (am_recv_ok hS17.fs) rfl rfl (ct_leave (d := (d + 3)) hS17   (by show (0 : Int) ≤ (f 4).toInt; omega) (by show (f 0).toInt ≤ (16384 : Int); omega) (by show (0 : Int) ≤ (65 : Int); omega) (by show (0 : Int) ≤ (f 5).toInt; omega) (by show (f 5).toInt ≤ (48 : Int); omega)) ?_
  rintro v19 S20 (⟨z21, y22, hv23, hS24, h25, h26, h27⟩ | ⟨a29, b30, hv31, hS32⟩)
  · subst hv23
    have h25_ : z21.toInt = (f 4).toInt + 1 := h25
    have h26_ : (f 4).toInt < (f 0).toInt := h26
    have h27_ : y22.toInt = (f 5).toInt - 1 := h27
    replace hS24 : MS S0 S20 (upd (upd (upd (upd (upd (upd f 4 z21) 5 y22) 15 z15) 62 o2) 68 s3) 75 m4) g'5 := hS24
    have hR34 : RJ (upd (upd (upd (upd (upd (upd f 4 z21) 5 y22) 15 z15) 62 o2) 68 s3) 75 m4) g'5 gs bc [] 0 [] := RJ.at hR14_ (by show (f 4).toInt ≤ z21.toInt; omega)
    show am_E _ _ _ _ [some (.ref 39), some (.int 36), some (.int on), some (.int tw)] [.int 1] _ _
    refine am_e12f hi_181_279 (by decide) ?_
    refine am_e2 (v := 39) hi_181_282 rfl ?_
    refine am_e0 hi_181_283 ?_
    refine am_e32n (as := [.ref 39, .int 59]) (la := [some (.ref 39), some (.int 59)]) (rest := []) hi_181_285 (am_hd0 (M := 181) (by decide) 285) (Nat.le_of_ble_eq_true rfl) (Nat.le_of_ble_eq_true rfl) (show 2 ≤ am_P0.2.2.1 200 from by decide +kernel) rfl (am_recv_ok hS24.fs) rfl rfl (ct_take (d := (d + 4)) hS24   (by show (0 : Int) ≤ z21.toInt; omega) (by show (f 0).toInt ≤ (16384 : Int); omega) (by show (0 : Int) ≤ (59 : Int); omega)) ?_
    rintro v35 S36 (⟨z37, hv38, hS39, h40, h41⟩ | ⟨a43, b44, hv45, hS46⟩)
    · subst hv38
      have h40_ : z37.toInt = z21.toInt + 1 := h40
      have h41_ : z21.toInt < (f 0).toInt := h41
      replace hS39 : MS S0 S36 (upd (upd (upd (upd (upd (upd f 4 z37) 5 y22) 15 z15) 62 o2) 68 s3) 75 m4) g'5 := hS39
      have hR48 : RJ (upd (upd (upd (upd (upd (upd f 4 z37) 5 y22) 15 z15) 62 o2) 68 s3) 75 m4) g'5 gs bc [] 0 [] := RJ.at hR34 (by show z21.toInt ≤ z37.toInt; omega)
      show am_E _ _ _ _ [some (.ref 39), some (.int 36), some (.int on), some (.int tw)] [.int 1] _ _
      refine am_e12t hi_181_288 (by decide) ?_
      refine am_e2 (v := 39) hi_181_294 rfl ?_
      refine am_e0 hi_181_295 ?_
      refine am_e1 (v := on) hi_181_297 rfl ?_
      refine am_e1 (v := tw) hi_181_298 rfl ?_
      refine am_e0 hi_181_299 ?_
      refine am_e32n (as := [.ref 39, .int 37, .int on, .int tw, .int 0]) (la := [some (.ref 39), some (.int 37), some (.int on), some (.int tw), some (.int 0)]) (rest := []) hi_181_300 (am_hd0 (M := 181) (by decide) 300) (Nat.le_of_ble_eq_true rfl) (Nat.le_of_ble_eq_true rfl) (show 5 ≤ am_P0.2.2.1 179 from by decide +kernel) rfl (am_recv_ok hS39.fs) rfl rfl (ct_pile (d := (d + 6)) hS39 hR48 (mj_e_plain (by decide)) (by show (0 : Int) ≤ (f 10).toInt; omega) (by show (f 10).toInt ≤ (65535 : Int); omega)) ?_
      rintro v49 S50 (⟨z51, g'52, hv53, hS54, hR57, h55, h56⟩)
      subst hv53
      have h55_ : z51.toInt = (f 10).toInt + 1 := h55
      have h56_ : ∀ j, j ∉ [11, 12, 13, 14] → g'52 j = g'5 j := h56
      replace hS54 : MS S0 S50 (upd (upd (upd (upd (upd (upd (upd f 4 z37) 5 y22) 10 z51) 15 z15) 62 o2) 68 s3) 75 m4) g'52 := hS54
      have hR57_ : RJ (upd (upd (upd (upd (upd (upd (upd f 4 z37) 5 y22) 10 z51) 15 z15) 62 o2) 68 s3) 75 m4) g'52 (((37 : Int), on.toInt, tw.toInt, (0 : Int), []) :: gs) bc [] 0 [] := hR57
      show am_E _ _ _ _ [some (.ref 39), some (.int 36), some (.int on), some (.int tw)] [] _ _
      refine am_e2 (v := 39) hi_181_303 rfl ?_
      refine am_e0 hi_181_304 ?_
      refine am_e32w (as := [.ref 39, .int 0]) (la := [some (.ref 39), some (.int 0)]) (rest := []) hi_181_305 (am_hd0 (M := 181) (by decide) 305) (Nat.le_of_ble_eq_true rfl) (Nat.le_of_ble_eq_true rfl) (show 2 ≤ am_P0.2.2.1 186 from by decide +kernel) rfl (am_recv_ok hS54.fs) rfl rfl ?_
      refine am_e2 (v := 39) hi_186_0 rfl ?_
      refine am_e0 hi_186_1 ?_
      refine am_e1 (v := 0) hi_186_3 rfl ?_
      refine am_e0 hi_186_4 ?_
      refine am_e0 hi_186_5 ?_
      refine am_e32n (as := [.ref 39, .int 23, .int 0, .int 0, .int 0]) (la := [some (.ref 39), some (.int 23), some (.int 0), some (.int 0), some (.int 0)]) (rest := []) hi_186_6 (am_hd0 (M := 186) (by decide) 6) (Nat.le_of_ble_eq_true rfl) (Nat.le_of_ble_eq_true rfl) (show 5 ≤ am_P0.2.2.1 179 from by decide +kernel) rfl (am_recv_ok hS54.fs) rfl rfl (ct_pile (d := (d + 5)) hS54 hR57_ (mj_e_plain (by decide)) (by show (0 : Int) ≤ z51.toInt; omega) (by show z51.toInt ≤ (65535 : Int); omega)) ?_
      rintro v58 S59 (⟨z60, g'61, hv62, hS63, hR66, h64, h65⟩)
      subst hv62
      have h64_ : z60.toInt = z51.toInt + 1 := h64
      have h65_ : ∀ j, j ∉ [11, 12, 13, 14] → g'61 j = g'52 j := h65
      replace hS63 : MS S0 S59 (upd (upd (upd (upd (upd (upd (upd f 4 z37) 5 y22) 10 z60) 15 z15) 62 o2) 68 s3) 75 m4) g'61 := hS63
      have hR66_ : RJ (upd (upd (upd (upd (upd (upd (upd f 4 z37) 5 y22) 10 z60) 15 z15) 62 o2) 68 s3) 75 m4) g'61 (((23 : Int), (0 : Int), (0 : Int), (0 : Int), []) :: (((37 : Int), on.toInt, tw.toInt, (0 : Int), []) :: gs)) bc [] 0 [] := hR66
      show am_E _ _ _ _ [some (.ref 39), some (.int 0)] [] _ _
      refine am_e35 hi_186_9 ?_
      show am_E _ _ _ _ [some (.ref 39), some (.int 36), some (.int on), some (.int tw)] [] _ _
      refine am_e18 hi_181_308 ?_
      refine am_e35 hi_181_397 ?_
      show am_E _ _ _ _ [some (.ref 39), some (.int 36), some (.int on), some (.int tw), some (.int th)] [] _ _
      refine am_e35 hi_180_13 ?_
      have q1 : mg_p1 (((23 : Int), (0 : Int), (0 : Int), (0 : Int), []) :: (((37 : Int), on.toInt, tw.toInt, (0 : Int), []) :: gs)) = 0 + (0 + (mg_p1 gs)) := rfl
      have q2 : mg_p2 (((23 : Int), (0 : Int), (0 : Int), (0 : Int), []) :: (((37 : Int), on.toInt, tw.toInt, (0 : Int), []) :: gs)) = 0 + (0 + (mg_p2 gs)) := rfl
      have q3 : mg_p3 (((23 : Int), (0 : Int), (0 : Int), (0 : Int), []) :: (((37 : Int), on.toInt, tw.toInt, (0 : Int), []) :: gs)) = 1 + (1 + (mg_p3 gs)) := rfl
      have q4 : mg_p4 (((23 : Int), (0 : Int), (0 : Int), (0 : Int), []) :: (((37 : Int), on.toInt, tw.toInt, (0 : Int), []) :: gs)) = 0 + (0 + (mg_p4 gs)) := rfl
      refine ⟨_, _, _, bc, rfl, hS63, Or.inl ⟨⟨hR66_, ?_, ?_⟩, rfl, ?_⟩⟩
      · exact (⟨⟨(show mg_k 23 from by decide), (show (0 : Int) ≤ z15.toInt from by omega), (show 0 ≤ (f 20).toInt from by omega), (show 1 ≤ (f 37).toInt from by omega), (show 0 ≤ (f 32).toInt from by omega), (show (f 32).toInt ≤ y22.toInt from by omega), (show y22.toInt ≤ 48 from by omega), (show (f 37).toInt ≤ 2 * (y22.toInt) + 2 from by omega), (show 0 ≤ (0 : Int) from by omega)⟩, ⟨⟨(show mg_k 37 from by decide), (show (1 : Int) ≤ z15.toInt + 1 from by omega), (show 0 ≤ (f 20).toInt from by omega), (show 1 ≤ (f 37).toInt + 0 from by omega), (show 0 ≤ (f 32).toInt + 0 from by omega), (show (f 32).toInt + 0 ≤ y22.toInt + 0 from by omega), (show y22.toInt + 0 ≤ 48 from by omega), (show (f 37).toInt + 0 ≤ 2 * (y22.toInt + 0) + 2 from by omega), trivial⟩, mg_cast (mg_good_ext _ _ _ _ _ _ (fun i _ => by show g'61 34 i = g 34 i; rw [show g'61 34 = g'52 34 from h65_ 34 (by decide), show g'52 34 = g'5 34 from h56_ 34 (by decide), show g'5 34 = g 34 from h13_ 34 (by decide)]) (fun i _ => by show g'61 38 i = g 38 i; rw [show g'61 38 = g'52 38 from h65_ 38 (by decide), show g'52 38 = g'5 38 from h56_ 38 (by decide), show g'5 38 = g 38 from h13_ 38 (by decide)]) (fun i _ => by show g'61 23 i = g 23 i; rw [show g'61 23 = g'52 23 from h65_ 23 (by decide), show g'52 23 = g'5 23 from h56_ 23 (by decide), show g'5 23 = g 23 from h13_ 23 (by decide)]) hrest) (by show (f 15).toInt + -1 = z15.toInt + 1 + -1; omega) (by show (f 20).toInt = (f 20).toInt; omega) (by show (f 37).toInt + 0 = (f 37).toInt + 0 + 0; omega) (by show (f 32).toInt + 0 = (f 32).toInt + 0 + 0; omega) (by show (f 5).toInt + -2 = y22.toInt + 0 + -1; omega)⟩⟩ : mg_good (g'61 34) (g'61 38) (g'61 23) (((23 : Int), (0 : Int), (0 : Int), (0 : Int), []) :: (((37 : Int), on.toInt, tw.toInt, (0 : Int), []) :: gs)) (z15.toInt) ((f 20).toInt) ((f 37).toInt) ((f 32).toInt) (y22.toInt))
      · exact ⟨(by show 0 ≤ z37.toInt; omega), (by show z37.toInt ≤ (f 0).toInt; omega), (by show (f 0).toInt ≤ 512; omega), (by show 0 ≤ (f 24).toInt; omega), (by show (f 24).toInt + (f 20).toInt + mg_p1 (((23 : Int), (0 : Int), (0 : Int), (0 : Int), []) :: (((37 : Int), on.toInt, tw.toInt, (0 : Int), []) :: gs)) ≤ 4 * z37.toInt; omega), (by show (f 20).toInt ≤ z37.toInt; omega), (by show z15.toInt + mg_p2 (((23 : Int), (0 : Int), (0 : Int), (0 : Int), []) :: (((37 : Int), on.toInt, tw.toInt, (0 : Int), []) :: gs)) ≤ z37.toInt; omega), (by show mg_p3 (((23 : Int), (0 : Int), (0 : Int), (0 : Int), []) :: (((37 : Int), on.toInt, tw.toInt, (0 : Int), []) :: gs)) ≤ 20 * z37.toInt + 20; omega), (by show 0 ≤ s3.toInt; omega), (by show s3.toInt + 3 * (f 20).toInt + mg_p4 (((23 : Int), (0 : Int), (0 : Int), (0 : Int), []) :: (((37 : Int), on.toInt, tw.toInt, (0 : Int), []) :: gs)) ≤ 60 * z37.toInt + 60; omega), (by show 0 ≤ o2.toInt; omega), (by show o2.toInt + 64 * mj_n (g'61 16) z15.toNatClampNeg 3 ≤ 64 * z37.toInt; rw [show g'61 16 = g'52 16 from h65_ 16 (by decide), show g'52 16 = g'5 16 from h56_ 16 (by decide)]; omega), (by show 0 ≤ (f 44).toInt; omega), (by show (f 44).toInt ≤ z37.toInt; omega), (by show 0 ≤ (f 48).toInt; omega), (by show (f 48).toInt ≤ z37.toInt; omega), (by show 1 ≤ (f 53).toInt; omega), (by show (f 53).toInt ≤ z37.toInt + 1; omega), (by show 0 ≤ (f 19).toInt; omega), (by show (f 19).toInt ≤ 600; omega)⟩
      · show 100 * ((f 0).toInt - z37.toInt) + mg_p3 (((23 : Int), (0 : Int), (0 : Int), (0 : Int), []) :: (((37 : Int), on.toInt, tw.toInt, (0 : Int), []) :: gs)) < 100 * ((f 0).toInt - (f 4).toInt) + (1 + mg_p3 gs); omega
    · subst hv45
      replace hS46 : MS S0 S36 (upd (upd (upd (upd (upd (upd (upd (upd (upd f 4 z21) 5 y22) 6 a43) 7 b44) 10 0) 15 z15) 62 o2) 68 s3) 75 m4) g'5 := hS46
      have hR67 := rj_clear0 hR34
      have hR68 : RJ (upd (upd (upd (upd (upd (upd (upd (upd (upd f 4 z21) 5 y22) 6 a43) 7 b44) 10 0) 15 z15) 62 o2) 68 s3) 75 m4) g'5 [] bc [] 0 [] := hR67
      show am_E _ _ _ _ [some (.ref 39), some (.int 36), some (.int on), some (.int tw)] [.int 0] _ _
      refine am_e12f hi_181_288 (by decide) ?_
      refine am_e18 hi_181_291 ?_
      refine am_e35 hi_181_397 ?_
      show am_E _ _ _ _ [some (.ref 39), some (.int 36), some (.int on), some (.int tw), some (.int th)] [] _ _
      refine am_e35 hi_180_13 ?_
      have hRc := rj_clear0 hR68
      refine ⟨_, _, [], _, rfl, hS46, Or.inr ⟨hRc, rfl, (by show 0 ≤ z21.toInt; omega), (by show z21.toInt ≤ (f 0).toInt; omega), (by show 0 ≤ (f 32).toInt; omega), (by show (f 32).toInt ≤ 63; omega), (by show 1 ≤ (f 53).toInt; omega), (by show (f 53).toInt ≤ 600; omega), (by show 0 ≤ s3.toInt; omega), (by show s3.toInt ≤ 60000; omega), (by show 0 ≤ (f 48).toInt; omega), (by show (f 48).toInt ≤ 8000; omega), (by show 0 ≤ (f 37).toInt; omega), (by show (f 37).toInt ≤ 128; omega), (by show 0 ≤ o2.toInt; omega), (by show o2.toInt ≤ 65000; omega), (by show 0 ≤ (f 19).toInt; omega), (by show (f 19).toInt ≤ 600; omega)⟩⟩
  · subst hv31
    replace hS32 : MS S0 S20 (upd (upd (upd (upd (upd (upd (upd f 6 a29) 7 b30) 10 0) 15 z15) 62 o2) 68 s3) 75 m4) g'5 := hS32
    have hR69 := rj_clear0 hR14_
    have hR70 : RJ (upd (upd (upd (upd (upd (upd (upd f 6 a29) 7 b30) 10 0) 15 z15) 62 o2) 68 s3) 75 m4) g'5 [] bc [] 0 [] := hR69
    show am_E _ _ _ _ [some (.ref 39), some (.int 36), some (.int on), some (.int tw)] [.int 0] _ _
    refine am_e12t hi_181_279 (by decide) ?_
    refine am_e35 hi_181_397 ?_
    show am_E _ _ _ _ [some (.ref 39), some (.int 36), some (.int on), some (.int tw), some (.int th)] [] _ _
    refine am_e35 hi_180_13 ?_
    have hRc := rj_clear0 hR70
    refine ⟨_, _, [], _, rfl, hS32, Or.inr ⟨hRc, rfl, (by show 0 ≤ (f 4).toInt; omega), (by show (f 4).toInt ≤ (f 0).toInt; omega), (by show 0 ≤ (f 32).toInt; omega), (by show (f 32).toInt ≤ 63; omega), (by show 1 ≤ (f 53).toInt; omega), (by show (f 53).toInt ≤ 600; omega), (by show 0 ≤ s3.toInt; omega), (by show s3.toInt ≤ 60000; omega), (by show 0 ≤ (f 48).toInt; omega), (by show (f 48).toInt ≤ 8000; omega), (by show 0 ≤ (f 37).toInt; omega), (by show (f 37).toInt ≤ 128; omega), (by show 0 ≤ o2.toInt; omega), (by show o2.toInt ≤ 65000; omega), (by show 0 ≤ (f 19).toInt; omega), (by show (f 19).toInt ≤ 600; omega)⟩⟩
theorem st_37 {sc : Nat × (Nat → Int32)} {d : Nat} {S0 S : am_S} {f : Nat → Int32} {g : Nat → Nat → Int32} {on : Int32} {tw : Int32} {th : Int32} {gs : List mg_E} {bc : List (List Nat)} (hS : MS S0 S f g) (hR : RJ f g gs bc [] 0 []) (hrest : mg_good (g 34) (g 38) (g 23) gs ((f 15).toInt + -1) ((f 20).toInt) ((f 37).toInt + 0) ((f 32).toInt + 0) ((f 5).toInt + -1)) (p0 : 0 ≤ (f 4).toInt) (p1 : (f 4).toInt ≤ (f 0).toInt) (p2 : (f 0).toInt ≤ 512) (p3 : 0 ≤ (f 24).toInt) (p4 : (f 24).toInt + (f 20).toInt + mg_p1 gs ≤ 4 * (f 4).toInt) (p5 : (f 20).toInt ≤ (f 4).toInt) (p6 : (f 15).toInt + 0 + mg_p2 gs ≤ (f 4).toInt) (p7 : 1 + mg_p3 gs ≤ 20 * (f 4).toInt + 20) (p8 : 0 ≤ (f 68).toInt) (p9 : (f 68).toInt + 3 * (f 20).toInt + 0 + mg_p4 gs ≤ 60 * (f 4).toInt + 60) (p10 : 0 ≤ (f 62).toInt) (p11 : (f 62).toInt + 64 * mj_n (g 16) (f 15).toNatClampNeg 3 ≤ 64 * (f 4).toInt) (p12 : 0 ≤ (f 44).toInt) (p13 : (f 44).toInt ≤ (f 4).toInt) (p14 : 0 ≤ (f 48).toInt) (p15 : (f 48).toInt ≤ (f 4).toInt) (p16 : 1 ≤ (f 53).toInt) (p17 : (f 53).toInt ≤ (f 4).toInt + 1) (p18 : 0 ≤ (f 19).toInt) (p19 : (f 19).toInt ≤ 600) (p20 : 0 ≤ mg_p1 gs) (p21 : 0 ≤ mg_p2 gs) (p22 : 0 ≤ mg_p4 gs) (p23 : 0 ≤ (f 10).toInt) (p24 : (f 10).toInt ≤ mg_p3 gs) (p25 : 0 ≤ mj_n (g 16) (f 15).toNatClampNeg 3) (p26 : 1 ≤ (f 15).toInt) (p27 : 0 ≤ (f 20).toInt) (p28 : 1 ≤ (f 37).toInt) (p29 : 0 ≤ (f 32).toInt) (p30 : (f 32).toInt ≤ (f 5).toInt) (p31 : (f 5).toInt ≤ 48) (p32 : (f 37).toInt ≤ 2 * (f 5).toInt + 2) : am_E (am_PP sc) (d + 8) 180 0 [some (.ref 39), some (.int 37), some (.int on), some (.int tw), some (.int th)] [] S (am_N fun v S1 => ∃ (f' : Nat → Int32) (g' : Nat → Nat → Int32) (gs' : List mg_E) (bc' : List (List Nat)), v = none ∧ MS S0 S1 f' g' ∧ (mg_on f (100 * ((f 0).toInt - (f 4).toInt) + (1 + mg_p3 gs)) f' g' gs' bc' ∨ mg_off f f' g' bc')) := by
  have hbs := mg_basic hrest
  refine am_e1 (v := 37) hi_180_0 rfl ?_
  refine am_e0 hi_180_1 ?_
  refine am_e13f hi_180_3 (by decide) ?_
  refine am_e2 (v := 39) hi_180_6 rfl ?_
  refine am_e1 (v := 37) hi_180_7 rfl ?_
  refine am_e1 (v := on) hi_180_8 rfl ?_
  refine am_e1 (v := tw) hi_180_9 rfl ?_
  refine am_e32w (as := [.ref 39, .int 37, .int on, .int tw]) (la := [some (.ref 39), some (.int 37), some (.int on), some (.int tw)]) (rest := []) hi_180_10 (am_hd0 (M := 180) (by decide) 10) (Nat.le_of_ble_eq_true rfl) (Nat.le_of_ble_eq_true rfl) (show 4 ≤ am_P0.2.2.1 181 from by decide +kernel) rfl (am_recv_ok hS.fs) rfl rfl ?_
  refine am_e1 (v := 37) hi_181_0 rfl ?_
  refine am_e19 (t := 311) hi_181_1 (by decide) ?_
  refine am_e2 (v := 39) hi_181_311 rfl ?_
  refine am_e32w (as := [.ref 39]) (la := [some (.ref 39)]) (rest := []) hi_181_312 (am_hd0 (M := 181) (by decide) 312) (Nat.le_of_ble_eq_true rfl) (Nat.le_of_ble_eq_true rfl) (show 1 ≤ am_P0.2.2.1 209 from by decide +kernel) rfl (am_recv_ok hS.fs) rfl rfl ?_
  refine am_e2 (v := 39) hi_209_0 rfl ?_
  refine am_e32n (as := [.ref 39]) (la := [some (.ref 39), none, none, none]) (rest := []) hi_209_1 (am_hd0 (M := 209) (by decide) 1) (Nat.le_of_ble_eq_true rfl) (Nat.le_of_ble_eq_true rfl) (show 1 ≤ am_P0.2.2.1 204 from by decide +kernel) rfl (am_recv_ok hS.fs) rfl rfl (ct_load (d := (d + 3)) hS hR  (by show (0 : Int) ≤ (f 32).toInt; omega) (by show (f 32).toInt ≤ (63 : Int); omega) (by show (f 53).toInt ≤ (4096 : Int); omega) (by show (0 : Int) ≤ (f 68).toInt; omega) (by show (f 68).toInt ≤ (65534 : Int); omega) (by show (1 : Int) ≤ (f 15).toInt; omega) (by show (f 15).toInt ≤ (32767 : Int); omega) (by show (0 : Int) ≤ (f 24).toInt; omega) (by show (f 24).toInt ≤ (16384 : Int); omega) (by show (0 : Int) ≤ (f 62).toInt; omega) (by show (f 62).toInt ≤ (65000 : Int); omega)) ?_
  rintro v0 S1 (⟨o2, s3, m4, g'5, hv6, hS7, hR14, h8, h9, h10, h11, h12, h13⟩)
  subst hv6
  have h8_ : (f 62).toInt ≤ o2.toInt := h8
  have h9_ : o2.toInt ≤ (f 62).toInt + 64 := h9
  have h10_ : (f 68).toInt ≤ s3.toInt := h10
  have h11_ : s3.toInt ≤ (f 68).toInt + 1 := h11
  have h12_ : o2.toInt + 64 * mj_n (g'5 16) (f 15).toNatClampNeg 3 ≤ (f 62).toInt + 64 * mj_n (g 16) (f 15).toNatClampNeg 3 := h12
  have h13_ : ∀ j, j ∉ [16, 60, 63, 64, 65, 66, 67, 69, 70, 71, 72, 73] → g'5 j = g j := h13
  have hR14_ : RJ (upd (upd (upd f 62 o2) 68 s3) 75 m4) g'5 gs bc [] 0 [] := hR14
  show am_E _ _ _ _ [some (.ref 39)] [] _ _
  refine am_e2 (v := 39) hi_209_4 rfl ?_
  refine am_e7 hi_209_5 ?_
  refine mm_20 (v := .int (f 15)) hS7 hi_209_6 rfl ?_
  refine am_e0 hi_209_9 ?_
  obtain ⟨z15, hz15, tz15⟩ := am_subI (x := f 15) (y := 1) (m := (f 15).toInt) (n := (1 : Int)) rfl (by decide) (by omega) (by omega)
  refine am_e10 (z := z15) hi_209_10 hz15 ?_
  refine mm_21 (v := z15) hS7 hi_209_11 rfl (Nat.le_of_ble_eq_true rfl) ms_15 ?_
  intro S16 hS17
  replace hS17 : MS S0 S16 (upd (upd (upd (upd f 15 z15) 62 o2) 68 s3) 75 m4) g'5 := hS17
  have hp18 : mj_n (g'5 16) (f 15).toNatClampNeg 3 = mj_n (g'5 16) z15.toNatClampNeg 3 + if (g'5 16 z15.toNatClampNeg).toInt = 3 then 1 else 0 := mj_pop (by rw [cl_toNat, cl_toNat]; omega)
  have hp181 : mj_n (g'5 16) z15.toNatClampNeg 3 ≤ mj_n (g'5 16) (f 15).toNatClampNeg 3 := by rw [hp18]; split <;> omega
  have hp182 : (g'5 16 z15.toNatClampNeg).toInt = 3 → mj_n (g'5 16) z15.toNatClampNeg 3 + 1 ≤ mj_n (g'5 16) (f 15).toNatClampNeg 3 := fun q => by rw [hp18, if_pos q]; exact Int.le_refl _
  refine am_e35 hi_209_14 ?_
  show am_E _ _ _ _ [some (.ref 39), some (.int 37), some (.int on), some (.int tw)] [] _ _
  refine am_e2 (v := 39) hi_181_315 rfl ?_
  refine am_e0 hi_181_316 ?_
  refine am_e0 hi_181_318 ?_
  refine am_e0 hi_181_319 ?_
  refine am_e1 (v := tw) hi_181_320 rfl ?_
  refine am_e32n (as := [.ref 39, .int 21, .int 0, .int 0, .int tw]) (la := [some (.ref 39), some (.int 21), some (.int 0), some (.int 0), some (.int tw)]) (rest := []) hi_181_321 (am_hd0 (M := 181) (by decide) 321) (Nat.le_of_ble_eq_true rfl) (Nat.le_of_ble_eq_true rfl) (show 5 ≤ am_P0.2.2.1 189 from by decide +kernel) rfl (am_recv_ok hS17.fs) rfl rfl (ct_put (d := (d + 6)) hS17 hR14_  (by show (0 : Int) ≤ (f 32).toInt; omega) (by show (f 32).toInt ≤ (63 : Int); omega) (by show (f 53).toInt ≤ (4096 : Int); omega) (by show (0 : Int) ≤ s3.toInt; omega) (by show s3.toInt ≤ (65534 : Int); omega)) ?_
  rintro v19 S20 (⟨z21, r22, g'23, hv24, hS25, hR29, h26, h27, h28⟩)
  subst hv24
  have h26_ : z21.toInt = s3.toInt + 1 := h26
  have h27_ : r22.toInt = s3.toInt := h27
  have h28_ : ∀ j, j ∉ [60, 69, 70, 71, 72, 73] → g'23 j = g'5 j := h28
  replace hS25 : MS S0 S20 (upd (upd (upd (upd f 15 z15) 62 o2) 68 z21) 75 m4) g'23 := hS25
  have hR29_ : RJ (upd (upd (upd (upd f 15 z15) 62 o2) 68 z21) 75 m4) g'23 gs bc [] 0 (s3.toNatClampNeg :: []) := hR29
  show am_E _ _ _ _ [some (.ref 39), some (.int 37), some (.int on), some (.int tw)] [.int r22] _ _
  refine am_e6i hi_181_324 ?_
  refine am_e2 (v := 39) hi_181_325 rfl ?_
  refine am_e1 (v := on) hi_181_326 rfl ?_
  refine am_e32w (as := [.ref 39, .int on]) (la := [some (.ref 39), some (.int on)]) (rest := []) hi_181_327 (am_hd0 (M := 181) (by decide) 327) (Nat.le_of_ble_eq_true rfl) (Nat.le_of_ble_eq_true rfl) (show 2 ≤ am_P0.2.2.1 220 from by decide +kernel) rfl (am_recv_ok hS25.fs) rfl rfl ?_
  refine am_e2 (v := 39) hi_220_0 rfl ?_
  refine am_e32n (as := [.ref 39]) (la := [some (.ref 39)]) (rest := []) hi_220_1 (am_hd0 (M := 220) (by decide) 1) (Nat.le_of_ble_eq_true rfl) (Nat.le_of_ble_eq_true rfl) (show 1 ≤ am_P0.2.2.1 183 from by decide +kernel) rfl (am_recv_ok hS25.fs) rfl rfl (ct_next (d := (d + 4)) hS25   (by show (0 : Int) ≤ (f 4).toInt; omega) (by show (f 0).toInt ≤ (16384 : Int); omega)) ?_
  rintro v30 S31 (⟨r32, hv33, hS34, h35⟩)
  subst hv33
  have h35_ : (f 4).toInt < (f 0).toInt ∨ r32.toInt = (-1 : Int) := h35
  show am_E _ _ _ _ [some (.ref 39), some (.int on)] [.int r32] _ _
  refine am_e0 hi_220_4 ?_
  by_cases c37 : r32.toInt = (69 : Int)
  · refine am_e13t hi_220_6 (am_cT (m := r32.toInt) (n := (69 : Int)) rfl (by decide) c37) ?_
    refine am_e2 (v := 39) hi_220_18 rfl ?_
    refine am_e7 hi_220_19 ?_
    refine mm_20 (v := .int (f 4)) hS34 hi_220_20 rfl ?_
    refine am_e0 hi_220_23 ?_
    obtain ⟨z38, hz38, tz38⟩ := am_addI (x := f 4) (y := 1) (m := (f 4).toInt) (n := (1 : Int)) rfl (by decide) (by omega) (by omega)
    refine am_e10 (z := z38) hi_220_24 hz38 ?_
    refine mm_21 (v := z38) hS34 hi_220_25 rfl (Nat.le_of_ble_eq_true rfl) ms_4 ?_
    intro S39 hS40
    replace hS40 : MS S0 S39 (upd (upd (upd (upd (upd f 4 z38) 15 z15) 62 o2) 68 z21) 75 m4) g'23 := hS40
    have hR41 : RJ (upd (upd (upd (upd (upd f 4 z38) 15 z15) 62 o2) 68 z21) 75 m4) g'23 gs bc [] 0 (s3.toNatClampNeg :: []) := RJ.at hR29_ (by show (f 4).toInt ≤ z38.toInt; omega)
    refine am_e2 (v := 39) hi_220_28 rfl ?_
    refine am_e0 hi_220_29 ?_
    refine am_e1 (v := on) hi_220_31 rfl ?_
    refine am_e0 hi_220_32 ?_
    refine am_e0 hi_220_33 ?_
    refine am_e32n (as := [.ref 39, .int 35, .int on, .int 0, .int 0]) (la := [some (.ref 39), some (.int 35), some (.int on), some (.int 0), some (.int 0)]) (rest := []) hi_220_34 (am_hd0 (M := 220) (by decide) 34) (Nat.le_of_ble_eq_true rfl) (Nat.le_of_ble_eq_true rfl) (show 5 ≤ am_P0.2.2.1 179 from by decide +kernel) rfl (am_recv_ok hS40.fs) rfl rfl (ct_pile (d := (d + 5)) hS40 hR41 (mj_e_plain (by decide)) (by show (0 : Int) ≤ (f 10).toInt; omega) (by show (f 10).toInt ≤ (65535 : Int); omega)) ?_
    rintro v42 S43 (⟨z44, g'45, hv46, hS47, hR50, h48, h49⟩)
    subst hv46
    have h48_ : z44.toInt = (f 10).toInt + 1 := h48
    have h49_ : ∀ j, j ∉ [11, 12, 13, 14] → g'45 j = g'23 j := h49
    replace hS47 : MS S0 S43 (upd (upd (upd (upd (upd (upd f 4 z38) 10 z44) 15 z15) 62 o2) 68 z21) 75 m4) g'45 := hS47
    have hR50_ : RJ (upd (upd (upd (upd (upd (upd f 4 z38) 10 z44) 15 z15) 62 o2) 68 z21) 75 m4) g'45 (((35 : Int), on.toInt, (0 : Int), (0 : Int), []) :: gs) bc [] 0 (s3.toNatClampNeg :: []) := hR50
    show am_E _ _ _ _ [some (.ref 39), some (.int on)] [] _ _
    refine am_e18 hi_220_37 ?_
    refine am_e35 hi_220_47 ?_
    show am_E _ _ _ _ [some (.ref 39), some (.int 37), some (.int on), some (.int tw)] [] _ _
    refine am_e18 hi_181_330 ?_
    refine am_e35 hi_181_397 ?_
    show am_E _ _ _ _ [some (.ref 39), some (.int 37), some (.int on), some (.int tw), some (.int th)] [] _ _
    refine am_e35 hi_180_13 ?_
    have q1 : mg_p1 (((35 : Int), on.toInt, (0 : Int), (0 : Int), []) :: gs) = 0 + (mg_p1 gs) := rfl
    have q2 : mg_p2 (((35 : Int), on.toInt, (0 : Int), (0 : Int), []) :: gs) = 0 + (mg_p2 gs) := rfl
    have q3 : mg_p3 (((35 : Int), on.toInt, (0 : Int), (0 : Int), []) :: gs) = 3 + (mg_p3 gs) := rfl
    have q4 : mg_p4 (((35 : Int), on.toInt, (0 : Int), (0 : Int), []) :: gs) = 0 + (mg_p4 gs) := rfl
    refine ⟨_, _, _, bc, rfl, hS47, Or.inl ⟨⟨(RJ.fewer (pj' := []) hR50_ (fun _ h => nomatch h)), ?_, ?_⟩, rfl, ?_⟩⟩
    · exact (⟨⟨(show mg_k 35 from by decide), (show (0 : Int) ≤ z15.toInt from by omega), (show 0 ≤ (f 20).toInt from by omega), (show 1 ≤ (f 37).toInt from by omega), (show 0 ≤ (f 32).toInt from by omega), (show (f 32).toInt ≤ (f 5).toInt from by omega), (show (f 5).toInt ≤ 48 from by omega), (show (f 37).toInt ≤ 2 * ((f 5).toInt) + 2 from by omega), trivial⟩, mg_cast (mg_good_ext _ _ _ _ _ _ (fun i _ => by show g'45 34 i = g 34 i; rw [show g'45 34 = g'23 34 from h49_ 34 (by decide), show g'23 34 = g'5 34 from h28_ 34 (by decide), show g'5 34 = g 34 from h13_ 34 (by decide)]) (fun i _ => by show g'45 38 i = g 38 i; rw [show g'45 38 = g'23 38 from h49_ 38 (by decide), show g'23 38 = g'5 38 from h28_ 38 (by decide), show g'5 38 = g 38 from h13_ 38 (by decide)]) (fun i _ => by show g'45 23 i = g 23 i; rw [show g'45 23 = g'23 23 from h49_ 23 (by decide), show g'23 23 = g'5 23 from h28_ 23 (by decide), show g'5 23 = g 23 from h13_ 23 (by decide)]) hrest) (by show (f 15).toInt + -1 = z15.toInt + 0; omega) (by show (f 20).toInt = (f 20).toInt; omega) (by show (f 37).toInt + 0 = (f 37).toInt + 0; omega) (by show (f 32).toInt + 0 = (f 32).toInt + 0; omega) (by show (f 5).toInt + -1 = (f 5).toInt + -1; omega)⟩ : mg_good (g'45 34) (g'45 38) (g'45 23) (((35 : Int), on.toInt, (0 : Int), (0 : Int), []) :: gs) (z15.toInt) ((f 20).toInt) ((f 37).toInt) ((f 32).toInt) ((f 5).toInt))
    · exact ⟨(by show 0 ≤ z38.toInt; omega), (by show z38.toInt ≤ (f 0).toInt; omega), (by show (f 0).toInt ≤ 512; omega), (by show 0 ≤ (f 24).toInt; omega), (by show (f 24).toInt + (f 20).toInt + mg_p1 (((35 : Int), on.toInt, (0 : Int), (0 : Int), []) :: gs) ≤ 4 * z38.toInt; omega), (by show (f 20).toInt ≤ z38.toInt; omega), (by show z15.toInt + mg_p2 (((35 : Int), on.toInt, (0 : Int), (0 : Int), []) :: gs) ≤ z38.toInt; omega), (by show mg_p3 (((35 : Int), on.toInt, (0 : Int), (0 : Int), []) :: gs) ≤ 20 * z38.toInt + 20; omega), (by show 0 ≤ z21.toInt; omega), (by show z21.toInt + 3 * (f 20).toInt + mg_p4 (((35 : Int), on.toInt, (0 : Int), (0 : Int), []) :: gs) ≤ 60 * z38.toInt + 60; omega), (by show 0 ≤ o2.toInt; omega), (by show o2.toInt + 64 * mj_n (g'45 16) z15.toNatClampNeg 3 ≤ 64 * z38.toInt; rw [show g'45 16 = g'23 16 from h49_ 16 (by decide), show g'23 16 = g'5 16 from h28_ 16 (by decide)]; omega), (by show 0 ≤ (f 44).toInt; omega), (by show (f 44).toInt ≤ z38.toInt; omega), (by show 0 ≤ (f 48).toInt; omega), (by show (f 48).toInt ≤ z38.toInt; omega), (by show 1 ≤ (f 53).toInt; omega), (by show (f 53).toInt ≤ z38.toInt + 1; omega), (by show 0 ≤ (f 19).toInt; omega), (by show (f 19).toInt ≤ 600; omega)⟩
    · show 100 * ((f 0).toInt - z38.toInt) + mg_p3 (((35 : Int), on.toInt, (0 : Int), (0 : Int), []) :: gs) < 100 * ((f 0).toInt - (f 4).toInt) + (1 + mg_p3 gs); omega
  · refine am_e13f hi_220_6 (am_cF (m := r32.toInt) (n := (69 : Int)) rfl (by decide) c37) ?_
    refine am_e2 (v := 39) hi_220_9 rfl ?_
    refine am_e32n (as := [.ref 39]) (la := [some (.ref 39)]) (rest := []) hi_220_10 (am_hd0 (M := 220) (by decide) 10) (Nat.le_of_ble_eq_true rfl) (Nat.le_of_ble_eq_true rfl) (show 1 ≤ am_P0.2.2.1 183 from by decide +kernel) rfl (am_recv_ok hS34.fs) rfl rfl (ct_next (d := (d + 4)) hS34   (by show (0 : Int) ≤ (f 4).toInt; omega) (by show (f 0).toInt ≤ (16384 : Int); omega)) ?_
    rintro v51 S52 (⟨r53, hv54, hS55, h56⟩)
    subst hv54
    have h56_ : (f 4).toInt < (f 0).toInt ∨ r53.toInt = (-1 : Int) := h56
    show am_E _ _ _ _ [some (.ref 39), some (.int on)] [.int r53] _ _
    refine am_e0 hi_220_13 ?_
    by_cases c58 : ¬ r53.toInt = (67 : Int)
    · refine am_e13t hi_220_15 (am_cT (m := r53.toInt) (n := (67 : Int)) rfl (by decide) c58) ?_
      refine am_e2 (v := 39) hi_220_40 rfl ?_
      refine am_e0 hi_220_41 ?_
      refine am_e32n (as := [.ref 39, .int 63]) (la := [some (.ref 39), some (.int 63)]) (rest := []) hi_220_43 (am_hd0 (M := 220) (by decide) 43) (Nat.le_of_ble_eq_true rfl) (Nat.le_of_ble_eq_true rfl) (show 2 ≤ am_P0.2.2.1 199 from by decide +kernel) rfl (am_recv_ok hS55.fs) rfl rfl (ct_leave (d := (d + 2)) hS55   (by show (0 : Int) ≤ (f 4).toInt; omega) (by show (f 0).toInt ≤ (16384 : Int); omega) (by show (0 : Int) ≤ (63 : Int); omega) (by show (0 : Int) ≤ (f 5).toInt; omega) (by show (f 5).toInt ≤ (48 : Int); omega)) ?_
      rintro v59 S60 (⟨z61, y62, hv63, hS64, h65, h66, h67⟩ | ⟨a69, b70, hv71, hS72⟩)
      · subst hv63
        have h65_ : z61.toInt = (f 4).toInt + 1 := h65
        have h66_ : (f 4).toInt < (f 0).toInt := h66
        have h67_ : y62.toInt = (f 5).toInt - 1 := h67
        replace hS64 : MS S0 S60 (upd (upd (upd (upd (upd (upd f 4 z61) 5 y62) 15 z15) 62 o2) 68 z21) 75 m4) g'23 := hS64
        have hR74 : RJ (upd (upd (upd (upd (upd (upd f 4 z61) 5 y62) 15 z15) 62 o2) 68 z21) 75 m4) g'23 gs bc [] 0 (s3.toNatClampNeg :: []) := RJ.at hR29_ (by show (f 4).toInt ≤ z61.toInt; omega)
        show am_E _ _ _ _ [some (.ref 39), some (.int on)] [.int 1] _ _
        refine am_e6i hi_220_46 ?_
        refine am_e35 hi_220_47 ?_
        show am_E _ _ _ _ [some (.ref 39), some (.int 37), some (.int on), some (.int tw)] [] _ _
        refine am_e18 hi_181_330 ?_
        refine am_e35 hi_181_397 ?_
        show am_E _ _ _ _ [some (.ref 39), some (.int 37), some (.int on), some (.int tw), some (.int th)] [] _ _
        refine am_e35 hi_180_13 ?_
        have q1 : mg_p1 gs = mg_p1 gs := rfl
        have q2 : mg_p2 gs = mg_p2 gs := rfl
        have q3 : mg_p3 gs = mg_p3 gs := rfl
        have q4 : mg_p4 gs = mg_p4 gs := rfl
        refine ⟨_, _, _, bc, rfl, hS64, Or.inl ⟨⟨(RJ.fewer (pj' := []) hR74 (fun _ h => nomatch h)), ?_, ?_⟩, rfl, ?_⟩⟩
        · exact (mg_cast (mg_good_ext _ _ _ _ _ _ (fun i _ => by show g'23 34 i = g 34 i; rw [show g'23 34 = g'5 34 from h28_ 34 (by decide), show g'5 34 = g 34 from h13_ 34 (by decide)]) (fun i _ => by show g'23 38 i = g 38 i; rw [show g'23 38 = g'5 38 from h28_ 38 (by decide), show g'5 38 = g 38 from h13_ 38 (by decide)]) (fun i _ => by show g'23 23 i = g 23 i; rw [show g'23 23 = g'5 23 from h28_ 23 (by decide), show g'5 23 = g 23 from h13_ 23 (by decide)]) hrest) (by show (f 15).toInt + -1 = z15.toInt; omega) (by show (f 20).toInt = (f 20).toInt; omega) (by show (f 37).toInt + 0 = (f 37).toInt; omega) (by show (f 32).toInt + 0 = (f 32).toInt; omega) (by show (f 5).toInt + -1 = y62.toInt; omega) : mg_good (g'23 34) (g'23 38) (g'23 23) gs (z15.toInt) ((f 20).toInt) ((f 37).toInt) ((f 32).toInt) (y62.toInt))
        · exact ⟨(by show 0 ≤ z61.toInt; omega), (by show z61.toInt ≤ (f 0).toInt; omega), (by show (f 0).toInt ≤ 512; omega), (by show 0 ≤ (f 24).toInt; omega), (by show (f 24).toInt + (f 20).toInt + mg_p1 gs ≤ 4 * z61.toInt; omega), (by show (f 20).toInt ≤ z61.toInt; omega), (by show z15.toInt + mg_p2 gs ≤ z61.toInt; omega), (by show mg_p3 gs ≤ 20 * z61.toInt + 20; omega), (by show 0 ≤ z21.toInt; omega), (by show z21.toInt + 3 * (f 20).toInt + mg_p4 gs ≤ 60 * z61.toInt + 60; omega), (by show 0 ≤ o2.toInt; omega), (by show o2.toInt + 64 * mj_n (g'23 16) z15.toNatClampNeg 3 ≤ 64 * z61.toInt; rw [show g'23 16 = g'5 16 from h28_ 16 (by decide)]; omega), (by show 0 ≤ (f 44).toInt; omega), (by show (f 44).toInt ≤ z61.toInt; omega), (by show 0 ≤ (f 48).toInt; omega), (by show (f 48).toInt ≤ z61.toInt; omega), (by show 1 ≤ (f 53).toInt; omega), (by show (f 53).toInt ≤ z61.toInt + 1; omega), (by show 0 ≤ (f 19).toInt; omega), (by show (f 19).toInt ≤ 600; omega)⟩
        · show 100 * ((f 0).toInt - z61.toInt) + mg_p3 gs < 100 * ((f 0).toInt - (f 4).toInt) + (1 + mg_p3 gs); omega
      · subst hv71
        replace hS72 : MS S0 S60 (upd (upd (upd (upd (upd (upd (upd f 6 a69) 7 b70) 10 0) 15 z15) 62 o2) 68 z21) 75 m4) g'23 := hS72
        have hR75 := rj_clear0 hR29_
        have hR76 : RJ (upd (upd (upd (upd (upd (upd (upd f 6 a69) 7 b70) 10 0) 15 z15) 62 o2) 68 z21) 75 m4) g'23 [] bc [] 0 [] := hR75
        show am_E _ _ _ _ [some (.ref 39), some (.int on)] [.int 0] _ _
        refine am_e6i hi_220_46 ?_
        refine am_e35 hi_220_47 ?_
        show am_E _ _ _ _ [some (.ref 39), some (.int 37), some (.int on), some (.int tw)] [] _ _
        refine am_e18 hi_181_330 ?_
        refine am_e35 hi_181_397 ?_
        show am_E _ _ _ _ [some (.ref 39), some (.int 37), some (.int on), some (.int tw), some (.int th)] [] _ _
        refine am_e35 hi_180_13 ?_
        have hRc := rj_clear0 hR76
        refine ⟨_, _, [], _, rfl, hS72, Or.inr ⟨hRc, rfl, (by show 0 ≤ (f 4).toInt; omega), (by show (f 4).toInt ≤ (f 0).toInt; omega), (by show 0 ≤ (f 32).toInt; omega), (by show (f 32).toInt ≤ 63; omega), (by show 1 ≤ (f 53).toInt; omega), (by show (f 53).toInt ≤ 600; omega), (by show 0 ≤ z21.toInt; omega), (by show z21.toInt ≤ 60000; omega), (by show 0 ≤ (f 48).toInt; omega), (by show (f 48).toInt ≤ 8000; omega), (by show 0 ≤ (f 37).toInt; omega), (by show (f 37).toInt ≤ 128; omega), (by show 0 ≤ o2.toInt; omega), (by show o2.toInt ≤ 65000; omega), (by show 0 ≤ (f 19).toInt; omega), (by show (f 19).toInt ≤ 600; omega)⟩⟩
    · refine am_e13f hi_220_15 (am_cF (m := r53.toInt) (n := (67 : Int)) rfl (by decide) c58) ?_
      refine am_e2 (v := 39) hi_220_18 rfl ?_
      refine am_e7 hi_220_19 ?_
      refine mm_20 (v := .int (f 4)) hS55 hi_220_20 rfl ?_
      refine am_e0 hi_220_23 ?_
      obtain ⟨z77, hz77, tz77⟩ := am_addI (x := f 4) (y := 1) (m := (f 4).toInt) (n := (1 : Int)) rfl (by decide) (by omega) (by omega)
      refine am_e10 (z := z77) hi_220_24 hz77 ?_
      refine mm_21 (v := z77) hS55 hi_220_25 rfl (Nat.le_of_ble_eq_true rfl) ms_4 ?_
      intro S78 hS79
      replace hS79 : MS S0 S78 (upd (upd (upd (upd (upd f 4 z77) 15 z15) 62 o2) 68 z21) 75 m4) g'23 := hS79
      have hR80 : RJ (upd (upd (upd (upd (upd f 4 z77) 15 z15) 62 o2) 68 z21) 75 m4) g'23 gs bc [] 0 (s3.toNatClampNeg :: []) := RJ.at hR29_ (by show (f 4).toInt ≤ z77.toInt; omega)
      refine am_e2 (v := 39) hi_220_28 rfl ?_
      refine am_e0 hi_220_29 ?_
      refine am_e1 (v := on) hi_220_31 rfl ?_
      refine am_e0 hi_220_32 ?_
      refine am_e0 hi_220_33 ?_
      refine am_e32n (as := [.ref 39, .int 35, .int on, .int 0, .int 0]) (la := [some (.ref 39), some (.int 35), some (.int on), some (.int 0), some (.int 0)]) (rest := []) hi_220_34 (am_hd0 (M := 220) (by decide) 34) (Nat.le_of_ble_eq_true rfl) (Nat.le_of_ble_eq_true rfl) (show 5 ≤ am_P0.2.2.1 179 from by decide +kernel) rfl (am_recv_ok hS79.fs) rfl rfl (ct_pile (d := (d + 5)) hS79 hR80 (mj_e_plain (by decide)) (by show (0 : Int) ≤ (f 10).toInt; omega) (by show (f 10).toInt ≤ (65535 : Int); omega)) ?_
      rintro v81 S82 (⟨z83, g'84, hv85, hS86, hR89, h87, h88⟩)
      subst hv85
      have h87_ : z83.toInt = (f 10).toInt + 1 := h87
      have h88_ : ∀ j, j ∉ [11, 12, 13, 14] → g'84 j = g'23 j := h88
      replace hS86 : MS S0 S82 (upd (upd (upd (upd (upd (upd f 4 z77) 10 z83) 15 z15) 62 o2) 68 z21) 75 m4) g'84 := hS86
      have hR89_ : RJ (upd (upd (upd (upd (upd (upd f 4 z77) 10 z83) 15 z15) 62 o2) 68 z21) 75 m4) g'84 (((35 : Int), on.toInt, (0 : Int), (0 : Int), []) :: gs) bc [] 0 (s3.toNatClampNeg :: []) := hR89
      show am_E _ _ _ _ [some (.ref 39), some (.int on)] [] _ _
      refine am_e18 hi_220_37 ?_
      refine am_e35 hi_220_47 ?_
      show am_E _ _ _ _ [some (.ref 39), some (.int 37), some (.int on), some (.int tw)] [] _ _
      refine am_e18 hi_181_330 ?_
      refine am_e35 hi_181_397 ?_
      show am_E _ _ _ _ [some (.ref 39), some (.int 37), some (.int on), some (.int tw), some (.int th)] [] _ _
      refine am_e35 hi_180_13 ?_
      have q1 : mg_p1 (((35 : Int), on.toInt, (0 : Int), (0 : Int), []) :: gs) = 0 + (mg_p1 gs) := rfl
      have q2 : mg_p2 (((35 : Int), on.toInt, (0 : Int), (0 : Int), []) :: gs) = 0 + (mg_p2 gs) := rfl
      have q3 : mg_p3 (((35 : Int), on.toInt, (0 : Int), (0 : Int), []) :: gs) = 3 + (mg_p3 gs) := rfl
      have q4 : mg_p4 (((35 : Int), on.toInt, (0 : Int), (0 : Int), []) :: gs) = 0 + (mg_p4 gs) := rfl
      refine ⟨_, _, _, bc, rfl, hS86, Or.inl ⟨⟨(RJ.fewer (pj' := []) hR89_ (fun _ h => nomatch h)), ?_, ?_⟩, rfl, ?_⟩⟩
      · exact (⟨⟨(show mg_k 35 from by decide), (show (0 : Int) ≤ z15.toInt from by omega), (show 0 ≤ (f 20).toInt from by omega), (show 1 ≤ (f 37).toInt from by omega), (show 0 ≤ (f 32).toInt from by omega), (show (f 32).toInt ≤ (f 5).toInt from by omega), (show (f 5).toInt ≤ 48 from by omega), (show (f 37).toInt ≤ 2 * ((f 5).toInt) + 2 from by omega), trivial⟩, mg_cast (mg_good_ext _ _ _ _ _ _ (fun i _ => by show g'84 34 i = g 34 i; rw [show g'84 34 = g'23 34 from h88_ 34 (by decide), show g'23 34 = g'5 34 from h28_ 34 (by decide), show g'5 34 = g 34 from h13_ 34 (by decide)]) (fun i _ => by show g'84 38 i = g 38 i; rw [show g'84 38 = g'23 38 from h88_ 38 (by decide), show g'23 38 = g'5 38 from h28_ 38 (by decide), show g'5 38 = g 38 from h13_ 38 (by decide)]) (fun i _ => by show g'84 23 i = g 23 i; rw [show g'84 23 = g'23 23 from h88_ 23 (by decide), show g'23 23 = g'5 23 from h28_ 23 (by decide), show g'5 23 = g 23 from h13_ 23 (by decide)]) hrest) (by show (f 15).toInt + -1 = z15.toInt + 0; omega) (by show (f 20).toInt = (f 20).toInt; omega) (by show (f 37).toInt + 0 = (f 37).toInt + 0; omega) (by show (f 32).toInt + 0 = (f 32).toInt + 0; omega) (by show (f 5).toInt + -1 = (f 5).toInt + -1; omega)⟩ : mg_good (g'84 34) (g'84 38) (g'84 23) (((35 : Int), on.toInt, (0 : Int), (0 : Int), []) :: gs) (z15.toInt) ((f 20).toInt) ((f 37).toInt) ((f 32).toInt) ((f 5).toInt))
      · exact ⟨(by show 0 ≤ z77.toInt; omega), (by show z77.toInt ≤ (f 0).toInt; omega), (by show (f 0).toInt ≤ 512; omega), (by show 0 ≤ (f 24).toInt; omega), (by show (f 24).toInt + (f 20).toInt + mg_p1 (((35 : Int), on.toInt, (0 : Int), (0 : Int), []) :: gs) ≤ 4 * z77.toInt; omega), (by show (f 20).toInt ≤ z77.toInt; omega), (by show z15.toInt + mg_p2 (((35 : Int), on.toInt, (0 : Int), (0 : Int), []) :: gs) ≤ z77.toInt; omega), (by show mg_p3 (((35 : Int), on.toInt, (0 : Int), (0 : Int), []) :: gs) ≤ 20 * z77.toInt + 20; omega), (by show 0 ≤ z21.toInt; omega), (by show z21.toInt + 3 * (f 20).toInt + mg_p4 (((35 : Int), on.toInt, (0 : Int), (0 : Int), []) :: gs) ≤ 60 * z77.toInt + 60; omega), (by show 0 ≤ o2.toInt; omega), (by show o2.toInt + 64 * mj_n (g'84 16) z15.toNatClampNeg 3 ≤ 64 * z77.toInt; rw [show g'84 16 = g'23 16 from h88_ 16 (by decide), show g'23 16 = g'5 16 from h28_ 16 (by decide)]; omega), (by show 0 ≤ (f 44).toInt; omega), (by show (f 44).toInt ≤ z77.toInt; omega), (by show 0 ≤ (f 48).toInt; omega), (by show (f 48).toInt ≤ z77.toInt; omega), (by show 1 ≤ (f 53).toInt; omega), (by show (f 53).toInt ≤ z77.toInt + 1; omega), (by show 0 ≤ (f 19).toInt; omega), (by show (f 19).toInt ≤ 600; omega)⟩
      · show 100 * ((f 0).toInt - z77.toInt) + mg_p3 (((35 : Int), on.toInt, (0 : Int), (0 : Int), []) :: gs) < 100 * ((f 0).toInt - (f 4).toInt) + (1 + mg_p3 gs); omega
theorem st_38 {sc : Nat × (Nat → Int32)} {d : Nat} {S0 S : am_S} {f : Nat → Int32} {g : Nat → Nat → Int32} {on : Int32} {tw : Int32} {th : Int32} {gs : List mg_E} {bc : List (List Nat)} (hS : MS S0 S f g) (hR : RJ f g gs bc [] 0 []) (hrest : mg_good (g 34) (g 38) (g 23) gs ((f 15).toInt + -1) ((f 20).toInt) ((f 37).toInt + 0) ((f 32).toInt + 0) ((f 5).toInt + -1)) (p0 : 0 ≤ (f 4).toInt) (p1 : (f 4).toInt ≤ (f 0).toInt) (p2 : (f 0).toInt ≤ 512) (p3 : 0 ≤ (f 24).toInt) (p4 : (f 24).toInt + (f 20).toInt + mg_p1 gs ≤ 4 * (f 4).toInt) (p5 : (f 20).toInt ≤ (f 4).toInt) (p6 : (f 15).toInt + 0 + mg_p2 gs ≤ (f 4).toInt) (p7 : 1 + mg_p3 gs ≤ 20 * (f 4).toInt + 20) (p8 : 0 ≤ (f 68).toInt) (p9 : (f 68).toInt + 3 * (f 20).toInt + 0 + mg_p4 gs ≤ 60 * (f 4).toInt + 60) (p10 : 0 ≤ (f 62).toInt) (p11 : (f 62).toInt + 64 * mj_n (g 16) (f 15).toNatClampNeg 3 ≤ 64 * (f 4).toInt) (p12 : 0 ≤ (f 44).toInt) (p13 : (f 44).toInt ≤ (f 4).toInt) (p14 : 0 ≤ (f 48).toInt) (p15 : (f 48).toInt ≤ (f 4).toInt) (p16 : 1 ≤ (f 53).toInt) (p17 : (f 53).toInt ≤ (f 4).toInt + 1) (p18 : 0 ≤ (f 19).toInt) (p19 : (f 19).toInt ≤ 600) (p20 : 0 ≤ mg_p1 gs) (p21 : 0 ≤ mg_p2 gs) (p22 : 0 ≤ mg_p4 gs) (p23 : 0 ≤ (f 10).toInt) (p24 : (f 10).toInt ≤ mg_p3 gs) (p25 : 0 ≤ mj_n (g 16) (f 15).toNatClampNeg 3) (p26 : 1 ≤ (f 15).toInt) (p27 : 0 ≤ (f 20).toInt) (p28 : 1 ≤ (f 37).toInt) (p29 : 0 ≤ (f 32).toInt) (p30 : (f 32).toInt ≤ (f 5).toInt) (p31 : (f 5).toInt ≤ 48) (p32 : (f 37).toInt ≤ 2 * (f 5).toInt + 2) (p33 : 0 ≤ tw.toInt) (p34 : tw.toInt ≤ 16000) : am_E (am_PP sc) (d + 8) 180 0 [some (.ref 39), some (.int 38), some (.int on), some (.int tw), some (.int th)] [] S (am_N fun v S1 => ∃ (f' : Nat → Int32) (g' : Nat → Nat → Int32) (gs' : List mg_E) (bc' : List (List Nat)), v = none ∧ MS S0 S1 f' g' ∧ (mg_on f (100 * ((f 0).toInt - (f 4).toInt) + (1 + mg_p3 gs)) f' g' gs' bc' ∨ mg_off f f' g' bc')) := by
  have hbs := mg_basic hrest
  refine am_e1 (v := 38) hi_180_0 rfl ?_
  refine am_e0 hi_180_1 ?_
  refine am_e13f hi_180_3 (by decide) ?_
  refine am_e2 (v := 39) hi_180_6 rfl ?_
  refine am_e1 (v := 38) hi_180_7 rfl ?_
  refine am_e1 (v := on) hi_180_8 rfl ?_
  refine am_e1 (v := tw) hi_180_9 rfl ?_
  refine am_e32w (as := [.ref 39, .int 38, .int on, .int tw]) (la := [some (.ref 39), some (.int 38), some (.int on), some (.int tw)]) (rest := []) hi_180_10 (am_hd0 (M := 180) (by decide) 10) (Nat.le_of_ble_eq_true rfl) (Nat.le_of_ble_eq_true rfl) (show 4 ≤ am_P0.2.2.1 181 from by decide +kernel) rfl (am_recv_ok hS.fs) rfl rfl ?_
  refine am_e1 (v := 38) hi_181_0 rfl ?_
  refine am_e19 (t := 333) hi_181_1 (by decide) ?_
  refine am_e2 (v := 39) hi_181_333 rfl ?_
  refine am_e32w (as := [.ref 39]) (la := [some (.ref 39)]) (rest := []) hi_181_334 (am_hd0 (M := 181) (by decide) 334) (Nat.le_of_ble_eq_true rfl) (Nat.le_of_ble_eq_true rfl) (show 1 ≤ am_P0.2.2.1 209 from by decide +kernel) rfl (am_recv_ok hS.fs) rfl rfl ?_
  refine am_e2 (v := 39) hi_209_0 rfl ?_
  refine am_e32n (as := [.ref 39]) (la := [some (.ref 39), none, none, none]) (rest := []) hi_209_1 (am_hd0 (M := 209) (by decide) 1) (Nat.le_of_ble_eq_true rfl) (Nat.le_of_ble_eq_true rfl) (show 1 ≤ am_P0.2.2.1 204 from by decide +kernel) rfl (am_recv_ok hS.fs) rfl rfl (ct_load (d := (d + 3)) hS hR  (by show (0 : Int) ≤ (f 32).toInt; omega) (by show (f 32).toInt ≤ (63 : Int); omega) (by show (f 53).toInt ≤ (4096 : Int); omega) (by show (0 : Int) ≤ (f 68).toInt; omega) (by show (f 68).toInt ≤ (65534 : Int); omega) (by show (1 : Int) ≤ (f 15).toInt; omega) (by show (f 15).toInt ≤ (32767 : Int); omega) (by show (0 : Int) ≤ (f 24).toInt; omega) (by show (f 24).toInt ≤ (16384 : Int); omega) (by show (0 : Int) ≤ (f 62).toInt; omega) (by show (f 62).toInt ≤ (65000 : Int); omega)) ?_
  rintro v0 S1 (⟨o2, s3, m4, g'5, hv6, hS7, hR14, h8, h9, h10, h11, h12, h13⟩)
  subst hv6
  have h8_ : (f 62).toInt ≤ o2.toInt := h8
  have h9_ : o2.toInt ≤ (f 62).toInt + 64 := h9
  have h10_ : (f 68).toInt ≤ s3.toInt := h10
  have h11_ : s3.toInt ≤ (f 68).toInt + 1 := h11
  have h12_ : o2.toInt + 64 * mj_n (g'5 16) (f 15).toNatClampNeg 3 ≤ (f 62).toInt + 64 * mj_n (g 16) (f 15).toNatClampNeg 3 := h12
  have h13_ : ∀ j, j ∉ [16, 60, 63, 64, 65, 66, 67, 69, 70, 71, 72, 73] → g'5 j = g j := h13
  have hR14_ : RJ (upd (upd (upd f 62 o2) 68 s3) 75 m4) g'5 gs bc [] 0 [] := hR14
  show am_E _ _ _ _ [some (.ref 39)] [] _ _
  refine am_e2 (v := 39) hi_209_4 rfl ?_
  refine am_e7 hi_209_5 ?_
  refine mm_20 (v := .int (f 15)) hS7 hi_209_6 rfl ?_
  refine am_e0 hi_209_9 ?_
  obtain ⟨z15, hz15, tz15⟩ := am_subI (x := f 15) (y := 1) (m := (f 15).toInt) (n := (1 : Int)) rfl (by decide) (by omega) (by omega)
  refine am_e10 (z := z15) hi_209_10 hz15 ?_
  refine mm_21 (v := z15) hS7 hi_209_11 rfl (Nat.le_of_ble_eq_true rfl) ms_15 ?_
  intro S16 hS17
  replace hS17 : MS S0 S16 (upd (upd (upd (upd f 15 z15) 62 o2) 68 s3) 75 m4) g'5 := hS17
  have hp18 : mj_n (g'5 16) (f 15).toNatClampNeg 3 = mj_n (g'5 16) z15.toNatClampNeg 3 + if (g'5 16 z15.toNatClampNeg).toInt = 3 then 1 else 0 := mj_pop (by rw [cl_toNat, cl_toNat]; omega)
  have hp181 : mj_n (g'5 16) z15.toNatClampNeg 3 ≤ mj_n (g'5 16) (f 15).toNatClampNeg 3 := by rw [hp18]; split <;> omega
  have hp182 : (g'5 16 z15.toNatClampNeg).toInt = 3 → mj_n (g'5 16) z15.toNatClampNeg 3 + 1 ≤ mj_n (g'5 16) (f 15).toNatClampNeg 3 := fun q => by rw [hp18, if_pos q]; exact Int.le_refl _
  refine am_e35 hi_209_14 ?_
  show am_E _ _ _ _ [some (.ref 39), some (.int 38), some (.int on), some (.int tw)] [] _ _
  refine am_e2 (v := 39) hi_181_337 rfl ?_
  refine am_e0 hi_181_338 ?_
  refine am_e2 (v := 39) hi_181_340 rfl ?_
  refine mm_20 (v := .ref 41) hS17 hi_181_341 rfl ?_
  refine am_e1 (v := tw) hi_181_344 rfl ?_
  refine mm_25 hS17 ma_2 hi_181_345 (by decide) (by omega) (by omega) ?_
  show am_E _ _ _ _ _ (.int (g'5 2 tw.toNatClampNeg) :: _) _ _
  rw [show g'5 2 = g 2 from h13_ 2 (by decide)]
  show am_E _ _ _ _ [some (.ref 39), some (.int 38), some (.int on), some (.int tw)] [.int (g 2 tw.toNatClampNeg), .int 22, .ref 39] _ _
  refine am_e0 hi_181_346 ?_
  refine am_e1 (v := tw) hi_181_347 rfl ?_
  refine am_e32n (as := [.ref 39, .int 22, .int (g 2 tw.toNatClampNeg), .int 0, .int tw]) (la := [some (.ref 39), some (.int 22), some (.int (g 2 tw.toNatClampNeg)), some (.int 0), some (.int tw)]) (rest := []) hi_181_348 (am_hd0 (M := 181) (by decide) 348) (Nat.le_of_ble_eq_true rfl) (Nat.le_of_ble_eq_true rfl) (show 5 ≤ am_P0.2.2.1 189 from by decide +kernel) rfl (am_recv_ok hS17.fs) rfl rfl (ct_put (d := (d + 6)) hS17 hR14_  (by show (0 : Int) ≤ (f 32).toInt; omega) (by show (f 32).toInt ≤ (63 : Int); omega) (by show (f 53).toInt ≤ (4096 : Int); omega) (by show (0 : Int) ≤ s3.toInt; omega) (by show s3.toInt ≤ (65534 : Int); omega)) ?_
  rintro v19 S20 (⟨z21, r22, g'23, hv24, hS25, hR29, h26, h27, h28⟩)
  subst hv24
  have h26_ : z21.toInt = s3.toInt + 1 := h26
  have h27_ : r22.toInt = s3.toInt := h27
  have h28_ : ∀ j, j ∉ [60, 69, 70, 71, 72, 73] → g'23 j = g'5 j := h28
  replace hS25 : MS S0 S20 (upd (upd (upd (upd f 15 z15) 62 o2) 68 z21) 75 m4) g'23 := hS25
  have hR29_ : RJ (upd (upd (upd (upd f 15 z15) 62 o2) 68 z21) 75 m4) g'23 gs bc [] 0 (s3.toNatClampNeg :: []) := hR29
  show am_E _ _ _ _ [some (.ref 39), some (.int 38), some (.int on), some (.int tw)] [.int r22] _ _
  refine am_e6i hi_181_351 ?_
  refine am_e2 (v := 39) hi_181_352 rfl ?_
  refine am_e1 (v := on) hi_181_353 rfl ?_
  refine am_e32w (as := [.ref 39, .int on]) (la := [some (.ref 39), some (.int on)]) (rest := []) hi_181_354 (am_hd0 (M := 181) (by decide) 354) (Nat.le_of_ble_eq_true rfl) (Nat.le_of_ble_eq_true rfl) (show 2 ≤ am_P0.2.2.1 220 from by decide +kernel) rfl (am_recv_ok hS25.fs) rfl rfl ?_
  refine am_e2 (v := 39) hi_220_0 rfl ?_
  refine am_e32n (as := [.ref 39]) (la := [some (.ref 39)]) (rest := []) hi_220_1 (am_hd0 (M := 220) (by decide) 1) (Nat.le_of_ble_eq_true rfl) (Nat.le_of_ble_eq_true rfl) (show 1 ≤ am_P0.2.2.1 183 from by decide +kernel) rfl (am_recv_ok hS25.fs) rfl rfl (ct_next (d := (d + 4)) hS25   (by show (0 : Int) ≤ (f 4).toInt; omega) (by show (f 0).toInt ≤ (16384 : Int); omega)) ?_
  rintro v30 S31 (⟨r32, hv33, hS34, h35⟩)
  subst hv33
  have h35_ : (f 4).toInt < (f 0).toInt ∨ r32.toInt = (-1 : Int) := h35
  show am_E _ _ _ _ [some (.ref 39), some (.int on)] [.int r32] _ _
  refine am_e0 hi_220_4 ?_
  by_cases c37 : r32.toInt = (69 : Int)
  · refine am_e13t hi_220_6 (am_cT (m := r32.toInt) (n := (69 : Int)) rfl (by decide) c37) ?_
    refine am_e2 (v := 39) hi_220_18 rfl ?_
    refine am_e7 hi_220_19 ?_
    refine mm_20 (v := .int (f 4)) hS34 hi_220_20 rfl ?_
    refine am_e0 hi_220_23 ?_
    obtain ⟨z38, hz38, tz38⟩ := am_addI (x := f 4) (y := 1) (m := (f 4).toInt) (n := (1 : Int)) rfl (by decide) (by omega) (by omega)
    refine am_e10 (z := z38) hi_220_24 hz38 ?_
    refine mm_21 (v := z38) hS34 hi_220_25 rfl (Nat.le_of_ble_eq_true rfl) ms_4 ?_
    intro S39 hS40
    replace hS40 : MS S0 S39 (upd (upd (upd (upd (upd f 4 z38) 15 z15) 62 o2) 68 z21) 75 m4) g'23 := hS40
    have hR41 : RJ (upd (upd (upd (upd (upd f 4 z38) 15 z15) 62 o2) 68 z21) 75 m4) g'23 gs bc [] 0 (s3.toNatClampNeg :: []) := RJ.at hR29_ (by show (f 4).toInt ≤ z38.toInt; omega)
    refine am_e2 (v := 39) hi_220_28 rfl ?_
    refine am_e0 hi_220_29 ?_
    refine am_e1 (v := on) hi_220_31 rfl ?_
    refine am_e0 hi_220_32 ?_
    refine am_e0 hi_220_33 ?_
    refine am_e32n (as := [.ref 39, .int 35, .int on, .int 0, .int 0]) (la := [some (.ref 39), some (.int 35), some (.int on), some (.int 0), some (.int 0)]) (rest := []) hi_220_34 (am_hd0 (M := 220) (by decide) 34) (Nat.le_of_ble_eq_true rfl) (Nat.le_of_ble_eq_true rfl) (show 5 ≤ am_P0.2.2.1 179 from by decide +kernel) rfl (am_recv_ok hS40.fs) rfl rfl (ct_pile (d := (d + 5)) hS40 hR41 (mj_e_plain (by decide)) (by show (0 : Int) ≤ (f 10).toInt; omega) (by show (f 10).toInt ≤ (65535 : Int); omega)) ?_
    rintro v42 S43 (⟨z44, g'45, hv46, hS47, hR50, h48, h49⟩)
    subst hv46
    have h48_ : z44.toInt = (f 10).toInt + 1 := h48
    have h49_ : ∀ j, j ∉ [11, 12, 13, 14] → g'45 j = g'23 j := h49
    replace hS47 : MS S0 S43 (upd (upd (upd (upd (upd (upd f 4 z38) 10 z44) 15 z15) 62 o2) 68 z21) 75 m4) g'45 := hS47
    have hR50_ : RJ (upd (upd (upd (upd (upd (upd f 4 z38) 10 z44) 15 z15) 62 o2) 68 z21) 75 m4) g'45 (((35 : Int), on.toInt, (0 : Int), (0 : Int), []) :: gs) bc [] 0 (s3.toNatClampNeg :: []) := hR50
    show am_E _ _ _ _ [some (.ref 39), some (.int on)] [] _ _
    refine am_e18 hi_220_37 ?_
    refine am_e35 hi_220_47 ?_
    show am_E _ _ _ _ [some (.ref 39), some (.int 38), some (.int on), some (.int tw)] [] _ _
    refine am_e18 hi_181_357 ?_
    refine am_e35 hi_181_397 ?_
    show am_E _ _ _ _ [some (.ref 39), some (.int 38), some (.int on), some (.int tw), some (.int th)] [] _ _
    refine am_e35 hi_180_13 ?_
    have q1 : mg_p1 (((35 : Int), on.toInt, (0 : Int), (0 : Int), []) :: gs) = 0 + (mg_p1 gs) := rfl
    have q2 : mg_p2 (((35 : Int), on.toInt, (0 : Int), (0 : Int), []) :: gs) = 0 + (mg_p2 gs) := rfl
    have q3 : mg_p3 (((35 : Int), on.toInt, (0 : Int), (0 : Int), []) :: gs) = 3 + (mg_p3 gs) := rfl
    have q4 : mg_p4 (((35 : Int), on.toInt, (0 : Int), (0 : Int), []) :: gs) = 0 + (mg_p4 gs) := rfl
    refine ⟨_, _, _, bc, rfl, hS47, Or.inl ⟨⟨(RJ.fewer (pj' := []) hR50_ (fun _ h => nomatch h)), ?_, ?_⟩, rfl, ?_⟩⟩
    · exact (⟨⟨(show mg_k 35 from by decide), (show (0 : Int) ≤ z15.toInt from by omega), (show 0 ≤ (f 20).toInt from by omega), (show 1 ≤ (f 37).toInt from by omega), (show 0 ≤ (f 32).toInt from by omega), (show (f 32).toInt ≤ (f 5).toInt from by omega), (show (f 5).toInt ≤ 48 from by omega), (show (f 37).toInt ≤ 2 * ((f 5).toInt) + 2 from by omega), trivial⟩, mg_cast (mg_good_ext _ _ _ _ _ _ (fun i _ => by show g'45 34 i = g 34 i; rw [show g'45 34 = g'23 34 from h49_ 34 (by decide), show g'23 34 = g'5 34 from h28_ 34 (by decide), show g'5 34 = g 34 from h13_ 34 (by decide)]) (fun i _ => by show g'45 38 i = g 38 i; rw [show g'45 38 = g'23 38 from h49_ 38 (by decide), show g'23 38 = g'5 38 from h28_ 38 (by decide), show g'5 38 = g 38 from h13_ 38 (by decide)]) (fun i _ => by show g'45 23 i = g 23 i; rw [show g'45 23 = g'23 23 from h49_ 23 (by decide), show g'23 23 = g'5 23 from h28_ 23 (by decide), show g'5 23 = g 23 from h13_ 23 (by decide)]) hrest) (by show (f 15).toInt + -1 = z15.toInt + 0; omega) (by show (f 20).toInt = (f 20).toInt; omega) (by show (f 37).toInt + 0 = (f 37).toInt + 0; omega) (by show (f 32).toInt + 0 = (f 32).toInt + 0; omega) (by show (f 5).toInt + -1 = (f 5).toInt + -1; omega)⟩ : mg_good (g'45 34) (g'45 38) (g'45 23) (((35 : Int), on.toInt, (0 : Int), (0 : Int), []) :: gs) (z15.toInt) ((f 20).toInt) ((f 37).toInt) ((f 32).toInt) ((f 5).toInt))
    · exact ⟨(by show 0 ≤ z38.toInt; omega), (by show z38.toInt ≤ (f 0).toInt; omega), (by show (f 0).toInt ≤ 512; omega), (by show 0 ≤ (f 24).toInt; omega), (by show (f 24).toInt + (f 20).toInt + mg_p1 (((35 : Int), on.toInt, (0 : Int), (0 : Int), []) :: gs) ≤ 4 * z38.toInt; omega), (by show (f 20).toInt ≤ z38.toInt; omega), (by show z15.toInt + mg_p2 (((35 : Int), on.toInt, (0 : Int), (0 : Int), []) :: gs) ≤ z38.toInt; omega), (by show mg_p3 (((35 : Int), on.toInt, (0 : Int), (0 : Int), []) :: gs) ≤ 20 * z38.toInt + 20; omega), (by show 0 ≤ z21.toInt; omega), (by show z21.toInt + 3 * (f 20).toInt + mg_p4 (((35 : Int), on.toInt, (0 : Int), (0 : Int), []) :: gs) ≤ 60 * z38.toInt + 60; omega), (by show 0 ≤ o2.toInt; omega), (by show o2.toInt + 64 * mj_n (g'45 16) z15.toNatClampNeg 3 ≤ 64 * z38.toInt; rw [show g'45 16 = g'23 16 from h49_ 16 (by decide), show g'23 16 = g'5 16 from h28_ 16 (by decide)]; omega), (by show 0 ≤ (f 44).toInt; omega), (by show (f 44).toInt ≤ z38.toInt; omega), (by show 0 ≤ (f 48).toInt; omega), (by show (f 48).toInt ≤ z38.toInt; omega), (by show 1 ≤ (f 53).toInt; omega), (by show (f 53).toInt ≤ z38.toInt + 1; omega), (by show 0 ≤ (f 19).toInt; omega), (by show (f 19).toInt ≤ 600; omega)⟩
    · show 100 * ((f 0).toInt - z38.toInt) + mg_p3 (((35 : Int), on.toInt, (0 : Int), (0 : Int), []) :: gs) < 100 * ((f 0).toInt - (f 4).toInt) + (1 + mg_p3 gs); omega
  · refine am_e13f hi_220_6 (am_cF (m := r32.toInt) (n := (69 : Int)) rfl (by decide) c37) ?_
    refine am_e2 (v := 39) hi_220_9 rfl ?_
    refine am_e32n (as := [.ref 39]) (la := [some (.ref 39)]) (rest := []) hi_220_10 (am_hd0 (M := 220) (by decide) 10) (Nat.le_of_ble_eq_true rfl) (Nat.le_of_ble_eq_true rfl) (show 1 ≤ am_P0.2.2.1 183 from by decide +kernel) rfl (am_recv_ok hS34.fs) rfl rfl (ct_next (d := (d + 4)) hS34   (by show (0 : Int) ≤ (f 4).toInt; omega) (by show (f 0).toInt ≤ (16384 : Int); omega)) ?_
    rintro v51 S52 (⟨r53, hv54, hS55, h56⟩)
    subst hv54
    have h56_ : (f 4).toInt < (f 0).toInt ∨ r53.toInt = (-1 : Int) := h56
    show am_E _ _ _ _ [some (.ref 39), some (.int on)] [.int r53] _ _
    refine am_e0 hi_220_13 ?_
    by_cases c58 : ¬ r53.toInt = (67 : Int)
    · refine am_e13t hi_220_15 (am_cT (m := r53.toInt) (n := (67 : Int)) rfl (by decide) c58) ?_
      refine am_e2 (v := 39) hi_220_40 rfl ?_
      refine am_e0 hi_220_41 ?_
      refine am_e32n (as := [.ref 39, .int 63]) (la := [some (.ref 39), some (.int 63)]) (rest := []) hi_220_43 (am_hd0 (M := 220) (by decide) 43) (Nat.le_of_ble_eq_true rfl) (Nat.le_of_ble_eq_true rfl) (show 2 ≤ am_P0.2.2.1 199 from by decide +kernel) rfl (am_recv_ok hS55.fs) rfl rfl (ct_leave (d := (d + 2)) hS55   (by show (0 : Int) ≤ (f 4).toInt; omega) (by show (f 0).toInt ≤ (16384 : Int); omega) (by show (0 : Int) ≤ (63 : Int); omega) (by show (0 : Int) ≤ (f 5).toInt; omega) (by show (f 5).toInt ≤ (48 : Int); omega)) ?_
      rintro v59 S60 (⟨z61, y62, hv63, hS64, h65, h66, h67⟩ | ⟨a69, b70, hv71, hS72⟩)
      · subst hv63
        have h65_ : z61.toInt = (f 4).toInt + 1 := h65
        have h66_ : (f 4).toInt < (f 0).toInt := h66
        have h67_ : y62.toInt = (f 5).toInt - 1 := h67
        replace hS64 : MS S0 S60 (upd (upd (upd (upd (upd (upd f 4 z61) 5 y62) 15 z15) 62 o2) 68 z21) 75 m4) g'23 := hS64
        have hR74 : RJ (upd (upd (upd (upd (upd (upd f 4 z61) 5 y62) 15 z15) 62 o2) 68 z21) 75 m4) g'23 gs bc [] 0 (s3.toNatClampNeg :: []) := RJ.at hR29_ (by show (f 4).toInt ≤ z61.toInt; omega)
        show am_E _ _ _ _ [some (.ref 39), some (.int on)] [.int 1] _ _
        refine am_e6i hi_220_46 ?_
        refine am_e35 hi_220_47 ?_
        show am_E _ _ _ _ [some (.ref 39), some (.int 38), some (.int on), some (.int tw)] [] _ _
        refine am_e18 hi_181_357 ?_
        refine am_e35 hi_181_397 ?_
        show am_E _ _ _ _ [some (.ref 39), some (.int 38), some (.int on), some (.int tw), some (.int th)] [] _ _
        refine am_e35 hi_180_13 ?_
        have q1 : mg_p1 gs = mg_p1 gs := rfl
        have q2 : mg_p2 gs = mg_p2 gs := rfl
        have q3 : mg_p3 gs = mg_p3 gs := rfl
        have q4 : mg_p4 gs = mg_p4 gs := rfl
        refine ⟨_, _, _, bc, rfl, hS64, Or.inl ⟨⟨(RJ.fewer (pj' := []) hR74 (fun _ h => nomatch h)), ?_, ?_⟩, rfl, ?_⟩⟩
        · exact (mg_cast (mg_good_ext _ _ _ _ _ _ (fun i _ => by show g'23 34 i = g 34 i; rw [show g'23 34 = g'5 34 from h28_ 34 (by decide), show g'5 34 = g 34 from h13_ 34 (by decide)]) (fun i _ => by show g'23 38 i = g 38 i; rw [show g'23 38 = g'5 38 from h28_ 38 (by decide), show g'5 38 = g 38 from h13_ 38 (by decide)]) (fun i _ => by show g'23 23 i = g 23 i; rw [show g'23 23 = g'5 23 from h28_ 23 (by decide), show g'5 23 = g 23 from h13_ 23 (by decide)]) hrest) (by show (f 15).toInt + -1 = z15.toInt; omega) (by show (f 20).toInt = (f 20).toInt; omega) (by show (f 37).toInt + 0 = (f 37).toInt; omega) (by show (f 32).toInt + 0 = (f 32).toInt; omega) (by show (f 5).toInt + -1 = y62.toInt; omega) : mg_good (g'23 34) (g'23 38) (g'23 23) gs (z15.toInt) ((f 20).toInt) ((f 37).toInt) ((f 32).toInt) (y62.toInt))
        · exact ⟨(by show 0 ≤ z61.toInt; omega), (by show z61.toInt ≤ (f 0).toInt; omega), (by show (f 0).toInt ≤ 512; omega), (by show 0 ≤ (f 24).toInt; omega), (by show (f 24).toInt + (f 20).toInt + mg_p1 gs ≤ 4 * z61.toInt; omega), (by show (f 20).toInt ≤ z61.toInt; omega), (by show z15.toInt + mg_p2 gs ≤ z61.toInt; omega), (by show mg_p3 gs ≤ 20 * z61.toInt + 20; omega), (by show 0 ≤ z21.toInt; omega), (by show z21.toInt + 3 * (f 20).toInt + mg_p4 gs ≤ 60 * z61.toInt + 60; omega), (by show 0 ≤ o2.toInt; omega), (by show o2.toInt + 64 * mj_n (g'23 16) z15.toNatClampNeg 3 ≤ 64 * z61.toInt; rw [show g'23 16 = g'5 16 from h28_ 16 (by decide)]; omega), (by show 0 ≤ (f 44).toInt; omega), (by show (f 44).toInt ≤ z61.toInt; omega), (by show 0 ≤ (f 48).toInt; omega), (by show (f 48).toInt ≤ z61.toInt; omega), (by show 1 ≤ (f 53).toInt; omega), (by show (f 53).toInt ≤ z61.toInt + 1; omega), (by show 0 ≤ (f 19).toInt; omega), (by show (f 19).toInt ≤ 600; omega)⟩
        · show 100 * ((f 0).toInt - z61.toInt) + mg_p3 gs < 100 * ((f 0).toInt - (f 4).toInt) + (1 + mg_p3 gs); omega
      · subst hv71
        replace hS72 : MS S0 S60 (upd (upd (upd (upd (upd (upd (upd f 6 a69) 7 b70) 10 0) 15 z15) 62 o2) 68 z21) 75 m4) g'23 := hS72
        have hR75 := rj_clear0 hR29_
        have hR76 : RJ (upd (upd (upd (upd (upd (upd (upd f 6 a69) 7 b70) 10 0) 15 z15) 62 o2) 68 z21) 75 m4) g'23 [] bc [] 0 [] := hR75
        show am_E _ _ _ _ [some (.ref 39), some (.int on)] [.int 0] _ _
        refine am_e6i hi_220_46 ?_
        refine am_e35 hi_220_47 ?_
        show am_E _ _ _ _ [some (.ref 39), some (.int 38), some (.int on), some (.int tw)] [] _ _
        refine am_e18 hi_181_357 ?_
        refine am_e35 hi_181_397 ?_
        show am_E _ _ _ _ [some (.ref 39), some (.int 38), some (.int on), some (.int tw), some (.int th)] [] _ _
        refine am_e35 hi_180_13 ?_
        have hRc := rj_clear0 hR76
        refine ⟨_, _, [], _, rfl, hS72, Or.inr ⟨hRc, rfl, (by show 0 ≤ (f 4).toInt; omega), (by show (f 4).toInt ≤ (f 0).toInt; omega), (by show 0 ≤ (f 32).toInt; omega), (by show (f 32).toInt ≤ 63; omega), (by show 1 ≤ (f 53).toInt; omega), (by show (f 53).toInt ≤ 600; omega), (by show 0 ≤ z21.toInt; omega), (by show z21.toInt ≤ 60000; omega), (by show 0 ≤ (f 48).toInt; omega), (by show (f 48).toInt ≤ 8000; omega), (by show 0 ≤ (f 37).toInt; omega), (by show (f 37).toInt ≤ 128; omega), (by show 0 ≤ o2.toInt; omega), (by show o2.toInt ≤ 65000; omega), (by show 0 ≤ (f 19).toInt; omega), (by show (f 19).toInt ≤ 600; omega)⟩⟩
    · refine am_e13f hi_220_15 (am_cF (m := r53.toInt) (n := (67 : Int)) rfl (by decide) c58) ?_
      refine am_e2 (v := 39) hi_220_18 rfl ?_
      refine am_e7 hi_220_19 ?_
      refine mm_20 (v := .int (f 4)) hS55 hi_220_20 rfl ?_
      refine am_e0 hi_220_23 ?_
      obtain ⟨z77, hz77, tz77⟩ := am_addI (x := f 4) (y := 1) (m := (f 4).toInt) (n := (1 : Int)) rfl (by decide) (by omega) (by omega)
      refine am_e10 (z := z77) hi_220_24 hz77 ?_
      refine mm_21 (v := z77) hS55 hi_220_25 rfl (Nat.le_of_ble_eq_true rfl) ms_4 ?_
      intro S78 hS79
      replace hS79 : MS S0 S78 (upd (upd (upd (upd (upd f 4 z77) 15 z15) 62 o2) 68 z21) 75 m4) g'23 := hS79
      have hR80 : RJ (upd (upd (upd (upd (upd f 4 z77) 15 z15) 62 o2) 68 z21) 75 m4) g'23 gs bc [] 0 (s3.toNatClampNeg :: []) := RJ.at hR29_ (by show (f 4).toInt ≤ z77.toInt; omega)
      refine am_e2 (v := 39) hi_220_28 rfl ?_
      refine am_e0 hi_220_29 ?_
      refine am_e1 (v := on) hi_220_31 rfl ?_
      refine am_e0 hi_220_32 ?_
      refine am_e0 hi_220_33 ?_
      refine am_e32n (as := [.ref 39, .int 35, .int on, .int 0, .int 0]) (la := [some (.ref 39), some (.int 35), some (.int on), some (.int 0), some (.int 0)]) (rest := []) hi_220_34 (am_hd0 (M := 220) (by decide) 34) (Nat.le_of_ble_eq_true rfl) (Nat.le_of_ble_eq_true rfl) (show 5 ≤ am_P0.2.2.1 179 from by decide +kernel) rfl (am_recv_ok hS79.fs) rfl rfl (ct_pile (d := (d + 5)) hS79 hR80 (mj_e_plain (by decide)) (by show (0 : Int) ≤ (f 10).toInt; omega) (by show (f 10).toInt ≤ (65535 : Int); omega)) ?_
      rintro v81 S82 (⟨z83, g'84, hv85, hS86, hR89, h87, h88⟩)
      subst hv85
      have h87_ : z83.toInt = (f 10).toInt + 1 := h87
      have h88_ : ∀ j, j ∉ [11, 12, 13, 14] → g'84 j = g'23 j := h88
      replace hS86 : MS S0 S82 (upd (upd (upd (upd (upd (upd f 4 z77) 10 z83) 15 z15) 62 o2) 68 z21) 75 m4) g'84 := hS86
      have hR89_ : RJ (upd (upd (upd (upd (upd (upd f 4 z77) 10 z83) 15 z15) 62 o2) 68 z21) 75 m4) g'84 (((35 : Int), on.toInt, (0 : Int), (0 : Int), []) :: gs) bc [] 0 (s3.toNatClampNeg :: []) := hR89
      show am_E _ _ _ _ [some (.ref 39), some (.int on)] [] _ _
      refine am_e18 hi_220_37 ?_
      refine am_e35 hi_220_47 ?_
      show am_E _ _ _ _ [some (.ref 39), some (.int 38), some (.int on), some (.int tw)] [] _ _
      refine am_e18 hi_181_357 ?_
      refine am_e35 hi_181_397 ?_
      show am_E _ _ _ _ [some (.ref 39), some (.int 38), some (.int on), some (.int tw), some (.int th)] [] _ _
      refine am_e35 hi_180_13 ?_
      have q1 : mg_p1 (((35 : Int), on.toInt, (0 : Int), (0 : Int), []) :: gs) = 0 + (mg_p1 gs) := rfl
      have q2 : mg_p2 (((35 : Int), on.toInt, (0 : Int), (0 : Int), []) :: gs) = 0 + (mg_p2 gs) := rfl
      have q3 : mg_p3 (((35 : Int), on.toInt, (0 : Int), (0 : Int), []) :: gs) = 3 + (mg_p3 gs) := rfl
      have q4 : mg_p4 (((35 : Int), on.toInt, (0 : Int), (0 : Int), []) :: gs) = 0 + (mg_p4 gs) := rfl
      refine ⟨_, _, _, bc, rfl, hS86, Or.inl ⟨⟨(RJ.fewer (pj' := []) hR89_ (fun _ h => nomatch h)), ?_, ?_⟩, rfl, ?_⟩⟩
      · exact (⟨⟨(show mg_k 35 from by decide), (show (0 : Int) ≤ z15.toInt from by omega), (show 0 ≤ (f 20).toInt from by omega), (show 1 ≤ (f 37).toInt from by omega), (show 0 ≤ (f 32).toInt from by omega), (show (f 32).toInt ≤ (f 5).toInt from by omega), (show (f 5).toInt ≤ 48 from by omega), (show (f 37).toInt ≤ 2 * ((f 5).toInt) + 2 from by omega), trivial⟩, mg_cast (mg_good_ext _ _ _ _ _ _ (fun i _ => by show g'84 34 i = g 34 i; rw [show g'84 34 = g'23 34 from h88_ 34 (by decide), show g'23 34 = g'5 34 from h28_ 34 (by decide), show g'5 34 = g 34 from h13_ 34 (by decide)]) (fun i _ => by show g'84 38 i = g 38 i; rw [show g'84 38 = g'23 38 from h88_ 38 (by decide), show g'23 38 = g'5 38 from h28_ 38 (by decide), show g'5 38 = g 38 from h13_ 38 (by decide)]) (fun i _ => by show g'84 23 i = g 23 i; rw [show g'84 23 = g'23 23 from h88_ 23 (by decide), show g'23 23 = g'5 23 from h28_ 23 (by decide), show g'5 23 = g 23 from h13_ 23 (by decide)]) hrest) (by show (f 15).toInt + -1 = z15.toInt + 0; omega) (by show (f 20).toInt = (f 20).toInt; omega) (by show (f 37).toInt + 0 = (f 37).toInt + 0; omega) (by show (f 32).toInt + 0 = (f 32).toInt + 0; omega) (by show (f 5).toInt + -1 = (f 5).toInt + -1; omega)⟩ : mg_good (g'84 34) (g'84 38) (g'84 23) (((35 : Int), on.toInt, (0 : Int), (0 : Int), []) :: gs) (z15.toInt) ((f 20).toInt) ((f 37).toInt) ((f 32).toInt) ((f 5).toInt))
      · exact ⟨(by show 0 ≤ z77.toInt; omega), (by show z77.toInt ≤ (f 0).toInt; omega), (by show (f 0).toInt ≤ 512; omega), (by show 0 ≤ (f 24).toInt; omega), (by show (f 24).toInt + (f 20).toInt + mg_p1 (((35 : Int), on.toInt, (0 : Int), (0 : Int), []) :: gs) ≤ 4 * z77.toInt; omega), (by show (f 20).toInt ≤ z77.toInt; omega), (by show z15.toInt + mg_p2 (((35 : Int), on.toInt, (0 : Int), (0 : Int), []) :: gs) ≤ z77.toInt; omega), (by show mg_p3 (((35 : Int), on.toInt, (0 : Int), (0 : Int), []) :: gs) ≤ 20 * z77.toInt + 20; omega), (by show 0 ≤ z21.toInt; omega), (by show z21.toInt + 3 * (f 20).toInt + mg_p4 (((35 : Int), on.toInt, (0 : Int), (0 : Int), []) :: gs) ≤ 60 * z77.toInt + 60; omega), (by show 0 ≤ o2.toInt; omega), (by show o2.toInt + 64 * mj_n (g'84 16) z15.toNatClampNeg 3 ≤ 64 * z77.toInt; rw [show g'84 16 = g'23 16 from h88_ 16 (by decide), show g'23 16 = g'5 16 from h28_ 16 (by decide)]; omega), (by show 0 ≤ (f 44).toInt; omega), (by show (f 44).toInt ≤ z77.toInt; omega), (by show 0 ≤ (f 48).toInt; omega), (by show (f 48).toInt ≤ z77.toInt; omega), (by show 1 ≤ (f 53).toInt; omega), (by show (f 53).toInt ≤ z77.toInt + 1; omega), (by show 0 ≤ (f 19).toInt; omega), (by show (f 19).toInt ≤ 600; omega)⟩
      · show 100 * ((f 0).toInt - z77.toInt) + mg_p3 (((35 : Int), on.toInt, (0 : Int), (0 : Int), []) :: gs) < 100 * ((f 0).toInt - (f 4).toInt) + (1 + mg_p3 gs); omega
theorem st_39 {sc : Nat × (Nat → Int32)} {d : Nat} {S0 S : am_S} {f : Nat → Int32} {g : Nat → Nat → Int32} {on : Int32} {tw : Int32} {th : Int32} {gs : List mg_E} {bc : List (List Nat)} (hS : MS S0 S f g) (hR : RJ f g gs bc [] 0 []) (hrest : mg_good (g 34) (g 38) (g 23) gs ((f 15).toInt + -1) ((f 20).toInt) ((f 37).toInt + 0) ((f 32).toInt + 0) ((f 5).toInt + -1)) (p0 : 0 ≤ (f 4).toInt) (p1 : (f 4).toInt ≤ (f 0).toInt) (p2 : (f 0).toInt ≤ 512) (p3 : 0 ≤ (f 24).toInt) (p4 : (f 24).toInt + (f 20).toInt + mg_p1 gs ≤ 4 * (f 4).toInt) (p5 : (f 20).toInt ≤ (f 4).toInt) (p6 : (f 15).toInt + 0 + mg_p2 gs ≤ (f 4).toInt) (p7 : 1 + mg_p3 gs ≤ 20 * (f 4).toInt + 20) (p8 : 0 ≤ (f 68).toInt) (p9 : (f 68).toInt + 3 * (f 20).toInt + 0 + mg_p4 gs ≤ 60 * (f 4).toInt + 60) (p10 : 0 ≤ (f 62).toInt) (p11 : (f 62).toInt + 64 * mj_n (g 16) (f 15).toNatClampNeg 3 ≤ 64 * (f 4).toInt) (p12 : 0 ≤ (f 44).toInt) (p13 : (f 44).toInt ≤ (f 4).toInt) (p14 : 0 ≤ (f 48).toInt) (p15 : (f 48).toInt ≤ (f 4).toInt) (p16 : 1 ≤ (f 53).toInt) (p17 : (f 53).toInt ≤ (f 4).toInt + 1) (p18 : 0 ≤ (f 19).toInt) (p19 : (f 19).toInt ≤ 600) (p20 : 0 ≤ mg_p1 gs) (p21 : 0 ≤ mg_p2 gs) (p22 : 0 ≤ mg_p4 gs) (p23 : 0 ≤ (f 10).toInt) (p24 : (f 10).toInt ≤ mg_p3 gs) (p25 : 0 ≤ mj_n (g 16) (f 15).toNatClampNeg 3) (p26 : 1 ≤ (f 15).toInt) (p27 : 0 ≤ (f 20).toInt) (p28 : 1 ≤ (f 37).toInt) (p29 : 0 ≤ (f 32).toInt) (p30 : (f 32).toInt ≤ (f 5).toInt) (p31 : (f 5).toInt ≤ 48) (p32 : (f 37).toInt ≤ 2 * (f 5).toInt + 2) : am_E (am_PP sc) (d + 8) 180 0 [some (.ref 39), some (.int 39), some (.int on), some (.int tw), some (.int th)] [] S (am_N fun v S1 => ∃ (f' : Nat → Int32) (g' : Nat → Nat → Int32) (gs' : List mg_E) (bc' : List (List Nat)), v = none ∧ MS S0 S1 f' g' ∧ (mg_on f (100 * ((f 0).toInt - (f 4).toInt) + (1 + mg_p3 gs)) f' g' gs' bc' ∨ mg_off f f' g' bc')) := by
  have hbs := mg_basic hrest
  refine am_e1 (v := 39) hi_180_0 rfl ?_
  refine am_e0 hi_180_1 ?_
  refine am_e13f hi_180_3 (by decide) ?_
  refine am_e2 (v := 39) hi_180_6 rfl ?_
  refine am_e1 (v := 39) hi_180_7 rfl ?_
  refine am_e1 (v := on) hi_180_8 rfl ?_
  refine am_e1 (v := tw) hi_180_9 rfl ?_
  refine am_e32w (as := [.ref 39, .int 39, .int on, .int tw]) (la := [some (.ref 39), some (.int 39), some (.int on), some (.int tw)]) (rest := []) hi_180_10 (am_hd0 (M := 180) (by decide) 10) (Nat.le_of_ble_eq_true rfl) (Nat.le_of_ble_eq_true rfl) (show 4 ≤ am_P0.2.2.1 181 from by decide +kernel) rfl (am_recv_ok hS.fs) rfl rfl ?_
  refine am_e1 (v := 39) hi_181_0 rfl ?_
  refine am_e19 (t := 360) hi_181_1 (by decide) ?_
  refine am_e2 (v := 39) hi_181_360 rfl ?_
  refine am_e1 (v := on) hi_181_361 rfl ?_
  refine am_e1 (v := tw) hi_181_362 rfl ?_
  refine am_e32w (as := [.ref 39, .int on, .int tw]) (la := [some (.ref 39), some (.int on), some (.int tw), none]) (rest := []) hi_181_363 (am_hd0 (M := 181) (by decide) 363) (Nat.le_of_ble_eq_true rfl) (Nat.le_of_ble_eq_true rfl) (show 3 ≤ am_P0.2.2.1 221 from by decide +kernel) rfl (am_recv_ok hS.fs) rfl rfl ?_
  refine am_e2 (v := 39) hi_221_0 rfl ?_
  refine am_e32n (as := [.ref 39]) (la := [some (.ref 39)]) (rest := []) hi_221_1 (am_hd0 (M := 221) (by decide) 1) (Nat.le_of_ble_eq_true rfl) (Nat.le_of_ble_eq_true rfl) (show 1 ≤ am_P0.2.2.1 183 from by decide +kernel) rfl (am_recv_ok hS.fs) rfl rfl (ct_next (d := (d + 4)) hS   (by show (0 : Int) ≤ (f 4).toInt; omega) (by show (f 0).toInt ≤ (16384 : Int); omega)) ?_
  rintro v0 S1 (⟨r2, hv3, hS4, h5⟩)
  subst hv3
  have h5_ : (f 4).toInt < (f 0).toInt ∨ r2.toInt = (-1 : Int) := h5
  show am_E _ _ _ _ [some (.ref 39), some (.int on), some (.int tw), none] [.int r2] _ _
  refine am_e0 hi_221_4 ?_
  by_cases c7 : r2.toInt = (63 : Int)
  · refine am_e13t hi_221_6 (am_cT (m := r2.toInt) (n := (63 : Int)) rfl (by decide) c7) ?_
    refine am_e0 hi_221_42 ?_
    refine am_e18 hi_221_43 ?_
    refine am_e3 (ls' := [some (.ref 39), some (.int on), some (.int tw), some (.int 1)]) hi_221_47 (Nat.le_of_ble_eq_true rfl) rfl ?_
    refine am_e1 (v := 1) hi_221_48 rfl ?_
    refine am_e12f hi_221_49 (by decide) ?_
    refine am_e2 (v := 39) hi_221_52 rfl ?_
    refine am_e32w (as := [.ref 39]) (la := [some (.ref 39)]) (rest := []) hi_221_53 (am_hd0 (M := 221) (by decide) 53) (Nat.le_of_ble_eq_true rfl) (Nat.le_of_ble_eq_true rfl) (show 1 ≤ am_P0.2.2.1 216 from by decide +kernel) rfl (am_recv_ok hS4.fs) rfl rfl ?_
    refine am_e2 (v := 39) hi_216_0 rfl ?_
    refine mm_20 (v := .ref 46) hS4 hi_216_1 rfl ?_
    refine am_e2 (v := 39) hi_216_4 rfl ?_
    refine mm_20 (v := .int (f 15)) hS4 hi_216_5 rfl ?_
    refine am_e0 hi_216_8 ?_
    obtain ⟨z8, hz8, tz8⟩ := am_subI (x := f 15) (y := 1) (m := (f 15).toInt) (n := (1 : Int)) rfl (by decide) (by omega) (by omega)
    refine am_e10 (z := z8) hi_216_9 hz8 ?_
    refine mm_25 hS4 ma_16 hi_216_10 (by decide) (by omega) (by omega) ?_
    show am_E _ _ _ _ [some (.ref 39)] [.int (g 16 z8.toNatClampNeg)] _ _
    refine am_e0 hi_216_11 ?_
    by_cases c9 : (g 16 z8.toNatClampNeg).toInt = (1 : Int)
    · refine am_e13t hi_216_12 (am_cT (m := (g 16 z8.toNatClampNeg).toInt) (n := (1 : Int)) rfl (by decide) c9) ?_
      refine am_e0 hi_216_30 ?_
      refine am_e18 hi_216_31 ?_
      refine am_e36 hi_216_35 (by decide) ?_
      show am_E _ _ _ _ [some (.ref 39), some (.int on), some (.int tw), some (.int 1)] [.int 1] _ _
      refine am_e12f hi_221_56 (by decide) ?_
      refine am_e2 (v := 39) hi_221_59 rfl ?_
      refine am_e32w (as := [.ref 39]) (la := [some (.ref 39), none]) (rest := []) hi_221_60 (am_hd0 (M := 221) (by decide) 60) (Nat.le_of_ble_eq_true rfl) (Nat.le_of_ble_eq_true rfl) (show 1 ≤ am_P0.2.2.1 217 from by decide +kernel) rfl (am_recv_ok hS4.fs) rfl rfl ?_
      refine am_e2 (v := 39) hi_217_0 rfl ?_
      refine mm_20 (v := .ref 47) hS4 hi_217_1 rfl ?_
      refine am_e2 (v := 39) hi_217_4 rfl ?_
      refine mm_20 (v := .int (f 15)) hS4 hi_217_5 rfl ?_
      refine am_e0 hi_217_8 ?_
      refine am_e10 (z := z8) hi_217_9 hz8 ?_
      refine mm_25 hS4 ma_17 hi_217_10 (by decide) (by omega) (by omega) ?_
      show am_E _ _ _ _ [some (.ref 39), none] [.int (g 17 z8.toNatClampNeg)] _ _
      have r10 : (g 16 z8.toNatClampNeg).toInt = 1 ∨ (g 16 z8.toNatClampNeg).toInt = 2 → 0 ≤ (g 17 z8.toNatClampNeg).toInt ∧ (g 17 z8.toNatClampNeg).toInt < 65536 := RJ.vc hR z8.toNatClampNeg
      refine am_e3 (ls' := [some (.ref 39), some (.int (g 17 z8.toNatClampNeg))]) hi_217_11 (Nat.le_of_ble_eq_true rfl) rfl ?_
      refine am_e2 (v := 39) hi_217_12 rfl ?_
      refine mm_20 (v := .ref 91) hS4 hi_217_13 rfl ?_
      refine am_e1 (v := g 17 z8.toNatClampNeg) hi_217_16 rfl ?_
      refine am_e2 (v := 39) hi_217_17 rfl ?_
      refine mm_20 (v := .ref 46) hS4 hi_217_18 rfl ?_
      refine am_e2 (v := 39) hi_217_21 rfl ?_
      refine mm_20 (v := .int (f 15)) hS4 hi_217_22 rfl ?_
      refine am_e0 hi_217_25 ?_
      refine am_e10 (z := z8) hi_217_26 hz8 ?_
      refine mm_25 hS4 ma_16 hi_217_27 (by decide) (by omega) (by omega) ?_
      show am_E _ _ _ _ [some (.ref 39), some (.int (g 17 z8.toNatClampNeg))] [.int (g 16 z8.toNatClampNeg), .int (g 17 z8.toNatClampNeg), .ref 91] _ _
      refine am_e0 hi_217_28 ?_
      refine am_e13f hi_217_29 (am_cF (m := (g 16 z8.toNatClampNeg).toInt) (n := (1 : Int)) rfl (by decide) (by simp only [am_cI]; omega)) ?_
      refine am_e2 (v := 39) hi_217_32 rfl ?_
      refine mm_20 (v := .ref 91) hS4 hi_217_33 rfl ?_
      refine am_e1 (v := g 17 z8.toNatClampNeg) hi_217_36 rfl ?_
      refine mm_25 hS4 ma_72 hi_217_37 (by decide) (by omega) (by omega) ?_
      show am_E _ _ _ _ [some (.ref 39), some (.int (g 17 z8.toNatClampNeg))] [.int (g 72 (g 17 z8.toNatClampNeg).toNatClampNeg), .int (g 17 z8.toNatClampNeg), .ref 91] _ _
      refine am_e0 hi_217_38 ?_
      obtain ⟨z11, hz11⟩ : ∃ q__, am_bin 3 (g 72 (g 17 z8.toNatClampNeg).toNatClampNeg) 1 = q__ := ⟨_, rfl⟩
      refine am_e10 (z := z11) hi_217_39 hz11 ?_
      refine am_e0 hi_217_40 ?_
      obtain ⟨z12, hz12⟩ : ∃ q__, am_bin 4 z11 4 = q__ := ⟨_, rfl⟩
      refine am_e10 (z := z12) hi_217_41 hz12 ?_
      refine am_e18 hi_217_42 ?_
      refine mm_26 hS4 ma_72 hi_217_46 (by decide) (by omega) (by omega) (fun h => nomatch h) ?_
      intro S13 hS14
      refine am_e2 (v := 39) hi_217_47 rfl ?_
      refine am_e7 hi_217_48 ?_
      refine mm_20 (v := .int (f 15)) hS14 hi_217_49 rfl ?_
      refine am_e0 hi_217_52 ?_
      refine am_e10 (z := z8) hi_217_53 hz8 ?_
      refine mm_21 (v := z8) hS14 hi_217_54 rfl (Nat.le_of_ble_eq_true rfl) ms_15 ?_
      intro S15 hS16
      have hp17 : mj_n (g 16) (f 15).toNatClampNeg 3 = mj_n (g 16) z8.toNatClampNeg 3 + if (g 16 z8.toNatClampNeg).toInt = 3 then 1 else 0 := mj_pop (by rw [cl_toNat, cl_toNat]; omega)
      have hp171 : mj_n (g 16) z8.toNatClampNeg 3 ≤ mj_n (g 16) (f 15).toNatClampNeg 3 := by rw [hp17]; split <;> omega
      have hp172 : (g 16 z8.toNatClampNeg).toInt = 3 → mj_n (g 16) z8.toNatClampNeg 3 + 1 ≤ mj_n (g 16) (f 15).toNatClampNeg 3 := fun q => by rw [hp17, if_pos q]; exact Int.le_refl _
      refine am_e35 hi_217_57 ?_
      show am_E _ _ _ _ [some (.ref 39), some (.int on), some (.int tw), some (.int 1)] [] _ _
      refine am_e2 (v := 39) hi_221_63 rfl ?_
      refine am_e0 hi_221_64 ?_
      refine am_e1 (v := on) hi_221_66 rfl ?_
      refine am_e0 hi_221_67 ?_
      refine am_e1 (v := tw) hi_221_68 rfl ?_
      refine am_e32n (as := [.ref 39, .int 24, .int on, .int 0, .int tw]) (la := [some (.ref 39), some (.int 24), some (.int on), some (.int 0), some (.int tw)]) (rest := []) hi_221_69 (am_hd0 (M := 221) (by decide) 69) (Nat.le_of_ble_eq_true rfl) (Nat.le_of_ble_eq_true rfl) (show 5 ≤ am_P0.2.2.1 189 from by decide +kernel) rfl (am_recv_ok hS16.fs) rfl rfl (ct_put (d := (d + 5)) hS16 hR  (by show (0 : Int) ≤ (f 32).toInt; omega) (by show (f 32).toInt ≤ (63 : Int); omega) (by show (f 53).toInt ≤ (4096 : Int); omega) (by show (0 : Int) ≤ (f 68).toInt; omega) (by show (f 68).toInt ≤ (65534 : Int); omega)) ?_
      rintro v18 S19 (⟨z20, r21, g'22, hv23, hS24, hR28, h25, h26, h27⟩)
      subst hv23
      have h25_ : z20.toInt = (f 68).toInt + 1 := h25
      have h26_ : r21.toInt = (f 68).toInt := h26
      have h27_ : ∀ j, j ∉ [60, 69, 70, 71, 72, 73] → g'22 j = (upg g 72 (g 17 z8.toNatClampNeg).toNatClampNeg z12) j := h27
      have hR28_ : RJ (upd (upd f 15 z8) 68 z20) g'22 gs bc [] 0 ((f 68).toNatClampNeg :: []) := hR28
      show am_E _ _ _ _ [some (.ref 39), some (.int on), some (.int tw), some (.int 1)] [.int r21] _ _
      refine am_e6i hi_221_72 ?_
      refine am_e18 hi_221_73 ?_
      refine am_e2 (v := 39) hi_221_90 rfl ?_
      refine am_e1 (v := on) hi_221_91 rfl ?_
      refine am_e32w (as := [.ref 39, .int on]) (la := [some (.ref 39), some (.int on)]) (rest := []) hi_221_92 (am_hd0 (M := 221) (by decide) 92) (Nat.le_of_ble_eq_true rfl) (Nat.le_of_ble_eq_true rfl) (show 2 ≤ am_P0.2.2.1 220 from by decide +kernel) rfl (am_recv_ok hS24.fs) rfl rfl ?_
      refine am_e2 (v := 39) hi_220_0 rfl ?_
      refine am_e32n (as := [.ref 39]) (la := [some (.ref 39)]) (rest := []) hi_220_1 (am_hd0 (M := 220) (by decide) 1) (Nat.le_of_ble_eq_true rfl) (Nat.le_of_ble_eq_true rfl) (show 1 ≤ am_P0.2.2.1 183 from by decide +kernel) rfl (am_recv_ok hS24.fs) rfl rfl (ct_next (d := (d + 3)) hS24   (by show (0 : Int) ≤ (f 4).toInt; omega) (by show (f 0).toInt ≤ (16384 : Int); omega)) ?_
      rintro v29 S30 (⟨r31, hv32, hS33, h34⟩)
      subst hv32
      have h34_ : (f 4).toInt < (f 0).toInt ∨ r31.toInt = (-1 : Int) := h34
      show am_E _ _ _ _ [some (.ref 39), some (.int on)] [.int r31] _ _
      refine am_e0 hi_220_4 ?_
      by_cases c36 : r31.toInt = (69 : Int)
      · refine am_e13t hi_220_6 (am_cT (m := r31.toInt) (n := (69 : Int)) rfl (by decide) c36) ?_
        refine am_e2 (v := 39) hi_220_18 rfl ?_
        refine am_e7 hi_220_19 ?_
        refine mm_20 (v := .int (f 4)) hS33 hi_220_20 rfl ?_
        refine am_e0 hi_220_23 ?_
        obtain ⟨z37, hz37, tz37⟩ := am_addI (x := f 4) (y := 1) (m := (f 4).toInt) (n := (1 : Int)) rfl (by decide) (by omega) (by omega)
        refine am_e10 (z := z37) hi_220_24 hz37 ?_
        refine mm_21 (v := z37) hS33 hi_220_25 rfl (Nat.le_of_ble_eq_true rfl) ms_4 ?_
        intro S38 hS39
        replace hS39 : MS S0 S38 (upd (upd (upd f 4 z37) 15 z8) 68 z20) g'22 := hS39
        have hR40 : RJ (upd (upd (upd f 4 z37) 15 z8) 68 z20) g'22 gs bc [] 0 ((f 68).toNatClampNeg :: []) := RJ.at hR28_ (by show (f 4).toInt ≤ z37.toInt; omega)
        refine am_e2 (v := 39) hi_220_28 rfl ?_
        refine am_e0 hi_220_29 ?_
        refine am_e1 (v := on) hi_220_31 rfl ?_
        refine am_e0 hi_220_32 ?_
        refine am_e0 hi_220_33 ?_
        refine am_e32n (as := [.ref 39, .int 35, .int on, .int 0, .int 0]) (la := [some (.ref 39), some (.int 35), some (.int on), some (.int 0), some (.int 0)]) (rest := []) hi_220_34 (am_hd0 (M := 220) (by decide) 34) (Nat.le_of_ble_eq_true rfl) (Nat.le_of_ble_eq_true rfl) (show 5 ≤ am_P0.2.2.1 179 from by decide +kernel) rfl (am_recv_ok hS39.fs) rfl rfl (ct_pile (d := (d + 4)) hS39 hR40 (mj_e_plain (by decide)) (by show (0 : Int) ≤ (f 10).toInt; omega) (by show (f 10).toInt ≤ (65535 : Int); omega)) ?_
        rintro v41 S42 (⟨z43, g'44, hv45, hS46, hR49, h47, h48⟩)
        subst hv45
        have h47_ : z43.toInt = (f 10).toInt + 1 := h47
        have h48_ : ∀ j, j ∉ [11, 12, 13, 14] → g'44 j = g'22 j := h48
        replace hS46 : MS S0 S42 (upd (upd (upd (upd f 4 z37) 10 z43) 15 z8) 68 z20) g'44 := hS46
        have hR49_ : RJ (upd (upd (upd (upd f 4 z37) 10 z43) 15 z8) 68 z20) g'44 (((35 : Int), on.toInt, (0 : Int), (0 : Int), []) :: gs) bc [] 0 ((f 68).toNatClampNeg :: []) := hR49
        show am_E _ _ _ _ [some (.ref 39), some (.int on)] [] _ _
        refine am_e18 hi_220_37 ?_
        refine am_e35 hi_220_47 ?_
        show am_E _ _ _ _ [some (.ref 39), some (.int on), some (.int tw), some (.int 1)] [] _ _
        refine am_e35 hi_221_95 ?_
        show am_E _ _ _ _ [some (.ref 39), some (.int 39), some (.int on), some (.int tw)] [] _ _
        refine am_e18 hi_181_366 ?_
        refine am_e35 hi_181_397 ?_
        show am_E _ _ _ _ [some (.ref 39), some (.int 39), some (.int on), some (.int tw), some (.int th)] [] _ _
        refine am_e35 hi_180_13 ?_
        have q1 : mg_p1 (((35 : Int), on.toInt, (0 : Int), (0 : Int), []) :: gs) = 0 + (mg_p1 gs) := rfl
        have q2 : mg_p2 (((35 : Int), on.toInt, (0 : Int), (0 : Int), []) :: gs) = 0 + (mg_p2 gs) := rfl
        have q3 : mg_p3 (((35 : Int), on.toInt, (0 : Int), (0 : Int), []) :: gs) = 3 + (mg_p3 gs) := rfl
        have q4 : mg_p4 (((35 : Int), on.toInt, (0 : Int), (0 : Int), []) :: gs) = 0 + (mg_p4 gs) := rfl
        refine ⟨_, _, _, bc, rfl, hS46, Or.inl ⟨⟨(RJ.fewer (pj' := []) hR49_ (fun _ h => nomatch h)), ?_, ?_⟩, rfl, ?_⟩⟩
        · exact (⟨⟨(show mg_k 35 from by decide), (show (0 : Int) ≤ z8.toInt from by omega), (show 0 ≤ (f 20).toInt from by omega), (show 1 ≤ (f 37).toInt from by omega), (show 0 ≤ (f 32).toInt from by omega), (show (f 32).toInt ≤ (f 5).toInt from by omega), (show (f 5).toInt ≤ 48 from by omega), (show (f 37).toInt ≤ 2 * ((f 5).toInt) + 2 from by omega), trivial⟩, mg_cast (mg_good_ext _ _ _ _ _ _ (fun i _ => by show g'44 34 i = g 34 i; rw [show g'44 34 = g'22 34 from h48_ 34 (by decide), show g'22 34 = g 34 from h27_ 34 (by decide)]) (fun i _ => by show g'44 38 i = g 38 i; rw [show g'44 38 = g'22 38 from h48_ 38 (by decide), show g'22 38 = g 38 from h27_ 38 (by decide)]) (fun i _ => by show g'44 23 i = g 23 i; rw [show g'44 23 = g'22 23 from h48_ 23 (by decide), show g'22 23 = g 23 from h27_ 23 (by decide)]) hrest) (by show (f 15).toInt + -1 = z8.toInt + 0; omega) (by show (f 20).toInt = (f 20).toInt; omega) (by show (f 37).toInt + 0 = (f 37).toInt + 0; omega) (by show (f 32).toInt + 0 = (f 32).toInt + 0; omega) (by show (f 5).toInt + -1 = (f 5).toInt + -1; omega)⟩ : mg_good (g'44 34) (g'44 38) (g'44 23) (((35 : Int), on.toInt, (0 : Int), (0 : Int), []) :: gs) (z8.toInt) ((f 20).toInt) ((f 37).toInt) ((f 32).toInt) ((f 5).toInt))
        · exact ⟨(by show 0 ≤ z37.toInt; omega), (by show z37.toInt ≤ (f 0).toInt; omega), (by show (f 0).toInt ≤ 512; omega), (by show 0 ≤ (f 24).toInt; omega), (by show (f 24).toInt + (f 20).toInt + mg_p1 (((35 : Int), on.toInt, (0 : Int), (0 : Int), []) :: gs) ≤ 4 * z37.toInt; omega), (by show (f 20).toInt ≤ z37.toInt; omega), (by show z8.toInt + mg_p2 (((35 : Int), on.toInt, (0 : Int), (0 : Int), []) :: gs) ≤ z37.toInt; omega), (by show mg_p3 (((35 : Int), on.toInt, (0 : Int), (0 : Int), []) :: gs) ≤ 20 * z37.toInt + 20; omega), (by show 0 ≤ z20.toInt; omega), (by show z20.toInt + 3 * (f 20).toInt + mg_p4 (((35 : Int), on.toInt, (0 : Int), (0 : Int), []) :: gs) ≤ 60 * z37.toInt + 60; omega), (by show 0 ≤ (f 62).toInt; omega), (by show (f 62).toInt + 64 * mj_n (g'44 16) z8.toNatClampNeg 3 ≤ 64 * z37.toInt; rw [show g'44 16 = g'22 16 from h48_ 16 (by decide), show g'22 16 = g 16 from h27_ 16 (by decide)]; omega), (by show 0 ≤ (f 44).toInt; omega), (by show (f 44).toInt ≤ z37.toInt; omega), (by show 0 ≤ (f 48).toInt; omega), (by show (f 48).toInt ≤ z37.toInt; omega), (by show 1 ≤ (f 53).toInt; omega), (by show (f 53).toInt ≤ z37.toInt + 1; omega), (by show 0 ≤ (f 19).toInt; omega), (by show (f 19).toInt ≤ 600; omega)⟩
        · show 100 * ((f 0).toInt - z37.toInt) + mg_p3 (((35 : Int), on.toInt, (0 : Int), (0 : Int), []) :: gs) < 100 * ((f 0).toInt - (f 4).toInt) + (1 + mg_p3 gs); omega
      · refine am_e13f hi_220_6 (am_cF (m := r31.toInt) (n := (69 : Int)) rfl (by decide) c36) ?_
        refine am_e2 (v := 39) hi_220_9 rfl ?_
        refine am_e32n (as := [.ref 39]) (la := [some (.ref 39)]) (rest := []) hi_220_10 (am_hd0 (M := 220) (by decide) 10) (Nat.le_of_ble_eq_true rfl) (Nat.le_of_ble_eq_true rfl) (show 1 ≤ am_P0.2.2.1 183 from by decide +kernel) rfl (am_recv_ok hS33.fs) rfl rfl (ct_next (d := (d + 3)) hS33   (by show (0 : Int) ≤ (f 4).toInt; omega) (by show (f 0).toInt ≤ (16384 : Int); omega)) ?_
        rintro v50 S51 (⟨r52, hv53, hS54, h55⟩)
        subst hv53
        have h55_ : (f 4).toInt < (f 0).toInt ∨ r52.toInt = (-1 : Int) := h55
        show am_E _ _ _ _ [some (.ref 39), some (.int on)] [.int r52] _ _
        refine am_e0 hi_220_13 ?_
        by_cases c57 : ¬ r52.toInt = (67 : Int)
        · refine am_e13t hi_220_15 (am_cT (m := r52.toInt) (n := (67 : Int)) rfl (by decide) c57) ?_
          refine am_e2 (v := 39) hi_220_40 rfl ?_
          refine am_e0 hi_220_41 ?_
          refine am_e32n (as := [.ref 39, .int 63]) (la := [some (.ref 39), some (.int 63)]) (rest := []) hi_220_43 (am_hd0 (M := 220) (by decide) 43) (Nat.le_of_ble_eq_true rfl) (Nat.le_of_ble_eq_true rfl) (show 2 ≤ am_P0.2.2.1 199 from by decide +kernel) rfl (am_recv_ok hS54.fs) rfl rfl (ct_leave (d := (d + 1)) hS54   (by show (0 : Int) ≤ (f 4).toInt; omega) (by show (f 0).toInt ≤ (16384 : Int); omega) (by show (0 : Int) ≤ (63 : Int); omega) (by show (0 : Int) ≤ (f 5).toInt; omega) (by show (f 5).toInt ≤ (48 : Int); omega)) ?_
          rintro v58 S59 (⟨z60, y61, hv62, hS63, h64, h65, h66⟩ | ⟨a68, b69, hv70, hS71⟩)
          · subst hv62
            have h64_ : z60.toInt = (f 4).toInt + 1 := h64
            have h65_ : (f 4).toInt < (f 0).toInt := h65
            have h66_ : y61.toInt = (f 5).toInt - 1 := h66
            replace hS63 : MS S0 S59 (upd (upd (upd (upd f 4 z60) 5 y61) 15 z8) 68 z20) g'22 := hS63
            have hR73 : RJ (upd (upd (upd (upd f 4 z60) 5 y61) 15 z8) 68 z20) g'22 gs bc [] 0 ((f 68).toNatClampNeg :: []) := RJ.at hR28_ (by show (f 4).toInt ≤ z60.toInt; omega)
            show am_E _ _ _ _ [some (.ref 39), some (.int on)] [.int 1] _ _
            refine am_e6i hi_220_46 ?_
            refine am_e35 hi_220_47 ?_
            show am_E _ _ _ _ [some (.ref 39), some (.int on), some (.int tw), some (.int 1)] [] _ _
            refine am_e35 hi_221_95 ?_
            show am_E _ _ _ _ [some (.ref 39), some (.int 39), some (.int on), some (.int tw)] [] _ _
            refine am_e18 hi_181_366 ?_
            refine am_e35 hi_181_397 ?_
            show am_E _ _ _ _ [some (.ref 39), some (.int 39), some (.int on), some (.int tw), some (.int th)] [] _ _
            refine am_e35 hi_180_13 ?_
            have q1 : mg_p1 gs = mg_p1 gs := rfl
            have q2 : mg_p2 gs = mg_p2 gs := rfl
            have q3 : mg_p3 gs = mg_p3 gs := rfl
            have q4 : mg_p4 gs = mg_p4 gs := rfl
            refine ⟨_, _, _, bc, rfl, hS63, Or.inl ⟨⟨(RJ.fewer (pj' := []) hR73 (fun _ h => nomatch h)), ?_, ?_⟩, rfl, ?_⟩⟩
            · exact (mg_cast (mg_good_ext _ _ _ _ _ _ (fun i _ => by show g'22 34 i = g 34 i; rw [show g'22 34 = g 34 from h27_ 34 (by decide)]) (fun i _ => by show g'22 38 i = g 38 i; rw [show g'22 38 = g 38 from h27_ 38 (by decide)]) (fun i _ => by show g'22 23 i = g 23 i; rw [show g'22 23 = g 23 from h27_ 23 (by decide)]) hrest) (by show (f 15).toInt + -1 = z8.toInt; omega) (by show (f 20).toInt = (f 20).toInt; omega) (by show (f 37).toInt + 0 = (f 37).toInt; omega) (by show (f 32).toInt + 0 = (f 32).toInt; omega) (by show (f 5).toInt + -1 = y61.toInt; omega) : mg_good (g'22 34) (g'22 38) (g'22 23) gs (z8.toInt) ((f 20).toInt) ((f 37).toInt) ((f 32).toInt) (y61.toInt))
            · exact ⟨(by show 0 ≤ z60.toInt; omega), (by show z60.toInt ≤ (f 0).toInt; omega), (by show (f 0).toInt ≤ 512; omega), (by show 0 ≤ (f 24).toInt; omega), (by show (f 24).toInt + (f 20).toInt + mg_p1 gs ≤ 4 * z60.toInt; omega), (by show (f 20).toInt ≤ z60.toInt; omega), (by show z8.toInt + mg_p2 gs ≤ z60.toInt; omega), (by show mg_p3 gs ≤ 20 * z60.toInt + 20; omega), (by show 0 ≤ z20.toInt; omega), (by show z20.toInt + 3 * (f 20).toInt + mg_p4 gs ≤ 60 * z60.toInt + 60; omega), (by show 0 ≤ (f 62).toInt; omega), (by show (f 62).toInt + 64 * mj_n (g'22 16) z8.toNatClampNeg 3 ≤ 64 * z60.toInt; rw [show g'22 16 = g 16 from h27_ 16 (by decide)]; omega), (by show 0 ≤ (f 44).toInt; omega), (by show (f 44).toInt ≤ z60.toInt; omega), (by show 0 ≤ (f 48).toInt; omega), (by show (f 48).toInt ≤ z60.toInt; omega), (by show 1 ≤ (f 53).toInt; omega), (by show (f 53).toInt ≤ z60.toInt + 1; omega), (by show 0 ≤ (f 19).toInt; omega), (by show (f 19).toInt ≤ 600; omega)⟩
            · show 100 * ((f 0).toInt - z60.toInt) + mg_p3 gs < 100 * ((f 0).toInt - (f 4).toInt) + (1 + mg_p3 gs); omega
          · subst hv70
            replace hS71 : MS S0 S59 (upd (upd (upd (upd (upd f 6 a68) 7 b69) 10 0) 15 z8) 68 z20) g'22 := hS71
            have hR74 := rj_clear0 hR28_
            have hR75 : RJ (upd (upd (upd (upd (upd f 6 a68) 7 b69) 10 0) 15 z8) 68 z20) g'22 [] bc [] 0 [] := hR74
            show am_E _ _ _ _ [some (.ref 39), some (.int on)] [.int 0] _ _
            refine am_e6i hi_220_46 ?_
            refine am_e35 hi_220_47 ?_
            show am_E _ _ _ _ [some (.ref 39), some (.int on), some (.int tw), some (.int 1)] [] _ _
            refine am_e35 hi_221_95 ?_
            show am_E _ _ _ _ [some (.ref 39), some (.int 39), some (.int on), some (.int tw)] [] _ _
            refine am_e18 hi_181_366 ?_
            refine am_e35 hi_181_397 ?_
            show am_E _ _ _ _ [some (.ref 39), some (.int 39), some (.int on), some (.int tw), some (.int th)] [] _ _
            refine am_e35 hi_180_13 ?_
            have hRc := rj_clear0 hR75
            refine ⟨_, _, [], _, rfl, hS71, Or.inr ⟨hRc, rfl, (by show 0 ≤ (f 4).toInt; omega), (by show (f 4).toInt ≤ (f 0).toInt; omega), (by show 0 ≤ (f 32).toInt; omega), (by show (f 32).toInt ≤ 63; omega), (by show 1 ≤ (f 53).toInt; omega), (by show (f 53).toInt ≤ 600; omega), (by show 0 ≤ z20.toInt; omega), (by show z20.toInt ≤ 60000; omega), (by show 0 ≤ (f 48).toInt; omega), (by show (f 48).toInt ≤ 8000; omega), (by show 0 ≤ (f 37).toInt; omega), (by show (f 37).toInt ≤ 128; omega), (by show 0 ≤ (f 62).toInt; omega), (by show (f 62).toInt ≤ 65000; omega), (by show 0 ≤ (f 19).toInt; omega), (by show (f 19).toInt ≤ 600; omega)⟩⟩
        · refine am_e13f hi_220_15 (am_cF (m := r52.toInt) (n := (67 : Int)) rfl (by decide) c57) ?_
          refine am_e2 (v := 39) hi_220_18 rfl ?_
          refine am_e7 hi_220_19 ?_
          refine mm_20 (v := .int (f 4)) hS54 hi_220_20 rfl ?_
          refine am_e0 hi_220_23 ?_
          obtain ⟨z76, hz76, tz76⟩ := am_addI (x := f 4) (y := 1) (m := (f 4).toInt) (n := (1 : Int)) rfl (by decide) (by omega) (by omega)
          refine am_e10 (z := z76) hi_220_24 hz76 ?_
          refine mm_21 (v := z76) hS54 hi_220_25 rfl (Nat.le_of_ble_eq_true rfl) ms_4 ?_
          intro S77 hS78
          replace hS78 : MS S0 S77 (upd (upd (upd f 4 z76) 15 z8) 68 z20) g'22 := hS78
          have hR79 : RJ (upd (upd (upd f 4 z76) 15 z8) 68 z20) g'22 gs bc [] 0 ((f 68).toNatClampNeg :: []) := RJ.at hR28_ (by show (f 4).toInt ≤ z76.toInt; omega)
          refine am_e2 (v := 39) hi_220_28 rfl ?_
          refine am_e0 hi_220_29 ?_
          refine am_e1 (v := on) hi_220_31 rfl ?_
          refine am_e0 hi_220_32 ?_
          refine am_e0 hi_220_33 ?_
          refine am_e32n (as := [.ref 39, .int 35, .int on, .int 0, .int 0]) (la := [some (.ref 39), some (.int 35), some (.int on), some (.int 0), some (.int 0)]) (rest := []) hi_220_34 (am_hd0 (M := 220) (by decide) 34) (Nat.le_of_ble_eq_true rfl) (Nat.le_of_ble_eq_true rfl) (show 5 ≤ am_P0.2.2.1 179 from by decide +kernel) rfl (am_recv_ok hS78.fs) rfl rfl (ct_pile (d := (d + 4)) hS78 hR79 (mj_e_plain (by decide)) (by show (0 : Int) ≤ (f 10).toInt; omega) (by show (f 10).toInt ≤ (65535 : Int); omega)) ?_
          rintro v80 S81 (⟨z82, g'83, hv84, hS85, hR88, h86, h87⟩)
          subst hv84
          have h86_ : z82.toInt = (f 10).toInt + 1 := h86
          have h87_ : ∀ j, j ∉ [11, 12, 13, 14] → g'83 j = g'22 j := h87
          replace hS85 : MS S0 S81 (upd (upd (upd (upd f 4 z76) 10 z82) 15 z8) 68 z20) g'83 := hS85
          have hR88_ : RJ (upd (upd (upd (upd f 4 z76) 10 z82) 15 z8) 68 z20) g'83 (((35 : Int), on.toInt, (0 : Int), (0 : Int), []) :: gs) bc [] 0 ((f 68).toNatClampNeg :: []) := hR88
          show am_E _ _ _ _ [some (.ref 39), some (.int on)] [] _ _
          refine am_e18 hi_220_37 ?_
          refine am_e35 hi_220_47 ?_
          show am_E _ _ _ _ [some (.ref 39), some (.int on), some (.int tw), some (.int 1)] [] _ _
          refine am_e35 hi_221_95 ?_
          show am_E _ _ _ _ [some (.ref 39), some (.int 39), some (.int on), some (.int tw)] [] _ _
          refine am_e18 hi_181_366 ?_
          refine am_e35 hi_181_397 ?_
          show am_E _ _ _ _ [some (.ref 39), some (.int 39), some (.int on), some (.int tw), some (.int th)] [] _ _
          refine am_e35 hi_180_13 ?_
          have q1 : mg_p1 (((35 : Int), on.toInt, (0 : Int), (0 : Int), []) :: gs) = 0 + (mg_p1 gs) := rfl
          have q2 : mg_p2 (((35 : Int), on.toInt, (0 : Int), (0 : Int), []) :: gs) = 0 + (mg_p2 gs) := rfl
          have q3 : mg_p3 (((35 : Int), on.toInt, (0 : Int), (0 : Int), []) :: gs) = 3 + (mg_p3 gs) := rfl
          have q4 : mg_p4 (((35 : Int), on.toInt, (0 : Int), (0 : Int), []) :: gs) = 0 + (mg_p4 gs) := rfl
          refine ⟨_, _, _, bc, rfl, hS85, Or.inl ⟨⟨(RJ.fewer (pj' := []) hR88_ (fun _ h => nomatch h)), ?_, ?_⟩, rfl, ?_⟩⟩
          · exact (⟨⟨(show mg_k 35 from by decide), (show (0 : Int) ≤ z8.toInt from by omega), (show 0 ≤ (f 20).toInt from by omega), (show 1 ≤ (f 37).toInt from by omega), (show 0 ≤ (f 32).toInt from by omega), (show (f 32).toInt ≤ (f 5).toInt from by omega), (show (f 5).toInt ≤ 48 from by omega), (show (f 37).toInt ≤ 2 * ((f 5).toInt) + 2 from by omega), trivial⟩, mg_cast (mg_good_ext _ _ _ _ _ _ (fun i _ => by show g'83 34 i = g 34 i; rw [show g'83 34 = g'22 34 from h87_ 34 (by decide), show g'22 34 = g 34 from h27_ 34 (by decide)]) (fun i _ => by show g'83 38 i = g 38 i; rw [show g'83 38 = g'22 38 from h87_ 38 (by decide), show g'22 38 = g 38 from h27_ 38 (by decide)]) (fun i _ => by show g'83 23 i = g 23 i; rw [show g'83 23 = g'22 23 from h87_ 23 (by decide), show g'22 23 = g 23 from h27_ 23 (by decide)]) hrest) (by show (f 15).toInt + -1 = z8.toInt + 0; omega) (by show (f 20).toInt = (f 20).toInt; omega) (by show (f 37).toInt + 0 = (f 37).toInt + 0; omega) (by show (f 32).toInt + 0 = (f 32).toInt + 0; omega) (by show (f 5).toInt + -1 = (f 5).toInt + -1; omega)⟩ : mg_good (g'83 34) (g'83 38) (g'83 23) (((35 : Int), on.toInt, (0 : Int), (0 : Int), []) :: gs) (z8.toInt) ((f 20).toInt) ((f 37).toInt) ((f 32).toInt) ((f 5).toInt))
          · exact ⟨(by show 0 ≤ z76.toInt; omega), (by show z76.toInt ≤ (f 0).toInt; omega), (by show (f 0).toInt ≤ 512; omega), (by show 0 ≤ (f 24).toInt; omega), (by show (f 24).toInt + (f 20).toInt + mg_p1 (((35 : Int), on.toInt, (0 : Int), (0 : Int), []) :: gs) ≤ 4 * z76.toInt; omega), (by show (f 20).toInt ≤ z76.toInt; omega), (by show z8.toInt + mg_p2 (((35 : Int), on.toInt, (0 : Int), (0 : Int), []) :: gs) ≤ z76.toInt; omega), (by show mg_p3 (((35 : Int), on.toInt, (0 : Int), (0 : Int), []) :: gs) ≤ 20 * z76.toInt + 20; omega), (by show 0 ≤ z20.toInt; omega), (by show z20.toInt + 3 * (f 20).toInt + mg_p4 (((35 : Int), on.toInt, (0 : Int), (0 : Int), []) :: gs) ≤ 60 * z76.toInt + 60; omega), (by show 0 ≤ (f 62).toInt; omega), (by show (f 62).toInt + 64 * mj_n (g'83 16) z8.toNatClampNeg 3 ≤ 64 * z76.toInt; rw [show g'83 16 = g'22 16 from h87_ 16 (by decide), show g'22 16 = g 16 from h27_ 16 (by decide)]; omega), (by show 0 ≤ (f 44).toInt; omega), (by show (f 44).toInt ≤ z76.toInt; omega), (by show 0 ≤ (f 48).toInt; omega), (by show (f 48).toInt ≤ z76.toInt; omega), (by show 1 ≤ (f 53).toInt; omega), (by show (f 53).toInt ≤ z76.toInt + 1; omega), (by show 0 ≤ (f 19).toInt; omega), (by show (f 19).toInt ≤ 600; omega)⟩
          · show 100 * ((f 0).toInt - z76.toInt) + mg_p3 (((35 : Int), on.toInt, (0 : Int), (0 : Int), []) :: gs) < 100 * ((f 0).toInt - (f 4).toInt) + (1 + mg_p3 gs); omega
    · refine am_e13f hi_216_12 (am_cF (m := (g 16 z8.toNatClampNeg).toInt) (n := (1 : Int)) rfl (by decide) c9) ?_
      refine am_e2 (v := 39) hi_216_15 rfl ?_
      refine mm_20 (v := .ref 46) hS4 hi_216_16 rfl ?_
      refine am_e2 (v := 39) hi_216_19 rfl ?_
      refine mm_20 (v := .int (f 15)) hS4 hi_216_20 rfl ?_
      refine am_e0 hi_216_23 ?_
      refine am_e10 (z := z8) hi_216_24 hz8 ?_
      refine mm_25 hS4 ma_16 hi_216_25 (by decide) (by omega) (by omega) ?_
      show am_E _ _ _ _ [some (.ref 39)] [.int (g 16 z8.toNatClampNeg)] _ _
      refine am_e0 hi_216_26 ?_
      by_cases c89 : ¬ (g 16 z8.toNatClampNeg).toInt = (2 : Int)
      · refine am_e13t hi_216_27 (am_cT (m := (g 16 z8.toNatClampNeg).toInt) (n := (2 : Int)) rfl (by decide) c89) ?_
        refine am_e0 hi_216_34 ?_
        refine am_e36 hi_216_35 (by decide) ?_
        show am_E _ _ _ _ [some (.ref 39), some (.int on), some (.int tw), some (.int 1)] [.int 0] _ _
        refine am_e12t hi_221_56 (by decide) ?_
        refine am_e2 (v := 39) hi_221_76 rfl ?_
        refine am_e32w (as := [.ref 39]) (la := [some (.ref 39)]) (rest := []) hi_221_77 (am_hd0 (M := 221) (by decide) 77) (Nat.le_of_ble_eq_true rfl) (Nat.le_of_ble_eq_true rfl) (show 1 ≤ am_P0.2.2.1 209 from by decide +kernel) rfl (am_recv_ok hS4.fs) rfl rfl ?_
        refine am_e2 (v := 39) hi_209_0 rfl ?_
        refine am_e32n (as := [.ref 39]) (la := [some (.ref 39), none, none, none]) (rest := []) hi_209_1 (am_hd0 (M := 209) (by decide) 1) (Nat.le_of_ble_eq_true rfl) (Nat.le_of_ble_eq_true rfl) (show 1 ≤ am_P0.2.2.1 204 from by decide +kernel) rfl (am_recv_ok hS4.fs) rfl rfl (ct_load (d := (d + 2)) hS4 hR  (by show (0 : Int) ≤ (f 32).toInt; omega) (by show (f 32).toInt ≤ (63 : Int); omega) (by show (f 53).toInt ≤ (4096 : Int); omega) (by show (0 : Int) ≤ (f 68).toInt; omega) (by show (f 68).toInt ≤ (65534 : Int); omega) (by show (1 : Int) ≤ (f 15).toInt; omega) (by show (f 15).toInt ≤ (32767 : Int); omega) (by show (0 : Int) ≤ (f 24).toInt; omega) (by show (f 24).toInt ≤ (16384 : Int); omega) (by show (0 : Int) ≤ (f 62).toInt; omega) (by show (f 62).toInt ≤ (65000 : Int); omega)) ?_
        rintro v90 S91 (⟨o92, s93, m94, g'95, hv96, hS97, hR104, h98, h99, h100, h101, h102, h103⟩)
        subst hv96
        have h98_ : (f 62).toInt ≤ o92.toInt := h98
        have h99_ : o92.toInt ≤ (f 62).toInt + 64 := h99
        have h100_ : (f 68).toInt ≤ s93.toInt := h100
        have h101_ : s93.toInt ≤ (f 68).toInt + 1 := h101
        have h102_ : o92.toInt + 64 * mj_n (g'95 16) (f 15).toNatClampNeg 3 ≤ (f 62).toInt + 64 * mj_n (g 16) (f 15).toNatClampNeg 3 := h102
        have h103_ : ∀ j, j ∉ [16, 60, 63, 64, 65, 66, 67, 69, 70, 71, 72, 73] → g'95 j = g j := h103
        have hR104_ : RJ (upd (upd (upd f 62 o92) 68 s93) 75 m94) g'95 gs bc [] 0 [] := hR104
        show am_E _ _ _ _ [some (.ref 39)] [] _ _
        refine am_e2 (v := 39) hi_209_4 rfl ?_
        refine am_e7 hi_209_5 ?_
        refine mm_20 (v := .int (f 15)) hS97 hi_209_6 rfl ?_
        refine am_e0 hi_209_9 ?_
        refine am_e10 (z := z8) hi_209_10 hz8 ?_
        refine mm_21 (v := z8) hS97 hi_209_11 rfl (Nat.le_of_ble_eq_true rfl) ms_15 ?_
        intro S105 hS106
        replace hS106 : MS S0 S105 (upd (upd (upd (upd f 15 z8) 62 o92) 68 s93) 75 m94) g'95 := hS106
        have hp107 : mj_n (g'95 16) (f 15).toNatClampNeg 3 = mj_n (g'95 16) z8.toNatClampNeg 3 + if (g'95 16 z8.toNatClampNeg).toInt = 3 then 1 else 0 := mj_pop (by rw [cl_toNat, cl_toNat]; omega)
        have hp1071 : mj_n (g'95 16) z8.toNatClampNeg 3 ≤ mj_n (g'95 16) (f 15).toNatClampNeg 3 := by rw [hp107]; split <;> omega
        have hp1072 : (g'95 16 z8.toNatClampNeg).toInt = 3 → mj_n (g'95 16) z8.toNatClampNeg 3 + 1 ≤ mj_n (g'95 16) (f 15).toNatClampNeg 3 := fun q => by rw [hp107, if_pos q]; exact Int.le_refl _
        refine am_e35 hi_209_14 ?_
        show am_E _ _ _ _ [some (.ref 39), some (.int on), some (.int tw), some (.int 1)] [] _ _
        refine am_e2 (v := 39) hi_221_80 rfl ?_
        refine am_e0 hi_221_81 ?_
        refine am_e1 (v := on) hi_221_83 rfl ?_
        refine am_e0 hi_221_84 ?_
        refine am_e1 (v := tw) hi_221_85 rfl ?_
        refine am_e32n (as := [.ref 39, .int 23, .int on, .int 0, .int tw]) (la := [some (.ref 39), some (.int 23), some (.int on), some (.int 0), some (.int tw)]) (rest := []) hi_221_86 (am_hd0 (M := 221) (by decide) 86) (Nat.le_of_ble_eq_true rfl) (Nat.le_of_ble_eq_true rfl) (show 5 ≤ am_P0.2.2.1 189 from by decide +kernel) rfl (am_recv_ok hS106.fs) rfl rfl (ct_put (d := (d + 5)) hS106 hR104_  (by show (0 : Int) ≤ (f 32).toInt; omega) (by show (f 32).toInt ≤ (63 : Int); omega) (by show (f 53).toInt ≤ (4096 : Int); omega) (by show (0 : Int) ≤ s93.toInt; omega) (by show s93.toInt ≤ (65534 : Int); omega)) ?_
        rintro v108 S109 (⟨z110, r111, g'112, hv113, hS114, hR118, h115, h116, h117⟩)
        subst hv113
        have h115_ : z110.toInt = s93.toInt + 1 := h115
        have h116_ : r111.toInt = s93.toInt := h116
        have h117_ : ∀ j, j ∉ [60, 69, 70, 71, 72, 73] → g'112 j = g'95 j := h117
        replace hS114 : MS S0 S109 (upd (upd (upd (upd f 15 z8) 62 o92) 68 z110) 75 m94) g'112 := hS114
        have hR118_ : RJ (upd (upd (upd (upd f 15 z8) 62 o92) 68 z110) 75 m94) g'112 gs bc [] 0 (s93.toNatClampNeg :: []) := hR118
        show am_E _ _ _ _ [some (.ref 39), some (.int on), some (.int tw), some (.int 1)] [.int r111] _ _
        refine am_e6i hi_221_89 ?_
        refine am_e2 (v := 39) hi_221_90 rfl ?_
        refine am_e1 (v := on) hi_221_91 rfl ?_
        refine am_e32w (as := [.ref 39, .int on]) (la := [some (.ref 39), some (.int on)]) (rest := []) hi_221_92 (am_hd0 (M := 221) (by decide) 92) (Nat.le_of_ble_eq_true rfl) (Nat.le_of_ble_eq_true rfl) (show 2 ≤ am_P0.2.2.1 220 from by decide +kernel) rfl (am_recv_ok hS114.fs) rfl rfl ?_
        refine am_e2 (v := 39) hi_220_0 rfl ?_
        refine am_e32n (as := [.ref 39]) (la := [some (.ref 39)]) (rest := []) hi_220_1 (am_hd0 (M := 220) (by decide) 1) (Nat.le_of_ble_eq_true rfl) (Nat.le_of_ble_eq_true rfl) (show 1 ≤ am_P0.2.2.1 183 from by decide +kernel) rfl (am_recv_ok hS114.fs) rfl rfl (ct_next (d := (d + 3)) hS114   (by show (0 : Int) ≤ (f 4).toInt; omega) (by show (f 0).toInt ≤ (16384 : Int); omega)) ?_
        rintro v119 S120 (⟨r121, hv122, hS123, h124⟩)
        subst hv122
        have h124_ : (f 4).toInt < (f 0).toInt ∨ r121.toInt = (-1 : Int) := h124
        show am_E _ _ _ _ [some (.ref 39), some (.int on)] [.int r121] _ _
        refine am_e0 hi_220_4 ?_
        by_cases c126 : r121.toInt = (69 : Int)
        · refine am_e13t hi_220_6 (am_cT (m := r121.toInt) (n := (69 : Int)) rfl (by decide) c126) ?_
          refine am_e2 (v := 39) hi_220_18 rfl ?_
          refine am_e7 hi_220_19 ?_
          refine mm_20 (v := .int (f 4)) hS123 hi_220_20 rfl ?_
          refine am_e0 hi_220_23 ?_
          obtain ⟨z127, hz127, tz127⟩ := am_addI (x := f 4) (y := 1) (m := (f 4).toInt) (n := (1 : Int)) rfl (by decide) (by omega) (by omega)
          refine am_e10 (z := z127) hi_220_24 hz127 ?_
          refine mm_21 (v := z127) hS123 hi_220_25 rfl (Nat.le_of_ble_eq_true rfl) ms_4 ?_
          intro S128 hS129
          replace hS129 : MS S0 S128 (upd (upd (upd (upd (upd f 4 z127) 15 z8) 62 o92) 68 z110) 75 m94) g'112 := hS129
          have hR130 : RJ (upd (upd (upd (upd (upd f 4 z127) 15 z8) 62 o92) 68 z110) 75 m94) g'112 gs bc [] 0 (s93.toNatClampNeg :: []) := RJ.at hR118_ (by show (f 4).toInt ≤ z127.toInt; omega)
          refine am_e2 (v := 39) hi_220_28 rfl ?_
          refine am_e0 hi_220_29 ?_
          refine am_e1 (v := on) hi_220_31 rfl ?_
          refine am_e0 hi_220_32 ?_
          refine am_e0 hi_220_33 ?_
          refine am_e32n (as := [.ref 39, .int 35, .int on, .int 0, .int 0]) (la := [some (.ref 39), some (.int 35), some (.int on), some (.int 0), some (.int 0)]) (rest := []) hi_220_34 (am_hd0 (M := 220) (by decide) 34) (Nat.le_of_ble_eq_true rfl) (Nat.le_of_ble_eq_true rfl) (show 5 ≤ am_P0.2.2.1 179 from by decide +kernel) rfl (am_recv_ok hS129.fs) rfl rfl (ct_pile (d := (d + 4)) hS129 hR130 (mj_e_plain (by decide)) (by show (0 : Int) ≤ (f 10).toInt; omega) (by show (f 10).toInt ≤ (65535 : Int); omega)) ?_
          rintro v131 S132 (⟨z133, g'134, hv135, hS136, hR139, h137, h138⟩)
          subst hv135
          have h137_ : z133.toInt = (f 10).toInt + 1 := h137
          have h138_ : ∀ j, j ∉ [11, 12, 13, 14] → g'134 j = g'112 j := h138
          replace hS136 : MS S0 S132 (upd (upd (upd (upd (upd (upd f 4 z127) 10 z133) 15 z8) 62 o92) 68 z110) 75 m94) g'134 := hS136
          have hR139_ : RJ (upd (upd (upd (upd (upd (upd f 4 z127) 10 z133) 15 z8) 62 o92) 68 z110) 75 m94) g'134 (((35 : Int), on.toInt, (0 : Int), (0 : Int), []) :: gs) bc [] 0 (s93.toNatClampNeg :: []) := hR139
          show am_E _ _ _ _ [some (.ref 39), some (.int on)] [] _ _
          refine am_e18 hi_220_37 ?_
          refine am_e35 hi_220_47 ?_
          show am_E _ _ _ _ [some (.ref 39), some (.int on), some (.int tw), some (.int 1)] [] _ _
          refine am_e35 hi_221_95 ?_
          show am_E _ _ _ _ [some (.ref 39), some (.int 39), some (.int on), some (.int tw)] [] _ _
          refine am_e18 hi_181_366 ?_
          refine am_e35 hi_181_397 ?_
          show am_E _ _ _ _ [some (.ref 39), some (.int 39), some (.int on), some (.int tw), some (.int th)] [] _ _
          refine am_e35 hi_180_13 ?_
          have q1 : mg_p1 (((35 : Int), on.toInt, (0 : Int), (0 : Int), []) :: gs) = 0 + (mg_p1 gs) := rfl
          have q2 : mg_p2 (((35 : Int), on.toInt, (0 : Int), (0 : Int), []) :: gs) = 0 + (mg_p2 gs) := rfl
          have q3 : mg_p3 (((35 : Int), on.toInt, (0 : Int), (0 : Int), []) :: gs) = 3 + (mg_p3 gs) := rfl
          have q4 : mg_p4 (((35 : Int), on.toInt, (0 : Int), (0 : Int), []) :: gs) = 0 + (mg_p4 gs) := rfl
          refine ⟨_, _, _, bc, rfl, hS136, Or.inl ⟨⟨(RJ.fewer (pj' := []) hR139_ (fun _ h => nomatch h)), ?_, ?_⟩, rfl, ?_⟩⟩
          · exact (⟨⟨(show mg_k 35 from by decide), (show (0 : Int) ≤ z8.toInt from by omega), (show 0 ≤ (f 20).toInt from by omega), (show 1 ≤ (f 37).toInt from by omega), (show 0 ≤ (f 32).toInt from by omega), (show (f 32).toInt ≤ (f 5).toInt from by omega), (show (f 5).toInt ≤ 48 from by omega), (show (f 37).toInt ≤ 2 * ((f 5).toInt) + 2 from by omega), trivial⟩, mg_cast (mg_good_ext _ _ _ _ _ _ (fun i _ => by show g'134 34 i = g 34 i; rw [show g'134 34 = g'112 34 from h138_ 34 (by decide), show g'112 34 = g'95 34 from h117_ 34 (by decide), show g'95 34 = g 34 from h103_ 34 (by decide)]) (fun i _ => by show g'134 38 i = g 38 i; rw [show g'134 38 = g'112 38 from h138_ 38 (by decide), show g'112 38 = g'95 38 from h117_ 38 (by decide), show g'95 38 = g 38 from h103_ 38 (by decide)]) (fun i _ => by show g'134 23 i = g 23 i; rw [show g'134 23 = g'112 23 from h138_ 23 (by decide), show g'112 23 = g'95 23 from h117_ 23 (by decide), show g'95 23 = g 23 from h103_ 23 (by decide)]) hrest) (by show (f 15).toInt + -1 = z8.toInt + 0; omega) (by show (f 20).toInt = (f 20).toInt; omega) (by show (f 37).toInt + 0 = (f 37).toInt + 0; omega) (by show (f 32).toInt + 0 = (f 32).toInt + 0; omega) (by show (f 5).toInt + -1 = (f 5).toInt + -1; omega)⟩ : mg_good (g'134 34) (g'134 38) (g'134 23) (((35 : Int), on.toInt, (0 : Int), (0 : Int), []) :: gs) (z8.toInt) ((f 20).toInt) ((f 37).toInt) ((f 32).toInt) ((f 5).toInt))
          · exact ⟨(by show 0 ≤ z127.toInt; omega), (by show z127.toInt ≤ (f 0).toInt; omega), (by show (f 0).toInt ≤ 512; omega), (by show 0 ≤ (f 24).toInt; omega), (by show (f 24).toInt + (f 20).toInt + mg_p1 (((35 : Int), on.toInt, (0 : Int), (0 : Int), []) :: gs) ≤ 4 * z127.toInt; omega), (by show (f 20).toInt ≤ z127.toInt; omega), (by show z8.toInt + mg_p2 (((35 : Int), on.toInt, (0 : Int), (0 : Int), []) :: gs) ≤ z127.toInt; omega), (by show mg_p3 (((35 : Int), on.toInt, (0 : Int), (0 : Int), []) :: gs) ≤ 20 * z127.toInt + 20; omega), (by show 0 ≤ z110.toInt; omega), (by show z110.toInt + 3 * (f 20).toInt + mg_p4 (((35 : Int), on.toInt, (0 : Int), (0 : Int), []) :: gs) ≤ 60 * z127.toInt + 60; omega), (by show 0 ≤ o92.toInt; omega), (by show o92.toInt + 64 * mj_n (g'134 16) z8.toNatClampNeg 3 ≤ 64 * z127.toInt; rw [show g'134 16 = g'112 16 from h138_ 16 (by decide), show g'112 16 = g'95 16 from h117_ 16 (by decide)]; omega), (by show 0 ≤ (f 44).toInt; omega), (by show (f 44).toInt ≤ z127.toInt; omega), (by show 0 ≤ (f 48).toInt; omega), (by show (f 48).toInt ≤ z127.toInt; omega), (by show 1 ≤ (f 53).toInt; omega), (by show (f 53).toInt ≤ z127.toInt + 1; omega), (by show 0 ≤ (f 19).toInt; omega), (by show (f 19).toInt ≤ 600; omega)⟩
          · show 100 * ((f 0).toInt - z127.toInt) + mg_p3 (((35 : Int), on.toInt, (0 : Int), (0 : Int), []) :: gs) < 100 * ((f 0).toInt - (f 4).toInt) + (1 + mg_p3 gs); omega
        · refine am_e13f hi_220_6 (am_cF (m := r121.toInt) (n := (69 : Int)) rfl (by decide) c126) ?_
          refine am_e2 (v := 39) hi_220_9 rfl ?_
          refine am_e32n (as := [.ref 39]) (la := [some (.ref 39)]) (rest := []) hi_220_10 (am_hd0 (M := 220) (by decide) 10) (Nat.le_of_ble_eq_true rfl) (Nat.le_of_ble_eq_true rfl) (show 1 ≤ am_P0.2.2.1 183 from by decide +kernel) rfl (am_recv_ok hS123.fs) rfl rfl (ct_next (d := (d + 3)) hS123   (by show (0 : Int) ≤ (f 4).toInt; omega) (by show (f 0).toInt ≤ (16384 : Int); omega)) ?_
          rintro v140 S141 (⟨r142, hv143, hS144, h145⟩)
          subst hv143
          have h145_ : (f 4).toInt < (f 0).toInt ∨ r142.toInt = (-1 : Int) := h145
          show am_E _ _ _ _ [some (.ref 39), some (.int on)] [.int r142] _ _
          refine am_e0 hi_220_13 ?_
          by_cases c147 : ¬ r142.toInt = (67 : Int)
          · refine am_e13t hi_220_15 (am_cT (m := r142.toInt) (n := (67 : Int)) rfl (by decide) c147) ?_
            refine am_e2 (v := 39) hi_220_40 rfl ?_
            refine am_e0 hi_220_41 ?_
            refine am_e32n (as := [.ref 39, .int 63]) (la := [some (.ref 39), some (.int 63)]) (rest := []) hi_220_43 (am_hd0 (M := 220) (by decide) 43) (Nat.le_of_ble_eq_true rfl) (Nat.le_of_ble_eq_true rfl) (show 2 ≤ am_P0.2.2.1 199 from by decide +kernel) rfl (am_recv_ok hS144.fs) rfl rfl (ct_leave (d := (d + 1)) hS144   (by show (0 : Int) ≤ (f 4).toInt; omega) (by show (f 0).toInt ≤ (16384 : Int); omega) (by show (0 : Int) ≤ (63 : Int); omega) (by show (0 : Int) ≤ (f 5).toInt; omega) (by show (f 5).toInt ≤ (48 : Int); omega)) ?_
            rintro v148 S149 (⟨z150, y151, hv152, hS153, h154, h155, h156⟩ | ⟨a158, b159, hv160, hS161⟩)
            · subst hv152
              have h154_ : z150.toInt = (f 4).toInt + 1 := h154
              have h155_ : (f 4).toInt < (f 0).toInt := h155
              have h156_ : y151.toInt = (f 5).toInt - 1 := h156
              replace hS153 : MS S0 S149 (upd (upd (upd (upd (upd (upd f 4 z150) 5 y151) 15 z8) 62 o92) 68 z110) 75 m94) g'112 := hS153
              have hR163 : RJ (upd (upd (upd (upd (upd (upd f 4 z150) 5 y151) 15 z8) 62 o92) 68 z110) 75 m94) g'112 gs bc [] 0 (s93.toNatClampNeg :: []) := RJ.at hR118_ (by show (f 4).toInt ≤ z150.toInt; omega)
              show am_E _ _ _ _ [some (.ref 39), some (.int on)] [.int 1] _ _
              refine am_e6i hi_220_46 ?_
              refine am_e35 hi_220_47 ?_
              show am_E _ _ _ _ [some (.ref 39), some (.int on), some (.int tw), some (.int 1)] [] _ _
              refine am_e35 hi_221_95 ?_
              show am_E _ _ _ _ [some (.ref 39), some (.int 39), some (.int on), some (.int tw)] [] _ _
              refine am_e18 hi_181_366 ?_
              refine am_e35 hi_181_397 ?_
              show am_E _ _ _ _ [some (.ref 39), some (.int 39), some (.int on), some (.int tw), some (.int th)] [] _ _
              refine am_e35 hi_180_13 ?_
              have q1 : mg_p1 gs = mg_p1 gs := rfl
              have q2 : mg_p2 gs = mg_p2 gs := rfl
              have q3 : mg_p3 gs = mg_p3 gs := rfl
              have q4 : mg_p4 gs = mg_p4 gs := rfl
              refine ⟨_, _, _, bc, rfl, hS153, Or.inl ⟨⟨(RJ.fewer (pj' := []) hR163 (fun _ h => nomatch h)), ?_, ?_⟩, rfl, ?_⟩⟩
              · exact (mg_cast (mg_good_ext _ _ _ _ _ _ (fun i _ => by show g'112 34 i = g 34 i; rw [show g'112 34 = g'95 34 from h117_ 34 (by decide), show g'95 34 = g 34 from h103_ 34 (by decide)]) (fun i _ => by show g'112 38 i = g 38 i; rw [show g'112 38 = g'95 38 from h117_ 38 (by decide), show g'95 38 = g 38 from h103_ 38 (by decide)]) (fun i _ => by show g'112 23 i = g 23 i; rw [show g'112 23 = g'95 23 from h117_ 23 (by decide), show g'95 23 = g 23 from h103_ 23 (by decide)]) hrest) (by show (f 15).toInt + -1 = z8.toInt; omega) (by show (f 20).toInt = (f 20).toInt; omega) (by show (f 37).toInt + 0 = (f 37).toInt; omega) (by show (f 32).toInt + 0 = (f 32).toInt; omega) (by show (f 5).toInt + -1 = y151.toInt; omega) : mg_good (g'112 34) (g'112 38) (g'112 23) gs (z8.toInt) ((f 20).toInt) ((f 37).toInt) ((f 32).toInt) (y151.toInt))
              · exact ⟨(by show 0 ≤ z150.toInt; omega), (by show z150.toInt ≤ (f 0).toInt; omega), (by show (f 0).toInt ≤ 512; omega), (by show 0 ≤ (f 24).toInt; omega), (by show (f 24).toInt + (f 20).toInt + mg_p1 gs ≤ 4 * z150.toInt; omega), (by show (f 20).toInt ≤ z150.toInt; omega), (by show z8.toInt + mg_p2 gs ≤ z150.toInt; omega), (by show mg_p3 gs ≤ 20 * z150.toInt + 20; omega), (by show 0 ≤ z110.toInt; omega), (by show z110.toInt + 3 * (f 20).toInt + mg_p4 gs ≤ 60 * z150.toInt + 60; omega), (by show 0 ≤ o92.toInt; omega), (by show o92.toInt + 64 * mj_n (g'112 16) z8.toNatClampNeg 3 ≤ 64 * z150.toInt; rw [show g'112 16 = g'95 16 from h117_ 16 (by decide)]; omega), (by show 0 ≤ (f 44).toInt; omega), (by show (f 44).toInt ≤ z150.toInt; omega), (by show 0 ≤ (f 48).toInt; omega), (by show (f 48).toInt ≤ z150.toInt; omega), (by show 1 ≤ (f 53).toInt; omega), (by show (f 53).toInt ≤ z150.toInt + 1; omega), (by show 0 ≤ (f 19).toInt; omega), (by show (f 19).toInt ≤ 600; omega)⟩
              · show 100 * ((f 0).toInt - z150.toInt) + mg_p3 gs < 100 * ((f 0).toInt - (f 4).toInt) + (1 + mg_p3 gs); omega
            · subst hv160
              replace hS161 : MS S0 S149 (upd (upd (upd (upd (upd (upd (upd f 6 a158) 7 b159) 10 0) 15 z8) 62 o92) 68 z110) 75 m94) g'112 := hS161
              have hR164 := rj_clear0 hR118_
              have hR165 : RJ (upd (upd (upd (upd (upd (upd (upd f 6 a158) 7 b159) 10 0) 15 z8) 62 o92) 68 z110) 75 m94) g'112 [] bc [] 0 [] := hR164
              show am_E _ _ _ _ [some (.ref 39), some (.int on)] [.int 0] _ _
              refine am_e6i hi_220_46 ?_
              refine am_e35 hi_220_47 ?_
              show am_E _ _ _ _ [some (.ref 39), some (.int on), some (.int tw), some (.int 1)] [] _ _
              refine am_e35 hi_221_95 ?_
              show am_E _ _ _ _ [some (.ref 39), some (.int 39), some (.int on), some (.int tw)] [] _ _
              refine am_e18 hi_181_366 ?_
              refine am_e35 hi_181_397 ?_
              show am_E _ _ _ _ [some (.ref 39), some (.int 39), some (.int on), some (.int tw), some (.int th)] [] _ _
              refine am_e35 hi_180_13 ?_
              have hRc := rj_clear0 hR165
              refine ⟨_, _, [], _, rfl, hS161, Or.inr ⟨hRc, rfl, (by show 0 ≤ (f 4).toInt; omega), (by show (f 4).toInt ≤ (f 0).toInt; omega), (by show 0 ≤ (f 32).toInt; omega), (by show (f 32).toInt ≤ 63; omega), (by show 1 ≤ (f 53).toInt; omega), (by show (f 53).toInt ≤ 600; omega), (by show 0 ≤ z110.toInt; omega), (by show z110.toInt ≤ 60000; omega), (by show 0 ≤ (f 48).toInt; omega), (by show (f 48).toInt ≤ 8000; omega), (by show 0 ≤ (f 37).toInt; omega), (by show (f 37).toInt ≤ 128; omega), (by show 0 ≤ o92.toInt; omega), (by show o92.toInt ≤ 65000; omega), (by show 0 ≤ (f 19).toInt; omega), (by show (f 19).toInt ≤ 600; omega)⟩⟩
          · refine am_e13f hi_220_15 (am_cF (m := r142.toInt) (n := (67 : Int)) rfl (by decide) c147) ?_
            refine am_e2 (v := 39) hi_220_18 rfl ?_
            refine am_e7 hi_220_19 ?_
            refine mm_20 (v := .int (f 4)) hS144 hi_220_20 rfl ?_
            refine am_e0 hi_220_23 ?_
            obtain ⟨z166, hz166, tz166⟩ := am_addI (x := f 4) (y := 1) (m := (f 4).toInt) (n := (1 : Int)) rfl (by decide) (by omega) (by omega)
            refine am_e10 (z := z166) hi_220_24 hz166 ?_
            refine mm_21 (v := z166) hS144 hi_220_25 rfl (Nat.le_of_ble_eq_true rfl) ms_4 ?_
            intro S167 hS168
            replace hS168 : MS S0 S167 (upd (upd (upd (upd (upd f 4 z166) 15 z8) 62 o92) 68 z110) 75 m94) g'112 := hS168
            have hR169 : RJ (upd (upd (upd (upd (upd f 4 z166) 15 z8) 62 o92) 68 z110) 75 m94) g'112 gs bc [] 0 (s93.toNatClampNeg :: []) := RJ.at hR118_ (by show (f 4).toInt ≤ z166.toInt; omega)
            refine am_e2 (v := 39) hi_220_28 rfl ?_
            refine am_e0 hi_220_29 ?_
            refine am_e1 (v := on) hi_220_31 rfl ?_
            refine am_e0 hi_220_32 ?_
            refine am_e0 hi_220_33 ?_
            refine am_e32n (as := [.ref 39, .int 35, .int on, .int 0, .int 0]) (la := [some (.ref 39), some (.int 35), some (.int on), some (.int 0), some (.int 0)]) (rest := []) hi_220_34 (am_hd0 (M := 220) (by decide) 34) (Nat.le_of_ble_eq_true rfl) (Nat.le_of_ble_eq_true rfl) (show 5 ≤ am_P0.2.2.1 179 from by decide +kernel) rfl (am_recv_ok hS168.fs) rfl rfl (ct_pile (d := (d + 4)) hS168 hR169 (mj_e_plain (by decide)) (by show (0 : Int) ≤ (f 10).toInt; omega) (by show (f 10).toInt ≤ (65535 : Int); omega)) ?_
            rintro v170 S171 (⟨z172, g'173, hv174, hS175, hR178, h176, h177⟩)
            subst hv174
            have h176_ : z172.toInt = (f 10).toInt + 1 := h176
            have h177_ : ∀ j, j ∉ [11, 12, 13, 14] → g'173 j = g'112 j := h177
            replace hS175 : MS S0 S171 (upd (upd (upd (upd (upd (upd f 4 z166) 10 z172) 15 z8) 62 o92) 68 z110) 75 m94) g'173 := hS175
            have hR178_ : RJ (upd (upd (upd (upd (upd (upd f 4 z166) 10 z172) 15 z8) 62 o92) 68 z110) 75 m94) g'173 (((35 : Int), on.toInt, (0 : Int), (0 : Int), []) :: gs) bc [] 0 (s93.toNatClampNeg :: []) := hR178
            show am_E _ _ _ _ [some (.ref 39), some (.int on)] [] _ _
            refine am_e18 hi_220_37 ?_
            refine am_e35 hi_220_47 ?_
            show am_E _ _ _ _ [some (.ref 39), some (.int on), some (.int tw), some (.int 1)] [] _ _
            refine am_e35 hi_221_95 ?_
            show am_E _ _ _ _ [some (.ref 39), some (.int 39), some (.int on), some (.int tw)] [] _ _
            refine am_e18 hi_181_366 ?_
            refine am_e35 hi_181_397 ?_
            show am_E _ _ _ _ [some (.ref 39), some (.int 39), some (.int on), some (.int tw), some (.int th)] [] _ _
            refine am_e35 hi_180_13 ?_
            have q1 : mg_p1 (((35 : Int), on.toInt, (0 : Int), (0 : Int), []) :: gs) = 0 + (mg_p1 gs) := rfl
            have q2 : mg_p2 (((35 : Int), on.toInt, (0 : Int), (0 : Int), []) :: gs) = 0 + (mg_p2 gs) := rfl
            have q3 : mg_p3 (((35 : Int), on.toInt, (0 : Int), (0 : Int), []) :: gs) = 3 + (mg_p3 gs) := rfl
            have q4 : mg_p4 (((35 : Int), on.toInt, (0 : Int), (0 : Int), []) :: gs) = 0 + (mg_p4 gs) := rfl
            refine ⟨_, _, _, bc, rfl, hS175, Or.inl ⟨⟨(RJ.fewer (pj' := []) hR178_ (fun _ h => nomatch h)), ?_, ?_⟩, rfl, ?_⟩⟩
            · exact (⟨⟨(show mg_k 35 from by decide), (show (0 : Int) ≤ z8.toInt from by omega), (show 0 ≤ (f 20).toInt from by omega), (show 1 ≤ (f 37).toInt from by omega), (show 0 ≤ (f 32).toInt from by omega), (show (f 32).toInt ≤ (f 5).toInt from by omega), (show (f 5).toInt ≤ 48 from by omega), (show (f 37).toInt ≤ 2 * ((f 5).toInt) + 2 from by omega), trivial⟩, mg_cast (mg_good_ext _ _ _ _ _ _ (fun i _ => by show g'173 34 i = g 34 i; rw [show g'173 34 = g'112 34 from h177_ 34 (by decide), show g'112 34 = g'95 34 from h117_ 34 (by decide), show g'95 34 = g 34 from h103_ 34 (by decide)]) (fun i _ => by show g'173 38 i = g 38 i; rw [show g'173 38 = g'112 38 from h177_ 38 (by decide), show g'112 38 = g'95 38 from h117_ 38 (by decide), show g'95 38 = g 38 from h103_ 38 (by decide)]) (fun i _ => by show g'173 23 i = g 23 i; rw [show g'173 23 = g'112 23 from h177_ 23 (by decide), show g'112 23 = g'95 23 from h117_ 23 (by decide), show g'95 23 = g 23 from h103_ 23 (by decide)]) hrest) (by show (f 15).toInt + -1 = z8.toInt + 0; omega) (by show (f 20).toInt = (f 20).toInt; omega) (by show (f 37).toInt + 0 = (f 37).toInt + 0; omega) (by show (f 32).toInt + 0 = (f 32).toInt + 0; omega) (by show (f 5).toInt + -1 = (f 5).toInt + -1; omega)⟩ : mg_good (g'173 34) (g'173 38) (g'173 23) (((35 : Int), on.toInt, (0 : Int), (0 : Int), []) :: gs) (z8.toInt) ((f 20).toInt) ((f 37).toInt) ((f 32).toInt) ((f 5).toInt))
            · exact ⟨(by show 0 ≤ z166.toInt; omega), (by show z166.toInt ≤ (f 0).toInt; omega), (by show (f 0).toInt ≤ 512; omega), (by show 0 ≤ (f 24).toInt; omega), (by show (f 24).toInt + (f 20).toInt + mg_p1 (((35 : Int), on.toInt, (0 : Int), (0 : Int), []) :: gs) ≤ 4 * z166.toInt; omega), (by show (f 20).toInt ≤ z166.toInt; omega), (by show z8.toInt + mg_p2 (((35 : Int), on.toInt, (0 : Int), (0 : Int), []) :: gs) ≤ z166.toInt; omega), (by show mg_p3 (((35 : Int), on.toInt, (0 : Int), (0 : Int), []) :: gs) ≤ 20 * z166.toInt + 20; omega), (by show 0 ≤ z110.toInt; omega), (by show z110.toInt + 3 * (f 20).toInt + mg_p4 (((35 : Int), on.toInt, (0 : Int), (0 : Int), []) :: gs) ≤ 60 * z166.toInt + 60; omega), (by show 0 ≤ o92.toInt; omega), (by show o92.toInt + 64 * mj_n (g'173 16) z8.toNatClampNeg 3 ≤ 64 * z166.toInt; rw [show g'173 16 = g'112 16 from h177_ 16 (by decide), show g'112 16 = g'95 16 from h117_ 16 (by decide)]; omega), (by show 0 ≤ (f 44).toInt; omega), (by show (f 44).toInt ≤ z166.toInt; omega), (by show 0 ≤ (f 48).toInt; omega), (by show (f 48).toInt ≤ z166.toInt; omega), (by show 1 ≤ (f 53).toInt; omega), (by show (f 53).toInt ≤ z166.toInt + 1; omega), (by show 0 ≤ (f 19).toInt; omega), (by show (f 19).toInt ≤ 600; omega)⟩
            · show 100 * ((f 0).toInt - z166.toInt) + mg_p3 (((35 : Int), on.toInt, (0 : Int), (0 : Int), []) :: gs) < 100 * ((f 0).toInt - (f 4).toInt) + (1 + mg_p3 gs); omega
      · refine am_e13f hi_216_27 (am_cF (m := (g 16 z8.toNatClampNeg).toInt) (n := (2 : Int)) rfl (by decide) c89) ?_
        refine am_e0 hi_216_30 ?_
        refine am_e18 hi_216_31 ?_
        refine am_e36 hi_216_35 (by decide) ?_
        show am_E _ _ _ _ [some (.ref 39), some (.int on), some (.int tw), some (.int 1)] [.int 1] _ _
        refine am_e12f hi_221_56 (by decide) ?_
        refine am_e2 (v := 39) hi_221_59 rfl ?_
        refine am_e32w (as := [.ref 39]) (la := [some (.ref 39), none]) (rest := []) hi_221_60 (am_hd0 (M := 221) (by decide) 60) (Nat.le_of_ble_eq_true rfl) (Nat.le_of_ble_eq_true rfl) (show 1 ≤ am_P0.2.2.1 217 from by decide +kernel) rfl (am_recv_ok hS4.fs) rfl rfl ?_
        refine am_e2 (v := 39) hi_217_0 rfl ?_
        refine mm_20 (v := .ref 47) hS4 hi_217_1 rfl ?_
        refine am_e2 (v := 39) hi_217_4 rfl ?_
        refine mm_20 (v := .int (f 15)) hS4 hi_217_5 rfl ?_
        refine am_e0 hi_217_8 ?_
        refine am_e10 (z := z8) hi_217_9 hz8 ?_
        refine mm_25 hS4 ma_17 hi_217_10 (by decide) (by omega) (by omega) ?_
        show am_E _ _ _ _ [some (.ref 39), none] [.int (g 17 z8.toNatClampNeg)] _ _
        have r179 : (g 16 z8.toNatClampNeg).toInt = 1 ∨ (g 16 z8.toNatClampNeg).toInt = 2 → 0 ≤ (g 17 z8.toNatClampNeg).toInt ∧ (g 17 z8.toNatClampNeg).toInt < 65536 := RJ.vc hR z8.toNatClampNeg
        refine am_e3 (ls' := [some (.ref 39), some (.int (g 17 z8.toNatClampNeg))]) hi_217_11 (Nat.le_of_ble_eq_true rfl) rfl ?_
        refine am_e2 (v := 39) hi_217_12 rfl ?_
        refine mm_20 (v := .ref 91) hS4 hi_217_13 rfl ?_
        refine am_e1 (v := g 17 z8.toNatClampNeg) hi_217_16 rfl ?_
        refine am_e2 (v := 39) hi_217_17 rfl ?_
        refine mm_20 (v := .ref 46) hS4 hi_217_18 rfl ?_
        refine am_e2 (v := 39) hi_217_21 rfl ?_
        refine mm_20 (v := .int (f 15)) hS4 hi_217_22 rfl ?_
        refine am_e0 hi_217_25 ?_
        refine am_e10 (z := z8) hi_217_26 hz8 ?_
        refine mm_25 hS4 ma_16 hi_217_27 (by decide) (by omega) (by omega) ?_
        show am_E _ _ _ _ [some (.ref 39), some (.int (g 17 z8.toNatClampNeg))] [.int (g 16 z8.toNatClampNeg), .int (g 17 z8.toNatClampNeg), .ref 91] _ _
        refine am_e0 hi_217_28 ?_
        refine am_e13t hi_217_29 (am_cT (m := (g 16 z8.toNatClampNeg).toInt) (n := (1 : Int)) rfl (by decide) (by simp only [am_cI]; omega)) ?_
        refine am_e0 hi_217_45 ?_
        refine mm_26 hS4 ma_72 hi_217_46 (by decide) (by omega) (by omega) (fun h => nomatch h) ?_
        intro S180 hS181
        refine am_e2 (v := 39) hi_217_47 rfl ?_
        refine am_e7 hi_217_48 ?_
        refine mm_20 (v := .int (f 15)) hS181 hi_217_49 rfl ?_
        refine am_e0 hi_217_52 ?_
        refine am_e10 (z := z8) hi_217_53 hz8 ?_
        refine mm_21 (v := z8) hS181 hi_217_54 rfl (Nat.le_of_ble_eq_true rfl) ms_15 ?_
        intro S182 hS183
        have hp184 : mj_n (g 16) (f 15).toNatClampNeg 3 = mj_n (g 16) z8.toNatClampNeg 3 + if (g 16 z8.toNatClampNeg).toInt = 3 then 1 else 0 := mj_pop (by rw [cl_toNat, cl_toNat]; omega)
        have hp1841 : mj_n (g 16) z8.toNatClampNeg 3 ≤ mj_n (g 16) (f 15).toNatClampNeg 3 := by rw [hp184]; split <;> omega
        have hp1842 : (g 16 z8.toNatClampNeg).toInt = 3 → mj_n (g 16) z8.toNatClampNeg 3 + 1 ≤ mj_n (g 16) (f 15).toNatClampNeg 3 := fun q => by rw [hp184, if_pos q]; exact Int.le_refl _
        refine am_e35 hi_217_57 ?_
        show am_E _ _ _ _ [some (.ref 39), some (.int on), some (.int tw), some (.int 1)] [] _ _
        refine am_e2 (v := 39) hi_221_63 rfl ?_
        refine am_e0 hi_221_64 ?_
        refine am_e1 (v := on) hi_221_66 rfl ?_
        refine am_e0 hi_221_67 ?_
        refine am_e1 (v := tw) hi_221_68 rfl ?_
        refine am_e32n (as := [.ref 39, .int 24, .int on, .int 0, .int tw]) (la := [some (.ref 39), some (.int 24), some (.int on), some (.int 0), some (.int tw)]) (rest := []) hi_221_69 (am_hd0 (M := 221) (by decide) 69) (Nat.le_of_ble_eq_true rfl) (Nat.le_of_ble_eq_true rfl) (show 5 ≤ am_P0.2.2.1 189 from by decide +kernel) rfl (am_recv_ok hS183.fs) rfl rfl (ct_put (d := (d + 5)) hS183 hR  (by show (0 : Int) ≤ (f 32).toInt; omega) (by show (f 32).toInt ≤ (63 : Int); omega) (by show (f 53).toInt ≤ (4096 : Int); omega) (by show (0 : Int) ≤ (f 68).toInt; omega) (by show (f 68).toInt ≤ (65534 : Int); omega)) ?_
        rintro v185 S186 (⟨z187, r188, g'189, hv190, hS191, hR195, h192, h193, h194⟩)
        subst hv190
        have h192_ : z187.toInt = (f 68).toInt + 1 := h192
        have h193_ : r188.toInt = (f 68).toInt := h193
        have h194_ : ∀ j, j ∉ [60, 69, 70, 71, 72, 73] → g'189 j = (upg g 72 (g 17 z8.toNatClampNeg).toNatClampNeg 0) j := h194
        have hR195_ : RJ (upd (upd f 15 z8) 68 z187) g'189 gs bc [] 0 ((f 68).toNatClampNeg :: []) := hR195
        show am_E _ _ _ _ [some (.ref 39), some (.int on), some (.int tw), some (.int 1)] [.int r188] _ _
        refine am_e6i hi_221_72 ?_
        refine am_e18 hi_221_73 ?_
        refine am_e2 (v := 39) hi_221_90 rfl ?_
        refine am_e1 (v := on) hi_221_91 rfl ?_
        refine am_e32w (as := [.ref 39, .int on]) (la := [some (.ref 39), some (.int on)]) (rest := []) hi_221_92 (am_hd0 (M := 221) (by decide) 92) (Nat.le_of_ble_eq_true rfl) (Nat.le_of_ble_eq_true rfl) (show 2 ≤ am_P0.2.2.1 220 from by decide +kernel) rfl (am_recv_ok hS191.fs) rfl rfl ?_
        refine am_e2 (v := 39) hi_220_0 rfl ?_
        refine am_e32n (as := [.ref 39]) (la := [some (.ref 39)]) (rest := []) hi_220_1 (am_hd0 (M := 220) (by decide) 1) (Nat.le_of_ble_eq_true rfl) (Nat.le_of_ble_eq_true rfl) (show 1 ≤ am_P0.2.2.1 183 from by decide +kernel) rfl (am_recv_ok hS191.fs) rfl rfl (ct_next (d := (d + 3)) hS191   (by show (0 : Int) ≤ (f 4).toInt; omega) (by show (f 0).toInt ≤ (16384 : Int); omega)) ?_
        rintro v196 S197 (⟨r198, hv199, hS200, h201⟩)
        subst hv199
        have h201_ : (f 4).toInt < (f 0).toInt ∨ r198.toInt = (-1 : Int) := h201
        show am_E _ _ _ _ [some (.ref 39), some (.int on)] [.int r198] _ _
        refine am_e0 hi_220_4 ?_
        by_cases c203 : r198.toInt = (69 : Int)
        · refine am_e13t hi_220_6 (am_cT (m := r198.toInt) (n := (69 : Int)) rfl (by decide) c203) ?_
          refine am_e2 (v := 39) hi_220_18 rfl ?_
          refine am_e7 hi_220_19 ?_
          refine mm_20 (v := .int (f 4)) hS200 hi_220_20 rfl ?_
          refine am_e0 hi_220_23 ?_
          obtain ⟨z204, hz204, tz204⟩ := am_addI (x := f 4) (y := 1) (m := (f 4).toInt) (n := (1 : Int)) rfl (by decide) (by omega) (by omega)
          refine am_e10 (z := z204) hi_220_24 hz204 ?_
          refine mm_21 (v := z204) hS200 hi_220_25 rfl (Nat.le_of_ble_eq_true rfl) ms_4 ?_
          intro S205 hS206
          replace hS206 : MS S0 S205 (upd (upd (upd f 4 z204) 15 z8) 68 z187) g'189 := hS206
          have hR207 : RJ (upd (upd (upd f 4 z204) 15 z8) 68 z187) g'189 gs bc [] 0 ((f 68).toNatClampNeg :: []) := RJ.at hR195_ (by show (f 4).toInt ≤ z204.toInt; omega)
          refine am_e2 (v := 39) hi_220_28 rfl ?_
          refine am_e0 hi_220_29 ?_
          refine am_e1 (v := on) hi_220_31 rfl ?_
          refine am_e0 hi_220_32 ?_
          refine am_e0 hi_220_33 ?_
          refine am_e32n (as := [.ref 39, .int 35, .int on, .int 0, .int 0]) (la := [some (.ref 39), some (.int 35), some (.int on), some (.int 0), some (.int 0)]) (rest := []) hi_220_34 (am_hd0 (M := 220) (by decide) 34) (Nat.le_of_ble_eq_true rfl) (Nat.le_of_ble_eq_true rfl) (show 5 ≤ am_P0.2.2.1 179 from by decide +kernel) rfl (am_recv_ok hS206.fs) rfl rfl (ct_pile (d := (d + 4)) hS206 hR207 (mj_e_plain (by decide)) (by show (0 : Int) ≤ (f 10).toInt; omega) (by show (f 10).toInt ≤ (65535 : Int); omega)) ?_
          rintro v208 S209 (⟨z210, g'211, hv212, hS213, hR216, h214, h215⟩)
          subst hv212
          have h214_ : z210.toInt = (f 10).toInt + 1 := h214
          have h215_ : ∀ j, j ∉ [11, 12, 13, 14] → g'211 j = g'189 j := h215
          replace hS213 : MS S0 S209 (upd (upd (upd (upd f 4 z204) 10 z210) 15 z8) 68 z187) g'211 := hS213
          have hR216_ : RJ (upd (upd (upd (upd f 4 z204) 10 z210) 15 z8) 68 z187) g'211 (((35 : Int), on.toInt, (0 : Int), (0 : Int), []) :: gs) bc [] 0 ((f 68).toNatClampNeg :: []) := hR216
          show am_E _ _ _ _ [some (.ref 39), some (.int on)] [] _ _
          refine am_e18 hi_220_37 ?_
          refine am_e35 hi_220_47 ?_
          show am_E _ _ _ _ [some (.ref 39), some (.int on), some (.int tw), some (.int 1)] [] _ _
          refine am_e35 hi_221_95 ?_
          show am_E _ _ _ _ [some (.ref 39), some (.int 39), some (.int on), some (.int tw)] [] _ _
          refine am_e18 hi_181_366 ?_
          refine am_e35 hi_181_397 ?_
          show am_E _ _ _ _ [some (.ref 39), some (.int 39), some (.int on), some (.int tw), some (.int th)] [] _ _
          refine am_e35 hi_180_13 ?_
          have q1 : mg_p1 (((35 : Int), on.toInt, (0 : Int), (0 : Int), []) :: gs) = 0 + (mg_p1 gs) := rfl
          have q2 : mg_p2 (((35 : Int), on.toInt, (0 : Int), (0 : Int), []) :: gs) = 0 + (mg_p2 gs) := rfl
          have q3 : mg_p3 (((35 : Int), on.toInt, (0 : Int), (0 : Int), []) :: gs) = 3 + (mg_p3 gs) := rfl
          have q4 : mg_p4 (((35 : Int), on.toInt, (0 : Int), (0 : Int), []) :: gs) = 0 + (mg_p4 gs) := rfl
          refine ⟨_, _, _, bc, rfl, hS213, Or.inl ⟨⟨(RJ.fewer (pj' := []) hR216_ (fun _ h => nomatch h)), ?_, ?_⟩, rfl, ?_⟩⟩
          · exact (⟨⟨(show mg_k 35 from by decide), (show (0 : Int) ≤ z8.toInt from by omega), (show 0 ≤ (f 20).toInt from by omega), (show 1 ≤ (f 37).toInt from by omega), (show 0 ≤ (f 32).toInt from by omega), (show (f 32).toInt ≤ (f 5).toInt from by omega), (show (f 5).toInt ≤ 48 from by omega), (show (f 37).toInt ≤ 2 * ((f 5).toInt) + 2 from by omega), trivial⟩, mg_cast (mg_good_ext _ _ _ _ _ _ (fun i _ => by show g'211 34 i = g 34 i; rw [show g'211 34 = g'189 34 from h215_ 34 (by decide), show g'189 34 = g 34 from h194_ 34 (by decide)]) (fun i _ => by show g'211 38 i = g 38 i; rw [show g'211 38 = g'189 38 from h215_ 38 (by decide), show g'189 38 = g 38 from h194_ 38 (by decide)]) (fun i _ => by show g'211 23 i = g 23 i; rw [show g'211 23 = g'189 23 from h215_ 23 (by decide), show g'189 23 = g 23 from h194_ 23 (by decide)]) hrest) (by show (f 15).toInt + -1 = z8.toInt + 0; omega) (by show (f 20).toInt = (f 20).toInt; omega) (by show (f 37).toInt + 0 = (f 37).toInt + 0; omega) (by show (f 32).toInt + 0 = (f 32).toInt + 0; omega) (by show (f 5).toInt + -1 = (f 5).toInt + -1; omega)⟩ : mg_good (g'211 34) (g'211 38) (g'211 23) (((35 : Int), on.toInt, (0 : Int), (0 : Int), []) :: gs) (z8.toInt) ((f 20).toInt) ((f 37).toInt) ((f 32).toInt) ((f 5).toInt))
          · exact ⟨(by show 0 ≤ z204.toInt; omega), (by show z204.toInt ≤ (f 0).toInt; omega), (by show (f 0).toInt ≤ 512; omega), (by show 0 ≤ (f 24).toInt; omega), (by show (f 24).toInt + (f 20).toInt + mg_p1 (((35 : Int), on.toInt, (0 : Int), (0 : Int), []) :: gs) ≤ 4 * z204.toInt; omega), (by show (f 20).toInt ≤ z204.toInt; omega), (by show z8.toInt + mg_p2 (((35 : Int), on.toInt, (0 : Int), (0 : Int), []) :: gs) ≤ z204.toInt; omega), (by show mg_p3 (((35 : Int), on.toInt, (0 : Int), (0 : Int), []) :: gs) ≤ 20 * z204.toInt + 20; omega), (by show 0 ≤ z187.toInt; omega), (by show z187.toInt + 3 * (f 20).toInt + mg_p4 (((35 : Int), on.toInt, (0 : Int), (0 : Int), []) :: gs) ≤ 60 * z204.toInt + 60; omega), (by show 0 ≤ (f 62).toInt; omega), (by show (f 62).toInt + 64 * mj_n (g'211 16) z8.toNatClampNeg 3 ≤ 64 * z204.toInt; rw [show g'211 16 = g'189 16 from h215_ 16 (by decide), show g'189 16 = g 16 from h194_ 16 (by decide)]; omega), (by show 0 ≤ (f 44).toInt; omega), (by show (f 44).toInt ≤ z204.toInt; omega), (by show 0 ≤ (f 48).toInt; omega), (by show (f 48).toInt ≤ z204.toInt; omega), (by show 1 ≤ (f 53).toInt; omega), (by show (f 53).toInt ≤ z204.toInt + 1; omega), (by show 0 ≤ (f 19).toInt; omega), (by show (f 19).toInt ≤ 600; omega)⟩
          · show 100 * ((f 0).toInt - z204.toInt) + mg_p3 (((35 : Int), on.toInt, (0 : Int), (0 : Int), []) :: gs) < 100 * ((f 0).toInt - (f 4).toInt) + (1 + mg_p3 gs); omega
        · refine am_e13f hi_220_6 (am_cF (m := r198.toInt) (n := (69 : Int)) rfl (by decide) c203) ?_
          refine am_e2 (v := 39) hi_220_9 rfl ?_
          refine am_e32n (as := [.ref 39]) (la := [some (.ref 39)]) (rest := []) hi_220_10 (am_hd0 (M := 220) (by decide) 10) (Nat.le_of_ble_eq_true rfl) (Nat.le_of_ble_eq_true rfl) (show 1 ≤ am_P0.2.2.1 183 from by decide +kernel) rfl (am_recv_ok hS200.fs) rfl rfl (ct_next (d := (d + 3)) hS200   (by show (0 : Int) ≤ (f 4).toInt; omega) (by show (f 0).toInt ≤ (16384 : Int); omega)) ?_
          rintro v217 S218 (⟨r219, hv220, hS221, h222⟩)
          subst hv220
          have h222_ : (f 4).toInt < (f 0).toInt ∨ r219.toInt = (-1 : Int) := h222
          show am_E _ _ _ _ [some (.ref 39), some (.int on)] [.int r219] _ _
          refine am_e0 hi_220_13 ?_
          by_cases c224 : ¬ r219.toInt = (67 : Int)
          · refine am_e13t hi_220_15 (am_cT (m := r219.toInt) (n := (67 : Int)) rfl (by decide) c224) ?_
            refine am_e2 (v := 39) hi_220_40 rfl ?_
            refine am_e0 hi_220_41 ?_
            refine am_e32n (as := [.ref 39, .int 63]) (la := [some (.ref 39), some (.int 63)]) (rest := []) hi_220_43 (am_hd0 (M := 220) (by decide) 43) (Nat.le_of_ble_eq_true rfl) (Nat.le_of_ble_eq_true rfl) (show 2 ≤ am_P0.2.2.1 199 from by decide +kernel) rfl (am_recv_ok hS221.fs) rfl rfl (ct_leave (d := (d + 1)) hS221   (by show (0 : Int) ≤ (f 4).toInt; omega) (by show (f 0).toInt ≤ (16384 : Int); omega) (by show (0 : Int) ≤ (63 : Int); omega) (by show (0 : Int) ≤ (f 5).toInt; omega) (by show (f 5).toInt ≤ (48 : Int); omega)) ?_
            rintro v225 S226 (⟨z227, y228, hv229, hS230, h231, h232, h233⟩ | ⟨a235, b236, hv237, hS238⟩)
            · subst hv229
              have h231_ : z227.toInt = (f 4).toInt + 1 := h231
              have h232_ : (f 4).toInt < (f 0).toInt := h232
              have h233_ : y228.toInt = (f 5).toInt - 1 := h233
              replace hS230 : MS S0 S226 (upd (upd (upd (upd f 4 z227) 5 y228) 15 z8) 68 z187) g'189 := hS230
              have hR240 : RJ (upd (upd (upd (upd f 4 z227) 5 y228) 15 z8) 68 z187) g'189 gs bc [] 0 ((f 68).toNatClampNeg :: []) := RJ.at hR195_ (by show (f 4).toInt ≤ z227.toInt; omega)
              show am_E _ _ _ _ [some (.ref 39), some (.int on)] [.int 1] _ _
              refine am_e6i hi_220_46 ?_
              refine am_e35 hi_220_47 ?_
              show am_E _ _ _ _ [some (.ref 39), some (.int on), some (.int tw), some (.int 1)] [] _ _
              refine am_e35 hi_221_95 ?_
              show am_E _ _ _ _ [some (.ref 39), some (.int 39), some (.int on), some (.int tw)] [] _ _
              refine am_e18 hi_181_366 ?_
              refine am_e35 hi_181_397 ?_
              show am_E _ _ _ _ [some (.ref 39), some (.int 39), some (.int on), some (.int tw), some (.int th)] [] _ _
              refine am_e35 hi_180_13 ?_
              have q1 : mg_p1 gs = mg_p1 gs := rfl
              have q2 : mg_p2 gs = mg_p2 gs := rfl
              have q3 : mg_p3 gs = mg_p3 gs := rfl
              have q4 : mg_p4 gs = mg_p4 gs := rfl
              refine ⟨_, _, _, bc, rfl, hS230, Or.inl ⟨⟨(RJ.fewer (pj' := []) hR240 (fun _ h => nomatch h)), ?_, ?_⟩, rfl, ?_⟩⟩
              · exact (mg_cast (mg_good_ext _ _ _ _ _ _ (fun i _ => by show g'189 34 i = g 34 i; rw [show g'189 34 = g 34 from h194_ 34 (by decide)]) (fun i _ => by show g'189 38 i = g 38 i; rw [show g'189 38 = g 38 from h194_ 38 (by decide)]) (fun i _ => by show g'189 23 i = g 23 i; rw [show g'189 23 = g 23 from h194_ 23 (by decide)]) hrest) (by show (f 15).toInt + -1 = z8.toInt; omega) (by show (f 20).toInt = (f 20).toInt; omega) (by show (f 37).toInt + 0 = (f 37).toInt; omega) (by show (f 32).toInt + 0 = (f 32).toInt; omega) (by show (f 5).toInt + -1 = y228.toInt; omega) : mg_good (g'189 34) (g'189 38) (g'189 23) gs (z8.toInt) ((f 20).toInt) ((f 37).toInt) ((f 32).toInt) (y228.toInt))
              · exact ⟨(by show 0 ≤ z227.toInt; omega), (by show z227.toInt ≤ (f 0).toInt; omega), (by show (f 0).toInt ≤ 512; omega), (by show 0 ≤ (f 24).toInt; omega), (by show (f 24).toInt + (f 20).toInt + mg_p1 gs ≤ 4 * z227.toInt; omega), (by show (f 20).toInt ≤ z227.toInt; omega), (by show z8.toInt + mg_p2 gs ≤ z227.toInt; omega), (by show mg_p3 gs ≤ 20 * z227.toInt + 20; omega), (by show 0 ≤ z187.toInt; omega), (by show z187.toInt + 3 * (f 20).toInt + mg_p4 gs ≤ 60 * z227.toInt + 60; omega), (by show 0 ≤ (f 62).toInt; omega), (by show (f 62).toInt + 64 * mj_n (g'189 16) z8.toNatClampNeg 3 ≤ 64 * z227.toInt; rw [show g'189 16 = g 16 from h194_ 16 (by decide)]; omega), (by show 0 ≤ (f 44).toInt; omega), (by show (f 44).toInt ≤ z227.toInt; omega), (by show 0 ≤ (f 48).toInt; omega), (by show (f 48).toInt ≤ z227.toInt; omega), (by show 1 ≤ (f 53).toInt; omega), (by show (f 53).toInt ≤ z227.toInt + 1; omega), (by show 0 ≤ (f 19).toInt; omega), (by show (f 19).toInt ≤ 600; omega)⟩
              · show 100 * ((f 0).toInt - z227.toInt) + mg_p3 gs < 100 * ((f 0).toInt - (f 4).toInt) + (1 + mg_p3 gs); omega
            · subst hv237
              replace hS238 : MS S0 S226 (upd (upd (upd (upd (upd f 6 a235) 7 b236) 10 0) 15 z8) 68 z187) g'189 := hS238
              have hR241 := rj_clear0 hR195_
              have hR242 : RJ (upd (upd (upd (upd (upd f 6 a235) 7 b236) 10 0) 15 z8) 68 z187) g'189 [] bc [] 0 [] := hR241
              show am_E _ _ _ _ [some (.ref 39), some (.int on)] [.int 0] _ _
              refine am_e6i hi_220_46 ?_
              refine am_e35 hi_220_47 ?_
              show am_E _ _ _ _ [some (.ref 39), some (.int on), some (.int tw), some (.int 1)] [] _ _
              refine am_e35 hi_221_95 ?_
              show am_E _ _ _ _ [some (.ref 39), some (.int 39), some (.int on), some (.int tw)] [] _ _
              refine am_e18 hi_181_366 ?_
              refine am_e35 hi_181_397 ?_
              show am_E _ _ _ _ [some (.ref 39), some (.int 39), some (.int on), some (.int tw), some (.int th)] [] _ _
              refine am_e35 hi_180_13 ?_
              have hRc := rj_clear0 hR242
              refine ⟨_, _, [], _, rfl, hS238, Or.inr ⟨hRc, rfl, (by show 0 ≤ (f 4).toInt; omega), (by show (f 4).toInt ≤ (f 0).toInt; omega), (by show 0 ≤ (f 32).toInt; omega), (by show (f 32).toInt ≤ 63; omega), (by show 1 ≤ (f 53).toInt; omega), (by show (f 53).toInt ≤ 600; omega), (by show 0 ≤ z187.toInt; omega), (by show z187.toInt ≤ 60000; omega), (by show 0 ≤ (f 48).toInt; omega), (by show (f 48).toInt ≤ 8000; omega), (by show 0 ≤ (f 37).toInt; omega), (by show (f 37).toInt ≤ 128; omega), (by show 0 ≤ (f 62).toInt; omega), (by show (f 62).toInt ≤ 65000; omega), (by show 0 ≤ (f 19).toInt; omega), (by show (f 19).toInt ≤ 600; omega)⟩⟩
          · refine am_e13f hi_220_15 (am_cF (m := r219.toInt) (n := (67 : Int)) rfl (by decide) c224) ?_
            refine am_e2 (v := 39) hi_220_18 rfl ?_
            refine am_e7 hi_220_19 ?_
            refine mm_20 (v := .int (f 4)) hS221 hi_220_20 rfl ?_
            refine am_e0 hi_220_23 ?_
            obtain ⟨z243, hz243, tz243⟩ := am_addI (x := f 4) (y := 1) (m := (f 4).toInt) (n := (1 : Int)) rfl (by decide) (by omega) (by omega)
            refine am_e10 (z := z243) hi_220_24 hz243 ?_
            refine mm_21 (v := z243) hS221 hi_220_25 rfl (Nat.le_of_ble_eq_true rfl) ms_4 ?_
            intro S244 hS245
            replace hS245 : MS S0 S244 (upd (upd (upd f 4 z243) 15 z8) 68 z187) g'189 := hS245
            have hR246 : RJ (upd (upd (upd f 4 z243) 15 z8) 68 z187) g'189 gs bc [] 0 ((f 68).toNatClampNeg :: []) := RJ.at hR195_ (by show (f 4).toInt ≤ z243.toInt; omega)
            refine am_e2 (v := 39) hi_220_28 rfl ?_
            refine am_e0 hi_220_29 ?_
            refine am_e1 (v := on) hi_220_31 rfl ?_
            refine am_e0 hi_220_32 ?_
            refine am_e0 hi_220_33 ?_
            refine am_e32n (as := [.ref 39, .int 35, .int on, .int 0, .int 0]) (la := [some (.ref 39), some (.int 35), some (.int on), some (.int 0), some (.int 0)]) (rest := []) hi_220_34 (am_hd0 (M := 220) (by decide) 34) (Nat.le_of_ble_eq_true rfl) (Nat.le_of_ble_eq_true rfl) (show 5 ≤ am_P0.2.2.1 179 from by decide +kernel) rfl (am_recv_ok hS245.fs) rfl rfl (ct_pile (d := (d + 4)) hS245 hR246 (mj_e_plain (by decide)) (by show (0 : Int) ≤ (f 10).toInt; omega) (by show (f 10).toInt ≤ (65535 : Int); omega)) ?_
            rintro v247 S248 (⟨z249, g'250, hv251, hS252, hR255, h253, h254⟩)
            subst hv251
            have h253_ : z249.toInt = (f 10).toInt + 1 := h253
            have h254_ : ∀ j, j ∉ [11, 12, 13, 14] → g'250 j = g'189 j := h254
            replace hS252 : MS S0 S248 (upd (upd (upd (upd f 4 z243) 10 z249) 15 z8) 68 z187) g'250 := hS252
            have hR255_ : RJ (upd (upd (upd (upd f 4 z243) 10 z249) 15 z8) 68 z187) g'250 (((35 : Int), on.toInt, (0 : Int), (0 : Int), []) :: gs) bc [] 0 ((f 68).toNatClampNeg :: []) := hR255
            show am_E _ _ _ _ [some (.ref 39), some (.int on)] [] _ _
            refine am_e18 hi_220_37 ?_
            refine am_e35 hi_220_47 ?_
            show am_E _ _ _ _ [some (.ref 39), some (.int on), some (.int tw), some (.int 1)] [] _ _
            refine am_e35 hi_221_95 ?_
            show am_E _ _ _ _ [some (.ref 39), some (.int 39), some (.int on), some (.int tw)] [] _ _
            refine am_e18 hi_181_366 ?_
            refine am_e35 hi_181_397 ?_
            show am_E _ _ _ _ [some (.ref 39), some (.int 39), some (.int on), some (.int tw), some (.int th)] [] _ _
            refine am_e35 hi_180_13 ?_
            have q1 : mg_p1 (((35 : Int), on.toInt, (0 : Int), (0 : Int), []) :: gs) = 0 + (mg_p1 gs) := rfl
            have q2 : mg_p2 (((35 : Int), on.toInt, (0 : Int), (0 : Int), []) :: gs) = 0 + (mg_p2 gs) := rfl
            have q3 : mg_p3 (((35 : Int), on.toInt, (0 : Int), (0 : Int), []) :: gs) = 3 + (mg_p3 gs) := rfl
            have q4 : mg_p4 (((35 : Int), on.toInt, (0 : Int), (0 : Int), []) :: gs) = 0 + (mg_p4 gs) := rfl
            refine ⟨_, _, _, bc, rfl, hS252, Or.inl ⟨⟨(RJ.fewer (pj' := []) hR255_ (fun _ h => nomatch h)), ?_, ?_⟩, rfl, ?_⟩⟩
            · exact (⟨⟨(show mg_k 35 from by decide), (show (0 : Int) ≤ z8.toInt from by omega), (show 0 ≤ (f 20).toInt from by omega), (show 1 ≤ (f 37).toInt from by omega), (show 0 ≤ (f 32).toInt from by omega), (show (f 32).toInt ≤ (f 5).toInt from by omega), (show (f 5).toInt ≤ 48 from by omega), (show (f 37).toInt ≤ 2 * ((f 5).toInt) + 2 from by omega), trivial⟩, mg_cast (mg_good_ext _ _ _ _ _ _ (fun i _ => by show g'250 34 i = g 34 i; rw [show g'250 34 = g'189 34 from h254_ 34 (by decide), show g'189 34 = g 34 from h194_ 34 (by decide)]) (fun i _ => by show g'250 38 i = g 38 i; rw [show g'250 38 = g'189 38 from h254_ 38 (by decide), show g'189 38 = g 38 from h194_ 38 (by decide)]) (fun i _ => by show g'250 23 i = g 23 i; rw [show g'250 23 = g'189 23 from h254_ 23 (by decide), show g'189 23 = g 23 from h194_ 23 (by decide)]) hrest) (by show (f 15).toInt + -1 = z8.toInt + 0; omega) (by show (f 20).toInt = (f 20).toInt; omega) (by show (f 37).toInt + 0 = (f 37).toInt + 0; omega) (by show (f 32).toInt + 0 = (f 32).toInt + 0; omega) (by show (f 5).toInt + -1 = (f 5).toInt + -1; omega)⟩ : mg_good (g'250 34) (g'250 38) (g'250 23) (((35 : Int), on.toInt, (0 : Int), (0 : Int), []) :: gs) (z8.toInt) ((f 20).toInt) ((f 37).toInt) ((f 32).toInt) ((f 5).toInt))
            · exact ⟨(by show 0 ≤ z243.toInt; omega), (by show z243.toInt ≤ (f 0).toInt; omega), (by show (f 0).toInt ≤ 512; omega), (by show 0 ≤ (f 24).toInt; omega), (by show (f 24).toInt + (f 20).toInt + mg_p1 (((35 : Int), on.toInt, (0 : Int), (0 : Int), []) :: gs) ≤ 4 * z243.toInt; omega), (by show (f 20).toInt ≤ z243.toInt; omega), (by show z8.toInt + mg_p2 (((35 : Int), on.toInt, (0 : Int), (0 : Int), []) :: gs) ≤ z243.toInt; omega), (by show mg_p3 (((35 : Int), on.toInt, (0 : Int), (0 : Int), []) :: gs) ≤ 20 * z243.toInt + 20; omega), (by show 0 ≤ z187.toInt; omega), (by show z187.toInt + 3 * (f 20).toInt + mg_p4 (((35 : Int), on.toInt, (0 : Int), (0 : Int), []) :: gs) ≤ 60 * z243.toInt + 60; omega), (by show 0 ≤ (f 62).toInt; omega), (by show (f 62).toInt + 64 * mj_n (g'250 16) z8.toNatClampNeg 3 ≤ 64 * z243.toInt; rw [show g'250 16 = g'189 16 from h254_ 16 (by decide), show g'189 16 = g 16 from h194_ 16 (by decide)]; omega), (by show 0 ≤ (f 44).toInt; omega), (by show (f 44).toInt ≤ z243.toInt; omega), (by show 0 ≤ (f 48).toInt; omega), (by show (f 48).toInt ≤ z243.toInt; omega), (by show 1 ≤ (f 53).toInt; omega), (by show (f 53).toInt ≤ z243.toInt + 1; omega), (by show 0 ≤ (f 19).toInt; omega), (by show (f 19).toInt ≤ 600; omega)⟩
            · show 100 * ((f 0).toInt - z243.toInt) + mg_p3 (((35 : Int), on.toInt, (0 : Int), (0 : Int), []) :: gs) < 100 * ((f 0).toInt - (f 4).toInt) + (1 + mg_p3 gs); omega
  · refine am_e13f hi_221_6 (am_cF (m := r2.toInt) (n := (63 : Int)) rfl (by decide) c7) ?_
    refine am_e2 (v := 39) hi_221_9 rfl ?_
    refine am_e32n (as := [.ref 39]) (la := [some (.ref 39)]) (rest := []) hi_221_10 (am_hd0 (M := 221) (by decide) 10) (Nat.le_of_ble_eq_true rfl) (Nat.le_of_ble_eq_true rfl) (show 1 ≤ am_P0.2.2.1 183 from by decide +kernel) rfl (am_recv_ok hS4.fs) rfl rfl (ct_next (d := (d + 4)) hS4   (by show (0 : Int) ≤ (f 4).toInt; omega) (by show (f 0).toInt ≤ (16384 : Int); omega)) ?_
    rintro v256 S257 (⟨r258, hv259, hS260, h261⟩)
    subst hv259
    have h261_ : (f 4).toInt < (f 0).toInt ∨ r258.toInt = (-1 : Int) := h261
    show am_E _ _ _ _ [some (.ref 39), some (.int on), some (.int tw), none] [.int r258] _ _
    refine am_e0 hi_221_13 ?_
    by_cases c263 : r258.toInt = (69 : Int)
    · refine am_e13t hi_221_15 (am_cT (m := r258.toInt) (n := (69 : Int)) rfl (by decide) c263) ?_
      refine am_e2 (v := 39) hi_221_27 rfl ?_
      refine am_e2 (v := 39) hi_221_28 rfl ?_
      refine mm_20 (v := .int (f 4)) hS260 hi_221_29 rfl ?_
      refine am_e0 hi_221_32 ?_
      obtain ⟨z264, hz264, tz264⟩ := am_addI (x := f 4) (y := 1) (m := (f 4).toInt) (n := (1 : Int)) rfl (by decide) (by omega) (by omega)
      refine am_e10 (z := z264) hi_221_33 hz264 ?_
      refine am_e32n (as := [.ref 39, .int z264]) (la := [some (.ref 39), some (.int z264)]) (rest := []) hi_221_34 (am_hd0 (M := 221) (by decide) 34) (Nat.le_of_ble_eq_true rfl) (Nat.le_of_ble_eq_true rfl) (show 2 ≤ am_P0.2.2.1 184 from by decide +kernel) rfl (am_recv_ok hS260.fs) rfl rfl (ct_kindAt (d := (d + 5)) hS260   (by show (0 : Int) ≤ z264.toInt; omega) (by show (f 0).toInt ≤ (16384 : Int); omega)) ?_
      rintro v265 S266 (⟨r267, hv268, hS269, h270⟩)
      subst hv268
      have h270_ : z264.toInt < (f 0).toInt ∨ r267.toInt = (-1 : Int) := h270
      show am_E _ _ _ _ [some (.ref 39), some (.int on), some (.int tw), none] [.int r267] _ _
      refine am_e0 hi_221_37 ?_
      by_cases c272 : ¬ r267.toInt = (63 : Int)
      · refine am_e13t hi_221_39 (am_cT (m := r267.toInt) (n := (63 : Int)) rfl (by decide) c272) ?_
        refine am_e0 hi_221_46 ?_
        refine am_e3 (ls' := [some (.ref 39), some (.int on), some (.int tw), some (.int 0)]) hi_221_47 (Nat.le_of_ble_eq_true rfl) rfl ?_
        refine am_e1 (v := 0) hi_221_48 rfl ?_
        refine am_e12t hi_221_49 (by decide) ?_
        refine am_e2 (v := 39) hi_221_76 rfl ?_
        refine am_e32w (as := [.ref 39]) (la := [some (.ref 39)]) (rest := []) hi_221_77 (am_hd0 (M := 221) (by decide) 77) (Nat.le_of_ble_eq_true rfl) (Nat.le_of_ble_eq_true rfl) (show 1 ≤ am_P0.2.2.1 209 from by decide +kernel) rfl (am_recv_ok hS269.fs) rfl rfl ?_
        refine am_e2 (v := 39) hi_209_0 rfl ?_
        refine am_e32n (as := [.ref 39]) (la := [some (.ref 39), none, none, none]) (rest := []) hi_209_1 (am_hd0 (M := 209) (by decide) 1) (Nat.le_of_ble_eq_true rfl) (Nat.le_of_ble_eq_true rfl) (show 1 ≤ am_P0.2.2.1 204 from by decide +kernel) rfl (am_recv_ok hS269.fs) rfl rfl (ct_load (d := (d + 2)) hS269 hR  (by show (0 : Int) ≤ (f 32).toInt; omega) (by show (f 32).toInt ≤ (63 : Int); omega) (by show (f 53).toInt ≤ (4096 : Int); omega) (by show (0 : Int) ≤ (f 68).toInt; omega) (by show (f 68).toInt ≤ (65534 : Int); omega) (by show (1 : Int) ≤ (f 15).toInt; omega) (by show (f 15).toInt ≤ (32767 : Int); omega) (by show (0 : Int) ≤ (f 24).toInt; omega) (by show (f 24).toInt ≤ (16384 : Int); omega) (by show (0 : Int) ≤ (f 62).toInt; omega) (by show (f 62).toInt ≤ (65000 : Int); omega)) ?_
        rintro v273 S274 (⟨o275, s276, m277, g'278, hv279, hS280, hR287, h281, h282, h283, h284, h285, h286⟩)
        subst hv279
        have h281_ : (f 62).toInt ≤ o275.toInt := h281
        have h282_ : o275.toInt ≤ (f 62).toInt + 64 := h282
        have h283_ : (f 68).toInt ≤ s276.toInt := h283
        have h284_ : s276.toInt ≤ (f 68).toInt + 1 := h284
        have h285_ : o275.toInt + 64 * mj_n (g'278 16) (f 15).toNatClampNeg 3 ≤ (f 62).toInt + 64 * mj_n (g 16) (f 15).toNatClampNeg 3 := h285
        have h286_ : ∀ j, j ∉ [16, 60, 63, 64, 65, 66, 67, 69, 70, 71, 72, 73] → g'278 j = g j := h286
        have hR287_ : RJ (upd (upd (upd f 62 o275) 68 s276) 75 m277) g'278 gs bc [] 0 [] := hR287
        show am_E _ _ _ _ [some (.ref 39)] [] _ _
        refine am_e2 (v := 39) hi_209_4 rfl ?_
        refine am_e7 hi_209_5 ?_
        refine mm_20 (v := .int (f 15)) hS280 hi_209_6 rfl ?_
        refine am_e0 hi_209_9 ?_
        obtain ⟨z288, hz288, tz288⟩ := am_subI (x := f 15) (y := 1) (m := (f 15).toInt) (n := (1 : Int)) rfl (by decide) (by omega) (by omega)
        refine am_e10 (z := z288) hi_209_10 hz288 ?_
        refine mm_21 (v := z288) hS280 hi_209_11 rfl (Nat.le_of_ble_eq_true rfl) ms_15 ?_
        intro S289 hS290
        replace hS290 : MS S0 S289 (upd (upd (upd (upd f 15 z288) 62 o275) 68 s276) 75 m277) g'278 := hS290
        have hp291 : mj_n (g'278 16) (f 15).toNatClampNeg 3 = mj_n (g'278 16) z288.toNatClampNeg 3 + if (g'278 16 z288.toNatClampNeg).toInt = 3 then 1 else 0 := mj_pop (by rw [cl_toNat, cl_toNat]; omega)
        have hp2911 : mj_n (g'278 16) z288.toNatClampNeg 3 ≤ mj_n (g'278 16) (f 15).toNatClampNeg 3 := by rw [hp291]; split <;> omega
        have hp2912 : (g'278 16 z288.toNatClampNeg).toInt = 3 → mj_n (g'278 16) z288.toNatClampNeg 3 + 1 ≤ mj_n (g'278 16) (f 15).toNatClampNeg 3 := fun q => by rw [hp291, if_pos q]; exact Int.le_refl _
        refine am_e35 hi_209_14 ?_
        show am_E _ _ _ _ [some (.ref 39), some (.int on), some (.int tw), some (.int 0)] [] _ _
        refine am_e2 (v := 39) hi_221_80 rfl ?_
        refine am_e0 hi_221_81 ?_
        refine am_e1 (v := on) hi_221_83 rfl ?_
        refine am_e0 hi_221_84 ?_
        refine am_e1 (v := tw) hi_221_85 rfl ?_
        refine am_e32n (as := [.ref 39, .int 23, .int on, .int 0, .int tw]) (la := [some (.ref 39), some (.int 23), some (.int on), some (.int 0), some (.int tw)]) (rest := []) hi_221_86 (am_hd0 (M := 221) (by decide) 86) (Nat.le_of_ble_eq_true rfl) (Nat.le_of_ble_eq_true rfl) (show 5 ≤ am_P0.2.2.1 189 from by decide +kernel) rfl (am_recv_ok hS290.fs) rfl rfl (ct_put (d := (d + 5)) hS290 hR287_  (by show (0 : Int) ≤ (f 32).toInt; omega) (by show (f 32).toInt ≤ (63 : Int); omega) (by show (f 53).toInt ≤ (4096 : Int); omega) (by show (0 : Int) ≤ s276.toInt; omega) (by show s276.toInt ≤ (65534 : Int); omega)) ?_
        rintro v292 S293 (⟨z294, r295, g'296, hv297, hS298, hR302, h299, h300, h301⟩)
        subst hv297
        have h299_ : z294.toInt = s276.toInt + 1 := h299
        have h300_ : r295.toInt = s276.toInt := h300
        have h301_ : ∀ j, j ∉ [60, 69, 70, 71, 72, 73] → g'296 j = g'278 j := h301
        replace hS298 : MS S0 S293 (upd (upd (upd (upd f 15 z288) 62 o275) 68 z294) 75 m277) g'296 := hS298
        have hR302_ : RJ (upd (upd (upd (upd f 15 z288) 62 o275) 68 z294) 75 m277) g'296 gs bc [] 0 (s276.toNatClampNeg :: []) := hR302
        show am_E _ _ _ _ [some (.ref 39), some (.int on), some (.int tw), some (.int 0)] [.int r295] _ _
        refine am_e6i hi_221_89 ?_
        refine am_e2 (v := 39) hi_221_90 rfl ?_
        refine am_e1 (v := on) hi_221_91 rfl ?_
        refine am_e32w (as := [.ref 39, .int on]) (la := [some (.ref 39), some (.int on)]) (rest := []) hi_221_92 (am_hd0 (M := 221) (by decide) 92) (Nat.le_of_ble_eq_true rfl) (Nat.le_of_ble_eq_true rfl) (show 2 ≤ am_P0.2.2.1 220 from by decide +kernel) rfl (am_recv_ok hS298.fs) rfl rfl ?_
        refine am_e2 (v := 39) hi_220_0 rfl ?_
        refine am_e32n (as := [.ref 39]) (la := [some (.ref 39)]) (rest := []) hi_220_1 (am_hd0 (M := 220) (by decide) 1) (Nat.le_of_ble_eq_true rfl) (Nat.le_of_ble_eq_true rfl) (show 1 ≤ am_P0.2.2.1 183 from by decide +kernel) rfl (am_recv_ok hS298.fs) rfl rfl (ct_next (d := (d + 3)) hS298   (by show (0 : Int) ≤ (f 4).toInt; omega) (by show (f 0).toInt ≤ (16384 : Int); omega)) ?_
        rintro v303 S304 (⟨r305, hv306, hS307, h308⟩)
        subst hv306
        have h308_ : (f 4).toInt < (f 0).toInt ∨ r305.toInt = (-1 : Int) := h308
        show am_E _ _ _ _ [some (.ref 39), some (.int on)] [.int r305] _ _
        refine am_e0 hi_220_4 ?_
        by_cases c310 : r305.toInt = (69 : Int)
        · refine am_e13t hi_220_6 (am_cT (m := r305.toInt) (n := (69 : Int)) rfl (by decide) c310) ?_
          refine am_e2 (v := 39) hi_220_18 rfl ?_
          refine am_e7 hi_220_19 ?_
          refine mm_20 (v := .int (f 4)) hS307 hi_220_20 rfl ?_
          refine am_e0 hi_220_23 ?_
          refine am_e10 (z := z264) hi_220_24 hz264 ?_
          refine mm_21 (v := z264) hS307 hi_220_25 rfl (Nat.le_of_ble_eq_true rfl) ms_4 ?_
          intro S311 hS312
          replace hS312 : MS S0 S311 (upd (upd (upd (upd (upd f 4 z264) 15 z288) 62 o275) 68 z294) 75 m277) g'296 := hS312
          have hR313 : RJ (upd (upd (upd (upd (upd f 4 z264) 15 z288) 62 o275) 68 z294) 75 m277) g'296 gs bc [] 0 (s276.toNatClampNeg :: []) := RJ.at hR302_ (by show (f 4).toInt ≤ z264.toInt; omega)
          refine am_e2 (v := 39) hi_220_28 rfl ?_
          refine am_e0 hi_220_29 ?_
          refine am_e1 (v := on) hi_220_31 rfl ?_
          refine am_e0 hi_220_32 ?_
          refine am_e0 hi_220_33 ?_
          refine am_e32n (as := [.ref 39, .int 35, .int on, .int 0, .int 0]) (la := [some (.ref 39), some (.int 35), some (.int on), some (.int 0), some (.int 0)]) (rest := []) hi_220_34 (am_hd0 (M := 220) (by decide) 34) (Nat.le_of_ble_eq_true rfl) (Nat.le_of_ble_eq_true rfl) (show 5 ≤ am_P0.2.2.1 179 from by decide +kernel) rfl (am_recv_ok hS312.fs) rfl rfl (ct_pile (d := (d + 4)) hS312 hR313 (mj_e_plain (by decide)) (by show (0 : Int) ≤ (f 10).toInt; omega) (by show (f 10).toInt ≤ (65535 : Int); omega)) ?_
          rintro v314 S315 (⟨z316, g'317, hv318, hS319, hR322, h320, h321⟩)
          subst hv318
          have h320_ : z316.toInt = (f 10).toInt + 1 := h320
          have h321_ : ∀ j, j ∉ [11, 12, 13, 14] → g'317 j = g'296 j := h321
          replace hS319 : MS S0 S315 (upd (upd (upd (upd (upd (upd f 4 z264) 10 z316) 15 z288) 62 o275) 68 z294) 75 m277) g'317 := hS319
          have hR322_ : RJ (upd (upd (upd (upd (upd (upd f 4 z264) 10 z316) 15 z288) 62 o275) 68 z294) 75 m277) g'317 (((35 : Int), on.toInt, (0 : Int), (0 : Int), []) :: gs) bc [] 0 (s276.toNatClampNeg :: []) := hR322
          show am_E _ _ _ _ [some (.ref 39), some (.int on)] [] _ _
          refine am_e18 hi_220_37 ?_
          refine am_e35 hi_220_47 ?_
          show am_E _ _ _ _ [some (.ref 39), some (.int on), some (.int tw), some (.int 0)] [] _ _
          refine am_e35 hi_221_95 ?_
          show am_E _ _ _ _ [some (.ref 39), some (.int 39), some (.int on), some (.int tw)] [] _ _
          refine am_e18 hi_181_366 ?_
          refine am_e35 hi_181_397 ?_
          show am_E _ _ _ _ [some (.ref 39), some (.int 39), some (.int on), some (.int tw), some (.int th)] [] _ _
          refine am_e35 hi_180_13 ?_
          have q1 : mg_p1 (((35 : Int), on.toInt, (0 : Int), (0 : Int), []) :: gs) = 0 + (mg_p1 gs) := rfl
          have q2 : mg_p2 (((35 : Int), on.toInt, (0 : Int), (0 : Int), []) :: gs) = 0 + (mg_p2 gs) := rfl
          have q3 : mg_p3 (((35 : Int), on.toInt, (0 : Int), (0 : Int), []) :: gs) = 3 + (mg_p3 gs) := rfl
          have q4 : mg_p4 (((35 : Int), on.toInt, (0 : Int), (0 : Int), []) :: gs) = 0 + (mg_p4 gs) := rfl
          refine ⟨_, _, _, bc, rfl, hS319, Or.inl ⟨⟨(RJ.fewer (pj' := []) hR322_ (fun _ h => nomatch h)), ?_, ?_⟩, rfl, ?_⟩⟩
          · exact (⟨⟨(show mg_k 35 from by decide), (show (0 : Int) ≤ z288.toInt from by omega), (show 0 ≤ (f 20).toInt from by omega), (show 1 ≤ (f 37).toInt from by omega), (show 0 ≤ (f 32).toInt from by omega), (show (f 32).toInt ≤ (f 5).toInt from by omega), (show (f 5).toInt ≤ 48 from by omega), (show (f 37).toInt ≤ 2 * ((f 5).toInt) + 2 from by omega), trivial⟩, mg_cast (mg_good_ext _ _ _ _ _ _ (fun i _ => by show g'317 34 i = g 34 i; rw [show g'317 34 = g'296 34 from h321_ 34 (by decide), show g'296 34 = g'278 34 from h301_ 34 (by decide), show g'278 34 = g 34 from h286_ 34 (by decide)]) (fun i _ => by show g'317 38 i = g 38 i; rw [show g'317 38 = g'296 38 from h321_ 38 (by decide), show g'296 38 = g'278 38 from h301_ 38 (by decide), show g'278 38 = g 38 from h286_ 38 (by decide)]) (fun i _ => by show g'317 23 i = g 23 i; rw [show g'317 23 = g'296 23 from h321_ 23 (by decide), show g'296 23 = g'278 23 from h301_ 23 (by decide), show g'278 23 = g 23 from h286_ 23 (by decide)]) hrest) (by show (f 15).toInt + -1 = z288.toInt + 0; omega) (by show (f 20).toInt = (f 20).toInt; omega) (by show (f 37).toInt + 0 = (f 37).toInt + 0; omega) (by show (f 32).toInt + 0 = (f 32).toInt + 0; omega) (by show (f 5).toInt + -1 = (f 5).toInt + -1; omega)⟩ : mg_good (g'317 34) (g'317 38) (g'317 23) (((35 : Int), on.toInt, (0 : Int), (0 : Int), []) :: gs) (z288.toInt) ((f 20).toInt) ((f 37).toInt) ((f 32).toInt) ((f 5).toInt))
          · exact ⟨(by show 0 ≤ z264.toInt; omega), (by show z264.toInt ≤ (f 0).toInt; omega), (by show (f 0).toInt ≤ 512; omega), (by show 0 ≤ (f 24).toInt; omega), (by show (f 24).toInt + (f 20).toInt + mg_p1 (((35 : Int), on.toInt, (0 : Int), (0 : Int), []) :: gs) ≤ 4 * z264.toInt; omega), (by show (f 20).toInt ≤ z264.toInt; omega), (by show z288.toInt + mg_p2 (((35 : Int), on.toInt, (0 : Int), (0 : Int), []) :: gs) ≤ z264.toInt; omega), (by show mg_p3 (((35 : Int), on.toInt, (0 : Int), (0 : Int), []) :: gs) ≤ 20 * z264.toInt + 20; omega), (by show 0 ≤ z294.toInt; omega), (by show z294.toInt + 3 * (f 20).toInt + mg_p4 (((35 : Int), on.toInt, (0 : Int), (0 : Int), []) :: gs) ≤ 60 * z264.toInt + 60; omega), (by show 0 ≤ o275.toInt; omega), (by show o275.toInt + 64 * mj_n (g'317 16) z288.toNatClampNeg 3 ≤ 64 * z264.toInt; rw [show g'317 16 = g'296 16 from h321_ 16 (by decide), show g'296 16 = g'278 16 from h301_ 16 (by decide)]; omega), (by show 0 ≤ (f 44).toInt; omega), (by show (f 44).toInt ≤ z264.toInt; omega), (by show 0 ≤ (f 48).toInt; omega), (by show (f 48).toInt ≤ z264.toInt; omega), (by show 1 ≤ (f 53).toInt; omega), (by show (f 53).toInt ≤ z264.toInt + 1; omega), (by show 0 ≤ (f 19).toInt; omega), (by show (f 19).toInt ≤ 600; omega)⟩
          · show 100 * ((f 0).toInt - z264.toInt) + mg_p3 (((35 : Int), on.toInt, (0 : Int), (0 : Int), []) :: gs) < 100 * ((f 0).toInt - (f 4).toInt) + (1 + mg_p3 gs); omega
        · refine am_e13f hi_220_6 (am_cF (m := r305.toInt) (n := (69 : Int)) rfl (by decide) c310) ?_
          refine am_e2 (v := 39) hi_220_9 rfl ?_
          refine am_e32n (as := [.ref 39]) (la := [some (.ref 39)]) (rest := []) hi_220_10 (am_hd0 (M := 220) (by decide) 10) (Nat.le_of_ble_eq_true rfl) (Nat.le_of_ble_eq_true rfl) (show 1 ≤ am_P0.2.2.1 183 from by decide +kernel) rfl (am_recv_ok hS307.fs) rfl rfl (ct_next (d := (d + 3)) hS307   (by show (0 : Int) ≤ (f 4).toInt; omega) (by show (f 0).toInt ≤ (16384 : Int); omega)) ?_
          rintro v323 S324 (⟨r325, hv326, hS327, h328⟩)
          subst hv326
          have h328_ : (f 4).toInt < (f 0).toInt ∨ r325.toInt = (-1 : Int) := h328
          show am_E _ _ _ _ [some (.ref 39), some (.int on)] [.int r325] _ _
          refine am_e0 hi_220_13 ?_
          by_cases c330 : ¬ r325.toInt = (67 : Int)
          · refine am_e13t hi_220_15 (am_cT (m := r325.toInt) (n := (67 : Int)) rfl (by decide) c330) ?_
            refine am_e2 (v := 39) hi_220_40 rfl ?_
            refine am_e0 hi_220_41 ?_
            refine am_e32n (as := [.ref 39, .int 63]) (la := [some (.ref 39), some (.int 63)]) (rest := []) hi_220_43 (am_hd0 (M := 220) (by decide) 43) (Nat.le_of_ble_eq_true rfl) (Nat.le_of_ble_eq_true rfl) (show 2 ≤ am_P0.2.2.1 199 from by decide +kernel) rfl (am_recv_ok hS327.fs) rfl rfl (ct_leave (d := (d + 1)) hS327   (by show (0 : Int) ≤ (f 4).toInt; omega) (by show (f 0).toInt ≤ (16384 : Int); omega) (by show (0 : Int) ≤ (63 : Int); omega) (by show (0 : Int) ≤ (f 5).toInt; omega) (by show (f 5).toInt ≤ (48 : Int); omega)) ?_
            rintro v331 S332 (⟨z333, y334, hv335, hS336, h337, h338, h339⟩ | ⟨a341, b342, hv343, hS344⟩)
            · subst hv335
              have h337_ : z333.toInt = (f 4).toInt + 1 := h337
              have h338_ : (f 4).toInt < (f 0).toInt := h338
              have h339_ : y334.toInt = (f 5).toInt - 1 := h339
              replace hS336 : MS S0 S332 (upd (upd (upd (upd (upd (upd f 4 z333) 5 y334) 15 z288) 62 o275) 68 z294) 75 m277) g'296 := hS336
              have hR346 : RJ (upd (upd (upd (upd (upd (upd f 4 z333) 5 y334) 15 z288) 62 o275) 68 z294) 75 m277) g'296 gs bc [] 0 (s276.toNatClampNeg :: []) := RJ.at hR302_ (by show (f 4).toInt ≤ z333.toInt; omega)
              show am_E _ _ _ _ [some (.ref 39), some (.int on)] [.int 1] _ _
              refine am_e6i hi_220_46 ?_
              refine am_e35 hi_220_47 ?_
              show am_E _ _ _ _ [some (.ref 39), some (.int on), some (.int tw), some (.int 0)] [] _ _
              refine am_e35 hi_221_95 ?_
              show am_E _ _ _ _ [some (.ref 39), some (.int 39), some (.int on), some (.int tw)] [] _ _
              refine am_e18 hi_181_366 ?_
              refine am_e35 hi_181_397 ?_
              show am_E _ _ _ _ [some (.ref 39), some (.int 39), some (.int on), some (.int tw), some (.int th)] [] _ _
              refine am_e35 hi_180_13 ?_
              have q1 : mg_p1 gs = mg_p1 gs := rfl
              have q2 : mg_p2 gs = mg_p2 gs := rfl
              have q3 : mg_p3 gs = mg_p3 gs := rfl
              have q4 : mg_p4 gs = mg_p4 gs := rfl
              refine ⟨_, _, _, bc, rfl, hS336, Or.inl ⟨⟨(RJ.fewer (pj' := []) hR346 (fun _ h => nomatch h)), ?_, ?_⟩, rfl, ?_⟩⟩
              · exact (mg_cast (mg_good_ext _ _ _ _ _ _ (fun i _ => by show g'296 34 i = g 34 i; rw [show g'296 34 = g'278 34 from h301_ 34 (by decide), show g'278 34 = g 34 from h286_ 34 (by decide)]) (fun i _ => by show g'296 38 i = g 38 i; rw [show g'296 38 = g'278 38 from h301_ 38 (by decide), show g'278 38 = g 38 from h286_ 38 (by decide)]) (fun i _ => by show g'296 23 i = g 23 i; rw [show g'296 23 = g'278 23 from h301_ 23 (by decide), show g'278 23 = g 23 from h286_ 23 (by decide)]) hrest) (by show (f 15).toInt + -1 = z288.toInt; omega) (by show (f 20).toInt = (f 20).toInt; omega) (by show (f 37).toInt + 0 = (f 37).toInt; omega) (by show (f 32).toInt + 0 = (f 32).toInt; omega) (by show (f 5).toInt + -1 = y334.toInt; omega) : mg_good (g'296 34) (g'296 38) (g'296 23) gs (z288.toInt) ((f 20).toInt) ((f 37).toInt) ((f 32).toInt) (y334.toInt))
              · exact ⟨(by show 0 ≤ z333.toInt; omega), (by show z333.toInt ≤ (f 0).toInt; omega), (by show (f 0).toInt ≤ 512; omega), (by show 0 ≤ (f 24).toInt; omega), (by show (f 24).toInt + (f 20).toInt + mg_p1 gs ≤ 4 * z333.toInt; omega), (by show (f 20).toInt ≤ z333.toInt; omega), (by show z288.toInt + mg_p2 gs ≤ z333.toInt; omega), (by show mg_p3 gs ≤ 20 * z333.toInt + 20; omega), (by show 0 ≤ z294.toInt; omega), (by show z294.toInt + 3 * (f 20).toInt + mg_p4 gs ≤ 60 * z333.toInt + 60; omega), (by show 0 ≤ o275.toInt; omega), (by show o275.toInt + 64 * mj_n (g'296 16) z288.toNatClampNeg 3 ≤ 64 * z333.toInt; rw [show g'296 16 = g'278 16 from h301_ 16 (by decide)]; omega), (by show 0 ≤ (f 44).toInt; omega), (by show (f 44).toInt ≤ z333.toInt; omega), (by show 0 ≤ (f 48).toInt; omega), (by show (f 48).toInt ≤ z333.toInt; omega), (by show 1 ≤ (f 53).toInt; omega), (by show (f 53).toInt ≤ z333.toInt + 1; omega), (by show 0 ≤ (f 19).toInt; omega), (by show (f 19).toInt ≤ 600; omega)⟩
              · show 100 * ((f 0).toInt - z333.toInt) + mg_p3 gs < 100 * ((f 0).toInt - (f 4).toInt) + (1 + mg_p3 gs); omega
            · subst hv343
              replace hS344 : MS S0 S332 (upd (upd (upd (upd (upd (upd (upd f 6 a341) 7 b342) 10 0) 15 z288) 62 o275) 68 z294) 75 m277) g'296 := hS344
              have hR347 := rj_clear0 hR302_
              have hR348 : RJ (upd (upd (upd (upd (upd (upd (upd f 6 a341) 7 b342) 10 0) 15 z288) 62 o275) 68 z294) 75 m277) g'296 [] bc [] 0 [] := hR347
              show am_E _ _ _ _ [some (.ref 39), some (.int on)] [.int 0] _ _
              refine am_e6i hi_220_46 ?_
              refine am_e35 hi_220_47 ?_
              show am_E _ _ _ _ [some (.ref 39), some (.int on), some (.int tw), some (.int 0)] [] _ _
              refine am_e35 hi_221_95 ?_
              show am_E _ _ _ _ [some (.ref 39), some (.int 39), some (.int on), some (.int tw)] [] _ _
              refine am_e18 hi_181_366 ?_
              refine am_e35 hi_181_397 ?_
              show am_E _ _ _ _ [some (.ref 39), some (.int 39), some (.int on), some (.int tw), some (.int th)] [] _ _
              refine am_e35 hi_180_13 ?_
              have hRc := rj_clear0 hR348
              refine ⟨_, _, [], _, rfl, hS344, Or.inr ⟨hRc, rfl, (by show 0 ≤ (f 4).toInt; omega), (by show (f 4).toInt ≤ (f 0).toInt; omega), (by show 0 ≤ (f 32).toInt; omega), (by show (f 32).toInt ≤ 63; omega), (by show 1 ≤ (f 53).toInt; omega), (by show (f 53).toInt ≤ 600; omega), (by show 0 ≤ z294.toInt; omega), (by show z294.toInt ≤ 60000; omega), (by show 0 ≤ (f 48).toInt; omega), (by show (f 48).toInt ≤ 8000; omega), (by show 0 ≤ (f 37).toInt; omega), (by show (f 37).toInt ≤ 128; omega), (by show 0 ≤ o275.toInt; omega), (by show o275.toInt ≤ 65000; omega), (by show 0 ≤ (f 19).toInt; omega), (by show (f 19).toInt ≤ 600; omega)⟩⟩
          · refine am_e13f hi_220_15 (am_cF (m := r325.toInt) (n := (67 : Int)) rfl (by decide) c330) ?_
            refine am_e2 (v := 39) hi_220_18 rfl ?_
            refine am_e7 hi_220_19 ?_
            refine mm_20 (v := .int (f 4)) hS327 hi_220_20 rfl ?_
            refine am_e0 hi_220_23 ?_
            refine am_e10 (z := z264) hi_220_24 hz264 ?_
            refine mm_21 (v := z264) hS327 hi_220_25 rfl (Nat.le_of_ble_eq_true rfl) ms_4 ?_
            intro S349 hS350
            replace hS350 : MS S0 S349 (upd (upd (upd (upd (upd f 4 z264) 15 z288) 62 o275) 68 z294) 75 m277) g'296 := hS350
            have hR351 : RJ (upd (upd (upd (upd (upd f 4 z264) 15 z288) 62 o275) 68 z294) 75 m277) g'296 gs bc [] 0 (s276.toNatClampNeg :: []) := RJ.at hR302_ (by show (f 4).toInt ≤ z264.toInt; omega)
            refine am_e2 (v := 39) hi_220_28 rfl ?_
            refine am_e0 hi_220_29 ?_
            refine am_e1 (v := on) hi_220_31 rfl ?_
            refine am_e0 hi_220_32 ?_
            refine am_e0 hi_220_33 ?_
            refine am_e32n (as := [.ref 39, .int 35, .int on, .int 0, .int 0]) (la := [some (.ref 39), some (.int 35), some (.int on), some (.int 0), some (.int 0)]) (rest := []) hi_220_34 (am_hd0 (M := 220) (by decide) 34) (Nat.le_of_ble_eq_true rfl) (Nat.le_of_ble_eq_true rfl) (show 5 ≤ am_P0.2.2.1 179 from by decide +kernel) rfl (am_recv_ok hS350.fs) rfl rfl (ct_pile (d := (d + 4)) hS350 hR351 (mj_e_plain (by decide)) (by show (0 : Int) ≤ (f 10).toInt; omega) (by show (f 10).toInt ≤ (65535 : Int); omega)) ?_
            rintro v352 S353 (⟨z354, g'355, hv356, hS357, hR360, h358, h359⟩)
            subst hv356
            have h358_ : z354.toInt = (f 10).toInt + 1 := h358
            have h359_ : ∀ j, j ∉ [11, 12, 13, 14] → g'355 j = g'296 j := h359
            replace hS357 : MS S0 S353 (upd (upd (upd (upd (upd (upd f 4 z264) 10 z354) 15 z288) 62 o275) 68 z294) 75 m277) g'355 := hS357
            have hR360_ : RJ (upd (upd (upd (upd (upd (upd f 4 z264) 10 z354) 15 z288) 62 o275) 68 z294) 75 m277) g'355 (((35 : Int), on.toInt, (0 : Int), (0 : Int), []) :: gs) bc [] 0 (s276.toNatClampNeg :: []) := hR360
            show am_E _ _ _ _ [some (.ref 39), some (.int on)] [] _ _
            refine am_e18 hi_220_37 ?_
            refine am_e35 hi_220_47 ?_
            show am_E _ _ _ _ [some (.ref 39), some (.int on), some (.int tw), some (.int 0)] [] _ _
            refine am_e35 hi_221_95 ?_
            show am_E _ _ _ _ [some (.ref 39), some (.int 39), some (.int on), some (.int tw)] [] _ _
            refine am_e18 hi_181_366 ?_
            refine am_e35 hi_181_397 ?_
            show am_E _ _ _ _ [some (.ref 39), some (.int 39), some (.int on), some (.int tw), some (.int th)] [] _ _
            refine am_e35 hi_180_13 ?_
            have q1 : mg_p1 (((35 : Int), on.toInt, (0 : Int), (0 : Int), []) :: gs) = 0 + (mg_p1 gs) := rfl
            have q2 : mg_p2 (((35 : Int), on.toInt, (0 : Int), (0 : Int), []) :: gs) = 0 + (mg_p2 gs) := rfl
            have q3 : mg_p3 (((35 : Int), on.toInt, (0 : Int), (0 : Int), []) :: gs) = 3 + (mg_p3 gs) := rfl
            have q4 : mg_p4 (((35 : Int), on.toInt, (0 : Int), (0 : Int), []) :: gs) = 0 + (mg_p4 gs) := rfl
            refine ⟨_, _, _, bc, rfl, hS357, Or.inl ⟨⟨(RJ.fewer (pj' := []) hR360_ (fun _ h => nomatch h)), ?_, ?_⟩, rfl, ?_⟩⟩
            · exact (⟨⟨(show mg_k 35 from by decide), (show (0 : Int) ≤ z288.toInt from by omega), (show 0 ≤ (f 20).toInt from by omega), (show 1 ≤ (f 37).toInt from by omega), (show 0 ≤ (f 32).toInt from by omega), (show (f 32).toInt ≤ (f 5).toInt from by omega), (show (f 5).toInt ≤ 48 from by omega), (show (f 37).toInt ≤ 2 * ((f 5).toInt) + 2 from by omega), trivial⟩, mg_cast (mg_good_ext _ _ _ _ _ _ (fun i _ => by show g'355 34 i = g 34 i; rw [show g'355 34 = g'296 34 from h359_ 34 (by decide), show g'296 34 = g'278 34 from h301_ 34 (by decide), show g'278 34 = g 34 from h286_ 34 (by decide)]) (fun i _ => by show g'355 38 i = g 38 i; rw [show g'355 38 = g'296 38 from h359_ 38 (by decide), show g'296 38 = g'278 38 from h301_ 38 (by decide), show g'278 38 = g 38 from h286_ 38 (by decide)]) (fun i _ => by show g'355 23 i = g 23 i; rw [show g'355 23 = g'296 23 from h359_ 23 (by decide), show g'296 23 = g'278 23 from h301_ 23 (by decide), show g'278 23 = g 23 from h286_ 23 (by decide)]) hrest) (by show (f 15).toInt + -1 = z288.toInt + 0; omega) (by show (f 20).toInt = (f 20).toInt; omega) (by show (f 37).toInt + 0 = (f 37).toInt + 0; omega) (by show (f 32).toInt + 0 = (f 32).toInt + 0; omega) (by show (f 5).toInt + -1 = (f 5).toInt + -1; omega)⟩ : mg_good (g'355 34) (g'355 38) (g'355 23) (((35 : Int), on.toInt, (0 : Int), (0 : Int), []) :: gs) (z288.toInt) ((f 20).toInt) ((f 37).toInt) ((f 32).toInt) ((f 5).toInt))
            · exact ⟨(by show 0 ≤ z264.toInt; omega), (by show z264.toInt ≤ (f 0).toInt; omega), (by show (f 0).toInt ≤ 512; omega), (by show 0 ≤ (f 24).toInt; omega), (by show (f 24).toInt + (f 20).toInt + mg_p1 (((35 : Int), on.toInt, (0 : Int), (0 : Int), []) :: gs) ≤ 4 * z264.toInt; omega), (by show (f 20).toInt ≤ z264.toInt; omega), (by show z288.toInt + mg_p2 (((35 : Int), on.toInt, (0 : Int), (0 : Int), []) :: gs) ≤ z264.toInt; omega), (by show mg_p3 (((35 : Int), on.toInt, (0 : Int), (0 : Int), []) :: gs) ≤ 20 * z264.toInt + 20; omega), (by show 0 ≤ z294.toInt; omega), (by show z294.toInt + 3 * (f 20).toInt + mg_p4 (((35 : Int), on.toInt, (0 : Int), (0 : Int), []) :: gs) ≤ 60 * z264.toInt + 60; omega), (by show 0 ≤ o275.toInt; omega), (by show o275.toInt + 64 * mj_n (g'355 16) z288.toNatClampNeg 3 ≤ 64 * z264.toInt; rw [show g'355 16 = g'296 16 from h359_ 16 (by decide), show g'296 16 = g'278 16 from h301_ 16 (by decide)]; omega), (by show 0 ≤ (f 44).toInt; omega), (by show (f 44).toInt ≤ z264.toInt; omega), (by show 0 ≤ (f 48).toInt; omega), (by show (f 48).toInt ≤ z264.toInt; omega), (by show 1 ≤ (f 53).toInt; omega), (by show (f 53).toInt ≤ z264.toInt + 1; omega), (by show 0 ≤ (f 19).toInt; omega), (by show (f 19).toInt ≤ 600; omega)⟩
            · show 100 * ((f 0).toInt - z264.toInt) + mg_p3 (((35 : Int), on.toInt, (0 : Int), (0 : Int), []) :: gs) < 100 * ((f 0).toInt - (f 4).toInt) + (1 + mg_p3 gs); omega
      · refine am_e13f hi_221_39 (am_cF (m := r267.toInt) (n := (63 : Int)) rfl (by decide) c272) ?_
        refine am_e0 hi_221_42 ?_
        refine am_e18 hi_221_43 ?_
        refine am_e3 (ls' := [some (.ref 39), some (.int on), some (.int tw), some (.int 1)]) hi_221_47 (Nat.le_of_ble_eq_true rfl) rfl ?_
        refine am_e1 (v := 1) hi_221_48 rfl ?_
        refine am_e12f hi_221_49 (by decide) ?_
        refine am_e2 (v := 39) hi_221_52 rfl ?_
        refine am_e32w (as := [.ref 39]) (la := [some (.ref 39)]) (rest := []) hi_221_53 (am_hd0 (M := 221) (by decide) 53) (Nat.le_of_ble_eq_true rfl) (Nat.le_of_ble_eq_true rfl) (show 1 ≤ am_P0.2.2.1 216 from by decide +kernel) rfl (am_recv_ok hS269.fs) rfl rfl ?_
        refine am_e2 (v := 39) hi_216_0 rfl ?_
        refine mm_20 (v := .ref 46) hS269 hi_216_1 rfl ?_
        refine am_e2 (v := 39) hi_216_4 rfl ?_
        refine mm_20 (v := .int (f 15)) hS269 hi_216_5 rfl ?_
        refine am_e0 hi_216_8 ?_
        obtain ⟨z361, hz361, tz361⟩ := am_subI (x := f 15) (y := 1) (m := (f 15).toInt) (n := (1 : Int)) rfl (by decide) (by omega) (by omega)
        refine am_e10 (z := z361) hi_216_9 hz361 ?_
        refine mm_25 hS269 ma_16 hi_216_10 (by decide) (by omega) (by omega) ?_
        show am_E _ _ _ _ [some (.ref 39)] [.int (g 16 z361.toNatClampNeg)] _ _
        refine am_e0 hi_216_11 ?_
        by_cases c362 : (g 16 z361.toNatClampNeg).toInt = (1 : Int)
        · refine am_e13t hi_216_12 (am_cT (m := (g 16 z361.toNatClampNeg).toInt) (n := (1 : Int)) rfl (by decide) c362) ?_
          refine am_e0 hi_216_30 ?_
          refine am_e18 hi_216_31 ?_
          refine am_e36 hi_216_35 (by decide) ?_
          show am_E _ _ _ _ [some (.ref 39), some (.int on), some (.int tw), some (.int 1)] [.int 1] _ _
          refine am_e12f hi_221_56 (by decide) ?_
          refine am_e2 (v := 39) hi_221_59 rfl ?_
          refine am_e32w (as := [.ref 39]) (la := [some (.ref 39), none]) (rest := []) hi_221_60 (am_hd0 (M := 221) (by decide) 60) (Nat.le_of_ble_eq_true rfl) (Nat.le_of_ble_eq_true rfl) (show 1 ≤ am_P0.2.2.1 217 from by decide +kernel) rfl (am_recv_ok hS269.fs) rfl rfl ?_
          refine am_e2 (v := 39) hi_217_0 rfl ?_
          refine mm_20 (v := .ref 47) hS269 hi_217_1 rfl ?_
          refine am_e2 (v := 39) hi_217_4 rfl ?_
          refine mm_20 (v := .int (f 15)) hS269 hi_217_5 rfl ?_
          refine am_e0 hi_217_8 ?_
          refine am_e10 (z := z361) hi_217_9 hz361 ?_
          refine mm_25 hS269 ma_17 hi_217_10 (by decide) (by omega) (by omega) ?_
          show am_E _ _ _ _ [some (.ref 39), none] [.int (g 17 z361.toNatClampNeg)] _ _
          have r363 : (g 16 z361.toNatClampNeg).toInt = 1 ∨ (g 16 z361.toNatClampNeg).toInt = 2 → 0 ≤ (g 17 z361.toNatClampNeg).toInt ∧ (g 17 z361.toNatClampNeg).toInt < 65536 := RJ.vc hR z361.toNatClampNeg
          refine am_e3 (ls' := [some (.ref 39), some (.int (g 17 z361.toNatClampNeg))]) hi_217_11 (Nat.le_of_ble_eq_true rfl) rfl ?_
          refine am_e2 (v := 39) hi_217_12 rfl ?_
          refine mm_20 (v := .ref 91) hS269 hi_217_13 rfl ?_
          refine am_e1 (v := g 17 z361.toNatClampNeg) hi_217_16 rfl ?_
          refine am_e2 (v := 39) hi_217_17 rfl ?_
          refine mm_20 (v := .ref 46) hS269 hi_217_18 rfl ?_
          refine am_e2 (v := 39) hi_217_21 rfl ?_
          refine mm_20 (v := .int (f 15)) hS269 hi_217_22 rfl ?_
          refine am_e0 hi_217_25 ?_
          refine am_e10 (z := z361) hi_217_26 hz361 ?_
          refine mm_25 hS269 ma_16 hi_217_27 (by decide) (by omega) (by omega) ?_
          show am_E _ _ _ _ [some (.ref 39), some (.int (g 17 z361.toNatClampNeg))] [.int (g 16 z361.toNatClampNeg), .int (g 17 z361.toNatClampNeg), .ref 91] _ _
          refine am_e0 hi_217_28 ?_
          refine am_e13f hi_217_29 (am_cF (m := (g 16 z361.toNatClampNeg).toInt) (n := (1 : Int)) rfl (by decide) (by simp only [am_cI]; omega)) ?_
          refine am_e2 (v := 39) hi_217_32 rfl ?_
          refine mm_20 (v := .ref 91) hS269 hi_217_33 rfl ?_
          refine am_e1 (v := g 17 z361.toNatClampNeg) hi_217_36 rfl ?_
          refine mm_25 hS269 ma_72 hi_217_37 (by decide) (by omega) (by omega) ?_
          show am_E _ _ _ _ [some (.ref 39), some (.int (g 17 z361.toNatClampNeg))] [.int (g 72 (g 17 z361.toNatClampNeg).toNatClampNeg), .int (g 17 z361.toNatClampNeg), .ref 91] _ _
          refine am_e0 hi_217_38 ?_
          obtain ⟨z364, hz364⟩ : ∃ q__, am_bin 3 (g 72 (g 17 z361.toNatClampNeg).toNatClampNeg) 1 = q__ := ⟨_, rfl⟩
          refine am_e10 (z := z364) hi_217_39 hz364 ?_
          refine am_e0 hi_217_40 ?_
          obtain ⟨z365, hz365⟩ : ∃ q__, am_bin 4 z364 4 = q__ := ⟨_, rfl⟩
          refine am_e10 (z := z365) hi_217_41 hz365 ?_
          refine am_e18 hi_217_42 ?_
          refine mm_26 hS269 ma_72 hi_217_46 (by decide) (by omega) (by omega) (fun h => nomatch h) ?_
          intro S366 hS367
          refine am_e2 (v := 39) hi_217_47 rfl ?_
          refine am_e7 hi_217_48 ?_
          refine mm_20 (v := .int (f 15)) hS367 hi_217_49 rfl ?_
          refine am_e0 hi_217_52 ?_
          refine am_e10 (z := z361) hi_217_53 hz361 ?_
          refine mm_21 (v := z361) hS367 hi_217_54 rfl (Nat.le_of_ble_eq_true rfl) ms_15 ?_
          intro S368 hS369
          have hp370 : mj_n (g 16) (f 15).toNatClampNeg 3 = mj_n (g 16) z361.toNatClampNeg 3 + if (g 16 z361.toNatClampNeg).toInt = 3 then 1 else 0 := mj_pop (by rw [cl_toNat, cl_toNat]; omega)
          have hp3701 : mj_n (g 16) z361.toNatClampNeg 3 ≤ mj_n (g 16) (f 15).toNatClampNeg 3 := by rw [hp370]; split <;> omega
          have hp3702 : (g 16 z361.toNatClampNeg).toInt = 3 → mj_n (g 16) z361.toNatClampNeg 3 + 1 ≤ mj_n (g 16) (f 15).toNatClampNeg 3 := fun q => by rw [hp370, if_pos q]; exact Int.le_refl _
          refine am_e35 hi_217_57 ?_
          show am_E _ _ _ _ [some (.ref 39), some (.int on), some (.int tw), some (.int 1)] [] _ _
          refine am_e2 (v := 39) hi_221_63 rfl ?_
          refine am_e0 hi_221_64 ?_
          refine am_e1 (v := on) hi_221_66 rfl ?_
          refine am_e0 hi_221_67 ?_
          refine am_e1 (v := tw) hi_221_68 rfl ?_
          refine am_e32n (as := [.ref 39, .int 24, .int on, .int 0, .int tw]) (la := [some (.ref 39), some (.int 24), some (.int on), some (.int 0), some (.int tw)]) (rest := []) hi_221_69 (am_hd0 (M := 221) (by decide) 69) (Nat.le_of_ble_eq_true rfl) (Nat.le_of_ble_eq_true rfl) (show 5 ≤ am_P0.2.2.1 189 from by decide +kernel) rfl (am_recv_ok hS369.fs) rfl rfl (ct_put (d := (d + 5)) hS369 hR  (by show (0 : Int) ≤ (f 32).toInt; omega) (by show (f 32).toInt ≤ (63 : Int); omega) (by show (f 53).toInt ≤ (4096 : Int); omega) (by show (0 : Int) ≤ (f 68).toInt; omega) (by show (f 68).toInt ≤ (65534 : Int); omega)) ?_
          rintro v371 S372 (⟨z373, r374, g'375, hv376, hS377, hR381, h378, h379, h380⟩)
          subst hv376
          have h378_ : z373.toInt = (f 68).toInt + 1 := h378
          have h379_ : r374.toInt = (f 68).toInt := h379
          have h380_ : ∀ j, j ∉ [60, 69, 70, 71, 72, 73] → g'375 j = (upg g 72 (g 17 z361.toNatClampNeg).toNatClampNeg z365) j := h380
          have hR381_ : RJ (upd (upd f 15 z361) 68 z373) g'375 gs bc [] 0 ((f 68).toNatClampNeg :: []) := hR381
          show am_E _ _ _ _ [some (.ref 39), some (.int on), some (.int tw), some (.int 1)] [.int r374] _ _
          refine am_e6i hi_221_72 ?_
          refine am_e18 hi_221_73 ?_
          refine am_e2 (v := 39) hi_221_90 rfl ?_
          refine am_e1 (v := on) hi_221_91 rfl ?_
          refine am_e32w (as := [.ref 39, .int on]) (la := [some (.ref 39), some (.int on)]) (rest := []) hi_221_92 (am_hd0 (M := 221) (by decide) 92) (Nat.le_of_ble_eq_true rfl) (Nat.le_of_ble_eq_true rfl) (show 2 ≤ am_P0.2.2.1 220 from by decide +kernel) rfl (am_recv_ok hS377.fs) rfl rfl ?_
          refine am_e2 (v := 39) hi_220_0 rfl ?_
          refine am_e32n (as := [.ref 39]) (la := [some (.ref 39)]) (rest := []) hi_220_1 (am_hd0 (M := 220) (by decide) 1) (Nat.le_of_ble_eq_true rfl) (Nat.le_of_ble_eq_true rfl) (show 1 ≤ am_P0.2.2.1 183 from by decide +kernel) rfl (am_recv_ok hS377.fs) rfl rfl (ct_next (d := (d + 3)) hS377   (by show (0 : Int) ≤ (f 4).toInt; omega) (by show (f 0).toInt ≤ (16384 : Int); omega)) ?_
          rintro v382 S383 (⟨r384, hv385, hS386, h387⟩)
          subst hv385
          have h387_ : (f 4).toInt < (f 0).toInt ∨ r384.toInt = (-1 : Int) := h387
          show am_E _ _ _ _ [some (.ref 39), some (.int on)] [.int r384] _ _
          refine am_e0 hi_220_4 ?_
          by_cases c389 : r384.toInt = (69 : Int)
          · refine am_e13t hi_220_6 (am_cT (m := r384.toInt) (n := (69 : Int)) rfl (by decide) c389) ?_
            refine am_e2 (v := 39) hi_220_18 rfl ?_
            refine am_e7 hi_220_19 ?_
            refine mm_20 (v := .int (f 4)) hS386 hi_220_20 rfl ?_
            refine am_e0 hi_220_23 ?_
            refine am_e10 (z := z264) hi_220_24 hz264 ?_
            refine mm_21 (v := z264) hS386 hi_220_25 rfl (Nat.le_of_ble_eq_true rfl) ms_4 ?_
            intro S390 hS391
            replace hS391 : MS S0 S390 (upd (upd (upd f 4 z264) 15 z361) 68 z373) g'375 := hS391
            have hR392 : RJ (upd (upd (upd f 4 z264) 15 z361) 68 z373) g'375 gs bc [] 0 ((f 68).toNatClampNeg :: []) := RJ.at hR381_ (by show (f 4).toInt ≤ z264.toInt; omega)
            refine am_e2 (v := 39) hi_220_28 rfl ?_
            refine am_e0 hi_220_29 ?_
            refine am_e1 (v := on) hi_220_31 rfl ?_
            refine am_e0 hi_220_32 ?_
            refine am_e0 hi_220_33 ?_
            refine am_e32n (as := [.ref 39, .int 35, .int on, .int 0, .int 0]) (la := [some (.ref 39), some (.int 35), some (.int on), some (.int 0), some (.int 0)]) (rest := []) hi_220_34 (am_hd0 (M := 220) (by decide) 34) (Nat.le_of_ble_eq_true rfl) (Nat.le_of_ble_eq_true rfl) (show 5 ≤ am_P0.2.2.1 179 from by decide +kernel) rfl (am_recv_ok hS391.fs) rfl rfl (ct_pile (d := (d + 4)) hS391 hR392 (mj_e_plain (by decide)) (by show (0 : Int) ≤ (f 10).toInt; omega) (by show (f 10).toInt ≤ (65535 : Int); omega)) ?_
            rintro v393 S394 (⟨z395, g'396, hv397, hS398, hR401, h399, h400⟩)
            subst hv397
            have h399_ : z395.toInt = (f 10).toInt + 1 := h399
            have h400_ : ∀ j, j ∉ [11, 12, 13, 14] → g'396 j = g'375 j := h400
            replace hS398 : MS S0 S394 (upd (upd (upd (upd f 4 z264) 10 z395) 15 z361) 68 z373) g'396 := hS398
            have hR401_ : RJ (upd (upd (upd (upd f 4 z264) 10 z395) 15 z361) 68 z373) g'396 (((35 : Int), on.toInt, (0 : Int), (0 : Int), []) :: gs) bc [] 0 ((f 68).toNatClampNeg :: []) := hR401
            show am_E _ _ _ _ [some (.ref 39), some (.int on)] [] _ _
            refine am_e18 hi_220_37 ?_
            refine am_e35 hi_220_47 ?_
            show am_E _ _ _ _ [some (.ref 39), some (.int on), some (.int tw), some (.int 1)] [] _ _
            refine am_e35 hi_221_95 ?_
            show am_E _ _ _ _ [some (.ref 39), some (.int 39), some (.int on), some (.int tw)] [] _ _
            refine am_e18 hi_181_366 ?_
            refine am_e35 hi_181_397 ?_
            show am_E _ _ _ _ [some (.ref 39), some (.int 39), some (.int on), some (.int tw), some (.int th)] [] _ _
            refine am_e35 hi_180_13 ?_
            have q1 : mg_p1 (((35 : Int), on.toInt, (0 : Int), (0 : Int), []) :: gs) = 0 + (mg_p1 gs) := rfl
            have q2 : mg_p2 (((35 : Int), on.toInt, (0 : Int), (0 : Int), []) :: gs) = 0 + (mg_p2 gs) := rfl
            have q3 : mg_p3 (((35 : Int), on.toInt, (0 : Int), (0 : Int), []) :: gs) = 3 + (mg_p3 gs) := rfl
            have q4 : mg_p4 (((35 : Int), on.toInt, (0 : Int), (0 : Int), []) :: gs) = 0 + (mg_p4 gs) := rfl
            refine ⟨_, _, _, bc, rfl, hS398, Or.inl ⟨⟨(RJ.fewer (pj' := []) hR401_ (fun _ h => nomatch h)), ?_, ?_⟩, rfl, ?_⟩⟩
            · exact (⟨⟨(show mg_k 35 from by decide), (show (0 : Int) ≤ z361.toInt from by omega), (show 0 ≤ (f 20).toInt from by omega), (show 1 ≤ (f 37).toInt from by omega), (show 0 ≤ (f 32).toInt from by omega), (show (f 32).toInt ≤ (f 5).toInt from by omega), (show (f 5).toInt ≤ 48 from by omega), (show (f 37).toInt ≤ 2 * ((f 5).toInt) + 2 from by omega), trivial⟩, mg_cast (mg_good_ext _ _ _ _ _ _ (fun i _ => by show g'396 34 i = g 34 i; rw [show g'396 34 = g'375 34 from h400_ 34 (by decide), show g'375 34 = g 34 from h380_ 34 (by decide)]) (fun i _ => by show g'396 38 i = g 38 i; rw [show g'396 38 = g'375 38 from h400_ 38 (by decide), show g'375 38 = g 38 from h380_ 38 (by decide)]) (fun i _ => by show g'396 23 i = g 23 i; rw [show g'396 23 = g'375 23 from h400_ 23 (by decide), show g'375 23 = g 23 from h380_ 23 (by decide)]) hrest) (by show (f 15).toInt + -1 = z361.toInt + 0; omega) (by show (f 20).toInt = (f 20).toInt; omega) (by show (f 37).toInt + 0 = (f 37).toInt + 0; omega) (by show (f 32).toInt + 0 = (f 32).toInt + 0; omega) (by show (f 5).toInt + -1 = (f 5).toInt + -1; omega)⟩ : mg_good (g'396 34) (g'396 38) (g'396 23) (((35 : Int), on.toInt, (0 : Int), (0 : Int), []) :: gs) (z361.toInt) ((f 20).toInt) ((f 37).toInt) ((f 32).toInt) ((f 5).toInt))
            · exact ⟨(by show 0 ≤ z264.toInt; omega), (by show z264.toInt ≤ (f 0).toInt; omega), (by show (f 0).toInt ≤ 512; omega), (by show 0 ≤ (f 24).toInt; omega), (by show (f 24).toInt + (f 20).toInt + mg_p1 (((35 : Int), on.toInt, (0 : Int), (0 : Int), []) :: gs) ≤ 4 * z264.toInt; omega), (by show (f 20).toInt ≤ z264.toInt; omega), (by show z361.toInt + mg_p2 (((35 : Int), on.toInt, (0 : Int), (0 : Int), []) :: gs) ≤ z264.toInt; omega), (by show mg_p3 (((35 : Int), on.toInt, (0 : Int), (0 : Int), []) :: gs) ≤ 20 * z264.toInt + 20; omega), (by show 0 ≤ z373.toInt; omega), (by show z373.toInt + 3 * (f 20).toInt + mg_p4 (((35 : Int), on.toInt, (0 : Int), (0 : Int), []) :: gs) ≤ 60 * z264.toInt + 60; omega), (by show 0 ≤ (f 62).toInt; omega), (by show (f 62).toInt + 64 * mj_n (g'396 16) z361.toNatClampNeg 3 ≤ 64 * z264.toInt; rw [show g'396 16 = g'375 16 from h400_ 16 (by decide), show g'375 16 = g 16 from h380_ 16 (by decide)]; omega), (by show 0 ≤ (f 44).toInt; omega), (by show (f 44).toInt ≤ z264.toInt; omega), (by show 0 ≤ (f 48).toInt; omega), (by show (f 48).toInt ≤ z264.toInt; omega), (by show 1 ≤ (f 53).toInt; omega), (by show (f 53).toInt ≤ z264.toInt + 1; omega), (by show 0 ≤ (f 19).toInt; omega), (by show (f 19).toInt ≤ 600; omega)⟩
            · show 100 * ((f 0).toInt - z264.toInt) + mg_p3 (((35 : Int), on.toInt, (0 : Int), (0 : Int), []) :: gs) < 100 * ((f 0).toInt - (f 4).toInt) + (1 + mg_p3 gs); omega
          · refine am_e13f hi_220_6 (am_cF (m := r384.toInt) (n := (69 : Int)) rfl (by decide) c389) ?_
            refine am_e2 (v := 39) hi_220_9 rfl ?_
            refine am_e32n (as := [.ref 39]) (la := [some (.ref 39)]) (rest := []) hi_220_10 (am_hd0 (M := 220) (by decide) 10) (Nat.le_of_ble_eq_true rfl) (Nat.le_of_ble_eq_true rfl) (show 1 ≤ am_P0.2.2.1 183 from by decide +kernel) rfl (am_recv_ok hS386.fs) rfl rfl (ct_next (d := (d + 3)) hS386   (by show (0 : Int) ≤ (f 4).toInt; omega) (by show (f 0).toInt ≤ (16384 : Int); omega)) ?_
            rintro v402 S403 (⟨r404, hv405, hS406, h407⟩)
            subst hv405
            have h407_ : (f 4).toInt < (f 0).toInt ∨ r404.toInt = (-1 : Int) := h407
            show am_E _ _ _ _ [some (.ref 39), some (.int on)] [.int r404] _ _
            refine am_e0 hi_220_13 ?_
            by_cases c409 : ¬ r404.toInt = (67 : Int)
            · refine am_e13t hi_220_15 (am_cT (m := r404.toInt) (n := (67 : Int)) rfl (by decide) c409) ?_
              refine am_e2 (v := 39) hi_220_40 rfl ?_
              refine am_e0 hi_220_41 ?_
              refine am_e32n (as := [.ref 39, .int 63]) (la := [some (.ref 39), some (.int 63)]) (rest := []) hi_220_43 (am_hd0 (M := 220) (by decide) 43) (Nat.le_of_ble_eq_true rfl) (Nat.le_of_ble_eq_true rfl) (show 2 ≤ am_P0.2.2.1 199 from by decide +kernel) rfl (am_recv_ok hS406.fs) rfl rfl (ct_leave (d := (d + 1)) hS406   (by show (0 : Int) ≤ (f 4).toInt; omega) (by show (f 0).toInt ≤ (16384 : Int); omega) (by show (0 : Int) ≤ (63 : Int); omega) (by show (0 : Int) ≤ (f 5).toInt; omega) (by show (f 5).toInt ≤ (48 : Int); omega)) ?_
              rintro v410 S411 (⟨z412, y413, hv414, hS415, h416, h417, h418⟩ | ⟨a420, b421, hv422, hS423⟩)
              · subst hv414
                have h416_ : z412.toInt = (f 4).toInt + 1 := h416
                have h417_ : (f 4).toInt < (f 0).toInt := h417
                have h418_ : y413.toInt = (f 5).toInt - 1 := h418
                replace hS415 : MS S0 S411 (upd (upd (upd (upd f 4 z412) 5 y413) 15 z361) 68 z373) g'375 := hS415
                have hR425 : RJ (upd (upd (upd (upd f 4 z412) 5 y413) 15 z361) 68 z373) g'375 gs bc [] 0 ((f 68).toNatClampNeg :: []) := RJ.at hR381_ (by show (f 4).toInt ≤ z412.toInt; omega)
                show am_E _ _ _ _ [some (.ref 39), some (.int on)] [.int 1] _ _
                refine am_e6i hi_220_46 ?_
                refine am_e35 hi_220_47 ?_
                show am_E _ _ _ _ [some (.ref 39), some (.int on), some (.int tw), some (.int 1)] [] _ _
                refine am_e35 hi_221_95 ?_
                show am_E _ _ _ _ [some (.ref 39), some (.int 39), some (.int on), some (.int tw)] [] _ _
                refine am_e18 hi_181_366 ?_
                refine am_e35 hi_181_397 ?_
                show am_E _ _ _ _ [some (.ref 39), some (.int 39), some (.int on), some (.int tw), some (.int th)] [] _ _
                refine am_e35 hi_180_13 ?_
                have q1 : mg_p1 gs = mg_p1 gs := rfl
                have q2 : mg_p2 gs = mg_p2 gs := rfl
                have q3 : mg_p3 gs = mg_p3 gs := rfl
                have q4 : mg_p4 gs = mg_p4 gs := rfl
                refine ⟨_, _, _, bc, rfl, hS415, Or.inl ⟨⟨(RJ.fewer (pj' := []) hR425 (fun _ h => nomatch h)), ?_, ?_⟩, rfl, ?_⟩⟩
                · exact (mg_cast (mg_good_ext _ _ _ _ _ _ (fun i _ => by show g'375 34 i = g 34 i; rw [show g'375 34 = g 34 from h380_ 34 (by decide)]) (fun i _ => by show g'375 38 i = g 38 i; rw [show g'375 38 = g 38 from h380_ 38 (by decide)]) (fun i _ => by show g'375 23 i = g 23 i; rw [show g'375 23 = g 23 from h380_ 23 (by decide)]) hrest) (by show (f 15).toInt + -1 = z361.toInt; omega) (by show (f 20).toInt = (f 20).toInt; omega) (by show (f 37).toInt + 0 = (f 37).toInt; omega) (by show (f 32).toInt + 0 = (f 32).toInt; omega) (by show (f 5).toInt + -1 = y413.toInt; omega) : mg_good (g'375 34) (g'375 38) (g'375 23) gs (z361.toInt) ((f 20).toInt) ((f 37).toInt) ((f 32).toInt) (y413.toInt))
                · exact ⟨(by show 0 ≤ z412.toInt; omega), (by show z412.toInt ≤ (f 0).toInt; omega), (by show (f 0).toInt ≤ 512; omega), (by show 0 ≤ (f 24).toInt; omega), (by show (f 24).toInt + (f 20).toInt + mg_p1 gs ≤ 4 * z412.toInt; omega), (by show (f 20).toInt ≤ z412.toInt; omega), (by show z361.toInt + mg_p2 gs ≤ z412.toInt; omega), (by show mg_p3 gs ≤ 20 * z412.toInt + 20; omega), (by show 0 ≤ z373.toInt; omega), (by show z373.toInt + 3 * (f 20).toInt + mg_p4 gs ≤ 60 * z412.toInt + 60; omega), (by show 0 ≤ (f 62).toInt; omega), (by show (f 62).toInt + 64 * mj_n (g'375 16) z361.toNatClampNeg 3 ≤ 64 * z412.toInt; rw [show g'375 16 = g 16 from h380_ 16 (by decide)]; omega), (by show 0 ≤ (f 44).toInt; omega), (by show (f 44).toInt ≤ z412.toInt; omega), (by show 0 ≤ (f 48).toInt; omega), (by show (f 48).toInt ≤ z412.toInt; omega), (by show 1 ≤ (f 53).toInt; omega), (by show (f 53).toInt ≤ z412.toInt + 1; omega), (by show 0 ≤ (f 19).toInt; omega), (by show (f 19).toInt ≤ 600; omega)⟩
                · show 100 * ((f 0).toInt - z412.toInt) + mg_p3 gs < 100 * ((f 0).toInt - (f 4).toInt) + (1 + mg_p3 gs); omega
              · subst hv422
                replace hS423 : MS S0 S411 (upd (upd (upd (upd (upd f 6 a420) 7 b421) 10 0) 15 z361) 68 z373) g'375 := hS423
                have hR426 := rj_clear0 hR381_
                have hR427 : RJ (upd (upd (upd (upd (upd f 6 a420) 7 b421) 10 0) 15 z361) 68 z373) g'375 [] bc [] 0 [] := hR426
                show am_E _ _ _ _ [some (.ref 39), some (.int on)] [.int 0] _ _
                refine am_e6i hi_220_46 ?_
                refine am_e35 hi_220_47 ?_
                show am_E _ _ _ _ [some (.ref 39), some (.int on), some (.int tw), some (.int 1)] [] _ _
                refine am_e35 hi_221_95 ?_
                show am_E _ _ _ _ [some (.ref 39), some (.int 39), some (.int on), some (.int tw)] [] _ _
                refine am_e18 hi_181_366 ?_
                refine am_e35 hi_181_397 ?_
                show am_E _ _ _ _ [some (.ref 39), some (.int 39), some (.int on), some (.int tw), some (.int th)] [] _ _
                refine am_e35 hi_180_13 ?_
                have hRc := rj_clear0 hR427
                refine ⟨_, _, [], _, rfl, hS423, Or.inr ⟨hRc, rfl, (by show 0 ≤ (f 4).toInt; omega), (by show (f 4).toInt ≤ (f 0).toInt; omega), (by show 0 ≤ (f 32).toInt; omega), (by show (f 32).toInt ≤ 63; omega), (by show 1 ≤ (f 53).toInt; omega), (by show (f 53).toInt ≤ 600; omega), (by show 0 ≤ z373.toInt; omega), (by show z373.toInt ≤ 60000; omega), (by show 0 ≤ (f 48).toInt; omega), (by show (f 48).toInt ≤ 8000; omega), (by show 0 ≤ (f 37).toInt; omega), (by show (f 37).toInt ≤ 128; omega), (by show 0 ≤ (f 62).toInt; omega), (by show (f 62).toInt ≤ 65000; omega), (by show 0 ≤ (f 19).toInt; omega), (by show (f 19).toInt ≤ 600; omega)⟩⟩
            · refine am_e13f hi_220_15 (am_cF (m := r404.toInt) (n := (67 : Int)) rfl (by decide) c409) ?_
              refine am_e2 (v := 39) hi_220_18 rfl ?_
              refine am_e7 hi_220_19 ?_
              refine mm_20 (v := .int (f 4)) hS406 hi_220_20 rfl ?_
              refine am_e0 hi_220_23 ?_
              refine am_e10 (z := z264) hi_220_24 hz264 ?_
              refine mm_21 (v := z264) hS406 hi_220_25 rfl (Nat.le_of_ble_eq_true rfl) ms_4 ?_
              intro S428 hS429
              replace hS429 : MS S0 S428 (upd (upd (upd f 4 z264) 15 z361) 68 z373) g'375 := hS429
              have hR430 : RJ (upd (upd (upd f 4 z264) 15 z361) 68 z373) g'375 gs bc [] 0 ((f 68).toNatClampNeg :: []) := RJ.at hR381_ (by show (f 4).toInt ≤ z264.toInt; omega)
              refine am_e2 (v := 39) hi_220_28 rfl ?_
              refine am_e0 hi_220_29 ?_
              refine am_e1 (v := on) hi_220_31 rfl ?_
              refine am_e0 hi_220_32 ?_
              refine am_e0 hi_220_33 ?_
              refine am_e32n (as := [.ref 39, .int 35, .int on, .int 0, .int 0]) (la := [some (.ref 39), some (.int 35), some (.int on), some (.int 0), some (.int 0)]) (rest := []) hi_220_34 (am_hd0 (M := 220) (by decide) 34) (Nat.le_of_ble_eq_true rfl) (Nat.le_of_ble_eq_true rfl) (show 5 ≤ am_P0.2.2.1 179 from by decide +kernel) rfl (am_recv_ok hS429.fs) rfl rfl (ct_pile (d := (d + 4)) hS429 hR430 (mj_e_plain (by decide)) (by show (0 : Int) ≤ (f 10).toInt; omega) (by show (f 10).toInt ≤ (65535 : Int); omega)) ?_
              rintro v431 S432 (⟨z433, g'434, hv435, hS436, hR439, h437, h438⟩)
              subst hv435
              have h437_ : z433.toInt = (f 10).toInt + 1 := h437
              have h438_ : ∀ j, j ∉ [11, 12, 13, 14] → g'434 j = g'375 j := h438
              replace hS436 : MS S0 S432 (upd (upd (upd (upd f 4 z264) 10 z433) 15 z361) 68 z373) g'434 := hS436
              have hR439_ : RJ (upd (upd (upd (upd f 4 z264) 10 z433) 15 z361) 68 z373) g'434 (((35 : Int), on.toInt, (0 : Int), (0 : Int), []) :: gs) bc [] 0 ((f 68).toNatClampNeg :: []) := hR439
              show am_E _ _ _ _ [some (.ref 39), some (.int on)] [] _ _
              refine am_e18 hi_220_37 ?_
              refine am_e35 hi_220_47 ?_
              show am_E _ _ _ _ [some (.ref 39), some (.int on), some (.int tw), some (.int 1)] [] _ _
              refine am_e35 hi_221_95 ?_
              show am_E _ _ _ _ [some (.ref 39), some (.int 39), some (.int on), some (.int tw)] [] _ _
              refine am_e18 hi_181_366 ?_
              refine am_e35 hi_181_397 ?_
              show am_E _ _ _ _ [some (.ref 39), some (.int 39), some (.int on), some (.int tw), some (.int th)] [] _ _
              refine am_e35 hi_180_13 ?_
              have q1 : mg_p1 (((35 : Int), on.toInt, (0 : Int), (0 : Int), []) :: gs) = 0 + (mg_p1 gs) := rfl
              have q2 : mg_p2 (((35 : Int), on.toInt, (0 : Int), (0 : Int), []) :: gs) = 0 + (mg_p2 gs) := rfl
              have q3 : mg_p3 (((35 : Int), on.toInt, (0 : Int), (0 : Int), []) :: gs) = 3 + (mg_p3 gs) := rfl
              have q4 : mg_p4 (((35 : Int), on.toInt, (0 : Int), (0 : Int), []) :: gs) = 0 + (mg_p4 gs) := rfl
              refine ⟨_, _, _, bc, rfl, hS436, Or.inl ⟨⟨(RJ.fewer (pj' := []) hR439_ (fun _ h => nomatch h)), ?_, ?_⟩, rfl, ?_⟩⟩
              · exact (⟨⟨(show mg_k 35 from by decide), (show (0 : Int) ≤ z361.toInt from by omega), (show 0 ≤ (f 20).toInt from by omega), (show 1 ≤ (f 37).toInt from by omega), (show 0 ≤ (f 32).toInt from by omega), (show (f 32).toInt ≤ (f 5).toInt from by omega), (show (f 5).toInt ≤ 48 from by omega), (show (f 37).toInt ≤ 2 * ((f 5).toInt) + 2 from by omega), trivial⟩, mg_cast (mg_good_ext _ _ _ _ _ _ (fun i _ => by show g'434 34 i = g 34 i; rw [show g'434 34 = g'375 34 from h438_ 34 (by decide), show g'375 34 = g 34 from h380_ 34 (by decide)]) (fun i _ => by show g'434 38 i = g 38 i; rw [show g'434 38 = g'375 38 from h438_ 38 (by decide), show g'375 38 = g 38 from h380_ 38 (by decide)]) (fun i _ => by show g'434 23 i = g 23 i; rw [show g'434 23 = g'375 23 from h438_ 23 (by decide), show g'375 23 = g 23 from h380_ 23 (by decide)]) hrest) (by show (f 15).toInt + -1 = z361.toInt + 0; omega) (by show (f 20).toInt = (f 20).toInt; omega) (by show (f 37).toInt + 0 = (f 37).toInt + 0; omega) (by show (f 32).toInt + 0 = (f 32).toInt + 0; omega) (by show (f 5).toInt + -1 = (f 5).toInt + -1; omega)⟩ : mg_good (g'434 34) (g'434 38) (g'434 23) (((35 : Int), on.toInt, (0 : Int), (0 : Int), []) :: gs) (z361.toInt) ((f 20).toInt) ((f 37).toInt) ((f 32).toInt) ((f 5).toInt))
              · exact ⟨(by show 0 ≤ z264.toInt; omega), (by show z264.toInt ≤ (f 0).toInt; omega), (by show (f 0).toInt ≤ 512; omega), (by show 0 ≤ (f 24).toInt; omega), (by show (f 24).toInt + (f 20).toInt + mg_p1 (((35 : Int), on.toInt, (0 : Int), (0 : Int), []) :: gs) ≤ 4 * z264.toInt; omega), (by show (f 20).toInt ≤ z264.toInt; omega), (by show z361.toInt + mg_p2 (((35 : Int), on.toInt, (0 : Int), (0 : Int), []) :: gs) ≤ z264.toInt; omega), (by show mg_p3 (((35 : Int), on.toInt, (0 : Int), (0 : Int), []) :: gs) ≤ 20 * z264.toInt + 20; omega), (by show 0 ≤ z373.toInt; omega), (by show z373.toInt + 3 * (f 20).toInt + mg_p4 (((35 : Int), on.toInt, (0 : Int), (0 : Int), []) :: gs) ≤ 60 * z264.toInt + 60; omega), (by show 0 ≤ (f 62).toInt; omega), (by show (f 62).toInt + 64 * mj_n (g'434 16) z361.toNatClampNeg 3 ≤ 64 * z264.toInt; rw [show g'434 16 = g'375 16 from h438_ 16 (by decide), show g'375 16 = g 16 from h380_ 16 (by decide)]; omega), (by show 0 ≤ (f 44).toInt; omega), (by show (f 44).toInt ≤ z264.toInt; omega), (by show 0 ≤ (f 48).toInt; omega), (by show (f 48).toInt ≤ z264.toInt; omega), (by show 1 ≤ (f 53).toInt; omega), (by show (f 53).toInt ≤ z264.toInt + 1; omega), (by show 0 ≤ (f 19).toInt; omega), (by show (f 19).toInt ≤ 600; omega)⟩
              · show 100 * ((f 0).toInt - z264.toInt) + mg_p3 (((35 : Int), on.toInt, (0 : Int), (0 : Int), []) :: gs) < 100 * ((f 0).toInt - (f 4).toInt) + (1 + mg_p3 gs); omega
        · refine am_e13f hi_216_12 (am_cF (m := (g 16 z361.toNatClampNeg).toInt) (n := (1 : Int)) rfl (by decide) c362) ?_
          refine am_e2 (v := 39) hi_216_15 rfl ?_
          refine mm_20 (v := .ref 46) hS269 hi_216_16 rfl ?_
          refine am_e2 (v := 39) hi_216_19 rfl ?_
          refine mm_20 (v := .int (f 15)) hS269 hi_216_20 rfl ?_
          refine am_e0 hi_216_23 ?_
          refine am_e10 (z := z361) hi_216_24 hz361 ?_
          refine mm_25 hS269 ma_16 hi_216_25 (by decide) (by omega) (by omega) ?_
          show am_E _ _ _ _ [some (.ref 39)] [.int (g 16 z361.toNatClampNeg)] _ _
          refine am_e0 hi_216_26 ?_
          by_cases c440 : ¬ (g 16 z361.toNatClampNeg).toInt = (2 : Int)
          · refine am_e13t hi_216_27 (am_cT (m := (g 16 z361.toNatClampNeg).toInt) (n := (2 : Int)) rfl (by decide) c440) ?_
            refine am_e0 hi_216_34 ?_
            refine am_e36 hi_216_35 (by decide) ?_
            show am_E _ _ _ _ [some (.ref 39), some (.int on), some (.int tw), some (.int 1)] [.int 0] _ _
            refine am_e12t hi_221_56 (by decide) ?_
            refine am_e2 (v := 39) hi_221_76 rfl ?_
            refine am_e32w (as := [.ref 39]) (la := [some (.ref 39)]) (rest := []) hi_221_77 (am_hd0 (M := 221) (by decide) 77) (Nat.le_of_ble_eq_true rfl) (Nat.le_of_ble_eq_true rfl) (show 1 ≤ am_P0.2.2.1 209 from by decide +kernel) rfl (am_recv_ok hS269.fs) rfl rfl ?_
            refine am_e2 (v := 39) hi_209_0 rfl ?_
            refine am_e32n (as := [.ref 39]) (la := [some (.ref 39), none, none, none]) (rest := []) hi_209_1 (am_hd0 (M := 209) (by decide) 1) (Nat.le_of_ble_eq_true rfl) (Nat.le_of_ble_eq_true rfl) (show 1 ≤ am_P0.2.2.1 204 from by decide +kernel) rfl (am_recv_ok hS269.fs) rfl rfl (ct_load (d := (d + 2)) hS269 hR  (by show (0 : Int) ≤ (f 32).toInt; omega) (by show (f 32).toInt ≤ (63 : Int); omega) (by show (f 53).toInt ≤ (4096 : Int); omega) (by show (0 : Int) ≤ (f 68).toInt; omega) (by show (f 68).toInt ≤ (65534 : Int); omega) (by show (1 : Int) ≤ (f 15).toInt; omega) (by show (f 15).toInt ≤ (32767 : Int); omega) (by show (0 : Int) ≤ (f 24).toInt; omega) (by show (f 24).toInt ≤ (16384 : Int); omega) (by show (0 : Int) ≤ (f 62).toInt; omega) (by show (f 62).toInt ≤ (65000 : Int); omega)) ?_
            rintro v441 S442 (⟨o443, s444, m445, g'446, hv447, hS448, hR455, h449, h450, h451, h452, h453, h454⟩)
            subst hv447
            have h449_ : (f 62).toInt ≤ o443.toInt := h449
            have h450_ : o443.toInt ≤ (f 62).toInt + 64 := h450
            have h451_ : (f 68).toInt ≤ s444.toInt := h451
            have h452_ : s444.toInt ≤ (f 68).toInt + 1 := h452
            have h453_ : o443.toInt + 64 * mj_n (g'446 16) (f 15).toNatClampNeg 3 ≤ (f 62).toInt + 64 * mj_n (g 16) (f 15).toNatClampNeg 3 := h453
            have h454_ : ∀ j, j ∉ [16, 60, 63, 64, 65, 66, 67, 69, 70, 71, 72, 73] → g'446 j = g j := h454
            have hR455_ : RJ (upd (upd (upd f 62 o443) 68 s444) 75 m445) g'446 gs bc [] 0 [] := hR455
            show am_E _ _ _ _ [some (.ref 39)] [] _ _
            refine am_e2 (v := 39) hi_209_4 rfl ?_
            refine am_e7 hi_209_5 ?_
            refine mm_20 (v := .int (f 15)) hS448 hi_209_6 rfl ?_
            refine am_e0 hi_209_9 ?_
            refine am_e10 (z := z361) hi_209_10 hz361 ?_
            refine mm_21 (v := z361) hS448 hi_209_11 rfl (Nat.le_of_ble_eq_true rfl) ms_15 ?_
            intro S456 hS457
            replace hS457 : MS S0 S456 (upd (upd (upd (upd f 15 z361) 62 o443) 68 s444) 75 m445) g'446 := hS457
            have hp458 : mj_n (g'446 16) (f 15).toNatClampNeg 3 = mj_n (g'446 16) z361.toNatClampNeg 3 + if (g'446 16 z361.toNatClampNeg).toInt = 3 then 1 else 0 := mj_pop (by rw [cl_toNat, cl_toNat]; omega)
            have hp4581 : mj_n (g'446 16) z361.toNatClampNeg 3 ≤ mj_n (g'446 16) (f 15).toNatClampNeg 3 := by rw [hp458]; split <;> omega
            have hp4582 : (g'446 16 z361.toNatClampNeg).toInt = 3 → mj_n (g'446 16) z361.toNatClampNeg 3 + 1 ≤ mj_n (g'446 16) (f 15).toNatClampNeg 3 := fun q => by rw [hp458, if_pos q]; exact Int.le_refl _
            refine am_e35 hi_209_14 ?_
            show am_E _ _ _ _ [some (.ref 39), some (.int on), some (.int tw), some (.int 1)] [] _ _
            refine am_e2 (v := 39) hi_221_80 rfl ?_
            refine am_e0 hi_221_81 ?_
            refine am_e1 (v := on) hi_221_83 rfl ?_
            refine am_e0 hi_221_84 ?_
            refine am_e1 (v := tw) hi_221_85 rfl ?_
            refine am_e32n (as := [.ref 39, .int 23, .int on, .int 0, .int tw]) (la := [some (.ref 39), some (.int 23), some (.int on), some (.int 0), some (.int tw)]) (rest := []) hi_221_86 (am_hd0 (M := 221) (by decide) 86) (Nat.le_of_ble_eq_true rfl) (Nat.le_of_ble_eq_true rfl) (show 5 ≤ am_P0.2.2.1 189 from by decide +kernel) rfl (am_recv_ok hS457.fs) rfl rfl (ct_put (d := (d + 5)) hS457 hR455_  (by show (0 : Int) ≤ (f 32).toInt; omega) (by show (f 32).toInt ≤ (63 : Int); omega) (by show (f 53).toInt ≤ (4096 : Int); omega) (by show (0 : Int) ≤ s444.toInt; omega) (by show s444.toInt ≤ (65534 : Int); omega)) ?_
            rintro v459 S460 (⟨z461, r462, g'463, hv464, hS465, hR469, h466, h467, h468⟩)
            subst hv464
            have h466_ : z461.toInt = s444.toInt + 1 := h466
            have h467_ : r462.toInt = s444.toInt := h467
            have h468_ : ∀ j, j ∉ [60, 69, 70, 71, 72, 73] → g'463 j = g'446 j := h468
            replace hS465 : MS S0 S460 (upd (upd (upd (upd f 15 z361) 62 o443) 68 z461) 75 m445) g'463 := hS465
            have hR469_ : RJ (upd (upd (upd (upd f 15 z361) 62 o443) 68 z461) 75 m445) g'463 gs bc [] 0 (s444.toNatClampNeg :: []) := hR469
            show am_E _ _ _ _ [some (.ref 39), some (.int on), some (.int tw), some (.int 1)] [.int r462] _ _
            refine am_e6i hi_221_89 ?_
            refine am_e2 (v := 39) hi_221_90 rfl ?_
            refine am_e1 (v := on) hi_221_91 rfl ?_
            refine am_e32w (as := [.ref 39, .int on]) (la := [some (.ref 39), some (.int on)]) (rest := []) hi_221_92 (am_hd0 (M := 221) (by decide) 92) (Nat.le_of_ble_eq_true rfl) (Nat.le_of_ble_eq_true rfl) (show 2 ≤ am_P0.2.2.1 220 from by decide +kernel) rfl (am_recv_ok hS465.fs) rfl rfl ?_
            refine am_e2 (v := 39) hi_220_0 rfl ?_
            refine am_e32n (as := [.ref 39]) (la := [some (.ref 39)]) (rest := []) hi_220_1 (am_hd0 (M := 220) (by decide) 1) (Nat.le_of_ble_eq_true rfl) (Nat.le_of_ble_eq_true rfl) (show 1 ≤ am_P0.2.2.1 183 from by decide +kernel) rfl (am_recv_ok hS465.fs) rfl rfl (ct_next (d := (d + 3)) hS465   (by show (0 : Int) ≤ (f 4).toInt; omega) (by show (f 0).toInt ≤ (16384 : Int); omega)) ?_
            rintro v470 S471 (⟨r472, hv473, hS474, h475⟩)
            subst hv473
            have h475_ : (f 4).toInt < (f 0).toInt ∨ r472.toInt = (-1 : Int) := h475
            show am_E _ _ _ _ [some (.ref 39), some (.int on)] [.int r472] _ _
            refine am_e0 hi_220_4 ?_
            by_cases c477 : r472.toInt = (69 : Int)
            · refine am_e13t hi_220_6 (am_cT (m := r472.toInt) (n := (69 : Int)) rfl (by decide) c477) ?_
              refine am_e2 (v := 39) hi_220_18 rfl ?_
              refine am_e7 hi_220_19 ?_
              refine mm_20 (v := .int (f 4)) hS474 hi_220_20 rfl ?_
              refine am_e0 hi_220_23 ?_
              refine am_e10 (z := z264) hi_220_24 hz264 ?_
              refine mm_21 (v := z264) hS474 hi_220_25 rfl (Nat.le_of_ble_eq_true rfl) ms_4 ?_
              intro S478 hS479
              replace hS479 : MS S0 S478 (upd (upd (upd (upd (upd f 4 z264) 15 z361) 62 o443) 68 z461) 75 m445) g'463 := hS479
              have hR480 : RJ (upd (upd (upd (upd (upd f 4 z264) 15 z361) 62 o443) 68 z461) 75 m445) g'463 gs bc [] 0 (s444.toNatClampNeg :: []) := RJ.at hR469_ (by show (f 4).toInt ≤ z264.toInt; omega)
              refine am_e2 (v := 39) hi_220_28 rfl ?_
              refine am_e0 hi_220_29 ?_
              refine am_e1 (v := on) hi_220_31 rfl ?_
              refine am_e0 hi_220_32 ?_
              refine am_e0 hi_220_33 ?_
              refine am_e32n (as := [.ref 39, .int 35, .int on, .int 0, .int 0]) (la := [some (.ref 39), some (.int 35), some (.int on), some (.int 0), some (.int 0)]) (rest := []) hi_220_34 (am_hd0 (M := 220) (by decide) 34) (Nat.le_of_ble_eq_true rfl) (Nat.le_of_ble_eq_true rfl) (show 5 ≤ am_P0.2.2.1 179 from by decide +kernel) rfl (am_recv_ok hS479.fs) rfl rfl (ct_pile (d := (d + 4)) hS479 hR480 (mj_e_plain (by decide)) (by show (0 : Int) ≤ (f 10).toInt; omega) (by show (f 10).toInt ≤ (65535 : Int); omega)) ?_
              rintro v481 S482 (⟨z483, g'484, hv485, hS486, hR489, h487, h488⟩)
              subst hv485
              have h487_ : z483.toInt = (f 10).toInt + 1 := h487
              have h488_ : ∀ j, j ∉ [11, 12, 13, 14] → g'484 j = g'463 j := h488
              replace hS486 : MS S0 S482 (upd (upd (upd (upd (upd (upd f 4 z264) 10 z483) 15 z361) 62 o443) 68 z461) 75 m445) g'484 := hS486
              have hR489_ : RJ (upd (upd (upd (upd (upd (upd f 4 z264) 10 z483) 15 z361) 62 o443) 68 z461) 75 m445) g'484 (((35 : Int), on.toInt, (0 : Int), (0 : Int), []) :: gs) bc [] 0 (s444.toNatClampNeg :: []) := hR489
              show am_E _ _ _ _ [some (.ref 39), some (.int on)] [] _ _
              refine am_e18 hi_220_37 ?_
              refine am_e35 hi_220_47 ?_
              show am_E _ _ _ _ [some (.ref 39), some (.int on), some (.int tw), some (.int 1)] [] _ _
              refine am_e35 hi_221_95 ?_
              show am_E _ _ _ _ [some (.ref 39), some (.int 39), some (.int on), some (.int tw)] [] _ _
              refine am_e18 hi_181_366 ?_
              refine am_e35 hi_181_397 ?_
              show am_E _ _ _ _ [some (.ref 39), some (.int 39), some (.int on), some (.int tw), some (.int th)] [] _ _
              refine am_e35 hi_180_13 ?_
              have q1 : mg_p1 (((35 : Int), on.toInt, (0 : Int), (0 : Int), []) :: gs) = 0 + (mg_p1 gs) := rfl
              have q2 : mg_p2 (((35 : Int), on.toInt, (0 : Int), (0 : Int), []) :: gs) = 0 + (mg_p2 gs) := rfl
              have q3 : mg_p3 (((35 : Int), on.toInt, (0 : Int), (0 : Int), []) :: gs) = 3 + (mg_p3 gs) := rfl
              have q4 : mg_p4 (((35 : Int), on.toInt, (0 : Int), (0 : Int), []) :: gs) = 0 + (mg_p4 gs) := rfl
              refine ⟨_, _, _, bc, rfl, hS486, Or.inl ⟨⟨(RJ.fewer (pj' := []) hR489_ (fun _ h => nomatch h)), ?_, ?_⟩, rfl, ?_⟩⟩
              · exact (⟨⟨(show mg_k 35 from by decide), (show (0 : Int) ≤ z361.toInt from by omega), (show 0 ≤ (f 20).toInt from by omega), (show 1 ≤ (f 37).toInt from by omega), (show 0 ≤ (f 32).toInt from by omega), (show (f 32).toInt ≤ (f 5).toInt from by omega), (show (f 5).toInt ≤ 48 from by omega), (show (f 37).toInt ≤ 2 * ((f 5).toInt) + 2 from by omega), trivial⟩, mg_cast (mg_good_ext _ _ _ _ _ _ (fun i _ => by show g'484 34 i = g 34 i; rw [show g'484 34 = g'463 34 from h488_ 34 (by decide), show g'463 34 = g'446 34 from h468_ 34 (by decide), show g'446 34 = g 34 from h454_ 34 (by decide)]) (fun i _ => by show g'484 38 i = g 38 i; rw [show g'484 38 = g'463 38 from h488_ 38 (by decide), show g'463 38 = g'446 38 from h468_ 38 (by decide), show g'446 38 = g 38 from h454_ 38 (by decide)]) (fun i _ => by show g'484 23 i = g 23 i; rw [show g'484 23 = g'463 23 from h488_ 23 (by decide), show g'463 23 = g'446 23 from h468_ 23 (by decide), show g'446 23 = g 23 from h454_ 23 (by decide)]) hrest) (by show (f 15).toInt + -1 = z361.toInt + 0; omega) (by show (f 20).toInt = (f 20).toInt; omega) (by show (f 37).toInt + 0 = (f 37).toInt + 0; omega) (by show (f 32).toInt + 0 = (f 32).toInt + 0; omega) (by show (f 5).toInt + -1 = (f 5).toInt + -1; omega)⟩ : mg_good (g'484 34) (g'484 38) (g'484 23) (((35 : Int), on.toInt, (0 : Int), (0 : Int), []) :: gs) (z361.toInt) ((f 20).toInt) ((f 37).toInt) ((f 32).toInt) ((f 5).toInt))
              · exact ⟨(by show 0 ≤ z264.toInt; omega), (by show z264.toInt ≤ (f 0).toInt; omega), (by show (f 0).toInt ≤ 512; omega), (by show 0 ≤ (f 24).toInt; omega), (by show (f 24).toInt + (f 20).toInt + mg_p1 (((35 : Int), on.toInt, (0 : Int), (0 : Int), []) :: gs) ≤ 4 * z264.toInt; omega), (by show (f 20).toInt ≤ z264.toInt; omega), (by show z361.toInt + mg_p2 (((35 : Int), on.toInt, (0 : Int), (0 : Int), []) :: gs) ≤ z264.toInt; omega), (by show mg_p3 (((35 : Int), on.toInt, (0 : Int), (0 : Int), []) :: gs) ≤ 20 * z264.toInt + 20; omega), (by show 0 ≤ z461.toInt; omega), (by show z461.toInt + 3 * (f 20).toInt + mg_p4 (((35 : Int), on.toInt, (0 : Int), (0 : Int), []) :: gs) ≤ 60 * z264.toInt + 60; omega), (by show 0 ≤ o443.toInt; omega), (by show o443.toInt + 64 * mj_n (g'484 16) z361.toNatClampNeg 3 ≤ 64 * z264.toInt; rw [show g'484 16 = g'463 16 from h488_ 16 (by decide), show g'463 16 = g'446 16 from h468_ 16 (by decide)]; omega), (by show 0 ≤ (f 44).toInt; omega), (by show (f 44).toInt ≤ z264.toInt; omega), (by show 0 ≤ (f 48).toInt; omega), (by show (f 48).toInt ≤ z264.toInt; omega), (by show 1 ≤ (f 53).toInt; omega), (by show (f 53).toInt ≤ z264.toInt + 1; omega), (by show 0 ≤ (f 19).toInt; omega), (by show (f 19).toInt ≤ 600; omega)⟩
              · show 100 * ((f 0).toInt - z264.toInt) + mg_p3 (((35 : Int), on.toInt, (0 : Int), (0 : Int), []) :: gs) < 100 * ((f 0).toInt - (f 4).toInt) + (1 + mg_p3 gs); omega
            · refine am_e13f hi_220_6 (am_cF (m := r472.toInt) (n := (69 : Int)) rfl (by decide) c477) ?_
              refine am_e2 (v := 39) hi_220_9 rfl ?_
              refine am_e32n (as := [.ref 39]) (la := [some (.ref 39)]) (rest := []) hi_220_10 (am_hd0 (M := 220) (by decide) 10) (Nat.le_of_ble_eq_true rfl) (Nat.le_of_ble_eq_true rfl) (show 1 ≤ am_P0.2.2.1 183 from by decide +kernel) rfl (am_recv_ok hS474.fs) rfl rfl (ct_next (d := (d + 3)) hS474   (by show (0 : Int) ≤ (f 4).toInt; omega) (by show (f 0).toInt ≤ (16384 : Int); omega)) ?_
              rintro v490 S491 (⟨r492, hv493, hS494, h495⟩)
              subst hv493
              have h495_ : (f 4).toInt < (f 0).toInt ∨ r492.toInt = (-1 : Int) := h495
              show am_E _ _ _ _ [some (.ref 39), some (.int on)] [.int r492] _ _
              refine am_e0 hi_220_13 ?_
              by_cases c497 : ¬ r492.toInt = (67 : Int)
              · refine am_e13t hi_220_15 (am_cT (m := r492.toInt) (n := (67 : Int)) rfl (by decide) c497) ?_
                refine am_e2 (v := 39) hi_220_40 rfl ?_
                refine am_e0 hi_220_41 ?_
                refine am_e32n (as := [.ref 39, .int 63]) (la := [some (.ref 39), some (.int 63)]) (rest := []) hi_220_43 (am_hd0 (M := 220) (by decide) 43) (Nat.le_of_ble_eq_true rfl) (Nat.le_of_ble_eq_true rfl) (show 2 ≤ am_P0.2.2.1 199 from by decide +kernel) rfl (am_recv_ok hS494.fs) rfl rfl (ct_leave (d := (d + 1)) hS494   (by show (0 : Int) ≤ (f 4).toInt; omega) (by show (f 0).toInt ≤ (16384 : Int); omega) (by show (0 : Int) ≤ (63 : Int); omega) (by show (0 : Int) ≤ (f 5).toInt; omega) (by show (f 5).toInt ≤ (48 : Int); omega)) ?_
                rintro v498 S499 (⟨z500, y501, hv502, hS503, h504, h505, h506⟩ | ⟨a508, b509, hv510, hS511⟩)
                · subst hv502
                  have h504_ : z500.toInt = (f 4).toInt + 1 := h504
                  have h505_ : (f 4).toInt < (f 0).toInt := h505
                  have h506_ : y501.toInt = (f 5).toInt - 1 := h506
                  replace hS503 : MS S0 S499 (upd (upd (upd (upd (upd (upd f 4 z500) 5 y501) 15 z361) 62 o443) 68 z461) 75 m445) g'463 := hS503
                  have hR513 : RJ (upd (upd (upd (upd (upd (upd f 4 z500) 5 y501) 15 z361) 62 o443) 68 z461) 75 m445) g'463 gs bc [] 0 (s444.toNatClampNeg :: []) := RJ.at hR469_ (by show (f 4).toInt ≤ z500.toInt; omega)
                  show am_E _ _ _ _ [some (.ref 39), some (.int on)] [.int 1] _ _
                  refine am_e6i hi_220_46 ?_
                  refine am_e35 hi_220_47 ?_
                  show am_E _ _ _ _ [some (.ref 39), some (.int on), some (.int tw), some (.int 1)] [] _ _
                  refine am_e35 hi_221_95 ?_
                  show am_E _ _ _ _ [some (.ref 39), some (.int 39), some (.int on), some (.int tw)] [] _ _
                  refine am_e18 hi_181_366 ?_
                  refine am_e35 hi_181_397 ?_
                  show am_E _ _ _ _ [some (.ref 39), some (.int 39), some (.int on), some (.int tw), some (.int th)] [] _ _
                  refine am_e35 hi_180_13 ?_
                  have q1 : mg_p1 gs = mg_p1 gs := rfl
                  have q2 : mg_p2 gs = mg_p2 gs := rfl
                  have q3 : mg_p3 gs = mg_p3 gs := rfl
                  have q4 : mg_p4 gs = mg_p4 gs := rfl
                  refine ⟨_, _, _, bc, rfl, hS503, Or.inl ⟨⟨(RJ.fewer (pj' := []) hR513 (fun _ h => nomatch h)), ?_, ?_⟩, rfl, ?_⟩⟩
                  · exact (mg_cast (mg_good_ext _ _ _ _ _ _ (fun i _ => by show g'463 34 i = g 34 i; rw [show g'463 34 = g'446 34 from h468_ 34 (by decide), show g'446 34 = g 34 from h454_ 34 (by decide)]) (fun i _ => by show g'463 38 i = g 38 i; rw [show g'463 38 = g'446 38 from h468_ 38 (by decide), show g'446 38 = g 38 from h454_ 38 (by decide)]) (fun i _ => by show g'463 23 i = g 23 i; rw [show g'463 23 = g'446 23 from h468_ 23 (by decide), show g'446 23 = g 23 from h454_ 23 (by decide)]) hrest) (by show (f 15).toInt + -1 = z361.toInt; omega) (by show (f 20).toInt = (f 20).toInt; omega) (by show (f 37).toInt + 0 = (f 37).toInt; omega) (by show (f 32).toInt + 0 = (f 32).toInt; omega) (by show (f 5).toInt + -1 = y501.toInt; omega) : mg_good (g'463 34) (g'463 38) (g'463 23) gs (z361.toInt) ((f 20).toInt) ((f 37).toInt) ((f 32).toInt) (y501.toInt))
                  · exact ⟨(by show 0 ≤ z500.toInt; omega), (by show z500.toInt ≤ (f 0).toInt; omega), (by show (f 0).toInt ≤ 512; omega), (by show 0 ≤ (f 24).toInt; omega), (by show (f 24).toInt + (f 20).toInt + mg_p1 gs ≤ 4 * z500.toInt; omega), (by show (f 20).toInt ≤ z500.toInt; omega), (by show z361.toInt + mg_p2 gs ≤ z500.toInt; omega), (by show mg_p3 gs ≤ 20 * z500.toInt + 20; omega), (by show 0 ≤ z461.toInt; omega), (by show z461.toInt + 3 * (f 20).toInt + mg_p4 gs ≤ 60 * z500.toInt + 60; omega), (by show 0 ≤ o443.toInt; omega), (by show o443.toInt + 64 * mj_n (g'463 16) z361.toNatClampNeg 3 ≤ 64 * z500.toInt; rw [show g'463 16 = g'446 16 from h468_ 16 (by decide)]; omega), (by show 0 ≤ (f 44).toInt; omega), (by show (f 44).toInt ≤ z500.toInt; omega), (by show 0 ≤ (f 48).toInt; omega), (by show (f 48).toInt ≤ z500.toInt; omega), (by show 1 ≤ (f 53).toInt; omega), (by show (f 53).toInt ≤ z500.toInt + 1; omega), (by show 0 ≤ (f 19).toInt; omega), (by show (f 19).toInt ≤ 600; omega)⟩
                  · show 100 * ((f 0).toInt - z500.toInt) + mg_p3 gs < 100 * ((f 0).toInt - (f 4).toInt) + (1 + mg_p3 gs); omega
                · subst hv510
                  replace hS511 : MS S0 S499 (upd (upd (upd (upd (upd (upd (upd f 6 a508) 7 b509) 10 0) 15 z361) 62 o443) 68 z461) 75 m445) g'463 := hS511
                  have hR514 := rj_clear0 hR469_
                  have hR515 : RJ (upd (upd (upd (upd (upd (upd (upd f 6 a508) 7 b509) 10 0) 15 z361) 62 o443) 68 z461) 75 m445) g'463 [] bc [] 0 [] := hR514
                  show am_E _ _ _ _ [some (.ref 39), some (.int on)] [.int 0] _ _
                  refine am_e6i hi_220_46 ?_
                  refine am_e35 hi_220_47 ?_
                  show am_E _ _ _ _ [some (.ref 39), some (.int on), some (.int tw), some (.int 1)] [] _ _
                  refine am_e35 hi_221_95 ?_
                  show am_E _ _ _ _ [some (.ref 39), some (.int 39), some (.int on), some (.int tw)] [] _ _
                  refine am_e18 hi_181_366 ?_
                  refine am_e35 hi_181_397 ?_
                  show am_E _ _ _ _ [some (.ref 39), some (.int 39), some (.int on), some (.int tw), some (.int th)] [] _ _
                  refine am_e35 hi_180_13 ?_
                  have hRc := rj_clear0 hR515
                  refine ⟨_, _, [], _, rfl, hS511, Or.inr ⟨hRc, rfl, (by show 0 ≤ (f 4).toInt; omega), (by show (f 4).toInt ≤ (f 0).toInt; omega), (by show 0 ≤ (f 32).toInt; omega), (by show (f 32).toInt ≤ 63; omega), (by show 1 ≤ (f 53).toInt; omega), (by show (f 53).toInt ≤ 600; omega), (by show 0 ≤ z461.toInt; omega), (by show z461.toInt ≤ 60000; omega), (by show 0 ≤ (f 48).toInt; omega), (by show (f 48).toInt ≤ 8000; omega), (by show 0 ≤ (f 37).toInt; omega), (by show (f 37).toInt ≤ 128; omega), (by show 0 ≤ o443.toInt; omega), (by show o443.toInt ≤ 65000; omega), (by show 0 ≤ (f 19).toInt; omega), (by show (f 19).toInt ≤ 600; omega)⟩⟩
              · refine am_e13f hi_220_15 (am_cF (m := r492.toInt) (n := (67 : Int)) rfl (by decide) c497) ?_
                refine am_e2 (v := 39) hi_220_18 rfl ?_
                refine am_e7 hi_220_19 ?_
                refine mm_20 (v := .int (f 4)) hS494 hi_220_20 rfl ?_
                refine am_e0 hi_220_23 ?_
                refine am_e10 (z := z264) hi_220_24 hz264 ?_
                refine mm_21 (v := z264) hS494 hi_220_25 rfl (Nat.le_of_ble_eq_true rfl) ms_4 ?_
                intro S516 hS517
                replace hS517 : MS S0 S516 (upd (upd (upd (upd (upd f 4 z264) 15 z361) 62 o443) 68 z461) 75 m445) g'463 := hS517
                have hR518 : RJ (upd (upd (upd (upd (upd f 4 z264) 15 z361) 62 o443) 68 z461) 75 m445) g'463 gs bc [] 0 (s444.toNatClampNeg :: []) := RJ.at hR469_ (by show (f 4).toInt ≤ z264.toInt; omega)
                refine am_e2 (v := 39) hi_220_28 rfl ?_
                refine am_e0 hi_220_29 ?_
                refine am_e1 (v := on) hi_220_31 rfl ?_
                refine am_e0 hi_220_32 ?_
                refine am_e0 hi_220_33 ?_
                refine am_e32n (as := [.ref 39, .int 35, .int on, .int 0, .int 0]) (la := [some (.ref 39), some (.int 35), some (.int on), some (.int 0), some (.int 0)]) (rest := []) hi_220_34 (am_hd0 (M := 220) (by decide) 34) (Nat.le_of_ble_eq_true rfl) (Nat.le_of_ble_eq_true rfl) (show 5 ≤ am_P0.2.2.1 179 from by decide +kernel) rfl (am_recv_ok hS517.fs) rfl rfl (ct_pile (d := (d + 4)) hS517 hR518 (mj_e_plain (by decide)) (by show (0 : Int) ≤ (f 10).toInt; omega) (by show (f 10).toInt ≤ (65535 : Int); omega)) ?_
                rintro v519 S520 (⟨z521, g'522, hv523, hS524, hR527, h525, h526⟩)
                subst hv523
                have h525_ : z521.toInt = (f 10).toInt + 1 := h525
                have h526_ : ∀ j, j ∉ [11, 12, 13, 14] → g'522 j = g'463 j := h526
                replace hS524 : MS S0 S520 (upd (upd (upd (upd (upd (upd f 4 z264) 10 z521) 15 z361) 62 o443) 68 z461) 75 m445) g'522 := hS524
                have hR527_ : RJ (upd (upd (upd (upd (upd (upd f 4 z264) 10 z521) 15 z361) 62 o443) 68 z461) 75 m445) g'522 (((35 : Int), on.toInt, (0 : Int), (0 : Int), []) :: gs) bc [] 0 (s444.toNatClampNeg :: []) := hR527
                show am_E _ _ _ _ [some (.ref 39), some (.int on)] [] _ _
                refine am_e18 hi_220_37 ?_
                refine am_e35 hi_220_47 ?_
                show am_E _ _ _ _ [some (.ref 39), some (.int on), some (.int tw), some (.int 1)] [] _ _
                refine am_e35 hi_221_95 ?_
                show am_E _ _ _ _ [some (.ref 39), some (.int 39), some (.int on), some (.int tw)] [] _ _
                refine am_e18 hi_181_366 ?_
                refine am_e35 hi_181_397 ?_
                show am_E _ _ _ _ [some (.ref 39), some (.int 39), some (.int on), some (.int tw), some (.int th)] [] _ _
                refine am_e35 hi_180_13 ?_
                have q1 : mg_p1 (((35 : Int), on.toInt, (0 : Int), (0 : Int), []) :: gs) = 0 + (mg_p1 gs) := rfl
                have q2 : mg_p2 (((35 : Int), on.toInt, (0 : Int), (0 : Int), []) :: gs) = 0 + (mg_p2 gs) := rfl
                have q3 : mg_p3 (((35 : Int), on.toInt, (0 : Int), (0 : Int), []) :: gs) = 3 + (mg_p3 gs) := rfl
                have q4 : mg_p4 (((35 : Int), on.toInt, (0 : Int), (0 : Int), []) :: gs) = 0 + (mg_p4 gs) := rfl
                refine ⟨_, _, _, bc, rfl, hS524, Or.inl ⟨⟨(RJ.fewer (pj' := []) hR527_ (fun _ h => nomatch h)), ?_, ?_⟩, rfl, ?_⟩⟩
                · exact (⟨⟨(show mg_k 35 from by decide), (show (0 : Int) ≤ z361.toInt from by omega), (show 0 ≤ (f 20).toInt from by omega), (show 1 ≤ (f 37).toInt from by omega), (show 0 ≤ (f 32).toInt from by omega), (show (f 32).toInt ≤ (f 5).toInt from by omega), (show (f 5).toInt ≤ 48 from by omega), (show (f 37).toInt ≤ 2 * ((f 5).toInt) + 2 from by omega), trivial⟩, mg_cast (mg_good_ext _ _ _ _ _ _ (fun i _ => by show g'522 34 i = g 34 i; rw [show g'522 34 = g'463 34 from h526_ 34 (by decide), show g'463 34 = g'446 34 from h468_ 34 (by decide), show g'446 34 = g 34 from h454_ 34 (by decide)]) (fun i _ => by show g'522 38 i = g 38 i; rw [show g'522 38 = g'463 38 from h526_ 38 (by decide), show g'463 38 = g'446 38 from h468_ 38 (by decide), show g'446 38 = g 38 from h454_ 38 (by decide)]) (fun i _ => by show g'522 23 i = g 23 i; rw [show g'522 23 = g'463 23 from h526_ 23 (by decide), show g'463 23 = g'446 23 from h468_ 23 (by decide), show g'446 23 = g 23 from h454_ 23 (by decide)]) hrest) (by show (f 15).toInt + -1 = z361.toInt + 0; omega) (by show (f 20).toInt = (f 20).toInt; omega) (by show (f 37).toInt + 0 = (f 37).toInt + 0; omega) (by show (f 32).toInt + 0 = (f 32).toInt + 0; omega) (by show (f 5).toInt + -1 = (f 5).toInt + -1; omega)⟩ : mg_good (g'522 34) (g'522 38) (g'522 23) (((35 : Int), on.toInt, (0 : Int), (0 : Int), []) :: gs) (z361.toInt) ((f 20).toInt) ((f 37).toInt) ((f 32).toInt) ((f 5).toInt))
                · exact ⟨(by show 0 ≤ z264.toInt; omega), (by show z264.toInt ≤ (f 0).toInt; omega), (by show (f 0).toInt ≤ 512; omega), (by show 0 ≤ (f 24).toInt; omega), (by show (f 24).toInt + (f 20).toInt + mg_p1 (((35 : Int), on.toInt, (0 : Int), (0 : Int), []) :: gs) ≤ 4 * z264.toInt; omega), (by show (f 20).toInt ≤ z264.toInt; omega), (by show z361.toInt + mg_p2 (((35 : Int), on.toInt, (0 : Int), (0 : Int), []) :: gs) ≤ z264.toInt; omega), (by show mg_p3 (((35 : Int), on.toInt, (0 : Int), (0 : Int), []) :: gs) ≤ 20 * z264.toInt + 20; omega), (by show 0 ≤ z461.toInt; omega), (by show z461.toInt + 3 * (f 20).toInt + mg_p4 (((35 : Int), on.toInt, (0 : Int), (0 : Int), []) :: gs) ≤ 60 * z264.toInt + 60; omega), (by show 0 ≤ o443.toInt; omega), (by show o443.toInt + 64 * mj_n (g'522 16) z361.toNatClampNeg 3 ≤ 64 * z264.toInt; rw [show g'522 16 = g'463 16 from h526_ 16 (by decide), show g'463 16 = g'446 16 from h468_ 16 (by decide)]; omega), (by show 0 ≤ (f 44).toInt; omega), (by show (f 44).toInt ≤ z264.toInt; omega), (by show 0 ≤ (f 48).toInt; omega), (by show (f 48).toInt ≤ z264.toInt; omega), (by show 1 ≤ (f 53).toInt; omega), (by show (f 53).toInt ≤ z264.toInt + 1; omega), (by show 0 ≤ (f 19).toInt; omega), (by show (f 19).toInt ≤ 600; omega)⟩
                · show 100 * ((f 0).toInt - z264.toInt) + mg_p3 (((35 : Int), on.toInt, (0 : Int), (0 : Int), []) :: gs) < 100 * ((f 0).toInt - (f 4).toInt) + (1 + mg_p3 gs); omega
          · refine am_e13f hi_216_27 (am_cF (m := (g 16 z361.toNatClampNeg).toInt) (n := (2 : Int)) rfl (by decide) c440) ?_
            refine am_e0 hi_216_30 ?_
            refine am_e18 hi_216_31 ?_
            refine am_e36 hi_216_35 (by decide) ?_
            show am_E _ _ _ _ [some (.ref 39), some (.int on), some (.int tw), some (.int 1)] [.int 1] _ _
            refine am_e12f hi_221_56 (by decide) ?_
            refine am_e2 (v := 39) hi_221_59 rfl ?_
            refine am_e32w (as := [.ref 39]) (la := [some (.ref 39), none]) (rest := []) hi_221_60 (am_hd0 (M := 221) (by decide) 60) (Nat.le_of_ble_eq_true rfl) (Nat.le_of_ble_eq_true rfl) (show 1 ≤ am_P0.2.2.1 217 from by decide +kernel) rfl (am_recv_ok hS269.fs) rfl rfl ?_
            refine am_e2 (v := 39) hi_217_0 rfl ?_
            refine mm_20 (v := .ref 47) hS269 hi_217_1 rfl ?_
            refine am_e2 (v := 39) hi_217_4 rfl ?_
            refine mm_20 (v := .int (f 15)) hS269 hi_217_5 rfl ?_
            refine am_e0 hi_217_8 ?_
            refine am_e10 (z := z361) hi_217_9 hz361 ?_
            refine mm_25 hS269 ma_17 hi_217_10 (by decide) (by omega) (by omega) ?_
            show am_E _ _ _ _ [some (.ref 39), none] [.int (g 17 z361.toNatClampNeg)] _ _
            have r528 : (g 16 z361.toNatClampNeg).toInt = 1 ∨ (g 16 z361.toNatClampNeg).toInt = 2 → 0 ≤ (g 17 z361.toNatClampNeg).toInt ∧ (g 17 z361.toNatClampNeg).toInt < 65536 := RJ.vc hR z361.toNatClampNeg
            refine am_e3 (ls' := [some (.ref 39), some (.int (g 17 z361.toNatClampNeg))]) hi_217_11 (Nat.le_of_ble_eq_true rfl) rfl ?_
            refine am_e2 (v := 39) hi_217_12 rfl ?_
            refine mm_20 (v := .ref 91) hS269 hi_217_13 rfl ?_
            refine am_e1 (v := g 17 z361.toNatClampNeg) hi_217_16 rfl ?_
            refine am_e2 (v := 39) hi_217_17 rfl ?_
            refine mm_20 (v := .ref 46) hS269 hi_217_18 rfl ?_
            refine am_e2 (v := 39) hi_217_21 rfl ?_
            refine mm_20 (v := .int (f 15)) hS269 hi_217_22 rfl ?_
            refine am_e0 hi_217_25 ?_
            refine am_e10 (z := z361) hi_217_26 hz361 ?_
            refine mm_25 hS269 ma_16 hi_217_27 (by decide) (by omega) (by omega) ?_
            show am_E _ _ _ _ [some (.ref 39), some (.int (g 17 z361.toNatClampNeg))] [.int (g 16 z361.toNatClampNeg), .int (g 17 z361.toNatClampNeg), .ref 91] _ _
            refine am_e0 hi_217_28 ?_
            refine am_e13t hi_217_29 (am_cT (m := (g 16 z361.toNatClampNeg).toInt) (n := (1 : Int)) rfl (by decide) (by simp only [am_cI]; omega)) ?_
            refine am_e0 hi_217_45 ?_
            refine mm_26 hS269 ma_72 hi_217_46 (by decide) (by omega) (by omega) (fun h => nomatch h) ?_
            intro S529 hS530
            refine am_e2 (v := 39) hi_217_47 rfl ?_
            refine am_e7 hi_217_48 ?_
            refine mm_20 (v := .int (f 15)) hS530 hi_217_49 rfl ?_
            refine am_e0 hi_217_52 ?_
            refine am_e10 (z := z361) hi_217_53 hz361 ?_
            refine mm_21 (v := z361) hS530 hi_217_54 rfl (Nat.le_of_ble_eq_true rfl) ms_15 ?_
            intro S531 hS532
            have hp533 : mj_n (g 16) (f 15).toNatClampNeg 3 = mj_n (g 16) z361.toNatClampNeg 3 + if (g 16 z361.toNatClampNeg).toInt = 3 then 1 else 0 := mj_pop (by rw [cl_toNat, cl_toNat]; omega)
            have hp5331 : mj_n (g 16) z361.toNatClampNeg 3 ≤ mj_n (g 16) (f 15).toNatClampNeg 3 := by rw [hp533]; split <;> omega
            have hp5332 : (g 16 z361.toNatClampNeg).toInt = 3 → mj_n (g 16) z361.toNatClampNeg 3 + 1 ≤ mj_n (g 16) (f 15).toNatClampNeg 3 := fun q => by rw [hp533, if_pos q]; exact Int.le_refl _
            refine am_e35 hi_217_57 ?_
            show am_E _ _ _ _ [some (.ref 39), some (.int on), some (.int tw), some (.int 1)] [] _ _
            refine am_e2 (v := 39) hi_221_63 rfl ?_
            refine am_e0 hi_221_64 ?_
            refine am_e1 (v := on) hi_221_66 rfl ?_
            refine am_e0 hi_221_67 ?_
            refine am_e1 (v := tw) hi_221_68 rfl ?_
            refine am_e32n (as := [.ref 39, .int 24, .int on, .int 0, .int tw]) (la := [some (.ref 39), some (.int 24), some (.int on), some (.int 0), some (.int tw)]) (rest := []) hi_221_69 (am_hd0 (M := 221) (by decide) 69) (Nat.le_of_ble_eq_true rfl) (Nat.le_of_ble_eq_true rfl) (show 5 ≤ am_P0.2.2.1 189 from by decide +kernel) rfl (am_recv_ok hS532.fs) rfl rfl (ct_put (d := (d + 5)) hS532 hR  (by show (0 : Int) ≤ (f 32).toInt; omega) (by show (f 32).toInt ≤ (63 : Int); omega) (by show (f 53).toInt ≤ (4096 : Int); omega) (by show (0 : Int) ≤ (f 68).toInt; omega) (by show (f 68).toInt ≤ (65534 : Int); omega)) ?_
            rintro v534 S535 (⟨z536, r537, g'538, hv539, hS540, hR544, h541, h542, h543⟩)
            subst hv539
            have h541_ : z536.toInt = (f 68).toInt + 1 := h541
            have h542_ : r537.toInt = (f 68).toInt := h542
            have h543_ : ∀ j, j ∉ [60, 69, 70, 71, 72, 73] → g'538 j = (upg g 72 (g 17 z361.toNatClampNeg).toNatClampNeg 0) j := h543
            have hR544_ : RJ (upd (upd f 15 z361) 68 z536) g'538 gs bc [] 0 ((f 68).toNatClampNeg :: []) := hR544
            show am_E _ _ _ _ [some (.ref 39), some (.int on), some (.int tw), some (.int 1)] [.int r537] _ _
            refine am_e6i hi_221_72 ?_
            refine am_e18 hi_221_73 ?_
            refine am_e2 (v := 39) hi_221_90 rfl ?_
            refine am_e1 (v := on) hi_221_91 rfl ?_
            refine am_e32w (as := [.ref 39, .int on]) (la := [some (.ref 39), some (.int on)]) (rest := []) hi_221_92 (am_hd0 (M := 221) (by decide) 92) (Nat.le_of_ble_eq_true rfl) (Nat.le_of_ble_eq_true rfl) (show 2 ≤ am_P0.2.2.1 220 from by decide +kernel) rfl (am_recv_ok hS540.fs) rfl rfl ?_
            refine am_e2 (v := 39) hi_220_0 rfl ?_
            refine am_e32n (as := [.ref 39]) (la := [some (.ref 39)]) (rest := []) hi_220_1 (am_hd0 (M := 220) (by decide) 1) (Nat.le_of_ble_eq_true rfl) (Nat.le_of_ble_eq_true rfl) (show 1 ≤ am_P0.2.2.1 183 from by decide +kernel) rfl (am_recv_ok hS540.fs) rfl rfl (ct_next (d := (d + 3)) hS540   (by show (0 : Int) ≤ (f 4).toInt; omega) (by show (f 0).toInt ≤ (16384 : Int); omega)) ?_
            rintro v545 S546 (⟨r547, hv548, hS549, h550⟩)
            subst hv548
            have h550_ : (f 4).toInt < (f 0).toInt ∨ r547.toInt = (-1 : Int) := h550
            show am_E _ _ _ _ [some (.ref 39), some (.int on)] [.int r547] _ _
            refine am_e0 hi_220_4 ?_
            by_cases c552 : r547.toInt = (69 : Int)
            · refine am_e13t hi_220_6 (am_cT (m := r547.toInt) (n := (69 : Int)) rfl (by decide) c552) ?_
              refine am_e2 (v := 39) hi_220_18 rfl ?_
              refine am_e7 hi_220_19 ?_
              refine mm_20 (v := .int (f 4)) hS549 hi_220_20 rfl ?_
              refine am_e0 hi_220_23 ?_
              refine am_e10 (z := z264) hi_220_24 hz264 ?_
              refine mm_21 (v := z264) hS549 hi_220_25 rfl (Nat.le_of_ble_eq_true rfl) ms_4 ?_
              intro S553 hS554
              replace hS554 : MS S0 S553 (upd (upd (upd f 4 z264) 15 z361) 68 z536) g'538 := hS554
              have hR555 : RJ (upd (upd (upd f 4 z264) 15 z361) 68 z536) g'538 gs bc [] 0 ((f 68).toNatClampNeg :: []) := RJ.at hR544_ (by show (f 4).toInt ≤ z264.toInt; omega)
              refine am_e2 (v := 39) hi_220_28 rfl ?_
              refine am_e0 hi_220_29 ?_
              refine am_e1 (v := on) hi_220_31 rfl ?_
              refine am_e0 hi_220_32 ?_
              refine am_e0 hi_220_33 ?_
              refine am_e32n (as := [.ref 39, .int 35, .int on, .int 0, .int 0]) (la := [some (.ref 39), some (.int 35), some (.int on), some (.int 0), some (.int 0)]) (rest := []) hi_220_34 (am_hd0 (M := 220) (by decide) 34) (Nat.le_of_ble_eq_true rfl) (Nat.le_of_ble_eq_true rfl) (show 5 ≤ am_P0.2.2.1 179 from by decide +kernel) rfl (am_recv_ok hS554.fs) rfl rfl (ct_pile (d := (d + 4)) hS554 hR555 (mj_e_plain (by decide)) (by show (0 : Int) ≤ (f 10).toInt; omega) (by show (f 10).toInt ≤ (65535 : Int); omega)) ?_
              rintro v556 S557 (⟨z558, g'559, hv560, hS561, hR564, h562, h563⟩)
              subst hv560
              have h562_ : z558.toInt = (f 10).toInt + 1 := h562
              have h563_ : ∀ j, j ∉ [11, 12, 13, 14] → g'559 j = g'538 j := h563
              replace hS561 : MS S0 S557 (upd (upd (upd (upd f 4 z264) 10 z558) 15 z361) 68 z536) g'559 := hS561
              have hR564_ : RJ (upd (upd (upd (upd f 4 z264) 10 z558) 15 z361) 68 z536) g'559 (((35 : Int), on.toInt, (0 : Int), (0 : Int), []) :: gs) bc [] 0 ((f 68).toNatClampNeg :: []) := hR564
              show am_E _ _ _ _ [some (.ref 39), some (.int on)] [] _ _
              refine am_e18 hi_220_37 ?_
              refine am_e35 hi_220_47 ?_
              show am_E _ _ _ _ [some (.ref 39), some (.int on), some (.int tw), some (.int 1)] [] _ _
              refine am_e35 hi_221_95 ?_
              show am_E _ _ _ _ [some (.ref 39), some (.int 39), some (.int on), some (.int tw)] [] _ _
              refine am_e18 hi_181_366 ?_
              refine am_e35 hi_181_397 ?_
              show am_E _ _ _ _ [some (.ref 39), some (.int 39), some (.int on), some (.int tw), some (.int th)] [] _ _
              refine am_e35 hi_180_13 ?_
              have q1 : mg_p1 (((35 : Int), on.toInt, (0 : Int), (0 : Int), []) :: gs) = 0 + (mg_p1 gs) := rfl
              have q2 : mg_p2 (((35 : Int), on.toInt, (0 : Int), (0 : Int), []) :: gs) = 0 + (mg_p2 gs) := rfl
              have q3 : mg_p3 (((35 : Int), on.toInt, (0 : Int), (0 : Int), []) :: gs) = 3 + (mg_p3 gs) := rfl
              have q4 : mg_p4 (((35 : Int), on.toInt, (0 : Int), (0 : Int), []) :: gs) = 0 + (mg_p4 gs) := rfl
              refine ⟨_, _, _, bc, rfl, hS561, Or.inl ⟨⟨(RJ.fewer (pj' := []) hR564_ (fun _ h => nomatch h)), ?_, ?_⟩, rfl, ?_⟩⟩
              · exact (⟨⟨(show mg_k 35 from by decide), (show (0 : Int) ≤ z361.toInt from by omega), (show 0 ≤ (f 20).toInt from by omega), (show 1 ≤ (f 37).toInt from by omega), (show 0 ≤ (f 32).toInt from by omega), (show (f 32).toInt ≤ (f 5).toInt from by omega), (show (f 5).toInt ≤ 48 from by omega), (show (f 37).toInt ≤ 2 * ((f 5).toInt) + 2 from by omega), trivial⟩, mg_cast (mg_good_ext _ _ _ _ _ _ (fun i _ => by show g'559 34 i = g 34 i; rw [show g'559 34 = g'538 34 from h563_ 34 (by decide), show g'538 34 = g 34 from h543_ 34 (by decide)]) (fun i _ => by show g'559 38 i = g 38 i; rw [show g'559 38 = g'538 38 from h563_ 38 (by decide), show g'538 38 = g 38 from h543_ 38 (by decide)]) (fun i _ => by show g'559 23 i = g 23 i; rw [show g'559 23 = g'538 23 from h563_ 23 (by decide), show g'538 23 = g 23 from h543_ 23 (by decide)]) hrest) (by show (f 15).toInt + -1 = z361.toInt + 0; omega) (by show (f 20).toInt = (f 20).toInt; omega) (by show (f 37).toInt + 0 = (f 37).toInt + 0; omega) (by show (f 32).toInt + 0 = (f 32).toInt + 0; omega) (by show (f 5).toInt + -1 = (f 5).toInt + -1; omega)⟩ : mg_good (g'559 34) (g'559 38) (g'559 23) (((35 : Int), on.toInt, (0 : Int), (0 : Int), []) :: gs) (z361.toInt) ((f 20).toInt) ((f 37).toInt) ((f 32).toInt) ((f 5).toInt))
              · exact ⟨(by show 0 ≤ z264.toInt; omega), (by show z264.toInt ≤ (f 0).toInt; omega), (by show (f 0).toInt ≤ 512; omega), (by show 0 ≤ (f 24).toInt; omega), (by show (f 24).toInt + (f 20).toInt + mg_p1 (((35 : Int), on.toInt, (0 : Int), (0 : Int), []) :: gs) ≤ 4 * z264.toInt; omega), (by show (f 20).toInt ≤ z264.toInt; omega), (by show z361.toInt + mg_p2 (((35 : Int), on.toInt, (0 : Int), (0 : Int), []) :: gs) ≤ z264.toInt; omega), (by show mg_p3 (((35 : Int), on.toInt, (0 : Int), (0 : Int), []) :: gs) ≤ 20 * z264.toInt + 20; omega), (by show 0 ≤ z536.toInt; omega), (by show z536.toInt + 3 * (f 20).toInt + mg_p4 (((35 : Int), on.toInt, (0 : Int), (0 : Int), []) :: gs) ≤ 60 * z264.toInt + 60; omega), (by show 0 ≤ (f 62).toInt; omega), (by show (f 62).toInt + 64 * mj_n (g'559 16) z361.toNatClampNeg 3 ≤ 64 * z264.toInt; rw [show g'559 16 = g'538 16 from h563_ 16 (by decide), show g'538 16 = g 16 from h543_ 16 (by decide)]; omega), (by show 0 ≤ (f 44).toInt; omega), (by show (f 44).toInt ≤ z264.toInt; omega), (by show 0 ≤ (f 48).toInt; omega), (by show (f 48).toInt ≤ z264.toInt; omega), (by show 1 ≤ (f 53).toInt; omega), (by show (f 53).toInt ≤ z264.toInt + 1; omega), (by show 0 ≤ (f 19).toInt; omega), (by show (f 19).toInt ≤ 600; omega)⟩
              · show 100 * ((f 0).toInt - z264.toInt) + mg_p3 (((35 : Int), on.toInt, (0 : Int), (0 : Int), []) :: gs) < 100 * ((f 0).toInt - (f 4).toInt) + (1 + mg_p3 gs); omega
            · refine am_e13f hi_220_6 (am_cF (m := r547.toInt) (n := (69 : Int)) rfl (by decide) c552) ?_
              refine am_e2 (v := 39) hi_220_9 rfl ?_
              refine am_e32n (as := [.ref 39]) (la := [some (.ref 39)]) (rest := []) hi_220_10 (am_hd0 (M := 220) (by decide) 10) (Nat.le_of_ble_eq_true rfl) (Nat.le_of_ble_eq_true rfl) (show 1 ≤ am_P0.2.2.1 183 from by decide +kernel) rfl (am_recv_ok hS549.fs) rfl rfl (ct_next (d := (d + 3)) hS549   (by show (0 : Int) ≤ (f 4).toInt; omega) (by show (f 0).toInt ≤ (16384 : Int); omega)) ?_
              rintro v565 S566 (⟨r567, hv568, hS569, h570⟩)
              subst hv568
              have h570_ : (f 4).toInt < (f 0).toInt ∨ r567.toInt = (-1 : Int) := h570
              show am_E _ _ _ _ [some (.ref 39), some (.int on)] [.int r567] _ _
              refine am_e0 hi_220_13 ?_
              by_cases c572 : ¬ r567.toInt = (67 : Int)
              · refine am_e13t hi_220_15 (am_cT (m := r567.toInt) (n := (67 : Int)) rfl (by decide) c572) ?_
                refine am_e2 (v := 39) hi_220_40 rfl ?_
                refine am_e0 hi_220_41 ?_
                refine am_e32n (as := [.ref 39, .int 63]) (la := [some (.ref 39), some (.int 63)]) (rest := []) hi_220_43 (am_hd0 (M := 220) (by decide) 43) (Nat.le_of_ble_eq_true rfl) (Nat.le_of_ble_eq_true rfl) (show 2 ≤ am_P0.2.2.1 199 from by decide +kernel) rfl (am_recv_ok hS569.fs) rfl rfl (ct_leave (d := (d + 1)) hS569   (by show (0 : Int) ≤ (f 4).toInt; omega) (by show (f 0).toInt ≤ (16384 : Int); omega) (by show (0 : Int) ≤ (63 : Int); omega) (by show (0 : Int) ≤ (f 5).toInt; omega) (by show (f 5).toInt ≤ (48 : Int); omega)) ?_
                rintro v573 S574 (⟨z575, y576, hv577, hS578, h579, h580, h581⟩ | ⟨a583, b584, hv585, hS586⟩)
                · subst hv577
                  have h579_ : z575.toInt = (f 4).toInt + 1 := h579
                  have h580_ : (f 4).toInt < (f 0).toInt := h580
                  have h581_ : y576.toInt = (f 5).toInt - 1 := h581
                  replace hS578 : MS S0 S574 (upd (upd (upd (upd f 4 z575) 5 y576) 15 z361) 68 z536) g'538 := hS578
                  have hR588 : RJ (upd (upd (upd (upd f 4 z575) 5 y576) 15 z361) 68 z536) g'538 gs bc [] 0 ((f 68).toNatClampNeg :: []) := RJ.at hR544_ (by show (f 4).toInt ≤ z575.toInt; omega)
                  show am_E _ _ _ _ [some (.ref 39), some (.int on)] [.int 1] _ _
                  refine am_e6i hi_220_46 ?_
                  refine am_e35 hi_220_47 ?_
                  show am_E _ _ _ _ [some (.ref 39), some (.int on), some (.int tw), some (.int 1)] [] _ _
                  refine am_e35 hi_221_95 ?_
                  show am_E _ _ _ _ [some (.ref 39), some (.int 39), some (.int on), some (.int tw)] [] _ _
                  refine am_e18 hi_181_366 ?_
                  refine am_e35 hi_181_397 ?_
                  show am_E _ _ _ _ [some (.ref 39), some (.int 39), some (.int on), some (.int tw), some (.int th)] [] _ _
                  refine am_e35 hi_180_13 ?_
                  have q1 : mg_p1 gs = mg_p1 gs := rfl
                  have q2 : mg_p2 gs = mg_p2 gs := rfl
                  have q3 : mg_p3 gs = mg_p3 gs := rfl
                  have q4 : mg_p4 gs = mg_p4 gs := rfl
                  refine ⟨_, _, _, bc, rfl, hS578, Or.inl ⟨⟨(RJ.fewer (pj' := []) hR588 (fun _ h => nomatch h)), ?_, ?_⟩, rfl, ?_⟩⟩
                  · exact (mg_cast (mg_good_ext _ _ _ _ _ _ (fun i _ => by show g'538 34 i = g 34 i; rw [show g'538 34 = g 34 from h543_ 34 (by decide)]) (fun i _ => by show g'538 38 i = g 38 i; rw [show g'538 38 = g 38 from h543_ 38 (by decide)]) (fun i _ => by show g'538 23 i = g 23 i; rw [show g'538 23 = g 23 from h543_ 23 (by decide)]) hrest) (by show (f 15).toInt + -1 = z361.toInt; omega) (by show (f 20).toInt = (f 20).toInt; omega) (by show (f 37).toInt + 0 = (f 37).toInt; omega) (by show (f 32).toInt + 0 = (f 32).toInt; omega) (by show (f 5).toInt + -1 = y576.toInt; omega) : mg_good (g'538 34) (g'538 38) (g'538 23) gs (z361.toInt) ((f 20).toInt) ((f 37).toInt) ((f 32).toInt) (y576.toInt))
                  · exact ⟨(by show 0 ≤ z575.toInt; omega), (by show z575.toInt ≤ (f 0).toInt; omega), (by show (f 0).toInt ≤ 512; omega), (by show 0 ≤ (f 24).toInt; omega), (by show (f 24).toInt + (f 20).toInt + mg_p1 gs ≤ 4 * z575.toInt; omega), (by show (f 20).toInt ≤ z575.toInt; omega), (by show z361.toInt + mg_p2 gs ≤ z575.toInt; omega), (by show mg_p3 gs ≤ 20 * z575.toInt + 20; omega), (by show 0 ≤ z536.toInt; omega), (by show z536.toInt + 3 * (f 20).toInt + mg_p4 gs ≤ 60 * z575.toInt + 60; omega), (by show 0 ≤ (f 62).toInt; omega), (by show (f 62).toInt + 64 * mj_n (g'538 16) z361.toNatClampNeg 3 ≤ 64 * z575.toInt; rw [show g'538 16 = g 16 from h543_ 16 (by decide)]; omega), (by show 0 ≤ (f 44).toInt; omega), (by show (f 44).toInt ≤ z575.toInt; omega), (by show 0 ≤ (f 48).toInt; omega), (by show (f 48).toInt ≤ z575.toInt; omega), (by show 1 ≤ (f 53).toInt; omega), (by show (f 53).toInt ≤ z575.toInt + 1; omega), (by show 0 ≤ (f 19).toInt; omega), (by show (f 19).toInt ≤ 600; omega)⟩
                  · show 100 * ((f 0).toInt - z575.toInt) + mg_p3 gs < 100 * ((f 0).toInt - (f 4).toInt) + (1 + mg_p3 gs); omega
                · subst hv585
                  replace hS586 : MS S0 S574 (upd (upd (upd (upd (upd f 6 a583) 7 b584) 10 0) 15 z361) 68 z536) g'538 := hS586
                  have hR589 := rj_clear0 hR544_
                  have hR590 : RJ (upd (upd (upd (upd (upd f 6 a583) 7 b584) 10 0) 15 z361) 68 z536) g'538 [] bc [] 0 [] := hR589
                  show am_E _ _ _ _ [some (.ref 39), some (.int on)] [.int 0] _ _
                  refine am_e6i hi_220_46 ?_
                  refine am_e35 hi_220_47 ?_
                  show am_E _ _ _ _ [some (.ref 39), some (.int on), some (.int tw), some (.int 1)] [] _ _
                  refine am_e35 hi_221_95 ?_
                  show am_E _ _ _ _ [some (.ref 39), some (.int 39), some (.int on), some (.int tw)] [] _ _
                  refine am_e18 hi_181_366 ?_
                  refine am_e35 hi_181_397 ?_
                  show am_E _ _ _ _ [some (.ref 39), some (.int 39), some (.int on), some (.int tw), some (.int th)] [] _ _
                  refine am_e35 hi_180_13 ?_
                  have hRc := rj_clear0 hR590
                  refine ⟨_, _, [], _, rfl, hS586, Or.inr ⟨hRc, rfl, (by show 0 ≤ (f 4).toInt; omega), (by show (f 4).toInt ≤ (f 0).toInt; omega), (by show 0 ≤ (f 32).toInt; omega), (by show (f 32).toInt ≤ 63; omega), (by show 1 ≤ (f 53).toInt; omega), (by show (f 53).toInt ≤ 600; omega), (by show 0 ≤ z536.toInt; omega), (by show z536.toInt ≤ 60000; omega), (by show 0 ≤ (f 48).toInt; omega), (by show (f 48).toInt ≤ 8000; omega), (by show 0 ≤ (f 37).toInt; omega), (by show (f 37).toInt ≤ 128; omega), (by show 0 ≤ (f 62).toInt; omega), (by show (f 62).toInt ≤ 65000; omega), (by show 0 ≤ (f 19).toInt; omega), (by show (f 19).toInt ≤ 600; omega)⟩⟩
              · refine am_e13f hi_220_15 (am_cF (m := r567.toInt) (n := (67 : Int)) rfl (by decide) c572) ?_
                refine am_e2 (v := 39) hi_220_18 rfl ?_
                refine am_e7 hi_220_19 ?_
                refine mm_20 (v := .int (f 4)) hS569 hi_220_20 rfl ?_
                refine am_e0 hi_220_23 ?_
                refine am_e10 (z := z264) hi_220_24 hz264 ?_
                refine mm_21 (v := z264) hS569 hi_220_25 rfl (Nat.le_of_ble_eq_true rfl) ms_4 ?_
                intro S591 hS592
                replace hS592 : MS S0 S591 (upd (upd (upd f 4 z264) 15 z361) 68 z536) g'538 := hS592
                have hR593 : RJ (upd (upd (upd f 4 z264) 15 z361) 68 z536) g'538 gs bc [] 0 ((f 68).toNatClampNeg :: []) := RJ.at hR544_ (by show (f 4).toInt ≤ z264.toInt; omega)
                refine am_e2 (v := 39) hi_220_28 rfl ?_
                refine am_e0 hi_220_29 ?_
                refine am_e1 (v := on) hi_220_31 rfl ?_
                refine am_e0 hi_220_32 ?_
                refine am_e0 hi_220_33 ?_
                refine am_e32n (as := [.ref 39, .int 35, .int on, .int 0, .int 0]) (la := [some (.ref 39), some (.int 35), some (.int on), some (.int 0), some (.int 0)]) (rest := []) hi_220_34 (am_hd0 (M := 220) (by decide) 34) (Nat.le_of_ble_eq_true rfl) (Nat.le_of_ble_eq_true rfl) (show 5 ≤ am_P0.2.2.1 179 from by decide +kernel) rfl (am_recv_ok hS592.fs) rfl rfl (ct_pile (d := (d + 4)) hS592 hR593 (mj_e_plain (by decide)) (by show (0 : Int) ≤ (f 10).toInt; omega) (by show (f 10).toInt ≤ (65535 : Int); omega)) ?_
                rintro v594 S595 (⟨z596, g'597, hv598, hS599, hR602, h600, h601⟩)
                subst hv598
                have h600_ : z596.toInt = (f 10).toInt + 1 := h600
                have h601_ : ∀ j, j ∉ [11, 12, 13, 14] → g'597 j = g'538 j := h601
                replace hS599 : MS S0 S595 (upd (upd (upd (upd f 4 z264) 10 z596) 15 z361) 68 z536) g'597 := hS599
                have hR602_ : RJ (upd (upd (upd (upd f 4 z264) 10 z596) 15 z361) 68 z536) g'597 (((35 : Int), on.toInt, (0 : Int), (0 : Int), []) :: gs) bc [] 0 ((f 68).toNatClampNeg :: []) := hR602
                show am_E _ _ _ _ [some (.ref 39), some (.int on)] [] _ _
                refine am_e18 hi_220_37 ?_
                refine am_e35 hi_220_47 ?_
                show am_E _ _ _ _ [some (.ref 39), some (.int on), some (.int tw), some (.int 1)] [] _ _
                refine am_e35 hi_221_95 ?_
                show am_E _ _ _ _ [some (.ref 39), some (.int 39), some (.int on), some (.int tw)] [] _ _
                refine am_e18 hi_181_366 ?_
                refine am_e35 hi_181_397 ?_
                show am_E _ _ _ _ [some (.ref 39), some (.int 39), some (.int on), some (.int tw), some (.int th)] [] _ _
                refine am_e35 hi_180_13 ?_
                have q1 : mg_p1 (((35 : Int), on.toInt, (0 : Int), (0 : Int), []) :: gs) = 0 + (mg_p1 gs) := rfl
                have q2 : mg_p2 (((35 : Int), on.toInt, (0 : Int), (0 : Int), []) :: gs) = 0 + (mg_p2 gs) := rfl
                have q3 : mg_p3 (((35 : Int), on.toInt, (0 : Int), (0 : Int), []) :: gs) = 3 + (mg_p3 gs) := rfl
                have q4 : mg_p4 (((35 : Int), on.toInt, (0 : Int), (0 : Int), []) :: gs) = 0 + (mg_p4 gs) := rfl
                refine ⟨_, _, _, bc, rfl, hS599, Or.inl ⟨⟨(RJ.fewer (pj' := []) hR602_ (fun _ h => nomatch h)), ?_, ?_⟩, rfl, ?_⟩⟩
                · exact (⟨⟨(show mg_k 35 from by decide), (show (0 : Int) ≤ z361.toInt from by omega), (show 0 ≤ (f 20).toInt from by omega), (show 1 ≤ (f 37).toInt from by omega), (show 0 ≤ (f 32).toInt from by omega), (show (f 32).toInt ≤ (f 5).toInt from by omega), (show (f 5).toInt ≤ 48 from by omega), (show (f 37).toInt ≤ 2 * ((f 5).toInt) + 2 from by omega), trivial⟩, mg_cast (mg_good_ext _ _ _ _ _ _ (fun i _ => by show g'597 34 i = g 34 i; rw [show g'597 34 = g'538 34 from h601_ 34 (by decide), show g'538 34 = g 34 from h543_ 34 (by decide)]) (fun i _ => by show g'597 38 i = g 38 i; rw [show g'597 38 = g'538 38 from h601_ 38 (by decide), show g'538 38 = g 38 from h543_ 38 (by decide)]) (fun i _ => by show g'597 23 i = g 23 i; rw [show g'597 23 = g'538 23 from h601_ 23 (by decide), show g'538 23 = g 23 from h543_ 23 (by decide)]) hrest) (by show (f 15).toInt + -1 = z361.toInt + 0; omega) (by show (f 20).toInt = (f 20).toInt; omega) (by show (f 37).toInt + 0 = (f 37).toInt + 0; omega) (by show (f 32).toInt + 0 = (f 32).toInt + 0; omega) (by show (f 5).toInt + -1 = (f 5).toInt + -1; omega)⟩ : mg_good (g'597 34) (g'597 38) (g'597 23) (((35 : Int), on.toInt, (0 : Int), (0 : Int), []) :: gs) (z361.toInt) ((f 20).toInt) ((f 37).toInt) ((f 32).toInt) ((f 5).toInt))
                · exact ⟨(by show 0 ≤ z264.toInt; omega), (by show z264.toInt ≤ (f 0).toInt; omega), (by show (f 0).toInt ≤ 512; omega), (by show 0 ≤ (f 24).toInt; omega), (by show (f 24).toInt + (f 20).toInt + mg_p1 (((35 : Int), on.toInt, (0 : Int), (0 : Int), []) :: gs) ≤ 4 * z264.toInt; omega), (by show (f 20).toInt ≤ z264.toInt; omega), (by show z361.toInt + mg_p2 (((35 : Int), on.toInt, (0 : Int), (0 : Int), []) :: gs) ≤ z264.toInt; omega), (by show mg_p3 (((35 : Int), on.toInt, (0 : Int), (0 : Int), []) :: gs) ≤ 20 * z264.toInt + 20; omega), (by show 0 ≤ z536.toInt; omega), (by show z536.toInt + 3 * (f 20).toInt + mg_p4 (((35 : Int), on.toInt, (0 : Int), (0 : Int), []) :: gs) ≤ 60 * z264.toInt + 60; omega), (by show 0 ≤ (f 62).toInt; omega), (by show (f 62).toInt + 64 * mj_n (g'597 16) z361.toNatClampNeg 3 ≤ 64 * z264.toInt; rw [show g'597 16 = g'538 16 from h601_ 16 (by decide), show g'538 16 = g 16 from h543_ 16 (by decide)]; omega), (by show 0 ≤ (f 44).toInt; omega), (by show (f 44).toInt ≤ z264.toInt; omega), (by show 0 ≤ (f 48).toInt; omega), (by show (f 48).toInt ≤ z264.toInt; omega), (by show 1 ≤ (f 53).toInt; omega), (by show (f 53).toInt ≤ z264.toInt + 1; omega), (by show 0 ≤ (f 19).toInt; omega), (by show (f 19).toInt ≤ 600; omega)⟩
                · show 100 * ((f 0).toInt - z264.toInt) + mg_p3 (((35 : Int), on.toInt, (0 : Int), (0 : Int), []) :: gs) < 100 * ((f 0).toInt - (f 4).toInt) + (1 + mg_p3 gs); omega
    · refine am_e13f hi_221_15 (am_cF (m := r258.toInt) (n := (69 : Int)) rfl (by decide) c263) ?_
      refine am_e2 (v := 39) hi_221_18 rfl ?_
      refine am_e32n (as := [.ref 39]) (la := [some (.ref 39)]) (rest := []) hi_221_19 (am_hd0 (M := 221) (by decide) 19) (Nat.le_of_ble_eq_true rfl) (Nat.le_of_ble_eq_true rfl) (show 1 ≤ am_P0.2.2.1 183 from by decide +kernel) rfl (am_recv_ok hS260.fs) rfl rfl (ct_next (d := (d + 4)) hS260   (by show (0 : Int) ≤ (f 4).toInt; omega) (by show (f 0).toInt ≤ (16384 : Int); omega)) ?_
      rintro v603 S604 (⟨r605, hv606, hS607, h608⟩)
      subst hv606
      have h608_ : (f 4).toInt < (f 0).toInt ∨ r605.toInt = (-1 : Int) := h608
      show am_E _ _ _ _ [some (.ref 39), some (.int on), some (.int tw), none] [.int r605] _ _
      refine am_e0 hi_221_22 ?_
      by_cases c610 : ¬ r605.toInt = (67 : Int)
      · refine am_e13t hi_221_24 (am_cT (m := r605.toInt) (n := (67 : Int)) rfl (by decide) c610) ?_
        refine am_e0 hi_221_46 ?_
        refine am_e3 (ls' := [some (.ref 39), some (.int on), some (.int tw), some (.int 0)]) hi_221_47 (Nat.le_of_ble_eq_true rfl) rfl ?_
        refine am_e1 (v := 0) hi_221_48 rfl ?_
        refine am_e12t hi_221_49 (by decide) ?_
        refine am_e2 (v := 39) hi_221_76 rfl ?_
        refine am_e32w (as := [.ref 39]) (la := [some (.ref 39)]) (rest := []) hi_221_77 (am_hd0 (M := 221) (by decide) 77) (Nat.le_of_ble_eq_true rfl) (Nat.le_of_ble_eq_true rfl) (show 1 ≤ am_P0.2.2.1 209 from by decide +kernel) rfl (am_recv_ok hS607.fs) rfl rfl ?_
        refine am_e2 (v := 39) hi_209_0 rfl ?_
        refine am_e32n (as := [.ref 39]) (la := [some (.ref 39), none, none, none]) (rest := []) hi_209_1 (am_hd0 (M := 209) (by decide) 1) (Nat.le_of_ble_eq_true rfl) (Nat.le_of_ble_eq_true rfl) (show 1 ≤ am_P0.2.2.1 204 from by decide +kernel) rfl (am_recv_ok hS607.fs) rfl rfl (ct_load (d := (d + 2)) hS607 hR  (by show (0 : Int) ≤ (f 32).toInt; omega) (by show (f 32).toInt ≤ (63 : Int); omega) (by show (f 53).toInt ≤ (4096 : Int); omega) (by show (0 : Int) ≤ (f 68).toInt; omega) (by show (f 68).toInt ≤ (65534 : Int); omega) (by show (1 : Int) ≤ (f 15).toInt; omega) (by show (f 15).toInt ≤ (32767 : Int); omega) (by show (0 : Int) ≤ (f 24).toInt; omega) (by show (f 24).toInt ≤ (16384 : Int); omega) (by show (0 : Int) ≤ (f 62).toInt; omega) (by show (f 62).toInt ≤ (65000 : Int); omega)) ?_
        rintro v611 S612 (⟨o613, s614, m615, g'616, hv617, hS618, hR625, h619, h620, h621, h622, h623, h624⟩)
        subst hv617
        have h619_ : (f 62).toInt ≤ o613.toInt := h619
        have h620_ : o613.toInt ≤ (f 62).toInt + 64 := h620
        have h621_ : (f 68).toInt ≤ s614.toInt := h621
        have h622_ : s614.toInt ≤ (f 68).toInt + 1 := h622
        have h623_ : o613.toInt + 64 * mj_n (g'616 16) (f 15).toNatClampNeg 3 ≤ (f 62).toInt + 64 * mj_n (g 16) (f 15).toNatClampNeg 3 := h623
        have h624_ : ∀ j, j ∉ [16, 60, 63, 64, 65, 66, 67, 69, 70, 71, 72, 73] → g'616 j = g j := h624
        have hR625_ : RJ (upd (upd (upd f 62 o613) 68 s614) 75 m615) g'616 gs bc [] 0 [] := hR625
        show am_E _ _ _ _ [some (.ref 39)] [] _ _
        refine am_e2 (v := 39) hi_209_4 rfl ?_
        refine am_e7 hi_209_5 ?_
        refine mm_20 (v := .int (f 15)) hS618 hi_209_6 rfl ?_
        refine am_e0 hi_209_9 ?_
        obtain ⟨z626, hz626, tz626⟩ := am_subI (x := f 15) (y := 1) (m := (f 15).toInt) (n := (1 : Int)) rfl (by decide) (by omega) (by omega)
        refine am_e10 (z := z626) hi_209_10 hz626 ?_
        refine mm_21 (v := z626) hS618 hi_209_11 rfl (Nat.le_of_ble_eq_true rfl) ms_15 ?_
        intro S627 hS628
        replace hS628 : MS S0 S627 (upd (upd (upd (upd f 15 z626) 62 o613) 68 s614) 75 m615) g'616 := hS628
        have hp629 : mj_n (g'616 16) (f 15).toNatClampNeg 3 = mj_n (g'616 16) z626.toNatClampNeg 3 + if (g'616 16 z626.toNatClampNeg).toInt = 3 then 1 else 0 := mj_pop (by rw [cl_toNat, cl_toNat]; omega)
        have hp6291 : mj_n (g'616 16) z626.toNatClampNeg 3 ≤ mj_n (g'616 16) (f 15).toNatClampNeg 3 := by rw [hp629]; split <;> omega
        have hp6292 : (g'616 16 z626.toNatClampNeg).toInt = 3 → mj_n (g'616 16) z626.toNatClampNeg 3 + 1 ≤ mj_n (g'616 16) (f 15).toNatClampNeg 3 := fun q => by rw [hp629, if_pos q]; exact Int.le_refl _
        refine am_e35 hi_209_14 ?_
        show am_E _ _ _ _ [some (.ref 39), some (.int on), some (.int tw), some (.int 0)] [] _ _
        refine am_e2 (v := 39) hi_221_80 rfl ?_
        refine am_e0 hi_221_81 ?_
        refine am_e1 (v := on) hi_221_83 rfl ?_
        refine am_e0 hi_221_84 ?_
        refine am_e1 (v := tw) hi_221_85 rfl ?_
        refine am_e32n (as := [.ref 39, .int 23, .int on, .int 0, .int tw]) (la := [some (.ref 39), some (.int 23), some (.int on), some (.int 0), some (.int tw)]) (rest := []) hi_221_86 (am_hd0 (M := 221) (by decide) 86) (Nat.le_of_ble_eq_true rfl) (Nat.le_of_ble_eq_true rfl) (show 5 ≤ am_P0.2.2.1 189 from by decide +kernel) rfl (am_recv_ok hS628.fs) rfl rfl (ct_put (d := (d + 5)) hS628 hR625_  (by show (0 : Int) ≤ (f 32).toInt; omega) (by show (f 32).toInt ≤ (63 : Int); omega) (by show (f 53).toInt ≤ (4096 : Int); omega) (by show (0 : Int) ≤ s614.toInt; omega) (by show s614.toInt ≤ (65534 : Int); omega)) ?_
        rintro v630 S631 (⟨z632, r633, g'634, hv635, hS636, hR640, h637, h638, h639⟩)
        subst hv635
        have h637_ : z632.toInt = s614.toInt + 1 := h637
        have h638_ : r633.toInt = s614.toInt := h638
        have h639_ : ∀ j, j ∉ [60, 69, 70, 71, 72, 73] → g'634 j = g'616 j := h639
        replace hS636 : MS S0 S631 (upd (upd (upd (upd f 15 z626) 62 o613) 68 z632) 75 m615) g'634 := hS636
        have hR640_ : RJ (upd (upd (upd (upd f 15 z626) 62 o613) 68 z632) 75 m615) g'634 gs bc [] 0 (s614.toNatClampNeg :: []) := hR640
        show am_E _ _ _ _ [some (.ref 39), some (.int on), some (.int tw), some (.int 0)] [.int r633] _ _
        refine am_e6i hi_221_89 ?_
        refine am_e2 (v := 39) hi_221_90 rfl ?_
        refine am_e1 (v := on) hi_221_91 rfl ?_
        refine am_e32w (as := [.ref 39, .int on]) (la := [some (.ref 39), some (.int on)]) (rest := []) hi_221_92 (am_hd0 (M := 221) (by decide) 92) (Nat.le_of_ble_eq_true rfl) (Nat.le_of_ble_eq_true rfl) (show 2 ≤ am_P0.2.2.1 220 from by decide +kernel) rfl (am_recv_ok hS636.fs) rfl rfl ?_
        refine am_e2 (v := 39) hi_220_0 rfl ?_
        refine am_e32n (as := [.ref 39]) (la := [some (.ref 39)]) (rest := []) hi_220_1 (am_hd0 (M := 220) (by decide) 1) (Nat.le_of_ble_eq_true rfl) (Nat.le_of_ble_eq_true rfl) (show 1 ≤ am_P0.2.2.1 183 from by decide +kernel) rfl (am_recv_ok hS636.fs) rfl rfl (ct_next (d := (d + 3)) hS636   (by show (0 : Int) ≤ (f 4).toInt; omega) (by show (f 0).toInt ≤ (16384 : Int); omega)) ?_
        rintro v641 S642 (⟨r643, hv644, hS645, h646⟩)
        subst hv644
        have h646_ : (f 4).toInt < (f 0).toInt ∨ r643.toInt = (-1 : Int) := h646
        show am_E _ _ _ _ [some (.ref 39), some (.int on)] [.int r643] _ _
        refine am_e0 hi_220_4 ?_
        by_cases c648 : r643.toInt = (69 : Int)
        · refine am_e13t hi_220_6 (am_cT (m := r643.toInt) (n := (69 : Int)) rfl (by decide) c648) ?_
          refine am_e2 (v := 39) hi_220_18 rfl ?_
          refine am_e7 hi_220_19 ?_
          refine mm_20 (v := .int (f 4)) hS645 hi_220_20 rfl ?_
          refine am_e0 hi_220_23 ?_
          obtain ⟨z649, hz649, tz649⟩ := am_addI (x := f 4) (y := 1) (m := (f 4).toInt) (n := (1 : Int)) rfl (by decide) (by omega) (by omega)
          refine am_e10 (z := z649) hi_220_24 hz649 ?_
          refine mm_21 (v := z649) hS645 hi_220_25 rfl (Nat.le_of_ble_eq_true rfl) ms_4 ?_
          intro S650 hS651
          replace hS651 : MS S0 S650 (upd (upd (upd (upd (upd f 4 z649) 15 z626) 62 o613) 68 z632) 75 m615) g'634 := hS651
          have hR652 : RJ (upd (upd (upd (upd (upd f 4 z649) 15 z626) 62 o613) 68 z632) 75 m615) g'634 gs bc [] 0 (s614.toNatClampNeg :: []) := RJ.at hR640_ (by show (f 4).toInt ≤ z649.toInt; omega)
          refine am_e2 (v := 39) hi_220_28 rfl ?_
          refine am_e0 hi_220_29 ?_
          refine am_e1 (v := on) hi_220_31 rfl ?_
          refine am_e0 hi_220_32 ?_
          refine am_e0 hi_220_33 ?_
          refine am_e32n (as := [.ref 39, .int 35, .int on, .int 0, .int 0]) (la := [some (.ref 39), some (.int 35), some (.int on), some (.int 0), some (.int 0)]) (rest := []) hi_220_34 (am_hd0 (M := 220) (by decide) 34) (Nat.le_of_ble_eq_true rfl) (Nat.le_of_ble_eq_true rfl) (show 5 ≤ am_P0.2.2.1 179 from by decide +kernel) rfl (am_recv_ok hS651.fs) rfl rfl (ct_pile (d := (d + 4)) hS651 hR652 (mj_e_plain (by decide)) (by show (0 : Int) ≤ (f 10).toInt; omega) (by show (f 10).toInt ≤ (65535 : Int); omega)) ?_
          rintro v653 S654 (⟨z655, g'656, hv657, hS658, hR661, h659, h660⟩)
          subst hv657
          have h659_ : z655.toInt = (f 10).toInt + 1 := h659
          have h660_ : ∀ j, j ∉ [11, 12, 13, 14] → g'656 j = g'634 j := h660
          replace hS658 : MS S0 S654 (upd (upd (upd (upd (upd (upd f 4 z649) 10 z655) 15 z626) 62 o613) 68 z632) 75 m615) g'656 := hS658
          have hR661_ : RJ (upd (upd (upd (upd (upd (upd f 4 z649) 10 z655) 15 z626) 62 o613) 68 z632) 75 m615) g'656 (((35 : Int), on.toInt, (0 : Int), (0 : Int), []) :: gs) bc [] 0 (s614.toNatClampNeg :: []) := hR661
          show am_E _ _ _ _ [some (.ref 39), some (.int on)] [] _ _
          refine am_e18 hi_220_37 ?_
          refine am_e35 hi_220_47 ?_
          show am_E _ _ _ _ [some (.ref 39), some (.int on), some (.int tw), some (.int 0)] [] _ _
          refine am_e35 hi_221_95 ?_
          show am_E _ _ _ _ [some (.ref 39), some (.int 39), some (.int on), some (.int tw)] [] _ _
          refine am_e18 hi_181_366 ?_
          refine am_e35 hi_181_397 ?_
          show am_E _ _ _ _ [some (.ref 39), some (.int 39), some (.int on), some (.int tw), some (.int th)] [] _ _
          refine am_e35 hi_180_13 ?_
          have q1 : mg_p1 (((35 : Int), on.toInt, (0 : Int), (0 : Int), []) :: gs) = 0 + (mg_p1 gs) := rfl
          have q2 : mg_p2 (((35 : Int), on.toInt, (0 : Int), (0 : Int), []) :: gs) = 0 + (mg_p2 gs) := rfl
          have q3 : mg_p3 (((35 : Int), on.toInt, (0 : Int), (0 : Int), []) :: gs) = 3 + (mg_p3 gs) := rfl
          have q4 : mg_p4 (((35 : Int), on.toInt, (0 : Int), (0 : Int), []) :: gs) = 0 + (mg_p4 gs) := rfl
          refine ⟨_, _, _, bc, rfl, hS658, Or.inl ⟨⟨(RJ.fewer (pj' := []) hR661_ (fun _ h => nomatch h)), ?_, ?_⟩, rfl, ?_⟩⟩
          · exact (⟨⟨(show mg_k 35 from by decide), (show (0 : Int) ≤ z626.toInt from by omega), (show 0 ≤ (f 20).toInt from by omega), (show 1 ≤ (f 37).toInt from by omega), (show 0 ≤ (f 32).toInt from by omega), (show (f 32).toInt ≤ (f 5).toInt from by omega), (show (f 5).toInt ≤ 48 from by omega), (show (f 37).toInt ≤ 2 * ((f 5).toInt) + 2 from by omega), trivial⟩, mg_cast (mg_good_ext _ _ _ _ _ _ (fun i _ => by show g'656 34 i = g 34 i; rw [show g'656 34 = g'634 34 from h660_ 34 (by decide), show g'634 34 = g'616 34 from h639_ 34 (by decide), show g'616 34 = g 34 from h624_ 34 (by decide)]) (fun i _ => by show g'656 38 i = g 38 i; rw [show g'656 38 = g'634 38 from h660_ 38 (by decide), show g'634 38 = g'616 38 from h639_ 38 (by decide), show g'616 38 = g 38 from h624_ 38 (by decide)]) (fun i _ => by show g'656 23 i = g 23 i; rw [show g'656 23 = g'634 23 from h660_ 23 (by decide), show g'634 23 = g'616 23 from h639_ 23 (by decide), show g'616 23 = g 23 from h624_ 23 (by decide)]) hrest) (by show (f 15).toInt + -1 = z626.toInt + 0; omega) (by show (f 20).toInt = (f 20).toInt; omega) (by show (f 37).toInt + 0 = (f 37).toInt + 0; omega) (by show (f 32).toInt + 0 = (f 32).toInt + 0; omega) (by show (f 5).toInt + -1 = (f 5).toInt + -1; omega)⟩ : mg_good (g'656 34) (g'656 38) (g'656 23) (((35 : Int), on.toInt, (0 : Int), (0 : Int), []) :: gs) (z626.toInt) ((f 20).toInt) ((f 37).toInt) ((f 32).toInt) ((f 5).toInt))
          · exact ⟨(by show 0 ≤ z649.toInt; omega), (by show z649.toInt ≤ (f 0).toInt; omega), (by show (f 0).toInt ≤ 512; omega), (by show 0 ≤ (f 24).toInt; omega), (by show (f 24).toInt + (f 20).toInt + mg_p1 (((35 : Int), on.toInt, (0 : Int), (0 : Int), []) :: gs) ≤ 4 * z649.toInt; omega), (by show (f 20).toInt ≤ z649.toInt; omega), (by show z626.toInt + mg_p2 (((35 : Int), on.toInt, (0 : Int), (0 : Int), []) :: gs) ≤ z649.toInt; omega), (by show mg_p3 (((35 : Int), on.toInt, (0 : Int), (0 : Int), []) :: gs) ≤ 20 * z649.toInt + 20; omega), (by show 0 ≤ z632.toInt; omega), (by show z632.toInt + 3 * (f 20).toInt + mg_p4 (((35 : Int), on.toInt, (0 : Int), (0 : Int), []) :: gs) ≤ 60 * z649.toInt + 60; omega), (by show 0 ≤ o613.toInt; omega), (by show o613.toInt + 64 * mj_n (g'656 16) z626.toNatClampNeg 3 ≤ 64 * z649.toInt; rw [show g'656 16 = g'634 16 from h660_ 16 (by decide), show g'634 16 = g'616 16 from h639_ 16 (by decide)]; omega), (by show 0 ≤ (f 44).toInt; omega), (by show (f 44).toInt ≤ z649.toInt; omega), (by show 0 ≤ (f 48).toInt; omega), (by show (f 48).toInt ≤ z649.toInt; omega), (by show 1 ≤ (f 53).toInt; omega), (by show (f 53).toInt ≤ z649.toInt + 1; omega), (by show 0 ≤ (f 19).toInt; omega), (by show (f 19).toInt ≤ 600; omega)⟩
          · show 100 * ((f 0).toInt - z649.toInt) + mg_p3 (((35 : Int), on.toInt, (0 : Int), (0 : Int), []) :: gs) < 100 * ((f 0).toInt - (f 4).toInt) + (1 + mg_p3 gs); omega
        · refine am_e13f hi_220_6 (am_cF (m := r643.toInt) (n := (69 : Int)) rfl (by decide) c648) ?_
          refine am_e2 (v := 39) hi_220_9 rfl ?_
          refine am_e32n (as := [.ref 39]) (la := [some (.ref 39)]) (rest := []) hi_220_10 (am_hd0 (M := 220) (by decide) 10) (Nat.le_of_ble_eq_true rfl) (Nat.le_of_ble_eq_true rfl) (show 1 ≤ am_P0.2.2.1 183 from by decide +kernel) rfl (am_recv_ok hS645.fs) rfl rfl (ct_next (d := (d + 3)) hS645   (by show (0 : Int) ≤ (f 4).toInt; omega) (by show (f 0).toInt ≤ (16384 : Int); omega)) ?_
          rintro v662 S663 (⟨r664, hv665, hS666, h667⟩)
          subst hv665
          have h667_ : (f 4).toInt < (f 0).toInt ∨ r664.toInt = (-1 : Int) := h667
          show am_E _ _ _ _ [some (.ref 39), some (.int on)] [.int r664] _ _
          refine am_e0 hi_220_13 ?_
          by_cases c669 : ¬ r664.toInt = (67 : Int)
          · refine am_e13t hi_220_15 (am_cT (m := r664.toInt) (n := (67 : Int)) rfl (by decide) c669) ?_
            refine am_e2 (v := 39) hi_220_40 rfl ?_
            refine am_e0 hi_220_41 ?_
            refine am_e32n (as := [.ref 39, .int 63]) (la := [some (.ref 39), some (.int 63)]) (rest := []) hi_220_43 (am_hd0 (M := 220) (by decide) 43) (Nat.le_of_ble_eq_true rfl) (Nat.le_of_ble_eq_true rfl) (show 2 ≤ am_P0.2.2.1 199 from by decide +kernel) rfl (am_recv_ok hS666.fs) rfl rfl (ct_leave (d := (d + 1)) hS666   (by show (0 : Int) ≤ (f 4).toInt; omega) (by show (f 0).toInt ≤ (16384 : Int); omega) (by show (0 : Int) ≤ (63 : Int); omega) (by show (0 : Int) ≤ (f 5).toInt; omega) (by show (f 5).toInt ≤ (48 : Int); omega)) ?_
            rintro v670 S671 (⟨z672, y673, hv674, hS675, h676, h677, h678⟩ | ⟨a680, b681, hv682, hS683⟩)
            · subst hv674
              have h676_ : z672.toInt = (f 4).toInt + 1 := h676
              have h677_ : (f 4).toInt < (f 0).toInt := h677
              have h678_ : y673.toInt = (f 5).toInt - 1 := h678
              replace hS675 : MS S0 S671 (upd (upd (upd (upd (upd (upd f 4 z672) 5 y673) 15 z626) 62 o613) 68 z632) 75 m615) g'634 := hS675
              have hR685 : RJ (upd (upd (upd (upd (upd (upd f 4 z672) 5 y673) 15 z626) 62 o613) 68 z632) 75 m615) g'634 gs bc [] 0 (s614.toNatClampNeg :: []) := RJ.at hR640_ (by show (f 4).toInt ≤ z672.toInt; omega)
              show am_E _ _ _ _ [some (.ref 39), some (.int on)] [.int 1] _ _
              refine am_e6i hi_220_46 ?_
              refine am_e35 hi_220_47 ?_
              show am_E _ _ _ _ [some (.ref 39), some (.int on), some (.int tw), some (.int 0)] [] _ _
              refine am_e35 hi_221_95 ?_
              show am_E _ _ _ _ [some (.ref 39), some (.int 39), some (.int on), some (.int tw)] [] _ _
              refine am_e18 hi_181_366 ?_
              refine am_e35 hi_181_397 ?_
              show am_E _ _ _ _ [some (.ref 39), some (.int 39), some (.int on), some (.int tw), some (.int th)] [] _ _
              refine am_e35 hi_180_13 ?_
              have q1 : mg_p1 gs = mg_p1 gs := rfl
              have q2 : mg_p2 gs = mg_p2 gs := rfl
              have q3 : mg_p3 gs = mg_p3 gs := rfl
              have q4 : mg_p4 gs = mg_p4 gs := rfl
              refine ⟨_, _, _, bc, rfl, hS675, Or.inl ⟨⟨(RJ.fewer (pj' := []) hR685 (fun _ h => nomatch h)), ?_, ?_⟩, rfl, ?_⟩⟩
              · exact (mg_cast (mg_good_ext _ _ _ _ _ _ (fun i _ => by show g'634 34 i = g 34 i; rw [show g'634 34 = g'616 34 from h639_ 34 (by decide), show g'616 34 = g 34 from h624_ 34 (by decide)]) (fun i _ => by show g'634 38 i = g 38 i; rw [show g'634 38 = g'616 38 from h639_ 38 (by decide), show g'616 38 = g 38 from h624_ 38 (by decide)]) (fun i _ => by show g'634 23 i = g 23 i; rw [show g'634 23 = g'616 23 from h639_ 23 (by decide), show g'616 23 = g 23 from h624_ 23 (by decide)]) hrest) (by show (f 15).toInt + -1 = z626.toInt; omega) (by show (f 20).toInt = (f 20).toInt; omega) (by show (f 37).toInt + 0 = (f 37).toInt; omega) (by show (f 32).toInt + 0 = (f 32).toInt; omega) (by show (f 5).toInt + -1 = y673.toInt; omega) : mg_good (g'634 34) (g'634 38) (g'634 23) gs (z626.toInt) ((f 20).toInt) ((f 37).toInt) ((f 32).toInt) (y673.toInt))
              · exact ⟨(by show 0 ≤ z672.toInt; omega), (by show z672.toInt ≤ (f 0).toInt; omega), (by show (f 0).toInt ≤ 512; omega), (by show 0 ≤ (f 24).toInt; omega), (by show (f 24).toInt + (f 20).toInt + mg_p1 gs ≤ 4 * z672.toInt; omega), (by show (f 20).toInt ≤ z672.toInt; omega), (by show z626.toInt + mg_p2 gs ≤ z672.toInt; omega), (by show mg_p3 gs ≤ 20 * z672.toInt + 20; omega), (by show 0 ≤ z632.toInt; omega), (by show z632.toInt + 3 * (f 20).toInt + mg_p4 gs ≤ 60 * z672.toInt + 60; omega), (by show 0 ≤ o613.toInt; omega), (by show o613.toInt + 64 * mj_n (g'634 16) z626.toNatClampNeg 3 ≤ 64 * z672.toInt; rw [show g'634 16 = g'616 16 from h639_ 16 (by decide)]; omega), (by show 0 ≤ (f 44).toInt; omega), (by show (f 44).toInt ≤ z672.toInt; omega), (by show 0 ≤ (f 48).toInt; omega), (by show (f 48).toInt ≤ z672.toInt; omega), (by show 1 ≤ (f 53).toInt; omega), (by show (f 53).toInt ≤ z672.toInt + 1; omega), (by show 0 ≤ (f 19).toInt; omega), (by show (f 19).toInt ≤ 600; omega)⟩
              · show 100 * ((f 0).toInt - z672.toInt) + mg_p3 gs < 100 * ((f 0).toInt - (f 4).toInt) + (1 + mg_p3 gs); omega
            · subst hv682
              replace hS683 : MS S0 S671 (upd (upd (upd (upd (upd (upd (upd f 6 a680) 7 b681) 10 0) 15 z626) 62 o613) 68 z632) 75 m615) g'634 := hS683
              have hR686 := rj_clear0 hR640_
              have hR687 : RJ (upd (upd (upd (upd (upd (upd (upd f 6 a680) 7 b681) 10 0) 15 z626) 62 o613) 68 z632) 75 m615) g'634 [] bc [] 0 [] := hR686
              show am_E _ _ _ _ [some (.ref 39), some (.int on)] [.int 0] _ _
              refine am_e6i hi_220_46 ?_
              refine am_e35 hi_220_47 ?_
              show am_E _ _ _ _ [some (.ref 39), some (.int on), some (.int tw), some (.int 0)] [] _ _
              refine am_e35 hi_221_95 ?_
              show am_E _ _ _ _ [some (.ref 39), some (.int 39), some (.int on), some (.int tw)] [] _ _
              refine am_e18 hi_181_366 ?_
              refine am_e35 hi_181_397 ?_
              show am_E _ _ _ _ [some (.ref 39), some (.int 39), some (.int on), some (.int tw), some (.int th)] [] _ _
              refine am_e35 hi_180_13 ?_
              have hRc := rj_clear0 hR687
              refine ⟨_, _, [], _, rfl, hS683, Or.inr ⟨hRc, rfl, (by show 0 ≤ (f 4).toInt; omega), (by show (f 4).toInt ≤ (f 0).toInt; omega), (by show 0 ≤ (f 32).toInt; omega), (by show (f 32).toInt ≤ 63; omega), (by show 1 ≤ (f 53).toInt; omega), (by show (f 53).toInt ≤ 600; omega), (by show 0 ≤ z632.toInt; omega), (by show z632.toInt ≤ 60000; omega), (by show 0 ≤ (f 48).toInt; omega), (by show (f 48).toInt ≤ 8000; omega), (by show 0 ≤ (f 37).toInt; omega), (by show (f 37).toInt ≤ 128; omega), (by show 0 ≤ o613.toInt; omega), (by show o613.toInt ≤ 65000; omega), (by show 0 ≤ (f 19).toInt; omega), (by show (f 19).toInt ≤ 600; omega)⟩⟩
          · refine am_e13f hi_220_15 (am_cF (m := r664.toInt) (n := (67 : Int)) rfl (by decide) c669) ?_
            refine am_e2 (v := 39) hi_220_18 rfl ?_
            refine am_e7 hi_220_19 ?_
            refine mm_20 (v := .int (f 4)) hS666 hi_220_20 rfl ?_
            refine am_e0 hi_220_23 ?_
            obtain ⟨z688, hz688, tz688⟩ := am_addI (x := f 4) (y := 1) (m := (f 4).toInt) (n := (1 : Int)) rfl (by decide) (by omega) (by omega)
            refine am_e10 (z := z688) hi_220_24 hz688 ?_
            refine mm_21 (v := z688) hS666 hi_220_25 rfl (Nat.le_of_ble_eq_true rfl) ms_4 ?_
            intro S689 hS690
            replace hS690 : MS S0 S689 (upd (upd (upd (upd (upd f 4 z688) 15 z626) 62 o613) 68 z632) 75 m615) g'634 := hS690
            have hR691 : RJ (upd (upd (upd (upd (upd f 4 z688) 15 z626) 62 o613) 68 z632) 75 m615) g'634 gs bc [] 0 (s614.toNatClampNeg :: []) := RJ.at hR640_ (by show (f 4).toInt ≤ z688.toInt; omega)
            refine am_e2 (v := 39) hi_220_28 rfl ?_
            refine am_e0 hi_220_29 ?_
            refine am_e1 (v := on) hi_220_31 rfl ?_
            refine am_e0 hi_220_32 ?_
            refine am_e0 hi_220_33 ?_
            refine am_e32n (as := [.ref 39, .int 35, .int on, .int 0, .int 0]) (la := [some (.ref 39), some (.int 35), some (.int on), some (.int 0), some (.int 0)]) (rest := []) hi_220_34 (am_hd0 (M := 220) (by decide) 34) (Nat.le_of_ble_eq_true rfl) (Nat.le_of_ble_eq_true rfl) (show 5 ≤ am_P0.2.2.1 179 from by decide +kernel) rfl (am_recv_ok hS690.fs) rfl rfl (ct_pile (d := (d + 4)) hS690 hR691 (mj_e_plain (by decide)) (by show (0 : Int) ≤ (f 10).toInt; omega) (by show (f 10).toInt ≤ (65535 : Int); omega)) ?_
            rintro v692 S693 (⟨z694, g'695, hv696, hS697, hR700, h698, h699⟩)
            subst hv696
            have h698_ : z694.toInt = (f 10).toInt + 1 := h698
            have h699_ : ∀ j, j ∉ [11, 12, 13, 14] → g'695 j = g'634 j := h699
            replace hS697 : MS S0 S693 (upd (upd (upd (upd (upd (upd f 4 z688) 10 z694) 15 z626) 62 o613) 68 z632) 75 m615) g'695 := hS697
            have hR700_ : RJ (upd (upd (upd (upd (upd (upd f 4 z688) 10 z694) 15 z626) 62 o613) 68 z632) 75 m615) g'695 (((35 : Int), on.toInt, (0 : Int), (0 : Int), []) :: gs) bc [] 0 (s614.toNatClampNeg :: []) := hR700
            show am_E _ _ _ _ [some (.ref 39), some (.int on)] [] _ _
            refine am_e18 hi_220_37 ?_
            refine am_e35 hi_220_47 ?_
            show am_E _ _ _ _ [some (.ref 39), some (.int on), some (.int tw), some (.int 0)] [] _ _
            refine am_e35 hi_221_95 ?_
            show am_E _ _ _ _ [some (.ref 39), some (.int 39), some (.int on), some (.int tw)] [] _ _
            refine am_e18 hi_181_366 ?_
            refine am_e35 hi_181_397 ?_
            show am_E _ _ _ _ [some (.ref 39), some (.int 39), some (.int on), some (.int tw), some (.int th)] [] _ _
            refine am_e35 hi_180_13 ?_
            have q1 : mg_p1 (((35 : Int), on.toInt, (0 : Int), (0 : Int), []) :: gs) = 0 + (mg_p1 gs) := rfl
            have q2 : mg_p2 (((35 : Int), on.toInt, (0 : Int), (0 : Int), []) :: gs) = 0 + (mg_p2 gs) := rfl
            have q3 : mg_p3 (((35 : Int), on.toInt, (0 : Int), (0 : Int), []) :: gs) = 3 + (mg_p3 gs) := rfl
            have q4 : mg_p4 (((35 : Int), on.toInt, (0 : Int), (0 : Int), []) :: gs) = 0 + (mg_p4 gs) := rfl
            refine ⟨_, _, _, bc, rfl, hS697, Or.inl ⟨⟨(RJ.fewer (pj' := []) hR700_ (fun _ h => nomatch h)), ?_, ?_⟩, rfl, ?_⟩⟩
            · exact (⟨⟨(show mg_k 35 from by decide), (show (0 : Int) ≤ z626.toInt from by omega), (show 0 ≤ (f 20).toInt from by omega), (show 1 ≤ (f 37).toInt from by omega), (show 0 ≤ (f 32).toInt from by omega), (show (f 32).toInt ≤ (f 5).toInt from by omega), (show (f 5).toInt ≤ 48 from by omega), (show (f 37).toInt ≤ 2 * ((f 5).toInt) + 2 from by omega), trivial⟩, mg_cast (mg_good_ext _ _ _ _ _ _ (fun i _ => by show g'695 34 i = g 34 i; rw [show g'695 34 = g'634 34 from h699_ 34 (by decide), show g'634 34 = g'616 34 from h639_ 34 (by decide), show g'616 34 = g 34 from h624_ 34 (by decide)]) (fun i _ => by show g'695 38 i = g 38 i; rw [show g'695 38 = g'634 38 from h699_ 38 (by decide), show g'634 38 = g'616 38 from h639_ 38 (by decide), show g'616 38 = g 38 from h624_ 38 (by decide)]) (fun i _ => by show g'695 23 i = g 23 i; rw [show g'695 23 = g'634 23 from h699_ 23 (by decide), show g'634 23 = g'616 23 from h639_ 23 (by decide), show g'616 23 = g 23 from h624_ 23 (by decide)]) hrest) (by show (f 15).toInt + -1 = z626.toInt + 0; omega) (by show (f 20).toInt = (f 20).toInt; omega) (by show (f 37).toInt + 0 = (f 37).toInt + 0; omega) (by show (f 32).toInt + 0 = (f 32).toInt + 0; omega) (by show (f 5).toInt + -1 = (f 5).toInt + -1; omega)⟩ : mg_good (g'695 34) (g'695 38) (g'695 23) (((35 : Int), on.toInt, (0 : Int), (0 : Int), []) :: gs) (z626.toInt) ((f 20).toInt) ((f 37).toInt) ((f 32).toInt) ((f 5).toInt))
            · exact ⟨(by show 0 ≤ z688.toInt; omega), (by show z688.toInt ≤ (f 0).toInt; omega), (by show (f 0).toInt ≤ 512; omega), (by show 0 ≤ (f 24).toInt; omega), (by show (f 24).toInt + (f 20).toInt + mg_p1 (((35 : Int), on.toInt, (0 : Int), (0 : Int), []) :: gs) ≤ 4 * z688.toInt; omega), (by show (f 20).toInt ≤ z688.toInt; omega), (by show z626.toInt + mg_p2 (((35 : Int), on.toInt, (0 : Int), (0 : Int), []) :: gs) ≤ z688.toInt; omega), (by show mg_p3 (((35 : Int), on.toInt, (0 : Int), (0 : Int), []) :: gs) ≤ 20 * z688.toInt + 20; omega), (by show 0 ≤ z632.toInt; omega), (by show z632.toInt + 3 * (f 20).toInt + mg_p4 (((35 : Int), on.toInt, (0 : Int), (0 : Int), []) :: gs) ≤ 60 * z688.toInt + 60; omega), (by show 0 ≤ o613.toInt; omega), (by show o613.toInt + 64 * mj_n (g'695 16) z626.toNatClampNeg 3 ≤ 64 * z688.toInt; rw [show g'695 16 = g'634 16 from h699_ 16 (by decide), show g'634 16 = g'616 16 from h639_ 16 (by decide)]; omega), (by show 0 ≤ (f 44).toInt; omega), (by show (f 44).toInt ≤ z688.toInt; omega), (by show 0 ≤ (f 48).toInt; omega), (by show (f 48).toInt ≤ z688.toInt; omega), (by show 1 ≤ (f 53).toInt; omega), (by show (f 53).toInt ≤ z688.toInt + 1; omega), (by show 0 ≤ (f 19).toInt; omega), (by show (f 19).toInt ≤ 600; omega)⟩
            · show 100 * ((f 0).toInt - z688.toInt) + mg_p3 (((35 : Int), on.toInt, (0 : Int), (0 : Int), []) :: gs) < 100 * ((f 0).toInt - (f 4).toInt) + (1 + mg_p3 gs); omega
      · refine am_e13f hi_221_24 (am_cF (m := r605.toInt) (n := (67 : Int)) rfl (by decide) c610) ?_
        refine am_e2 (v := 39) hi_221_27 rfl ?_
        refine am_e2 (v := 39) hi_221_28 rfl ?_
        refine mm_20 (v := .int (f 4)) hS607 hi_221_29 rfl ?_
        refine am_e0 hi_221_32 ?_
        obtain ⟨z701, hz701, tz701⟩ := am_addI (x := f 4) (y := 1) (m := (f 4).toInt) (n := (1 : Int)) rfl (by decide) (by omega) (by omega)
        refine am_e10 (z := z701) hi_221_33 hz701 ?_
        refine am_e32n (as := [.ref 39, .int z701]) (la := [some (.ref 39), some (.int z701)]) (rest := []) hi_221_34 (am_hd0 (M := 221) (by decide) 34) (Nat.le_of_ble_eq_true rfl) (Nat.le_of_ble_eq_true rfl) (show 2 ≤ am_P0.2.2.1 184 from by decide +kernel) rfl (am_recv_ok hS607.fs) rfl rfl (ct_kindAt (d := (d + 5)) hS607   (by show (0 : Int) ≤ z701.toInt; omega) (by show (f 0).toInt ≤ (16384 : Int); omega)) ?_
        rintro v702 S703 (⟨r704, hv705, hS706, h707⟩)
        subst hv705
        have h707_ : z701.toInt < (f 0).toInt ∨ r704.toInt = (-1 : Int) := h707
        show am_E _ _ _ _ [some (.ref 39), some (.int on), some (.int tw), none] [.int r704] _ _
        refine am_e0 hi_221_37 ?_
        by_cases c709 : ¬ r704.toInt = (63 : Int)
        · refine am_e13t hi_221_39 (am_cT (m := r704.toInt) (n := (63 : Int)) rfl (by decide) c709) ?_
          refine am_e0 hi_221_46 ?_
          refine am_e3 (ls' := [some (.ref 39), some (.int on), some (.int tw), some (.int 0)]) hi_221_47 (Nat.le_of_ble_eq_true rfl) rfl ?_
          refine am_e1 (v := 0) hi_221_48 rfl ?_
          refine am_e12t hi_221_49 (by decide) ?_
          refine am_e2 (v := 39) hi_221_76 rfl ?_
          refine am_e32w (as := [.ref 39]) (la := [some (.ref 39)]) (rest := []) hi_221_77 (am_hd0 (M := 221) (by decide) 77) (Nat.le_of_ble_eq_true rfl) (Nat.le_of_ble_eq_true rfl) (show 1 ≤ am_P0.2.2.1 209 from by decide +kernel) rfl (am_recv_ok hS706.fs) rfl rfl ?_
          refine am_e2 (v := 39) hi_209_0 rfl ?_
          refine am_e32n (as := [.ref 39]) (la := [some (.ref 39), none, none, none]) (rest := []) hi_209_1 (am_hd0 (M := 209) (by decide) 1) (Nat.le_of_ble_eq_true rfl) (Nat.le_of_ble_eq_true rfl) (show 1 ≤ am_P0.2.2.1 204 from by decide +kernel) rfl (am_recv_ok hS706.fs) rfl rfl (ct_load (d := (d + 2)) hS706 hR  (by show (0 : Int) ≤ (f 32).toInt; omega) (by show (f 32).toInt ≤ (63 : Int); omega) (by show (f 53).toInt ≤ (4096 : Int); omega) (by show (0 : Int) ≤ (f 68).toInt; omega) (by show (f 68).toInt ≤ (65534 : Int); omega) (by show (1 : Int) ≤ (f 15).toInt; omega) (by show (f 15).toInt ≤ (32767 : Int); omega) (by show (0 : Int) ≤ (f 24).toInt; omega) (by show (f 24).toInt ≤ (16384 : Int); omega) (by show (0 : Int) ≤ (f 62).toInt; omega) (by show (f 62).toInt ≤ (65000 : Int); omega)) ?_
          rintro v710 S711 (⟨o712, s713, m714, g'715, hv716, hS717, hR724, h718, h719, h720, h721, h722, h723⟩)
          subst hv716
          have h718_ : (f 62).toInt ≤ o712.toInt := h718
          have h719_ : o712.toInt ≤ (f 62).toInt + 64 := h719
          have h720_ : (f 68).toInt ≤ s713.toInt := h720
          have h721_ : s713.toInt ≤ (f 68).toInt + 1 := h721
          have h722_ : o712.toInt + 64 * mj_n (g'715 16) (f 15).toNatClampNeg 3 ≤ (f 62).toInt + 64 * mj_n (g 16) (f 15).toNatClampNeg 3 := h722
          have h723_ : ∀ j, j ∉ [16, 60, 63, 64, 65, 66, 67, 69, 70, 71, 72, 73] → g'715 j = g j := h723
          have hR724_ : RJ (upd (upd (upd f 62 o712) 68 s713) 75 m714) g'715 gs bc [] 0 [] := hR724
          show am_E _ _ _ _ [some (.ref 39)] [] _ _
          refine am_e2 (v := 39) hi_209_4 rfl ?_
          refine am_e7 hi_209_5 ?_
          refine mm_20 (v := .int (f 15)) hS717 hi_209_6 rfl ?_
          refine am_e0 hi_209_9 ?_
          obtain ⟨z725, hz725, tz725⟩ := am_subI (x := f 15) (y := 1) (m := (f 15).toInt) (n := (1 : Int)) rfl (by decide) (by omega) (by omega)
          refine am_e10 (z := z725) hi_209_10 hz725 ?_
          refine mm_21 (v := z725) hS717 hi_209_11 rfl (Nat.le_of_ble_eq_true rfl) ms_15 ?_
          intro S726 hS727
          replace hS727 : MS S0 S726 (upd (upd (upd (upd f 15 z725) 62 o712) 68 s713) 75 m714) g'715 := hS727
          have hp728 : mj_n (g'715 16) (f 15).toNatClampNeg 3 = mj_n (g'715 16) z725.toNatClampNeg 3 + if (g'715 16 z725.toNatClampNeg).toInt = 3 then 1 else 0 := mj_pop (by rw [cl_toNat, cl_toNat]; omega)
          have hp7281 : mj_n (g'715 16) z725.toNatClampNeg 3 ≤ mj_n (g'715 16) (f 15).toNatClampNeg 3 := by rw [hp728]; split <;> omega
          have hp7282 : (g'715 16 z725.toNatClampNeg).toInt = 3 → mj_n (g'715 16) z725.toNatClampNeg 3 + 1 ≤ mj_n (g'715 16) (f 15).toNatClampNeg 3 := fun q => by rw [hp728, if_pos q]; exact Int.le_refl _
          refine am_e35 hi_209_14 ?_
          show am_E _ _ _ _ [some (.ref 39), some (.int on), some (.int tw), some (.int 0)] [] _ _
          refine am_e2 (v := 39) hi_221_80 rfl ?_
          refine am_e0 hi_221_81 ?_
          refine am_e1 (v := on) hi_221_83 rfl ?_
          refine am_e0 hi_221_84 ?_
          refine am_e1 (v := tw) hi_221_85 rfl ?_
          refine am_e32n (as := [.ref 39, .int 23, .int on, .int 0, .int tw]) (la := [some (.ref 39), some (.int 23), some (.int on), some (.int 0), some (.int tw)]) (rest := []) hi_221_86 (am_hd0 (M := 221) (by decide) 86) (Nat.le_of_ble_eq_true rfl) (Nat.le_of_ble_eq_true rfl) (show 5 ≤ am_P0.2.2.1 189 from by decide +kernel) rfl (am_recv_ok hS727.fs) rfl rfl (ct_put (d := (d + 5)) hS727 hR724_  (by show (0 : Int) ≤ (f 32).toInt; omega) (by show (f 32).toInt ≤ (63 : Int); omega) (by show (f 53).toInt ≤ (4096 : Int); omega) (by show (0 : Int) ≤ s713.toInt; omega) (by show s713.toInt ≤ (65534 : Int); omega)) ?_
          rintro v729 S730 (⟨z731, r732, g'733, hv734, hS735, hR739, h736, h737, h738⟩)
          subst hv734
          have h736_ : z731.toInt = s713.toInt + 1 := h736
          have h737_ : r732.toInt = s713.toInt := h737
          have h738_ : ∀ j, j ∉ [60, 69, 70, 71, 72, 73] → g'733 j = g'715 j := h738
          replace hS735 : MS S0 S730 (upd (upd (upd (upd f 15 z725) 62 o712) 68 z731) 75 m714) g'733 := hS735
          have hR739_ : RJ (upd (upd (upd (upd f 15 z725) 62 o712) 68 z731) 75 m714) g'733 gs bc [] 0 (s713.toNatClampNeg :: []) := hR739
          show am_E _ _ _ _ [some (.ref 39), some (.int on), some (.int tw), some (.int 0)] [.int r732] _ _
          refine am_e6i hi_221_89 ?_
          refine am_e2 (v := 39) hi_221_90 rfl ?_
          refine am_e1 (v := on) hi_221_91 rfl ?_
          refine am_e32w (as := [.ref 39, .int on]) (la := [some (.ref 39), some (.int on)]) (rest := []) hi_221_92 (am_hd0 (M := 221) (by decide) 92) (Nat.le_of_ble_eq_true rfl) (Nat.le_of_ble_eq_true rfl) (show 2 ≤ am_P0.2.2.1 220 from by decide +kernel) rfl (am_recv_ok hS735.fs) rfl rfl ?_
          refine am_e2 (v := 39) hi_220_0 rfl ?_
          refine am_e32n (as := [.ref 39]) (la := [some (.ref 39)]) (rest := []) hi_220_1 (am_hd0 (M := 220) (by decide) 1) (Nat.le_of_ble_eq_true rfl) (Nat.le_of_ble_eq_true rfl) (show 1 ≤ am_P0.2.2.1 183 from by decide +kernel) rfl (am_recv_ok hS735.fs) rfl rfl (ct_next (d := (d + 3)) hS735   (by show (0 : Int) ≤ (f 4).toInt; omega) (by show (f 0).toInt ≤ (16384 : Int); omega)) ?_
          rintro v740 S741 (⟨r742, hv743, hS744, h745⟩)
          subst hv743
          have h745_ : (f 4).toInt < (f 0).toInt ∨ r742.toInt = (-1 : Int) := h745
          show am_E _ _ _ _ [some (.ref 39), some (.int on)] [.int r742] _ _
          refine am_e0 hi_220_4 ?_
          by_cases c747 : r742.toInt = (69 : Int)
          · refine am_e13t hi_220_6 (am_cT (m := r742.toInt) (n := (69 : Int)) rfl (by decide) c747) ?_
            refine am_e2 (v := 39) hi_220_18 rfl ?_
            refine am_e7 hi_220_19 ?_
            refine mm_20 (v := .int (f 4)) hS744 hi_220_20 rfl ?_
            refine am_e0 hi_220_23 ?_
            refine am_e10 (z := z701) hi_220_24 hz701 ?_
            refine mm_21 (v := z701) hS744 hi_220_25 rfl (Nat.le_of_ble_eq_true rfl) ms_4 ?_
            intro S748 hS749
            replace hS749 : MS S0 S748 (upd (upd (upd (upd (upd f 4 z701) 15 z725) 62 o712) 68 z731) 75 m714) g'733 := hS749
            have hR750 : RJ (upd (upd (upd (upd (upd f 4 z701) 15 z725) 62 o712) 68 z731) 75 m714) g'733 gs bc [] 0 (s713.toNatClampNeg :: []) := RJ.at hR739_ (by show (f 4).toInt ≤ z701.toInt; omega)
            refine am_e2 (v := 39) hi_220_28 rfl ?_
            refine am_e0 hi_220_29 ?_
            refine am_e1 (v := on) hi_220_31 rfl ?_
            refine am_e0 hi_220_32 ?_
            refine am_e0 hi_220_33 ?_
            refine am_e32n (as := [.ref 39, .int 35, .int on, .int 0, .int 0]) (la := [some (.ref 39), some (.int 35), some (.int on), some (.int 0), some (.int 0)]) (rest := []) hi_220_34 (am_hd0 (M := 220) (by decide) 34) (Nat.le_of_ble_eq_true rfl) (Nat.le_of_ble_eq_true rfl) (show 5 ≤ am_P0.2.2.1 179 from by decide +kernel) rfl (am_recv_ok hS749.fs) rfl rfl (ct_pile (d := (d + 4)) hS749 hR750 (mj_e_plain (by decide)) (by show (0 : Int) ≤ (f 10).toInt; omega) (by show (f 10).toInt ≤ (65535 : Int); omega)) ?_
            rintro v751 S752 (⟨z753, g'754, hv755, hS756, hR759, h757, h758⟩)
            subst hv755
            have h757_ : z753.toInt = (f 10).toInt + 1 := h757
            have h758_ : ∀ j, j ∉ [11, 12, 13, 14] → g'754 j = g'733 j := h758
            replace hS756 : MS S0 S752 (upd (upd (upd (upd (upd (upd f 4 z701) 10 z753) 15 z725) 62 o712) 68 z731) 75 m714) g'754 := hS756
            have hR759_ : RJ (upd (upd (upd (upd (upd (upd f 4 z701) 10 z753) 15 z725) 62 o712) 68 z731) 75 m714) g'754 (((35 : Int), on.toInt, (0 : Int), (0 : Int), []) :: gs) bc [] 0 (s713.toNatClampNeg :: []) := hR759
            show am_E _ _ _ _ [some (.ref 39), some (.int on)] [] _ _
            refine am_e18 hi_220_37 ?_
            refine am_e35 hi_220_47 ?_
            show am_E _ _ _ _ [some (.ref 39), some (.int on), some (.int tw), some (.int 0)] [] _ _
            refine am_e35 hi_221_95 ?_
            show am_E _ _ _ _ [some (.ref 39), some (.int 39), some (.int on), some (.int tw)] [] _ _
            refine am_e18 hi_181_366 ?_
            refine am_e35 hi_181_397 ?_
            show am_E _ _ _ _ [some (.ref 39), some (.int 39), some (.int on), some (.int tw), some (.int th)] [] _ _
            refine am_e35 hi_180_13 ?_
            have q1 : mg_p1 (((35 : Int), on.toInt, (0 : Int), (0 : Int), []) :: gs) = 0 + (mg_p1 gs) := rfl
            have q2 : mg_p2 (((35 : Int), on.toInt, (0 : Int), (0 : Int), []) :: gs) = 0 + (mg_p2 gs) := rfl
            have q3 : mg_p3 (((35 : Int), on.toInt, (0 : Int), (0 : Int), []) :: gs) = 3 + (mg_p3 gs) := rfl
            have q4 : mg_p4 (((35 : Int), on.toInt, (0 : Int), (0 : Int), []) :: gs) = 0 + (mg_p4 gs) := rfl
            refine ⟨_, _, _, bc, rfl, hS756, Or.inl ⟨⟨(RJ.fewer (pj' := []) hR759_ (fun _ h => nomatch h)), ?_, ?_⟩, rfl, ?_⟩⟩
            · exact (⟨⟨(show mg_k 35 from by decide), (show (0 : Int) ≤ z725.toInt from by omega), (show 0 ≤ (f 20).toInt from by omega), (show 1 ≤ (f 37).toInt from by omega), (show 0 ≤ (f 32).toInt from by omega), (show (f 32).toInt ≤ (f 5).toInt from by omega), (show (f 5).toInt ≤ 48 from by omega), (show (f 37).toInt ≤ 2 * ((f 5).toInt) + 2 from by omega), trivial⟩, mg_cast (mg_good_ext _ _ _ _ _ _ (fun i _ => by show g'754 34 i = g 34 i; rw [show g'754 34 = g'733 34 from h758_ 34 (by decide), show g'733 34 = g'715 34 from h738_ 34 (by decide), show g'715 34 = g 34 from h723_ 34 (by decide)]) (fun i _ => by show g'754 38 i = g 38 i; rw [show g'754 38 = g'733 38 from h758_ 38 (by decide), show g'733 38 = g'715 38 from h738_ 38 (by decide), show g'715 38 = g 38 from h723_ 38 (by decide)]) (fun i _ => by show g'754 23 i = g 23 i; rw [show g'754 23 = g'733 23 from h758_ 23 (by decide), show g'733 23 = g'715 23 from h738_ 23 (by decide), show g'715 23 = g 23 from h723_ 23 (by decide)]) hrest) (by show (f 15).toInt + -1 = z725.toInt + 0; omega) (by show (f 20).toInt = (f 20).toInt; omega) (by show (f 37).toInt + 0 = (f 37).toInt + 0; omega) (by show (f 32).toInt + 0 = (f 32).toInt + 0; omega) (by show (f 5).toInt + -1 = (f 5).toInt + -1; omega)⟩ : mg_good (g'754 34) (g'754 38) (g'754 23) (((35 : Int), on.toInt, (0 : Int), (0 : Int), []) :: gs) (z725.toInt) ((f 20).toInt) ((f 37).toInt) ((f 32).toInt) ((f 5).toInt))
            · exact ⟨(by show 0 ≤ z701.toInt; omega), (by show z701.toInt ≤ (f 0).toInt; omega), (by show (f 0).toInt ≤ 512; omega), (by show 0 ≤ (f 24).toInt; omega), (by show (f 24).toInt + (f 20).toInt + mg_p1 (((35 : Int), on.toInt, (0 : Int), (0 : Int), []) :: gs) ≤ 4 * z701.toInt; omega), (by show (f 20).toInt ≤ z701.toInt; omega), (by show z725.toInt + mg_p2 (((35 : Int), on.toInt, (0 : Int), (0 : Int), []) :: gs) ≤ z701.toInt; omega), (by show mg_p3 (((35 : Int), on.toInt, (0 : Int), (0 : Int), []) :: gs) ≤ 20 * z701.toInt + 20; omega), (by show 0 ≤ z731.toInt; omega), (by show z731.toInt + 3 * (f 20).toInt + mg_p4 (((35 : Int), on.toInt, (0 : Int), (0 : Int), []) :: gs) ≤ 60 * z701.toInt + 60; omega), (by show 0 ≤ o712.toInt; omega), (by show o712.toInt + 64 * mj_n (g'754 16) z725.toNatClampNeg 3 ≤ 64 * z701.toInt; rw [show g'754 16 = g'733 16 from h758_ 16 (by decide), show g'733 16 = g'715 16 from h738_ 16 (by decide)]; omega), (by show 0 ≤ (f 44).toInt; omega), (by show (f 44).toInt ≤ z701.toInt; omega), (by show 0 ≤ (f 48).toInt; omega), (by show (f 48).toInt ≤ z701.toInt; omega), (by show 1 ≤ (f 53).toInt; omega), (by show (f 53).toInt ≤ z701.toInt + 1; omega), (by show 0 ≤ (f 19).toInt; omega), (by show (f 19).toInt ≤ 600; omega)⟩
            · show 100 * ((f 0).toInt - z701.toInt) + mg_p3 (((35 : Int), on.toInt, (0 : Int), (0 : Int), []) :: gs) < 100 * ((f 0).toInt - (f 4).toInt) + (1 + mg_p3 gs); omega
          · refine am_e13f hi_220_6 (am_cF (m := r742.toInt) (n := (69 : Int)) rfl (by decide) c747) ?_
            refine am_e2 (v := 39) hi_220_9 rfl ?_
            refine am_e32n (as := [.ref 39]) (la := [some (.ref 39)]) (rest := []) hi_220_10 (am_hd0 (M := 220) (by decide) 10) (Nat.le_of_ble_eq_true rfl) (Nat.le_of_ble_eq_true rfl) (show 1 ≤ am_P0.2.2.1 183 from by decide +kernel) rfl (am_recv_ok hS744.fs) rfl rfl (ct_next (d := (d + 3)) hS744   (by show (0 : Int) ≤ (f 4).toInt; omega) (by show (f 0).toInt ≤ (16384 : Int); omega)) ?_
            rintro v760 S761 (⟨r762, hv763, hS764, h765⟩)
            subst hv763
            have h765_ : (f 4).toInt < (f 0).toInt ∨ r762.toInt = (-1 : Int) := h765
            show am_E _ _ _ _ [some (.ref 39), some (.int on)] [.int r762] _ _
            refine am_e0 hi_220_13 ?_
            by_cases c767 : ¬ r762.toInt = (67 : Int)
            · refine am_e13t hi_220_15 (am_cT (m := r762.toInt) (n := (67 : Int)) rfl (by decide) c767) ?_
              refine am_e2 (v := 39) hi_220_40 rfl ?_
              refine am_e0 hi_220_41 ?_
              refine am_e32n (as := [.ref 39, .int 63]) (la := [some (.ref 39), some (.int 63)]) (rest := []) hi_220_43 (am_hd0 (M := 220) (by decide) 43) (Nat.le_of_ble_eq_true rfl) (Nat.le_of_ble_eq_true rfl) (show 2 ≤ am_P0.2.2.1 199 from by decide +kernel) rfl (am_recv_ok hS764.fs) rfl rfl (ct_leave (d := (d + 1)) hS764   (by show (0 : Int) ≤ (f 4).toInt; omega) (by show (f 0).toInt ≤ (16384 : Int); omega) (by show (0 : Int) ≤ (63 : Int); omega) (by show (0 : Int) ≤ (f 5).toInt; omega) (by show (f 5).toInt ≤ (48 : Int); omega)) ?_
              rintro v768 S769 (⟨z770, y771, hv772, hS773, h774, h775, h776⟩ | ⟨a778, b779, hv780, hS781⟩)
              · subst hv772
                have h774_ : z770.toInt = (f 4).toInt + 1 := h774
                have h775_ : (f 4).toInt < (f 0).toInt := h775
                have h776_ : y771.toInt = (f 5).toInt - 1 := h776
                replace hS773 : MS S0 S769 (upd (upd (upd (upd (upd (upd f 4 z770) 5 y771) 15 z725) 62 o712) 68 z731) 75 m714) g'733 := hS773
                have hR783 : RJ (upd (upd (upd (upd (upd (upd f 4 z770) 5 y771) 15 z725) 62 o712) 68 z731) 75 m714) g'733 gs bc [] 0 (s713.toNatClampNeg :: []) := RJ.at hR739_ (by show (f 4).toInt ≤ z770.toInt; omega)
                show am_E _ _ _ _ [some (.ref 39), some (.int on)] [.int 1] _ _
                refine am_e6i hi_220_46 ?_
                refine am_e35 hi_220_47 ?_
                show am_E _ _ _ _ [some (.ref 39), some (.int on), some (.int tw), some (.int 0)] [] _ _
                refine am_e35 hi_221_95 ?_
                show am_E _ _ _ _ [some (.ref 39), some (.int 39), some (.int on), some (.int tw)] [] _ _
                refine am_e18 hi_181_366 ?_
                refine am_e35 hi_181_397 ?_
                show am_E _ _ _ _ [some (.ref 39), some (.int 39), some (.int on), some (.int tw), some (.int th)] [] _ _
                refine am_e35 hi_180_13 ?_
                have q1 : mg_p1 gs = mg_p1 gs := rfl
                have q2 : mg_p2 gs = mg_p2 gs := rfl
                have q3 : mg_p3 gs = mg_p3 gs := rfl
                have q4 : mg_p4 gs = mg_p4 gs := rfl
                refine ⟨_, _, _, bc, rfl, hS773, Or.inl ⟨⟨(RJ.fewer (pj' := []) hR783 (fun _ h => nomatch h)), ?_, ?_⟩, rfl, ?_⟩⟩
                · exact (mg_cast (mg_good_ext _ _ _ _ _ _ (fun i _ => by show g'733 34 i = g 34 i; rw [show g'733 34 = g'715 34 from h738_ 34 (by decide), show g'715 34 = g 34 from h723_ 34 (by decide)]) (fun i _ => by show g'733 38 i = g 38 i; rw [show g'733 38 = g'715 38 from h738_ 38 (by decide), show g'715 38 = g 38 from h723_ 38 (by decide)]) (fun i _ => by show g'733 23 i = g 23 i; rw [show g'733 23 = g'715 23 from h738_ 23 (by decide), show g'715 23 = g 23 from h723_ 23 (by decide)]) hrest) (by show (f 15).toInt + -1 = z725.toInt; omega) (by show (f 20).toInt = (f 20).toInt; omega) (by show (f 37).toInt + 0 = (f 37).toInt; omega) (by show (f 32).toInt + 0 = (f 32).toInt; omega) (by show (f 5).toInt + -1 = y771.toInt; omega) : mg_good (g'733 34) (g'733 38) (g'733 23) gs (z725.toInt) ((f 20).toInt) ((f 37).toInt) ((f 32).toInt) (y771.toInt))
                · exact ⟨(by show 0 ≤ z770.toInt; omega), (by show z770.toInt ≤ (f 0).toInt; omega), (by show (f 0).toInt ≤ 512; omega), (by show 0 ≤ (f 24).toInt; omega), (by show (f 24).toInt + (f 20).toInt + mg_p1 gs ≤ 4 * z770.toInt; omega), (by show (f 20).toInt ≤ z770.toInt; omega), (by show z725.toInt + mg_p2 gs ≤ z770.toInt; omega), (by show mg_p3 gs ≤ 20 * z770.toInt + 20; omega), (by show 0 ≤ z731.toInt; omega), (by show z731.toInt + 3 * (f 20).toInt + mg_p4 gs ≤ 60 * z770.toInt + 60; omega), (by show 0 ≤ o712.toInt; omega), (by show o712.toInt + 64 * mj_n (g'733 16) z725.toNatClampNeg 3 ≤ 64 * z770.toInt; rw [show g'733 16 = g'715 16 from h738_ 16 (by decide)]; omega), (by show 0 ≤ (f 44).toInt; omega), (by show (f 44).toInt ≤ z770.toInt; omega), (by show 0 ≤ (f 48).toInt; omega), (by show (f 48).toInt ≤ z770.toInt; omega), (by show 1 ≤ (f 53).toInt; omega), (by show (f 53).toInt ≤ z770.toInt + 1; omega), (by show 0 ≤ (f 19).toInt; omega), (by show (f 19).toInt ≤ 600; omega)⟩
                · show 100 * ((f 0).toInt - z770.toInt) + mg_p3 gs < 100 * ((f 0).toInt - (f 4).toInt) + (1 + mg_p3 gs); omega
              · subst hv780
                replace hS781 : MS S0 S769 (upd (upd (upd (upd (upd (upd (upd f 6 a778) 7 b779) 10 0) 15 z725) 62 o712) 68 z731) 75 m714) g'733 := hS781
                have hR784 := rj_clear0 hR739_
                have hR785 : RJ (upd (upd (upd (upd (upd (upd (upd f 6 a778) 7 b779) 10 0) 15 z725) 62 o712) 68 z731) 75 m714) g'733 [] bc [] 0 [] := hR784
                show am_E _ _ _ _ [some (.ref 39), some (.int on)] [.int 0] _ _
                refine am_e6i hi_220_46 ?_
                refine am_e35 hi_220_47 ?_
                show am_E _ _ _ _ [some (.ref 39), some (.int on), some (.int tw), some (.int 0)] [] _ _
                refine am_e35 hi_221_95 ?_
                show am_E _ _ _ _ [some (.ref 39), some (.int 39), some (.int on), some (.int tw)] [] _ _
                refine am_e18 hi_181_366 ?_
                refine am_e35 hi_181_397 ?_
                show am_E _ _ _ _ [some (.ref 39), some (.int 39), some (.int on), some (.int tw), some (.int th)] [] _ _
                refine am_e35 hi_180_13 ?_
                have hRc := rj_clear0 hR785
                refine ⟨_, _, [], _, rfl, hS781, Or.inr ⟨hRc, rfl, (by show 0 ≤ (f 4).toInt; omega), (by show (f 4).toInt ≤ (f 0).toInt; omega), (by show 0 ≤ (f 32).toInt; omega), (by show (f 32).toInt ≤ 63; omega), (by show 1 ≤ (f 53).toInt; omega), (by show (f 53).toInt ≤ 600; omega), (by show 0 ≤ z731.toInt; omega), (by show z731.toInt ≤ 60000; omega), (by show 0 ≤ (f 48).toInt; omega), (by show (f 48).toInt ≤ 8000; omega), (by show 0 ≤ (f 37).toInt; omega), (by show (f 37).toInt ≤ 128; omega), (by show 0 ≤ o712.toInt; omega), (by show o712.toInt ≤ 65000; omega), (by show 0 ≤ (f 19).toInt; omega), (by show (f 19).toInt ≤ 600; omega)⟩⟩
            · refine am_e13f hi_220_15 (am_cF (m := r762.toInt) (n := (67 : Int)) rfl (by decide) c767) ?_
              refine am_e2 (v := 39) hi_220_18 rfl ?_
              refine am_e7 hi_220_19 ?_
              refine mm_20 (v := .int (f 4)) hS764 hi_220_20 rfl ?_
              refine am_e0 hi_220_23 ?_
              refine am_e10 (z := z701) hi_220_24 hz701 ?_
              refine mm_21 (v := z701) hS764 hi_220_25 rfl (Nat.le_of_ble_eq_true rfl) ms_4 ?_
              intro S786 hS787
              replace hS787 : MS S0 S786 (upd (upd (upd (upd (upd f 4 z701) 15 z725) 62 o712) 68 z731) 75 m714) g'733 := hS787
              have hR788 : RJ (upd (upd (upd (upd (upd f 4 z701) 15 z725) 62 o712) 68 z731) 75 m714) g'733 gs bc [] 0 (s713.toNatClampNeg :: []) := RJ.at hR739_ (by show (f 4).toInt ≤ z701.toInt; omega)
              refine am_e2 (v := 39) hi_220_28 rfl ?_
              refine am_e0 hi_220_29 ?_
              refine am_e1 (v := on) hi_220_31 rfl ?_
              refine am_e0 hi_220_32 ?_
              refine am_e0 hi_220_33 ?_
              refine am_e32n (as := [.ref 39, .int 35, .int on, .int 0, .int 0]) (la := [some (.ref 39), some (.int 35), some (.int on), some (.int 0), some (.int 0)]) (rest := []) hi_220_34 (am_hd0 (M := 220) (by decide) 34) (Nat.le_of_ble_eq_true rfl) (Nat.le_of_ble_eq_true rfl) (show 5 ≤ am_P0.2.2.1 179 from by decide +kernel) rfl (am_recv_ok hS787.fs) rfl rfl (ct_pile (d := (d + 4)) hS787 hR788 (mj_e_plain (by decide)) (by show (0 : Int) ≤ (f 10).toInt; omega) (by show (f 10).toInt ≤ (65535 : Int); omega)) ?_
              rintro v789 S790 (⟨z791, g'792, hv793, hS794, hR797, h795, h796⟩)
              subst hv793
              have h795_ : z791.toInt = (f 10).toInt + 1 := h795
              have h796_ : ∀ j, j ∉ [11, 12, 13, 14] → g'792 j = g'733 j := h796
              replace hS794 : MS S0 S790 (upd (upd (upd (upd (upd (upd f 4 z701) 10 z791) 15 z725) 62 o712) 68 z731) 75 m714) g'792 := hS794
              have hR797_ : RJ (upd (upd (upd (upd (upd (upd f 4 z701) 10 z791) 15 z725) 62 o712) 68 z731) 75 m714) g'792 (((35 : Int), on.toInt, (0 : Int), (0 : Int), []) :: gs) bc [] 0 (s713.toNatClampNeg :: []) := hR797
              show am_E _ _ _ _ [some (.ref 39), some (.int on)] [] _ _
              refine am_e18 hi_220_37 ?_
              refine am_e35 hi_220_47 ?_
              show am_E _ _ _ _ [some (.ref 39), some (.int on), some (.int tw), some (.int 0)] [] _ _
              refine am_e35 hi_221_95 ?_
              show am_E _ _ _ _ [some (.ref 39), some (.int 39), some (.int on), some (.int tw)] [] _ _
              refine am_e18 hi_181_366 ?_
              refine am_e35 hi_181_397 ?_
              show am_E _ _ _ _ [some (.ref 39), some (.int 39), some (.int on), some (.int tw), some (.int th)] [] _ _
              refine am_e35 hi_180_13 ?_
              have q1 : mg_p1 (((35 : Int), on.toInt, (0 : Int), (0 : Int), []) :: gs) = 0 + (mg_p1 gs) := rfl
              have q2 : mg_p2 (((35 : Int), on.toInt, (0 : Int), (0 : Int), []) :: gs) = 0 + (mg_p2 gs) := rfl
              have q3 : mg_p3 (((35 : Int), on.toInt, (0 : Int), (0 : Int), []) :: gs) = 3 + (mg_p3 gs) := rfl
              have q4 : mg_p4 (((35 : Int), on.toInt, (0 : Int), (0 : Int), []) :: gs) = 0 + (mg_p4 gs) := rfl
              refine ⟨_, _, _, bc, rfl, hS794, Or.inl ⟨⟨(RJ.fewer (pj' := []) hR797_ (fun _ h => nomatch h)), ?_, ?_⟩, rfl, ?_⟩⟩
              · exact (⟨⟨(show mg_k 35 from by decide), (show (0 : Int) ≤ z725.toInt from by omega), (show 0 ≤ (f 20).toInt from by omega), (show 1 ≤ (f 37).toInt from by omega), (show 0 ≤ (f 32).toInt from by omega), (show (f 32).toInt ≤ (f 5).toInt from by omega), (show (f 5).toInt ≤ 48 from by omega), (show (f 37).toInt ≤ 2 * ((f 5).toInt) + 2 from by omega), trivial⟩, mg_cast (mg_good_ext _ _ _ _ _ _ (fun i _ => by show g'792 34 i = g 34 i; rw [show g'792 34 = g'733 34 from h796_ 34 (by decide), show g'733 34 = g'715 34 from h738_ 34 (by decide), show g'715 34 = g 34 from h723_ 34 (by decide)]) (fun i _ => by show g'792 38 i = g 38 i; rw [show g'792 38 = g'733 38 from h796_ 38 (by decide), show g'733 38 = g'715 38 from h738_ 38 (by decide), show g'715 38 = g 38 from h723_ 38 (by decide)]) (fun i _ => by show g'792 23 i = g 23 i; rw [show g'792 23 = g'733 23 from h796_ 23 (by decide), show g'733 23 = g'715 23 from h738_ 23 (by decide), show g'715 23 = g 23 from h723_ 23 (by decide)]) hrest) (by show (f 15).toInt + -1 = z725.toInt + 0; omega) (by show (f 20).toInt = (f 20).toInt; omega) (by show (f 37).toInt + 0 = (f 37).toInt + 0; omega) (by show (f 32).toInt + 0 = (f 32).toInt + 0; omega) (by show (f 5).toInt + -1 = (f 5).toInt + -1; omega)⟩ : mg_good (g'792 34) (g'792 38) (g'792 23) (((35 : Int), on.toInt, (0 : Int), (0 : Int), []) :: gs) (z725.toInt) ((f 20).toInt) ((f 37).toInt) ((f 32).toInt) ((f 5).toInt))
              · exact ⟨(by show 0 ≤ z701.toInt; omega), (by show z701.toInt ≤ (f 0).toInt; omega), (by show (f 0).toInt ≤ 512; omega), (by show 0 ≤ (f 24).toInt; omega), (by show (f 24).toInt + (f 20).toInt + mg_p1 (((35 : Int), on.toInt, (0 : Int), (0 : Int), []) :: gs) ≤ 4 * z701.toInt; omega), (by show (f 20).toInt ≤ z701.toInt; omega), (by show z725.toInt + mg_p2 (((35 : Int), on.toInt, (0 : Int), (0 : Int), []) :: gs) ≤ z701.toInt; omega), (by show mg_p3 (((35 : Int), on.toInt, (0 : Int), (0 : Int), []) :: gs) ≤ 20 * z701.toInt + 20; omega), (by show 0 ≤ z731.toInt; omega), (by show z731.toInt + 3 * (f 20).toInt + mg_p4 (((35 : Int), on.toInt, (0 : Int), (0 : Int), []) :: gs) ≤ 60 * z701.toInt + 60; omega), (by show 0 ≤ o712.toInt; omega), (by show o712.toInt + 64 * mj_n (g'792 16) z725.toNatClampNeg 3 ≤ 64 * z701.toInt; rw [show g'792 16 = g'733 16 from h796_ 16 (by decide), show g'733 16 = g'715 16 from h738_ 16 (by decide)]; omega), (by show 0 ≤ (f 44).toInt; omega), (by show (f 44).toInt ≤ z701.toInt; omega), (by show 0 ≤ (f 48).toInt; omega), (by show (f 48).toInt ≤ z701.toInt; omega), (by show 1 ≤ (f 53).toInt; omega), (by show (f 53).toInt ≤ z701.toInt + 1; omega), (by show 0 ≤ (f 19).toInt; omega), (by show (f 19).toInt ≤ 600; omega)⟩
              · show 100 * ((f 0).toInt - z701.toInt) + mg_p3 (((35 : Int), on.toInt, (0 : Int), (0 : Int), []) :: gs) < 100 * ((f 0).toInt - (f 4).toInt) + (1 + mg_p3 gs); omega
        · refine am_e13f hi_221_39 (am_cF (m := r704.toInt) (n := (63 : Int)) rfl (by decide) c709) ?_
          refine am_e0 hi_221_42 ?_
          refine am_e18 hi_221_43 ?_
          refine am_e3 (ls' := [some (.ref 39), some (.int on), some (.int tw), some (.int 1)]) hi_221_47 (Nat.le_of_ble_eq_true rfl) rfl ?_
          refine am_e1 (v := 1) hi_221_48 rfl ?_
          refine am_e12f hi_221_49 (by decide) ?_
          refine am_e2 (v := 39) hi_221_52 rfl ?_
          refine am_e32w (as := [.ref 39]) (la := [some (.ref 39)]) (rest := []) hi_221_53 (am_hd0 (M := 221) (by decide) 53) (Nat.le_of_ble_eq_true rfl) (Nat.le_of_ble_eq_true rfl) (show 1 ≤ am_P0.2.2.1 216 from by decide +kernel) rfl (am_recv_ok hS706.fs) rfl rfl ?_
          refine am_e2 (v := 39) hi_216_0 rfl ?_
          refine mm_20 (v := .ref 46) hS706 hi_216_1 rfl ?_
          refine am_e2 (v := 39) hi_216_4 rfl ?_
          refine mm_20 (v := .int (f 15)) hS706 hi_216_5 rfl ?_
          refine am_e0 hi_216_8 ?_
          obtain ⟨z798, hz798, tz798⟩ := am_subI (x := f 15) (y := 1) (m := (f 15).toInt) (n := (1 : Int)) rfl (by decide) (by omega) (by omega)
          refine am_e10 (z := z798) hi_216_9 hz798 ?_
          refine mm_25 hS706 ma_16 hi_216_10 (by decide) (by omega) (by omega) ?_
          show am_E _ _ _ _ [some (.ref 39)] [.int (g 16 z798.toNatClampNeg)] _ _
          refine am_e0 hi_216_11 ?_
          by_cases c799 : (g 16 z798.toNatClampNeg).toInt = (1 : Int)
          · refine am_e13t hi_216_12 (am_cT (m := (g 16 z798.toNatClampNeg).toInt) (n := (1 : Int)) rfl (by decide) c799) ?_
            refine am_e0 hi_216_30 ?_
            refine am_e18 hi_216_31 ?_
            refine am_e36 hi_216_35 (by decide) ?_
            show am_E _ _ _ _ [some (.ref 39), some (.int on), some (.int tw), some (.int 1)] [.int 1] _ _
            refine am_e12f hi_221_56 (by decide) ?_
            refine am_e2 (v := 39) hi_221_59 rfl ?_
            refine am_e32w (as := [.ref 39]) (la := [some (.ref 39), none]) (rest := []) hi_221_60 (am_hd0 (M := 221) (by decide) 60) (Nat.le_of_ble_eq_true rfl) (Nat.le_of_ble_eq_true rfl) (show 1 ≤ am_P0.2.2.1 217 from by decide +kernel) rfl (am_recv_ok hS706.fs) rfl rfl ?_
            refine am_e2 (v := 39) hi_217_0 rfl ?_
            refine mm_20 (v := .ref 47) hS706 hi_217_1 rfl ?_
            refine am_e2 (v := 39) hi_217_4 rfl ?_
            refine mm_20 (v := .int (f 15)) hS706 hi_217_5 rfl ?_
            refine am_e0 hi_217_8 ?_
            refine am_e10 (z := z798) hi_217_9 hz798 ?_
            refine mm_25 hS706 ma_17 hi_217_10 (by decide) (by omega) (by omega) ?_
            show am_E _ _ _ _ [some (.ref 39), none] [.int (g 17 z798.toNatClampNeg)] _ _
            have r800 : (g 16 z798.toNatClampNeg).toInt = 1 ∨ (g 16 z798.toNatClampNeg).toInt = 2 → 0 ≤ (g 17 z798.toNatClampNeg).toInt ∧ (g 17 z798.toNatClampNeg).toInt < 65536 := RJ.vc hR z798.toNatClampNeg
            refine am_e3 (ls' := [some (.ref 39), some (.int (g 17 z798.toNatClampNeg))]) hi_217_11 (Nat.le_of_ble_eq_true rfl) rfl ?_
            refine am_e2 (v := 39) hi_217_12 rfl ?_
            refine mm_20 (v := .ref 91) hS706 hi_217_13 rfl ?_
            refine am_e1 (v := g 17 z798.toNatClampNeg) hi_217_16 rfl ?_
            refine am_e2 (v := 39) hi_217_17 rfl ?_
            refine mm_20 (v := .ref 46) hS706 hi_217_18 rfl ?_
            refine am_e2 (v := 39) hi_217_21 rfl ?_
            refine mm_20 (v := .int (f 15)) hS706 hi_217_22 rfl ?_
            refine am_e0 hi_217_25 ?_
            refine am_e10 (z := z798) hi_217_26 hz798 ?_
            refine mm_25 hS706 ma_16 hi_217_27 (by decide) (by omega) (by omega) ?_
            show am_E _ _ _ _ [some (.ref 39), some (.int (g 17 z798.toNatClampNeg))] [.int (g 16 z798.toNatClampNeg), .int (g 17 z798.toNatClampNeg), .ref 91] _ _
            refine am_e0 hi_217_28 ?_
            refine am_e13f hi_217_29 (am_cF (m := (g 16 z798.toNatClampNeg).toInt) (n := (1 : Int)) rfl (by decide) (by simp only [am_cI]; omega)) ?_
            refine am_e2 (v := 39) hi_217_32 rfl ?_
            refine mm_20 (v := .ref 91) hS706 hi_217_33 rfl ?_
            refine am_e1 (v := g 17 z798.toNatClampNeg) hi_217_36 rfl ?_
            refine mm_25 hS706 ma_72 hi_217_37 (by decide) (by omega) (by omega) ?_
            show am_E _ _ _ _ [some (.ref 39), some (.int (g 17 z798.toNatClampNeg))] [.int (g 72 (g 17 z798.toNatClampNeg).toNatClampNeg), .int (g 17 z798.toNatClampNeg), .ref 91] _ _
            refine am_e0 hi_217_38 ?_
            obtain ⟨z801, hz801⟩ : ∃ q__, am_bin 3 (g 72 (g 17 z798.toNatClampNeg).toNatClampNeg) 1 = q__ := ⟨_, rfl⟩
            refine am_e10 (z := z801) hi_217_39 hz801 ?_
            refine am_e0 hi_217_40 ?_
            obtain ⟨z802, hz802⟩ : ∃ q__, am_bin 4 z801 4 = q__ := ⟨_, rfl⟩
            refine am_e10 (z := z802) hi_217_41 hz802 ?_
            refine am_e18 hi_217_42 ?_
            refine mm_26 hS706 ma_72 hi_217_46 (by decide) (by omega) (by omega) (fun h => nomatch h) ?_
            intro S803 hS804
            refine am_e2 (v := 39) hi_217_47 rfl ?_
            refine am_e7 hi_217_48 ?_
            refine mm_20 (v := .int (f 15)) hS804 hi_217_49 rfl ?_
            refine am_e0 hi_217_52 ?_
            refine am_e10 (z := z798) hi_217_53 hz798 ?_
            refine mm_21 (v := z798) hS804 hi_217_54 rfl (Nat.le_of_ble_eq_true rfl) ms_15 ?_
            intro S805 hS806
            have hp807 : mj_n (g 16) (f 15).toNatClampNeg 3 = mj_n (g 16) z798.toNatClampNeg 3 + if (g 16 z798.toNatClampNeg).toInt = 3 then 1 else 0 := mj_pop (by rw [cl_toNat, cl_toNat]; omega)
            have hp8071 : mj_n (g 16) z798.toNatClampNeg 3 ≤ mj_n (g 16) (f 15).toNatClampNeg 3 := by rw [hp807]; split <;> omega
            have hp8072 : (g 16 z798.toNatClampNeg).toInt = 3 → mj_n (g 16) z798.toNatClampNeg 3 + 1 ≤ mj_n (g 16) (f 15).toNatClampNeg 3 := fun q => by rw [hp807, if_pos q]; exact Int.le_refl _
            refine am_e35 hi_217_57 ?_
            show am_E _ _ _ _ [some (.ref 39), some (.int on), some (.int tw), some (.int 1)] [] _ _
            refine am_e2 (v := 39) hi_221_63 rfl ?_
            refine am_e0 hi_221_64 ?_
            refine am_e1 (v := on) hi_221_66 rfl ?_
            refine am_e0 hi_221_67 ?_
            refine am_e1 (v := tw) hi_221_68 rfl ?_
            refine am_e32n (as := [.ref 39, .int 24, .int on, .int 0, .int tw]) (la := [some (.ref 39), some (.int 24), some (.int on), some (.int 0), some (.int tw)]) (rest := []) hi_221_69 (am_hd0 (M := 221) (by decide) 69) (Nat.le_of_ble_eq_true rfl) (Nat.le_of_ble_eq_true rfl) (show 5 ≤ am_P0.2.2.1 189 from by decide +kernel) rfl (am_recv_ok hS806.fs) rfl rfl (ct_put (d := (d + 5)) hS806 hR  (by show (0 : Int) ≤ (f 32).toInt; omega) (by show (f 32).toInt ≤ (63 : Int); omega) (by show (f 53).toInt ≤ (4096 : Int); omega) (by show (0 : Int) ≤ (f 68).toInt; omega) (by show (f 68).toInt ≤ (65534 : Int); omega)) ?_
            rintro v808 S809 (⟨z810, r811, g'812, hv813, hS814, hR818, h815, h816, h817⟩)
            subst hv813
            have h815_ : z810.toInt = (f 68).toInt + 1 := h815
            have h816_ : r811.toInt = (f 68).toInt := h816
            have h817_ : ∀ j, j ∉ [60, 69, 70, 71, 72, 73] → g'812 j = (upg g 72 (g 17 z798.toNatClampNeg).toNatClampNeg z802) j := h817
            have hR818_ : RJ (upd (upd f 15 z798) 68 z810) g'812 gs bc [] 0 ((f 68).toNatClampNeg :: []) := hR818
            show am_E _ _ _ _ [some (.ref 39), some (.int on), some (.int tw), some (.int 1)] [.int r811] _ _
            refine am_e6i hi_221_72 ?_
            refine am_e18 hi_221_73 ?_
            refine am_e2 (v := 39) hi_221_90 rfl ?_
            refine am_e1 (v := on) hi_221_91 rfl ?_
            refine am_e32w (as := [.ref 39, .int on]) (la := [some (.ref 39), some (.int on)]) (rest := []) hi_221_92 (am_hd0 (M := 221) (by decide) 92) (Nat.le_of_ble_eq_true rfl) (Nat.le_of_ble_eq_true rfl) (show 2 ≤ am_P0.2.2.1 220 from by decide +kernel) rfl (am_recv_ok hS814.fs) rfl rfl ?_
            refine am_e2 (v := 39) hi_220_0 rfl ?_
            refine am_e32n (as := [.ref 39]) (la := [some (.ref 39)]) (rest := []) hi_220_1 (am_hd0 (M := 220) (by decide) 1) (Nat.le_of_ble_eq_true rfl) (Nat.le_of_ble_eq_true rfl) (show 1 ≤ am_P0.2.2.1 183 from by decide +kernel) rfl (am_recv_ok hS814.fs) rfl rfl (ct_next (d := (d + 3)) hS814   (by show (0 : Int) ≤ (f 4).toInt; omega) (by show (f 0).toInt ≤ (16384 : Int); omega)) ?_
            rintro v819 S820 (⟨r821, hv822, hS823, h824⟩)
            subst hv822
            have h824_ : (f 4).toInt < (f 0).toInt ∨ r821.toInt = (-1 : Int) := h824
            show am_E _ _ _ _ [some (.ref 39), some (.int on)] [.int r821] _ _
            refine am_e0 hi_220_4 ?_
            by_cases c826 : r821.toInt = (69 : Int)
            · refine am_e13t hi_220_6 (am_cT (m := r821.toInt) (n := (69 : Int)) rfl (by decide) c826) ?_
              refine am_e2 (v := 39) hi_220_18 rfl ?_
              refine am_e7 hi_220_19 ?_
              refine mm_20 (v := .int (f 4)) hS823 hi_220_20 rfl ?_
              refine am_e0 hi_220_23 ?_
              refine am_e10 (z := z701) hi_220_24 hz701 ?_
              refine mm_21 (v := z701) hS823 hi_220_25 rfl (Nat.le_of_ble_eq_true rfl) ms_4 ?_
              intro S827 hS828
              replace hS828 : MS S0 S827 (upd (upd (upd f 4 z701) 15 z798) 68 z810) g'812 := hS828
              have hR829 : RJ (upd (upd (upd f 4 z701) 15 z798) 68 z810) g'812 gs bc [] 0 ((f 68).toNatClampNeg :: []) := RJ.at hR818_ (by show (f 4).toInt ≤ z701.toInt; omega)
              refine am_e2 (v := 39) hi_220_28 rfl ?_
              refine am_e0 hi_220_29 ?_
              refine am_e1 (v := on) hi_220_31 rfl ?_
              refine am_e0 hi_220_32 ?_
              refine am_e0 hi_220_33 ?_
              refine am_e32n (as := [.ref 39, .int 35, .int on, .int 0, .int 0]) (la := [some (.ref 39), some (.int 35), some (.int on), some (.int 0), some (.int 0)]) (rest := []) hi_220_34 (am_hd0 (M := 220) (by decide) 34) (Nat.le_of_ble_eq_true rfl) (Nat.le_of_ble_eq_true rfl) (show 5 ≤ am_P0.2.2.1 179 from by decide +kernel) rfl (am_recv_ok hS828.fs) rfl rfl (ct_pile (d := (d + 4)) hS828 hR829 (mj_e_plain (by decide)) (by show (0 : Int) ≤ (f 10).toInt; omega) (by show (f 10).toInt ≤ (65535 : Int); omega)) ?_
              rintro v830 S831 (⟨z832, g'833, hv834, hS835, hR838, h836, h837⟩)
              subst hv834
              have h836_ : z832.toInt = (f 10).toInt + 1 := h836
              have h837_ : ∀ j, j ∉ [11, 12, 13, 14] → g'833 j = g'812 j := h837
              replace hS835 : MS S0 S831 (upd (upd (upd (upd f 4 z701) 10 z832) 15 z798) 68 z810) g'833 := hS835
              have hR838_ : RJ (upd (upd (upd (upd f 4 z701) 10 z832) 15 z798) 68 z810) g'833 (((35 : Int), on.toInt, (0 : Int), (0 : Int), []) :: gs) bc [] 0 ((f 68).toNatClampNeg :: []) := hR838
              show am_E _ _ _ _ [some (.ref 39), some (.int on)] [] _ _
              refine am_e18 hi_220_37 ?_
              refine am_e35 hi_220_47 ?_
              show am_E _ _ _ _ [some (.ref 39), some (.int on), some (.int tw), some (.int 1)] [] _ _
              refine am_e35 hi_221_95 ?_
              show am_E _ _ _ _ [some (.ref 39), some (.int 39), some (.int on), some (.int tw)] [] _ _
              refine am_e18 hi_181_366 ?_
              refine am_e35 hi_181_397 ?_
              show am_E _ _ _ _ [some (.ref 39), some (.int 39), some (.int on), some (.int tw), some (.int th)] [] _ _
              refine am_e35 hi_180_13 ?_
              have q1 : mg_p1 (((35 : Int), on.toInt, (0 : Int), (0 : Int), []) :: gs) = 0 + (mg_p1 gs) := rfl
              have q2 : mg_p2 (((35 : Int), on.toInt, (0 : Int), (0 : Int), []) :: gs) = 0 + (mg_p2 gs) := rfl
              have q3 : mg_p3 (((35 : Int), on.toInt, (0 : Int), (0 : Int), []) :: gs) = 3 + (mg_p3 gs) := rfl
              have q4 : mg_p4 (((35 : Int), on.toInt, (0 : Int), (0 : Int), []) :: gs) = 0 + (mg_p4 gs) := rfl
              refine ⟨_, _, _, bc, rfl, hS835, Or.inl ⟨⟨(RJ.fewer (pj' := []) hR838_ (fun _ h => nomatch h)), ?_, ?_⟩, rfl, ?_⟩⟩
              · exact (⟨⟨(show mg_k 35 from by decide), (show (0 : Int) ≤ z798.toInt from by omega), (show 0 ≤ (f 20).toInt from by omega), (show 1 ≤ (f 37).toInt from by omega), (show 0 ≤ (f 32).toInt from by omega), (show (f 32).toInt ≤ (f 5).toInt from by omega), (show (f 5).toInt ≤ 48 from by omega), (show (f 37).toInt ≤ 2 * ((f 5).toInt) + 2 from by omega), trivial⟩, mg_cast (mg_good_ext _ _ _ _ _ _ (fun i _ => by show g'833 34 i = g 34 i; rw [show g'833 34 = g'812 34 from h837_ 34 (by decide), show g'812 34 = g 34 from h817_ 34 (by decide)]) (fun i _ => by show g'833 38 i = g 38 i; rw [show g'833 38 = g'812 38 from h837_ 38 (by decide), show g'812 38 = g 38 from h817_ 38 (by decide)]) (fun i _ => by show g'833 23 i = g 23 i; rw [show g'833 23 = g'812 23 from h837_ 23 (by decide), show g'812 23 = g 23 from h817_ 23 (by decide)]) hrest) (by show (f 15).toInt + -1 = z798.toInt + 0; omega) (by show (f 20).toInt = (f 20).toInt; omega) (by show (f 37).toInt + 0 = (f 37).toInt + 0; omega) (by show (f 32).toInt + 0 = (f 32).toInt + 0; omega) (by show (f 5).toInt + -1 = (f 5).toInt + -1; omega)⟩ : mg_good (g'833 34) (g'833 38) (g'833 23) (((35 : Int), on.toInt, (0 : Int), (0 : Int), []) :: gs) (z798.toInt) ((f 20).toInt) ((f 37).toInt) ((f 32).toInt) ((f 5).toInt))
              · exact ⟨(by show 0 ≤ z701.toInt; omega), (by show z701.toInt ≤ (f 0).toInt; omega), (by show (f 0).toInt ≤ 512; omega), (by show 0 ≤ (f 24).toInt; omega), (by show (f 24).toInt + (f 20).toInt + mg_p1 (((35 : Int), on.toInt, (0 : Int), (0 : Int), []) :: gs) ≤ 4 * z701.toInt; omega), (by show (f 20).toInt ≤ z701.toInt; omega), (by show z798.toInt + mg_p2 (((35 : Int), on.toInt, (0 : Int), (0 : Int), []) :: gs) ≤ z701.toInt; omega), (by show mg_p3 (((35 : Int), on.toInt, (0 : Int), (0 : Int), []) :: gs) ≤ 20 * z701.toInt + 20; omega), (by show 0 ≤ z810.toInt; omega), (by show z810.toInt + 3 * (f 20).toInt + mg_p4 (((35 : Int), on.toInt, (0 : Int), (0 : Int), []) :: gs) ≤ 60 * z701.toInt + 60; omega), (by show 0 ≤ (f 62).toInt; omega), (by show (f 62).toInt + 64 * mj_n (g'833 16) z798.toNatClampNeg 3 ≤ 64 * z701.toInt; rw [show g'833 16 = g'812 16 from h837_ 16 (by decide), show g'812 16 = g 16 from h817_ 16 (by decide)]; omega), (by show 0 ≤ (f 44).toInt; omega), (by show (f 44).toInt ≤ z701.toInt; omega), (by show 0 ≤ (f 48).toInt; omega), (by show (f 48).toInt ≤ z701.toInt; omega), (by show 1 ≤ (f 53).toInt; omega), (by show (f 53).toInt ≤ z701.toInt + 1; omega), (by show 0 ≤ (f 19).toInt; omega), (by show (f 19).toInt ≤ 600; omega)⟩
              · show 100 * ((f 0).toInt - z701.toInt) + mg_p3 (((35 : Int), on.toInt, (0 : Int), (0 : Int), []) :: gs) < 100 * ((f 0).toInt - (f 4).toInt) + (1 + mg_p3 gs); omega
            · refine am_e13f hi_220_6 (am_cF (m := r821.toInt) (n := (69 : Int)) rfl (by decide) c826) ?_
              refine am_e2 (v := 39) hi_220_9 rfl ?_
              refine am_e32n (as := [.ref 39]) (la := [some (.ref 39)]) (rest := []) hi_220_10 (am_hd0 (M := 220) (by decide) 10) (Nat.le_of_ble_eq_true rfl) (Nat.le_of_ble_eq_true rfl) (show 1 ≤ am_P0.2.2.1 183 from by decide +kernel) rfl (am_recv_ok hS823.fs) rfl rfl (ct_next (d := (d + 3)) hS823   (by show (0 : Int) ≤ (f 4).toInt; omega) (by show (f 0).toInt ≤ (16384 : Int); omega)) ?_
              rintro v839 S840 (⟨r841, hv842, hS843, h844⟩)
              subst hv842
              have h844_ : (f 4).toInt < (f 0).toInt ∨ r841.toInt = (-1 : Int) := h844
              show am_E _ _ _ _ [some (.ref 39), some (.int on)] [.int r841] _ _
              refine am_e0 hi_220_13 ?_
              by_cases c846 : ¬ r841.toInt = (67 : Int)
              · refine am_e13t hi_220_15 (am_cT (m := r841.toInt) (n := (67 : Int)) rfl (by decide) c846) ?_
                refine am_e2 (v := 39) hi_220_40 rfl ?_
                refine am_e0 hi_220_41 ?_
                refine am_e32n (as := [.ref 39, .int 63]) (la := [some (.ref 39), some (.int 63)]) (rest := []) hi_220_43 (am_hd0 (M := 220) (by decide) 43) (Nat.le_of_ble_eq_true rfl) (Nat.le_of_ble_eq_true rfl) (show 2 ≤ am_P0.2.2.1 199 from by decide +kernel) rfl (am_recv_ok hS843.fs) rfl rfl (ct_leave (d := (d + 1)) hS843   (by show (0 : Int) ≤ (f 4).toInt; omega) (by show (f 0).toInt ≤ (16384 : Int); omega) (by show (0 : Int) ≤ (63 : Int); omega) (by show (0 : Int) ≤ (f 5).toInt; omega) (by show (f 5).toInt ≤ (48 : Int); omega)) ?_
                rintro v847 S848 (⟨z849, y850, hv851, hS852, h853, h854, h855⟩ | ⟨a857, b858, hv859, hS860⟩)
                · subst hv851
                  have h853_ : z849.toInt = (f 4).toInt + 1 := h853
                  have h854_ : (f 4).toInt < (f 0).toInt := h854
                  have h855_ : y850.toInt = (f 5).toInt - 1 := h855
                  replace hS852 : MS S0 S848 (upd (upd (upd (upd f 4 z849) 5 y850) 15 z798) 68 z810) g'812 := hS852
                  have hR862 : RJ (upd (upd (upd (upd f 4 z849) 5 y850) 15 z798) 68 z810) g'812 gs bc [] 0 ((f 68).toNatClampNeg :: []) := RJ.at hR818_ (by show (f 4).toInt ≤ z849.toInt; omega)
                  show am_E _ _ _ _ [some (.ref 39), some (.int on)] [.int 1] _ _
                  refine am_e6i hi_220_46 ?_
                  refine am_e35 hi_220_47 ?_
                  show am_E _ _ _ _ [some (.ref 39), some (.int on), some (.int tw), some (.int 1)] [] _ _
                  refine am_e35 hi_221_95 ?_
                  show am_E _ _ _ _ [some (.ref 39), some (.int 39), some (.int on), some (.int tw)] [] _ _
                  refine am_e18 hi_181_366 ?_
                  refine am_e35 hi_181_397 ?_
                  show am_E _ _ _ _ [some (.ref 39), some (.int 39), some (.int on), some (.int tw), some (.int th)] [] _ _
                  refine am_e35 hi_180_13 ?_
                  have q1 : mg_p1 gs = mg_p1 gs := rfl
                  have q2 : mg_p2 gs = mg_p2 gs := rfl
                  have q3 : mg_p3 gs = mg_p3 gs := rfl
                  have q4 : mg_p4 gs = mg_p4 gs := rfl
                  refine ⟨_, _, _, bc, rfl, hS852, Or.inl ⟨⟨(RJ.fewer (pj' := []) hR862 (fun _ h => nomatch h)), ?_, ?_⟩, rfl, ?_⟩⟩
                  · exact (mg_cast (mg_good_ext _ _ _ _ _ _ (fun i _ => by show g'812 34 i = g 34 i; rw [show g'812 34 = g 34 from h817_ 34 (by decide)]) (fun i _ => by show g'812 38 i = g 38 i; rw [show g'812 38 = g 38 from h817_ 38 (by decide)]) (fun i _ => by show g'812 23 i = g 23 i; rw [show g'812 23 = g 23 from h817_ 23 (by decide)]) hrest) (by show (f 15).toInt + -1 = z798.toInt; omega) (by show (f 20).toInt = (f 20).toInt; omega) (by show (f 37).toInt + 0 = (f 37).toInt; omega) (by show (f 32).toInt + 0 = (f 32).toInt; omega) (by show (f 5).toInt + -1 = y850.toInt; omega) : mg_good (g'812 34) (g'812 38) (g'812 23) gs (z798.toInt) ((f 20).toInt) ((f 37).toInt) ((f 32).toInt) (y850.toInt))
                  · exact ⟨(by show 0 ≤ z849.toInt; omega), (by show z849.toInt ≤ (f 0).toInt; omega), (by show (f 0).toInt ≤ 512; omega), (by show 0 ≤ (f 24).toInt; omega), (by show (f 24).toInt + (f 20).toInt + mg_p1 gs ≤ 4 * z849.toInt; omega), (by show (f 20).toInt ≤ z849.toInt; omega), (by show z798.toInt + mg_p2 gs ≤ z849.toInt; omega), (by show mg_p3 gs ≤ 20 * z849.toInt + 20; omega), (by show 0 ≤ z810.toInt; omega), (by show z810.toInt + 3 * (f 20).toInt + mg_p4 gs ≤ 60 * z849.toInt + 60; omega), (by show 0 ≤ (f 62).toInt; omega), (by show (f 62).toInt + 64 * mj_n (g'812 16) z798.toNatClampNeg 3 ≤ 64 * z849.toInt; rw [show g'812 16 = g 16 from h817_ 16 (by decide)]; omega), (by show 0 ≤ (f 44).toInt; omega), (by show (f 44).toInt ≤ z849.toInt; omega), (by show 0 ≤ (f 48).toInt; omega), (by show (f 48).toInt ≤ z849.toInt; omega), (by show 1 ≤ (f 53).toInt; omega), (by show (f 53).toInt ≤ z849.toInt + 1; omega), (by show 0 ≤ (f 19).toInt; omega), (by show (f 19).toInt ≤ 600; omega)⟩
                  · show 100 * ((f 0).toInt - z849.toInt) + mg_p3 gs < 100 * ((f 0).toInt - (f 4).toInt) + (1 + mg_p3 gs); omega
                · subst hv859
                  replace hS860 : MS S0 S848 (upd (upd (upd (upd (upd f 6 a857) 7 b858) 10 0) 15 z798) 68 z810) g'812 := hS860
                  have hR863 := rj_clear0 hR818_
                  have hR864 : RJ (upd (upd (upd (upd (upd f 6 a857) 7 b858) 10 0) 15 z798) 68 z810) g'812 [] bc [] 0 [] := hR863
                  show am_E _ _ _ _ [some (.ref 39), some (.int on)] [.int 0] _ _
                  refine am_e6i hi_220_46 ?_
                  refine am_e35 hi_220_47 ?_
                  show am_E _ _ _ _ [some (.ref 39), some (.int on), some (.int tw), some (.int 1)] [] _ _
                  refine am_e35 hi_221_95 ?_
                  show am_E _ _ _ _ [some (.ref 39), some (.int 39), some (.int on), some (.int tw)] [] _ _
                  refine am_e18 hi_181_366 ?_
                  refine am_e35 hi_181_397 ?_
                  show am_E _ _ _ _ [some (.ref 39), some (.int 39), some (.int on), some (.int tw), some (.int th)] [] _ _
                  refine am_e35 hi_180_13 ?_
                  have hRc := rj_clear0 hR864
                  refine ⟨_, _, [], _, rfl, hS860, Or.inr ⟨hRc, rfl, (by show 0 ≤ (f 4).toInt; omega), (by show (f 4).toInt ≤ (f 0).toInt; omega), (by show 0 ≤ (f 32).toInt; omega), (by show (f 32).toInt ≤ 63; omega), (by show 1 ≤ (f 53).toInt; omega), (by show (f 53).toInt ≤ 600; omega), (by show 0 ≤ z810.toInt; omega), (by show z810.toInt ≤ 60000; omega), (by show 0 ≤ (f 48).toInt; omega), (by show (f 48).toInt ≤ 8000; omega), (by show 0 ≤ (f 37).toInt; omega), (by show (f 37).toInt ≤ 128; omega), (by show 0 ≤ (f 62).toInt; omega), (by show (f 62).toInt ≤ 65000; omega), (by show 0 ≤ (f 19).toInt; omega), (by show (f 19).toInt ≤ 600; omega)⟩⟩
              · refine am_e13f hi_220_15 (am_cF (m := r841.toInt) (n := (67 : Int)) rfl (by decide) c846) ?_
                refine am_e2 (v := 39) hi_220_18 rfl ?_
                refine am_e7 hi_220_19 ?_
                refine mm_20 (v := .int (f 4)) hS843 hi_220_20 rfl ?_
                refine am_e0 hi_220_23 ?_
                refine am_e10 (z := z701) hi_220_24 hz701 ?_
                refine mm_21 (v := z701) hS843 hi_220_25 rfl (Nat.le_of_ble_eq_true rfl) ms_4 ?_
                intro S865 hS866
                replace hS866 : MS S0 S865 (upd (upd (upd f 4 z701) 15 z798) 68 z810) g'812 := hS866
                have hR867 : RJ (upd (upd (upd f 4 z701) 15 z798) 68 z810) g'812 gs bc [] 0 ((f 68).toNatClampNeg :: []) := RJ.at hR818_ (by show (f 4).toInt ≤ z701.toInt; omega)
                refine am_e2 (v := 39) hi_220_28 rfl ?_
                refine am_e0 hi_220_29 ?_
                refine am_e1 (v := on) hi_220_31 rfl ?_
                refine am_e0 hi_220_32 ?_
                refine am_e0 hi_220_33 ?_
                refine am_e32n (as := [.ref 39, .int 35, .int on, .int 0, .int 0]) (la := [some (.ref 39), some (.int 35), some (.int on), some (.int 0), some (.int 0)]) (rest := []) hi_220_34 (am_hd0 (M := 220) (by decide) 34) (Nat.le_of_ble_eq_true rfl) (Nat.le_of_ble_eq_true rfl) (show 5 ≤ am_P0.2.2.1 179 from by decide +kernel) rfl (am_recv_ok hS866.fs) rfl rfl (ct_pile (d := (d + 4)) hS866 hR867 (mj_e_plain (by decide)) (by show (0 : Int) ≤ (f 10).toInt; omega) (by show (f 10).toInt ≤ (65535 : Int); omega)) ?_
                rintro v868 S869 (⟨z870, g'871, hv872, hS873, hR876, h874, h875⟩)
                subst hv872
                have h874_ : z870.toInt = (f 10).toInt + 1 := h874
                have h875_ : ∀ j, j ∉ [11, 12, 13, 14] → g'871 j = g'812 j := h875
                replace hS873 : MS S0 S869 (upd (upd (upd (upd f 4 z701) 10 z870) 15 z798) 68 z810) g'871 := hS873
                have hR876_ : RJ (upd (upd (upd (upd f 4 z701) 10 z870) 15 z798) 68 z810) g'871 (((35 : Int), on.toInt, (0 : Int), (0 : Int), []) :: gs) bc [] 0 ((f 68).toNatClampNeg :: []) := hR876
                show am_E _ _ _ _ [some (.ref 39), some (.int on)] [] _ _
                refine am_e18 hi_220_37 ?_
                refine am_e35 hi_220_47 ?_
                show am_E _ _ _ _ [some (.ref 39), some (.int on), some (.int tw), some (.int 1)] [] _ _
                refine am_e35 hi_221_95 ?_
                show am_E _ _ _ _ [some (.ref 39), some (.int 39), some (.int on), some (.int tw)] [] _ _
                refine am_e18 hi_181_366 ?_
                refine am_e35 hi_181_397 ?_
                show am_E _ _ _ _ [some (.ref 39), some (.int 39), some (.int on), some (.int tw), some (.int th)] [] _ _
                refine am_e35 hi_180_13 ?_
                have q1 : mg_p1 (((35 : Int), on.toInt, (0 : Int), (0 : Int), []) :: gs) = 0 + (mg_p1 gs) := rfl
                have q2 : mg_p2 (((35 : Int), on.toInt, (0 : Int), (0 : Int), []) :: gs) = 0 + (mg_p2 gs) := rfl
                have q3 : mg_p3 (((35 : Int), on.toInt, (0 : Int), (0 : Int), []) :: gs) = 3 + (mg_p3 gs) := rfl
                have q4 : mg_p4 (((35 : Int), on.toInt, (0 : Int), (0 : Int), []) :: gs) = 0 + (mg_p4 gs) := rfl
                refine ⟨_, _, _, bc, rfl, hS873, Or.inl ⟨⟨(RJ.fewer (pj' := []) hR876_ (fun _ h => nomatch h)), ?_, ?_⟩, rfl, ?_⟩⟩
                · exact (⟨⟨(show mg_k 35 from by decide), (show (0 : Int) ≤ z798.toInt from by omega), (show 0 ≤ (f 20).toInt from by omega), (show 1 ≤ (f 37).toInt from by omega), (show 0 ≤ (f 32).toInt from by omega), (show (f 32).toInt ≤ (f 5).toInt from by omega), (show (f 5).toInt ≤ 48 from by omega), (show (f 37).toInt ≤ 2 * ((f 5).toInt) + 2 from by omega), trivial⟩, mg_cast (mg_good_ext _ _ _ _ _ _ (fun i _ => by show g'871 34 i = g 34 i; rw [show g'871 34 = g'812 34 from h875_ 34 (by decide), show g'812 34 = g 34 from h817_ 34 (by decide)]) (fun i _ => by show g'871 38 i = g 38 i; rw [show g'871 38 = g'812 38 from h875_ 38 (by decide), show g'812 38 = g 38 from h817_ 38 (by decide)]) (fun i _ => by show g'871 23 i = g 23 i; rw [show g'871 23 = g'812 23 from h875_ 23 (by decide), show g'812 23 = g 23 from h817_ 23 (by decide)]) hrest) (by show (f 15).toInt + -1 = z798.toInt + 0; omega) (by show (f 20).toInt = (f 20).toInt; omega) (by show (f 37).toInt + 0 = (f 37).toInt + 0; omega) (by show (f 32).toInt + 0 = (f 32).toInt + 0; omega) (by show (f 5).toInt + -1 = (f 5).toInt + -1; omega)⟩ : mg_good (g'871 34) (g'871 38) (g'871 23) (((35 : Int), on.toInt, (0 : Int), (0 : Int), []) :: gs) (z798.toInt) ((f 20).toInt) ((f 37).toInt) ((f 32).toInt) ((f 5).toInt))
                · exact ⟨(by show 0 ≤ z701.toInt; omega), (by show z701.toInt ≤ (f 0).toInt; omega), (by show (f 0).toInt ≤ 512; omega), (by show 0 ≤ (f 24).toInt; omega), (by show (f 24).toInt + (f 20).toInt + mg_p1 (((35 : Int), on.toInt, (0 : Int), (0 : Int), []) :: gs) ≤ 4 * z701.toInt; omega), (by show (f 20).toInt ≤ z701.toInt; omega), (by show z798.toInt + mg_p2 (((35 : Int), on.toInt, (0 : Int), (0 : Int), []) :: gs) ≤ z701.toInt; omega), (by show mg_p3 (((35 : Int), on.toInt, (0 : Int), (0 : Int), []) :: gs) ≤ 20 * z701.toInt + 20; omega), (by show 0 ≤ z810.toInt; omega), (by show z810.toInt + 3 * (f 20).toInt + mg_p4 (((35 : Int), on.toInt, (0 : Int), (0 : Int), []) :: gs) ≤ 60 * z701.toInt + 60; omega), (by show 0 ≤ (f 62).toInt; omega), (by show (f 62).toInt + 64 * mj_n (g'871 16) z798.toNatClampNeg 3 ≤ 64 * z701.toInt; rw [show g'871 16 = g'812 16 from h875_ 16 (by decide), show g'812 16 = g 16 from h817_ 16 (by decide)]; omega), (by show 0 ≤ (f 44).toInt; omega), (by show (f 44).toInt ≤ z701.toInt; omega), (by show 0 ≤ (f 48).toInt; omega), (by show (f 48).toInt ≤ z701.toInt; omega), (by show 1 ≤ (f 53).toInt; omega), (by show (f 53).toInt ≤ z701.toInt + 1; omega), (by show 0 ≤ (f 19).toInt; omega), (by show (f 19).toInt ≤ 600; omega)⟩
                · show 100 * ((f 0).toInt - z701.toInt) + mg_p3 (((35 : Int), on.toInt, (0 : Int), (0 : Int), []) :: gs) < 100 * ((f 0).toInt - (f 4).toInt) + (1 + mg_p3 gs); omega
          · refine am_e13f hi_216_12 (am_cF (m := (g 16 z798.toNatClampNeg).toInt) (n := (1 : Int)) rfl (by decide) c799) ?_
            refine am_e2 (v := 39) hi_216_15 rfl ?_
            refine mm_20 (v := .ref 46) hS706 hi_216_16 rfl ?_
            refine am_e2 (v := 39) hi_216_19 rfl ?_
            refine mm_20 (v := .int (f 15)) hS706 hi_216_20 rfl ?_
            refine am_e0 hi_216_23 ?_
            refine am_e10 (z := z798) hi_216_24 hz798 ?_
            refine mm_25 hS706 ma_16 hi_216_25 (by decide) (by omega) (by omega) ?_
            show am_E _ _ _ _ [some (.ref 39)] [.int (g 16 z798.toNatClampNeg)] _ _
            refine am_e0 hi_216_26 ?_
            by_cases c877 : ¬ (g 16 z798.toNatClampNeg).toInt = (2 : Int)
            · refine am_e13t hi_216_27 (am_cT (m := (g 16 z798.toNatClampNeg).toInt) (n := (2 : Int)) rfl (by decide) c877) ?_
              refine am_e0 hi_216_34 ?_
              refine am_e36 hi_216_35 (by decide) ?_
              show am_E _ _ _ _ [some (.ref 39), some (.int on), some (.int tw), some (.int 1)] [.int 0] _ _
              refine am_e12t hi_221_56 (by decide) ?_
              refine am_e2 (v := 39) hi_221_76 rfl ?_
              refine am_e32w (as := [.ref 39]) (la := [some (.ref 39)]) (rest := []) hi_221_77 (am_hd0 (M := 221) (by decide) 77) (Nat.le_of_ble_eq_true rfl) (Nat.le_of_ble_eq_true rfl) (show 1 ≤ am_P0.2.2.1 209 from by decide +kernel) rfl (am_recv_ok hS706.fs) rfl rfl ?_
              refine am_e2 (v := 39) hi_209_0 rfl ?_
              refine am_e32n (as := [.ref 39]) (la := [some (.ref 39), none, none, none]) (rest := []) hi_209_1 (am_hd0 (M := 209) (by decide) 1) (Nat.le_of_ble_eq_true rfl) (Nat.le_of_ble_eq_true rfl) (show 1 ≤ am_P0.2.2.1 204 from by decide +kernel) rfl (am_recv_ok hS706.fs) rfl rfl (ct_load (d := (d + 2)) hS706 hR  (by show (0 : Int) ≤ (f 32).toInt; omega) (by show (f 32).toInt ≤ (63 : Int); omega) (by show (f 53).toInt ≤ (4096 : Int); omega) (by show (0 : Int) ≤ (f 68).toInt; omega) (by show (f 68).toInt ≤ (65534 : Int); omega) (by show (1 : Int) ≤ (f 15).toInt; omega) (by show (f 15).toInt ≤ (32767 : Int); omega) (by show (0 : Int) ≤ (f 24).toInt; omega) (by show (f 24).toInt ≤ (16384 : Int); omega) (by show (0 : Int) ≤ (f 62).toInt; omega) (by show (f 62).toInt ≤ (65000 : Int); omega)) ?_
              rintro v878 S879 (⟨o880, s881, m882, g'883, hv884, hS885, hR892, h886, h887, h888, h889, h890, h891⟩)
              subst hv884
              have h886_ : (f 62).toInt ≤ o880.toInt := h886
              have h887_ : o880.toInt ≤ (f 62).toInt + 64 := h887
              have h888_ : (f 68).toInt ≤ s881.toInt := h888
              have h889_ : s881.toInt ≤ (f 68).toInt + 1 := h889
              have h890_ : o880.toInt + 64 * mj_n (g'883 16) (f 15).toNatClampNeg 3 ≤ (f 62).toInt + 64 * mj_n (g 16) (f 15).toNatClampNeg 3 := h890
              have h891_ : ∀ j, j ∉ [16, 60, 63, 64, 65, 66, 67, 69, 70, 71, 72, 73] → g'883 j = g j := h891
              have hR892_ : RJ (upd (upd (upd f 62 o880) 68 s881) 75 m882) g'883 gs bc [] 0 [] := hR892
              show am_E _ _ _ _ [some (.ref 39)] [] _ _
              refine am_e2 (v := 39) hi_209_4 rfl ?_
              refine am_e7 hi_209_5 ?_
              refine mm_20 (v := .int (f 15)) hS885 hi_209_6 rfl ?_
              refine am_e0 hi_209_9 ?_
              refine am_e10 (z := z798) hi_209_10 hz798 ?_
              refine mm_21 (v := z798) hS885 hi_209_11 rfl (Nat.le_of_ble_eq_true rfl) ms_15 ?_
              intro S893 hS894
              replace hS894 : MS S0 S893 (upd (upd (upd (upd f 15 z798) 62 o880) 68 s881) 75 m882) g'883 := hS894
              have hp895 : mj_n (g'883 16) (f 15).toNatClampNeg 3 = mj_n (g'883 16) z798.toNatClampNeg 3 + if (g'883 16 z798.toNatClampNeg).toInt = 3 then 1 else 0 := mj_pop (by rw [cl_toNat, cl_toNat]; omega)
              have hp8951 : mj_n (g'883 16) z798.toNatClampNeg 3 ≤ mj_n (g'883 16) (f 15).toNatClampNeg 3 := by rw [hp895]; split <;> omega
              have hp8952 : (g'883 16 z798.toNatClampNeg).toInt = 3 → mj_n (g'883 16) z798.toNatClampNeg 3 + 1 ≤ mj_n (g'883 16) (f 15).toNatClampNeg 3 := fun q => by rw [hp895, if_pos q]; exact Int.le_refl _
              refine am_e35 hi_209_14 ?_
              show am_E _ _ _ _ [some (.ref 39), some (.int on), some (.int tw), some (.int 1)] [] _ _
              refine am_e2 (v := 39) hi_221_80 rfl ?_
              refine am_e0 hi_221_81 ?_
              refine am_e1 (v := on) hi_221_83 rfl ?_
              refine am_e0 hi_221_84 ?_
              refine am_e1 (v := tw) hi_221_85 rfl ?_
              refine am_e32n (as := [.ref 39, .int 23, .int on, .int 0, .int tw]) (la := [some (.ref 39), some (.int 23), some (.int on), some (.int 0), some (.int tw)]) (rest := []) hi_221_86 (am_hd0 (M := 221) (by decide) 86) (Nat.le_of_ble_eq_true rfl) (Nat.le_of_ble_eq_true rfl) (show 5 ≤ am_P0.2.2.1 189 from by decide +kernel) rfl (am_recv_ok hS894.fs) rfl rfl (ct_put (d := (d + 5)) hS894 hR892_  (by show (0 : Int) ≤ (f 32).toInt; omega) (by show (f 32).toInt ≤ (63 : Int); omega) (by show (f 53).toInt ≤ (4096 : Int); omega) (by show (0 : Int) ≤ s881.toInt; omega) (by show s881.toInt ≤ (65534 : Int); omega)) ?_
              rintro v896 S897 (⟨z898, r899, g'900, hv901, hS902, hR906, h903, h904, h905⟩)
              subst hv901
              have h903_ : z898.toInt = s881.toInt + 1 := h903
              have h904_ : r899.toInt = s881.toInt := h904
              have h905_ : ∀ j, j ∉ [60, 69, 70, 71, 72, 73] → g'900 j = g'883 j := h905
              replace hS902 : MS S0 S897 (upd (upd (upd (upd f 15 z798) 62 o880) 68 z898) 75 m882) g'900 := hS902
              have hR906_ : RJ (upd (upd (upd (upd f 15 z798) 62 o880) 68 z898) 75 m882) g'900 gs bc [] 0 (s881.toNatClampNeg :: []) := hR906
              show am_E _ _ _ _ [some (.ref 39), some (.int on), some (.int tw), some (.int 1)] [.int r899] _ _
              refine am_e6i hi_221_89 ?_
              refine am_e2 (v := 39) hi_221_90 rfl ?_
              refine am_e1 (v := on) hi_221_91 rfl ?_
              refine am_e32w (as := [.ref 39, .int on]) (la := [some (.ref 39), some (.int on)]) (rest := []) hi_221_92 (am_hd0 (M := 221) (by decide) 92) (Nat.le_of_ble_eq_true rfl) (Nat.le_of_ble_eq_true rfl) (show 2 ≤ am_P0.2.2.1 220 from by decide +kernel) rfl (am_recv_ok hS902.fs) rfl rfl ?_
              refine am_e2 (v := 39) hi_220_0 rfl ?_
              refine am_e32n (as := [.ref 39]) (la := [some (.ref 39)]) (rest := []) hi_220_1 (am_hd0 (M := 220) (by decide) 1) (Nat.le_of_ble_eq_true rfl) (Nat.le_of_ble_eq_true rfl) (show 1 ≤ am_P0.2.2.1 183 from by decide +kernel) rfl (am_recv_ok hS902.fs) rfl rfl (ct_next (d := (d + 3)) hS902   (by show (0 : Int) ≤ (f 4).toInt; omega) (by show (f 0).toInt ≤ (16384 : Int); omega)) ?_
              rintro v907 S908 (⟨r909, hv910, hS911, h912⟩)
              subst hv910
              have h912_ : (f 4).toInt < (f 0).toInt ∨ r909.toInt = (-1 : Int) := h912
              show am_E _ _ _ _ [some (.ref 39), some (.int on)] [.int r909] _ _
              refine am_e0 hi_220_4 ?_
              by_cases c914 : r909.toInt = (69 : Int)
              · refine am_e13t hi_220_6 (am_cT (m := r909.toInt) (n := (69 : Int)) rfl (by decide) c914) ?_
                refine am_e2 (v := 39) hi_220_18 rfl ?_
                refine am_e7 hi_220_19 ?_
                refine mm_20 (v := .int (f 4)) hS911 hi_220_20 rfl ?_
                refine am_e0 hi_220_23 ?_
                refine am_e10 (z := z701) hi_220_24 hz701 ?_
                refine mm_21 (v := z701) hS911 hi_220_25 rfl (Nat.le_of_ble_eq_true rfl) ms_4 ?_
                intro S915 hS916
                replace hS916 : MS S0 S915 (upd (upd (upd (upd (upd f 4 z701) 15 z798) 62 o880) 68 z898) 75 m882) g'900 := hS916
                have hR917 : RJ (upd (upd (upd (upd (upd f 4 z701) 15 z798) 62 o880) 68 z898) 75 m882) g'900 gs bc [] 0 (s881.toNatClampNeg :: []) := RJ.at hR906_ (by show (f 4).toInt ≤ z701.toInt; omega)
                refine am_e2 (v := 39) hi_220_28 rfl ?_
                refine am_e0 hi_220_29 ?_
                refine am_e1 (v := on) hi_220_31 rfl ?_
                refine am_e0 hi_220_32 ?_
                refine am_e0 hi_220_33 ?_
                refine am_e32n (as := [.ref 39, .int 35, .int on, .int 0, .int 0]) (la := [some (.ref 39), some (.int 35), some (.int on), some (.int 0), some (.int 0)]) (rest := []) hi_220_34 (am_hd0 (M := 220) (by decide) 34) (Nat.le_of_ble_eq_true rfl) (Nat.le_of_ble_eq_true rfl) (show 5 ≤ am_P0.2.2.1 179 from by decide +kernel) rfl (am_recv_ok hS916.fs) rfl rfl (ct_pile (d := (d + 4)) hS916 hR917 (mj_e_plain (by decide)) (by show (0 : Int) ≤ (f 10).toInt; omega) (by show (f 10).toInt ≤ (65535 : Int); omega)) ?_
                rintro v918 S919 (⟨z920, g'921, hv922, hS923, hR926, h924, h925⟩)
                subst hv922
                have h924_ : z920.toInt = (f 10).toInt + 1 := h924
                have h925_ : ∀ j, j ∉ [11, 12, 13, 14] → g'921 j = g'900 j := h925
                replace hS923 : MS S0 S919 (upd (upd (upd (upd (upd (upd f 4 z701) 10 z920) 15 z798) 62 o880) 68 z898) 75 m882) g'921 := hS923
                have hR926_ : RJ (upd (upd (upd (upd (upd (upd f 4 z701) 10 z920) 15 z798) 62 o880) 68 z898) 75 m882) g'921 (((35 : Int), on.toInt, (0 : Int), (0 : Int), []) :: gs) bc [] 0 (s881.toNatClampNeg :: []) := hR926
                show am_E _ _ _ _ [some (.ref 39), some (.int on)] [] _ _
                refine am_e18 hi_220_37 ?_
                refine am_e35 hi_220_47 ?_
                show am_E _ _ _ _ [some (.ref 39), some (.int on), some (.int tw), some (.int 1)] [] _ _
                refine am_e35 hi_221_95 ?_
                show am_E _ _ _ _ [some (.ref 39), some (.int 39), some (.int on), some (.int tw)] [] _ _
                refine am_e18 hi_181_366 ?_
                refine am_e35 hi_181_397 ?_
                show am_E _ _ _ _ [some (.ref 39), some (.int 39), some (.int on), some (.int tw), some (.int th)] [] _ _
                refine am_e35 hi_180_13 ?_
                have q1 : mg_p1 (((35 : Int), on.toInt, (0 : Int), (0 : Int), []) :: gs) = 0 + (mg_p1 gs) := rfl
                have q2 : mg_p2 (((35 : Int), on.toInt, (0 : Int), (0 : Int), []) :: gs) = 0 + (mg_p2 gs) := rfl
                have q3 : mg_p3 (((35 : Int), on.toInt, (0 : Int), (0 : Int), []) :: gs) = 3 + (mg_p3 gs) := rfl
                have q4 : mg_p4 (((35 : Int), on.toInt, (0 : Int), (0 : Int), []) :: gs) = 0 + (mg_p4 gs) := rfl
                refine ⟨_, _, _, bc, rfl, hS923, Or.inl ⟨⟨(RJ.fewer (pj' := []) hR926_ (fun _ h => nomatch h)), ?_, ?_⟩, rfl, ?_⟩⟩
                · exact (⟨⟨(show mg_k 35 from by decide), (show (0 : Int) ≤ z798.toInt from by omega), (show 0 ≤ (f 20).toInt from by omega), (show 1 ≤ (f 37).toInt from by omega), (show 0 ≤ (f 32).toInt from by omega), (show (f 32).toInt ≤ (f 5).toInt from by omega), (show (f 5).toInt ≤ 48 from by omega), (show (f 37).toInt ≤ 2 * ((f 5).toInt) + 2 from by omega), trivial⟩, mg_cast (mg_good_ext _ _ _ _ _ _ (fun i _ => by show g'921 34 i = g 34 i; rw [show g'921 34 = g'900 34 from h925_ 34 (by decide), show g'900 34 = g'883 34 from h905_ 34 (by decide), show g'883 34 = g 34 from h891_ 34 (by decide)]) (fun i _ => by show g'921 38 i = g 38 i; rw [show g'921 38 = g'900 38 from h925_ 38 (by decide), show g'900 38 = g'883 38 from h905_ 38 (by decide), show g'883 38 = g 38 from h891_ 38 (by decide)]) (fun i _ => by show g'921 23 i = g 23 i; rw [show g'921 23 = g'900 23 from h925_ 23 (by decide), show g'900 23 = g'883 23 from h905_ 23 (by decide), show g'883 23 = g 23 from h891_ 23 (by decide)]) hrest) (by show (f 15).toInt + -1 = z798.toInt + 0; omega) (by show (f 20).toInt = (f 20).toInt; omega) (by show (f 37).toInt + 0 = (f 37).toInt + 0; omega) (by show (f 32).toInt + 0 = (f 32).toInt + 0; omega) (by show (f 5).toInt + -1 = (f 5).toInt + -1; omega)⟩ : mg_good (g'921 34) (g'921 38) (g'921 23) (((35 : Int), on.toInt, (0 : Int), (0 : Int), []) :: gs) (z798.toInt) ((f 20).toInt) ((f 37).toInt) ((f 32).toInt) ((f 5).toInt))
                · exact ⟨(by show 0 ≤ z701.toInt; omega), (by show z701.toInt ≤ (f 0).toInt; omega), (by show (f 0).toInt ≤ 512; omega), (by show 0 ≤ (f 24).toInt; omega), (by show (f 24).toInt + (f 20).toInt + mg_p1 (((35 : Int), on.toInt, (0 : Int), (0 : Int), []) :: gs) ≤ 4 * z701.toInt; omega), (by show (f 20).toInt ≤ z701.toInt; omega), (by show z798.toInt + mg_p2 (((35 : Int), on.toInt, (0 : Int), (0 : Int), []) :: gs) ≤ z701.toInt; omega), (by show mg_p3 (((35 : Int), on.toInt, (0 : Int), (0 : Int), []) :: gs) ≤ 20 * z701.toInt + 20; omega), (by show 0 ≤ z898.toInt; omega), (by show z898.toInt + 3 * (f 20).toInt + mg_p4 (((35 : Int), on.toInt, (0 : Int), (0 : Int), []) :: gs) ≤ 60 * z701.toInt + 60; omega), (by show 0 ≤ o880.toInt; omega), (by show o880.toInt + 64 * mj_n (g'921 16) z798.toNatClampNeg 3 ≤ 64 * z701.toInt; rw [show g'921 16 = g'900 16 from h925_ 16 (by decide), show g'900 16 = g'883 16 from h905_ 16 (by decide)]; omega), (by show 0 ≤ (f 44).toInt; omega), (by show (f 44).toInt ≤ z701.toInt; omega), (by show 0 ≤ (f 48).toInt; omega), (by show (f 48).toInt ≤ z701.toInt; omega), (by show 1 ≤ (f 53).toInt; omega), (by show (f 53).toInt ≤ z701.toInt + 1; omega), (by show 0 ≤ (f 19).toInt; omega), (by show (f 19).toInt ≤ 600; omega)⟩
                · show 100 * ((f 0).toInt - z701.toInt) + mg_p3 (((35 : Int), on.toInt, (0 : Int), (0 : Int), []) :: gs) < 100 * ((f 0).toInt - (f 4).toInt) + (1 + mg_p3 gs); omega
              · refine am_e13f hi_220_6 (am_cF (m := r909.toInt) (n := (69 : Int)) rfl (by decide) c914) ?_
                refine am_e2 (v := 39) hi_220_9 rfl ?_
                refine am_e32n (as := [.ref 39]) (la := [some (.ref 39)]) (rest := []) hi_220_10 (am_hd0 (M := 220) (by decide) 10) (Nat.le_of_ble_eq_true rfl) (Nat.le_of_ble_eq_true rfl) (show 1 ≤ am_P0.2.2.1 183 from by decide +kernel) rfl (am_recv_ok hS911.fs) rfl rfl (ct_next (d := (d + 3)) hS911   (by show (0 : Int) ≤ (f 4).toInt; omega) (by show (f 0).toInt ≤ (16384 : Int); omega)) ?_
                rintro v927 S928 (⟨r929, hv930, hS931, h932⟩)
                subst hv930
                have h932_ : (f 4).toInt < (f 0).toInt ∨ r929.toInt = (-1 : Int) := h932
                show am_E _ _ _ _ [some (.ref 39), some (.int on)] [.int r929] _ _
                refine am_e0 hi_220_13 ?_
                by_cases c934 : ¬ r929.toInt = (67 : Int)
                · refine am_e13t hi_220_15 (am_cT (m := r929.toInt) (n := (67 : Int)) rfl (by decide) c934) ?_
                  refine am_e2 (v := 39) hi_220_40 rfl ?_
                  refine am_e0 hi_220_41 ?_
                  refine am_e32n (as := [.ref 39, .int 63]) (la := [some (.ref 39), some (.int 63)]) (rest := []) hi_220_43 (am_hd0 (M := 220) (by decide) 43) (Nat.le_of_ble_eq_true rfl) (Nat.le_of_ble_eq_true rfl) (show 2 ≤ am_P0.2.2.1 199 from by decide +kernel) rfl (am_recv_ok hS931.fs) rfl rfl (ct_leave (d := (d + 1)) hS931   (by show (0 : Int) ≤ (f 4).toInt; omega) (by show (f 0).toInt ≤ (16384 : Int); omega) (by show (0 : Int) ≤ (63 : Int); omega) (by show (0 : Int) ≤ (f 5).toInt; omega) (by show (f 5).toInt ≤ (48 : Int); omega)) ?_
                  rintro v935 S936 (⟨z937, y938, hv939, hS940, h941, h942, h943⟩ | ⟨a945, b946, hv947, hS948⟩)
                  · subst hv939
                    have h941_ : z937.toInt = (f 4).toInt + 1 := h941
                    have h942_ : (f 4).toInt < (f 0).toInt := h942
                    have h943_ : y938.toInt = (f 5).toInt - 1 := h943
                    replace hS940 : MS S0 S936 (upd (upd (upd (upd (upd (upd f 4 z937) 5 y938) 15 z798) 62 o880) 68 z898) 75 m882) g'900 := hS940
                    have hR950 : RJ (upd (upd (upd (upd (upd (upd f 4 z937) 5 y938) 15 z798) 62 o880) 68 z898) 75 m882) g'900 gs bc [] 0 (s881.toNatClampNeg :: []) := RJ.at hR906_ (by show (f 4).toInt ≤ z937.toInt; omega)
                    show am_E _ _ _ _ [some (.ref 39), some (.int on)] [.int 1] _ _
                    refine am_e6i hi_220_46 ?_
                    refine am_e35 hi_220_47 ?_
                    show am_E _ _ _ _ [some (.ref 39), some (.int on), some (.int tw), some (.int 1)] [] _ _
                    refine am_e35 hi_221_95 ?_
                    show am_E _ _ _ _ [some (.ref 39), some (.int 39), some (.int on), some (.int tw)] [] _ _
                    refine am_e18 hi_181_366 ?_
                    refine am_e35 hi_181_397 ?_
                    show am_E _ _ _ _ [some (.ref 39), some (.int 39), some (.int on), some (.int tw), some (.int th)] [] _ _
                    refine am_e35 hi_180_13 ?_
                    have q1 : mg_p1 gs = mg_p1 gs := rfl
                    have q2 : mg_p2 gs = mg_p2 gs := rfl
                    have q3 : mg_p3 gs = mg_p3 gs := rfl
                    have q4 : mg_p4 gs = mg_p4 gs := rfl
                    refine ⟨_, _, _, bc, rfl, hS940, Or.inl ⟨⟨(RJ.fewer (pj' := []) hR950 (fun _ h => nomatch h)), ?_, ?_⟩, rfl, ?_⟩⟩
                    · exact (mg_cast (mg_good_ext _ _ _ _ _ _ (fun i _ => by show g'900 34 i = g 34 i; rw [show g'900 34 = g'883 34 from h905_ 34 (by decide), show g'883 34 = g 34 from h891_ 34 (by decide)]) (fun i _ => by show g'900 38 i = g 38 i; rw [show g'900 38 = g'883 38 from h905_ 38 (by decide), show g'883 38 = g 38 from h891_ 38 (by decide)]) (fun i _ => by show g'900 23 i = g 23 i; rw [show g'900 23 = g'883 23 from h905_ 23 (by decide), show g'883 23 = g 23 from h891_ 23 (by decide)]) hrest) (by show (f 15).toInt + -1 = z798.toInt; omega) (by show (f 20).toInt = (f 20).toInt; omega) (by show (f 37).toInt + 0 = (f 37).toInt; omega) (by show (f 32).toInt + 0 = (f 32).toInt; omega) (by show (f 5).toInt + -1 = y938.toInt; omega) : mg_good (g'900 34) (g'900 38) (g'900 23) gs (z798.toInt) ((f 20).toInt) ((f 37).toInt) ((f 32).toInt) (y938.toInt))
                    · exact ⟨(by show 0 ≤ z937.toInt; omega), (by show z937.toInt ≤ (f 0).toInt; omega), (by show (f 0).toInt ≤ 512; omega), (by show 0 ≤ (f 24).toInt; omega), (by show (f 24).toInt + (f 20).toInt + mg_p1 gs ≤ 4 * z937.toInt; omega), (by show (f 20).toInt ≤ z937.toInt; omega), (by show z798.toInt + mg_p2 gs ≤ z937.toInt; omega), (by show mg_p3 gs ≤ 20 * z937.toInt + 20; omega), (by show 0 ≤ z898.toInt; omega), (by show z898.toInt + 3 * (f 20).toInt + mg_p4 gs ≤ 60 * z937.toInt + 60; omega), (by show 0 ≤ o880.toInt; omega), (by show o880.toInt + 64 * mj_n (g'900 16) z798.toNatClampNeg 3 ≤ 64 * z937.toInt; rw [show g'900 16 = g'883 16 from h905_ 16 (by decide)]; omega), (by show 0 ≤ (f 44).toInt; omega), (by show (f 44).toInt ≤ z937.toInt; omega), (by show 0 ≤ (f 48).toInt; omega), (by show (f 48).toInt ≤ z937.toInt; omega), (by show 1 ≤ (f 53).toInt; omega), (by show (f 53).toInt ≤ z937.toInt + 1; omega), (by show 0 ≤ (f 19).toInt; omega), (by show (f 19).toInt ≤ 600; omega)⟩
                    · show 100 * ((f 0).toInt - z937.toInt) + mg_p3 gs < 100 * ((f 0).toInt - (f 4).toInt) + (1 + mg_p3 gs); omega
                  · subst hv947
                    replace hS948 : MS S0 S936 (upd (upd (upd (upd (upd (upd (upd f 6 a945) 7 b946) 10 0) 15 z798) 62 o880) 68 z898) 75 m882) g'900 := hS948
                    have hR951 := rj_clear0 hR906_
                    have hR952 : RJ (upd (upd (upd (upd (upd (upd (upd f 6 a945) 7 b946) 10 0) 15 z798) 62 o880) 68 z898) 75 m882) g'900 [] bc [] 0 [] := hR951
                    show am_E _ _ _ _ [some (.ref 39), some (.int on)] [.int 0] _ _
                    refine am_e6i hi_220_46 ?_
                    refine am_e35 hi_220_47 ?_
                    show am_E _ _ _ _ [some (.ref 39), some (.int on), some (.int tw), some (.int 1)] [] _ _
                    refine am_e35 hi_221_95 ?_
                    show am_E _ _ _ _ [some (.ref 39), some (.int 39), some (.int on), some (.int tw)] [] _ _
                    refine am_e18 hi_181_366 ?_
                    refine am_e35 hi_181_397 ?_
                    show am_E _ _ _ _ [some (.ref 39), some (.int 39), some (.int on), some (.int tw), some (.int th)] [] _ _
                    refine am_e35 hi_180_13 ?_
                    have hRc := rj_clear0 hR952
                    refine ⟨_, _, [], _, rfl, hS948, Or.inr ⟨hRc, rfl, (by show 0 ≤ (f 4).toInt; omega), (by show (f 4).toInt ≤ (f 0).toInt; omega), (by show 0 ≤ (f 32).toInt; omega), (by show (f 32).toInt ≤ 63; omega), (by show 1 ≤ (f 53).toInt; omega), (by show (f 53).toInt ≤ 600; omega), (by show 0 ≤ z898.toInt; omega), (by show z898.toInt ≤ 60000; omega), (by show 0 ≤ (f 48).toInt; omega), (by show (f 48).toInt ≤ 8000; omega), (by show 0 ≤ (f 37).toInt; omega), (by show (f 37).toInt ≤ 128; omega), (by show 0 ≤ o880.toInt; omega), (by show o880.toInt ≤ 65000; omega), (by show 0 ≤ (f 19).toInt; omega), (by show (f 19).toInt ≤ 600; omega)⟩⟩
                · refine am_e13f hi_220_15 (am_cF (m := r929.toInt) (n := (67 : Int)) rfl (by decide) c934) ?_
                  refine am_e2 (v := 39) hi_220_18 rfl ?_
                  refine am_e7 hi_220_19 ?_
                  refine mm_20 (v := .int (f 4)) hS931 hi_220_20 rfl ?_
                  refine am_e0 hi_220_23 ?_
                  refine am_e10 (z := z701) hi_220_24 hz701 ?_
                  refine mm_21 (v := z701) hS931 hi_220_25 rfl (Nat.le_of_ble_eq_true rfl) ms_4 ?_
                  intro S953 hS954
                  replace hS954 : MS S0 S953 (upd (upd (upd (upd (upd f 4 z701) 15 z798) 62 o880) 68 z898) 75 m882) g'900 := hS954
                  have hR955 : RJ (upd (upd (upd (upd (upd f 4 z701) 15 z798) 62 o880) 68 z898) 75 m882) g'900 gs bc [] 0 (s881.toNatClampNeg :: []) := RJ.at hR906_ (by show (f 4).toInt ≤ z701.toInt; omega)
                  refine am_e2 (v := 39) hi_220_28 rfl ?_
                  refine am_e0 hi_220_29 ?_
                  refine am_e1 (v := on) hi_220_31 rfl ?_
                  refine am_e0 hi_220_32 ?_
                  refine am_e0 hi_220_33 ?_
                  refine am_e32n (as := [.ref 39, .int 35, .int on, .int 0, .int 0]) (la := [some (.ref 39), some (.int 35), some (.int on), some (.int 0), some (.int 0)]) (rest := []) hi_220_34 (am_hd0 (M := 220) (by decide) 34) (Nat.le_of_ble_eq_true rfl) (Nat.le_of_ble_eq_true rfl) (show 5 ≤ am_P0.2.2.1 179 from by decide +kernel) rfl (am_recv_ok hS954.fs) rfl rfl (ct_pile (d := (d + 4)) hS954 hR955 (mj_e_plain (by decide)) (by show (0 : Int) ≤ (f 10).toInt; omega) (by show (f 10).toInt ≤ (65535 : Int); omega)) ?_
                  rintro v956 S957 (⟨z958, g'959, hv960, hS961, hR964, h962, h963⟩)
                  subst hv960
                  have h962_ : z958.toInt = (f 10).toInt + 1 := h962
                  have h963_ : ∀ j, j ∉ [11, 12, 13, 14] → g'959 j = g'900 j := h963
                  replace hS961 : MS S0 S957 (upd (upd (upd (upd (upd (upd f 4 z701) 10 z958) 15 z798) 62 o880) 68 z898) 75 m882) g'959 := hS961
                  have hR964_ : RJ (upd (upd (upd (upd (upd (upd f 4 z701) 10 z958) 15 z798) 62 o880) 68 z898) 75 m882) g'959 (((35 : Int), on.toInt, (0 : Int), (0 : Int), []) :: gs) bc [] 0 (s881.toNatClampNeg :: []) := hR964
                  show am_E _ _ _ _ [some (.ref 39), some (.int on)] [] _ _
                  refine am_e18 hi_220_37 ?_
                  refine am_e35 hi_220_47 ?_
                  show am_E _ _ _ _ [some (.ref 39), some (.int on), some (.int tw), some (.int 1)] [] _ _
                  refine am_e35 hi_221_95 ?_
                  show am_E _ _ _ _ [some (.ref 39), some (.int 39), some (.int on), some (.int tw)] [] _ _
                  refine am_e18 hi_181_366 ?_
                  refine am_e35 hi_181_397 ?_
                  show am_E _ _ _ _ [some (.ref 39), some (.int 39), some (.int on), some (.int tw), some (.int th)] [] _ _
                  refine am_e35 hi_180_13 ?_
                  have q1 : mg_p1 (((35 : Int), on.toInt, (0 : Int), (0 : Int), []) :: gs) = 0 + (mg_p1 gs) := rfl
                  have q2 : mg_p2 (((35 : Int), on.toInt, (0 : Int), (0 : Int), []) :: gs) = 0 + (mg_p2 gs) := rfl
                  have q3 : mg_p3 (((35 : Int), on.toInt, (0 : Int), (0 : Int), []) :: gs) = 3 + (mg_p3 gs) := rfl
                  have q4 : mg_p4 (((35 : Int), on.toInt, (0 : Int), (0 : Int), []) :: gs) = 0 + (mg_p4 gs) := rfl
                  refine ⟨_, _, _, bc, rfl, hS961, Or.inl ⟨⟨(RJ.fewer (pj' := []) hR964_ (fun _ h => nomatch h)), ?_, ?_⟩, rfl, ?_⟩⟩
                  · exact (⟨⟨(show mg_k 35 from by decide), (show (0 : Int) ≤ z798.toInt from by omega), (show 0 ≤ (f 20).toInt from by omega), (show 1 ≤ (f 37).toInt from by omega), (show 0 ≤ (f 32).toInt from by omega), (show (f 32).toInt ≤ (f 5).toInt from by omega), (show (f 5).toInt ≤ 48 from by omega), (show (f 37).toInt ≤ 2 * ((f 5).toInt) + 2 from by omega), trivial⟩, mg_cast (mg_good_ext _ _ _ _ _ _ (fun i _ => by show g'959 34 i = g 34 i; rw [show g'959 34 = g'900 34 from h963_ 34 (by decide), show g'900 34 = g'883 34 from h905_ 34 (by decide), show g'883 34 = g 34 from h891_ 34 (by decide)]) (fun i _ => by show g'959 38 i = g 38 i; rw [show g'959 38 = g'900 38 from h963_ 38 (by decide), show g'900 38 = g'883 38 from h905_ 38 (by decide), show g'883 38 = g 38 from h891_ 38 (by decide)]) (fun i _ => by show g'959 23 i = g 23 i; rw [show g'959 23 = g'900 23 from h963_ 23 (by decide), show g'900 23 = g'883 23 from h905_ 23 (by decide), show g'883 23 = g 23 from h891_ 23 (by decide)]) hrest) (by show (f 15).toInt + -1 = z798.toInt + 0; omega) (by show (f 20).toInt = (f 20).toInt; omega) (by show (f 37).toInt + 0 = (f 37).toInt + 0; omega) (by show (f 32).toInt + 0 = (f 32).toInt + 0; omega) (by show (f 5).toInt + -1 = (f 5).toInt + -1; omega)⟩ : mg_good (g'959 34) (g'959 38) (g'959 23) (((35 : Int), on.toInt, (0 : Int), (0 : Int), []) :: gs) (z798.toInt) ((f 20).toInt) ((f 37).toInt) ((f 32).toInt) ((f 5).toInt))
                  · exact ⟨(by show 0 ≤ z701.toInt; omega), (by show z701.toInt ≤ (f 0).toInt; omega), (by show (f 0).toInt ≤ 512; omega), (by show 0 ≤ (f 24).toInt; omega), (by show (f 24).toInt + (f 20).toInt + mg_p1 (((35 : Int), on.toInt, (0 : Int), (0 : Int), []) :: gs) ≤ 4 * z701.toInt; omega), (by show (f 20).toInt ≤ z701.toInt; omega), (by show z798.toInt + mg_p2 (((35 : Int), on.toInt, (0 : Int), (0 : Int), []) :: gs) ≤ z701.toInt; omega), (by show mg_p3 (((35 : Int), on.toInt, (0 : Int), (0 : Int), []) :: gs) ≤ 20 * z701.toInt + 20; omega), (by show 0 ≤ z898.toInt; omega), (by show z898.toInt + 3 * (f 20).toInt + mg_p4 (((35 : Int), on.toInt, (0 : Int), (0 : Int), []) :: gs) ≤ 60 * z701.toInt + 60; omega), (by show 0 ≤ o880.toInt; omega), (by show o880.toInt + 64 * mj_n (g'959 16) z798.toNatClampNeg 3 ≤ 64 * z701.toInt; rw [show g'959 16 = g'900 16 from h963_ 16 (by decide), show g'900 16 = g'883 16 from h905_ 16 (by decide)]; omega), (by show 0 ≤ (f 44).toInt; omega), (by show (f 44).toInt ≤ z701.toInt; omega), (by show 0 ≤ (f 48).toInt; omega), (by show (f 48).toInt ≤ z701.toInt; omega), (by show 1 ≤ (f 53).toInt; omega), (by show (f 53).toInt ≤ z701.toInt + 1; omega), (by show 0 ≤ (f 19).toInt; omega), (by show (f 19).toInt ≤ 600; omega)⟩
                  · show 100 * ((f 0).toInt - z701.toInt) + mg_p3 (((35 : Int), on.toInt, (0 : Int), (0 : Int), []) :: gs) < 100 * ((f 0).toInt - (f 4).toInt) + (1 + mg_p3 gs); omega
            · refine am_e13f hi_216_27 (am_cF (m := (g 16 z798.toNatClampNeg).toInt) (n := (2 : Int)) rfl (by decide) c877) ?_
              refine am_e0 hi_216_30 ?_
              refine am_e18 hi_216_31 ?_
              refine am_e36 hi_216_35 (by decide) ?_
              show am_E _ _ _ _ [some (.ref 39), some (.int on), some (.int tw), some (.int 1)] [.int 1] _ _
              refine am_e12f hi_221_56 (by decide) ?_
              refine am_e2 (v := 39) hi_221_59 rfl ?_
              refine am_e32w (as := [.ref 39]) (la := [some (.ref 39), none]) (rest := []) hi_221_60 (am_hd0 (M := 221) (by decide) 60) (Nat.le_of_ble_eq_true rfl) (Nat.le_of_ble_eq_true rfl) (show 1 ≤ am_P0.2.2.1 217 from by decide +kernel) rfl (am_recv_ok hS706.fs) rfl rfl ?_
              refine am_e2 (v := 39) hi_217_0 rfl ?_
              refine mm_20 (v := .ref 47) hS706 hi_217_1 rfl ?_
              refine am_e2 (v := 39) hi_217_4 rfl ?_
              refine mm_20 (v := .int (f 15)) hS706 hi_217_5 rfl ?_
              refine am_e0 hi_217_8 ?_
              refine am_e10 (z := z798) hi_217_9 hz798 ?_
              refine mm_25 hS706 ma_17 hi_217_10 (by decide) (by omega) (by omega) ?_
              show am_E _ _ _ _ [some (.ref 39), none] [.int (g 17 z798.toNatClampNeg)] _ _
              have r965 : (g 16 z798.toNatClampNeg).toInt = 1 ∨ (g 16 z798.toNatClampNeg).toInt = 2 → 0 ≤ (g 17 z798.toNatClampNeg).toInt ∧ (g 17 z798.toNatClampNeg).toInt < 65536 := RJ.vc hR z798.toNatClampNeg
              refine am_e3 (ls' := [some (.ref 39), some (.int (g 17 z798.toNatClampNeg))]) hi_217_11 (Nat.le_of_ble_eq_true rfl) rfl ?_
              refine am_e2 (v := 39) hi_217_12 rfl ?_
              refine mm_20 (v := .ref 91) hS706 hi_217_13 rfl ?_
              refine am_e1 (v := g 17 z798.toNatClampNeg) hi_217_16 rfl ?_
              refine am_e2 (v := 39) hi_217_17 rfl ?_
              refine mm_20 (v := .ref 46) hS706 hi_217_18 rfl ?_
              refine am_e2 (v := 39) hi_217_21 rfl ?_
              refine mm_20 (v := .int (f 15)) hS706 hi_217_22 rfl ?_
              refine am_e0 hi_217_25 ?_
              refine am_e10 (z := z798) hi_217_26 hz798 ?_
              refine mm_25 hS706 ma_16 hi_217_27 (by decide) (by omega) (by omega) ?_
              show am_E _ _ _ _ [some (.ref 39), some (.int (g 17 z798.toNatClampNeg))] [.int (g 16 z798.toNatClampNeg), .int (g 17 z798.toNatClampNeg), .ref 91] _ _
              refine am_e0 hi_217_28 ?_
              refine am_e13t hi_217_29 (am_cT (m := (g 16 z798.toNatClampNeg).toInt) (n := (1 : Int)) rfl (by decide) (by simp only [am_cI]; omega)) ?_
              refine am_e0 hi_217_45 ?_
              refine mm_26 hS706 ma_72 hi_217_46 (by decide) (by omega) (by omega) (fun h => nomatch h) ?_
              intro S966 hS967
              refine am_e2 (v := 39) hi_217_47 rfl ?_
              refine am_e7 hi_217_48 ?_
              refine mm_20 (v := .int (f 15)) hS967 hi_217_49 rfl ?_
              refine am_e0 hi_217_52 ?_
              refine am_e10 (z := z798) hi_217_53 hz798 ?_
              refine mm_21 (v := z798) hS967 hi_217_54 rfl (Nat.le_of_ble_eq_true rfl) ms_15 ?_
              intro S968 hS969
              have hp970 : mj_n (g 16) (f 15).toNatClampNeg 3 = mj_n (g 16) z798.toNatClampNeg 3 + if (g 16 z798.toNatClampNeg).toInt = 3 then 1 else 0 := mj_pop (by rw [cl_toNat, cl_toNat]; omega)
              have hp9701 : mj_n (g 16) z798.toNatClampNeg 3 ≤ mj_n (g 16) (f 15).toNatClampNeg 3 := by rw [hp970]; split <;> omega
              have hp9702 : (g 16 z798.toNatClampNeg).toInt = 3 → mj_n (g 16) z798.toNatClampNeg 3 + 1 ≤ mj_n (g 16) (f 15).toNatClampNeg 3 := fun q => by rw [hp970, if_pos q]; exact Int.le_refl _
              refine am_e35 hi_217_57 ?_
              show am_E _ _ _ _ [some (.ref 39), some (.int on), some (.int tw), some (.int 1)] [] _ _
              refine am_e2 (v := 39) hi_221_63 rfl ?_
              refine am_e0 hi_221_64 ?_
              refine am_e1 (v := on) hi_221_66 rfl ?_
              refine am_e0 hi_221_67 ?_
              refine am_e1 (v := tw) hi_221_68 rfl ?_
              refine am_e32n (as := [.ref 39, .int 24, .int on, .int 0, .int tw]) (la := [some (.ref 39), some (.int 24), some (.int on), some (.int 0), some (.int tw)]) (rest := []) hi_221_69 (am_hd0 (M := 221) (by decide) 69) (Nat.le_of_ble_eq_true rfl) (Nat.le_of_ble_eq_true rfl) (show 5 ≤ am_P0.2.2.1 189 from by decide +kernel) rfl (am_recv_ok hS969.fs) rfl rfl (ct_put (d := (d + 5)) hS969 hR  (by show (0 : Int) ≤ (f 32).toInt; omega) (by show (f 32).toInt ≤ (63 : Int); omega) (by show (f 53).toInt ≤ (4096 : Int); omega) (by show (0 : Int) ≤ (f 68).toInt; omega) (by show (f 68).toInt ≤ (65534 : Int); omega)) ?_
              rintro v971 S972 (⟨z973, r974, g'975, hv976, hS977, hR981, h978, h979, h980⟩)
              subst hv976
              have h978_ : z973.toInt = (f 68).toInt + 1 := h978
              have h979_ : r974.toInt = (f 68).toInt := h979
              have h980_ : ∀ j, j ∉ [60, 69, 70, 71, 72, 73] → g'975 j = (upg g 72 (g 17 z798.toNatClampNeg).toNatClampNeg 0) j := h980
              have hR981_ : RJ (upd (upd f 15 z798) 68 z973) g'975 gs bc [] 0 ((f 68).toNatClampNeg :: []) := hR981
              show am_E _ _ _ _ [some (.ref 39), some (.int on), some (.int tw), some (.int 1)] [.int r974] _ _
              refine am_e6i hi_221_72 ?_
              refine am_e18 hi_221_73 ?_
              refine am_e2 (v := 39) hi_221_90 rfl ?_
              refine am_e1 (v := on) hi_221_91 rfl ?_
              refine am_e32w (as := [.ref 39, .int on]) (la := [some (.ref 39), some (.int on)]) (rest := []) hi_221_92 (am_hd0 (M := 221) (by decide) 92) (Nat.le_of_ble_eq_true rfl) (Nat.le_of_ble_eq_true rfl) (show 2 ≤ am_P0.2.2.1 220 from by decide +kernel) rfl (am_recv_ok hS977.fs) rfl rfl ?_
              refine am_e2 (v := 39) hi_220_0 rfl ?_
              refine am_e32n (as := [.ref 39]) (la := [some (.ref 39)]) (rest := []) hi_220_1 (am_hd0 (M := 220) (by decide) 1) (Nat.le_of_ble_eq_true rfl) (Nat.le_of_ble_eq_true rfl) (show 1 ≤ am_P0.2.2.1 183 from by decide +kernel) rfl (am_recv_ok hS977.fs) rfl rfl (ct_next (d := (d + 3)) hS977   (by show (0 : Int) ≤ (f 4).toInt; omega) (by show (f 0).toInt ≤ (16384 : Int); omega)) ?_
              rintro v982 S983 (⟨r984, hv985, hS986, h987⟩)
              subst hv985
              have h987_ : (f 4).toInt < (f 0).toInt ∨ r984.toInt = (-1 : Int) := h987
              show am_E _ _ _ _ [some (.ref 39), some (.int on)] [.int r984] _ _
              refine am_e0 hi_220_4 ?_
              by_cases c989 : r984.toInt = (69 : Int)
              · refine am_e13t hi_220_6 (am_cT (m := r984.toInt) (n := (69 : Int)) rfl (by decide) c989) ?_
                refine am_e2 (v := 39) hi_220_18 rfl ?_
                refine am_e7 hi_220_19 ?_
                refine mm_20 (v := .int (f 4)) hS986 hi_220_20 rfl ?_
                refine am_e0 hi_220_23 ?_
                refine am_e10 (z := z701) hi_220_24 hz701 ?_
                refine mm_21 (v := z701) hS986 hi_220_25 rfl (Nat.le_of_ble_eq_true rfl) ms_4 ?_
                intro S990 hS991
                replace hS991 : MS S0 S990 (upd (upd (upd f 4 z701) 15 z798) 68 z973) g'975 := hS991
                have hR992 : RJ (upd (upd (upd f 4 z701) 15 z798) 68 z973) g'975 gs bc [] 0 ((f 68).toNatClampNeg :: []) := RJ.at hR981_ (by show (f 4).toInt ≤ z701.toInt; omega)
                refine am_e2 (v := 39) hi_220_28 rfl ?_
                refine am_e0 hi_220_29 ?_
                refine am_e1 (v := on) hi_220_31 rfl ?_
                refine am_e0 hi_220_32 ?_
                refine am_e0 hi_220_33 ?_
                refine am_e32n (as := [.ref 39, .int 35, .int on, .int 0, .int 0]) (la := [some (.ref 39), some (.int 35), some (.int on), some (.int 0), some (.int 0)]) (rest := []) hi_220_34 (am_hd0 (M := 220) (by decide) 34) (Nat.le_of_ble_eq_true rfl) (Nat.le_of_ble_eq_true rfl) (show 5 ≤ am_P0.2.2.1 179 from by decide +kernel) rfl (am_recv_ok hS991.fs) rfl rfl (ct_pile (d := (d + 4)) hS991 hR992 (mj_e_plain (by decide)) (by show (0 : Int) ≤ (f 10).toInt; omega) (by show (f 10).toInt ≤ (65535 : Int); omega)) ?_
                rintro v993 S994 (⟨z995, g'996, hv997, hS998, hR1001, h999, h1000⟩)
                subst hv997
                have h999_ : z995.toInt = (f 10).toInt + 1 := h999
                have h1000_ : ∀ j, j ∉ [11, 12, 13, 14] → g'996 j = g'975 j := h1000
                replace hS998 : MS S0 S994 (upd (upd (upd (upd f 4 z701) 10 z995) 15 z798) 68 z973) g'996 := hS998
                have hR1001_ : RJ (upd (upd (upd (upd f 4 z701) 10 z995) 15 z798) 68 z973) g'996 (((35 : Int), on.toInt, (0 : Int), (0 : Int), []) :: gs) bc [] 0 ((f 68).toNatClampNeg :: []) := hR1001
                show am_E _ _ _ _ [some (.ref 39), some (.int on)] [] _ _
                refine am_e18 hi_220_37 ?_
                refine am_e35 hi_220_47 ?_
                show am_E _ _ _ _ [some (.ref 39), some (.int on), some (.int tw), some (.int 1)] [] _ _
                refine am_e35 hi_221_95 ?_
                show am_E _ _ _ _ [some (.ref 39), some (.int 39), some (.int on), some (.int tw)] [] _ _
                refine am_e18 hi_181_366 ?_
                refine am_e35 hi_181_397 ?_
                show am_E _ _ _ _ [some (.ref 39), some (.int 39), some (.int on), some (.int tw), some (.int th)] [] _ _
                refine am_e35 hi_180_13 ?_
                have q1 : mg_p1 (((35 : Int), on.toInt, (0 : Int), (0 : Int), []) :: gs) = 0 + (mg_p1 gs) := rfl
                have q2 : mg_p2 (((35 : Int), on.toInt, (0 : Int), (0 : Int), []) :: gs) = 0 + (mg_p2 gs) := rfl
                have q3 : mg_p3 (((35 : Int), on.toInt, (0 : Int), (0 : Int), []) :: gs) = 3 + (mg_p3 gs) := rfl
                have q4 : mg_p4 (((35 : Int), on.toInt, (0 : Int), (0 : Int), []) :: gs) = 0 + (mg_p4 gs) := rfl
                refine ⟨_, _, _, bc, rfl, hS998, Or.inl ⟨⟨(RJ.fewer (pj' := []) hR1001_ (fun _ h => nomatch h)), ?_, ?_⟩, rfl, ?_⟩⟩
                · exact (⟨⟨(show mg_k 35 from by decide), (show (0 : Int) ≤ z798.toInt from by omega), (show 0 ≤ (f 20).toInt from by omega), (show 1 ≤ (f 37).toInt from by omega), (show 0 ≤ (f 32).toInt from by omega), (show (f 32).toInt ≤ (f 5).toInt from by omega), (show (f 5).toInt ≤ 48 from by omega), (show (f 37).toInt ≤ 2 * ((f 5).toInt) + 2 from by omega), trivial⟩, mg_cast (mg_good_ext _ _ _ _ _ _ (fun i _ => by show g'996 34 i = g 34 i; rw [show g'996 34 = g'975 34 from h1000_ 34 (by decide), show g'975 34 = g 34 from h980_ 34 (by decide)]) (fun i _ => by show g'996 38 i = g 38 i; rw [show g'996 38 = g'975 38 from h1000_ 38 (by decide), show g'975 38 = g 38 from h980_ 38 (by decide)]) (fun i _ => by show g'996 23 i = g 23 i; rw [show g'996 23 = g'975 23 from h1000_ 23 (by decide), show g'975 23 = g 23 from h980_ 23 (by decide)]) hrest) (by show (f 15).toInt + -1 = z798.toInt + 0; omega) (by show (f 20).toInt = (f 20).toInt; omega) (by show (f 37).toInt + 0 = (f 37).toInt + 0; omega) (by show (f 32).toInt + 0 = (f 32).toInt + 0; omega) (by show (f 5).toInt + -1 = (f 5).toInt + -1; omega)⟩ : mg_good (g'996 34) (g'996 38) (g'996 23) (((35 : Int), on.toInt, (0 : Int), (0 : Int), []) :: gs) (z798.toInt) ((f 20).toInt) ((f 37).toInt) ((f 32).toInt) ((f 5).toInt))
                · exact ⟨(by show 0 ≤ z701.toInt; omega), (by show z701.toInt ≤ (f 0).toInt; omega), (by show (f 0).toInt ≤ 512; omega), (by show 0 ≤ (f 24).toInt; omega), (by show (f 24).toInt + (f 20).toInt + mg_p1 (((35 : Int), on.toInt, (0 : Int), (0 : Int), []) :: gs) ≤ 4 * z701.toInt; omega), (by show (f 20).toInt ≤ z701.toInt; omega), (by show z798.toInt + mg_p2 (((35 : Int), on.toInt, (0 : Int), (0 : Int), []) :: gs) ≤ z701.toInt; omega), (by show mg_p3 (((35 : Int), on.toInt, (0 : Int), (0 : Int), []) :: gs) ≤ 20 * z701.toInt + 20; omega), (by show 0 ≤ z973.toInt; omega), (by show z973.toInt + 3 * (f 20).toInt + mg_p4 (((35 : Int), on.toInt, (0 : Int), (0 : Int), []) :: gs) ≤ 60 * z701.toInt + 60; omega), (by show 0 ≤ (f 62).toInt; omega), (by show (f 62).toInt + 64 * mj_n (g'996 16) z798.toNatClampNeg 3 ≤ 64 * z701.toInt; rw [show g'996 16 = g'975 16 from h1000_ 16 (by decide), show g'975 16 = g 16 from h980_ 16 (by decide)]; omega), (by show 0 ≤ (f 44).toInt; omega), (by show (f 44).toInt ≤ z701.toInt; omega), (by show 0 ≤ (f 48).toInt; omega), (by show (f 48).toInt ≤ z701.toInt; omega), (by show 1 ≤ (f 53).toInt; omega), (by show (f 53).toInt ≤ z701.toInt + 1; omega), (by show 0 ≤ (f 19).toInt; omega), (by show (f 19).toInt ≤ 600; omega)⟩
                · show 100 * ((f 0).toInt - z701.toInt) + mg_p3 (((35 : Int), on.toInt, (0 : Int), (0 : Int), []) :: gs) < 100 * ((f 0).toInt - (f 4).toInt) + (1 + mg_p3 gs); omega
              · refine am_e13f hi_220_6 (am_cF (m := r984.toInt) (n := (69 : Int)) rfl (by decide) c989) ?_
                refine am_e2 (v := 39) hi_220_9 rfl ?_
                refine am_e32n (as := [.ref 39]) (la := [some (.ref 39)]) (rest := []) hi_220_10 (am_hd0 (M := 220) (by decide) 10) (Nat.le_of_ble_eq_true rfl) (Nat.le_of_ble_eq_true rfl) (show 1 ≤ am_P0.2.2.1 183 from by decide +kernel) rfl (am_recv_ok hS986.fs) rfl rfl (ct_next (d := (d + 3)) hS986   (by show (0 : Int) ≤ (f 4).toInt; omega) (by show (f 0).toInt ≤ (16384 : Int); omega)) ?_
                rintro v1002 S1003 (⟨r1004, hv1005, hS1006, h1007⟩)
                subst hv1005
                have h1007_ : (f 4).toInt < (f 0).toInt ∨ r1004.toInt = (-1 : Int) := h1007
                show am_E _ _ _ _ [some (.ref 39), some (.int on)] [.int r1004] _ _
                refine am_e0 hi_220_13 ?_
                by_cases c1009 : ¬ r1004.toInt = (67 : Int)
                · refine am_e13t hi_220_15 (am_cT (m := r1004.toInt) (n := (67 : Int)) rfl (by decide) c1009) ?_
                  refine am_e2 (v := 39) hi_220_40 rfl ?_
                  refine am_e0 hi_220_41 ?_
                  refine am_e32n (as := [.ref 39, .int 63]) (la := [some (.ref 39), some (.int 63)]) (rest := []) hi_220_43 (am_hd0 (M := 220) (by decide) 43) (Nat.le_of_ble_eq_true rfl) (Nat.le_of_ble_eq_true rfl) (show 2 ≤ am_P0.2.2.1 199 from by decide +kernel) rfl (am_recv_ok hS1006.fs) rfl rfl (ct_leave (d := (d + 1)) hS1006   (by show (0 : Int) ≤ (f 4).toInt; omega) (by show (f 0).toInt ≤ (16384 : Int); omega) (by show (0 : Int) ≤ (63 : Int); omega) (by show (0 : Int) ≤ (f 5).toInt; omega) (by show (f 5).toInt ≤ (48 : Int); omega)) ?_
                  rintro v1010 S1011 (⟨z1012, y1013, hv1014, hS1015, h1016, h1017, h1018⟩ | ⟨a1020, b1021, hv1022, hS1023⟩)
                  · subst hv1014
                    have h1016_ : z1012.toInt = (f 4).toInt + 1 := h1016
                    have h1017_ : (f 4).toInt < (f 0).toInt := h1017
                    have h1018_ : y1013.toInt = (f 5).toInt - 1 := h1018
                    replace hS1015 : MS S0 S1011 (upd (upd (upd (upd f 4 z1012) 5 y1013) 15 z798) 68 z973) g'975 := hS1015
                    have hR1025 : RJ (upd (upd (upd (upd f 4 z1012) 5 y1013) 15 z798) 68 z973) g'975 gs bc [] 0 ((f 68).toNatClampNeg :: []) := RJ.at hR981_ (by show (f 4).toInt ≤ z1012.toInt; omega)
                    show am_E _ _ _ _ [some (.ref 39), some (.int on)] [.int 1] _ _
                    refine am_e6i hi_220_46 ?_
                    refine am_e35 hi_220_47 ?_
                    show am_E _ _ _ _ [some (.ref 39), some (.int on), some (.int tw), some (.int 1)] [] _ _
                    refine am_e35 hi_221_95 ?_
                    show am_E _ _ _ _ [some (.ref 39), some (.int 39), some (.int on), some (.int tw)] [] _ _
                    refine am_e18 hi_181_366 ?_
                    refine am_e35 hi_181_397 ?_
                    show am_E _ _ _ _ [some (.ref 39), some (.int 39), some (.int on), some (.int tw), some (.int th)] [] _ _
                    refine am_e35 hi_180_13 ?_
                    have q1 : mg_p1 gs = mg_p1 gs := rfl
                    have q2 : mg_p2 gs = mg_p2 gs := rfl
                    have q3 : mg_p3 gs = mg_p3 gs := rfl
                    have q4 : mg_p4 gs = mg_p4 gs := rfl
                    refine ⟨_, _, _, bc, rfl, hS1015, Or.inl ⟨⟨(RJ.fewer (pj' := []) hR1025 (fun _ h => nomatch h)), ?_, ?_⟩, rfl, ?_⟩⟩
                    · exact (mg_cast (mg_good_ext _ _ _ _ _ _ (fun i _ => by show g'975 34 i = g 34 i; rw [show g'975 34 = g 34 from h980_ 34 (by decide)]) (fun i _ => by show g'975 38 i = g 38 i; rw [show g'975 38 = g 38 from h980_ 38 (by decide)]) (fun i _ => by show g'975 23 i = g 23 i; rw [show g'975 23 = g 23 from h980_ 23 (by decide)]) hrest) (by show (f 15).toInt + -1 = z798.toInt; omega) (by show (f 20).toInt = (f 20).toInt; omega) (by show (f 37).toInt + 0 = (f 37).toInt; omega) (by show (f 32).toInt + 0 = (f 32).toInt; omega) (by show (f 5).toInt + -1 = y1013.toInt; omega) : mg_good (g'975 34) (g'975 38) (g'975 23) gs (z798.toInt) ((f 20).toInt) ((f 37).toInt) ((f 32).toInt) (y1013.toInt))
                    · exact ⟨(by show 0 ≤ z1012.toInt; omega), (by show z1012.toInt ≤ (f 0).toInt; omega), (by show (f 0).toInt ≤ 512; omega), (by show 0 ≤ (f 24).toInt; omega), (by show (f 24).toInt + (f 20).toInt + mg_p1 gs ≤ 4 * z1012.toInt; omega), (by show (f 20).toInt ≤ z1012.toInt; omega), (by show z798.toInt + mg_p2 gs ≤ z1012.toInt; omega), (by show mg_p3 gs ≤ 20 * z1012.toInt + 20; omega), (by show 0 ≤ z973.toInt; omega), (by show z973.toInt + 3 * (f 20).toInt + mg_p4 gs ≤ 60 * z1012.toInt + 60; omega), (by show 0 ≤ (f 62).toInt; omega), (by show (f 62).toInt + 64 * mj_n (g'975 16) z798.toNatClampNeg 3 ≤ 64 * z1012.toInt; rw [show g'975 16 = g 16 from h980_ 16 (by decide)]; omega), (by show 0 ≤ (f 44).toInt; omega), (by show (f 44).toInt ≤ z1012.toInt; omega), (by show 0 ≤ (f 48).toInt; omega), (by show (f 48).toInt ≤ z1012.toInt; omega), (by show 1 ≤ (f 53).toInt; omega), (by show (f 53).toInt ≤ z1012.toInt + 1; omega), (by show 0 ≤ (f 19).toInt; omega), (by show (f 19).toInt ≤ 600; omega)⟩
                    · show 100 * ((f 0).toInt - z1012.toInt) + mg_p3 gs < 100 * ((f 0).toInt - (f 4).toInt) + (1 + mg_p3 gs); omega
                  · subst hv1022
                    replace hS1023 : MS S0 S1011 (upd (upd (upd (upd (upd f 6 a1020) 7 b1021) 10 0) 15 z798) 68 z973) g'975 := hS1023
                    have hR1026 := rj_clear0 hR981_
                    have hR1027 : RJ (upd (upd (upd (upd (upd f 6 a1020) 7 b1021) 10 0) 15 z798) 68 z973) g'975 [] bc [] 0 [] := hR1026
                    show am_E _ _ _ _ [some (.ref 39), some (.int on)] [.int 0] _ _
                    refine am_e6i hi_220_46 ?_
                    refine am_e35 hi_220_47 ?_
                    show am_E _ _ _ _ [some (.ref 39), some (.int on), some (.int tw), some (.int 1)] [] _ _
                    refine am_e35 hi_221_95 ?_
                    show am_E _ _ _ _ [some (.ref 39), some (.int 39), some (.int on), some (.int tw)] [] _ _
                    refine am_e18 hi_181_366 ?_
                    refine am_e35 hi_181_397 ?_
                    show am_E _ _ _ _ [some (.ref 39), some (.int 39), some (.int on), some (.int tw), some (.int th)] [] _ _
                    refine am_e35 hi_180_13 ?_
                    have hRc := rj_clear0 hR1027
                    refine ⟨_, _, [], _, rfl, hS1023, Or.inr ⟨hRc, rfl, (by show 0 ≤ (f 4).toInt; omega), (by show (f 4).toInt ≤ (f 0).toInt; omega), (by show 0 ≤ (f 32).toInt; omega), (by show (f 32).toInt ≤ 63; omega), (by show 1 ≤ (f 53).toInt; omega), (by show (f 53).toInt ≤ 600; omega), (by show 0 ≤ z973.toInt; omega), (by show z973.toInt ≤ 60000; omega), (by show 0 ≤ (f 48).toInt; omega), (by show (f 48).toInt ≤ 8000; omega), (by show 0 ≤ (f 37).toInt; omega), (by show (f 37).toInt ≤ 128; omega), (by show 0 ≤ (f 62).toInt; omega), (by show (f 62).toInt ≤ 65000; omega), (by show 0 ≤ (f 19).toInt; omega), (by show (f 19).toInt ≤ 600; omega)⟩⟩
                · refine am_e13f hi_220_15 (am_cF (m := r1004.toInt) (n := (67 : Int)) rfl (by decide) c1009) ?_
                  refine am_e2 (v := 39) hi_220_18 rfl ?_
                  refine am_e7 hi_220_19 ?_
                  refine mm_20 (v := .int (f 4)) hS1006 hi_220_20 rfl ?_
                  refine am_e0 hi_220_23 ?_
                  refine am_e10 (z := z701) hi_220_24 hz701 ?_
                  refine mm_21 (v := z701) hS1006 hi_220_25 rfl (Nat.le_of_ble_eq_true rfl) ms_4 ?_
                  intro S1028 hS1029
                  replace hS1029 : MS S0 S1028 (upd (upd (upd f 4 z701) 15 z798) 68 z973) g'975 := hS1029
                  have hR1030 : RJ (upd (upd (upd f 4 z701) 15 z798) 68 z973) g'975 gs bc [] 0 ((f 68).toNatClampNeg :: []) := RJ.at hR981_ (by show (f 4).toInt ≤ z701.toInt; omega)
                  refine am_e2 (v := 39) hi_220_28 rfl ?_
                  refine am_e0 hi_220_29 ?_
                  refine am_e1 (v := on) hi_220_31 rfl ?_
                  refine am_e0 hi_220_32 ?_
                  refine am_e0 hi_220_33 ?_
                  refine am_e32n (as := [.ref 39, .int 35, .int on, .int 0, .int 0]) (la := [some (.ref 39), some (.int 35), some (.int on), some (.int 0), some (.int 0)]) (rest := []) hi_220_34 (am_hd0 (M := 220) (by decide) 34) (Nat.le_of_ble_eq_true rfl) (Nat.le_of_ble_eq_true rfl) (show 5 ≤ am_P0.2.2.1 179 from by decide +kernel) rfl (am_recv_ok hS1029.fs) rfl rfl (ct_pile (d := (d + 4)) hS1029 hR1030 (mj_e_plain (by decide)) (by show (0 : Int) ≤ (f 10).toInt; omega) (by show (f 10).toInt ≤ (65535 : Int); omega)) ?_
                  rintro v1031 S1032 (⟨z1033, g'1034, hv1035, hS1036, hR1039, h1037, h1038⟩)
                  subst hv1035
                  have h1037_ : z1033.toInt = (f 10).toInt + 1 := h1037
                  have h1038_ : ∀ j, j ∉ [11, 12, 13, 14] → g'1034 j = g'975 j := h1038
                  replace hS1036 : MS S0 S1032 (upd (upd (upd (upd f 4 z701) 10 z1033) 15 z798) 68 z973) g'1034 := hS1036
                  have hR1039_ : RJ (upd (upd (upd (upd f 4 z701) 10 z1033) 15 z798) 68 z973) g'1034 (((35 : Int), on.toInt, (0 : Int), (0 : Int), []) :: gs) bc [] 0 ((f 68).toNatClampNeg :: []) := hR1039
                  show am_E _ _ _ _ [some (.ref 39), some (.int on)] [] _ _
                  refine am_e18 hi_220_37 ?_
                  refine am_e35 hi_220_47 ?_
                  show am_E _ _ _ _ [some (.ref 39), some (.int on), some (.int tw), some (.int 1)] [] _ _
                  refine am_e35 hi_221_95 ?_
                  show am_E _ _ _ _ [some (.ref 39), some (.int 39), some (.int on), some (.int tw)] [] _ _
                  refine am_e18 hi_181_366 ?_
                  refine am_e35 hi_181_397 ?_
                  show am_E _ _ _ _ [some (.ref 39), some (.int 39), some (.int on), some (.int tw), some (.int th)] [] _ _
                  refine am_e35 hi_180_13 ?_
                  have q1 : mg_p1 (((35 : Int), on.toInt, (0 : Int), (0 : Int), []) :: gs) = 0 + (mg_p1 gs) := rfl
                  have q2 : mg_p2 (((35 : Int), on.toInt, (0 : Int), (0 : Int), []) :: gs) = 0 + (mg_p2 gs) := rfl
                  have q3 : mg_p3 (((35 : Int), on.toInt, (0 : Int), (0 : Int), []) :: gs) = 3 + (mg_p3 gs) := rfl
                  have q4 : mg_p4 (((35 : Int), on.toInt, (0 : Int), (0 : Int), []) :: gs) = 0 + (mg_p4 gs) := rfl
                  refine ⟨_, _, _, bc, rfl, hS1036, Or.inl ⟨⟨(RJ.fewer (pj' := []) hR1039_ (fun _ h => nomatch h)), ?_, ?_⟩, rfl, ?_⟩⟩
                  · exact (⟨⟨(show mg_k 35 from by decide), (show (0 : Int) ≤ z798.toInt from by omega), (show 0 ≤ (f 20).toInt from by omega), (show 1 ≤ (f 37).toInt from by omega), (show 0 ≤ (f 32).toInt from by omega), (show (f 32).toInt ≤ (f 5).toInt from by omega), (show (f 5).toInt ≤ 48 from by omega), (show (f 37).toInt ≤ 2 * ((f 5).toInt) + 2 from by omega), trivial⟩, mg_cast (mg_good_ext _ _ _ _ _ _ (fun i _ => by show g'1034 34 i = g 34 i; rw [show g'1034 34 = g'975 34 from h1038_ 34 (by decide), show g'975 34 = g 34 from h980_ 34 (by decide)]) (fun i _ => by show g'1034 38 i = g 38 i; rw [show g'1034 38 = g'975 38 from h1038_ 38 (by decide), show g'975 38 = g 38 from h980_ 38 (by decide)]) (fun i _ => by show g'1034 23 i = g 23 i; rw [show g'1034 23 = g'975 23 from h1038_ 23 (by decide), show g'975 23 = g 23 from h980_ 23 (by decide)]) hrest) (by show (f 15).toInt + -1 = z798.toInt + 0; omega) (by show (f 20).toInt = (f 20).toInt; omega) (by show (f 37).toInt + 0 = (f 37).toInt + 0; omega) (by show (f 32).toInt + 0 = (f 32).toInt + 0; omega) (by show (f 5).toInt + -1 = (f 5).toInt + -1; omega)⟩ : mg_good (g'1034 34) (g'1034 38) (g'1034 23) (((35 : Int), on.toInt, (0 : Int), (0 : Int), []) :: gs) (z798.toInt) ((f 20).toInt) ((f 37).toInt) ((f 32).toInt) ((f 5).toInt))
                  · exact ⟨(by show 0 ≤ z701.toInt; omega), (by show z701.toInt ≤ (f 0).toInt; omega), (by show (f 0).toInt ≤ 512; omega), (by show 0 ≤ (f 24).toInt; omega), (by show (f 24).toInt + (f 20).toInt + mg_p1 (((35 : Int), on.toInt, (0 : Int), (0 : Int), []) :: gs) ≤ 4 * z701.toInt; omega), (by show (f 20).toInt ≤ z701.toInt; omega), (by show z798.toInt + mg_p2 (((35 : Int), on.toInt, (0 : Int), (0 : Int), []) :: gs) ≤ z701.toInt; omega), (by show mg_p3 (((35 : Int), on.toInt, (0 : Int), (0 : Int), []) :: gs) ≤ 20 * z701.toInt + 20; omega), (by show 0 ≤ z973.toInt; omega), (by show z973.toInt + 3 * (f 20).toInt + mg_p4 (((35 : Int), on.toInt, (0 : Int), (0 : Int), []) :: gs) ≤ 60 * z701.toInt + 60; omega), (by show 0 ≤ (f 62).toInt; omega), (by show (f 62).toInt + 64 * mj_n (g'1034 16) z798.toNatClampNeg 3 ≤ 64 * z701.toInt; rw [show g'1034 16 = g'975 16 from h1038_ 16 (by decide), show g'975 16 = g 16 from h980_ 16 (by decide)]; omega), (by show 0 ≤ (f 44).toInt; omega), (by show (f 44).toInt ≤ z701.toInt; omega), (by show 0 ≤ (f 48).toInt; omega), (by show (f 48).toInt ≤ z701.toInt; omega), (by show 1 ≤ (f 53).toInt; omega), (by show (f 53).toInt ≤ z701.toInt + 1; omega), (by show 0 ≤ (f 19).toInt; omega), (by show (f 19).toInt ≤ 600; omega)⟩
                  · show 100 * ((f 0).toInt - z701.toInt) + mg_p3 (((35 : Int), on.toInt, (0 : Int), (0 : Int), []) :: gs) < 100 * ((f 0).toInt - (f 4).toInt) + (1 + mg_p3 gs); omega
