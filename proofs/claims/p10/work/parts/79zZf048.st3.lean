/-! STEPS: tables (printed by wip/p2/st1.py) -/
theorem st_35 {sc : Nat × (Nat → Int32)} {d : Nat} {S0 S : am_S} {f : Nat → Int32} {g : Nat → Nat → Int32} {on : Int32} {tw : Int32} {th : Int32} {gs : List mg_E} {bc : List (List Nat)} (hS : MS S0 S f g) (hR : RJ f g gs bc [] 0 []) (hrest : mg_good (g 34) (g 38) (g 23) gs ((f 15).toInt + 0) ((f 20).toInt) ((f 37).toInt + 0) ((f 32).toInt + 0) ((f 5).toInt + -1)) (p0 : 0 ≤ (f 4).toInt) (p1 : (f 4).toInt ≤ (f 0).toInt) (p2 : (f 0).toInt ≤ 512) (p3 : 0 ≤ (f 24).toInt) (p4 : (f 24).toInt + (f 20).toInt + mg_p1 gs ≤ 4 * (f 4).toInt) (p5 : (f 20).toInt ≤ (f 4).toInt) (p6 : (f 15).toInt + 0 + mg_p2 gs ≤ (f 4).toInt) (p7 : 3 + mg_p3 gs ≤ 20 * (f 4).toInt + 20) (p8 : 0 ≤ (f 68).toInt) (p9 : (f 68).toInt + 3 * (f 20).toInt + 0 + mg_p4 gs ≤ 60 * (f 4).toInt + 60) (p10 : 0 ≤ (f 62).toInt) (p11 : (f 62).toInt + 64 * mj_n (g 16) (f 15).toNatClampNeg 3 ≤ 64 * (f 4).toInt) (p12 : 0 ≤ (f 44).toInt) (p13 : (f 44).toInt ≤ (f 4).toInt) (p14 : 0 ≤ (f 48).toInt) (p15 : (f 48).toInt ≤ (f 4).toInt) (p16 : 1 ≤ (f 53).toInt) (p17 : (f 53).toInt ≤ (f 4).toInt + 1) (p18 : 0 ≤ (f 19).toInt) (p19 : (f 19).toInt ≤ 600) (p20 : 0 ≤ (f 6).toInt) (p21 : 0 ≤ (f 8).toInt) (p22 : 0 ≤ mg_p1 gs) (p23 : 0 ≤ mg_p2 gs) (p24 : 0 ≤ mg_p4 gs) (p25 : 0 ≤ (f 10).toInt) (p26 : (f 10).toInt ≤ mg_p3 gs) (p27 : 0 ≤ mj_n (g 16) (f 15).toNatClampNeg 3) (p28 : 0 ≤ (f 15).toInt) (p29 : 0 ≤ (f 20).toInt) (p30 : 1 ≤ (f 37).toInt) (p31 : 0 ≤ (f 32).toInt) (p32 : (f 32).toInt ≤ (f 5).toInt) (p33 : (f 5).toInt ≤ 48) (p34 : (f 37).toInt ≤ 2 * (f 5).toInt + 2) : am_E (am_PP sc) (d + 8) 180 0 [some (.ref 39), some (.int 35), some (.int on), some (.int tw), some (.int th)] [] S (am_N fun v S1 => ∃ (f' : Nat → Int32) (g' : Nat → Nat → Int32) (gs' : List mg_E) (bc' : List (List Nat)), v = none ∧ MS S0 S1 f' g' ∧ (mg_on f (100 * ((f 0).toInt - (f 4).toInt) + (3 + mg_p3 gs)) f' g' gs' bc' ∨ mg_off f f' g' bc')) := by
  have hbs := mg_basic hrest
  refine am_e1 (v := 35) hi_180_0 rfl ?_
  refine am_e0 hi_180_1 ?_
  refine am_e13f hi_180_3 (by decide) ?_
  refine am_e2 (v := 39) hi_180_6 rfl ?_
  refine am_e1 (v := 35) hi_180_7 rfl ?_
  refine am_e1 (v := on) hi_180_8 rfl ?_
  refine am_e1 (v := tw) hi_180_9 rfl ?_
  refine am_e32w (as := [.ref 39, .int 35, .int on, .int tw]) (la := [some (.ref 39), some (.int 35), some (.int on), some (.int tw)]) (rest := []) hi_180_10 (am_hd0 (M := 180) (by decide) 10) (Nat.le_of_ble_eq_true rfl) (Nat.le_of_ble_eq_true rfl) (show 4 ≤ am_P0.2.2.1 181 from by decide +kernel) rfl (am_recv_ok hS.fs) rfl rfl ?_
  refine am_e1 (v := 35) hi_181_0 rfl ?_
  refine am_e19 (t := 261) hi_181_1 (by decide) ?_
  refine am_e2 (v := 39) hi_181_261 rfl ?_
  refine am_e1 (v := on) hi_181_262 rfl ?_
  refine am_e32w (as := [.ref 39, .int on]) (la := [some (.ref 39), some (.int on), none, none]) (rest := []) hi_181_263 (am_hd0 (M := 181) (by decide) 263) (Nat.le_of_ble_eq_true rfl) (Nat.le_of_ble_eq_true rfl) (show 2 ≤ am_P0.2.2.1 219 from by decide +kernel) rfl (am_recv_ok hS.fs) rfl rfl ?_
  refine am_e2 (v := 39) hi_219_0 rfl ?_
  refine am_e32n (as := [.ref 39]) (la := [some (.ref 39)]) (rest := []) hi_219_1 (am_hd0 (M := 219) (by decide) 1) (Nat.le_of_ble_eq_true rfl) (Nat.le_of_ble_eq_true rfl) (show 1 ≤ am_P0.2.2.1 183 from by decide +kernel) rfl (am_recv_ok hS.fs) rfl rfl (ct_next (d := (d + 4)) hS   (by show (0 : Int) ≤ (f 4).toInt; omega) (by show (f 0).toInt ≤ (16384 : Int); omega)) ?_
  rintro v0 S1 (⟨r2, hv3, hS4, h5⟩)
  subst hv3
  have h5_ : (f 4).toInt < (f 0).toInt ∨ r2.toInt = (-1 : Int) := h5
  show am_E _ _ _ _ [some (.ref 39), some (.int on), none, none] [.int r2] _ _
  refine am_e3 (ls' := [some (.ref 39), some (.int on), some (.int r2), none]) hi_219_4 (Nat.le_of_ble_eq_true rfl) rfl ?_
  refine am_e2 (v := 39) hi_219_5 rfl ?_
  refine mm_20 (v := .int (f 4)) hS4 hi_219_6 rfl ?_
  refine am_e3 (ls' := [some (.ref 39), some (.int on), some (.int r2), some (.int (f 4))]) hi_219_9 (Nat.le_of_ble_eq_true rfl) rfl ?_
  refine am_e1 (v := r2) hi_219_10 rfl ?_
  refine am_e0 hi_219_11 ?_
  by_cases c7 : ¬ r2.toInt = (63 : Int)
  · refine am_e13t hi_219_13 (am_cT (m := r2.toInt) (n := (63 : Int)) rfl (by decide) c7) ?_
    refine am_e1 (v := r2) hi_219_26 rfl ?_
    refine am_e0 hi_219_27 ?_
    by_cases c8 : ¬ r2.toInt = (64 : Int)
    · refine am_e13t hi_219_29 (am_cT (m := r2.toInt) (n := (64 : Int)) rfl (by decide) c8) ?_
      refine am_e1 (v := r2) hi_219_59 rfl ?_
      refine am_e0 hi_219_60 ?_
      by_cases c9 : ¬ r2.toInt = (1 : Int)
      · refine am_e13t hi_219_61 (am_cT (m := r2.toInt) (n := (1 : Int)) rfl (by decide) c9) ?_
        refine am_e2 (v := 39) hi_219_106 rfl ?_
        refine am_e0 hi_219_107 ?_
        refine am_e1 (v := on) hi_219_109 rfl ?_
        refine am_e0 hi_219_110 ?_
        obtain ⟨z10, hz10⟩ : ∃ q__, am_bin 0 on 1 = q__ := ⟨_, rfl⟩
        refine am_e10 (z := z10) hi_219_111 hz10 ?_
        refine am_e1 (v := f 4) hi_219_112 rfl ?_
        refine am_e0 hi_219_113 ?_
        refine am_e32n (as := [.ref 39, .int 39, .int z10, .int (f 4), .int 0]) (la := [some (.ref 39), some (.int 39), some (.int z10), some (.int (f 4)), some (.int 0)]) (rest := []) hi_219_114 (am_hd0 (M := 219) (by decide) 114) (Nat.le_of_ble_eq_true rfl) (Nat.le_of_ble_eq_true rfl) (show 5 ≤ am_P0.2.2.1 179 from by decide +kernel) rfl (am_recv_ok hS4.fs) rfl rfl (ct_pile (d := (d + 5)) hS4 hR (mj_e_plain (by decide)) (by show (0 : Int) ≤ (f 10).toInt; omega) (by show (f 10).toInt ≤ (65535 : Int); omega)) ?_
        rintro v11 S12 (⟨z13, g'14, hv15, hS16, hR19, h17, h18⟩)
        subst hv15
        have h17_ : z13.toInt = (f 10).toInt + 1 := h17
        have h18_ : ∀ j, j ∉ [11, 12, 13, 14] → g'14 j = g j := h18
        have hR19_ : RJ (upd f 10 z13) g'14 (((39 : Int), z10.toInt, (f 4).toInt, (0 : Int), []) :: gs) bc [] 0 [] := hR19
        show am_E _ _ _ _ [some (.ref 39), some (.int on), some (.int r2), some (.int (f 4))] [] _ _
        refine am_e2 (v := 39) hi_219_117 rfl ?_
        refine am_e0 hi_219_118 ?_
        refine am_e32w (as := [.ref 39, .int 0]) (la := [some (.ref 39), some (.int 0)]) (rest := []) hi_219_119 (am_hd0 (M := 219) (by decide) 119) (Nat.le_of_ble_eq_true rfl) (Nat.le_of_ble_eq_true rfl) (show 2 ≤ am_P0.2.2.1 186 from by decide +kernel) rfl (am_recv_ok hS16.fs) rfl rfl ?_
        refine am_e2 (v := 39) hi_186_0 rfl ?_
        refine am_e0 hi_186_1 ?_
        refine am_e1 (v := 0) hi_186_3 rfl ?_
        refine am_e0 hi_186_4 ?_
        refine am_e0 hi_186_5 ?_
        refine am_e32n (as := [.ref 39, .int 23, .int 0, .int 0, .int 0]) (la := [some (.ref 39), some (.int 23), some (.int 0), some (.int 0), some (.int 0)]) (rest := []) hi_186_6 (am_hd0 (M := 186) (by decide) 6) (Nat.le_of_ble_eq_true rfl) (Nat.le_of_ble_eq_true rfl) (show 5 ≤ am_P0.2.2.1 179 from by decide +kernel) rfl (am_recv_ok hS16.fs) rfl rfl (ct_pile (d := (d + 4)) hS16 hR19_ (mj_e_plain (by decide)) (by show (0 : Int) ≤ z13.toInt; omega) (by show z13.toInt ≤ (65535 : Int); omega)) ?_
        rintro v20 S21 (⟨z22, g'23, hv24, hS25, hR28, h26, h27⟩)
        subst hv24
        have h26_ : z22.toInt = z13.toInt + 1 := h26
        have h27_ : ∀ j, j ∉ [11, 12, 13, 14] → g'23 j = g'14 j := h27
        replace hS25 : MS S0 S21 (upd f 10 z22) g'23 := hS25
        have hR28_ : RJ (upd f 10 z22) g'23 (((23 : Int), (0 : Int), (0 : Int), (0 : Int), []) :: (((39 : Int), z10.toInt, (f 4).toInt, (0 : Int), []) :: gs)) bc [] 0 [] := hR28
        show am_E _ _ _ _ [some (.ref 39), some (.int 0)] [] _ _
        refine am_e35 hi_186_9 ?_
        show am_E _ _ _ _ [some (.ref 39), some (.int on), some (.int r2), some (.int (f 4))] [] _ _
        refine am_e35 hi_219_122 ?_
        show am_E _ _ _ _ [some (.ref 39), some (.int 35), some (.int on), some (.int tw)] [] _ _
        refine am_e18 hi_181_266 ?_
        refine am_e35 hi_181_397 ?_
        show am_E _ _ _ _ [some (.ref 39), some (.int 35), some (.int on), some (.int tw), some (.int th)] [] _ _
        refine am_e35 hi_180_13 ?_
        have q1 : mg_p1 (((23 : Int), (0 : Int), (0 : Int), (0 : Int), []) :: (((39 : Int), z10.toInt, (f 4).toInt, (0 : Int), []) :: gs)) = 0 + (0 + (mg_p1 gs)) := rfl
        have q2 : mg_p2 (((23 : Int), (0 : Int), (0 : Int), (0 : Int), []) :: (((39 : Int), z10.toInt, (f 4).toInt, (0 : Int), []) :: gs)) = 0 + (0 + (mg_p2 gs)) := rfl
        have q3 : mg_p3 (((23 : Int), (0 : Int), (0 : Int), (0 : Int), []) :: (((39 : Int), z10.toInt, (f 4).toInt, (0 : Int), []) :: gs)) = 1 + (1 + (mg_p3 gs)) := rfl
        have q4 : mg_p4 (((23 : Int), (0 : Int), (0 : Int), (0 : Int), []) :: (((39 : Int), z10.toInt, (f 4).toInt, (0 : Int), []) :: gs)) = 0 + (0 + (mg_p4 gs)) := rfl
        refine ⟨_, _, _, bc, rfl, hS25, Or.inl ⟨⟨hR28_, ?_, ?_⟩, rfl, ?_⟩⟩
        · exact (⟨⟨(show mg_k 23 from by decide), (show (0 : Int) ≤ (f 15).toInt from by omega), (show 0 ≤ (f 20).toInt from by omega), (show 1 ≤ (f 37).toInt from by omega), (show 0 ≤ (f 32).toInt from by omega), (show (f 32).toInt ≤ (f 5).toInt from by omega), (show (f 5).toInt ≤ 48 from by omega), (show (f 37).toInt ≤ 2 * ((f 5).toInt) + 2 from by omega), (show 0 ≤ (0 : Int) from by omega)⟩, ⟨⟨(show mg_k 39 from by decide), (show (1 : Int) ≤ (f 15).toInt + 1 from by omega), (show 0 ≤ (f 20).toInt from by omega), (show 1 ≤ (f 37).toInt + 0 from by omega), (show 0 ≤ (f 32).toInt + 0 from by omega), (show (f 32).toInt + 0 ≤ (f 5).toInt + 0 from by omega), (show (f 5).toInt + 0 ≤ 48 from by omega), (show (f 37).toInt + 0 ≤ 2 * ((f 5).toInt + 0) + 2 from by omega), trivial⟩, mg_cast (mg_good_ext _ _ _ _ _ _ (fun i _ => by show g'23 34 i = g 34 i; rw [show g'23 34 = g'14 34 from h27_ 34 (by decide), show g'14 34 = g 34 from h18_ 34 (by decide)]) (fun i _ => by show g'23 38 i = g 38 i; rw [show g'23 38 = g'14 38 from h27_ 38 (by decide), show g'14 38 = g 38 from h18_ 38 (by decide)]) (fun i _ => by show g'23 23 i = g 23 i; rw [show g'23 23 = g'14 23 from h27_ 23 (by decide), show g'14 23 = g 23 from h18_ 23 (by decide)]) hrest) (by show (f 15).toInt + 0 = (f 15).toInt + 1 + -1; omega) (by show (f 20).toInt = (f 20).toInt; omega) (by show (f 37).toInt + 0 = (f 37).toInt + 0 + 0; omega) (by show (f 32).toInt + 0 = (f 32).toInt + 0 + 0; omega) (by show (f 5).toInt + -1 = (f 5).toInt + 0 + -1; omega)⟩⟩ : mg_good (g'23 34) (g'23 38) (g'23 23) (((23 : Int), (0 : Int), (0 : Int), (0 : Int), []) :: (((39 : Int), z10.toInt, (f 4).toInt, (0 : Int), []) :: gs)) ((f 15).toInt) ((f 20).toInt) ((f 37).toInt) ((f 32).toInt) ((f 5).toInt))
        · exact ⟨(by show 0 ≤ (f 4).toInt; omega), (by show (f 4).toInt ≤ (f 0).toInt; omega), (by show (f 0).toInt ≤ 512; omega), (by show 0 ≤ (f 24).toInt; omega), (by show (f 24).toInt + (f 20).toInt + mg_p1 (((23 : Int), (0 : Int), (0 : Int), (0 : Int), []) :: (((39 : Int), z10.toInt, (f 4).toInt, (0 : Int), []) :: gs)) ≤ 4 * (f 4).toInt; omega), (by show (f 20).toInt ≤ (f 4).toInt; omega), (by show (f 15).toInt + mg_p2 (((23 : Int), (0 : Int), (0 : Int), (0 : Int), []) :: (((39 : Int), z10.toInt, (f 4).toInt, (0 : Int), []) :: gs)) ≤ (f 4).toInt; omega), (by show mg_p3 (((23 : Int), (0 : Int), (0 : Int), (0 : Int), []) :: (((39 : Int), z10.toInt, (f 4).toInt, (0 : Int), []) :: gs)) ≤ 20 * (f 4).toInt + 20; omega), (by show 0 ≤ (f 68).toInt; omega), (by show (f 68).toInt + 3 * (f 20).toInt + mg_p4 (((23 : Int), (0 : Int), (0 : Int), (0 : Int), []) :: (((39 : Int), z10.toInt, (f 4).toInt, (0 : Int), []) :: gs)) ≤ 60 * (f 4).toInt + 60; omega), (by show 0 ≤ (f 62).toInt; omega), (by show (f 62).toInt + 64 * mj_n (g'23 16) (f 15).toNatClampNeg 3 ≤ 64 * (f 4).toInt; rw [show g'23 16 = g'14 16 from h27_ 16 (by decide), show g'14 16 = g 16 from h18_ 16 (by decide)]; omega), (by show 0 ≤ (f 44).toInt; omega), (by show (f 44).toInt ≤ (f 4).toInt; omega), (by show 0 ≤ (f 48).toInt; omega), (by show (f 48).toInt ≤ (f 4).toInt; omega), (by show 1 ≤ (f 53).toInt; omega), (by show (f 53).toInt ≤ (f 4).toInt + 1; omega), (by show 0 ≤ (f 19).toInt; omega), (by show (f 19).toInt ≤ 600; omega), (by show 0 ≤ (f 6).toInt; omega), (by show 0 ≤ (f 8).toInt; omega)⟩
        · show 100 * ((f 0).toInt - (f 4).toInt) + mg_p3 (((23 : Int), (0 : Int), (0 : Int), (0 : Int), []) :: (((39 : Int), z10.toInt, (f 4).toInt, (0 : Int), []) :: gs)) < 100 * ((f 0).toInt - (f 4).toInt) + (3 + mg_p3 gs); omega
      · refine am_e13f hi_219_61 (am_cF (m := r2.toInt) (n := (1 : Int)) rfl (by decide) c9) ?_
        refine am_e2 (v := 39) hi_219_64 rfl ?_
        refine am_e2 (v := 39) hi_219_65 rfl ?_
        refine mm_20 (v := .int (f 4)) hS4 hi_219_66 rfl ?_
        refine am_e0 hi_219_69 ?_
        obtain ⟨z29, hz29, tz29⟩ := am_addI (x := f 4) (y := 1) (m := (f 4).toInt) (n := (1 : Int)) rfl (by decide) (by omega) (by omega)
        refine am_e10 (z := z29) hi_219_70 hz29 ?_
        refine am_e32n (as := [.ref 39, .int z29]) (la := [some (.ref 39), some (.int z29)]) (rest := []) hi_219_71 (am_hd0 (M := 219) (by decide) 71) (Nat.le_of_ble_eq_true rfl) (Nat.le_of_ble_eq_true rfl) (show 2 ≤ am_P0.2.2.1 184 from by decide +kernel) rfl (am_recv_ok hS4.fs) rfl rfl (ct_kindAt (d := (d + 5)) hS4   (by show (0 : Int) ≤ z29.toInt; omega) (by show (f 0).toInt ≤ (16384 : Int); omega)) ?_
        rintro v30 S31 (⟨r32, hv33, hS34, h35⟩)
        subst hv33
        have h35_ : z29.toInt < (f 0).toInt ∨ r32.toInt = (-1 : Int) := h35
        show am_E _ _ _ _ [some (.ref 39), some (.int on), some (.int r2), some (.int (f 4))] [.int r32] _ _
        refine am_e0 hi_219_74 ?_
        by_cases c37 : ¬ r32.toInt = (59 : Int)
        · refine am_e13t hi_219_76 (am_cT (m := r32.toInt) (n := (59 : Int)) rfl (by decide) c37) ?_
          refine am_e2 (v := 39) hi_219_106 rfl ?_
          refine am_e0 hi_219_107 ?_
          refine am_e1 (v := on) hi_219_109 rfl ?_
          refine am_e0 hi_219_110 ?_
          obtain ⟨z38, hz38⟩ : ∃ q__, am_bin 0 on 1 = q__ := ⟨_, rfl⟩
          refine am_e10 (z := z38) hi_219_111 hz38 ?_
          refine am_e1 (v := f 4) hi_219_112 rfl ?_
          refine am_e0 hi_219_113 ?_
          refine am_e32n (as := [.ref 39, .int 39, .int z38, .int (f 4), .int 0]) (la := [some (.ref 39), some (.int 39), some (.int z38), some (.int (f 4)), some (.int 0)]) (rest := []) hi_219_114 (am_hd0 (M := 219) (by decide) 114) (Nat.le_of_ble_eq_true rfl) (Nat.le_of_ble_eq_true rfl) (show 5 ≤ am_P0.2.2.1 179 from by decide +kernel) rfl (am_recv_ok hS34.fs) rfl rfl (ct_pile (d := (d + 5)) hS34 hR (mj_e_plain (by decide)) (by show (0 : Int) ≤ (f 10).toInt; omega) (by show (f 10).toInt ≤ (65535 : Int); omega)) ?_
          rintro v39 S40 (⟨z41, g'42, hv43, hS44, hR47, h45, h46⟩)
          subst hv43
          have h45_ : z41.toInt = (f 10).toInt + 1 := h45
          have h46_ : ∀ j, j ∉ [11, 12, 13, 14] → g'42 j = g j := h46
          have hR47_ : RJ (upd f 10 z41) g'42 (((39 : Int), z38.toInt, (f 4).toInt, (0 : Int), []) :: gs) bc [] 0 [] := hR47
          show am_E _ _ _ _ [some (.ref 39), some (.int on), some (.int r2), some (.int (f 4))] [] _ _
          refine am_e2 (v := 39) hi_219_117 rfl ?_
          refine am_e0 hi_219_118 ?_
          refine am_e32w (as := [.ref 39, .int 0]) (la := [some (.ref 39), some (.int 0)]) (rest := []) hi_219_119 (am_hd0 (M := 219) (by decide) 119) (Nat.le_of_ble_eq_true rfl) (Nat.le_of_ble_eq_true rfl) (show 2 ≤ am_P0.2.2.1 186 from by decide +kernel) rfl (am_recv_ok hS44.fs) rfl rfl ?_
          refine am_e2 (v := 39) hi_186_0 rfl ?_
          refine am_e0 hi_186_1 ?_
          refine am_e1 (v := 0) hi_186_3 rfl ?_
          refine am_e0 hi_186_4 ?_
          refine am_e0 hi_186_5 ?_
          refine am_e32n (as := [.ref 39, .int 23, .int 0, .int 0, .int 0]) (la := [some (.ref 39), some (.int 23), some (.int 0), some (.int 0), some (.int 0)]) (rest := []) hi_186_6 (am_hd0 (M := 186) (by decide) 6) (Nat.le_of_ble_eq_true rfl) (Nat.le_of_ble_eq_true rfl) (show 5 ≤ am_P0.2.2.1 179 from by decide +kernel) rfl (am_recv_ok hS44.fs) rfl rfl (ct_pile (d := (d + 4)) hS44 hR47_ (mj_e_plain (by decide)) (by show (0 : Int) ≤ z41.toInt; omega) (by show z41.toInt ≤ (65535 : Int); omega)) ?_
          rintro v48 S49 (⟨z50, g'51, hv52, hS53, hR56, h54, h55⟩)
          subst hv52
          have h54_ : z50.toInt = z41.toInt + 1 := h54
          have h55_ : ∀ j, j ∉ [11, 12, 13, 14] → g'51 j = g'42 j := h55
          replace hS53 : MS S0 S49 (upd f 10 z50) g'51 := hS53
          have hR56_ : RJ (upd f 10 z50) g'51 (((23 : Int), (0 : Int), (0 : Int), (0 : Int), []) :: (((39 : Int), z38.toInt, (f 4).toInt, (0 : Int), []) :: gs)) bc [] 0 [] := hR56
          show am_E _ _ _ _ [some (.ref 39), some (.int 0)] [] _ _
          refine am_e35 hi_186_9 ?_
          show am_E _ _ _ _ [some (.ref 39), some (.int on), some (.int r2), some (.int (f 4))] [] _ _
          refine am_e35 hi_219_122 ?_
          show am_E _ _ _ _ [some (.ref 39), some (.int 35), some (.int on), some (.int tw)] [] _ _
          refine am_e18 hi_181_266 ?_
          refine am_e35 hi_181_397 ?_
          show am_E _ _ _ _ [some (.ref 39), some (.int 35), some (.int on), some (.int tw), some (.int th)] [] _ _
          refine am_e35 hi_180_13 ?_
          have q1 : mg_p1 (((23 : Int), (0 : Int), (0 : Int), (0 : Int), []) :: (((39 : Int), z38.toInt, (f 4).toInt, (0 : Int), []) :: gs)) = 0 + (0 + (mg_p1 gs)) := rfl
          have q2 : mg_p2 (((23 : Int), (0 : Int), (0 : Int), (0 : Int), []) :: (((39 : Int), z38.toInt, (f 4).toInt, (0 : Int), []) :: gs)) = 0 + (0 + (mg_p2 gs)) := rfl
          have q3 : mg_p3 (((23 : Int), (0 : Int), (0 : Int), (0 : Int), []) :: (((39 : Int), z38.toInt, (f 4).toInt, (0 : Int), []) :: gs)) = 1 + (1 + (mg_p3 gs)) := rfl
          have q4 : mg_p4 (((23 : Int), (0 : Int), (0 : Int), (0 : Int), []) :: (((39 : Int), z38.toInt, (f 4).toInt, (0 : Int), []) :: gs)) = 0 + (0 + (mg_p4 gs)) := rfl
          refine ⟨_, _, _, bc, rfl, hS53, Or.inl ⟨⟨hR56_, ?_, ?_⟩, rfl, ?_⟩⟩
          · exact (⟨⟨(show mg_k 23 from by decide), (show (0 : Int) ≤ (f 15).toInt from by omega), (show 0 ≤ (f 20).toInt from by omega), (show 1 ≤ (f 37).toInt from by omega), (show 0 ≤ (f 32).toInt from by omega), (show (f 32).toInt ≤ (f 5).toInt from by omega), (show (f 5).toInt ≤ 48 from by omega), (show (f 37).toInt ≤ 2 * ((f 5).toInt) + 2 from by omega), (show 0 ≤ (0 : Int) from by omega)⟩, ⟨⟨(show mg_k 39 from by decide), (show (1 : Int) ≤ (f 15).toInt + 1 from by omega), (show 0 ≤ (f 20).toInt from by omega), (show 1 ≤ (f 37).toInt + 0 from by omega), (show 0 ≤ (f 32).toInt + 0 from by omega), (show (f 32).toInt + 0 ≤ (f 5).toInt + 0 from by omega), (show (f 5).toInt + 0 ≤ 48 from by omega), (show (f 37).toInt + 0 ≤ 2 * ((f 5).toInt + 0) + 2 from by omega), trivial⟩, mg_cast (mg_good_ext _ _ _ _ _ _ (fun i _ => by show g'51 34 i = g 34 i; rw [show g'51 34 = g'42 34 from h55_ 34 (by decide), show g'42 34 = g 34 from h46_ 34 (by decide)]) (fun i _ => by show g'51 38 i = g 38 i; rw [show g'51 38 = g'42 38 from h55_ 38 (by decide), show g'42 38 = g 38 from h46_ 38 (by decide)]) (fun i _ => by show g'51 23 i = g 23 i; rw [show g'51 23 = g'42 23 from h55_ 23 (by decide), show g'42 23 = g 23 from h46_ 23 (by decide)]) hrest) (by show (f 15).toInt + 0 = (f 15).toInt + 1 + -1; omega) (by show (f 20).toInt = (f 20).toInt; omega) (by show (f 37).toInt + 0 = (f 37).toInt + 0 + 0; omega) (by show (f 32).toInt + 0 = (f 32).toInt + 0 + 0; omega) (by show (f 5).toInt + -1 = (f 5).toInt + 0 + -1; omega)⟩⟩ : mg_good (g'51 34) (g'51 38) (g'51 23) (((23 : Int), (0 : Int), (0 : Int), (0 : Int), []) :: (((39 : Int), z38.toInt, (f 4).toInt, (0 : Int), []) :: gs)) ((f 15).toInt) ((f 20).toInt) ((f 37).toInt) ((f 32).toInt) ((f 5).toInt))
          · exact ⟨(by show 0 ≤ (f 4).toInt; omega), (by show (f 4).toInt ≤ (f 0).toInt; omega), (by show (f 0).toInt ≤ 512; omega), (by show 0 ≤ (f 24).toInt; omega), (by show (f 24).toInt + (f 20).toInt + mg_p1 (((23 : Int), (0 : Int), (0 : Int), (0 : Int), []) :: (((39 : Int), z38.toInt, (f 4).toInt, (0 : Int), []) :: gs)) ≤ 4 * (f 4).toInt; omega), (by show (f 20).toInt ≤ (f 4).toInt; omega), (by show (f 15).toInt + mg_p2 (((23 : Int), (0 : Int), (0 : Int), (0 : Int), []) :: (((39 : Int), z38.toInt, (f 4).toInt, (0 : Int), []) :: gs)) ≤ (f 4).toInt; omega), (by show mg_p3 (((23 : Int), (0 : Int), (0 : Int), (0 : Int), []) :: (((39 : Int), z38.toInt, (f 4).toInt, (0 : Int), []) :: gs)) ≤ 20 * (f 4).toInt + 20; omega), (by show 0 ≤ (f 68).toInt; omega), (by show (f 68).toInt + 3 * (f 20).toInt + mg_p4 (((23 : Int), (0 : Int), (0 : Int), (0 : Int), []) :: (((39 : Int), z38.toInt, (f 4).toInt, (0 : Int), []) :: gs)) ≤ 60 * (f 4).toInt + 60; omega), (by show 0 ≤ (f 62).toInt; omega), (by show (f 62).toInt + 64 * mj_n (g'51 16) (f 15).toNatClampNeg 3 ≤ 64 * (f 4).toInt; rw [show g'51 16 = g'42 16 from h55_ 16 (by decide), show g'42 16 = g 16 from h46_ 16 (by decide)]; omega), (by show 0 ≤ (f 44).toInt; omega), (by show (f 44).toInt ≤ (f 4).toInt; omega), (by show 0 ≤ (f 48).toInt; omega), (by show (f 48).toInt ≤ (f 4).toInt; omega), (by show 1 ≤ (f 53).toInt; omega), (by show (f 53).toInt ≤ (f 4).toInt + 1; omega), (by show 0 ≤ (f 19).toInt; omega), (by show (f 19).toInt ≤ 600; omega), (by show 0 ≤ (f 6).toInt; omega), (by show 0 ≤ (f 8).toInt; omega)⟩
          · show 100 * ((f 0).toInt - (f 4).toInt) + mg_p3 (((23 : Int), (0 : Int), (0 : Int), (0 : Int), []) :: (((39 : Int), z38.toInt, (f 4).toInt, (0 : Int), []) :: gs)) < 100 * ((f 0).toInt - (f 4).toInt) + (3 + mg_p3 gs); omega
        · refine am_e13f hi_219_76 (am_cF (m := r32.toInt) (n := (59 : Int)) rfl (by decide) c37) ?_
          refine am_e2 (v := 39) hi_219_79 rfl ?_
          refine am_e7 hi_219_80 ?_
          refine mm_20 (v := .int (f 4)) hS34 hi_219_81 rfl ?_
          refine am_e0 hi_219_84 ?_
          obtain ⟨z57, hz57, tz57⟩ := am_addI (x := f 4) (y := 2) (m := (f 4).toInt) (n := (2 : Int)) rfl (by decide) (by omega) (by omega)
          refine am_e10 (z := z57) hi_219_85 hz57 ?_
          refine mm_21 (v := z57) hS34 hi_219_86 rfl (Nat.le_of_ble_eq_true rfl) ms_4 ?_
          intro S58 hS59
          have hR60 : RJ (upd f 4 z57) g gs bc [] 0 [] := RJ.at hR (by show (f 4).toInt ≤ z57.toInt; omega)
          refine am_e2 (v := 39) hi_219_89 rfl ?_
          refine am_e0 hi_219_90 ?_
          refine am_e1 (v := on) hi_219_92 rfl ?_
          refine am_e1 (v := f 4) hi_219_93 rfl ?_
          refine am_e0 hi_219_94 ?_
          refine am_e32n (as := [.ref 39, .int 38, .int on, .int (f 4), .int 0]) (la := [some (.ref 39), some (.int 38), some (.int on), some (.int (f 4)), some (.int 0)]) (rest := []) hi_219_95 (am_hd0 (M := 219) (by decide) 95) (Nat.le_of_ble_eq_true rfl) (Nat.le_of_ble_eq_true rfl) (show 5 ≤ am_P0.2.2.1 179 from by decide +kernel) rfl (am_recv_ok hS59.fs) rfl rfl (ct_pile (d := (d + 5)) hS59 hR60 (mj_e_plain (by decide)) (by show (0 : Int) ≤ (f 10).toInt; omega) (by show (f 10).toInt ≤ (65535 : Int); omega)) ?_
          rintro v61 S62 (⟨z63, g'64, hv65, hS66, hR69, h67, h68⟩)
          subst hv65
          have h67_ : z63.toInt = (f 10).toInt + 1 := h67
          have h68_ : ∀ j, j ∉ [11, 12, 13, 14] → g'64 j = g j := h68
          have hR69_ : RJ (upd (upd f 4 z57) 10 z63) g'64 (((38 : Int), on.toInt, (f 4).toInt, (0 : Int), []) :: gs) bc [] 0 [] := hR69
          show am_E _ _ _ _ [some (.ref 39), some (.int on), some (.int r2), some (.int (f 4))] [] _ _
          refine am_e2 (v := 39) hi_219_98 rfl ?_
          refine am_e0 hi_219_99 ?_
          refine am_e32w (as := [.ref 39, .int 0]) (la := [some (.ref 39), some (.int 0)]) (rest := []) hi_219_100 (am_hd0 (M := 219) (by decide) 100) (Nat.le_of_ble_eq_true rfl) (Nat.le_of_ble_eq_true rfl) (show 2 ≤ am_P0.2.2.1 186 from by decide +kernel) rfl (am_recv_ok hS66.fs) rfl rfl ?_
          refine am_e2 (v := 39) hi_186_0 rfl ?_
          refine am_e0 hi_186_1 ?_
          refine am_e1 (v := 0) hi_186_3 rfl ?_
          refine am_e0 hi_186_4 ?_
          refine am_e0 hi_186_5 ?_
          refine am_e32n (as := [.ref 39, .int 23, .int 0, .int 0, .int 0]) (la := [some (.ref 39), some (.int 23), some (.int 0), some (.int 0), some (.int 0)]) (rest := []) hi_186_6 (am_hd0 (M := 186) (by decide) 6) (Nat.le_of_ble_eq_true rfl) (Nat.le_of_ble_eq_true rfl) (show 5 ≤ am_P0.2.2.1 179 from by decide +kernel) rfl (am_recv_ok hS66.fs) rfl rfl (ct_pile (d := (d + 4)) hS66 hR69_ (mj_e_plain (by decide)) (by show (0 : Int) ≤ z63.toInt; omega) (by show z63.toInt ≤ (65535 : Int); omega)) ?_
          rintro v70 S71 (⟨z72, g'73, hv74, hS75, hR78, h76, h77⟩)
          subst hv74
          have h76_ : z72.toInt = z63.toInt + 1 := h76
          have h77_ : ∀ j, j ∉ [11, 12, 13, 14] → g'73 j = g'64 j := h77
          replace hS75 : MS S0 S71 (upd (upd f 4 z57) 10 z72) g'73 := hS75
          have hR78_ : RJ (upd (upd f 4 z57) 10 z72) g'73 (((23 : Int), (0 : Int), (0 : Int), (0 : Int), []) :: (((38 : Int), on.toInt, (f 4).toInt, (0 : Int), []) :: gs)) bc [] 0 [] := hR78
          show am_E _ _ _ _ [some (.ref 39), some (.int 0)] [] _ _
          refine am_e35 hi_186_9 ?_
          show am_E _ _ _ _ [some (.ref 39), some (.int on), some (.int r2), some (.int (f 4))] [] _ _
          refine am_e18 hi_219_103 ?_
          refine am_e35 hi_219_122 ?_
          show am_E _ _ _ _ [some (.ref 39), some (.int 35), some (.int on), some (.int tw)] [] _ _
          refine am_e18 hi_181_266 ?_
          refine am_e35 hi_181_397 ?_
          show am_E _ _ _ _ [some (.ref 39), some (.int 35), some (.int on), some (.int tw), some (.int th)] [] _ _
          refine am_e35 hi_180_13 ?_
          have q1 : mg_p1 (((23 : Int), (0 : Int), (0 : Int), (0 : Int), []) :: (((38 : Int), on.toInt, (f 4).toInt, (0 : Int), []) :: gs)) = 0 + (0 + (mg_p1 gs)) := rfl
          have q2 : mg_p2 (((23 : Int), (0 : Int), (0 : Int), (0 : Int), []) :: (((38 : Int), on.toInt, (f 4).toInt, (0 : Int), []) :: gs)) = 0 + (0 + (mg_p2 gs)) := rfl
          have q3 : mg_p3 (((23 : Int), (0 : Int), (0 : Int), (0 : Int), []) :: (((38 : Int), on.toInt, (f 4).toInt, (0 : Int), []) :: gs)) = 1 + (1 + (mg_p3 gs)) := rfl
          have q4 : mg_p4 (((23 : Int), (0 : Int), (0 : Int), (0 : Int), []) :: (((38 : Int), on.toInt, (f 4).toInt, (0 : Int), []) :: gs)) = 0 + (0 + (mg_p4 gs)) := rfl
          refine ⟨_, _, _, bc, rfl, hS75, Or.inl ⟨⟨hR78_, ?_, ?_⟩, rfl, ?_⟩⟩
          · exact (⟨⟨(show mg_k 23 from by decide), (show (0 : Int) ≤ (f 15).toInt from by omega), (show 0 ≤ (f 20).toInt from by omega), (show 1 ≤ (f 37).toInt from by omega), (show 0 ≤ (f 32).toInt from by omega), (show (f 32).toInt ≤ (f 5).toInt from by omega), (show (f 5).toInt ≤ 48 from by omega), (show (f 37).toInt ≤ 2 * ((f 5).toInt) + 2 from by omega), (show 0 ≤ (0 : Int) from by omega)⟩, ⟨⟨(show mg_k 38 from by decide), (show (1 : Int) ≤ (f 15).toInt + 1 from by omega), (show 0 ≤ (f 20).toInt from by omega), (show 1 ≤ (f 37).toInt + 0 from by omega), (show 0 ≤ (f 32).toInt + 0 from by omega), (show (f 32).toInt + 0 ≤ (f 5).toInt + 0 from by omega), (show (f 5).toInt + 0 ≤ 48 from by omega), (show (f 37).toInt + 0 ≤ 2 * ((f 5).toInt + 0) + 2 from by omega), ⟨(show 0 ≤ (f 4).toInt from by omega), (show (f 4).toInt ≤ 16000 from by omega)⟩⟩, mg_cast (mg_good_ext _ _ _ _ _ _ (fun i _ => by show g'73 34 i = g 34 i; rw [show g'73 34 = g'64 34 from h77_ 34 (by decide), show g'64 34 = g 34 from h68_ 34 (by decide)]) (fun i _ => by show g'73 38 i = g 38 i; rw [show g'73 38 = g'64 38 from h77_ 38 (by decide), show g'64 38 = g 38 from h68_ 38 (by decide)]) (fun i _ => by show g'73 23 i = g 23 i; rw [show g'73 23 = g'64 23 from h77_ 23 (by decide), show g'64 23 = g 23 from h68_ 23 (by decide)]) hrest) (by show (f 15).toInt + 0 = (f 15).toInt + 1 + -1; omega) (by show (f 20).toInt = (f 20).toInt; omega) (by show (f 37).toInt + 0 = (f 37).toInt + 0 + 0; omega) (by show (f 32).toInt + 0 = (f 32).toInt + 0 + 0; omega) (by show (f 5).toInt + -1 = (f 5).toInt + 0 + -1; omega)⟩⟩ : mg_good (g'73 34) (g'73 38) (g'73 23) (((23 : Int), (0 : Int), (0 : Int), (0 : Int), []) :: (((38 : Int), on.toInt, (f 4).toInt, (0 : Int), []) :: gs)) ((f 15).toInt) ((f 20).toInt) ((f 37).toInt) ((f 32).toInt) ((f 5).toInt))
          · exact ⟨(by show 0 ≤ z57.toInt; omega), (by show z57.toInt ≤ (f 0).toInt; omega), (by show (f 0).toInt ≤ 512; omega), (by show 0 ≤ (f 24).toInt; omega), (by show (f 24).toInt + (f 20).toInt + mg_p1 (((23 : Int), (0 : Int), (0 : Int), (0 : Int), []) :: (((38 : Int), on.toInt, (f 4).toInt, (0 : Int), []) :: gs)) ≤ 4 * z57.toInt; omega), (by show (f 20).toInt ≤ z57.toInt; omega), (by show (f 15).toInt + mg_p2 (((23 : Int), (0 : Int), (0 : Int), (0 : Int), []) :: (((38 : Int), on.toInt, (f 4).toInt, (0 : Int), []) :: gs)) ≤ z57.toInt; omega), (by show mg_p3 (((23 : Int), (0 : Int), (0 : Int), (0 : Int), []) :: (((38 : Int), on.toInt, (f 4).toInt, (0 : Int), []) :: gs)) ≤ 20 * z57.toInt + 20; omega), (by show 0 ≤ (f 68).toInt; omega), (by show (f 68).toInt + 3 * (f 20).toInt + mg_p4 (((23 : Int), (0 : Int), (0 : Int), (0 : Int), []) :: (((38 : Int), on.toInt, (f 4).toInt, (0 : Int), []) :: gs)) ≤ 60 * z57.toInt + 60; omega), (by show 0 ≤ (f 62).toInt; omega), (by show (f 62).toInt + 64 * mj_n (g'73 16) (f 15).toNatClampNeg 3 ≤ 64 * z57.toInt; rw [show g'73 16 = g'64 16 from h77_ 16 (by decide), show g'64 16 = g 16 from h68_ 16 (by decide)]; omega), (by show 0 ≤ (f 44).toInt; omega), (by show (f 44).toInt ≤ z57.toInt; omega), (by show 0 ≤ (f 48).toInt; omega), (by show (f 48).toInt ≤ z57.toInt; omega), (by show 1 ≤ (f 53).toInt; omega), (by show (f 53).toInt ≤ z57.toInt + 1; omega), (by show 0 ≤ (f 19).toInt; omega), (by show (f 19).toInt ≤ 600; omega), (by show 0 ≤ (f 6).toInt; omega), (by show 0 ≤ (f 8).toInt; omega)⟩
          · show 100 * ((f 0).toInt - z57.toInt) + mg_p3 (((23 : Int), (0 : Int), (0 : Int), (0 : Int), []) :: (((38 : Int), on.toInt, (f 4).toInt, (0 : Int), []) :: gs)) < 100 * ((f 0).toInt - (f 4).toInt) + (3 + mg_p3 gs); omega
    · refine am_e13f hi_219_29 (am_cF (m := r2.toInt) (n := (64 : Int)) rfl (by decide) c8) ?_
      refine am_e2 (v := 39) hi_219_32 rfl ?_
      refine am_e0 hi_219_33 ?_
      refine am_e32n (as := [.ref 39, .int 64]) (la := [some (.ref 39), some (.int 64)]) (rest := []) hi_219_35 (am_hd0 (M := 219) (by decide) 35) (Nat.le_of_ble_eq_true rfl) (Nat.le_of_ble_eq_true rfl) (show 2 ≤ am_P0.2.2.1 193 from by decide +kernel) rfl (am_recv_ok hS4.fs) rfl rfl (ct_enter (d := (d + 3)) hS4   (by show (0 : Int) ≤ (f 4).toInt; omega) (by show (f 0).toInt ≤ (16384 : Int); omega) (by show (0 : Int) ≤ (64 : Int); omega) (by show (0 : Int) ≤ (f 5).toInt; omega) (by show (f 5).toInt ≤ (48 : Int); omega) (by show (0 : Int) ≤ (f 6).toInt; omega)) ?_
      rintro v79 S80 (⟨z81, y82, hv83, hS84, h85, h86, h87, h88⟩ | ⟨a90, b91, hv92, hS93, h94⟩)
      · subst hv83
        have h85_ : z81.toInt = (f 4).toInt + 1 := h85
        have h86_ : (f 4).toInt < (f 0).toInt := h86
        have h87_ : y82.toInt = (f 5).toInt + 1 := h87
        have h88_ : y82.toInt ≤ (48 : Int) := h88
        replace hS84 : MS S0 S80 (upd (upd f 4 z81) 5 y82) g := hS84
        have hR96 : RJ (upd (upd f 4 z81) 5 y82) g gs bc [] 0 [] := RJ.at hR (by show (f 4).toInt ≤ z81.toInt; omega)
        show am_E _ _ _ _ [some (.ref 39), some (.int on), some (.int r2), some (.int (f 4))] [.int 1] _ _
        refine am_e12t hi_219_38 (by decide) ?_
        refine am_e2 (v := 39) hi_219_42 rfl ?_
        refine am_e0 hi_219_43 ?_
        refine am_e1 (v := on) hi_219_45 rfl ?_
        refine am_e1 (v := f 4) hi_219_46 rfl ?_
        refine am_e0 hi_219_47 ?_
        refine am_e32n (as := [.ref 39, .int 36, .int on, .int (f 4), .int 0]) (la := [some (.ref 39), some (.int 36), some (.int on), some (.int (f 4)), some (.int 0)]) (rest := []) hi_219_48 (am_hd0 (M := 219) (by decide) 48) (Nat.le_of_ble_eq_true rfl) (Nat.le_of_ble_eq_true rfl) (show 5 ≤ am_P0.2.2.1 179 from by decide +kernel) rfl (am_recv_ok hS84.fs) rfl rfl (ct_pile (d := (d + 5)) hS84 hR96 (mj_e_plain (by decide)) (by show (0 : Int) ≤ (f 10).toInt; omega) (by show (f 10).toInt ≤ (65535 : Int); omega)) ?_
        rintro v97 S98 (⟨z99, g'100, hv101, hS102, hR105, h103, h104⟩)
        subst hv101
        have h103_ : z99.toInt = (f 10).toInt + 1 := h103
        have h104_ : ∀ j, j ∉ [11, 12, 13, 14] → g'100 j = g j := h104
        have hR105_ : RJ (upd (upd (upd f 4 z81) 5 y82) 10 z99) g'100 (((36 : Int), on.toInt, (f 4).toInt, (0 : Int), []) :: gs) bc [] 0 [] := hR105
        show am_E _ _ _ _ [some (.ref 39), some (.int on), some (.int r2), some (.int (f 4))] [] _ _
        refine am_e2 (v := 39) hi_219_51 rfl ?_
        refine am_e0 hi_219_52 ?_
        refine am_e32w (as := [.ref 39, .int 0]) (la := [some (.ref 39), some (.int 0)]) (rest := []) hi_219_53 (am_hd0 (M := 219) (by decide) 53) (Nat.le_of_ble_eq_true rfl) (Nat.le_of_ble_eq_true rfl) (show 2 ≤ am_P0.2.2.1 186 from by decide +kernel) rfl (am_recv_ok hS102.fs) rfl rfl ?_
        refine am_e2 (v := 39) hi_186_0 rfl ?_
        refine am_e0 hi_186_1 ?_
        refine am_e1 (v := 0) hi_186_3 rfl ?_
        refine am_e0 hi_186_4 ?_
        refine am_e0 hi_186_5 ?_
        refine am_e32n (as := [.ref 39, .int 23, .int 0, .int 0, .int 0]) (la := [some (.ref 39), some (.int 23), some (.int 0), some (.int 0), some (.int 0)]) (rest := []) hi_186_6 (am_hd0 (M := 186) (by decide) 6) (Nat.le_of_ble_eq_true rfl) (Nat.le_of_ble_eq_true rfl) (show 5 ≤ am_P0.2.2.1 179 from by decide +kernel) rfl (am_recv_ok hS102.fs) rfl rfl (ct_pile (d := (d + 4)) hS102 hR105_ (mj_e_plain (by decide)) (by show (0 : Int) ≤ z99.toInt; omega) (by show z99.toInt ≤ (65535 : Int); omega)) ?_
        rintro v106 S107 (⟨z108, g'109, hv110, hS111, hR114, h112, h113⟩)
        subst hv110
        have h112_ : z108.toInt = z99.toInt + 1 := h112
        have h113_ : ∀ j, j ∉ [11, 12, 13, 14] → g'109 j = g'100 j := h113
        replace hS111 : MS S0 S107 (upd (upd (upd f 4 z81) 5 y82) 10 z108) g'109 := hS111
        have hR114_ : RJ (upd (upd (upd f 4 z81) 5 y82) 10 z108) g'109 (((23 : Int), (0 : Int), (0 : Int), (0 : Int), []) :: (((36 : Int), on.toInt, (f 4).toInt, (0 : Int), []) :: gs)) bc [] 0 [] := hR114
        show am_E _ _ _ _ [some (.ref 39), some (.int 0)] [] _ _
        refine am_e35 hi_186_9 ?_
        show am_E _ _ _ _ [some (.ref 39), some (.int on), some (.int r2), some (.int (f 4))] [] _ _
        refine am_e18 hi_219_56 ?_
        refine am_e35 hi_219_122 ?_
        show am_E _ _ _ _ [some (.ref 39), some (.int 35), some (.int on), some (.int tw)] [] _ _
        refine am_e18 hi_181_266 ?_
        refine am_e35 hi_181_397 ?_
        show am_E _ _ _ _ [some (.ref 39), some (.int 35), some (.int on), some (.int tw), some (.int th)] [] _ _
        refine am_e35 hi_180_13 ?_
        have q1 : mg_p1 (((23 : Int), (0 : Int), (0 : Int), (0 : Int), []) :: (((36 : Int), on.toInt, (f 4).toInt, (0 : Int), []) :: gs)) = 0 + (0 + (mg_p1 gs)) := rfl
        have q2 : mg_p2 (((23 : Int), (0 : Int), (0 : Int), (0 : Int), []) :: (((36 : Int), on.toInt, (f 4).toInt, (0 : Int), []) :: gs)) = 0 + (0 + (mg_p2 gs)) := rfl
        have q3 : mg_p3 (((23 : Int), (0 : Int), (0 : Int), (0 : Int), []) :: (((36 : Int), on.toInt, (f 4).toInt, (0 : Int), []) :: gs)) = 1 + (1 + (mg_p3 gs)) := rfl
        have q4 : mg_p4 (((23 : Int), (0 : Int), (0 : Int), (0 : Int), []) :: (((36 : Int), on.toInt, (f 4).toInt, (0 : Int), []) :: gs)) = 0 + (0 + (mg_p4 gs)) := rfl
        refine ⟨_, _, _, bc, rfl, hS111, Or.inl ⟨⟨hR114_, ?_, ?_⟩, rfl, ?_⟩⟩
        · exact (⟨⟨(show mg_k 23 from by decide), (show (0 : Int) ≤ (f 15).toInt from by omega), (show 0 ≤ (f 20).toInt from by omega), (show 1 ≤ (f 37).toInt from by omega), (show 0 ≤ (f 32).toInt from by omega), (show (f 32).toInt ≤ y82.toInt from by omega), (show y82.toInt ≤ 48 from by omega), (show (f 37).toInt ≤ 2 * (y82.toInt) + 2 from by omega), (show 0 ≤ (0 : Int) from by omega)⟩, ⟨⟨(show mg_k 36 from by decide), (show (1 : Int) ≤ (f 15).toInt + 1 from by omega), (show 0 ≤ (f 20).toInt from by omega), (show 1 ≤ (f 37).toInt + 0 from by omega), (show 0 ≤ (f 32).toInt + 0 from by omega), (show (f 32).toInt + 0 ≤ y82.toInt + 0 from by omega), (show y82.toInt + 0 ≤ 48 from by omega), (show (f 37).toInt + 0 ≤ 2 * (y82.toInt + 0) + 2 from by omega), trivial⟩, mg_cast (mg_good_ext _ _ _ _ _ _ (fun i _ => by show g'109 34 i = g 34 i; rw [show g'109 34 = g'100 34 from h113_ 34 (by decide), show g'100 34 = g 34 from h104_ 34 (by decide)]) (fun i _ => by show g'109 38 i = g 38 i; rw [show g'109 38 = g'100 38 from h113_ 38 (by decide), show g'100 38 = g 38 from h104_ 38 (by decide)]) (fun i _ => by show g'109 23 i = g 23 i; rw [show g'109 23 = g'100 23 from h113_ 23 (by decide), show g'100 23 = g 23 from h104_ 23 (by decide)]) hrest) (by show (f 15).toInt + 0 = (f 15).toInt + 1 + -1; omega) (by show (f 20).toInt = (f 20).toInt; omega) (by show (f 37).toInt + 0 = (f 37).toInt + 0 + 0; omega) (by show (f 32).toInt + 0 = (f 32).toInt + 0 + 0; omega) (by show (f 5).toInt + -1 = y82.toInt + 0 + -2; omega)⟩⟩ : mg_good (g'109 34) (g'109 38) (g'109 23) (((23 : Int), (0 : Int), (0 : Int), (0 : Int), []) :: (((36 : Int), on.toInt, (f 4).toInt, (0 : Int), []) :: gs)) ((f 15).toInt) ((f 20).toInt) ((f 37).toInt) ((f 32).toInt) (y82.toInt))
        · exact ⟨(by show 0 ≤ z81.toInt; omega), (by show z81.toInt ≤ (f 0).toInt; omega), (by show (f 0).toInt ≤ 512; omega), (by show 0 ≤ (f 24).toInt; omega), (by show (f 24).toInt + (f 20).toInt + mg_p1 (((23 : Int), (0 : Int), (0 : Int), (0 : Int), []) :: (((36 : Int), on.toInt, (f 4).toInt, (0 : Int), []) :: gs)) ≤ 4 * z81.toInt; omega), (by show (f 20).toInt ≤ z81.toInt; omega), (by show (f 15).toInt + mg_p2 (((23 : Int), (0 : Int), (0 : Int), (0 : Int), []) :: (((36 : Int), on.toInt, (f 4).toInt, (0 : Int), []) :: gs)) ≤ z81.toInt; omega), (by show mg_p3 (((23 : Int), (0 : Int), (0 : Int), (0 : Int), []) :: (((36 : Int), on.toInt, (f 4).toInt, (0 : Int), []) :: gs)) ≤ 20 * z81.toInt + 20; omega), (by show 0 ≤ (f 68).toInt; omega), (by show (f 68).toInt + 3 * (f 20).toInt + mg_p4 (((23 : Int), (0 : Int), (0 : Int), (0 : Int), []) :: (((36 : Int), on.toInt, (f 4).toInt, (0 : Int), []) :: gs)) ≤ 60 * z81.toInt + 60; omega), (by show 0 ≤ (f 62).toInt; omega), (by show (f 62).toInt + 64 * mj_n (g'109 16) (f 15).toNatClampNeg 3 ≤ 64 * z81.toInt; rw [show g'109 16 = g'100 16 from h113_ 16 (by decide), show g'100 16 = g 16 from h104_ 16 (by decide)]; omega), (by show 0 ≤ (f 44).toInt; omega), (by show (f 44).toInt ≤ z81.toInt; omega), (by show 0 ≤ (f 48).toInt; omega), (by show (f 48).toInt ≤ z81.toInt; omega), (by show 1 ≤ (f 53).toInt; omega), (by show (f 53).toInt ≤ z81.toInt + 1; omega), (by show 0 ≤ (f 19).toInt; omega), (by show (f 19).toInt ≤ 600; omega), (by show 0 ≤ (f 6).toInt; omega), (by show 0 ≤ (f 8).toInt; omega)⟩
        · show 100 * ((f 0).toInt - z81.toInt) + mg_p3 (((23 : Int), (0 : Int), (0 : Int), (0 : Int), []) :: (((36 : Int), on.toInt, (f 4).toInt, (0 : Int), []) :: gs)) < 100 * ((f 0).toInt - (f 4).toInt) + (3 + mg_p3 gs); omega
      · subst hv92
        have h94_ : (0 : Int) ≤ a90.toInt := h94
        have hR115 := rj_clear0 hR
        have hR116 : RJ (upd (upd (upd f 6 a90) 7 b91) 10 0) g [] bc [] 0 [] := hR115
        show am_E _ _ _ _ [some (.ref 39), some (.int on), some (.int r2), some (.int (f 4))] [.int 0] _ _
        refine am_e12f hi_219_38 (by decide) ?_
        refine am_e35 hi_219_41 ?_
        show am_E _ _ _ _ [some (.ref 39), some (.int 35), some (.int on), some (.int tw)] [] _ _
        refine am_e18 hi_181_266 ?_
        refine am_e35 hi_181_397 ?_
        show am_E _ _ _ _ [some (.ref 39), some (.int 35), some (.int on), some (.int tw), some (.int th)] [] _ _
        refine am_e35 hi_180_13 ?_
        have hRc := rj_clear0 hR116
        refine ⟨_, _, [], _, rfl, hS93, Or.inr ⟨hRc, rfl, (by show 0 ≤ (f 4).toInt; omega), (by show (f 4).toInt ≤ (f 0).toInt; omega), (by show 0 ≤ (f 32).toInt; omega), (by show (f 32).toInt ≤ 63; omega), (by show 1 ≤ (f 53).toInt; omega), (by show (f 53).toInt ≤ 600; omega), (by show 0 ≤ (f 68).toInt; omega), (by show (f 68).toInt ≤ 60000; omega), (by show 0 ≤ (f 48).toInt; omega), (by show (f 48).toInt ≤ 8000; omega), (by show 0 ≤ (f 37).toInt; omega), (by show (f 37).toInt ≤ 128; omega), (by show 0 ≤ (f 62).toInt; omega), (by show (f 62).toInt ≤ 65000; omega), (by show 0 ≤ (f 19).toInt; omega), (by show (f 19).toInt ≤ 600; omega), (by show 0 ≤ a90.toInt; omega), (by show 0 ≤ (f 8).toInt; omega)⟩⟩
  · refine am_e13f hi_219_13 (am_cF (m := r2.toInt) (n := (63 : Int)) rfl (by decide) c7) ?_
    refine am_e2 (v := 39) hi_219_16 rfl ?_
    refine am_e0 hi_219_17 ?_
    refine am_e32n (as := [.ref 39, .int 63]) (la := [some (.ref 39), some (.int 63)]) (rest := []) hi_219_19 (am_hd0 (M := 219) (by decide) 19) (Nat.le_of_ble_eq_true rfl) (Nat.le_of_ble_eq_true rfl) (show 2 ≤ am_P0.2.2.1 199 from by decide +kernel) rfl (am_recv_ok hS4.fs) rfl rfl (ct_leave (d := (d + 2)) hS4   (by show (0 : Int) ≤ (f 4).toInt; omega) (by show (f 0).toInt ≤ (16384 : Int); omega) (by show (0 : Int) ≤ (63 : Int); omega) (by show (0 : Int) ≤ (f 5).toInt; omega) (by show (f 5).toInt ≤ (48 : Int); omega) (by show (0 : Int) ≤ (f 6).toInt; omega)) ?_
    rintro v117 S118 (⟨z119, y120, hv121, hS122, h123, h124, h125⟩ | ⟨a127, b128, hv129, hS130, h131⟩)
    · subst hv121
      have h123_ : z119.toInt = (f 4).toInt + 1 := h123
      have h124_ : (f 4).toInt < (f 0).toInt := h124
      have h125_ : y120.toInt = (f 5).toInt - 1 := h125
      have hR133 : RJ (upd (upd f 4 z119) 5 y120) g gs bc [] 0 [] := RJ.at hR (by show (f 4).toInt ≤ z119.toInt; omega)
      show am_E _ _ _ _ [some (.ref 39), some (.int on), some (.int r2), some (.int (f 4))] [.int 1] _ _
      refine am_e6i hi_219_22 ?_
      refine am_e18 hi_219_23 ?_
      refine am_e35 hi_219_122 ?_
      show am_E _ _ _ _ [some (.ref 39), some (.int 35), some (.int on), some (.int tw)] [] _ _
      refine am_e18 hi_181_266 ?_
      refine am_e35 hi_181_397 ?_
      show am_E _ _ _ _ [some (.ref 39), some (.int 35), some (.int on), some (.int tw), some (.int th)] [] _ _
      refine am_e35 hi_180_13 ?_
      have q1 : mg_p1 gs = mg_p1 gs := rfl
      have q2 : mg_p2 gs = mg_p2 gs := rfl
      have q3 : mg_p3 gs = mg_p3 gs := rfl
      have q4 : mg_p4 gs = mg_p4 gs := rfl
      refine ⟨_, _, _, bc, rfl, hS122, Or.inl ⟨⟨hR133, ?_, ?_⟩, rfl, ?_⟩⟩
      · exact (mg_cast (mg_good_ext _ _ _ _ _ _ (fun _ _ => rfl) (fun _ _ => rfl) (fun _ _ => rfl) hrest) (by show (f 15).toInt + 0 = (f 15).toInt; omega) (by show (f 20).toInt = (f 20).toInt; omega) (by show (f 37).toInt + 0 = (f 37).toInt; omega) (by show (f 32).toInt + 0 = (f 32).toInt; omega) (by show (f 5).toInt + -1 = y120.toInt; omega) : mg_good (g 34) (g 38) (g 23) gs ((f 15).toInt) ((f 20).toInt) ((f 37).toInt) ((f 32).toInt) (y120.toInt))
      · exact ⟨(by show 0 ≤ z119.toInt; omega), (by show z119.toInt ≤ (f 0).toInt; omega), (by show (f 0).toInt ≤ 512; omega), (by show 0 ≤ (f 24).toInt; omega), (by show (f 24).toInt + (f 20).toInt + mg_p1 gs ≤ 4 * z119.toInt; omega), (by show (f 20).toInt ≤ z119.toInt; omega), (by show (f 15).toInt + mg_p2 gs ≤ z119.toInt; omega), (by show mg_p3 gs ≤ 20 * z119.toInt + 20; omega), (by show 0 ≤ (f 68).toInt; omega), (by show (f 68).toInt + 3 * (f 20).toInt + mg_p4 gs ≤ 60 * z119.toInt + 60; omega), (by show 0 ≤ (f 62).toInt; omega), (by show (f 62).toInt + 64 * mj_n (g 16) (f 15).toNatClampNeg 3 ≤ 64 * z119.toInt; omega), (by show 0 ≤ (f 44).toInt; omega), (by show (f 44).toInt ≤ z119.toInt; omega), (by show 0 ≤ (f 48).toInt; omega), (by show (f 48).toInt ≤ z119.toInt; omega), (by show 1 ≤ (f 53).toInt; omega), (by show (f 53).toInt ≤ z119.toInt + 1; omega), (by show 0 ≤ (f 19).toInt; omega), (by show (f 19).toInt ≤ 600; omega), (by show 0 ≤ (f 6).toInt; omega), (by show 0 ≤ (f 8).toInt; omega)⟩
      · show 100 * ((f 0).toInt - z119.toInt) + mg_p3 gs < 100 * ((f 0).toInt - (f 4).toInt) + (3 + mg_p3 gs); omega
    · subst hv129
      have h131_ : (0 : Int) ≤ a127.toInt := h131
      have hR134 := rj_clear0 hR
      have hR135 : RJ (upd (upd (upd f 6 a127) 7 b128) 10 0) g [] bc [] 0 [] := hR134
      show am_E _ _ _ _ [some (.ref 39), some (.int on), some (.int r2), some (.int (f 4))] [.int 0] _ _
      refine am_e6i hi_219_22 ?_
      refine am_e18 hi_219_23 ?_
      refine am_e35 hi_219_122 ?_
      show am_E _ _ _ _ [some (.ref 39), some (.int 35), some (.int on), some (.int tw)] [] _ _
      refine am_e18 hi_181_266 ?_
      refine am_e35 hi_181_397 ?_
      show am_E _ _ _ _ [some (.ref 39), some (.int 35), some (.int on), some (.int tw), some (.int th)] [] _ _
      refine am_e35 hi_180_13 ?_
      have hRc := rj_clear0 hR135
      refine ⟨_, _, [], _, rfl, hS130, Or.inr ⟨hRc, rfl, (by show 0 ≤ (f 4).toInt; omega), (by show (f 4).toInt ≤ (f 0).toInt; omega), (by show 0 ≤ (f 32).toInt; omega), (by show (f 32).toInt ≤ 63; omega), (by show 1 ≤ (f 53).toInt; omega), (by show (f 53).toInt ≤ 600; omega), (by show 0 ≤ (f 68).toInt; omega), (by show (f 68).toInt ≤ 60000; omega), (by show 0 ≤ (f 48).toInt; omega), (by show (f 48).toInt ≤ 8000; omega), (by show 0 ≤ (f 37).toInt; omega), (by show (f 37).toInt ≤ 128; omega), (by show 0 ≤ (f 62).toInt; omega), (by show (f 62).toInt ≤ 65000; omega), (by show 0 ≤ (f 19).toInt; omega), (by show (f 19).toInt ≤ 600; omega), (by show 0 ≤ a127.toInt; omega), (by show 0 ≤ (f 8).toInt; omega)⟩⟩
theorem st_36 {sc : Nat × (Nat → Int32)} {d : Nat} {S0 S : am_S} {f : Nat → Int32} {g : Nat → Nat → Int32} {on : Int32} {tw : Int32} {th : Int32} {gs : List mg_E} {bc : List (List Nat)} (hS : MS S0 S f g) (hR : RJ f g gs bc [] 0 []) (hrest : mg_good (g 34) (g 38) (g 23) gs ((f 15).toInt + -1) ((f 20).toInt) ((f 37).toInt + 0) ((f 32).toInt + 0) ((f 5).toInt + -2)) (p0 : 0 ≤ (f 4).toInt) (p1 : (f 4).toInt ≤ (f 0).toInt) (p2 : (f 0).toInt ≤ 512) (p3 : 0 ≤ (f 24).toInt) (p4 : (f 24).toInt + (f 20).toInt + mg_p1 gs ≤ 4 * (f 4).toInt) (p5 : (f 20).toInt ≤ (f 4).toInt) (p6 : (f 15).toInt + 0 + mg_p2 gs ≤ (f 4).toInt) (p7 : 1 + mg_p3 gs ≤ 20 * (f 4).toInt + 20) (p8 : 0 ≤ (f 68).toInt) (p9 : (f 68).toInt + 3 * (f 20).toInt + 0 + mg_p4 gs ≤ 60 * (f 4).toInt + 60) (p10 : 0 ≤ (f 62).toInt) (p11 : (f 62).toInt + 64 * mj_n (g 16) (f 15).toNatClampNeg 3 ≤ 64 * (f 4).toInt) (p12 : 0 ≤ (f 44).toInt) (p13 : (f 44).toInt ≤ (f 4).toInt) (p14 : 0 ≤ (f 48).toInt) (p15 : (f 48).toInt ≤ (f 4).toInt) (p16 : 1 ≤ (f 53).toInt) (p17 : (f 53).toInt ≤ (f 4).toInt + 1) (p18 : 0 ≤ (f 19).toInt) (p19 : (f 19).toInt ≤ 600) (p20 : 0 ≤ (f 6).toInt) (p21 : 0 ≤ (f 8).toInt) (p22 : 0 ≤ mg_p1 gs) (p23 : 0 ≤ mg_p2 gs) (p24 : 0 ≤ mg_p4 gs) (p25 : 0 ≤ (f 10).toInt) (p26 : (f 10).toInt ≤ mg_p3 gs) (p27 : 0 ≤ mj_n (g 16) (f 15).toNatClampNeg 3) (p28 : 1 ≤ (f 15).toInt) (p29 : 0 ≤ (f 20).toInt) (p30 : 1 ≤ (f 37).toInt) (p31 : 0 ≤ (f 32).toInt) (p32 : (f 32).toInt ≤ (f 5).toInt) (p33 : (f 5).toInt ≤ 48) (p34 : (f 37).toInt ≤ 2 * (f 5).toInt + 2) : am_E (am_PP sc) (d + 8) 180 0 [some (.ref 39), some (.int 36), some (.int on), some (.int tw), some (.int th)] [] S (am_N fun v S1 => ∃ (f' : Nat → Int32) (g' : Nat → Nat → Int32) (gs' : List mg_E) (bc' : List (List Nat)), v = none ∧ MS S0 S1 f' g' ∧ (mg_on f (100 * ((f 0).toInt - (f 4).toInt) + (1 + mg_p3 gs)) f' g' gs' bc' ∨ mg_off f f' g' bc')) := by
  have hbs := mg_basic hrest
  refine am_e1 (v := 36) hi_180_0 rfl ?_
  refine am_e0 hi_180_1 ?_
  refine am_e13f hi_180_3 (by decide) ?_
  refine am_e2 (v := 39) hi_180_6 rfl ?_
  refine am_e1 (v := 36) hi_180_7 rfl ?_
  refine am_e1 (v := on) hi_180_8 rfl ?_
  refine am_e1 (v := tw) hi_180_9 rfl ?_
  refine am_e32w (as := [.ref 39, .int 36, .int on, .int tw]) (la := [some (.ref 39), some (.int 36), some (.int on), some (.int tw)]) (rest := []) hi_180_10 (am_hd0 (M := 180) (by decide) 10) (Nat.le_of_ble_eq_true rfl) (Nat.le_of_ble_eq_true rfl) (show 4 ≤ am_P0.2.2.1 181 from by decide +kernel) rfl (am_recv_ok hS.fs) rfl rfl ?_
  refine am_e1 (v := 36) hi_181_0 rfl ?_
  refine am_e19 (t := 269) hi_181_1 (by decide) ?_
  refine am_e2 (v := 39) hi_181_269 rfl ?_
  refine am_e32w (as := [.ref 39]) (la := [some (.ref 39)]) (rest := []) hi_181_270 (am_hd0 (M := 181) (by decide) 270) (Nat.le_of_ble_eq_true rfl) (Nat.le_of_ble_eq_true rfl) (show 1 ≤ am_P0.2.2.1 209 from by decide +kernel) rfl (am_recv_ok hS.fs) rfl rfl ?_
  refine am_e2 (v := 39) hi_209_0 rfl ?_
  refine am_e32n (as := [.ref 39]) (la := [some (.ref 39), none, none, none]) (rest := []) hi_209_1 (am_hd0 (M := 209) (by decide) 1) (Nat.le_of_ble_eq_true rfl) (Nat.le_of_ble_eq_true rfl) (show 1 ≤ am_P0.2.2.1 204 from by decide +kernel) rfl (am_recv_ok hS.fs) rfl rfl (ct_load (d := (d + 3)) hS hR  (by show (0 : Int) ≤ (f 32).toInt; omega) (by show (f 32).toInt ≤ (63 : Int); omega) (by show (f 53).toInt ≤ (4096 : Int); omega) (by show (0 : Int) ≤ (f 68).toInt; omega) (by show (f 68).toInt ≤ (65534 : Int); omega) (by show (1 : Int) ≤ (f 15).toInt; omega) (by show (f 15).toInt ≤ (32767 : Int); omega) (by show (0 : Int) ≤ (f 24).toInt; omega) (by show (f 24).toInt ≤ (16384 : Int); omega) (by show (0 : Int) ≤ (f 62).toInt; omega) (by show (f 62).toInt ≤ (65000 : Int); omega)) ?_
  rintro v0 S1 (⟨o2, s3, m4, g'5, hv6, hS7, hR14, h8, h9, h10, h11, h12, h13⟩)
  subst hv6
  have h8_ : (f 62).toInt ≤ o2.toInt := h8
  have h9_ : o2.toInt ≤ (f 62).toInt + 64 := h9
  have h10_ : (f 68).toInt ≤ s3.toInt := h10
  have h11_ : s3.toInt ≤ (f 68).toInt + 1 := h11
  have h12_ : o2.toInt + 64 * mj_n (g'5 16) (f 15).toNatClampNeg 3 ≤ (f 62).toInt + 64 * mj_n (g 16) (f 15).toNatClampNeg 3 := h12
  have h13_ : ∀ j, j ∉ [16, 60, 63, 64, 65, 66, 67, 69, 70, 71, 72, 73] → g'5 j = g j := h13
  have hR14_ : RJ (upd (upd (upd f 62 o2) 68 s3) 75 m4) g'5 gs bc [] 0 [] := hR14
  show am_E _ _ _ _ [some (.ref 39)] [] _ _
  refine am_e2 (v := 39) hi_209_4 rfl ?_
  refine am_e7 hi_209_5 ?_
  refine mm_20 (v := .int (f 15)) hS7 hi_209_6 rfl ?_
  refine am_e0 hi_209_9 ?_
  obtain ⟨z15, hz15, tz15⟩ := am_subI (x := f 15) (y := 1) (m := (f 15).toInt) (n := (1 : Int)) rfl (by decide) (by omega) (by omega)
  refine am_e10 (z := z15) hi_209_10 hz15 ?_
  refine mm_21 (v := z15) hS7 hi_209_11 rfl (Nat.le_of_ble_eq_true rfl) ms_15 ?_
  intro S16 hS17
  replace hS17 : MS S0 S16 (upd (upd (upd (upd f 15 z15) 62 o2) 68 s3) 75 m4) g'5 := hS17
  have hp18 : mj_n (g'5 16) (f 15).toNatClampNeg 3 = mj_n (g'5 16) z15.toNatClampNeg 3 + if (g'5 16 z15.toNatClampNeg).toInt = 3 then 1 else 0 := mj_pop (by rw [cl_toNat, cl_toNat]; omega)
  have hp181 : mj_n (g'5 16) z15.toNatClampNeg 3 ≤ mj_n (g'5 16) (f 15).toNatClampNeg 3 := by rw [hp18]; split <;> omega
  have hp182 : (g'5 16 z15.toNatClampNeg).toInt = 3 → mj_n (g'5 16) z15.toNatClampNeg 3 + 1 ≤ mj_n (g'5 16) (f 15).toNatClampNeg 3 := fun q => by rw [hp18, if_pos q]; exact Int.le_refl _
  refine am_e35 hi_209_14 ?_
  show am_E _ _ _ _ [some (.ref 39), some (.int 36), some (.int on), some (.int tw)] [] _ _
  refine am_e2 (v := 39) hi_181_273 rfl ?_
  refine am_e0 hi_181_274 ?_
  refine am_e32n (as := [.ref 39, .int 65]) (la := [some (.ref 39), some (.int 65)]) (rest := []) hi_181_276 (am_hd0 (M := 181) (by decide) 276) (Nat.le_of_ble_eq_true rfl) (Nat.le_of_ble_eq_true rfl) (show 2 ≤ am_P0.2.2.1 199 from by decide +kernel) rfl (am_recv_ok hS17.fs) rfl rfl (ct_leave (d := (d + 3)) hS17   (by show (0 : Int) ≤ (f 4).toInt; omega) (by show (f 0).toInt ≤ (16384 : Int); omega) (by show (0 : Int) ≤ (65 : Int); omega) (by show (0 : Int) ≤ (f 5).toInt; omega) (by show (f 5).toInt ≤ (48 : Int); omega) (by show (0 : Int) ≤ (f 6).toInt; omega)) ?_
  rintro v19 S20 (⟨z21, y22, hv23, hS24, h25, h26, h27⟩ | ⟨a29, b30, hv31, hS32, h33⟩)
  · subst hv23
    have h25_ : z21.toInt = (f 4).toInt + 1 := h25
    have h26_ : (f 4).toInt < (f 0).toInt := h26
    have h27_ : y22.toInt = (f 5).toInt - 1 := h27
    replace hS24 : MS S0 S20 (upd (upd (upd (upd (upd (upd f 4 z21) 5 y22) 15 z15) 62 o2) 68 s3) 75 m4) g'5 := hS24
    have hR35 : RJ (upd (upd (upd (upd (upd (upd f 4 z21) 5 y22) 15 z15) 62 o2) 68 s3) 75 m4) g'5 gs bc [] 0 [] := RJ.at hR14_ (by show (f 4).toInt ≤ z21.toInt; omega)
    show am_E _ _ _ _ [some (.ref 39), some (.int 36), some (.int on), some (.int tw)] [.int 1] _ _
    refine am_e12f hi_181_279 (by decide) ?_
    refine am_e2 (v := 39) hi_181_282 rfl ?_
    refine am_e0 hi_181_283 ?_
    refine am_e32n (as := [.ref 39, .int 59]) (la := [some (.ref 39), some (.int 59)]) (rest := []) hi_181_285 (am_hd0 (M := 181) (by decide) 285) (Nat.le_of_ble_eq_true rfl) (Nat.le_of_ble_eq_true rfl) (show 2 ≤ am_P0.2.2.1 200 from by decide +kernel) rfl (am_recv_ok hS24.fs) rfl rfl (ct_take (d := (d + 4)) hS24   (by show (0 : Int) ≤ z21.toInt; omega) (by show (f 0).toInt ≤ (16384 : Int); omega) (by show (0 : Int) ≤ (59 : Int); omega) (by show (0 : Int) ≤ (f 6).toInt; omega)) ?_
    rintro v36 S37 (⟨z38, hv39, hS40, h41, h42⟩ | ⟨a44, b45, hv46, hS47, h48⟩)
    · subst hv39
      have h41_ : z38.toInt = z21.toInt + 1 := h41
      have h42_ : z21.toInt < (f 0).toInt := h42
      replace hS40 : MS S0 S37 (upd (upd (upd (upd (upd (upd f 4 z38) 5 y22) 15 z15) 62 o2) 68 s3) 75 m4) g'5 := hS40
      have hR50 : RJ (upd (upd (upd (upd (upd (upd f 4 z38) 5 y22) 15 z15) 62 o2) 68 s3) 75 m4) g'5 gs bc [] 0 [] := RJ.at hR35 (by show z21.toInt ≤ z38.toInt; omega)
      show am_E _ _ _ _ [some (.ref 39), some (.int 36), some (.int on), some (.int tw)] [.int 1] _ _
      refine am_e12t hi_181_288 (by decide) ?_
      refine am_e2 (v := 39) hi_181_294 rfl ?_
      refine am_e0 hi_181_295 ?_
      refine am_e1 (v := on) hi_181_297 rfl ?_
      refine am_e1 (v := tw) hi_181_298 rfl ?_
      refine am_e0 hi_181_299 ?_
      refine am_e32n (as := [.ref 39, .int 37, .int on, .int tw, .int 0]) (la := [some (.ref 39), some (.int 37), some (.int on), some (.int tw), some (.int 0)]) (rest := []) hi_181_300 (am_hd0 (M := 181) (by decide) 300) (Nat.le_of_ble_eq_true rfl) (Nat.le_of_ble_eq_true rfl) (show 5 ≤ am_P0.2.2.1 179 from by decide +kernel) rfl (am_recv_ok hS40.fs) rfl rfl (ct_pile (d := (d + 6)) hS40 hR50 (mj_e_plain (by decide)) (by show (0 : Int) ≤ (f 10).toInt; omega) (by show (f 10).toInt ≤ (65535 : Int); omega)) ?_
      rintro v51 S52 (⟨z53, g'54, hv55, hS56, hR59, h57, h58⟩)
      subst hv55
      have h57_ : z53.toInt = (f 10).toInt + 1 := h57
      have h58_ : ∀ j, j ∉ [11, 12, 13, 14] → g'54 j = g'5 j := h58
      replace hS56 : MS S0 S52 (upd (upd (upd (upd (upd (upd (upd f 4 z38) 5 y22) 10 z53) 15 z15) 62 o2) 68 s3) 75 m4) g'54 := hS56
      have hR59_ : RJ (upd (upd (upd (upd (upd (upd (upd f 4 z38) 5 y22) 10 z53) 15 z15) 62 o2) 68 s3) 75 m4) g'54 (((37 : Int), on.toInt, tw.toInt, (0 : Int), []) :: gs) bc [] 0 [] := hR59
      show am_E _ _ _ _ [some (.ref 39), some (.int 36), some (.int on), some (.int tw)] [] _ _
      refine am_e2 (v := 39) hi_181_303 rfl ?_
      refine am_e0 hi_181_304 ?_
      refine am_e32w (as := [.ref 39, .int 0]) (la := [some (.ref 39), some (.int 0)]) (rest := []) hi_181_305 (am_hd0 (M := 181) (by decide) 305) (Nat.le_of_ble_eq_true rfl) (Nat.le_of_ble_eq_true rfl) (show 2 ≤ am_P0.2.2.1 186 from by decide +kernel) rfl (am_recv_ok hS56.fs) rfl rfl ?_
      refine am_e2 (v := 39) hi_186_0 rfl ?_
      refine am_e0 hi_186_1 ?_
      refine am_e1 (v := 0) hi_186_3 rfl ?_
      refine am_e0 hi_186_4 ?_
      refine am_e0 hi_186_5 ?_
      refine am_e32n (as := [.ref 39, .int 23, .int 0, .int 0, .int 0]) (la := [some (.ref 39), some (.int 23), some (.int 0), some (.int 0), some (.int 0)]) (rest := []) hi_186_6 (am_hd0 (M := 186) (by decide) 6) (Nat.le_of_ble_eq_true rfl) (Nat.le_of_ble_eq_true rfl) (show 5 ≤ am_P0.2.2.1 179 from by decide +kernel) rfl (am_recv_ok hS56.fs) rfl rfl (ct_pile (d := (d + 5)) hS56 hR59_ (mj_e_plain (by decide)) (by show (0 : Int) ≤ z53.toInt; omega) (by show z53.toInt ≤ (65535 : Int); omega)) ?_
      rintro v60 S61 (⟨z62, g'63, hv64, hS65, hR68, h66, h67⟩)
      subst hv64
      have h66_ : z62.toInt = z53.toInt + 1 := h66
      have h67_ : ∀ j, j ∉ [11, 12, 13, 14] → g'63 j = g'54 j := h67
      replace hS65 : MS S0 S61 (upd (upd (upd (upd (upd (upd (upd f 4 z38) 5 y22) 10 z62) 15 z15) 62 o2) 68 s3) 75 m4) g'63 := hS65
      have hR68_ : RJ (upd (upd (upd (upd (upd (upd (upd f 4 z38) 5 y22) 10 z62) 15 z15) 62 o2) 68 s3) 75 m4) g'63 (((23 : Int), (0 : Int), (0 : Int), (0 : Int), []) :: (((37 : Int), on.toInt, tw.toInt, (0 : Int), []) :: gs)) bc [] 0 [] := hR68
      show am_E _ _ _ _ [some (.ref 39), some (.int 0)] [] _ _
      refine am_e35 hi_186_9 ?_
      show am_E _ _ _ _ [some (.ref 39), some (.int 36), some (.int on), some (.int tw)] [] _ _
      refine am_e18 hi_181_308 ?_
      refine am_e35 hi_181_397 ?_
      show am_E _ _ _ _ [some (.ref 39), some (.int 36), some (.int on), some (.int tw), some (.int th)] [] _ _
      refine am_e35 hi_180_13 ?_
      have q1 : mg_p1 (((23 : Int), (0 : Int), (0 : Int), (0 : Int), []) :: (((37 : Int), on.toInt, tw.toInt, (0 : Int), []) :: gs)) = 0 + (0 + (mg_p1 gs)) := rfl
      have q2 : mg_p2 (((23 : Int), (0 : Int), (0 : Int), (0 : Int), []) :: (((37 : Int), on.toInt, tw.toInt, (0 : Int), []) :: gs)) = 0 + (0 + (mg_p2 gs)) := rfl
      have q3 : mg_p3 (((23 : Int), (0 : Int), (0 : Int), (0 : Int), []) :: (((37 : Int), on.toInt, tw.toInt, (0 : Int), []) :: gs)) = 1 + (1 + (mg_p3 gs)) := rfl
      have q4 : mg_p4 (((23 : Int), (0 : Int), (0 : Int), (0 : Int), []) :: (((37 : Int), on.toInt, tw.toInt, (0 : Int), []) :: gs)) = 0 + (0 + (mg_p4 gs)) := rfl
      refine ⟨_, _, _, bc, rfl, hS65, Or.inl ⟨⟨hR68_, ?_, ?_⟩, rfl, ?_⟩⟩
      · exact (⟨⟨(show mg_k 23 from by decide), (show (0 : Int) ≤ z15.toInt from by omega), (show 0 ≤ (f 20).toInt from by omega), (show 1 ≤ (f 37).toInt from by omega), (show 0 ≤ (f 32).toInt from by omega), (show (f 32).toInt ≤ y22.toInt from by omega), (show y22.toInt ≤ 48 from by omega), (show (f 37).toInt ≤ 2 * (y22.toInt) + 2 from by omega), (show 0 ≤ (0 : Int) from by omega)⟩, ⟨⟨(show mg_k 37 from by decide), (show (1 : Int) ≤ z15.toInt + 1 from by omega), (show 0 ≤ (f 20).toInt from by omega), (show 1 ≤ (f 37).toInt + 0 from by omega), (show 0 ≤ (f 32).toInt + 0 from by omega), (show (f 32).toInt + 0 ≤ y22.toInt + 0 from by omega), (show y22.toInt + 0 ≤ 48 from by omega), (show (f 37).toInt + 0 ≤ 2 * (y22.toInt + 0) + 2 from by omega), trivial⟩, mg_cast (mg_good_ext _ _ _ _ _ _ (fun i _ => by show g'63 34 i = g 34 i; rw [show g'63 34 = g'54 34 from h67_ 34 (by decide), show g'54 34 = g'5 34 from h58_ 34 (by decide), show g'5 34 = g 34 from h13_ 34 (by decide)]) (fun i _ => by show g'63 38 i = g 38 i; rw [show g'63 38 = g'54 38 from h67_ 38 (by decide), show g'54 38 = g'5 38 from h58_ 38 (by decide), show g'5 38 = g 38 from h13_ 38 (by decide)]) (fun i _ => by show g'63 23 i = g 23 i; rw [show g'63 23 = g'54 23 from h67_ 23 (by decide), show g'54 23 = g'5 23 from h58_ 23 (by decide), show g'5 23 = g 23 from h13_ 23 (by decide)]) hrest) (by show (f 15).toInt + -1 = z15.toInt + 1 + -1; omega) (by show (f 20).toInt = (f 20).toInt; omega) (by show (f 37).toInt + 0 = (f 37).toInt + 0 + 0; omega) (by show (f 32).toInt + 0 = (f 32).toInt + 0 + 0; omega) (by show (f 5).toInt + -2 = y22.toInt + 0 + -1; omega)⟩⟩ : mg_good (g'63 34) (g'63 38) (g'63 23) (((23 : Int), (0 : Int), (0 : Int), (0 : Int), []) :: (((37 : Int), on.toInt, tw.toInt, (0 : Int), []) :: gs)) (z15.toInt) ((f 20).toInt) ((f 37).toInt) ((f 32).toInt) (y22.toInt))
      · exact ⟨(by show 0 ≤ z38.toInt; omega), (by show z38.toInt ≤ (f 0).toInt; omega), (by show (f 0).toInt ≤ 512; omega), (by show 0 ≤ (f 24).toInt; omega), (by show (f 24).toInt + (f 20).toInt + mg_p1 (((23 : Int), (0 : Int), (0 : Int), (0 : Int), []) :: (((37 : Int), on.toInt, tw.toInt, (0 : Int), []) :: gs)) ≤ 4 * z38.toInt; omega), (by show (f 20).toInt ≤ z38.toInt; omega), (by show z15.toInt + mg_p2 (((23 : Int), (0 : Int), (0 : Int), (0 : Int), []) :: (((37 : Int), on.toInt, tw.toInt, (0 : Int), []) :: gs)) ≤ z38.toInt; omega), (by show mg_p3 (((23 : Int), (0 : Int), (0 : Int), (0 : Int), []) :: (((37 : Int), on.toInt, tw.toInt, (0 : Int), []) :: gs)) ≤ 20 * z38.toInt + 20; omega), (by show 0 ≤ s3.toInt; omega), (by show s3.toInt + 3 * (f 20).toInt + mg_p4 (((23 : Int), (0 : Int), (0 : Int), (0 : Int), []) :: (((37 : Int), on.toInt, tw.toInt, (0 : Int), []) :: gs)) ≤ 60 * z38.toInt + 60; omega), (by show 0 ≤ o2.toInt; omega), (by show o2.toInt + 64 * mj_n (g'63 16) z15.toNatClampNeg 3 ≤ 64 * z38.toInt; rw [show g'63 16 = g'54 16 from h67_ 16 (by decide), show g'54 16 = g'5 16 from h58_ 16 (by decide)]; omega), (by show 0 ≤ (f 44).toInt; omega), (by show (f 44).toInt ≤ z38.toInt; omega), (by show 0 ≤ (f 48).toInt; omega), (by show (f 48).toInt ≤ z38.toInt; omega), (by show 1 ≤ (f 53).toInt; omega), (by show (f 53).toInt ≤ z38.toInt + 1; omega), (by show 0 ≤ (f 19).toInt; omega), (by show (f 19).toInt ≤ 600; omega), (by show 0 ≤ (f 6).toInt; omega), (by show 0 ≤ (f 8).toInt; omega)⟩
      · show 100 * ((f 0).toInt - z38.toInt) + mg_p3 (((23 : Int), (0 : Int), (0 : Int), (0 : Int), []) :: (((37 : Int), on.toInt, tw.toInt, (0 : Int), []) :: gs)) < 100 * ((f 0).toInt - (f 4).toInt) + (1 + mg_p3 gs); omega
    · subst hv46
      have h48_ : (0 : Int) ≤ a44.toInt := h48
      replace hS47 : MS S0 S37 (upd (upd (upd (upd (upd (upd (upd (upd (upd f 4 z21) 5 y22) 6 a44) 7 b45) 10 0) 15 z15) 62 o2) 68 s3) 75 m4) g'5 := hS47
      have hR69 := rj_clear0 hR35
      have hR70 : RJ (upd (upd (upd (upd (upd (upd (upd (upd (upd f 4 z21) 5 y22) 6 a44) 7 b45) 10 0) 15 z15) 62 o2) 68 s3) 75 m4) g'5 [] bc [] 0 [] := hR69
      show am_E _ _ _ _ [some (.ref 39), some (.int 36), some (.int on), some (.int tw)] [.int 0] _ _
      refine am_e12f hi_181_288 (by decide) ?_
      refine am_e18 hi_181_291 ?_
      refine am_e35 hi_181_397 ?_
      show am_E _ _ _ _ [some (.ref 39), some (.int 36), some (.int on), some (.int tw), some (.int th)] [] _ _
      refine am_e35 hi_180_13 ?_
      have hRc := rj_clear0 hR70
      refine ⟨_, _, [], _, rfl, hS47, Or.inr ⟨hRc, rfl, (by show 0 ≤ z21.toInt; omega), (by show z21.toInt ≤ (f 0).toInt; omega), (by show 0 ≤ (f 32).toInt; omega), (by show (f 32).toInt ≤ 63; omega), (by show 1 ≤ (f 53).toInt; omega), (by show (f 53).toInt ≤ 600; omega), (by show 0 ≤ s3.toInt; omega), (by show s3.toInt ≤ 60000; omega), (by show 0 ≤ (f 48).toInt; omega), (by show (f 48).toInt ≤ 8000; omega), (by show 0 ≤ (f 37).toInt; omega), (by show (f 37).toInt ≤ 128; omega), (by show 0 ≤ o2.toInt; omega), (by show o2.toInt ≤ 65000; omega), (by show 0 ≤ (f 19).toInt; omega), (by show (f 19).toInt ≤ 600; omega), (by show 0 ≤ a44.toInt; omega), (by show 0 ≤ (f 8).toInt; omega)⟩⟩
  · subst hv31
    have h33_ : (0 : Int) ≤ a29.toInt := h33
    replace hS32 : MS S0 S20 (upd (upd (upd (upd (upd (upd (upd f 6 a29) 7 b30) 10 0) 15 z15) 62 o2) 68 s3) 75 m4) g'5 := hS32
    have hR71 := rj_clear0 hR14_
    have hR72 : RJ (upd (upd (upd (upd (upd (upd (upd f 6 a29) 7 b30) 10 0) 15 z15) 62 o2) 68 s3) 75 m4) g'5 [] bc [] 0 [] := hR71
    show am_E _ _ _ _ [some (.ref 39), some (.int 36), some (.int on), some (.int tw)] [.int 0] _ _
    refine am_e12t hi_181_279 (by decide) ?_
    refine am_e35 hi_181_397 ?_
    show am_E _ _ _ _ [some (.ref 39), some (.int 36), some (.int on), some (.int tw), some (.int th)] [] _ _
    refine am_e35 hi_180_13 ?_
    have hRc := rj_clear0 hR72
    refine ⟨_, _, [], _, rfl, hS32, Or.inr ⟨hRc, rfl, (by show 0 ≤ (f 4).toInt; omega), (by show (f 4).toInt ≤ (f 0).toInt; omega), (by show 0 ≤ (f 32).toInt; omega), (by show (f 32).toInt ≤ 63; omega), (by show 1 ≤ (f 53).toInt; omega), (by show (f 53).toInt ≤ 600; omega), (by show 0 ≤ s3.toInt; omega), (by show s3.toInt ≤ 60000; omega), (by show 0 ≤ (f 48).toInt; omega), (by show (f 48).toInt ≤ 8000; omega), (by show 0 ≤ (f 37).toInt; omega), (by show (f 37).toInt ≤ 128; omega), (by show 0 ≤ o2.toInt; omega), (by show o2.toInt ≤ 65000; omega), (by show 0 ≤ (f 19).toInt; omega), (by show (f 19).toInt ≤ 600; omega), (by show 0 ≤ a29.toInt; omega), (by show 0 ≤ (f 8).toInt; omega)⟩⟩
theorem st_37 {sc : Nat × (Nat → Int32)} {d : Nat} {S0 S : am_S} {f : Nat → Int32} {g : Nat → Nat → Int32} {on : Int32} {tw : Int32} {th : Int32} {gs : List mg_E} {bc : List (List Nat)} (hS : MS S0 S f g) (hR : RJ f g gs bc [] 0 []) (hrest : mg_good (g 34) (g 38) (g 23) gs ((f 15).toInt + -1) ((f 20).toInt) ((f 37).toInt + 0) ((f 32).toInt + 0) ((f 5).toInt + -1)) (p0 : 0 ≤ (f 4).toInt) (p1 : (f 4).toInt ≤ (f 0).toInt) (p2 : (f 0).toInt ≤ 512) (p3 : 0 ≤ (f 24).toInt) (p4 : (f 24).toInt + (f 20).toInt + mg_p1 gs ≤ 4 * (f 4).toInt) (p5 : (f 20).toInt ≤ (f 4).toInt) (p6 : (f 15).toInt + 0 + mg_p2 gs ≤ (f 4).toInt) (p7 : 1 + mg_p3 gs ≤ 20 * (f 4).toInt + 20) (p8 : 0 ≤ (f 68).toInt) (p9 : (f 68).toInt + 3 * (f 20).toInt + 0 + mg_p4 gs ≤ 60 * (f 4).toInt + 60) (p10 : 0 ≤ (f 62).toInt) (p11 : (f 62).toInt + 64 * mj_n (g 16) (f 15).toNatClampNeg 3 ≤ 64 * (f 4).toInt) (p12 : 0 ≤ (f 44).toInt) (p13 : (f 44).toInt ≤ (f 4).toInt) (p14 : 0 ≤ (f 48).toInt) (p15 : (f 48).toInt ≤ (f 4).toInt) (p16 : 1 ≤ (f 53).toInt) (p17 : (f 53).toInt ≤ (f 4).toInt + 1) (p18 : 0 ≤ (f 19).toInt) (p19 : (f 19).toInt ≤ 600) (p20 : 0 ≤ (f 6).toInt) (p21 : 0 ≤ (f 8).toInt) (p22 : 0 ≤ mg_p1 gs) (p23 : 0 ≤ mg_p2 gs) (p24 : 0 ≤ mg_p4 gs) (p25 : 0 ≤ (f 10).toInt) (p26 : (f 10).toInt ≤ mg_p3 gs) (p27 : 0 ≤ mj_n (g 16) (f 15).toNatClampNeg 3) (p28 : 1 ≤ (f 15).toInt) (p29 : 0 ≤ (f 20).toInt) (p30 : 1 ≤ (f 37).toInt) (p31 : 0 ≤ (f 32).toInt) (p32 : (f 32).toInt ≤ (f 5).toInt) (p33 : (f 5).toInt ≤ 48) (p34 : (f 37).toInt ≤ 2 * (f 5).toInt + 2) : am_E (am_PP sc) (d + 8) 180 0 [some (.ref 39), some (.int 37), some (.int on), some (.int tw), some (.int th)] [] S (am_N fun v S1 => ∃ (f' : Nat → Int32) (g' : Nat → Nat → Int32) (gs' : List mg_E) (bc' : List (List Nat)), v = none ∧ MS S0 S1 f' g' ∧ (mg_on f (100 * ((f 0).toInt - (f 4).toInt) + (1 + mg_p3 gs)) f' g' gs' bc' ∨ mg_off f f' g' bc')) := by
  have hbs := mg_basic hrest
  refine am_e1 (v := 37) hi_180_0 rfl ?_
  refine am_e0 hi_180_1 ?_
  refine am_e13f hi_180_3 (by decide) ?_
  refine am_e2 (v := 39) hi_180_6 rfl ?_
  refine am_e1 (v := 37) hi_180_7 rfl ?_
  refine am_e1 (v := on) hi_180_8 rfl ?_
  refine am_e1 (v := tw) hi_180_9 rfl ?_
  refine am_e32w (as := [.ref 39, .int 37, .int on, .int tw]) (la := [some (.ref 39), some (.int 37), some (.int on), some (.int tw)]) (rest := []) hi_180_10 (am_hd0 (M := 180) (by decide) 10) (Nat.le_of_ble_eq_true rfl) (Nat.le_of_ble_eq_true rfl) (show 4 ≤ am_P0.2.2.1 181 from by decide +kernel) rfl (am_recv_ok hS.fs) rfl rfl ?_
  refine am_e1 (v := 37) hi_181_0 rfl ?_
  refine am_e19 (t := 311) hi_181_1 (by decide) ?_
  refine am_e2 (v := 39) hi_181_311 rfl ?_
  refine am_e32w (as := [.ref 39]) (la := [some (.ref 39)]) (rest := []) hi_181_312 (am_hd0 (M := 181) (by decide) 312) (Nat.le_of_ble_eq_true rfl) (Nat.le_of_ble_eq_true rfl) (show 1 ≤ am_P0.2.2.1 209 from by decide +kernel) rfl (am_recv_ok hS.fs) rfl rfl ?_
  refine am_e2 (v := 39) hi_209_0 rfl ?_
  refine am_e32n (as := [.ref 39]) (la := [some (.ref 39), none, none, none]) (rest := []) hi_209_1 (am_hd0 (M := 209) (by decide) 1) (Nat.le_of_ble_eq_true rfl) (Nat.le_of_ble_eq_true rfl) (show 1 ≤ am_P0.2.2.1 204 from by decide +kernel) rfl (am_recv_ok hS.fs) rfl rfl (ct_load (d := (d + 3)) hS hR  (by show (0 : Int) ≤ (f 32).toInt; omega) (by show (f 32).toInt ≤ (63 : Int); omega) (by show (f 53).toInt ≤ (4096 : Int); omega) (by show (0 : Int) ≤ (f 68).toInt; omega) (by show (f 68).toInt ≤ (65534 : Int); omega) (by show (1 : Int) ≤ (f 15).toInt; omega) (by show (f 15).toInt ≤ (32767 : Int); omega) (by show (0 : Int) ≤ (f 24).toInt; omega) (by show (f 24).toInt ≤ (16384 : Int); omega) (by show (0 : Int) ≤ (f 62).toInt; omega) (by show (f 62).toInt ≤ (65000 : Int); omega)) ?_
  rintro v0 S1 (⟨o2, s3, m4, g'5, hv6, hS7, hR14, h8, h9, h10, h11, h12, h13⟩)
  subst hv6
  have h8_ : (f 62).toInt ≤ o2.toInt := h8
  have h9_ : o2.toInt ≤ (f 62).toInt + 64 := h9
  have h10_ : (f 68).toInt ≤ s3.toInt := h10
  have h11_ : s3.toInt ≤ (f 68).toInt + 1 := h11
  have h12_ : o2.toInt + 64 * mj_n (g'5 16) (f 15).toNatClampNeg 3 ≤ (f 62).toInt + 64 * mj_n (g 16) (f 15).toNatClampNeg 3 := h12
  have h13_ : ∀ j, j ∉ [16, 60, 63, 64, 65, 66, 67, 69, 70, 71, 72, 73] → g'5 j = g j := h13
  have hR14_ : RJ (upd (upd (upd f 62 o2) 68 s3) 75 m4) g'5 gs bc [] 0 [] := hR14
  show am_E _ _ _ _ [some (.ref 39)] [] _ _
  refine am_e2 (v := 39) hi_209_4 rfl ?_
  refine am_e7 hi_209_5 ?_
  refine mm_20 (v := .int (f 15)) hS7 hi_209_6 rfl ?_
  refine am_e0 hi_209_9 ?_
  obtain ⟨z15, hz15, tz15⟩ := am_subI (x := f 15) (y := 1) (m := (f 15).toInt) (n := (1 : Int)) rfl (by decide) (by omega) (by omega)
  refine am_e10 (z := z15) hi_209_10 hz15 ?_
  refine mm_21 (v := z15) hS7 hi_209_11 rfl (Nat.le_of_ble_eq_true rfl) ms_15 ?_
  intro S16 hS17
  replace hS17 : MS S0 S16 (upd (upd (upd (upd f 15 z15) 62 o2) 68 s3) 75 m4) g'5 := hS17
  have hp18 : mj_n (g'5 16) (f 15).toNatClampNeg 3 = mj_n (g'5 16) z15.toNatClampNeg 3 + if (g'5 16 z15.toNatClampNeg).toInt = 3 then 1 else 0 := mj_pop (by rw [cl_toNat, cl_toNat]; omega)
  have hp181 : mj_n (g'5 16) z15.toNatClampNeg 3 ≤ mj_n (g'5 16) (f 15).toNatClampNeg 3 := by rw [hp18]; split <;> omega
  have hp182 : (g'5 16 z15.toNatClampNeg).toInt = 3 → mj_n (g'5 16) z15.toNatClampNeg 3 + 1 ≤ mj_n (g'5 16) (f 15).toNatClampNeg 3 := fun q => by rw [hp18, if_pos q]; exact Int.le_refl _
  refine am_e35 hi_209_14 ?_
  show am_E _ _ _ _ [some (.ref 39), some (.int 37), some (.int on), some (.int tw)] [] _ _
  refine am_e2 (v := 39) hi_181_315 rfl ?_
  refine am_e0 hi_181_316 ?_
  refine am_e0 hi_181_318 ?_
  refine am_e0 hi_181_319 ?_
  refine am_e1 (v := tw) hi_181_320 rfl ?_
  refine am_e32n (as := [.ref 39, .int 21, .int 0, .int 0, .int tw]) (la := [some (.ref 39), some (.int 21), some (.int 0), some (.int 0), some (.int tw)]) (rest := []) hi_181_321 (am_hd0 (M := 181) (by decide) 321) (Nat.le_of_ble_eq_true rfl) (Nat.le_of_ble_eq_true rfl) (show 5 ≤ am_P0.2.2.1 189 from by decide +kernel) rfl (am_recv_ok hS17.fs) rfl rfl (ct_put (d := (d + 6)) hS17 hR14_  (by show (0 : Int) ≤ (f 32).toInt; omega) (by show (f 32).toInt ≤ (63 : Int); omega) (by show (f 53).toInt ≤ (4096 : Int); omega) (by show (0 : Int) ≤ s3.toInt; omega) (by show s3.toInt ≤ (65534 : Int); omega)) ?_
  rintro v19 S20 (⟨z21, r22, g'23, hv24, hS25, hR29, h26, h27, h28⟩)
  subst hv24
  have h26_ : z21.toInt = s3.toInt + 1 := h26
  have h27_ : r22.toInt = s3.toInt := h27
  have h28_ : ∀ j, j ∉ [60, 69, 70, 71, 72, 73] → g'23 j = g'5 j := h28
  replace hS25 : MS S0 S20 (upd (upd (upd (upd f 15 z15) 62 o2) 68 z21) 75 m4) g'23 := hS25
  have hR29_ : RJ (upd (upd (upd (upd f 15 z15) 62 o2) 68 z21) 75 m4) g'23 gs bc [] 0 (s3.toNatClampNeg :: []) := hR29
  show am_E _ _ _ _ [some (.ref 39), some (.int 37), some (.int on), some (.int tw)] [.int r22] _ _
  refine am_e6i hi_181_324 ?_
  refine am_e2 (v := 39) hi_181_325 rfl ?_
  refine am_e1 (v := on) hi_181_326 rfl ?_
  refine am_e32w (as := [.ref 39, .int on]) (la := [some (.ref 39), some (.int on)]) (rest := []) hi_181_327 (am_hd0 (M := 181) (by decide) 327) (Nat.le_of_ble_eq_true rfl) (Nat.le_of_ble_eq_true rfl) (show 2 ≤ am_P0.2.2.1 220 from by decide +kernel) rfl (am_recv_ok hS25.fs) rfl rfl ?_
  refine am_e2 (v := 39) hi_220_0 rfl ?_
  refine am_e32n (as := [.ref 39]) (la := [some (.ref 39)]) (rest := []) hi_220_1 (am_hd0 (M := 220) (by decide) 1) (Nat.le_of_ble_eq_true rfl) (Nat.le_of_ble_eq_true rfl) (show 1 ≤ am_P0.2.2.1 183 from by decide +kernel) rfl (am_recv_ok hS25.fs) rfl rfl (ct_next (d := (d + 4)) hS25   (by show (0 : Int) ≤ (f 4).toInt; omega) (by show (f 0).toInt ≤ (16384 : Int); omega)) ?_
  rintro v30 S31 (⟨r32, hv33, hS34, h35⟩)
  subst hv33
  have h35_ : (f 4).toInt < (f 0).toInt ∨ r32.toInt = (-1 : Int) := h35
  show am_E _ _ _ _ [some (.ref 39), some (.int on)] [.int r32] _ _
  refine am_e0 hi_220_4 ?_
  by_cases c37 : r32.toInt = (69 : Int)
  · refine am_e13t hi_220_6 (am_cT (m := r32.toInt) (n := (69 : Int)) rfl (by decide) c37) ?_
    refine am_e2 (v := 39) hi_220_18 rfl ?_
    refine am_e7 hi_220_19 ?_
    refine mm_20 (v := .int (f 4)) hS34 hi_220_20 rfl ?_
    refine am_e0 hi_220_23 ?_
    obtain ⟨z38, hz38, tz38⟩ := am_addI (x := f 4) (y := 1) (m := (f 4).toInt) (n := (1 : Int)) rfl (by decide) (by omega) (by omega)
    refine am_e10 (z := z38) hi_220_24 hz38 ?_
    refine mm_21 (v := z38) hS34 hi_220_25 rfl (Nat.le_of_ble_eq_true rfl) ms_4 ?_
    intro S39 hS40
    replace hS40 : MS S0 S39 (upd (upd (upd (upd (upd f 4 z38) 15 z15) 62 o2) 68 z21) 75 m4) g'23 := hS40
    have hR41 : RJ (upd (upd (upd (upd (upd f 4 z38) 15 z15) 62 o2) 68 z21) 75 m4) g'23 gs bc [] 0 (s3.toNatClampNeg :: []) := RJ.at hR29_ (by show (f 4).toInt ≤ z38.toInt; omega)
    refine am_e2 (v := 39) hi_220_28 rfl ?_
    refine am_e0 hi_220_29 ?_
    refine am_e1 (v := on) hi_220_31 rfl ?_
    refine am_e0 hi_220_32 ?_
    refine am_e0 hi_220_33 ?_
    refine am_e32n (as := [.ref 39, .int 35, .int on, .int 0, .int 0]) (la := [some (.ref 39), some (.int 35), some (.int on), some (.int 0), some (.int 0)]) (rest := []) hi_220_34 (am_hd0 (M := 220) (by decide) 34) (Nat.le_of_ble_eq_true rfl) (Nat.le_of_ble_eq_true rfl) (show 5 ≤ am_P0.2.2.1 179 from by decide +kernel) rfl (am_recv_ok hS40.fs) rfl rfl (ct_pile (d := (d + 5)) hS40 hR41 (mj_e_plain (by decide)) (by show (0 : Int) ≤ (f 10).toInt; omega) (by show (f 10).toInt ≤ (65535 : Int); omega)) ?_
    rintro v42 S43 (⟨z44, g'45, hv46, hS47, hR50, h48, h49⟩)
    subst hv46
    have h48_ : z44.toInt = (f 10).toInt + 1 := h48
    have h49_ : ∀ j, j ∉ [11, 12, 13, 14] → g'45 j = g'23 j := h49
    replace hS47 : MS S0 S43 (upd (upd (upd (upd (upd (upd f 4 z38) 10 z44) 15 z15) 62 o2) 68 z21) 75 m4) g'45 := hS47
    have hR50_ : RJ (upd (upd (upd (upd (upd (upd f 4 z38) 10 z44) 15 z15) 62 o2) 68 z21) 75 m4) g'45 (((35 : Int), on.toInt, (0 : Int), (0 : Int), []) :: gs) bc [] 0 (s3.toNatClampNeg :: []) := hR50
    show am_E _ _ _ _ [some (.ref 39), some (.int on)] [] _ _
    refine am_e18 hi_220_37 ?_
    refine am_e35 hi_220_47 ?_
    show am_E _ _ _ _ [some (.ref 39), some (.int 37), some (.int on), some (.int tw)] [] _ _
    refine am_e18 hi_181_330 ?_
    refine am_e35 hi_181_397 ?_
    show am_E _ _ _ _ [some (.ref 39), some (.int 37), some (.int on), some (.int tw), some (.int th)] [] _ _
    refine am_e35 hi_180_13 ?_
    have q1 : mg_p1 (((35 : Int), on.toInt, (0 : Int), (0 : Int), []) :: gs) = 0 + (mg_p1 gs) := rfl
    have q2 : mg_p2 (((35 : Int), on.toInt, (0 : Int), (0 : Int), []) :: gs) = 0 + (mg_p2 gs) := rfl
    have q3 : mg_p3 (((35 : Int), on.toInt, (0 : Int), (0 : Int), []) :: gs) = 3 + (mg_p3 gs) := rfl
    have q4 : mg_p4 (((35 : Int), on.toInt, (0 : Int), (0 : Int), []) :: gs) = 0 + (mg_p4 gs) := rfl
    refine ⟨_, _, _, bc, rfl, hS47, Or.inl ⟨⟨(RJ.fewer (pj' := []) hR50_ (fun _ h => nomatch h)), ?_, ?_⟩, rfl, ?_⟩⟩
    · exact (⟨⟨(show mg_k 35 from by decide), (show (0 : Int) ≤ z15.toInt from by omega), (show 0 ≤ (f 20).toInt from by omega), (show 1 ≤ (f 37).toInt from by omega), (show 0 ≤ (f 32).toInt from by omega), (show (f 32).toInt ≤ (f 5).toInt from by omega), (show (f 5).toInt ≤ 48 from by omega), (show (f 37).toInt ≤ 2 * ((f 5).toInt) + 2 from by omega), trivial⟩, mg_cast (mg_good_ext _ _ _ _ _ _ (fun i _ => by show g'45 34 i = g 34 i; rw [show g'45 34 = g'23 34 from h49_ 34 (by decide), show g'23 34 = g'5 34 from h28_ 34 (by decide), show g'5 34 = g 34 from h13_ 34 (by decide)]) (fun i _ => by show g'45 38 i = g 38 i; rw [show g'45 38 = g'23 38 from h49_ 38 (by decide), show g'23 38 = g'5 38 from h28_ 38 (by decide), show g'5 38 = g 38 from h13_ 38 (by decide)]) (fun i _ => by show g'45 23 i = g 23 i; rw [show g'45 23 = g'23 23 from h49_ 23 (by decide), show g'23 23 = g'5 23 from h28_ 23 (by decide), show g'5 23 = g 23 from h13_ 23 (by decide)]) hrest) (by show (f 15).toInt + -1 = z15.toInt + 0; omega) (by show (f 20).toInt = (f 20).toInt; omega) (by show (f 37).toInt + 0 = (f 37).toInt + 0; omega) (by show (f 32).toInt + 0 = (f 32).toInt + 0; omega) (by show (f 5).toInt + -1 = (f 5).toInt + -1; omega)⟩ : mg_good (g'45 34) (g'45 38) (g'45 23) (((35 : Int), on.toInt, (0 : Int), (0 : Int), []) :: gs) (z15.toInt) ((f 20).toInt) ((f 37).toInt) ((f 32).toInt) ((f 5).toInt))
    · exact ⟨(by show 0 ≤ z38.toInt; omega), (by show z38.toInt ≤ (f 0).toInt; omega), (by show (f 0).toInt ≤ 512; omega), (by show 0 ≤ (f 24).toInt; omega), (by show (f 24).toInt + (f 20).toInt + mg_p1 (((35 : Int), on.toInt, (0 : Int), (0 : Int), []) :: gs) ≤ 4 * z38.toInt; omega), (by show (f 20).toInt ≤ z38.toInt; omega), (by show z15.toInt + mg_p2 (((35 : Int), on.toInt, (0 : Int), (0 : Int), []) :: gs) ≤ z38.toInt; omega), (by show mg_p3 (((35 : Int), on.toInt, (0 : Int), (0 : Int), []) :: gs) ≤ 20 * z38.toInt + 20; omega), (by show 0 ≤ z21.toInt; omega), (by show z21.toInt + 3 * (f 20).toInt + mg_p4 (((35 : Int), on.toInt, (0 : Int), (0 : Int), []) :: gs) ≤ 60 * z38.toInt + 60; omega), (by show 0 ≤ o2.toInt; omega), (by show o2.toInt + 64 * mj_n (g'45 16) z15.toNatClampNeg 3 ≤ 64 * z38.toInt; rw [show g'45 16 = g'23 16 from h49_ 16 (by decide), show g'23 16 = g'5 16 from h28_ 16 (by decide)]; omega), (by show 0 ≤ (f 44).toInt; omega), (by show (f 44).toInt ≤ z38.toInt; omega), (by show 0 ≤ (f 48).toInt; omega), (by show (f 48).toInt ≤ z38.toInt; omega), (by show 1 ≤ (f 53).toInt; omega), (by show (f 53).toInt ≤ z38.toInt + 1; omega), (by show 0 ≤ (f 19).toInt; omega), (by show (f 19).toInt ≤ 600; omega), (by show 0 ≤ (f 6).toInt; omega), (by show 0 ≤ (f 8).toInt; omega)⟩
    · show 100 * ((f 0).toInt - z38.toInt) + mg_p3 (((35 : Int), on.toInt, (0 : Int), (0 : Int), []) :: gs) < 100 * ((f 0).toInt - (f 4).toInt) + (1 + mg_p3 gs); omega
  · refine am_e13f hi_220_6 (am_cF (m := r32.toInt) (n := (69 : Int)) rfl (by decide) c37) ?_
    refine am_e2 (v := 39) hi_220_9 rfl ?_
    refine am_e32n (as := [.ref 39]) (la := [some (.ref 39)]) (rest := []) hi_220_10 (am_hd0 (M := 220) (by decide) 10) (Nat.le_of_ble_eq_true rfl) (Nat.le_of_ble_eq_true rfl) (show 1 ≤ am_P0.2.2.1 183 from by decide +kernel) rfl (am_recv_ok hS34.fs) rfl rfl (ct_next (d := (d + 4)) hS34   (by show (0 : Int) ≤ (f 4).toInt; omega) (by show (f 0).toInt ≤ (16384 : Int); omega)) ?_
    rintro v51 S52 (⟨r53, hv54, hS55, h56⟩)
    subst hv54
    have h56_ : (f 4).toInt < (f 0).toInt ∨ r53.toInt = (-1 : Int) := h56
    show am_E _ _ _ _ [some (.ref 39), some (.int on)] [.int r53] _ _
    refine am_e0 hi_220_13 ?_
    by_cases c58 : ¬ r53.toInt = (67 : Int)
    · refine am_e13t hi_220_15 (am_cT (m := r53.toInt) (n := (67 : Int)) rfl (by decide) c58) ?_
      refine am_e2 (v := 39) hi_220_40 rfl ?_
      refine am_e0 hi_220_41 ?_
      refine am_e32n (as := [.ref 39, .int 63]) (la := [some (.ref 39), some (.int 63)]) (rest := []) hi_220_43 (am_hd0 (M := 220) (by decide) 43) (Nat.le_of_ble_eq_true rfl) (Nat.le_of_ble_eq_true rfl) (show 2 ≤ am_P0.2.2.1 199 from by decide +kernel) rfl (am_recv_ok hS55.fs) rfl rfl (ct_leave (d := (d + 2)) hS55   (by show (0 : Int) ≤ (f 4).toInt; omega) (by show (f 0).toInt ≤ (16384 : Int); omega) (by show (0 : Int) ≤ (63 : Int); omega) (by show (0 : Int) ≤ (f 5).toInt; omega) (by show (f 5).toInt ≤ (48 : Int); omega) (by show (0 : Int) ≤ (f 6).toInt; omega)) ?_
      rintro v59 S60 (⟨z61, y62, hv63, hS64, h65, h66, h67⟩ | ⟨a69, b70, hv71, hS72, h73⟩)
      · subst hv63
        have h65_ : z61.toInt = (f 4).toInt + 1 := h65
        have h66_ : (f 4).toInt < (f 0).toInt := h66
        have h67_ : y62.toInt = (f 5).toInt - 1 := h67
        replace hS64 : MS S0 S60 (upd (upd (upd (upd (upd (upd f 4 z61) 5 y62) 15 z15) 62 o2) 68 z21) 75 m4) g'23 := hS64
        have hR75 : RJ (upd (upd (upd (upd (upd (upd f 4 z61) 5 y62) 15 z15) 62 o2) 68 z21) 75 m4) g'23 gs bc [] 0 (s3.toNatClampNeg :: []) := RJ.at hR29_ (by show (f 4).toInt ≤ z61.toInt; omega)
        show am_E _ _ _ _ [some (.ref 39), some (.int on)] [.int 1] _ _
        refine am_e6i hi_220_46 ?_
        refine am_e35 hi_220_47 ?_
        show am_E _ _ _ _ [some (.ref 39), some (.int 37), some (.int on), some (.int tw)] [] _ _
        refine am_e18 hi_181_330 ?_
        refine am_e35 hi_181_397 ?_
        show am_E _ _ _ _ [some (.ref 39), some (.int 37), some (.int on), some (.int tw), some (.int th)] [] _ _
        refine am_e35 hi_180_13 ?_
        have q1 : mg_p1 gs = mg_p1 gs := rfl
        have q2 : mg_p2 gs = mg_p2 gs := rfl
        have q3 : mg_p3 gs = mg_p3 gs := rfl
        have q4 : mg_p4 gs = mg_p4 gs := rfl
        refine ⟨_, _, _, bc, rfl, hS64, Or.inl ⟨⟨(RJ.fewer (pj' := []) hR75 (fun _ h => nomatch h)), ?_, ?_⟩, rfl, ?_⟩⟩
        · exact (mg_cast (mg_good_ext _ _ _ _ _ _ (fun i _ => by show g'23 34 i = g 34 i; rw [show g'23 34 = g'5 34 from h28_ 34 (by decide), show g'5 34 = g 34 from h13_ 34 (by decide)]) (fun i _ => by show g'23 38 i = g 38 i; rw [show g'23 38 = g'5 38 from h28_ 38 (by decide), show g'5 38 = g 38 from h13_ 38 (by decide)]) (fun i _ => by show g'23 23 i = g 23 i; rw [show g'23 23 = g'5 23 from h28_ 23 (by decide), show g'5 23 = g 23 from h13_ 23 (by decide)]) hrest) (by show (f 15).toInt + -1 = z15.toInt; omega) (by show (f 20).toInt = (f 20).toInt; omega) (by show (f 37).toInt + 0 = (f 37).toInt; omega) (by show (f 32).toInt + 0 = (f 32).toInt; omega) (by show (f 5).toInt + -1 = y62.toInt; omega) : mg_good (g'23 34) (g'23 38) (g'23 23) gs (z15.toInt) ((f 20).toInt) ((f 37).toInt) ((f 32).toInt) (y62.toInt))
        · exact ⟨(by show 0 ≤ z61.toInt; omega), (by show z61.toInt ≤ (f 0).toInt; omega), (by show (f 0).toInt ≤ 512; omega), (by show 0 ≤ (f 24).toInt; omega), (by show (f 24).toInt + (f 20).toInt + mg_p1 gs ≤ 4 * z61.toInt; omega), (by show (f 20).toInt ≤ z61.toInt; omega), (by show z15.toInt + mg_p2 gs ≤ z61.toInt; omega), (by show mg_p3 gs ≤ 20 * z61.toInt + 20; omega), (by show 0 ≤ z21.toInt; omega), (by show z21.toInt + 3 * (f 20).toInt + mg_p4 gs ≤ 60 * z61.toInt + 60; omega), (by show 0 ≤ o2.toInt; omega), (by show o2.toInt + 64 * mj_n (g'23 16) z15.toNatClampNeg 3 ≤ 64 * z61.toInt; rw [show g'23 16 = g'5 16 from h28_ 16 (by decide)]; omega), (by show 0 ≤ (f 44).toInt; omega), (by show (f 44).toInt ≤ z61.toInt; omega), (by show 0 ≤ (f 48).toInt; omega), (by show (f 48).toInt ≤ z61.toInt; omega), (by show 1 ≤ (f 53).toInt; omega), (by show (f 53).toInt ≤ z61.toInt + 1; omega), (by show 0 ≤ (f 19).toInt; omega), (by show (f 19).toInt ≤ 600; omega), (by show 0 ≤ (f 6).toInt; omega), (by show 0 ≤ (f 8).toInt; omega)⟩
        · show 100 * ((f 0).toInt - z61.toInt) + mg_p3 gs < 100 * ((f 0).toInt - (f 4).toInt) + (1 + mg_p3 gs); omega
      · subst hv71
        have h73_ : (0 : Int) ≤ a69.toInt := h73
        replace hS72 : MS S0 S60 (upd (upd (upd (upd (upd (upd (upd f 6 a69) 7 b70) 10 0) 15 z15) 62 o2) 68 z21) 75 m4) g'23 := hS72
        have hR76 := rj_clear0 hR29_
        have hR77 : RJ (upd (upd (upd (upd (upd (upd (upd f 6 a69) 7 b70) 10 0) 15 z15) 62 o2) 68 z21) 75 m4) g'23 [] bc [] 0 [] := hR76
        show am_E _ _ _ _ [some (.ref 39), some (.int on)] [.int 0] _ _
        refine am_e6i hi_220_46 ?_
        refine am_e35 hi_220_47 ?_
        show am_E _ _ _ _ [some (.ref 39), some (.int 37), some (.int on), some (.int tw)] [] _ _
        refine am_e18 hi_181_330 ?_
        refine am_e35 hi_181_397 ?_
        show am_E _ _ _ _ [some (.ref 39), some (.int 37), some (.int on), some (.int tw), some (.int th)] [] _ _
        refine am_e35 hi_180_13 ?_
        have hRc := rj_clear0 hR77
        refine ⟨_, _, [], _, rfl, hS72, Or.inr ⟨hRc, rfl, (by show 0 ≤ (f 4).toInt; omega), (by show (f 4).toInt ≤ (f 0).toInt; omega), (by show 0 ≤ (f 32).toInt; omega), (by show (f 32).toInt ≤ 63; omega), (by show 1 ≤ (f 53).toInt; omega), (by show (f 53).toInt ≤ 600; omega), (by show 0 ≤ z21.toInt; omega), (by show z21.toInt ≤ 60000; omega), (by show 0 ≤ (f 48).toInt; omega), (by show (f 48).toInt ≤ 8000; omega), (by show 0 ≤ (f 37).toInt; omega), (by show (f 37).toInt ≤ 128; omega), (by show 0 ≤ o2.toInt; omega), (by show o2.toInt ≤ 65000; omega), (by show 0 ≤ (f 19).toInt; omega), (by show (f 19).toInt ≤ 600; omega), (by show 0 ≤ a69.toInt; omega), (by show 0 ≤ (f 8).toInt; omega)⟩⟩
    · refine am_e13f hi_220_15 (am_cF (m := r53.toInt) (n := (67 : Int)) rfl (by decide) c58) ?_
      refine am_e2 (v := 39) hi_220_18 rfl ?_
      refine am_e7 hi_220_19 ?_
      refine mm_20 (v := .int (f 4)) hS55 hi_220_20 rfl ?_
      refine am_e0 hi_220_23 ?_
      obtain ⟨z78, hz78, tz78⟩ := am_addI (x := f 4) (y := 1) (m := (f 4).toInt) (n := (1 : Int)) rfl (by decide) (by omega) (by omega)
      refine am_e10 (z := z78) hi_220_24 hz78 ?_
      refine mm_21 (v := z78) hS55 hi_220_25 rfl (Nat.le_of_ble_eq_true rfl) ms_4 ?_
      intro S79 hS80
      replace hS80 : MS S0 S79 (upd (upd (upd (upd (upd f 4 z78) 15 z15) 62 o2) 68 z21) 75 m4) g'23 := hS80
      have hR81 : RJ (upd (upd (upd (upd (upd f 4 z78) 15 z15) 62 o2) 68 z21) 75 m4) g'23 gs bc [] 0 (s3.toNatClampNeg :: []) := RJ.at hR29_ (by show (f 4).toInt ≤ z78.toInt; omega)
      refine am_e2 (v := 39) hi_220_28 rfl ?_
      refine am_e0 hi_220_29 ?_
      refine am_e1 (v := on) hi_220_31 rfl ?_
      refine am_e0 hi_220_32 ?_
      refine am_e0 hi_220_33 ?_
      refine am_e32n (as := [.ref 39, .int 35, .int on, .int 0, .int 0]) (la := [some (.ref 39), some (.int 35), some (.int on), some (.int 0), some (.int 0)]) (rest := []) hi_220_34 (am_hd0 (M := 220) (by decide) 34) (Nat.le_of_ble_eq_true rfl) (Nat.le_of_ble_eq_true rfl) (show 5 ≤ am_P0.2.2.1 179 from by decide +kernel) rfl (am_recv_ok hS80.fs) rfl rfl (ct_pile (d := (d + 5)) hS80 hR81 (mj_e_plain (by decide)) (by show (0 : Int) ≤ (f 10).toInt; omega) (by show (f 10).toInt ≤ (65535 : Int); omega)) ?_
      rintro v82 S83 (⟨z84, g'85, hv86, hS87, hR90, h88, h89⟩)
      subst hv86
      have h88_ : z84.toInt = (f 10).toInt + 1 := h88
      have h89_ : ∀ j, j ∉ [11, 12, 13, 14] → g'85 j = g'23 j := h89
      replace hS87 : MS S0 S83 (upd (upd (upd (upd (upd (upd f 4 z78) 10 z84) 15 z15) 62 o2) 68 z21) 75 m4) g'85 := hS87
      have hR90_ : RJ (upd (upd (upd (upd (upd (upd f 4 z78) 10 z84) 15 z15) 62 o2) 68 z21) 75 m4) g'85 (((35 : Int), on.toInt, (0 : Int), (0 : Int), []) :: gs) bc [] 0 (s3.toNatClampNeg :: []) := hR90
      show am_E _ _ _ _ [some (.ref 39), some (.int on)] [] _ _
      refine am_e18 hi_220_37 ?_
      refine am_e35 hi_220_47 ?_
      show am_E _ _ _ _ [some (.ref 39), some (.int 37), some (.int on), some (.int tw)] [] _ _
      refine am_e18 hi_181_330 ?_
      refine am_e35 hi_181_397 ?_
      show am_E _ _ _ _ [some (.ref 39), some (.int 37), some (.int on), some (.int tw), some (.int th)] [] _ _
      refine am_e35 hi_180_13 ?_
      have q1 : mg_p1 (((35 : Int), on.toInt, (0 : Int), (0 : Int), []) :: gs) = 0 + (mg_p1 gs) := rfl
      have q2 : mg_p2 (((35 : Int), on.toInt, (0 : Int), (0 : Int), []) :: gs) = 0 + (mg_p2 gs) := rfl
      have q3 : mg_p3 (((35 : Int), on.toInt, (0 : Int), (0 : Int), []) :: gs) = 3 + (mg_p3 gs) := rfl
      have q4 : mg_p4 (((35 : Int), on.toInt, (0 : Int), (0 : Int), []) :: gs) = 0 + (mg_p4 gs) := rfl
      refine ⟨_, _, _, bc, rfl, hS87, Or.inl ⟨⟨(RJ.fewer (pj' := []) hR90_ (fun _ h => nomatch h)), ?_, ?_⟩, rfl, ?_⟩⟩
      · exact (⟨⟨(show mg_k 35 from by decide), (show (0 : Int) ≤ z15.toInt from by omega), (show 0 ≤ (f 20).toInt from by omega), (show 1 ≤ (f 37).toInt from by omega), (show 0 ≤ (f 32).toInt from by omega), (show (f 32).toInt ≤ (f 5).toInt from by omega), (show (f 5).toInt ≤ 48 from by omega), (show (f 37).toInt ≤ 2 * ((f 5).toInt) + 2 from by omega), trivial⟩, mg_cast (mg_good_ext _ _ _ _ _ _ (fun i _ => by show g'85 34 i = g 34 i; rw [show g'85 34 = g'23 34 from h89_ 34 (by decide), show g'23 34 = g'5 34 from h28_ 34 (by decide), show g'5 34 = g 34 from h13_ 34 (by decide)]) (fun i _ => by show g'85 38 i = g 38 i; rw [show g'85 38 = g'23 38 from h89_ 38 (by decide), show g'23 38 = g'5 38 from h28_ 38 (by decide), show g'5 38 = g 38 from h13_ 38 (by decide)]) (fun i _ => by show g'85 23 i = g 23 i; rw [show g'85 23 = g'23 23 from h89_ 23 (by decide), show g'23 23 = g'5 23 from h28_ 23 (by decide), show g'5 23 = g 23 from h13_ 23 (by decide)]) hrest) (by show (f 15).toInt + -1 = z15.toInt + 0; omega) (by show (f 20).toInt = (f 20).toInt; omega) (by show (f 37).toInt + 0 = (f 37).toInt + 0; omega) (by show (f 32).toInt + 0 = (f 32).toInt + 0; omega) (by show (f 5).toInt + -1 = (f 5).toInt + -1; omega)⟩ : mg_good (g'85 34) (g'85 38) (g'85 23) (((35 : Int), on.toInt, (0 : Int), (0 : Int), []) :: gs) (z15.toInt) ((f 20).toInt) ((f 37).toInt) ((f 32).toInt) ((f 5).toInt))
      · exact ⟨(by show 0 ≤ z78.toInt; omega), (by show z78.toInt ≤ (f 0).toInt; omega), (by show (f 0).toInt ≤ 512; omega), (by show 0 ≤ (f 24).toInt; omega), (by show (f 24).toInt + (f 20).toInt + mg_p1 (((35 : Int), on.toInt, (0 : Int), (0 : Int), []) :: gs) ≤ 4 * z78.toInt; omega), (by show (f 20).toInt ≤ z78.toInt; omega), (by show z15.toInt + mg_p2 (((35 : Int), on.toInt, (0 : Int), (0 : Int), []) :: gs) ≤ z78.toInt; omega), (by show mg_p3 (((35 : Int), on.toInt, (0 : Int), (0 : Int), []) :: gs) ≤ 20 * z78.toInt + 20; omega), (by show 0 ≤ z21.toInt; omega), (by show z21.toInt + 3 * (f 20).toInt + mg_p4 (((35 : Int), on.toInt, (0 : Int), (0 : Int), []) :: gs) ≤ 60 * z78.toInt + 60; omega), (by show 0 ≤ o2.toInt; omega), (by show o2.toInt + 64 * mj_n (g'85 16) z15.toNatClampNeg 3 ≤ 64 * z78.toInt; rw [show g'85 16 = g'23 16 from h89_ 16 (by decide), show g'23 16 = g'5 16 from h28_ 16 (by decide)]; omega), (by show 0 ≤ (f 44).toInt; omega), (by show (f 44).toInt ≤ z78.toInt; omega), (by show 0 ≤ (f 48).toInt; omega), (by show (f 48).toInt ≤ z78.toInt; omega), (by show 1 ≤ (f 53).toInt; omega), (by show (f 53).toInt ≤ z78.toInt + 1; omega), (by show 0 ≤ (f 19).toInt; omega), (by show (f 19).toInt ≤ 600; omega), (by show 0 ≤ (f 6).toInt; omega), (by show 0 ≤ (f 8).toInt; omega)⟩
      · show 100 * ((f 0).toInt - z78.toInt) + mg_p3 (((35 : Int), on.toInt, (0 : Int), (0 : Int), []) :: gs) < 100 * ((f 0).toInt - (f 4).toInt) + (1 + mg_p3 gs); omega
theorem st_38 {sc : Nat × (Nat → Int32)} {d : Nat} {S0 S : am_S} {f : Nat → Int32} {g : Nat → Nat → Int32} {on : Int32} {tw : Int32} {th : Int32} {gs : List mg_E} {bc : List (List Nat)} (hS : MS S0 S f g) (hR : RJ f g gs bc [] 0 []) (hrest : mg_good (g 34) (g 38) (g 23) gs ((f 15).toInt + -1) ((f 20).toInt) ((f 37).toInt + 0) ((f 32).toInt + 0) ((f 5).toInt + -1)) (p0 : 0 ≤ (f 4).toInt) (p1 : (f 4).toInt ≤ (f 0).toInt) (p2 : (f 0).toInt ≤ 512) (p3 : 0 ≤ (f 24).toInt) (p4 : (f 24).toInt + (f 20).toInt + mg_p1 gs ≤ 4 * (f 4).toInt) (p5 : (f 20).toInt ≤ (f 4).toInt) (p6 : (f 15).toInt + 0 + mg_p2 gs ≤ (f 4).toInt) (p7 : 1 + mg_p3 gs ≤ 20 * (f 4).toInt + 20) (p8 : 0 ≤ (f 68).toInt) (p9 : (f 68).toInt + 3 * (f 20).toInt + 0 + mg_p4 gs ≤ 60 * (f 4).toInt + 60) (p10 : 0 ≤ (f 62).toInt) (p11 : (f 62).toInt + 64 * mj_n (g 16) (f 15).toNatClampNeg 3 ≤ 64 * (f 4).toInt) (p12 : 0 ≤ (f 44).toInt) (p13 : (f 44).toInt ≤ (f 4).toInt) (p14 : 0 ≤ (f 48).toInt) (p15 : (f 48).toInt ≤ (f 4).toInt) (p16 : 1 ≤ (f 53).toInt) (p17 : (f 53).toInt ≤ (f 4).toInt + 1) (p18 : 0 ≤ (f 19).toInt) (p19 : (f 19).toInt ≤ 600) (p20 : 0 ≤ (f 6).toInt) (p21 : 0 ≤ (f 8).toInt) (p22 : 0 ≤ mg_p1 gs) (p23 : 0 ≤ mg_p2 gs) (p24 : 0 ≤ mg_p4 gs) (p25 : 0 ≤ (f 10).toInt) (p26 : (f 10).toInt ≤ mg_p3 gs) (p27 : 0 ≤ mj_n (g 16) (f 15).toNatClampNeg 3) (p28 : 1 ≤ (f 15).toInt) (p29 : 0 ≤ (f 20).toInt) (p30 : 1 ≤ (f 37).toInt) (p31 : 0 ≤ (f 32).toInt) (p32 : (f 32).toInt ≤ (f 5).toInt) (p33 : (f 5).toInt ≤ 48) (p34 : (f 37).toInt ≤ 2 * (f 5).toInt + 2) (p35 : 0 ≤ tw.toInt) (p36 : tw.toInt ≤ 16000) : am_E (am_PP sc) (d + 8) 180 0 [some (.ref 39), some (.int 38), some (.int on), some (.int tw), some (.int th)] [] S (am_N fun v S1 => ∃ (f' : Nat → Int32) (g' : Nat → Nat → Int32) (gs' : List mg_E) (bc' : List (List Nat)), v = none ∧ MS S0 S1 f' g' ∧ (mg_on f (100 * ((f 0).toInt - (f 4).toInt) + (1 + mg_p3 gs)) f' g' gs' bc' ∨ mg_off f f' g' bc')) := by
  have hbs := mg_basic hrest
  refine am_e1 (v := 38) hi_180_0 rfl ?_
  refine am_e0 hi_180_1 ?_
  refine am_e13f hi_180_3 (by decide) ?_
  refine am_e2 (v := 39) hi_180_6 rfl ?_
  refine am_e1 (v := 38) hi_180_7 rfl ?_
  refine am_e1 (v := on) hi_180_8 rfl ?_
  refine am_e1 (v := tw) hi_180_9 rfl ?_
  refine am_e32w (as := [.ref 39, .int 38, .int on, .int tw]) (la := [some (.ref 39), some (.int 38), some (.int on), some (.int tw)]) (rest := []) hi_180_10 (am_hd0 (M := 180) (by decide) 10) (Nat.le_of_ble_eq_true rfl) (Nat.le_of_ble_eq_true rfl) (show 4 ≤ am_P0.2.2.1 181 from by decide +kernel) rfl (am_recv_ok hS.fs) rfl rfl ?_
  refine am_e1 (v := 38) hi_181_0 rfl ?_
  refine am_e19 (t := 333) hi_181_1 (by decide) ?_
  refine am_e2 (v := 39) hi_181_333 rfl ?_
  refine am_e32w (as := [.ref 39]) (la := [some (.ref 39)]) (rest := []) hi_181_334 (am_hd0 (M := 181) (by decide) 334) (Nat.le_of_ble_eq_true rfl) (Nat.le_of_ble_eq_true rfl) (show 1 ≤ am_P0.2.2.1 209 from by decide +kernel) rfl (am_recv_ok hS.fs) rfl rfl ?_
  refine am_e2 (v := 39) hi_209_0 rfl ?_
  refine am_e32n (as := [.ref 39]) (la := [some (.ref 39), none, none, none]) (rest := []) hi_209_1 (am_hd0 (M := 209) (by decide) 1) (Nat.le_of_ble_eq_true rfl) (Nat.le_of_ble_eq_true rfl) (show 1 ≤ am_P0.2.2.1 204 from by decide +kernel) rfl (am_recv_ok hS.fs) rfl rfl (ct_load (d := (d + 3)) hS hR  (by show (0 : Int) ≤ (f 32).toInt; omega) (by show (f 32).toInt ≤ (63 : Int); omega) (by show (f 53).toInt ≤ (4096 : Int); omega) (by show (0 : Int) ≤ (f 68).toInt; omega) (by show (f 68).toInt ≤ (65534 : Int); omega) (by show (1 : Int) ≤ (f 15).toInt; omega) (by show (f 15).toInt ≤ (32767 : Int); omega) (by show (0 : Int) ≤ (f 24).toInt; omega) (by show (f 24).toInt ≤ (16384 : Int); omega) (by show (0 : Int) ≤ (f 62).toInt; omega) (by show (f 62).toInt ≤ (65000 : Int); omega)) ?_
  rintro v0 S1 (⟨o2, s3, m4, g'5, hv6, hS7, hR14, h8, h9, h10, h11, h12, h13⟩)
  subst hv6
  have h8_ : (f 62).toInt ≤ o2.toInt := h8
  have h9_ : o2.toInt ≤ (f 62).toInt + 64 := h9
  have h10_ : (f 68).toInt ≤ s3.toInt := h10
  have h11_ : s3.toInt ≤ (f 68).toInt + 1 := h11
  have h12_ : o2.toInt + 64 * mj_n (g'5 16) (f 15).toNatClampNeg 3 ≤ (f 62).toInt + 64 * mj_n (g 16) (f 15).toNatClampNeg 3 := h12
  have h13_ : ∀ j, j ∉ [16, 60, 63, 64, 65, 66, 67, 69, 70, 71, 72, 73] → g'5 j = g j := h13
  have hR14_ : RJ (upd (upd (upd f 62 o2) 68 s3) 75 m4) g'5 gs bc [] 0 [] := hR14
  show am_E _ _ _ _ [some (.ref 39)] [] _ _
  refine am_e2 (v := 39) hi_209_4 rfl ?_
  refine am_e7 hi_209_5 ?_
  refine mm_20 (v := .int (f 15)) hS7 hi_209_6 rfl ?_
  refine am_e0 hi_209_9 ?_
  obtain ⟨z15, hz15, tz15⟩ := am_subI (x := f 15) (y := 1) (m := (f 15).toInt) (n := (1 : Int)) rfl (by decide) (by omega) (by omega)
  refine am_e10 (z := z15) hi_209_10 hz15 ?_
  refine mm_21 (v := z15) hS7 hi_209_11 rfl (Nat.le_of_ble_eq_true rfl) ms_15 ?_
  intro S16 hS17
  replace hS17 : MS S0 S16 (upd (upd (upd (upd f 15 z15) 62 o2) 68 s3) 75 m4) g'5 := hS17
  have hp18 : mj_n (g'5 16) (f 15).toNatClampNeg 3 = mj_n (g'5 16) z15.toNatClampNeg 3 + if (g'5 16 z15.toNatClampNeg).toInt = 3 then 1 else 0 := mj_pop (by rw [cl_toNat, cl_toNat]; omega)
  have hp181 : mj_n (g'5 16) z15.toNatClampNeg 3 ≤ mj_n (g'5 16) (f 15).toNatClampNeg 3 := by rw [hp18]; split <;> omega
  have hp182 : (g'5 16 z15.toNatClampNeg).toInt = 3 → mj_n (g'5 16) z15.toNatClampNeg 3 + 1 ≤ mj_n (g'5 16) (f 15).toNatClampNeg 3 := fun q => by rw [hp18, if_pos q]; exact Int.le_refl _
  refine am_e35 hi_209_14 ?_
  show am_E _ _ _ _ [some (.ref 39), some (.int 38), some (.int on), some (.int tw)] [] _ _
  refine am_e2 (v := 39) hi_181_337 rfl ?_
  refine am_e0 hi_181_338 ?_
  refine am_e2 (v := 39) hi_181_340 rfl ?_
  refine mm_20 (v := .ref 41) hS17 hi_181_341 rfl ?_
  refine am_e1 (v := tw) hi_181_344 rfl ?_
  refine mm_25 hS17 ma_2 hi_181_345 (by decide) (by omega) (by omega) ?_
  show am_E _ _ _ _ _ (.int (g'5 2 tw.toNatClampNeg) :: _) _ _
  rw [show g'5 2 = g 2 from h13_ 2 (by decide)]
  show am_E _ _ _ _ [some (.ref 39), some (.int 38), some (.int on), some (.int tw)] [.int (g 2 tw.toNatClampNeg), .int 22, .ref 39] _ _
  refine am_e0 hi_181_346 ?_
  refine am_e1 (v := tw) hi_181_347 rfl ?_
  refine am_e32n (as := [.ref 39, .int 22, .int (g 2 tw.toNatClampNeg), .int 0, .int tw]) (la := [some (.ref 39), some (.int 22), some (.int (g 2 tw.toNatClampNeg)), some (.int 0), some (.int tw)]) (rest := []) hi_181_348 (am_hd0 (M := 181) (by decide) 348) (Nat.le_of_ble_eq_true rfl) (Nat.le_of_ble_eq_true rfl) (show 5 ≤ am_P0.2.2.1 189 from by decide +kernel) rfl (am_recv_ok hS17.fs) rfl rfl (ct_put (d := (d + 6)) hS17 hR14_  (by show (0 : Int) ≤ (f 32).toInt; omega) (by show (f 32).toInt ≤ (63 : Int); omega) (by show (f 53).toInt ≤ (4096 : Int); omega) (by show (0 : Int) ≤ s3.toInt; omega) (by show s3.toInt ≤ (65534 : Int); omega)) ?_
  rintro v19 S20 (⟨z21, r22, g'23, hv24, hS25, hR29, h26, h27, h28⟩)
  subst hv24
  have h26_ : z21.toInt = s3.toInt + 1 := h26
  have h27_ : r22.toInt = s3.toInt := h27
  have h28_ : ∀ j, j ∉ [60, 69, 70, 71, 72, 73] → g'23 j = g'5 j := h28
  replace hS25 : MS S0 S20 (upd (upd (upd (upd f 15 z15) 62 o2) 68 z21) 75 m4) g'23 := hS25
  have hR29_ : RJ (upd (upd (upd (upd f 15 z15) 62 o2) 68 z21) 75 m4) g'23 gs bc [] 0 (s3.toNatClampNeg :: []) := hR29
  show am_E _ _ _ _ [some (.ref 39), some (.int 38), some (.int on), some (.int tw)] [.int r22] _ _
  refine am_e6i hi_181_351 ?_
  refine am_e2 (v := 39) hi_181_352 rfl ?_
  refine am_e1 (v := on) hi_181_353 rfl ?_
  refine am_e32w (as := [.ref 39, .int on]) (la := [some (.ref 39), some (.int on)]) (rest := []) hi_181_354 (am_hd0 (M := 181) (by decide) 354) (Nat.le_of_ble_eq_true rfl) (Nat.le_of_ble_eq_true rfl) (show 2 ≤ am_P0.2.2.1 220 from by decide +kernel) rfl (am_recv_ok hS25.fs) rfl rfl ?_
  refine am_e2 (v := 39) hi_220_0 rfl ?_
  refine am_e32n (as := [.ref 39]) (la := [some (.ref 39)]) (rest := []) hi_220_1 (am_hd0 (M := 220) (by decide) 1) (Nat.le_of_ble_eq_true rfl) (Nat.le_of_ble_eq_true rfl) (show 1 ≤ am_P0.2.2.1 183 from by decide +kernel) rfl (am_recv_ok hS25.fs) rfl rfl (ct_next (d := (d + 4)) hS25   (by show (0 : Int) ≤ (f 4).toInt; omega) (by show (f 0).toInt ≤ (16384 : Int); omega)) ?_
  rintro v30 S31 (⟨r32, hv33, hS34, h35⟩)
  subst hv33
  have h35_ : (f 4).toInt < (f 0).toInt ∨ r32.toInt = (-1 : Int) := h35
  show am_E _ _ _ _ [some (.ref 39), some (.int on)] [.int r32] _ _
  refine am_e0 hi_220_4 ?_
  by_cases c37 : r32.toInt = (69 : Int)
  · refine am_e13t hi_220_6 (am_cT (m := r32.toInt) (n := (69 : Int)) rfl (by decide) c37) ?_
    refine am_e2 (v := 39) hi_220_18 rfl ?_
    refine am_e7 hi_220_19 ?_
    refine mm_20 (v := .int (f 4)) hS34 hi_220_20 rfl ?_
    refine am_e0 hi_220_23 ?_
    obtain ⟨z38, hz38, tz38⟩ := am_addI (x := f 4) (y := 1) (m := (f 4).toInt) (n := (1 : Int)) rfl (by decide) (by omega) (by omega)
    refine am_e10 (z := z38) hi_220_24 hz38 ?_
    refine mm_21 (v := z38) hS34 hi_220_25 rfl (Nat.le_of_ble_eq_true rfl) ms_4 ?_
    intro S39 hS40
    replace hS40 : MS S0 S39 (upd (upd (upd (upd (upd f 4 z38) 15 z15) 62 o2) 68 z21) 75 m4) g'23 := hS40
    have hR41 : RJ (upd (upd (upd (upd (upd f 4 z38) 15 z15) 62 o2) 68 z21) 75 m4) g'23 gs bc [] 0 (s3.toNatClampNeg :: []) := RJ.at hR29_ (by show (f 4).toInt ≤ z38.toInt; omega)
    refine am_e2 (v := 39) hi_220_28 rfl ?_
    refine am_e0 hi_220_29 ?_
    refine am_e1 (v := on) hi_220_31 rfl ?_
    refine am_e0 hi_220_32 ?_
    refine am_e0 hi_220_33 ?_
    refine am_e32n (as := [.ref 39, .int 35, .int on, .int 0, .int 0]) (la := [some (.ref 39), some (.int 35), some (.int on), some (.int 0), some (.int 0)]) (rest := []) hi_220_34 (am_hd0 (M := 220) (by decide) 34) (Nat.le_of_ble_eq_true rfl) (Nat.le_of_ble_eq_true rfl) (show 5 ≤ am_P0.2.2.1 179 from by decide +kernel) rfl (am_recv_ok hS40.fs) rfl rfl (ct_pile (d := (d + 5)) hS40 hR41 (mj_e_plain (by decide)) (by show (0 : Int) ≤ (f 10).toInt; omega) (by show (f 10).toInt ≤ (65535 : Int); omega)) ?_
    rintro v42 S43 (⟨z44, g'45, hv46, hS47, hR50, h48, h49⟩)
    subst hv46
    have h48_ : z44.toInt = (f 10).toInt + 1 := h48
    have h49_ : ∀ j, j ∉ [11, 12, 13, 14] → g'45 j = g'23 j := h49
    replace hS47 : MS S0 S43 (upd (upd (upd (upd (upd (upd f 4 z38) 10 z44) 15 z15) 62 o2) 68 z21) 75 m4) g'45 := hS47
    have hR50_ : RJ (upd (upd (upd (upd (upd (upd f 4 z38) 10 z44) 15 z15) 62 o2) 68 z21) 75 m4) g'45 (((35 : Int), on.toInt, (0 : Int), (0 : Int), []) :: gs) bc [] 0 (s3.toNatClampNeg :: []) := hR50
    show am_E _ _ _ _ [some (.ref 39), some (.int on)] [] _ _
    refine am_e18 hi_220_37 ?_
    refine am_e35 hi_220_47 ?_
    show am_E _ _ _ _ [some (.ref 39), some (.int 38), some (.int on), some (.int tw)] [] _ _
    refine am_e18 hi_181_357 ?_
    refine am_e35 hi_181_397 ?_
    show am_E _ _ _ _ [some (.ref 39), some (.int 38), some (.int on), some (.int tw), some (.int th)] [] _ _
    refine am_e35 hi_180_13 ?_
    have q1 : mg_p1 (((35 : Int), on.toInt, (0 : Int), (0 : Int), []) :: gs) = 0 + (mg_p1 gs) := rfl
    have q2 : mg_p2 (((35 : Int), on.toInt, (0 : Int), (0 : Int), []) :: gs) = 0 + (mg_p2 gs) := rfl
    have q3 : mg_p3 (((35 : Int), on.toInt, (0 : Int), (0 : Int), []) :: gs) = 3 + (mg_p3 gs) := rfl
    have q4 : mg_p4 (((35 : Int), on.toInt, (0 : Int), (0 : Int), []) :: gs) = 0 + (mg_p4 gs) := rfl
    refine ⟨_, _, _, bc, rfl, hS47, Or.inl ⟨⟨(RJ.fewer (pj' := []) hR50_ (fun _ h => nomatch h)), ?_, ?_⟩, rfl, ?_⟩⟩
    · exact (⟨⟨(show mg_k 35 from by decide), (show (0 : Int) ≤ z15.toInt from by omega), (show 0 ≤ (f 20).toInt from by omega), (show 1 ≤ (f 37).toInt from by omega), (show 0 ≤ (f 32).toInt from by omega), (show (f 32).toInt ≤ (f 5).toInt from by omega), (show (f 5).toInt ≤ 48 from by omega), (show (f 37).toInt ≤ 2 * ((f 5).toInt) + 2 from by omega), trivial⟩, mg_cast (mg_good_ext _ _ _ _ _ _ (fun i _ => by show g'45 34 i = g 34 i; rw [show g'45 34 = g'23 34 from h49_ 34 (by decide), show g'23 34 = g'5 34 from h28_ 34 (by decide), show g'5 34 = g 34 from h13_ 34 (by decide)]) (fun i _ => by show g'45 38 i = g 38 i; rw [show g'45 38 = g'23 38 from h49_ 38 (by decide), show g'23 38 = g'5 38 from h28_ 38 (by decide), show g'5 38 = g 38 from h13_ 38 (by decide)]) (fun i _ => by show g'45 23 i = g 23 i; rw [show g'45 23 = g'23 23 from h49_ 23 (by decide), show g'23 23 = g'5 23 from h28_ 23 (by decide), show g'5 23 = g 23 from h13_ 23 (by decide)]) hrest) (by show (f 15).toInt + -1 = z15.toInt + 0; omega) (by show (f 20).toInt = (f 20).toInt; omega) (by show (f 37).toInt + 0 = (f 37).toInt + 0; omega) (by show (f 32).toInt + 0 = (f 32).toInt + 0; omega) (by show (f 5).toInt + -1 = (f 5).toInt + -1; omega)⟩ : mg_good (g'45 34) (g'45 38) (g'45 23) (((35 : Int), on.toInt, (0 : Int), (0 : Int), []) :: gs) (z15.toInt) ((f 20).toInt) ((f 37).toInt) ((f 32).toInt) ((f 5).toInt))
    · exact ⟨(by show 0 ≤ z38.toInt; omega), (by show z38.toInt ≤ (f 0).toInt; omega), (by show (f 0).toInt ≤ 512; omega), (by show 0 ≤ (f 24).toInt; omega), (by show (f 24).toInt + (f 20).toInt + mg_p1 (((35 : Int), on.toInt, (0 : Int), (0 : Int), []) :: gs) ≤ 4 * z38.toInt; omega), (by show (f 20).toInt ≤ z38.toInt; omega), (by show z15.toInt + mg_p2 (((35 : Int), on.toInt, (0 : Int), (0 : Int), []) :: gs) ≤ z38.toInt; omega), (by show mg_p3 (((35 : Int), on.toInt, (0 : Int), (0 : Int), []) :: gs) ≤ 20 * z38.toInt + 20; omega), (by show 0 ≤ z21.toInt; omega), (by show z21.toInt + 3 * (f 20).toInt + mg_p4 (((35 : Int), on.toInt, (0 : Int), (0 : Int), []) :: gs) ≤ 60 * z38.toInt + 60; omega), (by show 0 ≤ o2.toInt; omega), (by show o2.toInt + 64 * mj_n (g'45 16) z15.toNatClampNeg 3 ≤ 64 * z38.toInt; rw [show g'45 16 = g'23 16 from h49_ 16 (by decide), show g'23 16 = g'5 16 from h28_ 16 (by decide)]; omega), (by show 0 ≤ (f 44).toInt; omega), (by show (f 44).toInt ≤ z38.toInt; omega), (by show 0 ≤ (f 48).toInt; omega), (by show (f 48).toInt ≤ z38.toInt; omega), (by show 1 ≤ (f 53).toInt; omega), (by show (f 53).toInt ≤ z38.toInt + 1; omega), (by show 0 ≤ (f 19).toInt; omega), (by show (f 19).toInt ≤ 600; omega), (by show 0 ≤ (f 6).toInt; omega), (by show 0 ≤ (f 8).toInt; omega)⟩
    · show 100 * ((f 0).toInt - z38.toInt) + mg_p3 (((35 : Int), on.toInt, (0 : Int), (0 : Int), []) :: gs) < 100 * ((f 0).toInt - (f 4).toInt) + (1 + mg_p3 gs); omega
  · refine am_e13f hi_220_6 (am_cF (m := r32.toInt) (n := (69 : Int)) rfl (by decide) c37) ?_
    refine am_e2 (v := 39) hi_220_9 rfl ?_
    refine am_e32n (as := [.ref 39]) (la := [some (.ref 39)]) (rest := []) hi_220_10 (am_hd0 (M := 220) (by decide) 10) (Nat.le_of_ble_eq_true rfl) (Nat.le_of_ble_eq_true rfl) (show 1 ≤ am_P0.2.2.1 183 from by decide +kernel) rfl (am_recv_ok hS34.fs) rfl rfl (ct_next (d := (d + 4)) hS34   (by show (0 : Int) ≤ (f 4).toInt; omega) (by show (f 0).toInt ≤ (16384 : Int); omega)) ?_
    rintro v51 S52 (⟨r53, hv54, hS55, h56⟩)
    subst hv54
    have h56_ : (f 4).toInt < (f 0).toInt ∨ r53.toInt = (-1 : Int) := h56
    show am_E _ _ _ _ [some (.ref 39), some (.int on)] [.int r53] _ _
    refine am_e0 hi_220_13 ?_
    by_cases c58 : ¬ r53.toInt = (67 : Int)
    · refine am_e13t hi_220_15 (am_cT (m := r53.toInt) (n := (67 : Int)) rfl (by decide) c58) ?_
      refine am_e2 (v := 39) hi_220_40 rfl ?_
      refine am_e0 hi_220_41 ?_
      refine am_e32n (as := [.ref 39, .int 63]) (la := [some (.ref 39), some (.int 63)]) (rest := []) hi_220_43 (am_hd0 (M := 220) (by decide) 43) (Nat.le_of_ble_eq_true rfl) (Nat.le_of_ble_eq_true rfl) (show 2 ≤ am_P0.2.2.1 199 from by decide +kernel) rfl (am_recv_ok hS55.fs) rfl rfl (ct_leave (d := (d + 2)) hS55   (by show (0 : Int) ≤ (f 4).toInt; omega) (by show (f 0).toInt ≤ (16384 : Int); omega) (by show (0 : Int) ≤ (63 : Int); omega) (by show (0 : Int) ≤ (f 5).toInt; omega) (by show (f 5).toInt ≤ (48 : Int); omega) (by show (0 : Int) ≤ (f 6).toInt; omega)) ?_
      rintro v59 S60 (⟨z61, y62, hv63, hS64, h65, h66, h67⟩ | ⟨a69, b70, hv71, hS72, h73⟩)
      · subst hv63
        have h65_ : z61.toInt = (f 4).toInt + 1 := h65
        have h66_ : (f 4).toInt < (f 0).toInt := h66
        have h67_ : y62.toInt = (f 5).toInt - 1 := h67
        replace hS64 : MS S0 S60 (upd (upd (upd (upd (upd (upd f 4 z61) 5 y62) 15 z15) 62 o2) 68 z21) 75 m4) g'23 := hS64
        have hR75 : RJ (upd (upd (upd (upd (upd (upd f 4 z61) 5 y62) 15 z15) 62 o2) 68 z21) 75 m4) g'23 gs bc [] 0 (s3.toNatClampNeg :: []) := RJ.at hR29_ (by show (f 4).toInt ≤ z61.toInt; omega)
        show am_E _ _ _ _ [some (.ref 39), some (.int on)] [.int 1] _ _
        refine am_e6i hi_220_46 ?_
        refine am_e35 hi_220_47 ?_
        show am_E _ _ _ _ [some (.ref 39), some (.int 38), some (.int on), some (.int tw)] [] _ _
        refine am_e18 hi_181_357 ?_
        refine am_e35 hi_181_397 ?_
        show am_E _ _ _ _ [some (.ref 39), some (.int 38), some (.int on), some (.int tw), some (.int th)] [] _ _
        refine am_e35 hi_180_13 ?_
        have q1 : mg_p1 gs = mg_p1 gs := rfl
        have q2 : mg_p2 gs = mg_p2 gs := rfl
        have q3 : mg_p3 gs = mg_p3 gs := rfl
        have q4 : mg_p4 gs = mg_p4 gs := rfl
        refine ⟨_, _, _, bc, rfl, hS64, Or.inl ⟨⟨(RJ.fewer (pj' := []) hR75 (fun _ h => nomatch h)), ?_, ?_⟩, rfl, ?_⟩⟩
        · exact (mg_cast (mg_good_ext _ _ _ _ _ _ (fun i _ => by show g'23 34 i = g 34 i; rw [show g'23 34 = g'5 34 from h28_ 34 (by decide), show g'5 34 = g 34 from h13_ 34 (by decide)]) (fun i _ => by show g'23 38 i = g 38 i; rw [show g'23 38 = g'5 38 from h28_ 38 (by decide), show g'5 38 = g 38 from h13_ 38 (by decide)]) (fun i _ => by show g'23 23 i = g 23 i; rw [show g'23 23 = g'5 23 from h28_ 23 (by decide), show g'5 23 = g 23 from h13_ 23 (by decide)]) hrest) (by show (f 15).toInt + -1 = z15.toInt; omega) (by show (f 20).toInt = (f 20).toInt; omega) (by show (f 37).toInt + 0 = (f 37).toInt; omega) (by show (f 32).toInt + 0 = (f 32).toInt; omega) (by show (f 5).toInt + -1 = y62.toInt; omega) : mg_good (g'23 34) (g'23 38) (g'23 23) gs (z15.toInt) ((f 20).toInt) ((f 37).toInt) ((f 32).toInt) (y62.toInt))
        · exact ⟨(by show 0 ≤ z61.toInt; omega), (by show z61.toInt ≤ (f 0).toInt; omega), (by show (f 0).toInt ≤ 512; omega), (by show 0 ≤ (f 24).toInt; omega), (by show (f 24).toInt + (f 20).toInt + mg_p1 gs ≤ 4 * z61.toInt; omega), (by show (f 20).toInt ≤ z61.toInt; omega), (by show z15.toInt + mg_p2 gs ≤ z61.toInt; omega), (by show mg_p3 gs ≤ 20 * z61.toInt + 20; omega), (by show 0 ≤ z21.toInt; omega), (by show z21.toInt + 3 * (f 20).toInt + mg_p4 gs ≤ 60 * z61.toInt + 60; omega), (by show 0 ≤ o2.toInt; omega), (by show o2.toInt + 64 * mj_n (g'23 16) z15.toNatClampNeg 3 ≤ 64 * z61.toInt; rw [show g'23 16 = g'5 16 from h28_ 16 (by decide)]; omega), (by show 0 ≤ (f 44).toInt; omega), (by show (f 44).toInt ≤ z61.toInt; omega), (by show 0 ≤ (f 48).toInt; omega), (by show (f 48).toInt ≤ z61.toInt; omega), (by show 1 ≤ (f 53).toInt; omega), (by show (f 53).toInt ≤ z61.toInt + 1; omega), (by show 0 ≤ (f 19).toInt; omega), (by show (f 19).toInt ≤ 600; omega), (by show 0 ≤ (f 6).toInt; omega), (by show 0 ≤ (f 8).toInt; omega)⟩
        · show 100 * ((f 0).toInt - z61.toInt) + mg_p3 gs < 100 * ((f 0).toInt - (f 4).toInt) + (1 + mg_p3 gs); omega
      · subst hv71
        have h73_ : (0 : Int) ≤ a69.toInt := h73
        replace hS72 : MS S0 S60 (upd (upd (upd (upd (upd (upd (upd f 6 a69) 7 b70) 10 0) 15 z15) 62 o2) 68 z21) 75 m4) g'23 := hS72
        have hR76 := rj_clear0 hR29_
        have hR77 : RJ (upd (upd (upd (upd (upd (upd (upd f 6 a69) 7 b70) 10 0) 15 z15) 62 o2) 68 z21) 75 m4) g'23 [] bc [] 0 [] := hR76
        show am_E _ _ _ _ [some (.ref 39), some (.int on)] [.int 0] _ _
        refine am_e6i hi_220_46 ?_
        refine am_e35 hi_220_47 ?_
        show am_E _ _ _ _ [some (.ref 39), some (.int 38), some (.int on), some (.int tw)] [] _ _
        refine am_e18 hi_181_357 ?_
        refine am_e35 hi_181_397 ?_
        show am_E _ _ _ _ [some (.ref 39), some (.int 38), some (.int on), some (.int tw), some (.int th)] [] _ _
        refine am_e35 hi_180_13 ?_
        have hRc := rj_clear0 hR77
        refine ⟨_, _, [], _, rfl, hS72, Or.inr ⟨hRc, rfl, (by show 0 ≤ (f 4).toInt; omega), (by show (f 4).toInt ≤ (f 0).toInt; omega), (by show 0 ≤ (f 32).toInt; omega), (by show (f 32).toInt ≤ 63; omega), (by show 1 ≤ (f 53).toInt; omega), (by show (f 53).toInt ≤ 600; omega), (by show 0 ≤ z21.toInt; omega), (by show z21.toInt ≤ 60000; omega), (by show 0 ≤ (f 48).toInt; omega), (by show (f 48).toInt ≤ 8000; omega), (by show 0 ≤ (f 37).toInt; omega), (by show (f 37).toInt ≤ 128; omega), (by show 0 ≤ o2.toInt; omega), (by show o2.toInt ≤ 65000; omega), (by show 0 ≤ (f 19).toInt; omega), (by show (f 19).toInt ≤ 600; omega), (by show 0 ≤ a69.toInt; omega), (by show 0 ≤ (f 8).toInt; omega)⟩⟩
    · refine am_e13f hi_220_15 (am_cF (m := r53.toInt) (n := (67 : Int)) rfl (by decide) c58) ?_
      refine am_e2 (v := 39) hi_220_18 rfl ?_
      refine am_e7 hi_220_19 ?_
      refine mm_20 (v := .int (f 4)) hS55 hi_220_20 rfl ?_
      refine am_e0 hi_220_23 ?_
      obtain ⟨z78, hz78, tz78⟩ := am_addI (x := f 4) (y := 1) (m := (f 4).toInt) (n := (1 : Int)) rfl (by decide) (by omega) (by omega)
      refine am_e10 (z := z78) hi_220_24 hz78 ?_
      refine mm_21 (v := z78) hS55 hi_220_25 rfl (Nat.le_of_ble_eq_true rfl) ms_4 ?_
      intro S79 hS80
      replace hS80 : MS S0 S79 (upd (upd (upd (upd (upd f 4 z78) 15 z15) 62 o2) 68 z21) 75 m4) g'23 := hS80
      have hR81 : RJ (upd (upd (upd (upd (upd f 4 z78) 15 z15) 62 o2) 68 z21) 75 m4) g'23 gs bc [] 0 (s3.toNatClampNeg :: []) := RJ.at hR29_ (by show (f 4).toInt ≤ z78.toInt; omega)
      refine am_e2 (v := 39) hi_220_28 rfl ?_
      refine am_e0 hi_220_29 ?_
      refine am_e1 (v := on) hi_220_31 rfl ?_
      refine am_e0 hi_220_32 ?_
      refine am_e0 hi_220_33 ?_
      refine am_e32n (as := [.ref 39, .int 35, .int on, .int 0, .int 0]) (la := [some (.ref 39), some (.int 35), some (.int on), some (.int 0), some (.int 0)]) (rest := []) hi_220_34 (am_hd0 (M := 220) (by decide) 34) (Nat.le_of_ble_eq_true rfl) (Nat.le_of_ble_eq_true rfl) (show 5 ≤ am_P0.2.2.1 179 from by decide +kernel) rfl (am_recv_ok hS80.fs) rfl rfl (ct_pile (d := (d + 5)) hS80 hR81 (mj_e_plain (by decide)) (by show (0 : Int) ≤ (f 10).toInt; omega) (by show (f 10).toInt ≤ (65535 : Int); omega)) ?_
      rintro v82 S83 (⟨z84, g'85, hv86, hS87, hR90, h88, h89⟩)
      subst hv86
      have h88_ : z84.toInt = (f 10).toInt + 1 := h88
      have h89_ : ∀ j, j ∉ [11, 12, 13, 14] → g'85 j = g'23 j := h89
      replace hS87 : MS S0 S83 (upd (upd (upd (upd (upd (upd f 4 z78) 10 z84) 15 z15) 62 o2) 68 z21) 75 m4) g'85 := hS87
      have hR90_ : RJ (upd (upd (upd (upd (upd (upd f 4 z78) 10 z84) 15 z15) 62 o2) 68 z21) 75 m4) g'85 (((35 : Int), on.toInt, (0 : Int), (0 : Int), []) :: gs) bc [] 0 (s3.toNatClampNeg :: []) := hR90
      show am_E _ _ _ _ [some (.ref 39), some (.int on)] [] _ _
      refine am_e18 hi_220_37 ?_
      refine am_e35 hi_220_47 ?_
      show am_E _ _ _ _ [some (.ref 39), some (.int 38), some (.int on), some (.int tw)] [] _ _
      refine am_e18 hi_181_357 ?_
      refine am_e35 hi_181_397 ?_
      show am_E _ _ _ _ [some (.ref 39), some (.int 38), some (.int on), some (.int tw), some (.int th)] [] _ _
      refine am_e35 hi_180_13 ?_
      have q1 : mg_p1 (((35 : Int), on.toInt, (0 : Int), (0 : Int), []) :: gs) = 0 + (mg_p1 gs) := rfl
      have q2 : mg_p2 (((35 : Int), on.toInt, (0 : Int), (0 : Int), []) :: gs) = 0 + (mg_p2 gs) := rfl
      have q3 : mg_p3 (((35 : Int), on.toInt, (0 : Int), (0 : Int), []) :: gs) = 3 + (mg_p3 gs) := rfl
      have q4 : mg_p4 (((35 : Int), on.toInt, (0 : Int), (0 : Int), []) :: gs) = 0 + (mg_p4 gs) := rfl
      refine ⟨_, _, _, bc, rfl, hS87, Or.inl ⟨⟨(RJ.fewer (pj' := []) hR90_ (fun _ h => nomatch h)), ?_, ?_⟩, rfl, ?_⟩⟩
      · exact (⟨⟨(show mg_k 35 from by decide), (show (0 : Int) ≤ z15.toInt from by omega), (show 0 ≤ (f 20).toInt from by omega), (show 1 ≤ (f 37).toInt from by omega), (show 0 ≤ (f 32).toInt from by omega), (show (f 32).toInt ≤ (f 5).toInt from by omega), (show (f 5).toInt ≤ 48 from by omega), (show (f 37).toInt ≤ 2 * ((f 5).toInt) + 2 from by omega), trivial⟩, mg_cast (mg_good_ext _ _ _ _ _ _ (fun i _ => by show g'85 34 i = g 34 i; rw [show g'85 34 = g'23 34 from h89_ 34 (by decide), show g'23 34 = g'5 34 from h28_ 34 (by decide), show g'5 34 = g 34 from h13_ 34 (by decide)]) (fun i _ => by show g'85 38 i = g 38 i; rw [show g'85 38 = g'23 38 from h89_ 38 (by decide), show g'23 38 = g'5 38 from h28_ 38 (by decide), show g'5 38 = g 38 from h13_ 38 (by decide)]) (fun i _ => by show g'85 23 i = g 23 i; rw [show g'85 23 = g'23 23 from h89_ 23 (by decide), show g'23 23 = g'5 23 from h28_ 23 (by decide), show g'5 23 = g 23 from h13_ 23 (by decide)]) hrest) (by show (f 15).toInt + -1 = z15.toInt + 0; omega) (by show (f 20).toInt = (f 20).toInt; omega) (by show (f 37).toInt + 0 = (f 37).toInt + 0; omega) (by show (f 32).toInt + 0 = (f 32).toInt + 0; omega) (by show (f 5).toInt + -1 = (f 5).toInt + -1; omega)⟩ : mg_good (g'85 34) (g'85 38) (g'85 23) (((35 : Int), on.toInt, (0 : Int), (0 : Int), []) :: gs) (z15.toInt) ((f 20).toInt) ((f 37).toInt) ((f 32).toInt) ((f 5).toInt))
      · exact ⟨(by show 0 ≤ z78.toInt; omega), (by show z78.toInt ≤ (f 0).toInt; omega), (by show (f 0).toInt ≤ 512; omega), (by show 0 ≤ (f 24).toInt; omega), (by show (f 24).toInt + (f 20).toInt + mg_p1 (((35 : Int), on.toInt, (0 : Int), (0 : Int), []) :: gs) ≤ 4 * z78.toInt; omega), (by show (f 20).toInt ≤ z78.toInt; omega), (by show z15.toInt + mg_p2 (((35 : Int), on.toInt, (0 : Int), (0 : Int), []) :: gs) ≤ z78.toInt; omega), (by show mg_p3 (((35 : Int), on.toInt, (0 : Int), (0 : Int), []) :: gs) ≤ 20 * z78.toInt + 20; omega), (by show 0 ≤ z21.toInt; omega), (by show z21.toInt + 3 * (f 20).toInt + mg_p4 (((35 : Int), on.toInt, (0 : Int), (0 : Int), []) :: gs) ≤ 60 * z78.toInt + 60; omega), (by show 0 ≤ o2.toInt; omega), (by show o2.toInt + 64 * mj_n (g'85 16) z15.toNatClampNeg 3 ≤ 64 * z78.toInt; rw [show g'85 16 = g'23 16 from h89_ 16 (by decide), show g'23 16 = g'5 16 from h28_ 16 (by decide)]; omega), (by show 0 ≤ (f 44).toInt; omega), (by show (f 44).toInt ≤ z78.toInt; omega), (by show 0 ≤ (f 48).toInt; omega), (by show (f 48).toInt ≤ z78.toInt; omega), (by show 1 ≤ (f 53).toInt; omega), (by show (f 53).toInt ≤ z78.toInt + 1; omega), (by show 0 ≤ (f 19).toInt; omega), (by show (f 19).toInt ≤ 600; omega), (by show 0 ≤ (f 6).toInt; omega), (by show 0 ≤ (f 8).toInt; omega)⟩
      · show 100 * ((f 0).toInt - z78.toInt) + mg_p3 (((35 : Int), on.toInt, (0 : Int), (0 : Int), []) :: gs) < 100 * ((f 0).toInt - (f 4).toInt) + (1 + mg_p3 gs); omega
theorem st_39 {sc : Nat × (Nat → Int32)} {d : Nat} {S0 S : am_S} {f : Nat → Int32} {g : Nat → Nat → Int32} {on : Int32} {tw : Int32} {th : Int32} {gs : List mg_E} {bc : List (List Nat)} (hS : MS S0 S f g) (hR : RJ f g gs bc [] 0 []) (hrest : mg_good (g 34) (g 38) (g 23) gs ((f 15).toInt + -1) ((f 20).toInt) ((f 37).toInt + 0) ((f 32).toInt + 0) ((f 5).toInt + -1)) (p0 : 0 ≤ (f 4).toInt) (p1 : (f 4).toInt ≤ (f 0).toInt) (p2 : (f 0).toInt ≤ 512) (p3 : 0 ≤ (f 24).toInt) (p4 : (f 24).toInt + (f 20).toInt + mg_p1 gs ≤ 4 * (f 4).toInt) (p5 : (f 20).toInt ≤ (f 4).toInt) (p6 : (f 15).toInt + 0 + mg_p2 gs ≤ (f 4).toInt) (p7 : 1 + mg_p3 gs ≤ 20 * (f 4).toInt + 20) (p8 : 0 ≤ (f 68).toInt) (p9 : (f 68).toInt + 3 * (f 20).toInt + 0 + mg_p4 gs ≤ 60 * (f 4).toInt + 60) (p10 : 0 ≤ (f 62).toInt) (p11 : (f 62).toInt + 64 * mj_n (g 16) (f 15).toNatClampNeg 3 ≤ 64 * (f 4).toInt) (p12 : 0 ≤ (f 44).toInt) (p13 : (f 44).toInt ≤ (f 4).toInt) (p14 : 0 ≤ (f 48).toInt) (p15 : (f 48).toInt ≤ (f 4).toInt) (p16 : 1 ≤ (f 53).toInt) (p17 : (f 53).toInt ≤ (f 4).toInt + 1) (p18 : 0 ≤ (f 19).toInt) (p19 : (f 19).toInt ≤ 600) (p20 : 0 ≤ (f 6).toInt) (p21 : 0 ≤ (f 8).toInt) (p22 : 0 ≤ mg_p1 gs) (p23 : 0 ≤ mg_p2 gs) (p24 : 0 ≤ mg_p4 gs) (p25 : 0 ≤ (f 10).toInt) (p26 : (f 10).toInt ≤ mg_p3 gs) (p27 : 0 ≤ mj_n (g 16) (f 15).toNatClampNeg 3) (p28 : 1 ≤ (f 15).toInt) (p29 : 0 ≤ (f 20).toInt) (p30 : 1 ≤ (f 37).toInt) (p31 : 0 ≤ (f 32).toInt) (p32 : (f 32).toInt ≤ (f 5).toInt) (p33 : (f 5).toInt ≤ 48) (p34 : (f 37).toInt ≤ 2 * (f 5).toInt + 2) : am_E (am_PP sc) (d + 8) 180 0 [some (.ref 39), some (.int 39), some (.int on), some (.int tw), some (.int th)] [] S (am_N fun v S1 => ∃ (f' : Nat → Int32) (g' : Nat → Nat → Int32) (gs' : List mg_E) (bc' : List (List Nat)), v = none ∧ MS S0 S1 f' g' ∧ (mg_on f (100 * ((f 0).toInt - (f 4).toInt) + (1 + mg_p3 gs)) f' g' gs' bc' ∨ mg_off f f' g' bc')) := by
  have hbs := mg_basic hrest
  refine am_e1 (v := 39) hi_180_0 rfl ?_
  refine am_e0 hi_180_1 ?_
  refine am_e13f hi_180_3 (by decide) ?_
  refine am_e2 (v := 39) hi_180_6 rfl ?_
  refine am_e1 (v := 39) hi_180_7 rfl ?_
  refine am_e1 (v := on) hi_180_8 rfl ?_
  refine am_e1 (v := tw) hi_180_9 rfl ?_
  refine am_e32w (as := [.ref 39, .int 39, .int on, .int tw]) (la := [some (.ref 39), some (.int 39), some (.int on), some (.int tw)]) (rest := []) hi_180_10 (am_hd0 (M := 180) (by decide) 10) (Nat.le_of_ble_eq_true rfl) (Nat.le_of_ble_eq_true rfl) (show 4 ≤ am_P0.2.2.1 181 from by decide +kernel) rfl (am_recv_ok hS.fs) rfl rfl ?_
  refine am_e1 (v := 39) hi_181_0 rfl ?_
  refine am_e19 (t := 360) hi_181_1 (by decide) ?_
  refine am_e2 (v := 39) hi_181_360 rfl ?_
  refine am_e1 (v := on) hi_181_361 rfl ?_
  refine am_e1 (v := tw) hi_181_362 rfl ?_
  refine am_e32w (as := [.ref 39, .int on, .int tw]) (la := [some (.ref 39), some (.int on), some (.int tw), none]) (rest := []) hi_181_363 (am_hd0 (M := 181) (by decide) 363) (Nat.le_of_ble_eq_true rfl) (Nat.le_of_ble_eq_true rfl) (show 3 ≤ am_P0.2.2.1 221 from by decide +kernel) rfl (am_recv_ok hS.fs) rfl rfl ?_
  refine am_e2 (v := 39) hi_221_0 rfl ?_
  refine am_e32n (as := [.ref 39]) (la := [some (.ref 39)]) (rest := []) hi_221_1 (am_hd0 (M := 221) (by decide) 1) (Nat.le_of_ble_eq_true rfl) (Nat.le_of_ble_eq_true rfl) (show 1 ≤ am_P0.2.2.1 183 from by decide +kernel) rfl (am_recv_ok hS.fs) rfl rfl (ct_next (d := (d + 4)) hS   (by show (0 : Int) ≤ (f 4).toInt; omega) (by show (f 0).toInt ≤ (16384 : Int); omega)) ?_
  rintro v0 S1 (⟨r2, hv3, hS4, h5⟩)
  subst hv3
  have h5_ : (f 4).toInt < (f 0).toInt ∨ r2.toInt = (-1 : Int) := h5
  show am_E _ _ _ _ [some (.ref 39), some (.int on), some (.int tw), none] [.int r2] _ _
  refine am_e0 hi_221_4 ?_
  by_cases c7 : r2.toInt = (63 : Int)
  · refine am_e13t hi_221_6 (am_cT (m := r2.toInt) (n := (63 : Int)) rfl (by decide) c7) ?_
    refine am_e0 hi_221_42 ?_
    refine am_e18 hi_221_43 ?_
    refine am_e3 (ls' := [some (.ref 39), some (.int on), some (.int tw), some (.int 1)]) hi_221_47 (Nat.le_of_ble_eq_true rfl) rfl ?_
    refine am_e1 (v := 1) hi_221_48 rfl ?_
    refine am_e12f hi_221_49 (by decide) ?_
    refine am_e2 (v := 39) hi_221_52 rfl ?_
    refine am_e32w (as := [.ref 39]) (la := [some (.ref 39)]) (rest := []) hi_221_53 (am_hd0 (M := 221) (by decide) 53) (Nat.le_of_ble_eq_true rfl) (Nat.le_of_ble_eq_true rfl) (show 1 ≤ am_P0.2.2.1 216 from by decide +kernel) rfl (am_recv_ok hS4.fs) rfl rfl ?_
    refine am_e2 (v := 39) hi_216_0 rfl ?_
    refine mm_20 (v := .ref 46) hS4 hi_216_1 rfl ?_
    refine am_e2 (v := 39) hi_216_4 rfl ?_
    refine mm_20 (v := .int (f 15)) hS4 hi_216_5 rfl ?_
    refine am_e0 hi_216_8 ?_
    obtain ⟨z8, hz8, tz8⟩ := am_subI (x := f 15) (y := 1) (m := (f 15).toInt) (n := (1 : Int)) rfl (by decide) (by omega) (by omega)
    refine am_e10 (z := z8) hi_216_9 hz8 ?_
    refine mm_25 hS4 ma_16 hi_216_10 (by decide) (by omega) (by omega) ?_
    show am_E _ _ _ _ [some (.ref 39)] [.int (g 16 z8.toNatClampNeg)] _ _
    refine am_e0 hi_216_11 ?_
    by_cases c9 : (g 16 z8.toNatClampNeg).toInt = (1 : Int)
    · refine am_e13t hi_216_12 (am_cT (m := (g 16 z8.toNatClampNeg).toInt) (n := (1 : Int)) rfl (by decide) c9) ?_
      refine am_e0 hi_216_30 ?_
      refine am_e18 hi_216_31 ?_
      refine am_e36 hi_216_35 (by decide) ?_
      show am_E _ _ _ _ [some (.ref 39), some (.int on), some (.int tw), some (.int 1)] [.int 1] _ _
      refine am_e12f hi_221_56 (by decide) ?_
      refine am_e2 (v := 39) hi_221_59 rfl ?_
      refine am_e32w (as := [.ref 39]) (la := [some (.ref 39), none]) (rest := []) hi_221_60 (am_hd0 (M := 221) (by decide) 60) (Nat.le_of_ble_eq_true rfl) (Nat.le_of_ble_eq_true rfl) (show 1 ≤ am_P0.2.2.1 217 from by decide +kernel) rfl (am_recv_ok hS4.fs) rfl rfl ?_
      refine am_e2 (v := 39) hi_217_0 rfl ?_
      refine mm_20 (v := .ref 47) hS4 hi_217_1 rfl ?_
      refine am_e2 (v := 39) hi_217_4 rfl ?_
      refine mm_20 (v := .int (f 15)) hS4 hi_217_5 rfl ?_
      refine am_e0 hi_217_8 ?_
      refine am_e10 (z := z8) hi_217_9 hz8 ?_
      refine mm_25 hS4 ma_17 hi_217_10 (by decide) (by omega) (by omega) ?_
      show am_E _ _ _ _ [some (.ref 39), none] [.int (g 17 z8.toNatClampNeg)] _ _
      have r10 : (g 16 z8.toNatClampNeg).toInt = 1 ∨ (g 16 z8.toNatClampNeg).toInt = 2 → 0 ≤ (g 17 z8.toNatClampNeg).toInt ∧ (g 17 z8.toNatClampNeg).toInt < 65536 := RJ.vc hR z8.toNatClampNeg
      refine am_e3 (ls' := [some (.ref 39), some (.int (g 17 z8.toNatClampNeg))]) hi_217_11 (Nat.le_of_ble_eq_true rfl) rfl ?_
      refine am_e2 (v := 39) hi_217_12 rfl ?_
      refine mm_20 (v := .ref 91) hS4 hi_217_13 rfl ?_
      refine am_e1 (v := g 17 z8.toNatClampNeg) hi_217_16 rfl ?_
      refine am_e2 (v := 39) hi_217_17 rfl ?_
      refine mm_20 (v := .ref 46) hS4 hi_217_18 rfl ?_
      refine am_e2 (v := 39) hi_217_21 rfl ?_
      refine mm_20 (v := .int (f 15)) hS4 hi_217_22 rfl ?_
      refine am_e0 hi_217_25 ?_
      refine am_e10 (z := z8) hi_217_26 hz8 ?_
      refine mm_25 hS4 ma_16 hi_217_27 (by decide) (by omega) (by omega) ?_
      show am_E _ _ _ _ [some (.ref 39), some (.int (g 17 z8.toNatClampNeg))] [.int (g 16 z8.toNatClampNeg), .int (g 17 z8.toNatClampNeg), .ref 91] _ _
      refine am_e0 hi_217_28 ?_
      refine am_e13f hi_217_29 (am_cF (m := (g 16 z8.toNatClampNeg).toInt) (n := (1 : Int)) rfl (by decide) (by simp only [am_cI]; omega)) ?_
      refine am_e2 (v := 39) hi_217_32 rfl ?_
      refine mm_20 (v := .ref 91) hS4 hi_217_33 rfl ?_
      refine am_e1 (v := g 17 z8.toNatClampNeg) hi_217_36 rfl ?_
      refine mm_25 hS4 ma_72 hi_217_37 (by decide) (by omega) (by omega) ?_
      show am_E _ _ _ _ [some (.ref 39), some (.int (g 17 z8.toNatClampNeg))] [.int (g 72 (g 17 z8.toNatClampNeg).toNatClampNeg), .int (g 17 z8.toNatClampNeg), .ref 91] _ _
      refine am_e0 hi_217_38 ?_
      obtain ⟨z11, hz11⟩ : ∃ q__, am_bin 3 (g 72 (g 17 z8.toNatClampNeg).toNatClampNeg) 1 = q__ := ⟨_, rfl⟩
      refine am_e10 (z := z11) hi_217_39 hz11 ?_
      refine am_e0 hi_217_40 ?_
      obtain ⟨z12, hz12⟩ : ∃ q__, am_bin 4 z11 4 = q__ := ⟨_, rfl⟩
      refine am_e10 (z := z12) hi_217_41 hz12 ?_
      refine am_e18 hi_217_42 ?_
      refine mm_26 hS4 ma_72 hi_217_46 (by decide) (by omega) (by omega) (fun h => nomatch h) ?_
      intro S13 hS14
      refine am_e2 (v := 39) hi_217_47 rfl ?_
      refine am_e7 hi_217_48 ?_
      refine mm_20 (v := .int (f 15)) hS14 hi_217_49 rfl ?_
      refine am_e0 hi_217_52 ?_
      refine am_e10 (z := z8) hi_217_53 hz8 ?_
      refine mm_21 (v := z8) hS14 hi_217_54 rfl (Nat.le_of_ble_eq_true rfl) ms_15 ?_
      intro S15 hS16
      have hp17 : mj_n (g 16) (f 15).toNatClampNeg 3 = mj_n (g 16) z8.toNatClampNeg 3 + if (g 16 z8.toNatClampNeg).toInt = 3 then 1 else 0 := mj_pop (by rw [cl_toNat, cl_toNat]; omega)
      have hp171 : mj_n (g 16) z8.toNatClampNeg 3 ≤ mj_n (g 16) (f 15).toNatClampNeg 3 := by rw [hp17]; split <;> omega
      have hp172 : (g 16 z8.toNatClampNeg).toInt = 3 → mj_n (g 16) z8.toNatClampNeg 3 + 1 ≤ mj_n (g 16) (f 15).toNatClampNeg 3 := fun q => by rw [hp17, if_pos q]; exact Int.le_refl _
      refine am_e35 hi_217_57 ?_
      show am_E _ _ _ _ [some (.ref 39), some (.int on), some (.int tw), some (.int 1)] [] _ _
      refine am_e2 (v := 39) hi_221_63 rfl ?_
      refine am_e0 hi_221_64 ?_
      refine am_e1 (v := on) hi_221_66 rfl ?_
      refine am_e0 hi_221_67 ?_
      refine am_e1 (v := tw) hi_221_68 rfl ?_
      refine am_e32n (as := [.ref 39, .int 24, .int on, .int 0, .int tw]) (la := [some (.ref 39), some (.int 24), some (.int on), some (.int 0), some (.int tw)]) (rest := []) hi_221_69 (am_hd0 (M := 221) (by decide) 69) (Nat.le_of_ble_eq_true rfl) (Nat.le_of_ble_eq_true rfl) (show 5 ≤ am_P0.2.2.1 189 from by decide +kernel) rfl (am_recv_ok hS16.fs) rfl rfl (ct_put (d := (d + 5)) hS16 hR  (by show (0 : Int) ≤ (f 32).toInt; omega) (by show (f 32).toInt ≤ (63 : Int); omega) (by show (f 53).toInt ≤ (4096 : Int); omega) (by show (0 : Int) ≤ (f 68).toInt; omega) (by show (f 68).toInt ≤ (65534 : Int); omega)) ?_
      rintro v18 S19 (⟨z20, r21, g'22, hv23, hS24, hR28, h25, h26, h27⟩)
      subst hv23
      have h25_ : z20.toInt = (f 68).toInt + 1 := h25
      have h26_ : r21.toInt = (f 68).toInt := h26
      have h27_ : ∀ j, j ∉ [60, 69, 70, 71, 72, 73] → g'22 j = (upg g 72 (g 17 z8.toNatClampNeg).toNatClampNeg z12) j := h27
      have hR28_ : RJ (upd (upd f 15 z8) 68 z20) g'22 gs bc [] 0 ((f 68).toNatClampNeg :: []) := hR28
      show am_E _ _ _ _ [some (.ref 39), some (.int on), some (.int tw), some (.int 1)] [.int r21] _ _
      refine am_e6i hi_221_72 ?_
      refine am_e18 hi_221_73 ?_
      refine am_e2 (v := 39) hi_221_90 rfl ?_
      refine am_e1 (v := on) hi_221_91 rfl ?_
      refine am_e32w (as := [.ref 39, .int on]) (la := [some (.ref 39), some (.int on)]) (rest := []) hi_221_92 (am_hd0 (M := 221) (by decide) 92) (Nat.le_of_ble_eq_true rfl) (Nat.le_of_ble_eq_true rfl) (show 2 ≤ am_P0.2.2.1 220 from by decide +kernel) rfl (am_recv_ok hS24.fs) rfl rfl ?_
      refine am_e2 (v := 39) hi_220_0 rfl ?_
      refine am_e32n (as := [.ref 39]) (la := [some (.ref 39)]) (rest := []) hi_220_1 (am_hd0 (M := 220) (by decide) 1) (Nat.le_of_ble_eq_true rfl) (Nat.le_of_ble_eq_true rfl) (show 1 ≤ am_P0.2.2.1 183 from by decide +kernel) rfl (am_recv_ok hS24.fs) rfl rfl (ct_next (d := (d + 3)) hS24   (by show (0 : Int) ≤ (f 4).toInt; omega) (by show (f 0).toInt ≤ (16384 : Int); omega)) ?_
      rintro v29 S30 (⟨r31, hv32, hS33, h34⟩)
      subst hv32
      have h34_ : (f 4).toInt < (f 0).toInt ∨ r31.toInt = (-1 : Int) := h34
      show am_E _ _ _ _ [some (.ref 39), some (.int on)] [.int r31] _ _
      refine am_e0 hi_220_4 ?_
      by_cases c36 : r31.toInt = (69 : Int)
      · refine am_e13t hi_220_6 (am_cT (m := r31.toInt) (n := (69 : Int)) rfl (by decide) c36) ?_
        refine am_e2 (v := 39) hi_220_18 rfl ?_
        refine am_e7 hi_220_19 ?_
        refine mm_20 (v := .int (f 4)) hS33 hi_220_20 rfl ?_
        refine am_e0 hi_220_23 ?_
        obtain ⟨z37, hz37, tz37⟩ := am_addI (x := f 4) (y := 1) (m := (f 4).toInt) (n := (1 : Int)) rfl (by decide) (by omega) (by omega)
        refine am_e10 (z := z37) hi_220_24 hz37 ?_
        refine mm_21 (v := z37) hS33 hi_220_25 rfl (Nat.le_of_ble_eq_true rfl) ms_4 ?_
        intro S38 hS39
        replace hS39 : MS S0 S38 (upd (upd (upd f 4 z37) 15 z8) 68 z20) g'22 := hS39
        have hR40 : RJ (upd (upd (upd f 4 z37) 15 z8) 68 z20) g'22 gs bc [] 0 ((f 68).toNatClampNeg :: []) := RJ.at hR28_ (by show (f 4).toInt ≤ z37.toInt; omega)
        refine am_e2 (v := 39) hi_220_28 rfl ?_
        refine am_e0 hi_220_29 ?_
        refine am_e1 (v := on) hi_220_31 rfl ?_
        refine am_e0 hi_220_32 ?_
        refine am_e0 hi_220_33 ?_
        refine am_e32n (as := [.ref 39, .int 35, .int on, .int 0, .int 0]) (la := [some (.ref 39), some (.int 35), some (.int on), some (.int 0), some (.int 0)]) (rest := []) hi_220_34 (am_hd0 (M := 220) (by decide) 34) (Nat.le_of_ble_eq_true rfl) (Nat.le_of_ble_eq_true rfl) (show 5 ≤ am_P0.2.2.1 179 from by decide +kernel) rfl (am_recv_ok hS39.fs) rfl rfl (ct_pile (d := (d + 4)) hS39 hR40 (mj_e_plain (by decide)) (by show (0 : Int) ≤ (f 10).toInt; omega) (by show (f 10).toInt ≤ (65535 : Int); omega)) ?_
        rintro v41 S42 (⟨z43, g'44, hv45, hS46, hR49, h47, h48⟩)
        subst hv45
        have h47_ : z43.toInt = (f 10).toInt + 1 := h47
        have h48_ : ∀ j, j ∉ [11, 12, 13, 14] → g'44 j = g'22 j := h48
        replace hS46 : MS S0 S42 (upd (upd (upd (upd f 4 z37) 10 z43) 15 z8) 68 z20) g'44 := hS46
        have hR49_ : RJ (upd (upd (upd (upd f 4 z37) 10 z43) 15 z8) 68 z20) g'44 (((35 : Int), on.toInt, (0 : Int), (0 : Int), []) :: gs) bc [] 0 ((f 68).toNatClampNeg :: []) := hR49
        show am_E _ _ _ _ [some (.ref 39), some (.int on)] [] _ _
        refine am_e18 hi_220_37 ?_
        refine am_e35 hi_220_47 ?_
        show am_E _ _ _ _ [some (.ref 39), some (.int on), some (.int tw), some (.int 1)] [] _ _
        refine am_e35 hi_221_95 ?_
        show am_E _ _ _ _ [some (.ref 39), some (.int 39), some (.int on), some (.int tw)] [] _ _
        refine am_e18 hi_181_366 ?_
        refine am_e35 hi_181_397 ?_
        show am_E _ _ _ _ [some (.ref 39), some (.int 39), some (.int on), some (.int tw), some (.int th)] [] _ _
        refine am_e35 hi_180_13 ?_
        have q1 : mg_p1 (((35 : Int), on.toInt, (0 : Int), (0 : Int), []) :: gs) = 0 + (mg_p1 gs) := rfl
        have q2 : mg_p2 (((35 : Int), on.toInt, (0 : Int), (0 : Int), []) :: gs) = 0 + (mg_p2 gs) := rfl
        have q3 : mg_p3 (((35 : Int), on.toInt, (0 : Int), (0 : Int), []) :: gs) = 3 + (mg_p3 gs) := rfl
        have q4 : mg_p4 (((35 : Int), on.toInt, (0 : Int), (0 : Int), []) :: gs) = 0 + (mg_p4 gs) := rfl
        refine ⟨_, _, _, bc, rfl, hS46, Or.inl ⟨⟨(RJ.fewer (pj' := []) hR49_ (fun _ h => nomatch h)), ?_, ?_⟩, rfl, ?_⟩⟩
        · exact (⟨⟨(show mg_k 35 from by decide), (show (0 : Int) ≤ z8.toInt from by omega), (show 0 ≤ (f 20).toInt from by omega), (show 1 ≤ (f 37).toInt from by omega), (show 0 ≤ (f 32).toInt from by omega), (show (f 32).toInt ≤ (f 5).toInt from by omega), (show (f 5).toInt ≤ 48 from by omega), (show (f 37).toInt ≤ 2 * ((f 5).toInt) + 2 from by omega), trivial⟩, mg_cast (mg_good_ext _ _ _ _ _ _ (fun i _ => by show g'44 34 i = g 34 i; rw [show g'44 34 = g'22 34 from h48_ 34 (by decide), show g'22 34 = g 34 from h27_ 34 (by decide)]) (fun i _ => by show g'44 38 i = g 38 i; rw [show g'44 38 = g'22 38 from h48_ 38 (by decide), show g'22 38 = g 38 from h27_ 38 (by decide)]) (fun i _ => by show g'44 23 i = g 23 i; rw [show g'44 23 = g'22 23 from h48_ 23 (by decide), show g'22 23 = g 23 from h27_ 23 (by decide)]) hrest) (by show (f 15).toInt + -1 = z8.toInt + 0; omega) (by show (f 20).toInt = (f 20).toInt; omega) (by show (f 37).toInt + 0 = (f 37).toInt + 0; omega) (by show (f 32).toInt + 0 = (f 32).toInt + 0; omega) (by show (f 5).toInt + -1 = (f 5).toInt + -1; omega)⟩ : mg_good (g'44 34) (g'44 38) (g'44 23) (((35 : Int), on.toInt, (0 : Int), (0 : Int), []) :: gs) (z8.toInt) ((f 20).toInt) ((f 37).toInt) ((f 32).toInt) ((f 5).toInt))
        · exact ⟨(by show 0 ≤ z37.toInt; omega), (by show z37.toInt ≤ (f 0).toInt; omega), (by show (f 0).toInt ≤ 512; omega), (by show 0 ≤ (f 24).toInt; omega), (by show (f 24).toInt + (f 20).toInt + mg_p1 (((35 : Int), on.toInt, (0 : Int), (0 : Int), []) :: gs) ≤ 4 * z37.toInt; omega), (by show (f 20).toInt ≤ z37.toInt; omega), (by show z8.toInt + mg_p2 (((35 : Int), on.toInt, (0 : Int), (0 : Int), []) :: gs) ≤ z37.toInt; omega), (by show mg_p3 (((35 : Int), on.toInt, (0 : Int), (0 : Int), []) :: gs) ≤ 20 * z37.toInt + 20; omega), (by show 0 ≤ z20.toInt; omega), (by show z20.toInt + 3 * (f 20).toInt + mg_p4 (((35 : Int), on.toInt, (0 : Int), (0 : Int), []) :: gs) ≤ 60 * z37.toInt + 60; omega), (by show 0 ≤ (f 62).toInt; omega), (by show (f 62).toInt + 64 * mj_n (g'44 16) z8.toNatClampNeg 3 ≤ 64 * z37.toInt; rw [show g'44 16 = g'22 16 from h48_ 16 (by decide), show g'22 16 = g 16 from h27_ 16 (by decide)]; omega), (by show 0 ≤ (f 44).toInt; omega), (by show (f 44).toInt ≤ z37.toInt; omega), (by show 0 ≤ (f 48).toInt; omega), (by show (f 48).toInt ≤ z37.toInt; omega), (by show 1 ≤ (f 53).toInt; omega), (by show (f 53).toInt ≤ z37.toInt + 1; omega), (by show 0 ≤ (f 19).toInt; omega), (by show (f 19).toInt ≤ 600; omega), (by show 0 ≤ (f 6).toInt; omega), (by show 0 ≤ (f 8).toInt; omega)⟩
        · show 100 * ((f 0).toInt - z37.toInt) + mg_p3 (((35 : Int), on.toInt, (0 : Int), (0 : Int), []) :: gs) < 100 * ((f 0).toInt - (f 4).toInt) + (1 + mg_p3 gs); omega
      · refine am_e13f hi_220_6 (am_cF (m := r31.toInt) (n := (69 : Int)) rfl (by decide) c36) ?_
        refine am_e2 (v := 39) hi_220_9 rfl ?_
        refine am_e32n (as := [.ref 39]) (la := [some (.ref 39)]) (rest := []) hi_220_10 (am_hd0 (M := 220) (by decide) 10) (Nat.le_of_ble_eq_true rfl) (Nat.le_of_ble_eq_true rfl) (show 1 ≤ am_P0.2.2.1 183 from by decide +kernel) rfl (am_recv_ok hS33.fs) rfl rfl (ct_next (d := (d + 3)) hS33   (by show (0 : Int) ≤ (f 4).toInt; omega) (by show (f 0).toInt ≤ (16384 : Int); omega)) ?_
        rintro v50 S51 (⟨r52, hv53, hS54, h55⟩)
        subst hv53
        have h55_ : (f 4).toInt < (f 0).toInt ∨ r52.toInt = (-1 : Int) := h55
        show am_E _ _ _ _ [some (.ref 39), some (.int on)] [.int r52] _ _
        refine am_e0 hi_220_13 ?_
        by_cases c57 : ¬ r52.toInt = (67 : Int)
        · refine am_e13t hi_220_15 (am_cT (m := r52.toInt) (n := (67 : Int)) rfl (by decide) c57) ?_
          refine am_e2 (v := 39) hi_220_40 rfl ?_
          refine am_e0 hi_220_41 ?_
          refine am_e32n (as := [.ref 39, .int 63]) (la := [some (.ref 39), some (.int 63)]) (rest := []) hi_220_43 (am_hd0 (M := 220) (by decide) 43) (Nat.le_of_ble_eq_true rfl) (Nat.le_of_ble_eq_true rfl) (show 2 ≤ am_P0.2.2.1 199 from by decide +kernel) rfl (am_recv_ok hS54.fs) rfl rfl (ct_leave (d := (d + 1)) hS54   (by show (0 : Int) ≤ (f 4).toInt; omega) (by show (f 0).toInt ≤ (16384 : Int); omega) (by show (0 : Int) ≤ (63 : Int); omega) (by show (0 : Int) ≤ (f 5).toInt; omega) (by show (f 5).toInt ≤ (48 : Int); omega) (by show (0 : Int) ≤ (f 6).toInt; omega)) ?_
          rintro v58 S59 (⟨z60, y61, hv62, hS63, h64, h65, h66⟩ | ⟨a68, b69, hv70, hS71, h72⟩)
          · subst hv62
            have h64_ : z60.toInt = (f 4).toInt + 1 := h64
            have h65_ : (f 4).toInt < (f 0).toInt := h65
            have h66_ : y61.toInt = (f 5).toInt - 1 := h66
            replace hS63 : MS S0 S59 (upd (upd (upd (upd f 4 z60) 5 y61) 15 z8) 68 z20) g'22 := hS63
            have hR74 : RJ (upd (upd (upd (upd f 4 z60) 5 y61) 15 z8) 68 z20) g'22 gs bc [] 0 ((f 68).toNatClampNeg :: []) := RJ.at hR28_ (by show (f 4).toInt ≤ z60.toInt; omega)
            show am_E _ _ _ _ [some (.ref 39), some (.int on)] [.int 1] _ _
            refine am_e6i hi_220_46 ?_
            refine am_e35 hi_220_47 ?_
            show am_E _ _ _ _ [some (.ref 39), some (.int on), some (.int tw), some (.int 1)] [] _ _
            refine am_e35 hi_221_95 ?_
            show am_E _ _ _ _ [some (.ref 39), some (.int 39), some (.int on), some (.int tw)] [] _ _
            refine am_e18 hi_181_366 ?_
            refine am_e35 hi_181_397 ?_
            show am_E _ _ _ _ [some (.ref 39), some (.int 39), some (.int on), some (.int tw), some (.int th)] [] _ _
            refine am_e35 hi_180_13 ?_
            have q1 : mg_p1 gs = mg_p1 gs := rfl
            have q2 : mg_p2 gs = mg_p2 gs := rfl
            have q3 : mg_p3 gs = mg_p3 gs := rfl
            have q4 : mg_p4 gs = mg_p4 gs := rfl
            refine ⟨_, _, _, bc, rfl, hS63, Or.inl ⟨⟨(RJ.fewer (pj' := []) hR74 (fun _ h => nomatch h)), ?_, ?_⟩, rfl, ?_⟩⟩
            · exact (mg_cast (mg_good_ext _ _ _ _ _ _ (fun i _ => by show g'22 34 i = g 34 i; rw [show g'22 34 = g 34 from h27_ 34 (by decide)]) (fun i _ => by show g'22 38 i = g 38 i; rw [show g'22 38 = g 38 from h27_ 38 (by decide)]) (fun i _ => by show g'22 23 i = g 23 i; rw [show g'22 23 = g 23 from h27_ 23 (by decide)]) hrest) (by show (f 15).toInt + -1 = z8.toInt; omega) (by show (f 20).toInt = (f 20).toInt; omega) (by show (f 37).toInt + 0 = (f 37).toInt; omega) (by show (f 32).toInt + 0 = (f 32).toInt; omega) (by show (f 5).toInt + -1 = y61.toInt; omega) : mg_good (g'22 34) (g'22 38) (g'22 23) gs (z8.toInt) ((f 20).toInt) ((f 37).toInt) ((f 32).toInt) (y61.toInt))
            · exact ⟨(by show 0 ≤ z60.toInt; omega), (by show z60.toInt ≤ (f 0).toInt; omega), (by show (f 0).toInt ≤ 512; omega), (by show 0 ≤ (f 24).toInt; omega), (by show (f 24).toInt + (f 20).toInt + mg_p1 gs ≤ 4 * z60.toInt; omega), (by show (f 20).toInt ≤ z60.toInt; omega), (by show z8.toInt + mg_p2 gs ≤ z60.toInt; omega), (by show mg_p3 gs ≤ 20 * z60.toInt + 20; omega), (by show 0 ≤ z20.toInt; omega), (by show z20.toInt + 3 * (f 20).toInt + mg_p4 gs ≤ 60 * z60.toInt + 60; omega), (by show 0 ≤ (f 62).toInt; omega), (by show (f 62).toInt + 64 * mj_n (g'22 16) z8.toNatClampNeg 3 ≤ 64 * z60.toInt; rw [show g'22 16 = g 16 from h27_ 16 (by decide)]; omega), (by show 0 ≤ (f 44).toInt; omega), (by show (f 44).toInt ≤ z60.toInt; omega), (by show 0 ≤ (f 48).toInt; omega), (by show (f 48).toInt ≤ z60.toInt; omega), (by show 1 ≤ (f 53).toInt; omega), (by show (f 53).toInt ≤ z60.toInt + 1; omega), (by show 0 ≤ (f 19).toInt; omega), (by show (f 19).toInt ≤ 600; omega), (by show 0 ≤ (f 6).toInt; omega), (by show 0 ≤ (f 8).toInt; omega)⟩
            · show 100 * ((f 0).toInt - z60.toInt) + mg_p3 gs < 100 * ((f 0).toInt - (f 4).toInt) + (1 + mg_p3 gs); omega
          · subst hv70
            have h72_ : (0 : Int) ≤ a68.toInt := h72
            replace hS71 : MS S0 S59 (upd (upd (upd (upd (upd f 6 a68) 7 b69) 10 0) 15 z8) 68 z20) g'22 := hS71
            have hR75 := rj_clear0 hR28_
            have hR76 : RJ (upd (upd (upd (upd (upd f 6 a68) 7 b69) 10 0) 15 z8) 68 z20) g'22 [] bc [] 0 [] := hR75
            show am_E _ _ _ _ [some (.ref 39), some (.int on)] [.int 0] _ _
            refine am_e6i hi_220_46 ?_
            refine am_e35 hi_220_47 ?_
            show am_E _ _ _ _ [some (.ref 39), some (.int on), some (.int tw), some (.int 1)] [] _ _
            refine am_e35 hi_221_95 ?_
            show am_E _ _ _ _ [some (.ref 39), some (.int 39), some (.int on), some (.int tw)] [] _ _
            refine am_e18 hi_181_366 ?_
            refine am_e35 hi_181_397 ?_
            show am_E _ _ _ _ [some (.ref 39), some (.int 39), some (.int on), some (.int tw), some (.int th)] [] _ _
            refine am_e35 hi_180_13 ?_
            have hRc := rj_clear0 hR76
            refine ⟨_, _, [], _, rfl, hS71, Or.inr ⟨hRc, rfl, (by show 0 ≤ (f 4).toInt; omega), (by show (f 4).toInt ≤ (f 0).toInt; omega), (by show 0 ≤ (f 32).toInt; omega), (by show (f 32).toInt ≤ 63; omega), (by show 1 ≤ (f 53).toInt; omega), (by show (f 53).toInt ≤ 600; omega), (by show 0 ≤ z20.toInt; omega), (by show z20.toInt ≤ 60000; omega), (by show 0 ≤ (f 48).toInt; omega), (by show (f 48).toInt ≤ 8000; omega), (by show 0 ≤ (f 37).toInt; omega), (by show (f 37).toInt ≤ 128; omega), (by show 0 ≤ (f 62).toInt; omega), (by show (f 62).toInt ≤ 65000; omega), (by show 0 ≤ (f 19).toInt; omega), (by show (f 19).toInt ≤ 600; omega), (by show 0 ≤ a68.toInt; omega), (by show 0 ≤ (f 8).toInt; omega)⟩⟩
        · refine am_e13f hi_220_15 (am_cF (m := r52.toInt) (n := (67 : Int)) rfl (by decide) c57) ?_
          refine am_e2 (v := 39) hi_220_18 rfl ?_
          refine am_e7 hi_220_19 ?_
          refine mm_20 (v := .int (f 4)) hS54 hi_220_20 rfl ?_
          refine am_e0 hi_220_23 ?_
          obtain ⟨z77, hz77, tz77⟩ := am_addI (x := f 4) (y := 1) (m := (f 4).toInt) (n := (1 : Int)) rfl (by decide) (by omega) (by omega)
          refine am_e10 (z := z77) hi_220_24 hz77 ?_
          refine mm_21 (v := z77) hS54 hi_220_25 rfl (Nat.le_of_ble_eq_true rfl) ms_4 ?_
          intro S78 hS79
          replace hS79 : MS S0 S78 (upd (upd (upd f 4 z77) 15 z8) 68 z20) g'22 := hS79
          have hR80 : RJ (upd (upd (upd f 4 z77) 15 z8) 68 z20) g'22 gs bc [] 0 ((f 68).toNatClampNeg :: []) := RJ.at hR28_ (by show (f 4).toInt ≤ z77.toInt; omega)
          refine am_e2 (v := 39) hi_220_28 rfl ?_
          refine am_e0 hi_220_29 ?_
          refine am_e1 (v := on) hi_220_31 rfl ?_
          refine am_e0 hi_220_32 ?_
          refine am_e0 hi_220_33 ?_
          refine am_e32n (as := [.ref 39, .int 35, .int on, .int 0, .int 0]) (la := [some (.ref 39), some (.int 35), some (.int on), some (.int 0), some (.int 0)]) (rest := []) hi_220_34 (am_hd0 (M := 220) (by decide) 34) (Nat.le_of_ble_eq_true rfl) (Nat.le_of_ble_eq_true rfl) (show 5 ≤ am_P0.2.2.1 179 from by decide +kernel) rfl (am_recv_ok hS79.fs) rfl rfl (ct_pile (d := (d + 4)) hS79 hR80 (mj_e_plain (by decide)) (by show (0 : Int) ≤ (f 10).toInt; omega) (by show (f 10).toInt ≤ (65535 : Int); omega)) ?_
          rintro v81 S82 (⟨z83, g'84, hv85, hS86, hR89, h87, h88⟩)
          subst hv85
          have h87_ : z83.toInt = (f 10).toInt + 1 := h87
          have h88_ : ∀ j, j ∉ [11, 12, 13, 14] → g'84 j = g'22 j := h88
          replace hS86 : MS S0 S82 (upd (upd (upd (upd f 4 z77) 10 z83) 15 z8) 68 z20) g'84 := hS86
          have hR89_ : RJ (upd (upd (upd (upd f 4 z77) 10 z83) 15 z8) 68 z20) g'84 (((35 : Int), on.toInt, (0 : Int), (0 : Int), []) :: gs) bc [] 0 ((f 68).toNatClampNeg :: []) := hR89
          show am_E _ _ _ _ [some (.ref 39), some (.int on)] [] _ _
          refine am_e18 hi_220_37 ?_
          refine am_e35 hi_220_47 ?_
          show am_E _ _ _ _ [some (.ref 39), some (.int on), some (.int tw), some (.int 1)] [] _ _
          refine am_e35 hi_221_95 ?_
          show am_E _ _ _ _ [some (.ref 39), some (.int 39), some (.int on), some (.int tw)] [] _ _
          refine am_e18 hi_181_366 ?_
          refine am_e35 hi_181_397 ?_
          show am_E _ _ _ _ [some (.ref 39), some (.int 39), some (.int on), some (.int tw), some (.int th)] [] _ _
          refine am_e35 hi_180_13 ?_
          have q1 : mg_p1 (((35 : Int), on.toInt, (0 : Int), (0 : Int), []) :: gs) = 0 + (mg_p1 gs) := rfl
          have q2 : mg_p2 (((35 : Int), on.toInt, (0 : Int), (0 : Int), []) :: gs) = 0 + (mg_p2 gs) := rfl
          have q3 : mg_p3 (((35 : Int), on.toInt, (0 : Int), (0 : Int), []) :: gs) = 3 + (mg_p3 gs) := rfl
          have q4 : mg_p4 (((35 : Int), on.toInt, (0 : Int), (0 : Int), []) :: gs) = 0 + (mg_p4 gs) := rfl
          refine ⟨_, _, _, bc, rfl, hS86, Or.inl ⟨⟨(RJ.fewer (pj' := []) hR89_ (fun _ h => nomatch h)), ?_, ?_⟩, rfl, ?_⟩⟩
          · exact (⟨⟨(show mg_k 35 from by decide), (show (0 : Int) ≤ z8.toInt from by omega), (show 0 ≤ (f 20).toInt from by omega), (show 1 ≤ (f 37).toInt from by omega), (show 0 ≤ (f 32).toInt from by omega), (show (f 32).toInt ≤ (f 5).toInt from by omega), (show (f 5).toInt ≤ 48 from by omega), (show (f 37).toInt ≤ 2 * ((f 5).toInt) + 2 from by omega), trivial⟩, mg_cast (mg_good_ext _ _ _ _ _ _ (fun i _ => by show g'84 34 i = g 34 i; rw [show g'84 34 = g'22 34 from h88_ 34 (by decide), show g'22 34 = g 34 from h27_ 34 (by decide)]) (fun i _ => by show g'84 38 i = g 38 i; rw [show g'84 38 = g'22 38 from h88_ 38 (by decide), show g'22 38 = g 38 from h27_ 38 (by decide)]) (fun i _ => by show g'84 23 i = g 23 i; rw [show g'84 23 = g'22 23 from h88_ 23 (by decide), show g'22 23 = g 23 from h27_ 23 (by decide)]) hrest) (by show (f 15).toInt + -1 = z8.toInt + 0; omega) (by show (f 20).toInt = (f 20).toInt; omega) (by show (f 37).toInt + 0 = (f 37).toInt + 0; omega) (by show (f 32).toInt + 0 = (f 32).toInt + 0; omega) (by show (f 5).toInt + -1 = (f 5).toInt + -1; omega)⟩ : mg_good (g'84 34) (g'84 38) (g'84 23) (((35 : Int), on.toInt, (0 : Int), (0 : Int), []) :: gs) (z8.toInt) ((f 20).toInt) ((f 37).toInt) ((f 32).toInt) ((f 5).toInt))
          · exact ⟨(by show 0 ≤ z77.toInt; omega), (by show z77.toInt ≤ (f 0).toInt; omega), (by show (f 0).toInt ≤ 512; omega), (by show 0 ≤ (f 24).toInt; omega), (by show (f 24).toInt + (f 20).toInt + mg_p1 (((35 : Int), on.toInt, (0 : Int), (0 : Int), []) :: gs) ≤ 4 * z77.toInt; omega), (by show (f 20).toInt ≤ z77.toInt; omega), (by show z8.toInt + mg_p2 (((35 : Int), on.toInt, (0 : Int), (0 : Int), []) :: gs) ≤ z77.toInt; omega), (by show mg_p3 (((35 : Int), on.toInt, (0 : Int), (0 : Int), []) :: gs) ≤ 20 * z77.toInt + 20; omega), (by show 0 ≤ z20.toInt; omega), (by show z20.toInt + 3 * (f 20).toInt + mg_p4 (((35 : Int), on.toInt, (0 : Int), (0 : Int), []) :: gs) ≤ 60 * z77.toInt + 60; omega), (by show 0 ≤ (f 62).toInt; omega), (by show (f 62).toInt + 64 * mj_n (g'84 16) z8.toNatClampNeg 3 ≤ 64 * z77.toInt; rw [show g'84 16 = g'22 16 from h88_ 16 (by decide), show g'22 16 = g 16 from h27_ 16 (by decide)]; omega), (by show 0 ≤ (f 44).toInt; omega), (by show (f 44).toInt ≤ z77.toInt; omega), (by show 0 ≤ (f 48).toInt; omega), (by show (f 48).toInt ≤ z77.toInt; omega), (by show 1 ≤ (f 53).toInt; omega), (by show (f 53).toInt ≤ z77.toInt + 1; omega), (by show 0 ≤ (f 19).toInt; omega), (by show (f 19).toInt ≤ 600; omega), (by show 0 ≤ (f 6).toInt; omega), (by show 0 ≤ (f 8).toInt; omega)⟩
          · show 100 * ((f 0).toInt - z77.toInt) + mg_p3 (((35 : Int), on.toInt, (0 : Int), (0 : Int), []) :: gs) < 100 * ((f 0).toInt - (f 4).toInt) + (1 + mg_p3 gs); omega
    · refine am_e13f hi_216_12 (am_cF (m := (g 16 z8.toNatClampNeg).toInt) (n := (1 : Int)) rfl (by decide) c9) ?_
      refine am_e2 (v := 39) hi_216_15 rfl ?_
      refine mm_20 (v := .ref 46) hS4 hi_216_16 rfl ?_
      refine am_e2 (v := 39) hi_216_19 rfl ?_
      refine mm_20 (v := .int (f 15)) hS4 hi_216_20 rfl ?_
      refine am_e0 hi_216_23 ?_
      refine am_e10 (z := z8) hi_216_24 hz8 ?_
      refine mm_25 hS4 ma_16 hi_216_25 (by decide) (by omega) (by omega) ?_
      show am_E _ _ _ _ [some (.ref 39)] [.int (g 16 z8.toNatClampNeg)] _ _
      refine am_e0 hi_216_26 ?_
      by_cases c90 : ¬ (g 16 z8.toNatClampNeg).toInt = (2 : Int)
      · refine am_e13t hi_216_27 (am_cT (m := (g 16 z8.toNatClampNeg).toInt) (n := (2 : Int)) rfl (by decide) c90) ?_
        refine am_e0 hi_216_34 ?_
        refine am_e36 hi_216_35 (by decide) ?_
        show am_E _ _ _ _ [some (.ref 39), some (.int on), some (.int tw), some (.int 1)] [.int 0] _ _
        refine am_e12t hi_221_56 (by decide) ?_
        refine am_e2 (v := 39) hi_221_76 rfl ?_
        refine am_e32w (as := [.ref 39]) (la := [some (.ref 39)]) (rest := []) hi_221_77 (am_hd0 (M := 221) (by decide) 77) (Nat.le_of_ble_eq_true rfl) (Nat.le_of_ble_eq_true rfl) (show 1 ≤ am_P0.2.2.1 209 from by decide +kernel) rfl (am_recv_ok hS4.fs) rfl rfl ?_
        refine am_e2 (v := 39) hi_209_0 rfl ?_
        refine am_e32n (as := [.ref 39]) (la := [some (.ref 39), none, none, none]) (rest := []) hi_209_1 (am_hd0 (M := 209) (by decide) 1) (Nat.le_of_ble_eq_true rfl) (Nat.le_of_ble_eq_true rfl) (show 1 ≤ am_P0.2.2.1 204 from by decide +kernel) rfl (am_recv_ok hS4.fs) rfl rfl (ct_load (d := (d + 2)) hS4 hR  (by show (0 : Int) ≤ (f 32).toInt; omega) (by show (f 32).toInt ≤ (63 : Int); omega) (by show (f 53).toInt ≤ (4096 : Int); omega) (by show (0 : Int) ≤ (f 68).toInt; omega) (by show (f 68).toInt ≤ (65534 : Int); omega) (by show (1 : Int) ≤ (f 15).toInt; omega) (by show (f 15).toInt ≤ (32767 : Int); omega) (by show (0 : Int) ≤ (f 24).toInt; omega) (by show (f 24).toInt ≤ (16384 : Int); omega) (by show (0 : Int) ≤ (f 62).toInt; omega) (by show (f 62).toInt ≤ (65000 : Int); omega)) ?_
        rintro v91 S92 (⟨o93, s94, m95, g'96, hv97, hS98, hR105, h99, h100, h101, h102, h103, h104⟩)
        subst hv97
        have h99_ : (f 62).toInt ≤ o93.toInt := h99
        have h100_ : o93.toInt ≤ (f 62).toInt + 64 := h100
        have h101_ : (f 68).toInt ≤ s94.toInt := h101
        have h102_ : s94.toInt ≤ (f 68).toInt + 1 := h102
        have h103_ : o93.toInt + 64 * mj_n (g'96 16) (f 15).toNatClampNeg 3 ≤ (f 62).toInt + 64 * mj_n (g 16) (f 15).toNatClampNeg 3 := h103
        have h104_ : ∀ j, j ∉ [16, 60, 63, 64, 65, 66, 67, 69, 70, 71, 72, 73] → g'96 j = g j := h104
        have hR105_ : RJ (upd (upd (upd f 62 o93) 68 s94) 75 m95) g'96 gs bc [] 0 [] := hR105
        show am_E _ _ _ _ [some (.ref 39)] [] _ _
        refine am_e2 (v := 39) hi_209_4 rfl ?_
        refine am_e7 hi_209_5 ?_
        refine mm_20 (v := .int (f 15)) hS98 hi_209_6 rfl ?_
        refine am_e0 hi_209_9 ?_
        refine am_e10 (z := z8) hi_209_10 hz8 ?_
        refine mm_21 (v := z8) hS98 hi_209_11 rfl (Nat.le_of_ble_eq_true rfl) ms_15 ?_
        intro S106 hS107
        replace hS107 : MS S0 S106 (upd (upd (upd (upd f 15 z8) 62 o93) 68 s94) 75 m95) g'96 := hS107
        have hp108 : mj_n (g'96 16) (f 15).toNatClampNeg 3 = mj_n (g'96 16) z8.toNatClampNeg 3 + if (g'96 16 z8.toNatClampNeg).toInt = 3 then 1 else 0 := mj_pop (by rw [cl_toNat, cl_toNat]; omega)
        have hp1081 : mj_n (g'96 16) z8.toNatClampNeg 3 ≤ mj_n (g'96 16) (f 15).toNatClampNeg 3 := by rw [hp108]; split <;> omega
        have hp1082 : (g'96 16 z8.toNatClampNeg).toInt = 3 → mj_n (g'96 16) z8.toNatClampNeg 3 + 1 ≤ mj_n (g'96 16) (f 15).toNatClampNeg 3 := fun q => by rw [hp108, if_pos q]; exact Int.le_refl _
        refine am_e35 hi_209_14 ?_
        show am_E _ _ _ _ [some (.ref 39), some (.int on), some (.int tw), some (.int 1)] [] _ _
        refine am_e2 (v := 39) hi_221_80 rfl ?_
        refine am_e0 hi_221_81 ?_
        refine am_e1 (v := on) hi_221_83 rfl ?_
        refine am_e0 hi_221_84 ?_
        refine am_e1 (v := tw) hi_221_85 rfl ?_
        refine am_e32n (as := [.ref 39, .int 23, .int on, .int 0, .int tw]) (la := [some (.ref 39), some (.int 23), some (.int on), some (.int 0), some (.int tw)]) (rest := []) hi_221_86 (am_hd0 (M := 221) (by decide) 86) (Nat.le_of_ble_eq_true rfl) (Nat.le_of_ble_eq_true rfl) (show 5 ≤ am_P0.2.2.1 189 from by decide +kernel) rfl (am_recv_ok hS107.fs) rfl rfl (ct_put (d := (d + 5)) hS107 hR105_  (by show (0 : Int) ≤ (f 32).toInt; omega) (by show (f 32).toInt ≤ (63 : Int); omega) (by show (f 53).toInt ≤ (4096 : Int); omega) (by show (0 : Int) ≤ s94.toInt; omega) (by show s94.toInt ≤ (65534 : Int); omega)) ?_
        rintro v109 S110 (⟨z111, r112, g'113, hv114, hS115, hR119, h116, h117, h118⟩)
        subst hv114
        have h116_ : z111.toInt = s94.toInt + 1 := h116
        have h117_ : r112.toInt = s94.toInt := h117
        have h118_ : ∀ j, j ∉ [60, 69, 70, 71, 72, 73] → g'113 j = g'96 j := h118
        replace hS115 : MS S0 S110 (upd (upd (upd (upd f 15 z8) 62 o93) 68 z111) 75 m95) g'113 := hS115
        have hR119_ : RJ (upd (upd (upd (upd f 15 z8) 62 o93) 68 z111) 75 m95) g'113 gs bc [] 0 (s94.toNatClampNeg :: []) := hR119
        show am_E _ _ _ _ [some (.ref 39), some (.int on), some (.int tw), some (.int 1)] [.int r112] _ _
        refine am_e6i hi_221_89 ?_
        refine am_e2 (v := 39) hi_221_90 rfl ?_
        refine am_e1 (v := on) hi_221_91 rfl ?_
        refine am_e32w (as := [.ref 39, .int on]) (la := [some (.ref 39), some (.int on)]) (rest := []) hi_221_92 (am_hd0 (M := 221) (by decide) 92) (Nat.le_of_ble_eq_true rfl) (Nat.le_of_ble_eq_true rfl) (show 2 ≤ am_P0.2.2.1 220 from by decide +kernel) rfl (am_recv_ok hS115.fs) rfl rfl ?_
        refine am_e2 (v := 39) hi_220_0 rfl ?_
        refine am_e32n (as := [.ref 39]) (la := [some (.ref 39)]) (rest := []) hi_220_1 (am_hd0 (M := 220) (by decide) 1) (Nat.le_of_ble_eq_true rfl) (Nat.le_of_ble_eq_true rfl) (show 1 ≤ am_P0.2.2.1 183 from by decide +kernel) rfl (am_recv_ok hS115.fs) rfl rfl (ct_next (d := (d + 3)) hS115   (by show (0 : Int) ≤ (f 4).toInt; omega) (by show (f 0).toInt ≤ (16384 : Int); omega)) ?_
        rintro v120 S121 (⟨r122, hv123, hS124, h125⟩)
        subst hv123
        have h125_ : (f 4).toInt < (f 0).toInt ∨ r122.toInt = (-1 : Int) := h125
        show am_E _ _ _ _ [some (.ref 39), some (.int on)] [.int r122] _ _
        refine am_e0 hi_220_4 ?_
        by_cases c127 : r122.toInt = (69 : Int)
        · refine am_e13t hi_220_6 (am_cT (m := r122.toInt) (n := (69 : Int)) rfl (by decide) c127) ?_
          refine am_e2 (v := 39) hi_220_18 rfl ?_
          refine am_e7 hi_220_19 ?_
          refine mm_20 (v := .int (f 4)) hS124 hi_220_20 rfl ?_
          refine am_e0 hi_220_23 ?_
          obtain ⟨z128, hz128, tz128⟩ := am_addI (x := f 4) (y := 1) (m := (f 4).toInt) (n := (1 : Int)) rfl (by decide) (by omega) (by omega)
          refine am_e10 (z := z128) hi_220_24 hz128 ?_
          refine mm_21 (v := z128) hS124 hi_220_25 rfl (Nat.le_of_ble_eq_true rfl) ms_4 ?_
          intro S129 hS130
          replace hS130 : MS S0 S129 (upd (upd (upd (upd (upd f 4 z128) 15 z8) 62 o93) 68 z111) 75 m95) g'113 := hS130
          have hR131 : RJ (upd (upd (upd (upd (upd f 4 z128) 15 z8) 62 o93) 68 z111) 75 m95) g'113 gs bc [] 0 (s94.toNatClampNeg :: []) := RJ.at hR119_ (by show (f 4).toInt ≤ z128.toInt; omega)
          refine am_e2 (v := 39) hi_220_28 rfl ?_
          refine am_e0 hi_220_29 ?_
          refine am_e1 (v := on) hi_220_31 rfl ?_
          refine am_e0 hi_220_32 ?_
          refine am_e0 hi_220_33 ?_
          refine am_e32n (as := [.ref 39, .int 35, .int on, .int 0, .int 0]) (la := [some (.ref 39), some (.int 35), some (.int on), some (.int 0), some (.int 0)]) (rest := []) hi_220_34 (am_hd0 (M := 220) (by decide) 34) (Nat.le_of_ble_eq_true rfl) (Nat.le_of_ble_eq_true rfl) (show 5 ≤ am_P0.2.2.1 179 from by decide +kernel) rfl (am_recv_ok hS130.fs) rfl rfl (ct_pile (d := (d + 4)) hS130 hR131 (mj_e_plain (by decide)) (by show (0 : Int) ≤ (f 10).toInt; omega) (by show (f 10).toInt ≤ (65535 : Int); omega)) ?_
          rintro v132 S133 (⟨z134, g'135, hv136, hS137, hR140, h138, h139⟩)
          subst hv136
          have h138_ : z134.toInt = (f 10).toInt + 1 := h138
          have h139_ : ∀ j, j ∉ [11, 12, 13, 14] → g'135 j = g'113 j := h139
          replace hS137 : MS S0 S133 (upd (upd (upd (upd (upd (upd f 4 z128) 10 z134) 15 z8) 62 o93) 68 z111) 75 m95) g'135 := hS137
          have hR140_ : RJ (upd (upd (upd (upd (upd (upd f 4 z128) 10 z134) 15 z8) 62 o93) 68 z111) 75 m95) g'135 (((35 : Int), on.toInt, (0 : Int), (0 : Int), []) :: gs) bc [] 0 (s94.toNatClampNeg :: []) := hR140
          show am_E _ _ _ _ [some (.ref 39), some (.int on)] [] _ _
          refine am_e18 hi_220_37 ?_
          refine am_e35 hi_220_47 ?_
          show am_E _ _ _ _ [some (.ref 39), some (.int on), some (.int tw), some (.int 1)] [] _ _
          refine am_e35 hi_221_95 ?_
          show am_E _ _ _ _ [some (.ref 39), some (.int 39), some (.int on), some (.int tw)] [] _ _
          refine am_e18 hi_181_366 ?_
          refine am_e35 hi_181_397 ?_
          show am_E _ _ _ _ [some (.ref 39), some (.int 39), some (.int on), some (.int tw), some (.int th)] [] _ _
          refine am_e35 hi_180_13 ?_
          have q1 : mg_p1 (((35 : Int), on.toInt, (0 : Int), (0 : Int), []) :: gs) = 0 + (mg_p1 gs) := rfl
          have q2 : mg_p2 (((35 : Int), on.toInt, (0 : Int), (0 : Int), []) :: gs) = 0 + (mg_p2 gs) := rfl
          have q3 : mg_p3 (((35 : Int), on.toInt, (0 : Int), (0 : Int), []) :: gs) = 3 + (mg_p3 gs) := rfl
          have q4 : mg_p4 (((35 : Int), on.toInt, (0 : Int), (0 : Int), []) :: gs) = 0 + (mg_p4 gs) := rfl
          refine ⟨_, _, _, bc, rfl, hS137, Or.inl ⟨⟨(RJ.fewer (pj' := []) hR140_ (fun _ h => nomatch h)), ?_, ?_⟩, rfl, ?_⟩⟩
          · exact (⟨⟨(show mg_k 35 from by decide), (show (0 : Int) ≤ z8.toInt from by omega), (show 0 ≤ (f 20).toInt from by omega), (show 1 ≤ (f 37).toInt from by omega), (show 0 ≤ (f 32).toInt from by omega), (show (f 32).toInt ≤ (f 5).toInt from by omega), (show (f 5).toInt ≤ 48 from by omega), (show (f 37).toInt ≤ 2 * ((f 5).toInt) + 2 from by omega), trivial⟩, mg_cast (mg_good_ext _ _ _ _ _ _ (fun i _ => by show g'135 34 i = g 34 i; rw [show g'135 34 = g'113 34 from h139_ 34 (by decide), show g'113 34 = g'96 34 from h118_ 34 (by decide), show g'96 34 = g 34 from h104_ 34 (by decide)]) (fun i _ => by show g'135 38 i = g 38 i; rw [show g'135 38 = g'113 38 from h139_ 38 (by decide), show g'113 38 = g'96 38 from h118_ 38 (by decide), show g'96 38 = g 38 from h104_ 38 (by decide)]) (fun i _ => by show g'135 23 i = g 23 i; rw [show g'135 23 = g'113 23 from h139_ 23 (by decide), show g'113 23 = g'96 23 from h118_ 23 (by decide), show g'96 23 = g 23 from h104_ 23 (by decide)]) hrest) (by show (f 15).toInt + -1 = z8.toInt + 0; omega) (by show (f 20).toInt = (f 20).toInt; omega) (by show (f 37).toInt + 0 = (f 37).toInt + 0; omega) (by show (f 32).toInt + 0 = (f 32).toInt + 0; omega) (by show (f 5).toInt + -1 = (f 5).toInt + -1; omega)⟩ : mg_good (g'135 34) (g'135 38) (g'135 23) (((35 : Int), on.toInt, (0 : Int), (0 : Int), []) :: gs) (z8.toInt) ((f 20).toInt) ((f 37).toInt) ((f 32).toInt) ((f 5).toInt))
          · exact ⟨(by show 0 ≤ z128.toInt; omega), (by show z128.toInt ≤ (f 0).toInt; omega), (by show (f 0).toInt ≤ 512; omega), (by show 0 ≤ (f 24).toInt; omega), (by show (f 24).toInt + (f 20).toInt + mg_p1 (((35 : Int), on.toInt, (0 : Int), (0 : Int), []) :: gs) ≤ 4 * z128.toInt; omega), (by show (f 20).toInt ≤ z128.toInt; omega), (by show z8.toInt + mg_p2 (((35 : Int), on.toInt, (0 : Int), (0 : Int), []) :: gs) ≤ z128.toInt; omega), (by show mg_p3 (((35 : Int), on.toInt, (0 : Int), (0 : Int), []) :: gs) ≤ 20 * z128.toInt + 20; omega), (by show 0 ≤ z111.toInt; omega), (by show z111.toInt + 3 * (f 20).toInt + mg_p4 (((35 : Int), on.toInt, (0 : Int), (0 : Int), []) :: gs) ≤ 60 * z128.toInt + 60; omega), (by show 0 ≤ o93.toInt; omega), (by show o93.toInt + 64 * mj_n (g'135 16) z8.toNatClampNeg 3 ≤ 64 * z128.toInt; rw [show g'135 16 = g'113 16 from h139_ 16 (by decide), show g'113 16 = g'96 16 from h118_ 16 (by decide)]; omega), (by show 0 ≤ (f 44).toInt; omega), (by show (f 44).toInt ≤ z128.toInt; omega), (by show 0 ≤ (f 48).toInt; omega), (by show (f 48).toInt ≤ z128.toInt; omega), (by show 1 ≤ (f 53).toInt; omega), (by show (f 53).toInt ≤ z128.toInt + 1; omega), (by show 0 ≤ (f 19).toInt; omega), (by show (f 19).toInt ≤ 600; omega), (by show 0 ≤ (f 6).toInt; omega), (by show 0 ≤ (f 8).toInt; omega)⟩
          · show 100 * ((f 0).toInt - z128.toInt) + mg_p3 (((35 : Int), on.toInt, (0 : Int), (0 : Int), []) :: gs) < 100 * ((f 0).toInt - (f 4).toInt) + (1 + mg_p3 gs); omega
        · refine am_e13f hi_220_6 (am_cF (m := r122.toInt) (n := (69 : Int)) rfl (by decide) c127) ?_
          refine am_e2 (v := 39) hi_220_9 rfl ?_
          refine am_e32n (as := [.ref 39]) (la := [some (.ref 39)]) (rest := []) hi_220_10 (am_hd0 (M := 220) (by decide) 10) (Nat.le_of_ble_eq_true rfl) (Nat.le_of_ble_eq_true rfl) (show 1 ≤ am_P0.2.2.1 183 from by decide +kernel) rfl (am_recv_ok hS124.fs) rfl rfl (ct_next (d := (d + 3)) hS124   (by show (0 : Int) ≤ (f 4).toInt; omega) (by show (f 0).toInt ≤ (16384 : Int); omega)) ?_
          rintro v141 S142 (⟨r143, hv144, hS145, h146⟩)
          subst hv144
          have h146_ : (f 4).toInt < (f 0).toInt ∨ r143.toInt = (-1 : Int) := h146
          show am_E _ _ _ _ [some (.ref 39), some (.int on)] [.int r143] _ _
          refine am_e0 hi_220_13 ?_
          by_cases c148 : ¬ r143.toInt = (67 : Int)
          · refine am_e13t hi_220_15 (am_cT (m := r143.toInt) (n := (67 : Int)) rfl (by decide) c148) ?_
            refine am_e2 (v := 39) hi_220_40 rfl ?_
            refine am_e0 hi_220_41 ?_
            refine am_e32n (as := [.ref 39, .int 63]) (la := [some (.ref 39), some (.int 63)]) (rest := []) hi_220_43 (am_hd0 (M := 220) (by decide) 43) (Nat.le_of_ble_eq_true rfl) (Nat.le_of_ble_eq_true rfl) (show 2 ≤ am_P0.2.2.1 199 from by decide +kernel) rfl (am_recv_ok hS145.fs) rfl rfl (ct_leave (d := (d + 1)) hS145   (by show (0 : Int) ≤ (f 4).toInt; omega) (by show (f 0).toInt ≤ (16384 : Int); omega) (by show (0 : Int) ≤ (63 : Int); omega) (by show (0 : Int) ≤ (f 5).toInt; omega) (by show (f 5).toInt ≤ (48 : Int); omega) (by show (0 : Int) ≤ (f 6).toInt; omega)) ?_
            rintro v149 S150 (⟨z151, y152, hv153, hS154, h155, h156, h157⟩ | ⟨a159, b160, hv161, hS162, h163⟩)
            · subst hv153
              have h155_ : z151.toInt = (f 4).toInt + 1 := h155
              have h156_ : (f 4).toInt < (f 0).toInt := h156
              have h157_ : y152.toInt = (f 5).toInt - 1 := h157
              replace hS154 : MS S0 S150 (upd (upd (upd (upd (upd (upd f 4 z151) 5 y152) 15 z8) 62 o93) 68 z111) 75 m95) g'113 := hS154
              have hR165 : RJ (upd (upd (upd (upd (upd (upd f 4 z151) 5 y152) 15 z8) 62 o93) 68 z111) 75 m95) g'113 gs bc [] 0 (s94.toNatClampNeg :: []) := RJ.at hR119_ (by show (f 4).toInt ≤ z151.toInt; omega)
              show am_E _ _ _ _ [some (.ref 39), some (.int on)] [.int 1] _ _
              refine am_e6i hi_220_46 ?_
              refine am_e35 hi_220_47 ?_
              show am_E _ _ _ _ [some (.ref 39), some (.int on), some (.int tw), some (.int 1)] [] _ _
              refine am_e35 hi_221_95 ?_
              show am_E _ _ _ _ [some (.ref 39), some (.int 39), some (.int on), some (.int tw)] [] _ _
              refine am_e18 hi_181_366 ?_
              refine am_e35 hi_181_397 ?_
              show am_E _ _ _ _ [some (.ref 39), some (.int 39), some (.int on), some (.int tw), some (.int th)] [] _ _
              refine am_e35 hi_180_13 ?_
              have q1 : mg_p1 gs = mg_p1 gs := rfl
              have q2 : mg_p2 gs = mg_p2 gs := rfl
              have q3 : mg_p3 gs = mg_p3 gs := rfl
              have q4 : mg_p4 gs = mg_p4 gs := rfl
              refine ⟨_, _, _, bc, rfl, hS154, Or.inl ⟨⟨(RJ.fewer (pj' := []) hR165 (fun _ h => nomatch h)), ?_, ?_⟩, rfl, ?_⟩⟩
              · exact (mg_cast (mg_good_ext _ _ _ _ _ _ (fun i _ => by show g'113 34 i = g 34 i; rw [show g'113 34 = g'96 34 from h118_ 34 (by decide), show g'96 34 = g 34 from h104_ 34 (by decide)]) (fun i _ => by show g'113 38 i = g 38 i; rw [show g'113 38 = g'96 38 from h118_ 38 (by decide), show g'96 38 = g 38 from h104_ 38 (by decide)]) (fun i _ => by show g'113 23 i = g 23 i; rw [show g'113 23 = g'96 23 from h118_ 23 (by decide), show g'96 23 = g 23 from h104_ 23 (by decide)]) hrest) (by show (f 15).toInt + -1 = z8.toInt; omega) (by show (f 20).toInt = (f 20).toInt; omega) (by show (f 37).toInt + 0 = (f 37).toInt; omega) (by show (f 32).toInt + 0 = (f 32).toInt; omega) (by show (f 5).toInt + -1 = y152.toInt; omega) : mg_good (g'113 34) (g'113 38) (g'113 23) gs (z8.toInt) ((f 20).toInt) ((f 37).toInt) ((f 32).toInt) (y152.toInt))
              · exact ⟨(by show 0 ≤ z151.toInt; omega), (by show z151.toInt ≤ (f 0).toInt; omega), (by show (f 0).toInt ≤ 512; omega), (by show 0 ≤ (f 24).toInt; omega), (by show (f 24).toInt + (f 20).toInt + mg_p1 gs ≤ 4 * z151.toInt; omega), (by show (f 20).toInt ≤ z151.toInt; omega), (by show z8.toInt + mg_p2 gs ≤ z151.toInt; omega), (by show mg_p3 gs ≤ 20 * z151.toInt + 20; omega), (by show 0 ≤ z111.toInt; omega), (by show z111.toInt + 3 * (f 20).toInt + mg_p4 gs ≤ 60 * z151.toInt + 60; omega), (by show 0 ≤ o93.toInt; omega), (by show o93.toInt + 64 * mj_n (g'113 16) z8.toNatClampNeg 3 ≤ 64 * z151.toInt; rw [show g'113 16 = g'96 16 from h118_ 16 (by decide)]; omega), (by show 0 ≤ (f 44).toInt; omega), (by show (f 44).toInt ≤ z151.toInt; omega), (by show 0 ≤ (f 48).toInt; omega), (by show (f 48).toInt ≤ z151.toInt; omega), (by show 1 ≤ (f 53).toInt; omega), (by show (f 53).toInt ≤ z151.toInt + 1; omega), (by show 0 ≤ (f 19).toInt; omega), (by show (f 19).toInt ≤ 600; omega), (by show 0 ≤ (f 6).toInt; omega), (by show 0 ≤ (f 8).toInt; omega)⟩
              · show 100 * ((f 0).toInt - z151.toInt) + mg_p3 gs < 100 * ((f 0).toInt - (f 4).toInt) + (1 + mg_p3 gs); omega
            · subst hv161
              have h163_ : (0 : Int) ≤ a159.toInt := h163
              replace hS162 : MS S0 S150 (upd (upd (upd (upd (upd (upd (upd f 6 a159) 7 b160) 10 0) 15 z8) 62 o93) 68 z111) 75 m95) g'113 := hS162
              have hR166 := rj_clear0 hR119_
              have hR167 : RJ (upd (upd (upd (upd (upd (upd (upd f 6 a159) 7 b160) 10 0) 15 z8) 62 o93) 68 z111) 75 m95) g'113 [] bc [] 0 [] := hR166
              show am_E _ _ _ _ [some (.ref 39), some (.int on)] [.int 0] _ _
              refine am_e6i hi_220_46 ?_
              refine am_e35 hi_220_47 ?_
              show am_E _ _ _ _ [some (.ref 39), some (.int on), some (.int tw), some (.int 1)] [] _ _
              refine am_e35 hi_221_95 ?_
              show am_E _ _ _ _ [some (.ref 39), some (.int 39), some (.int on), some (.int tw)] [] _ _
              refine am_e18 hi_181_366 ?_
              refine am_e35 hi_181_397 ?_
              show am_E _ _ _ _ [some (.ref 39), some (.int 39), some (.int on), some (.int tw), some (.int th)] [] _ _
              refine am_e35 hi_180_13 ?_
              have hRc := rj_clear0 hR167
              refine ⟨_, _, [], _, rfl, hS162, Or.inr ⟨hRc, rfl, (by show 0 ≤ (f 4).toInt; omega), (by show (f 4).toInt ≤ (f 0).toInt; omega), (by show 0 ≤ (f 32).toInt; omega), (by show (f 32).toInt ≤ 63; omega), (by show 1 ≤ (f 53).toInt; omega), (by show (f 53).toInt ≤ 600; omega), (by show 0 ≤ z111.toInt; omega), (by show z111.toInt ≤ 60000; omega), (by show 0 ≤ (f 48).toInt; omega), (by show (f 48).toInt ≤ 8000; omega), (by show 0 ≤ (f 37).toInt; omega), (by show (f 37).toInt ≤ 128; omega), (by show 0 ≤ o93.toInt; omega), (by show o93.toInt ≤ 65000; omega), (by show 0 ≤ (f 19).toInt; omega), (by show (f 19).toInt ≤ 600; omega), (by show 0 ≤ a159.toInt; omega), (by show 0 ≤ (f 8).toInt; omega)⟩⟩
          · refine am_e13f hi_220_15 (am_cF (m := r143.toInt) (n := (67 : Int)) rfl (by decide) c148) ?_
            refine am_e2 (v := 39) hi_220_18 rfl ?_
            refine am_e7 hi_220_19 ?_
            refine mm_20 (v := .int (f 4)) hS145 hi_220_20 rfl ?_
            refine am_e0 hi_220_23 ?_
            obtain ⟨z168, hz168, tz168⟩ := am_addI (x := f 4) (y := 1) (m := (f 4).toInt) (n := (1 : Int)) rfl (by decide) (by omega) (by omega)
            refine am_e10 (z := z168) hi_220_24 hz168 ?_
            refine mm_21 (v := z168) hS145 hi_220_25 rfl (Nat.le_of_ble_eq_true rfl) ms_4 ?_
            intro S169 hS170
            replace hS170 : MS S0 S169 (upd (upd (upd (upd (upd f 4 z168) 15 z8) 62 o93) 68 z111) 75 m95) g'113 := hS170
            have hR171 : RJ (upd (upd (upd (upd (upd f 4 z168) 15 z8) 62 o93) 68 z111) 75 m95) g'113 gs bc [] 0 (s94.toNatClampNeg :: []) := RJ.at hR119_ (by show (f 4).toInt ≤ z168.toInt; omega)
            refine am_e2 (v := 39) hi_220_28 rfl ?_
            refine am_e0 hi_220_29 ?_
            refine am_e1 (v := on) hi_220_31 rfl ?_
            refine am_e0 hi_220_32 ?_
            refine am_e0 hi_220_33 ?_
            refine am_e32n (as := [.ref 39, .int 35, .int on, .int 0, .int 0]) (la := [some (.ref 39), some (.int 35), some (.int on), some (.int 0), some (.int 0)]) (rest := []) hi_220_34 (am_hd0 (M := 220) (by decide) 34) (Nat.le_of_ble_eq_true rfl) (Nat.le_of_ble_eq_true rfl) (show 5 ≤ am_P0.2.2.1 179 from by decide +kernel) rfl (am_recv_ok hS170.fs) rfl rfl (ct_pile (d := (d + 4)) hS170 hR171 (mj_e_plain (by decide)) (by show (0 : Int) ≤ (f 10).toInt; omega) (by show (f 10).toInt ≤ (65535 : Int); omega)) ?_
            rintro v172 S173 (⟨z174, g'175, hv176, hS177, hR180, h178, h179⟩)
            subst hv176
            have h178_ : z174.toInt = (f 10).toInt + 1 := h178
            have h179_ : ∀ j, j ∉ [11, 12, 13, 14] → g'175 j = g'113 j := h179
            replace hS177 : MS S0 S173 (upd (upd (upd (upd (upd (upd f 4 z168) 10 z174) 15 z8) 62 o93) 68 z111) 75 m95) g'175 := hS177
            have hR180_ : RJ (upd (upd (upd (upd (upd (upd f 4 z168) 10 z174) 15 z8) 62 o93) 68 z111) 75 m95) g'175 (((35 : Int), on.toInt, (0 : Int), (0 : Int), []) :: gs) bc [] 0 (s94.toNatClampNeg :: []) := hR180
            show am_E _ _ _ _ [some (.ref 39), some (.int on)] [] _ _
            refine am_e18 hi_220_37 ?_
            refine am_e35 hi_220_47 ?_
            show am_E _ _ _ _ [some (.ref 39), some (.int on), some (.int tw), some (.int 1)] [] _ _
            refine am_e35 hi_221_95 ?_
            show am_E _ _ _ _ [some (.ref 39), some (.int 39), some (.int on), some (.int tw)] [] _ _
            refine am_e18 hi_181_366 ?_
            refine am_e35 hi_181_397 ?_
            show am_E _ _ _ _ [some (.ref 39), some (.int 39), some (.int on), some (.int tw), some (.int th)] [] _ _
            refine am_e35 hi_180_13 ?_
            have q1 : mg_p1 (((35 : Int), on.toInt, (0 : Int), (0 : Int), []) :: gs) = 0 + (mg_p1 gs) := rfl
            have q2 : mg_p2 (((35 : Int), on.toInt, (0 : Int), (0 : Int), []) :: gs) = 0 + (mg_p2 gs) := rfl
            have q3 : mg_p3 (((35 : Int), on.toInt, (0 : Int), (0 : Int), []) :: gs) = 3 + (mg_p3 gs) := rfl
            have q4 : mg_p4 (((35 : Int), on.toInt, (0 : Int), (0 : Int), []) :: gs) = 0 + (mg_p4 gs) := rfl
            refine ⟨_, _, _, bc, rfl, hS177, Or.inl ⟨⟨(RJ.fewer (pj' := []) hR180_ (fun _ h => nomatch h)), ?_, ?_⟩, rfl, ?_⟩⟩
            · exact (⟨⟨(show mg_k 35 from by decide), (show (0 : Int) ≤ z8.toInt from by omega), (show 0 ≤ (f 20).toInt from by omega), (show 1 ≤ (f 37).toInt from by omega), (show 0 ≤ (f 32).toInt from by omega), (show (f 32).toInt ≤ (f 5).toInt from by omega), (show (f 5).toInt ≤ 48 from by omega), (show (f 37).toInt ≤ 2 * ((f 5).toInt) + 2 from by omega), trivial⟩, mg_cast (mg_good_ext _ _ _ _ _ _ (fun i _ => by show g'175 34 i = g 34 i; rw [show g'175 34 = g'113 34 from h179_ 34 (by decide), show g'113 34 = g'96 34 from h118_ 34 (by decide), show g'96 34 = g 34 from h104_ 34 (by decide)]) (fun i _ => by show g'175 38 i = g 38 i; rw [show g'175 38 = g'113 38 from h179_ 38 (by decide), show g'113 38 = g'96 38 from h118_ 38 (by decide), show g'96 38 = g 38 from h104_ 38 (by decide)]) (fun i _ => by show g'175 23 i = g 23 i; rw [show g'175 23 = g'113 23 from h179_ 23 (by decide), show g'113 23 = g'96 23 from h118_ 23 (by decide), show g'96 23 = g 23 from h104_ 23 (by decide)]) hrest) (by show (f 15).toInt + -1 = z8.toInt + 0; omega) (by show (f 20).toInt = (f 20).toInt; omega) (by show (f 37).toInt + 0 = (f 37).toInt + 0; omega) (by show (f 32).toInt + 0 = (f 32).toInt + 0; omega) (by show (f 5).toInt + -1 = (f 5).toInt + -1; omega)⟩ : mg_good (g'175 34) (g'175 38) (g'175 23) (((35 : Int), on.toInt, (0 : Int), (0 : Int), []) :: gs) (z8.toInt) ((f 20).toInt) ((f 37).toInt) ((f 32).toInt) ((f 5).toInt))
            · exact ⟨(by show 0 ≤ z168.toInt; omega), (by show z168.toInt ≤ (f 0).toInt; omega), (by show (f 0).toInt ≤ 512; omega), (by show 0 ≤ (f 24).toInt; omega), (by show (f 24).toInt + (f 20).toInt + mg_p1 (((35 : Int), on.toInt, (0 : Int), (0 : Int), []) :: gs) ≤ 4 * z168.toInt; omega), (by show (f 20).toInt ≤ z168.toInt; omega), (by show z8.toInt + mg_p2 (((35 : Int), on.toInt, (0 : Int), (0 : Int), []) :: gs) ≤ z168.toInt; omega), (by show mg_p3 (((35 : Int), on.toInt, (0 : Int), (0 : Int), []) :: gs) ≤ 20 * z168.toInt + 20; omega), (by show 0 ≤ z111.toInt; omega), (by show z111.toInt + 3 * (f 20).toInt + mg_p4 (((35 : Int), on.toInt, (0 : Int), (0 : Int), []) :: gs) ≤ 60 * z168.toInt + 60; omega), (by show 0 ≤ o93.toInt; omega), (by show o93.toInt + 64 * mj_n (g'175 16) z8.toNatClampNeg 3 ≤ 64 * z168.toInt; rw [show g'175 16 = g'113 16 from h179_ 16 (by decide), show g'113 16 = g'96 16 from h118_ 16 (by decide)]; omega), (by show 0 ≤ (f 44).toInt; omega), (by show (f 44).toInt ≤ z168.toInt; omega), (by show 0 ≤ (f 48).toInt; omega), (by show (f 48).toInt ≤ z168.toInt; omega), (by show 1 ≤ (f 53).toInt; omega), (by show (f 53).toInt ≤ z168.toInt + 1; omega), (by show 0 ≤ (f 19).toInt; omega), (by show (f 19).toInt ≤ 600; omega), (by show 0 ≤ (f 6).toInt; omega), (by show 0 ≤ (f 8).toInt; omega)⟩
            · show 100 * ((f 0).toInt - z168.toInt) + mg_p3 (((35 : Int), on.toInt, (0 : Int), (0 : Int), []) :: gs) < 100 * ((f 0).toInt - (f 4).toInt) + (1 + mg_p3 gs); omega
      · refine am_e13f hi_216_27 (am_cF (m := (g 16 z8.toNatClampNeg).toInt) (n := (2 : Int)) rfl (by decide) c90) ?_
        refine am_e0 hi_216_30 ?_
        refine am_e18 hi_216_31 ?_
        refine am_e36 hi_216_35 (by decide) ?_
        show am_E _ _ _ _ [some (.ref 39), some (.int on), some (.int tw), some (.int 1)] [.int 1] _ _
        refine am_e12f hi_221_56 (by decide) ?_
        refine am_e2 (v := 39) hi_221_59 rfl ?_
        refine am_e32w (as := [.ref 39]) (la := [some (.ref 39), none]) (rest := []) hi_221_60 (am_hd0 (M := 221) (by decide) 60) (Nat.le_of_ble_eq_true rfl) (Nat.le_of_ble_eq_true rfl) (show 1 ≤ am_P0.2.2.1 217 from by decide +kernel) rfl (am_recv_ok hS4.fs) rfl rfl ?_
        refine am_e2 (v := 39) hi_217_0 rfl ?_
        refine mm_20 (v := .ref 47) hS4 hi_217_1 rfl ?_
        refine am_e2 (v := 39) hi_217_4 rfl ?_
        refine mm_20 (v := .int (f 15)) hS4 hi_217_5 rfl ?_
        refine am_e0 hi_217_8 ?_
        refine am_e10 (z := z8) hi_217_9 hz8 ?_
        refine mm_25 hS4 ma_17 hi_217_10 (by decide) (by omega) (by omega) ?_
        show am_E _ _ _ _ [some (.ref 39), none] [.int (g 17 z8.toNatClampNeg)] _ _
        have r181 : (g 16 z8.toNatClampNeg).toInt = 1 ∨ (g 16 z8.toNatClampNeg).toInt = 2 → 0 ≤ (g 17 z8.toNatClampNeg).toInt ∧ (g 17 z8.toNatClampNeg).toInt < 65536 := RJ.vc hR z8.toNatClampNeg
        refine am_e3 (ls' := [some (.ref 39), some (.int (g 17 z8.toNatClampNeg))]) hi_217_11 (Nat.le_of_ble_eq_true rfl) rfl ?_
        refine am_e2 (v := 39) hi_217_12 rfl ?_
        refine mm_20 (v := .ref 91) hS4 hi_217_13 rfl ?_
        refine am_e1 (v := g 17 z8.toNatClampNeg) hi_217_16 rfl ?_
        refine am_e2 (v := 39) hi_217_17 rfl ?_
        refine mm_20 (v := .ref 46) hS4 hi_217_18 rfl ?_
        refine am_e2 (v := 39) hi_217_21 rfl ?_
        refine mm_20 (v := .int (f 15)) hS4 hi_217_22 rfl ?_
        refine am_e0 hi_217_25 ?_
        refine am_e10 (z := z8) hi_217_26 hz8 ?_
        refine mm_25 hS4 ma_16 hi_217_27 (by decide) (by omega) (by omega) ?_
        show am_E _ _ _ _ [some (.ref 39), some (.int (g 17 z8.toNatClampNeg))] [.int (g 16 z8.toNatClampNeg), .int (g 17 z8.toNatClampNeg), .ref 91] _ _
        refine am_e0 hi_217_28 ?_
        refine am_e13t hi_217_29 (am_cT (m := (g 16 z8.toNatClampNeg).toInt) (n := (1 : Int)) rfl (by decide) (by simp only [am_cI]; omega)) ?_
        refine am_e0 hi_217_45 ?_
        refine mm_26 hS4 ma_72 hi_217_46 (by decide) (by omega) (by omega) (fun h => nomatch h) ?_
        intro S182 hS183
        refine am_e2 (v := 39) hi_217_47 rfl ?_
        refine am_e7 hi_217_48 ?_
        refine mm_20 (v := .int (f 15)) hS183 hi_217_49 rfl ?_
        refine am_e0 hi_217_52 ?_
        refine am_e10 (z := z8) hi_217_53 hz8 ?_
        refine mm_21 (v := z8) hS183 hi_217_54 rfl (Nat.le_of_ble_eq_true rfl) ms_15 ?_
        intro S184 hS185
        have hp186 : mj_n (g 16) (f 15).toNatClampNeg 3 = mj_n (g 16) z8.toNatClampNeg 3 + if (g 16 z8.toNatClampNeg).toInt = 3 then 1 else 0 := mj_pop (by rw [cl_toNat, cl_toNat]; omega)
        have hp1861 : mj_n (g 16) z8.toNatClampNeg 3 ≤ mj_n (g 16) (f 15).toNatClampNeg 3 := by rw [hp186]; split <;> omega
        have hp1862 : (g 16 z8.toNatClampNeg).toInt = 3 → mj_n (g 16) z8.toNatClampNeg 3 + 1 ≤ mj_n (g 16) (f 15).toNatClampNeg 3 := fun q => by rw [hp186, if_pos q]; exact Int.le_refl _
        refine am_e35 hi_217_57 ?_
        show am_E _ _ _ _ [some (.ref 39), some (.int on), some (.int tw), some (.int 1)] [] _ _
        refine am_e2 (v := 39) hi_221_63 rfl ?_
        refine am_e0 hi_221_64 ?_
        refine am_e1 (v := on) hi_221_66 rfl ?_
        refine am_e0 hi_221_67 ?_
        refine am_e1 (v := tw) hi_221_68 rfl ?_
        refine am_e32n (as := [.ref 39, .int 24, .int on, .int 0, .int tw]) (la := [some (.ref 39), some (.int 24), some (.int on), some (.int 0), some (.int tw)]) (rest := []) hi_221_69 (am_hd0 (M := 221) (by decide) 69) (Nat.le_of_ble_eq_true rfl) (Nat.le_of_ble_eq_true rfl) (show 5 ≤ am_P0.2.2.1 189 from by decide +kernel) rfl (am_recv_ok hS185.fs) rfl rfl (ct_put (d := (d + 5)) hS185 hR  (by show (0 : Int) ≤ (f 32).toInt; omega) (by show (f 32).toInt ≤ (63 : Int); omega) (by show (f 53).toInt ≤ (4096 : Int); omega) (by show (0 : Int) ≤ (f 68).toInt; omega) (by show (f 68).toInt ≤ (65534 : Int); omega)) ?_
        rintro v187 S188 (⟨z189, r190, g'191, hv192, hS193, hR197, h194, h195, h196⟩)
        subst hv192
        have h194_ : z189.toInt = (f 68).toInt + 1 := h194
        have h195_ : r190.toInt = (f 68).toInt := h195
        have h196_ : ∀ j, j ∉ [60, 69, 70, 71, 72, 73] → g'191 j = (upg g 72 (g 17 z8.toNatClampNeg).toNatClampNeg 0) j := h196
        have hR197_ : RJ (upd (upd f 15 z8) 68 z189) g'191 gs bc [] 0 ((f 68).toNatClampNeg :: []) := hR197
        show am_E _ _ _ _ [some (.ref 39), some (.int on), some (.int tw), some (.int 1)] [.int r190] _ _
        refine am_e6i hi_221_72 ?_
        refine am_e18 hi_221_73 ?_
        refine am_e2 (v := 39) hi_221_90 rfl ?_
        refine am_e1 (v := on) hi_221_91 rfl ?_
        refine am_e32w (as := [.ref 39, .int on]) (la := [some (.ref 39), some (.int on)]) (rest := []) hi_221_92 (am_hd0 (M := 221) (by decide) 92) (Nat.le_of_ble_eq_true rfl) (Nat.le_of_ble_eq_true rfl) (show 2 ≤ am_P0.2.2.1 220 from by decide +kernel) rfl (am_recv_ok hS193.fs) rfl rfl ?_
        refine am_e2 (v := 39) hi_220_0 rfl ?_
        refine am_e32n (as := [.ref 39]) (la := [some (.ref 39)]) (rest := []) hi_220_1 (am_hd0 (M := 220) (by decide) 1) (Nat.le_of_ble_eq_true rfl) (Nat.le_of_ble_eq_true rfl) (show 1 ≤ am_P0.2.2.1 183 from by decide +kernel) rfl (am_recv_ok hS193.fs) rfl rfl (ct_next (d := (d + 3)) hS193   (by show (0 : Int) ≤ (f 4).toInt; omega) (by show (f 0).toInt ≤ (16384 : Int); omega)) ?_
        rintro v198 S199 (⟨r200, hv201, hS202, h203⟩)
        subst hv201
        have h203_ : (f 4).toInt < (f 0).toInt ∨ r200.toInt = (-1 : Int) := h203
        show am_E _ _ _ _ [some (.ref 39), some (.int on)] [.int r200] _ _
        refine am_e0 hi_220_4 ?_
        by_cases c205 : r200.toInt = (69 : Int)
        · refine am_e13t hi_220_6 (am_cT (m := r200.toInt) (n := (69 : Int)) rfl (by decide) c205) ?_
          refine am_e2 (v := 39) hi_220_18 rfl ?_
          refine am_e7 hi_220_19 ?_
          refine mm_20 (v := .int (f 4)) hS202 hi_220_20 rfl ?_
          refine am_e0 hi_220_23 ?_
          obtain ⟨z206, hz206, tz206⟩ := am_addI (x := f 4) (y := 1) (m := (f 4).toInt) (n := (1 : Int)) rfl (by decide) (by omega) (by omega)
          refine am_e10 (z := z206) hi_220_24 hz206 ?_
          refine mm_21 (v := z206) hS202 hi_220_25 rfl (Nat.le_of_ble_eq_true rfl) ms_4 ?_
          intro S207 hS208
          replace hS208 : MS S0 S207 (upd (upd (upd f 4 z206) 15 z8) 68 z189) g'191 := hS208
          have hR209 : RJ (upd (upd (upd f 4 z206) 15 z8) 68 z189) g'191 gs bc [] 0 ((f 68).toNatClampNeg :: []) := RJ.at hR197_ (by show (f 4).toInt ≤ z206.toInt; omega)
          refine am_e2 (v := 39) hi_220_28 rfl ?_
          refine am_e0 hi_220_29 ?_
          refine am_e1 (v := on) hi_220_31 rfl ?_
          refine am_e0 hi_220_32 ?_
          refine am_e0 hi_220_33 ?_
          refine am_e32n (as := [.ref 39, .int 35, .int on, .int 0, .int 0]) (la := [some (.ref 39), some (.int 35), some (.int on), some (.int 0), some (.int 0)]) (rest := []) hi_220_34 (am_hd0 (M := 220) (by decide) 34) (Nat.le_of_ble_eq_true rfl) (Nat.le_of_ble_eq_true rfl) (show 5 ≤ am_P0.2.2.1 179 from by decide +kernel) rfl (am_recv_ok hS208.fs) rfl rfl (ct_pile (d := (d + 4)) hS208 hR209 (mj_e_plain (by decide)) (by show (0 : Int) ≤ (f 10).toInt; omega) (by show (f 10).toInt ≤ (65535 : Int); omega)) ?_
          rintro v210 S211 (⟨z212, g'213, hv214, hS215, hR218, h216, h217⟩)
          subst hv214
          have h216_ : z212.toInt = (f 10).toInt + 1 := h216
          have h217_ : ∀ j, j ∉ [11, 12, 13, 14] → g'213 j = g'191 j := h217
          replace hS215 : MS S0 S211 (upd (upd (upd (upd f 4 z206) 10 z212) 15 z8) 68 z189) g'213 := hS215
          have hR218_ : RJ (upd (upd (upd (upd f 4 z206) 10 z212) 15 z8) 68 z189) g'213 (((35 : Int), on.toInt, (0 : Int), (0 : Int), []) :: gs) bc [] 0 ((f 68).toNatClampNeg :: []) := hR218
          show am_E _ _ _ _ [some (.ref 39), some (.int on)] [] _ _
          refine am_e18 hi_220_37 ?_
          refine am_e35 hi_220_47 ?_
          show am_E _ _ _ _ [some (.ref 39), some (.int on), some (.int tw), some (.int 1)] [] _ _
          refine am_e35 hi_221_95 ?_
          show am_E _ _ _ _ [some (.ref 39), some (.int 39), some (.int on), some (.int tw)] [] _ _
          refine am_e18 hi_181_366 ?_
          refine am_e35 hi_181_397 ?_
          show am_E _ _ _ _ [some (.ref 39), some (.int 39), some (.int on), some (.int tw), some (.int th)] [] _ _
          refine am_e35 hi_180_13 ?_
          have q1 : mg_p1 (((35 : Int), on.toInt, (0 : Int), (0 : Int), []) :: gs) = 0 + (mg_p1 gs) := rfl
          have q2 : mg_p2 (((35 : Int), on.toInt, (0 : Int), (0 : Int), []) :: gs) = 0 + (mg_p2 gs) := rfl
          have q3 : mg_p3 (((35 : Int), on.toInt, (0 : Int), (0 : Int), []) :: gs) = 3 + (mg_p3 gs) := rfl
          have q4 : mg_p4 (((35 : Int), on.toInt, (0 : Int), (0 : Int), []) :: gs) = 0 + (mg_p4 gs) := rfl
          refine ⟨_, _, _, bc, rfl, hS215, Or.inl ⟨⟨(RJ.fewer (pj' := []) hR218_ (fun _ h => nomatch h)), ?_, ?_⟩, rfl, ?_⟩⟩
          · exact (⟨⟨(show mg_k 35 from by decide), (show (0 : Int) ≤ z8.toInt from by omega), (show 0 ≤ (f 20).toInt from by omega), (show 1 ≤ (f 37).toInt from by omega), (show 0 ≤ (f 32).toInt from by omega), (show (f 32).toInt ≤ (f 5).toInt from by omega), (show (f 5).toInt ≤ 48 from by omega), (show (f 37).toInt ≤ 2 * ((f 5).toInt) + 2 from by omega), trivial⟩, mg_cast (mg_good_ext _ _ _ _ _ _ (fun i _ => by show g'213 34 i = g 34 i; rw [show g'213 34 = g'191 34 from h217_ 34 (by decide), show g'191 34 = g 34 from h196_ 34 (by decide)]) (fun i _ => by show g'213 38 i = g 38 i; rw [show g'213 38 = g'191 38 from h217_ 38 (by decide), show g'191 38 = g 38 from h196_ 38 (by decide)]) (fun i _ => by show g'213 23 i = g 23 i; rw [show g'213 23 = g'191 23 from h217_ 23 (by decide), show g'191 23 = g 23 from h196_ 23 (by decide)]) hrest) (by show (f 15).toInt + -1 = z8.toInt + 0; omega) (by show (f 20).toInt = (f 20).toInt; omega) (by show (f 37).toInt + 0 = (f 37).toInt + 0; omega) (by show (f 32).toInt + 0 = (f 32).toInt + 0; omega) (by show (f 5).toInt + -1 = (f 5).toInt + -1; omega)⟩ : mg_good (g'213 34) (g'213 38) (g'213 23) (((35 : Int), on.toInt, (0 : Int), (0 : Int), []) :: gs) (z8.toInt) ((f 20).toInt) ((f 37).toInt) ((f 32).toInt) ((f 5).toInt))
          · exact ⟨(by show 0 ≤ z206.toInt; omega), (by show z206.toInt ≤ (f 0).toInt; omega), (by show (f 0).toInt ≤ 512; omega), (by show 0 ≤ (f 24).toInt; omega), (by show (f 24).toInt + (f 20).toInt + mg_p1 (((35 : Int), on.toInt, (0 : Int), (0 : Int), []) :: gs) ≤ 4 * z206.toInt; omega), (by show (f 20).toInt ≤ z206.toInt; omega), (by show z8.toInt + mg_p2 (((35 : Int), on.toInt, (0 : Int), (0 : Int), []) :: gs) ≤ z206.toInt; omega), (by show mg_p3 (((35 : Int), on.toInt, (0 : Int), (0 : Int), []) :: gs) ≤ 20 * z206.toInt + 20; omega), (by show 0 ≤ z189.toInt; omega), (by show z189.toInt + 3 * (f 20).toInt + mg_p4 (((35 : Int), on.toInt, (0 : Int), (0 : Int), []) :: gs) ≤ 60 * z206.toInt + 60; omega), (by show 0 ≤ (f 62).toInt; omega), (by show (f 62).toInt + 64 * mj_n (g'213 16) z8.toNatClampNeg 3 ≤ 64 * z206.toInt; rw [show g'213 16 = g'191 16 from h217_ 16 (by decide), show g'191 16 = g 16 from h196_ 16 (by decide)]; omega), (by show 0 ≤ (f 44).toInt; omega), (by show (f 44).toInt ≤ z206.toInt; omega), (by show 0 ≤ (f 48).toInt; omega), (by show (f 48).toInt ≤ z206.toInt; omega), (by show 1 ≤ (f 53).toInt; omega), (by show (f 53).toInt ≤ z206.toInt + 1; omega), (by show 0 ≤ (f 19).toInt; omega), (by show (f 19).toInt ≤ 600; omega), (by show 0 ≤ (f 6).toInt; omega), (by show 0 ≤ (f 8).toInt; omega)⟩
          · show 100 * ((f 0).toInt - z206.toInt) + mg_p3 (((35 : Int), on.toInt, (0 : Int), (0 : Int), []) :: gs) < 100 * ((f 0).toInt - (f 4).toInt) + (1 + mg_p3 gs); omega
        · refine am_e13f hi_220_6 (am_cF (m := r200.toInt) (n := (69 : Int)) rfl (by decide) c205) ?_
          refine am_e2 (v := 39) hi_220_9 rfl ?_
          refine am_e32n (as := [.ref 39]) (la := [some (.ref 39)]) (rest := []) hi_220_10 (am_hd0 (M := 220) (by decide) 10) (Nat.le_of_ble_eq_true rfl) (Nat.le_of_ble_eq_true rfl) (show 1 ≤ am_P0.2.2.1 183 from by decide +kernel) rfl (am_recv_ok hS202.fs) rfl rfl (ct_next (d := (d + 3)) hS202   (by show (0 : Int) ≤ (f 4).toInt; omega) (by show (f 0).toInt ≤ (16384 : Int); omega)) ?_
          rintro v219 S220 (⟨r221, hv222, hS223, h224⟩)
          subst hv222
          have h224_ : (f 4).toInt < (f 0).toInt ∨ r221.toInt = (-1 : Int) := h224
          show am_E _ _ _ _ [some (.ref 39), some (.int on)] [.int r221] _ _
          refine am_e0 hi_220_13 ?_
          by_cases c226 : ¬ r221.toInt = (67 : Int)
          · refine am_e13t hi_220_15 (am_cT (m := r221.toInt) (n := (67 : Int)) rfl (by decide) c226) ?_
            refine am_e2 (v := 39) hi_220_40 rfl ?_
            refine am_e0 hi_220_41 ?_
            refine am_e32n (as := [.ref 39, .int 63]) (la := [some (.ref 39), some (.int 63)]) (rest := []) hi_220_43 (am_hd0 (M := 220) (by decide) 43) (Nat.le_of_ble_eq_true rfl) (Nat.le_of_ble_eq_true rfl) (show 2 ≤ am_P0.2.2.1 199 from by decide +kernel) rfl (am_recv_ok hS223.fs) rfl rfl (ct_leave (d := (d + 1)) hS223   (by show (0 : Int) ≤ (f 4).toInt; omega) (by show (f 0).toInt ≤ (16384 : Int); omega) (by show (0 : Int) ≤ (63 : Int); omega) (by show (0 : Int) ≤ (f 5).toInt; omega) (by show (f 5).toInt ≤ (48 : Int); omega) (by show (0 : Int) ≤ (f 6).toInt; omega)) ?_
            rintro v227 S228 (⟨z229, y230, hv231, hS232, h233, h234, h235⟩ | ⟨a237, b238, hv239, hS240, h241⟩)
            · subst hv231
              have h233_ : z229.toInt = (f 4).toInt + 1 := h233
              have h234_ : (f 4).toInt < (f 0).toInt := h234
              have h235_ : y230.toInt = (f 5).toInt - 1 := h235
              replace hS232 : MS S0 S228 (upd (upd (upd (upd f 4 z229) 5 y230) 15 z8) 68 z189) g'191 := hS232
              have hR243 : RJ (upd (upd (upd (upd f 4 z229) 5 y230) 15 z8) 68 z189) g'191 gs bc [] 0 ((f 68).toNatClampNeg :: []) := RJ.at hR197_ (by show (f 4).toInt ≤ z229.toInt; omega)
              show am_E _ _ _ _ [some (.ref 39), some (.int on)] [.int 1] _ _
              refine am_e6i hi_220_46 ?_
              refine am_e35 hi_220_47 ?_
              show am_E _ _ _ _ [some (.ref 39), some (.int on), some (.int tw), some (.int 1)] [] _ _
              refine am_e35 hi_221_95 ?_
              show am_E _ _ _ _ [some (.ref 39), some (.int 39), some (.int on), some (.int tw)] [] _ _
              refine am_e18 hi_181_366 ?_
              refine am_e35 hi_181_397 ?_
              show am_E _ _ _ _ [some (.ref 39), some (.int 39), some (.int on), some (.int tw), some (.int th)] [] _ _
              refine am_e35 hi_180_13 ?_
              have q1 : mg_p1 gs = mg_p1 gs := rfl
              have q2 : mg_p2 gs = mg_p2 gs := rfl
              have q3 : mg_p3 gs = mg_p3 gs := rfl
              have q4 : mg_p4 gs = mg_p4 gs := rfl
              refine ⟨_, _, _, bc, rfl, hS232, Or.inl ⟨⟨(RJ.fewer (pj' := []) hR243 (fun _ h => nomatch h)), ?_, ?_⟩, rfl, ?_⟩⟩
              · exact (mg_cast (mg_good_ext _ _ _ _ _ _ (fun i _ => by show g'191 34 i = g 34 i; rw [show g'191 34 = g 34 from h196_ 34 (by decide)]) (fun i _ => by show g'191 38 i = g 38 i; rw [show g'191 38 = g 38 from h196_ 38 (by decide)]) (fun i _ => by show g'191 23 i = g 23 i; rw [show g'191 23 = g 23 from h196_ 23 (by decide)]) hrest) (by show (f 15).toInt + -1 = z8.toInt; omega) (by show (f 20).toInt = (f 20).toInt; omega) (by show (f 37).toInt + 0 = (f 37).toInt; omega) (by show (f 32).toInt + 0 = (f 32).toInt; omega) (by show (f 5).toInt + -1 = y230.toInt; omega) : mg_good (g'191 34) (g'191 38) (g'191 23) gs (z8.toInt) ((f 20).toInt) ((f 37).toInt) ((f 32).toInt) (y230.toInt))
              · exact ⟨(by show 0 ≤ z229.toInt; omega), (by show z229.toInt ≤ (f 0).toInt; omega), (by show (f 0).toInt ≤ 512; omega), (by show 0 ≤ (f 24).toInt; omega), (by show (f 24).toInt + (f 20).toInt + mg_p1 gs ≤ 4 * z229.toInt; omega), (by show (f 20).toInt ≤ z229.toInt; omega), (by show z8.toInt + mg_p2 gs ≤ z229.toInt; omega), (by show mg_p3 gs ≤ 20 * z229.toInt + 20; omega), (by show 0 ≤ z189.toInt; omega), (by show z189.toInt + 3 * (f 20).toInt + mg_p4 gs ≤ 60 * z229.toInt + 60; omega), (by show 0 ≤ (f 62).toInt; omega), (by show (f 62).toInt + 64 * mj_n (g'191 16) z8.toNatClampNeg 3 ≤ 64 * z229.toInt; rw [show g'191 16 = g 16 from h196_ 16 (by decide)]; omega), (by show 0 ≤ (f 44).toInt; omega), (by show (f 44).toInt ≤ z229.toInt; omega), (by show 0 ≤ (f 48).toInt; omega), (by show (f 48).toInt ≤ z229.toInt; omega), (by show 1 ≤ (f 53).toInt; omega), (by show (f 53).toInt ≤ z229.toInt + 1; omega), (by show 0 ≤ (f 19).toInt; omega), (by show (f 19).toInt ≤ 600; omega), (by show 0 ≤ (f 6).toInt; omega), (by show 0 ≤ (f 8).toInt; omega)⟩
              · show 100 * ((f 0).toInt - z229.toInt) + mg_p3 gs < 100 * ((f 0).toInt - (f 4).toInt) + (1 + mg_p3 gs); omega
            · subst hv239
              have h241_ : (0 : Int) ≤ a237.toInt := h241
              replace hS240 : MS S0 S228 (upd (upd (upd (upd (upd f 6 a237) 7 b238) 10 0) 15 z8) 68 z189) g'191 := hS240
              have hR244 := rj_clear0 hR197_
              have hR245 : RJ (upd (upd (upd (upd (upd f 6 a237) 7 b238) 10 0) 15 z8) 68 z189) g'191 [] bc [] 0 [] := hR244
              show am_E _ _ _ _ [some (.ref 39), some (.int on)] [.int 0] _ _
              refine am_e6i hi_220_46 ?_
              refine am_e35 hi_220_47 ?_
              show am_E _ _ _ _ [some (.ref 39), some (.int on), some (.int tw), some (.int 1)] [] _ _
              refine am_e35 hi_221_95 ?_
              show am_E _ _ _ _ [some (.ref 39), some (.int 39), some (.int on), some (.int tw)] [] _ _
              refine am_e18 hi_181_366 ?_
              refine am_e35 hi_181_397 ?_
              show am_E _ _ _ _ [some (.ref 39), some (.int 39), some (.int on), some (.int tw), some (.int th)] [] _ _
              refine am_e35 hi_180_13 ?_
              have hRc := rj_clear0 hR245
              refine ⟨_, _, [], _, rfl, hS240, Or.inr ⟨hRc, rfl, (by show 0 ≤ (f 4).toInt; omega), (by show (f 4).toInt ≤ (f 0).toInt; omega), (by show 0 ≤ (f 32).toInt; omega), (by show (f 32).toInt ≤ 63; omega), (by show 1 ≤ (f 53).toInt; omega), (by show (f 53).toInt ≤ 600; omega), (by show 0 ≤ z189.toInt; omega), (by show z189.toInt ≤ 60000; omega), (by show 0 ≤ (f 48).toInt; omega), (by show (f 48).toInt ≤ 8000; omega), (by show 0 ≤ (f 37).toInt; omega), (by show (f 37).toInt ≤ 128; omega), (by show 0 ≤ (f 62).toInt; omega), (by show (f 62).toInt ≤ 65000; omega), (by show 0 ≤ (f 19).toInt; omega), (by show (f 19).toInt ≤ 600; omega), (by show 0 ≤ a237.toInt; omega), (by show 0 ≤ (f 8).toInt; omega)⟩⟩
          · refine am_e13f hi_220_15 (am_cF (m := r221.toInt) (n := (67 : Int)) rfl (by decide) c226) ?_
            refine am_e2 (v := 39) hi_220_18 rfl ?_
            refine am_e7 hi_220_19 ?_
            refine mm_20 (v := .int (f 4)) hS223 hi_220_20 rfl ?_
            refine am_e0 hi_220_23 ?_
            obtain ⟨z246, hz246, tz246⟩ := am_addI (x := f 4) (y := 1) (m := (f 4).toInt) (n := (1 : Int)) rfl (by decide) (by omega) (by omega)
            refine am_e10 (z := z246) hi_220_24 hz246 ?_
            refine mm_21 (v := z246) hS223 hi_220_25 rfl (Nat.le_of_ble_eq_true rfl) ms_4 ?_
            intro S247 hS248
            replace hS248 : MS S0 S247 (upd (upd (upd f 4 z246) 15 z8) 68 z189) g'191 := hS248
            have hR249 : RJ (upd (upd (upd f 4 z246) 15 z8) 68 z189) g'191 gs bc [] 0 ((f 68).toNatClampNeg :: []) := RJ.at hR197_ (by show (f 4).toInt ≤ z246.toInt; omega)
            refine am_e2 (v := 39) hi_220_28 rfl ?_
            refine am_e0 hi_220_29 ?_
            refine am_e1 (v := on) hi_220_31 rfl ?_
            refine am_e0 hi_220_32 ?_
            refine am_e0 hi_220_33 ?_
            refine am_e32n (as := [.ref 39, .int 35, .int on, .int 0, .int 0]) (la := [some (.ref 39), some (.int 35), some (.int on), some (.int 0), some (.int 0)]) (rest := []) hi_220_34 (am_hd0 (M := 220) (by decide) 34) (Nat.le_of_ble_eq_true rfl) (Nat.le_of_ble_eq_true rfl) (show 5 ≤ am_P0.2.2.1 179 from by decide +kernel) rfl (am_recv_ok hS248.fs) rfl rfl (ct_pile (d := (d + 4)) hS248 hR249 (mj_e_plain (by decide)) (by show (0 : Int) ≤ (f 10).toInt; omega) (by show (f 10).toInt ≤ (65535 : Int); omega)) ?_
            rintro v250 S251 (⟨z252, g'253, hv254, hS255, hR258, h256, h257⟩)
            subst hv254
            have h256_ : z252.toInt = (f 10).toInt + 1 := h256
            have h257_ : ∀ j, j ∉ [11, 12, 13, 14] → g'253 j = g'191 j := h257
            replace hS255 : MS S0 S251 (upd (upd (upd (upd f 4 z246) 10 z252) 15 z8) 68 z189) g'253 := hS255
            have hR258_ : RJ (upd (upd (upd (upd f 4 z246) 10 z252) 15 z8) 68 z189) g'253 (((35 : Int), on.toInt, (0 : Int), (0 : Int), []) :: gs) bc [] 0 ((f 68).toNatClampNeg :: []) := hR258
            show am_E _ _ _ _ [some (.ref 39), some (.int on)] [] _ _
            refine am_e18 hi_220_37 ?_
            refine am_e35 hi_220_47 ?_
            show am_E _ _ _ _ [some (.ref 39), some (.int on), some (.int tw), some (.int 1)] [] _ _
            refine am_e35 hi_221_95 ?_
            show am_E _ _ _ _ [some (.ref 39), some (.int 39), some (.int on), some (.int tw)] [] _ _
            refine am_e18 hi_181_366 ?_
            refine am_e35 hi_181_397 ?_
            show am_E _ _ _ _ [some (.ref 39), some (.int 39), some (.int on), some (.int tw), some (.int th)] [] _ _
            refine am_e35 hi_180_13 ?_
            have q1 : mg_p1 (((35 : Int), on.toInt, (0 : Int), (0 : Int), []) :: gs) = 0 + (mg_p1 gs) := rfl
            have q2 : mg_p2 (((35 : Int), on.toInt, (0 : Int), (0 : Int), []) :: gs) = 0 + (mg_p2 gs) := rfl
            have q3 : mg_p3 (((35 : Int), on.toInt, (0 : Int), (0 : Int), []) :: gs) = 3 + (mg_p3 gs) := rfl
            have q4 : mg_p4 (((35 : Int), on.toInt, (0 : Int), (0 : Int), []) :: gs) = 0 + (mg_p4 gs) := rfl
            refine ⟨_, _, _, bc, rfl, hS255, Or.inl ⟨⟨(RJ.fewer (pj' := []) hR258_ (fun _ h => nomatch h)), ?_, ?_⟩, rfl, ?_⟩⟩
            · exact (⟨⟨(show mg_k 35 from by decide), (show (0 : Int) ≤ z8.toInt from by omega), (show 0 ≤ (f 20).toInt from by omega), (show 1 ≤ (f 37).toInt from by omega), (show 0 ≤ (f 32).toInt from by omega), (show (f 32).toInt ≤ (f 5).toInt from by omega), (show (f 5).toInt ≤ 48 from by omega), (show (f 37).toInt ≤ 2 * ((f 5).toInt) + 2 from by omega), trivial⟩, mg_cast (mg_good_ext _ _ _ _ _ _ (fun i _ => by show g'253 34 i = g 34 i; rw [show g'253 34 = g'191 34 from h257_ 34 (by decide), show g'191 34 = g 34 from h196_ 34 (by decide)]) (fun i _ => by show g'253 38 i = g 38 i; rw [show g'253 38 = g'191 38 from h257_ 38 (by decide), show g'191 38 = g 38 from h196_ 38 (by decide)]) (fun i _ => by show g'253 23 i = g 23 i; rw [show g'253 23 = g'191 23 from h257_ 23 (by decide), show g'191 23 = g 23 from h196_ 23 (by decide)]) hrest) (by show (f 15).toInt + -1 = z8.toInt + 0; omega) (by show (f 20).toInt = (f 20).toInt; omega) (by show (f 37).toInt + 0 = (f 37).toInt + 0; omega) (by show (f 32).toInt + 0 = (f 32).toInt + 0; omega) (by show (f 5).toInt + -1 = (f 5).toInt + -1; omega)⟩ : mg_good (g'253 34) (g'253 38) (g'253 23) (((35 : Int), on.toInt, (0 : Int), (0 : Int), []) :: gs) (z8.toInt) ((f 20).toInt) ((f 37).toInt) ((f 32).toInt) ((f 5).toInt))
            · exact ⟨(by show 0 ≤ z246.toInt; omega), (by show z246.toInt ≤ (f 0).toInt; omega), (by show (f 0).toInt ≤ 512; omega), (by show 0 ≤ (f 24).toInt; omega), (by show (f 24).toInt + (f 20).toInt + mg_p1 (((35 : Int), on.toInt, (0 : Int), (0 : Int), []) :: gs) ≤ 4 * z246.toInt; omega), (by show (f 20).toInt ≤ z246.toInt; omega), (by show z8.toInt + mg_p2 (((35 : Int), on.toInt, (0 : Int), (0 : Int), []) :: gs) ≤ z246.toInt; omega), (by show mg_p3 (((35 : Int), on.toInt, (0 : Int), (0 : Int), []) :: gs) ≤ 20 * z246.toInt + 20; omega), (by show 0 ≤ z189.toInt; omega), (by show z189.toInt + 3 * (f 20).toInt + mg_p4 (((35 : Int), on.toInt, (0 : Int), (0 : Int), []) :: gs) ≤ 60 * z246.toInt + 60; omega), (by show 0 ≤ (f 62).toInt; omega), (by show (f 62).toInt + 64 * mj_n (g'253 16) z8.toNatClampNeg 3 ≤ 64 * z246.toInt; rw [show g'253 16 = g'191 16 from h257_ 16 (by decide), show g'191 16 = g 16 from h196_ 16 (by decide)]; omega), (by show 0 ≤ (f 44).toInt; omega), (by show (f 44).toInt ≤ z246.toInt; omega), (by show 0 ≤ (f 48).toInt; omega), (by show (f 48).toInt ≤ z246.toInt; omega), (by show 1 ≤ (f 53).toInt; omega), (by show (f 53).toInt ≤ z246.toInt + 1; omega), (by show 0 ≤ (f 19).toInt; omega), (by show (f 19).toInt ≤ 600; omega), (by show 0 ≤ (f 6).toInt; omega), (by show 0 ≤ (f 8).toInt; omega)⟩
            · show 100 * ((f 0).toInt - z246.toInt) + mg_p3 (((35 : Int), on.toInt, (0 : Int), (0 : Int), []) :: gs) < 100 * ((f 0).toInt - (f 4).toInt) + (1 + mg_p3 gs); omega
  · refine am_e13f hi_221_6 (am_cF (m := r2.toInt) (n := (63 : Int)) rfl (by decide) c7) ?_
    refine am_e2 (v := 39) hi_221_9 rfl ?_
    refine am_e32n (as := [.ref 39]) (la := [some (.ref 39)]) (rest := []) hi_221_10 (am_hd0 (M := 221) (by decide) 10) (Nat.le_of_ble_eq_true rfl) (Nat.le_of_ble_eq_true rfl) (show 1 ≤ am_P0.2.2.1 183 from by decide +kernel) rfl (am_recv_ok hS4.fs) rfl rfl (ct_next (d := (d + 4)) hS4   (by show (0 : Int) ≤ (f 4).toInt; omega) (by show (f 0).toInt ≤ (16384 : Int); omega)) ?_
    rintro v259 S260 (⟨r261, hv262, hS263, h264⟩)
    subst hv262
    have h264_ : (f 4).toInt < (f 0).toInt ∨ r261.toInt = (-1 : Int) := h264
    show am_E _ _ _ _ [some (.ref 39), some (.int on), some (.int tw), none] [.int r261] _ _
    refine am_e0 hi_221_13 ?_
    by_cases c266 : r261.toInt = (69 : Int)
    · refine am_e13t hi_221_15 (am_cT (m := r261.toInt) (n := (69 : Int)) rfl (by decide) c266) ?_
      refine am_e2 (v := 39) hi_221_27 rfl ?_
      refine am_e2 (v := 39) hi_221_28 rfl ?_
      refine mm_20 (v := .int (f 4)) hS263 hi_221_29 rfl ?_
      refine am_e0 hi_221_32 ?_
      obtain ⟨z267, hz267, tz267⟩ := am_addI (x := f 4) (y := 1) (m := (f 4).toInt) (n := (1 : Int)) rfl (by decide) (by omega) (by omega)
      refine am_e10 (z := z267) hi_221_33 hz267 ?_
      refine am_e32n (as := [.ref 39, .int z267]) (la := [some (.ref 39), some (.int z267)]) (rest := []) hi_221_34 (am_hd0 (M := 221) (by decide) 34) (Nat.le_of_ble_eq_true rfl) (Nat.le_of_ble_eq_true rfl) (show 2 ≤ am_P0.2.2.1 184 from by decide +kernel) rfl (am_recv_ok hS263.fs) rfl rfl (ct_kindAt (d := (d + 5)) hS263   (by show (0 : Int) ≤ z267.toInt; omega) (by show (f 0).toInt ≤ (16384 : Int); omega)) ?_
      rintro v268 S269 (⟨r270, hv271, hS272, h273⟩)
      subst hv271
      have h273_ : z267.toInt < (f 0).toInt ∨ r270.toInt = (-1 : Int) := h273
      show am_E _ _ _ _ [some (.ref 39), some (.int on), some (.int tw), none] [.int r270] _ _
      refine am_e0 hi_221_37 ?_
      by_cases c275 : ¬ r270.toInt = (63 : Int)
      · refine am_e13t hi_221_39 (am_cT (m := r270.toInt) (n := (63 : Int)) rfl (by decide) c275) ?_
        refine am_e0 hi_221_46 ?_
        refine am_e3 (ls' := [some (.ref 39), some (.int on), some (.int tw), some (.int 0)]) hi_221_47 (Nat.le_of_ble_eq_true rfl) rfl ?_
        refine am_e1 (v := 0) hi_221_48 rfl ?_
        refine am_e12t hi_221_49 (by decide) ?_
        refine am_e2 (v := 39) hi_221_76 rfl ?_
        refine am_e32w (as := [.ref 39]) (la := [some (.ref 39)]) (rest := []) hi_221_77 (am_hd0 (M := 221) (by decide) 77) (Nat.le_of_ble_eq_true rfl) (Nat.le_of_ble_eq_true rfl) (show 1 ≤ am_P0.2.2.1 209 from by decide +kernel) rfl (am_recv_ok hS272.fs) rfl rfl ?_
        refine am_e2 (v := 39) hi_209_0 rfl ?_
        refine am_e32n (as := [.ref 39]) (la := [some (.ref 39), none, none, none]) (rest := []) hi_209_1 (am_hd0 (M := 209) (by decide) 1) (Nat.le_of_ble_eq_true rfl) (Nat.le_of_ble_eq_true rfl) (show 1 ≤ am_P0.2.2.1 204 from by decide +kernel) rfl (am_recv_ok hS272.fs) rfl rfl (ct_load (d := (d + 2)) hS272 hR  (by show (0 : Int) ≤ (f 32).toInt; omega) (by show (f 32).toInt ≤ (63 : Int); omega) (by show (f 53).toInt ≤ (4096 : Int); omega) (by show (0 : Int) ≤ (f 68).toInt; omega) (by show (f 68).toInt ≤ (65534 : Int); omega) (by show (1 : Int) ≤ (f 15).toInt; omega) (by show (f 15).toInt ≤ (32767 : Int); omega) (by show (0 : Int) ≤ (f 24).toInt; omega) (by show (f 24).toInt ≤ (16384 : Int); omega) (by show (0 : Int) ≤ (f 62).toInt; omega) (by show (f 62).toInt ≤ (65000 : Int); omega)) ?_
        rintro v276 S277 (⟨o278, s279, m280, g'281, hv282, hS283, hR290, h284, h285, h286, h287, h288, h289⟩)
        subst hv282
        have h284_ : (f 62).toInt ≤ o278.toInt := h284
        have h285_ : o278.toInt ≤ (f 62).toInt + 64 := h285
        have h286_ : (f 68).toInt ≤ s279.toInt := h286
        have h287_ : s279.toInt ≤ (f 68).toInt + 1 := h287
        have h288_ : o278.toInt + 64 * mj_n (g'281 16) (f 15).toNatClampNeg 3 ≤ (f 62).toInt + 64 * mj_n (g 16) (f 15).toNatClampNeg 3 := h288
        have h289_ : ∀ j, j ∉ [16, 60, 63, 64, 65, 66, 67, 69, 70, 71, 72, 73] → g'281 j = g j := h289
        have hR290_ : RJ (upd (upd (upd f 62 o278) 68 s279) 75 m280) g'281 gs bc [] 0 [] := hR290
        show am_E _ _ _ _ [some (.ref 39)] [] _ _
        refine am_e2 (v := 39) hi_209_4 rfl ?_
        refine am_e7 hi_209_5 ?_
        refine mm_20 (v := .int (f 15)) hS283 hi_209_6 rfl ?_
        refine am_e0 hi_209_9 ?_
        obtain ⟨z291, hz291, tz291⟩ := am_subI (x := f 15) (y := 1) (m := (f 15).toInt) (n := (1 : Int)) rfl (by decide) (by omega) (by omega)
        refine am_e10 (z := z291) hi_209_10 hz291 ?_
        refine mm_21 (v := z291) hS283 hi_209_11 rfl (Nat.le_of_ble_eq_true rfl) ms_15 ?_
        intro S292 hS293
        replace hS293 : MS S0 S292 (upd (upd (upd (upd f 15 z291) 62 o278) 68 s279) 75 m280) g'281 := hS293
        have hp294 : mj_n (g'281 16) (f 15).toNatClampNeg 3 = mj_n (g'281 16) z291.toNatClampNeg 3 + if (g'281 16 z291.toNatClampNeg).toInt = 3 then 1 else 0 := mj_pop (by rw [cl_toNat, cl_toNat]; omega)
        have hp2941 : mj_n (g'281 16) z291.toNatClampNeg 3 ≤ mj_n (g'281 16) (f 15).toNatClampNeg 3 := by rw [hp294]; split <;> omega
        have hp2942 : (g'281 16 z291.toNatClampNeg).toInt = 3 → mj_n (g'281 16) z291.toNatClampNeg 3 + 1 ≤ mj_n (g'281 16) (f 15).toNatClampNeg 3 := fun q => by rw [hp294, if_pos q]; exact Int.le_refl _
        refine am_e35 hi_209_14 ?_
        show am_E _ _ _ _ [some (.ref 39), some (.int on), some (.int tw), some (.int 0)] [] _ _
        refine am_e2 (v := 39) hi_221_80 rfl ?_
        refine am_e0 hi_221_81 ?_
        refine am_e1 (v := on) hi_221_83 rfl ?_
        refine am_e0 hi_221_84 ?_
        refine am_e1 (v := tw) hi_221_85 rfl ?_
        refine am_e32n (as := [.ref 39, .int 23, .int on, .int 0, .int tw]) (la := [some (.ref 39), some (.int 23), some (.int on), some (.int 0), some (.int tw)]) (rest := []) hi_221_86 (am_hd0 (M := 221) (by decide) 86) (Nat.le_of_ble_eq_true rfl) (Nat.le_of_ble_eq_true rfl) (show 5 ≤ am_P0.2.2.1 189 from by decide +kernel) rfl (am_recv_ok hS293.fs) rfl rfl (ct_put (d := (d + 5)) hS293 hR290_  (by show (0 : Int) ≤ (f 32).toInt; omega) (by show (f 32).toInt ≤ (63 : Int); omega) (by show (f 53).toInt ≤ (4096 : Int); omega) (by show (0 : Int) ≤ s279.toInt; omega) (by show s279.toInt ≤ (65534 : Int); omega)) ?_
        rintro v295 S296 (⟨z297, r298, g'299, hv300, hS301, hR305, h302, h303, h304⟩)
        subst hv300
        have h302_ : z297.toInt = s279.toInt + 1 := h302
        have h303_ : r298.toInt = s279.toInt := h303
        have h304_ : ∀ j, j ∉ [60, 69, 70, 71, 72, 73] → g'299 j = g'281 j := h304
        replace hS301 : MS S0 S296 (upd (upd (upd (upd f 15 z291) 62 o278) 68 z297) 75 m280) g'299 := hS301
        have hR305_ : RJ (upd (upd (upd (upd f 15 z291) 62 o278) 68 z297) 75 m280) g'299 gs bc [] 0 (s279.toNatClampNeg :: []) := hR305
        show am_E _ _ _ _ [some (.ref 39), some (.int on), some (.int tw), some (.int 0)] [.int r298] _ _
        refine am_e6i hi_221_89 ?_
        refine am_e2 (v := 39) hi_221_90 rfl ?_
        refine am_e1 (v := on) hi_221_91 rfl ?_
        refine am_e32w (as := [.ref 39, .int on]) (la := [some (.ref 39), some (.int on)]) (rest := []) hi_221_92 (am_hd0 (M := 221) (by decide) 92) (Nat.le_of_ble_eq_true rfl) (Nat.le_of_ble_eq_true rfl) (show 2 ≤ am_P0.2.2.1 220 from by decide +kernel) rfl (am_recv_ok hS301.fs) rfl rfl ?_
        refine am_e2 (v := 39) hi_220_0 rfl ?_
        refine am_e32n (as := [.ref 39]) (la := [some (.ref 39)]) (rest := []) hi_220_1 (am_hd0 (M := 220) (by decide) 1) (Nat.le_of_ble_eq_true rfl) (Nat.le_of_ble_eq_true rfl) (show 1 ≤ am_P0.2.2.1 183 from by decide +kernel) rfl (am_recv_ok hS301.fs) rfl rfl (ct_next (d := (d + 3)) hS301   (by show (0 : Int) ≤ (f 4).toInt; omega) (by show (f 0).toInt ≤ (16384 : Int); omega)) ?_
        rintro v306 S307 (⟨r308, hv309, hS310, h311⟩)
        subst hv309
        have h311_ : (f 4).toInt < (f 0).toInt ∨ r308.toInt = (-1 : Int) := h311
        show am_E _ _ _ _ [some (.ref 39), some (.int on)] [.int r308] _ _
        refine am_e0 hi_220_4 ?_
        by_cases c313 : r308.toInt = (69 : Int)
        · refine am_e13t hi_220_6 (am_cT (m := r308.toInt) (n := (69 : Int)) rfl (by decide) c313) ?_
          refine am_e2 (v := 39) hi_220_18 rfl ?_
          refine am_e7 hi_220_19 ?_
          refine mm_20 (v := .int (f 4)) hS310 hi_220_20 rfl ?_
          refine am_e0 hi_220_23 ?_
          refine am_e10 (z := z267) hi_220_24 hz267 ?_
          refine mm_21 (v := z267) hS310 hi_220_25 rfl (Nat.le_of_ble_eq_true rfl) ms_4 ?_
          intro S314 hS315
          replace hS315 : MS S0 S314 (upd (upd (upd (upd (upd f 4 z267) 15 z291) 62 o278) 68 z297) 75 m280) g'299 := hS315
          have hR316 : RJ (upd (upd (upd (upd (upd f 4 z267) 15 z291) 62 o278) 68 z297) 75 m280) g'299 gs bc [] 0 (s279.toNatClampNeg :: []) := RJ.at hR305_ (by show (f 4).toInt ≤ z267.toInt; omega)
          refine am_e2 (v := 39) hi_220_28 rfl ?_
          refine am_e0 hi_220_29 ?_
          refine am_e1 (v := on) hi_220_31 rfl ?_
          refine am_e0 hi_220_32 ?_
          refine am_e0 hi_220_33 ?_
          refine am_e32n (as := [.ref 39, .int 35, .int on, .int 0, .int 0]) (la := [some (.ref 39), some (.int 35), some (.int on), some (.int 0), some (.int 0)]) (rest := []) hi_220_34 (am_hd0 (M := 220) (by decide) 34) (Nat.le_of_ble_eq_true rfl) (Nat.le_of_ble_eq_true rfl) (show 5 ≤ am_P0.2.2.1 179 from by decide +kernel) rfl (am_recv_ok hS315.fs) rfl rfl (ct_pile (d := (d + 4)) hS315 hR316 (mj_e_plain (by decide)) (by show (0 : Int) ≤ (f 10).toInt; omega) (by show (f 10).toInt ≤ (65535 : Int); omega)) ?_
          rintro v317 S318 (⟨z319, g'320, hv321, hS322, hR325, h323, h324⟩)
          subst hv321
          have h323_ : z319.toInt = (f 10).toInt + 1 := h323
          have h324_ : ∀ j, j ∉ [11, 12, 13, 14] → g'320 j = g'299 j := h324
          replace hS322 : MS S0 S318 (upd (upd (upd (upd (upd (upd f 4 z267) 10 z319) 15 z291) 62 o278) 68 z297) 75 m280) g'320 := hS322
          have hR325_ : RJ (upd (upd (upd (upd (upd (upd f 4 z267) 10 z319) 15 z291) 62 o278) 68 z297) 75 m280) g'320 (((35 : Int), on.toInt, (0 : Int), (0 : Int), []) :: gs) bc [] 0 (s279.toNatClampNeg :: []) := hR325
          show am_E _ _ _ _ [some (.ref 39), some (.int on)] [] _ _
          refine am_e18 hi_220_37 ?_
          refine am_e35 hi_220_47 ?_
          show am_E _ _ _ _ [some (.ref 39), some (.int on), some (.int tw), some (.int 0)] [] _ _
          refine am_e35 hi_221_95 ?_
          show am_E _ _ _ _ [some (.ref 39), some (.int 39), some (.int on), some (.int tw)] [] _ _
          refine am_e18 hi_181_366 ?_
          refine am_e35 hi_181_397 ?_
          show am_E _ _ _ _ [some (.ref 39), some (.int 39), some (.int on), some (.int tw), some (.int th)] [] _ _
          refine am_e35 hi_180_13 ?_
          have q1 : mg_p1 (((35 : Int), on.toInt, (0 : Int), (0 : Int), []) :: gs) = 0 + (mg_p1 gs) := rfl
          have q2 : mg_p2 (((35 : Int), on.toInt, (0 : Int), (0 : Int), []) :: gs) = 0 + (mg_p2 gs) := rfl
          have q3 : mg_p3 (((35 : Int), on.toInt, (0 : Int), (0 : Int), []) :: gs) = 3 + (mg_p3 gs) := rfl
          have q4 : mg_p4 (((35 : Int), on.toInt, (0 : Int), (0 : Int), []) :: gs) = 0 + (mg_p4 gs) := rfl
          refine ⟨_, _, _, bc, rfl, hS322, Or.inl ⟨⟨(RJ.fewer (pj' := []) hR325_ (fun _ h => nomatch h)), ?_, ?_⟩, rfl, ?_⟩⟩
          · exact (⟨⟨(show mg_k 35 from by decide), (show (0 : Int) ≤ z291.toInt from by omega), (show 0 ≤ (f 20).toInt from by omega), (show 1 ≤ (f 37).toInt from by omega), (show 0 ≤ (f 32).toInt from by omega), (show (f 32).toInt ≤ (f 5).toInt from by omega), (show (f 5).toInt ≤ 48 from by omega), (show (f 37).toInt ≤ 2 * ((f 5).toInt) + 2 from by omega), trivial⟩, mg_cast (mg_good_ext _ _ _ _ _ _ (fun i _ => by show g'320 34 i = g 34 i; rw [show g'320 34 = g'299 34 from h324_ 34 (by decide), show g'299 34 = g'281 34 from h304_ 34 (by decide), show g'281 34 = g 34 from h289_ 34 (by decide)]) (fun i _ => by show g'320 38 i = g 38 i; rw [show g'320 38 = g'299 38 from h324_ 38 (by decide), show g'299 38 = g'281 38 from h304_ 38 (by decide), show g'281 38 = g 38 from h289_ 38 (by decide)]) (fun i _ => by show g'320 23 i = g 23 i; rw [show g'320 23 = g'299 23 from h324_ 23 (by decide), show g'299 23 = g'281 23 from h304_ 23 (by decide), show g'281 23 = g 23 from h289_ 23 (by decide)]) hrest) (by show (f 15).toInt + -1 = z291.toInt + 0; omega) (by show (f 20).toInt = (f 20).toInt; omega) (by show (f 37).toInt + 0 = (f 37).toInt + 0; omega) (by show (f 32).toInt + 0 = (f 32).toInt + 0; omega) (by show (f 5).toInt + -1 = (f 5).toInt + -1; omega)⟩ : mg_good (g'320 34) (g'320 38) (g'320 23) (((35 : Int), on.toInt, (0 : Int), (0 : Int), []) :: gs) (z291.toInt) ((f 20).toInt) ((f 37).toInt) ((f 32).toInt) ((f 5).toInt))
          · exact ⟨(by show 0 ≤ z267.toInt; omega), (by show z267.toInt ≤ (f 0).toInt; omega), (by show (f 0).toInt ≤ 512; omega), (by show 0 ≤ (f 24).toInt; omega), (by show (f 24).toInt + (f 20).toInt + mg_p1 (((35 : Int), on.toInt, (0 : Int), (0 : Int), []) :: gs) ≤ 4 * z267.toInt; omega), (by show (f 20).toInt ≤ z267.toInt; omega), (by show z291.toInt + mg_p2 (((35 : Int), on.toInt, (0 : Int), (0 : Int), []) :: gs) ≤ z267.toInt; omega), (by show mg_p3 (((35 : Int), on.toInt, (0 : Int), (0 : Int), []) :: gs) ≤ 20 * z267.toInt + 20; omega), (by show 0 ≤ z297.toInt; omega), (by show z297.toInt + 3 * (f 20).toInt + mg_p4 (((35 : Int), on.toInt, (0 : Int), (0 : Int), []) :: gs) ≤ 60 * z267.toInt + 60; omega), (by show 0 ≤ o278.toInt; omega), (by show o278.toInt + 64 * mj_n (g'320 16) z291.toNatClampNeg 3 ≤ 64 * z267.toInt; rw [show g'320 16 = g'299 16 from h324_ 16 (by decide), show g'299 16 = g'281 16 from h304_ 16 (by decide)]; omega), (by show 0 ≤ (f 44).toInt; omega), (by show (f 44).toInt ≤ z267.toInt; omega), (by show 0 ≤ (f 48).toInt; omega), (by show (f 48).toInt ≤ z267.toInt; omega), (by show 1 ≤ (f 53).toInt; omega), (by show (f 53).toInt ≤ z267.toInt + 1; omega), (by show 0 ≤ (f 19).toInt; omega), (by show (f 19).toInt ≤ 600; omega), (by show 0 ≤ (f 6).toInt; omega), (by show 0 ≤ (f 8).toInt; omega)⟩
          · show 100 * ((f 0).toInt - z267.toInt) + mg_p3 (((35 : Int), on.toInt, (0 : Int), (0 : Int), []) :: gs) < 100 * ((f 0).toInt - (f 4).toInt) + (1 + mg_p3 gs); omega
        · refine am_e13f hi_220_6 (am_cF (m := r308.toInt) (n := (69 : Int)) rfl (by decide) c313) ?_
          refine am_e2 (v := 39) hi_220_9 rfl ?_
          refine am_e32n (as := [.ref 39]) (la := [some (.ref 39)]) (rest := []) hi_220_10 (am_hd0 (M := 220) (by decide) 10) (Nat.le_of_ble_eq_true rfl) (Nat.le_of_ble_eq_true rfl) (show 1 ≤ am_P0.2.2.1 183 from by decide +kernel) rfl (am_recv_ok hS310.fs) rfl rfl (ct_next (d := (d + 3)) hS310   (by show (0 : Int) ≤ (f 4).toInt; omega) (by show (f 0).toInt ≤ (16384 : Int); omega)) ?_
          rintro v326 S327 (⟨r328, hv329, hS330, h331⟩)
          subst hv329
          have h331_ : (f 4).toInt < (f 0).toInt ∨ r328.toInt = (-1 : Int) := h331
          show am_E _ _ _ _ [some (.ref 39), some (.int on)] [.int r328] _ _
          refine am_e0 hi_220_13 ?_
          by_cases c333 : ¬ r328.toInt = (67 : Int)
          · refine am_e13t hi_220_15 (am_cT (m := r328.toInt) (n := (67 : Int)) rfl (by decide) c333) ?_
            refine am_e2 (v := 39) hi_220_40 rfl ?_
            refine am_e0 hi_220_41 ?_
            refine am_e32n (as := [.ref 39, .int 63]) (la := [some (.ref 39), some (.int 63)]) (rest := []) hi_220_43 (am_hd0 (M := 220) (by decide) 43) (Nat.le_of_ble_eq_true rfl) (Nat.le_of_ble_eq_true rfl) (show 2 ≤ am_P0.2.2.1 199 from by decide +kernel) rfl (am_recv_ok hS330.fs) rfl rfl (ct_leave (d := (d + 1)) hS330   (by show (0 : Int) ≤ (f 4).toInt; omega) (by show (f 0).toInt ≤ (16384 : Int); omega) (by show (0 : Int) ≤ (63 : Int); omega) (by show (0 : Int) ≤ (f 5).toInt; omega) (by show (f 5).toInt ≤ (48 : Int); omega) (by show (0 : Int) ≤ (f 6).toInt; omega)) ?_
            rintro v334 S335 (⟨z336, y337, hv338, hS339, h340, h341, h342⟩ | ⟨a344, b345, hv346, hS347, h348⟩)
            · subst hv338
              have h340_ : z336.toInt = (f 4).toInt + 1 := h340
              have h341_ : (f 4).toInt < (f 0).toInt := h341
              have h342_ : y337.toInt = (f 5).toInt - 1 := h342
              replace hS339 : MS S0 S335 (upd (upd (upd (upd (upd (upd f 4 z336) 5 y337) 15 z291) 62 o278) 68 z297) 75 m280) g'299 := hS339
              have hR350 : RJ (upd (upd (upd (upd (upd (upd f 4 z336) 5 y337) 15 z291) 62 o278) 68 z297) 75 m280) g'299 gs bc [] 0 (s279.toNatClampNeg :: []) := RJ.at hR305_ (by show (f 4).toInt ≤ z336.toInt; omega)
              show am_E _ _ _ _ [some (.ref 39), some (.int on)] [.int 1] _ _
              refine am_e6i hi_220_46 ?_
              refine am_e35 hi_220_47 ?_
              show am_E _ _ _ _ [some (.ref 39), some (.int on), some (.int tw), some (.int 0)] [] _ _
              refine am_e35 hi_221_95 ?_
              show am_E _ _ _ _ [some (.ref 39), some (.int 39), some (.int on), some (.int tw)] [] _ _
              refine am_e18 hi_181_366 ?_
              refine am_e35 hi_181_397 ?_
              show am_E _ _ _ _ [some (.ref 39), some (.int 39), some (.int on), some (.int tw), some (.int th)] [] _ _
              refine am_e35 hi_180_13 ?_
              have q1 : mg_p1 gs = mg_p1 gs := rfl
              have q2 : mg_p2 gs = mg_p2 gs := rfl
              have q3 : mg_p3 gs = mg_p3 gs := rfl
              have q4 : mg_p4 gs = mg_p4 gs := rfl
              refine ⟨_, _, _, bc, rfl, hS339, Or.inl ⟨⟨(RJ.fewer (pj' := []) hR350 (fun _ h => nomatch h)), ?_, ?_⟩, rfl, ?_⟩⟩
              · exact (mg_cast (mg_good_ext _ _ _ _ _ _ (fun i _ => by show g'299 34 i = g 34 i; rw [show g'299 34 = g'281 34 from h304_ 34 (by decide), show g'281 34 = g 34 from h289_ 34 (by decide)]) (fun i _ => by show g'299 38 i = g 38 i; rw [show g'299 38 = g'281 38 from h304_ 38 (by decide), show g'281 38 = g 38 from h289_ 38 (by decide)]) (fun i _ => by show g'299 23 i = g 23 i; rw [show g'299 23 = g'281 23 from h304_ 23 (by decide), show g'281 23 = g 23 from h289_ 23 (by decide)]) hrest) (by show (f 15).toInt + -1 = z291.toInt; omega) (by show (f 20).toInt = (f 20).toInt; omega) (by show (f 37).toInt + 0 = (f 37).toInt; omega) (by show (f 32).toInt + 0 = (f 32).toInt; omega) (by show (f 5).toInt + -1 = y337.toInt; omega) : mg_good (g'299 34) (g'299 38) (g'299 23) gs (z291.toInt) ((f 20).toInt) ((f 37).toInt) ((f 32).toInt) (y337.toInt))
              · exact ⟨(by show 0 ≤ z336.toInt; omega), (by show z336.toInt ≤ (f 0).toInt; omega), (by show (f 0).toInt ≤ 512; omega), (by show 0 ≤ (f 24).toInt; omega), (by show (f 24).toInt + (f 20).toInt + mg_p1 gs ≤ 4 * z336.toInt; omega), (by show (f 20).toInt ≤ z336.toInt; omega), (by show z291.toInt + mg_p2 gs ≤ z336.toInt; omega), (by show mg_p3 gs ≤ 20 * z336.toInt + 20; omega), (by show 0 ≤ z297.toInt; omega), (by show z297.toInt + 3 * (f 20).toInt + mg_p4 gs ≤ 60 * z336.toInt + 60; omega), (by show 0 ≤ o278.toInt; omega), (by show o278.toInt + 64 * mj_n (g'299 16) z291.toNatClampNeg 3 ≤ 64 * z336.toInt; rw [show g'299 16 = g'281 16 from h304_ 16 (by decide)]; omega), (by show 0 ≤ (f 44).toInt; omega), (by show (f 44).toInt ≤ z336.toInt; omega), (by show 0 ≤ (f 48).toInt; omega), (by show (f 48).toInt ≤ z336.toInt; omega), (by show 1 ≤ (f 53).toInt; omega), (by show (f 53).toInt ≤ z336.toInt + 1; omega), (by show 0 ≤ (f 19).toInt; omega), (by show (f 19).toInt ≤ 600; omega), (by show 0 ≤ (f 6).toInt; omega), (by show 0 ≤ (f 8).toInt; omega)⟩
              · show 100 * ((f 0).toInt - z336.toInt) + mg_p3 gs < 100 * ((f 0).toInt - (f 4).toInt) + (1 + mg_p3 gs); omega
            · subst hv346
              have h348_ : (0 : Int) ≤ a344.toInt := h348
              replace hS347 : MS S0 S335 (upd (upd (upd (upd (upd (upd (upd f 6 a344) 7 b345) 10 0) 15 z291) 62 o278) 68 z297) 75 m280) g'299 := hS347
              have hR351 := rj_clear0 hR305_
              have hR352 : RJ (upd (upd (upd (upd (upd (upd (upd f 6 a344) 7 b345) 10 0) 15 z291) 62 o278) 68 z297) 75 m280) g'299 [] bc [] 0 [] := hR351
              show am_E _ _ _ _ [some (.ref 39), some (.int on)] [.int 0] _ _
              refine am_e6i hi_220_46 ?_
              refine am_e35 hi_220_47 ?_
              show am_E _ _ _ _ [some (.ref 39), some (.int on), some (.int tw), some (.int 0)] [] _ _
              refine am_e35 hi_221_95 ?_
              show am_E _ _ _ _ [some (.ref 39), some (.int 39), some (.int on), some (.int tw)] [] _ _
              refine am_e18 hi_181_366 ?_
              refine am_e35 hi_181_397 ?_
              show am_E _ _ _ _ [some (.ref 39), some (.int 39), some (.int on), some (.int tw), some (.int th)] [] _ _
              refine am_e35 hi_180_13 ?_
              have hRc := rj_clear0 hR352
              refine ⟨_, _, [], _, rfl, hS347, Or.inr ⟨hRc, rfl, (by show 0 ≤ (f 4).toInt; omega), (by show (f 4).toInt ≤ (f 0).toInt; omega), (by show 0 ≤ (f 32).toInt; omega), (by show (f 32).toInt ≤ 63; omega), (by show 1 ≤ (f 53).toInt; omega), (by show (f 53).toInt ≤ 600; omega), (by show 0 ≤ z297.toInt; omega), (by show z297.toInt ≤ 60000; omega), (by show 0 ≤ (f 48).toInt; omega), (by show (f 48).toInt ≤ 8000; omega), (by show 0 ≤ (f 37).toInt; omega), (by show (f 37).toInt ≤ 128; omega), (by show 0 ≤ o278.toInt; omega), (by show o278.toInt ≤ 65000; omega), (by show 0 ≤ (f 19).toInt; omega), (by show (f 19).toInt ≤ 600; omega), (by show 0 ≤ a344.toInt; omega), (by show 0 ≤ (f 8).toInt; omega)⟩⟩
          · refine am_e13f hi_220_15 (am_cF (m := r328.toInt) (n := (67 : Int)) rfl (by decide) c333) ?_
            refine am_e2 (v := 39) hi_220_18 rfl ?_
            refine am_e7 hi_220_19 ?_
            refine mm_20 (v := .int (f 4)) hS330 hi_220_20 rfl ?_
            refine am_e0 hi_220_23 ?_
            refine am_e10 (z := z267) hi_220_24 hz267 ?_
            refine mm_21 (v := z267) hS330 hi_220_25 rfl (Nat.le_of_ble_eq_true rfl) ms_4 ?_
            intro S353 hS354
            replace hS354 : MS S0 S353 (upd (upd (upd (upd (upd f 4 z267) 15 z291) 62 o278) 68 z297) 75 m280) g'299 := hS354
            have hR355 : RJ (upd (upd (upd (upd (upd f 4 z267) 15 z291) 62 o278) 68 z297) 75 m280) g'299 gs bc [] 0 (s279.toNatClampNeg :: []) := RJ.at hR305_ (by show (f 4).toInt ≤ z267.toInt; omega)
            refine am_e2 (v := 39) hi_220_28 rfl ?_
            refine am_e0 hi_220_29 ?_
            refine am_e1 (v := on) hi_220_31 rfl ?_
            refine am_e0 hi_220_32 ?_
            refine am_e0 hi_220_33 ?_
            refine am_e32n (as := [.ref 39, .int 35, .int on, .int 0, .int 0]) (la := [some (.ref 39), some (.int 35), some (.int on), some (.int 0), some (.int 0)]) (rest := []) hi_220_34 (am_hd0 (M := 220) (by decide) 34) (Nat.le_of_ble_eq_true rfl) (Nat.le_of_ble_eq_true rfl) (show 5 ≤ am_P0.2.2.1 179 from by decide +kernel) rfl (am_recv_ok hS354.fs) rfl rfl (ct_pile (d := (d + 4)) hS354 hR355 (mj_e_plain (by decide)) (by show (0 : Int) ≤ (f 10).toInt; omega) (by show (f 10).toInt ≤ (65535 : Int); omega)) ?_
            rintro v356 S357 (⟨z358, g'359, hv360, hS361, hR364, h362, h363⟩)
            subst hv360
            have h362_ : z358.toInt = (f 10).toInt + 1 := h362
            have h363_ : ∀ j, j ∉ [11, 12, 13, 14] → g'359 j = g'299 j := h363
            replace hS361 : MS S0 S357 (upd (upd (upd (upd (upd (upd f 4 z267) 10 z358) 15 z291) 62 o278) 68 z297) 75 m280) g'359 := hS361
            have hR364_ : RJ (upd (upd (upd (upd (upd (upd f 4 z267) 10 z358) 15 z291) 62 o278) 68 z297) 75 m280) g'359 (((35 : Int), on.toInt, (0 : Int), (0 : Int), []) :: gs) bc [] 0 (s279.toNatClampNeg :: []) := hR364
            show am_E _ _ _ _ [some (.ref 39), some (.int on)] [] _ _
            refine am_e18 hi_220_37 ?_
            refine am_e35 hi_220_47 ?_
            show am_E _ _ _ _ [some (.ref 39), some (.int on), some (.int tw), some (.int 0)] [] _ _
            refine am_e35 hi_221_95 ?_
            show am_E _ _ _ _ [some (.ref 39), some (.int 39), some (.int on), some (.int tw)] [] _ _
            refine am_e18 hi_181_366 ?_
            refine am_e35 hi_181_397 ?_
            show am_E _ _ _ _ [some (.ref 39), some (.int 39), some (.int on), some (.int tw), some (.int th)] [] _ _
            refine am_e35 hi_180_13 ?_
            have q1 : mg_p1 (((35 : Int), on.toInt, (0 : Int), (0 : Int), []) :: gs) = 0 + (mg_p1 gs) := rfl
            have q2 : mg_p2 (((35 : Int), on.toInt, (0 : Int), (0 : Int), []) :: gs) = 0 + (mg_p2 gs) := rfl
            have q3 : mg_p3 (((35 : Int), on.toInt, (0 : Int), (0 : Int), []) :: gs) = 3 + (mg_p3 gs) := rfl
            have q4 : mg_p4 (((35 : Int), on.toInt, (0 : Int), (0 : Int), []) :: gs) = 0 + (mg_p4 gs) := rfl
            refine ⟨_, _, _, bc, rfl, hS361, Or.inl ⟨⟨(RJ.fewer (pj' := []) hR364_ (fun _ h => nomatch h)), ?_, ?_⟩, rfl, ?_⟩⟩
            · exact (⟨⟨(show mg_k 35 from by decide), (show (0 : Int) ≤ z291.toInt from by omega), (show 0 ≤ (f 20).toInt from by omega), (show 1 ≤ (f 37).toInt from by omega), (show 0 ≤ (f 32).toInt from by omega), (show (f 32).toInt ≤ (f 5).toInt from by omega), (show (f 5).toInt ≤ 48 from by omega), (show (f 37).toInt ≤ 2 * ((f 5).toInt) + 2 from by omega), trivial⟩, mg_cast (mg_good_ext _ _ _ _ _ _ (fun i _ => by show g'359 34 i = g 34 i; rw [show g'359 34 = g'299 34 from h363_ 34 (by decide), show g'299 34 = g'281 34 from h304_ 34 (by decide), show g'281 34 = g 34 from h289_ 34 (by decide)]) (fun i _ => by show g'359 38 i = g 38 i; rw [show g'359 38 = g'299 38 from h363_ 38 (by decide), show g'299 38 = g'281 38 from h304_ 38 (by decide), show g'281 38 = g 38 from h289_ 38 (by decide)]) (fun i _ => by show g'359 23 i = g 23 i; rw [show g'359 23 = g'299 23 from h363_ 23 (by decide), show g'299 23 = g'281 23 from h304_ 23 (by decide), show g'281 23 = g 23 from h289_ 23 (by decide)]) hrest) (by show (f 15).toInt + -1 = z291.toInt + 0; omega) (by show (f 20).toInt = (f 20).toInt; omega) (by show (f 37).toInt + 0 = (f 37).toInt + 0; omega) (by show (f 32).toInt + 0 = (f 32).toInt + 0; omega) (by show (f 5).toInt + -1 = (f 5).toInt + -1; omega)⟩ : mg_good (g'359 34) (g'359 38) (g'359 23) (((35 : Int), on.toInt, (0 : Int), (0 : Int), []) :: gs) (z291.toInt) ((f 20).toInt) ((f 37).toInt) ((f 32).toInt) ((f 5).toInt))
            · exact ⟨(by show 0 ≤ z267.toInt; omega), (by show z267.toInt ≤ (f 0).toInt; omega), (by show (f 0).toInt ≤ 512; omega), (by show 0 ≤ (f 24).toInt; omega), (by show (f 24).toInt + (f 20).toInt + mg_p1 (((35 : Int), on.toInt, (0 : Int), (0 : Int), []) :: gs) ≤ 4 * z267.toInt; omega), (by show (f 20).toInt ≤ z267.toInt; omega), (by show z291.toInt + mg_p2 (((35 : Int), on.toInt, (0 : Int), (0 : Int), []) :: gs) ≤ z267.toInt; omega), (by show mg_p3 (((35 : Int), on.toInt, (0 : Int), (0 : Int), []) :: gs) ≤ 20 * z267.toInt + 20; omega), (by show 0 ≤ z297.toInt; omega), (by show z297.toInt + 3 * (f 20).toInt + mg_p4 (((35 : Int), on.toInt, (0 : Int), (0 : Int), []) :: gs) ≤ 60 * z267.toInt + 60; omega), (by show 0 ≤ o278.toInt; omega), (by show o278.toInt + 64 * mj_n (g'359 16) z291.toNatClampNeg 3 ≤ 64 * z267.toInt; rw [show g'359 16 = g'299 16 from h363_ 16 (by decide), show g'299 16 = g'281 16 from h304_ 16 (by decide)]; omega), (by show 0 ≤ (f 44).toInt; omega), (by show (f 44).toInt ≤ z267.toInt; omega), (by show 0 ≤ (f 48).toInt; omega), (by show (f 48).toInt ≤ z267.toInt; omega), (by show 1 ≤ (f 53).toInt; omega), (by show (f 53).toInt ≤ z267.toInt + 1; omega), (by show 0 ≤ (f 19).toInt; omega), (by show (f 19).toInt ≤ 600; omega), (by show 0 ≤ (f 6).toInt; omega), (by show 0 ≤ (f 8).toInt; omega)⟩
            · show 100 * ((f 0).toInt - z267.toInt) + mg_p3 (((35 : Int), on.toInt, (0 : Int), (0 : Int), []) :: gs) < 100 * ((f 0).toInt - (f 4).toInt) + (1 + mg_p3 gs); omega
      · refine am_e13f hi_221_39 (am_cF (m := r270.toInt) (n := (63 : Int)) rfl (by decide) c275) ?_
        refine am_e0 hi_221_42 ?_
        refine am_e18 hi_221_43 ?_
        refine am_e3 (ls' := [some (.ref 39), some (.int on), some (.int tw), some (.int 1)]) hi_221_47 (Nat.le_of_ble_eq_true rfl) rfl ?_
        refine am_e1 (v := 1) hi_221_48 rfl ?_
        refine am_e12f hi_221_49 (by decide) ?_
        refine am_e2 (v := 39) hi_221_52 rfl ?_
        refine am_e32w (as := [.ref 39]) (la := [some (.ref 39)]) (rest := []) hi_221_53 (am_hd0 (M := 221) (by decide) 53) (Nat.le_of_ble_eq_true rfl) (Nat.le_of_ble_eq_true rfl) (show 1 ≤ am_P0.2.2.1 216 from by decide +kernel) rfl (am_recv_ok hS272.fs) rfl rfl ?_
        refine am_e2 (v := 39) hi_216_0 rfl ?_
        refine mm_20 (v := .ref 46) hS272 hi_216_1 rfl ?_
        refine am_e2 (v := 39) hi_216_4 rfl ?_
        refine mm_20 (v := .int (f 15)) hS272 hi_216_5 rfl ?_
        refine am_e0 hi_216_8 ?_
        obtain ⟨z365, hz365, tz365⟩ := am_subI (x := f 15) (y := 1) (m := (f 15).toInt) (n := (1 : Int)) rfl (by decide) (by omega) (by omega)
        refine am_e10 (z := z365) hi_216_9 hz365 ?_
        refine mm_25 hS272 ma_16 hi_216_10 (by decide) (by omega) (by omega) ?_
        show am_E _ _ _ _ [some (.ref 39)] [.int (g 16 z365.toNatClampNeg)] _ _
        refine am_e0 hi_216_11 ?_
        by_cases c366 : (g 16 z365.toNatClampNeg).toInt = (1 : Int)
        · refine am_e13t hi_216_12 (am_cT (m := (g 16 z365.toNatClampNeg).toInt) (n := (1 : Int)) rfl (by decide) c366) ?_
          refine am_e0 hi_216_30 ?_
          refine am_e18 hi_216_31 ?_
          refine am_e36 hi_216_35 (by decide) ?_
          show am_E _ _ _ _ [some (.ref 39), some (.int on), some (.int tw), some (.int 1)] [.int 1] _ _
          refine am_e12f hi_221_56 (by decide) ?_
          refine am_e2 (v := 39) hi_221_59 rfl ?_
          refine am_e32w (as := [.ref 39]) (la := [some (.ref 39), none]) (rest := []) hi_221_60 (am_hd0 (M := 221) (by decide) 60) (Nat.le_of_ble_eq_true rfl) (Nat.le_of_ble_eq_true rfl) (show 1 ≤ am_P0.2.2.1 217 from by decide +kernel) rfl (am_recv_ok hS272.fs) rfl rfl ?_
          refine am_e2 (v := 39) hi_217_0 rfl ?_
          refine mm_20 (v := .ref 47) hS272 hi_217_1 rfl ?_
          refine am_e2 (v := 39) hi_217_4 rfl ?_
          refine mm_20 (v := .int (f 15)) hS272 hi_217_5 rfl ?_
          refine am_e0 hi_217_8 ?_
          refine am_e10 (z := z365) hi_217_9 hz365 ?_
          refine mm_25 hS272 ma_17 hi_217_10 (by decide) (by omega) (by omega) ?_
          show am_E _ _ _ _ [some (.ref 39), none] [.int (g 17 z365.toNatClampNeg)] _ _
          have r367 : (g 16 z365.toNatClampNeg).toInt = 1 ∨ (g 16 z365.toNatClampNeg).toInt = 2 → 0 ≤ (g 17 z365.toNatClampNeg).toInt ∧ (g 17 z365.toNatClampNeg).toInt < 65536 := RJ.vc hR z365.toNatClampNeg
          refine am_e3 (ls' := [some (.ref 39), some (.int (g 17 z365.toNatClampNeg))]) hi_217_11 (Nat.le_of_ble_eq_true rfl) rfl ?_
          refine am_e2 (v := 39) hi_217_12 rfl ?_
          refine mm_20 (v := .ref 91) hS272 hi_217_13 rfl ?_
          refine am_e1 (v := g 17 z365.toNatClampNeg) hi_217_16 rfl ?_
          refine am_e2 (v := 39) hi_217_17 rfl ?_
          refine mm_20 (v := .ref 46) hS272 hi_217_18 rfl ?_
          refine am_e2 (v := 39) hi_217_21 rfl ?_
          refine mm_20 (v := .int (f 15)) hS272 hi_217_22 rfl ?_
          refine am_e0 hi_217_25 ?_
          refine am_e10 (z := z365) hi_217_26 hz365 ?_
          refine mm_25 hS272 ma_16 hi_217_27 (by decide) (by omega) (by omega) ?_
          show am_E _ _ _ _ [some (.ref 39), some (.int (g 17 z365.toNatClampNeg))] [.int (g 16 z365.toNatClampNeg), .int (g 17 z365.toNatClampNeg), .ref 91] _ _
          refine am_e0 hi_217_28 ?_
          refine am_e13f hi_217_29 (am_cF (m := (g 16 z365.toNatClampNeg).toInt) (n := (1 : Int)) rfl (by decide) (by simp only [am_cI]; omega)) ?_
          refine am_e2 (v := 39) hi_217_32 rfl ?_
          refine mm_20 (v := .ref 91) hS272 hi_217_33 rfl ?_
          refine am_e1 (v := g 17 z365.toNatClampNeg) hi_217_36 rfl ?_
          refine mm_25 hS272 ma_72 hi_217_37 (by decide) (by omega) (by omega) ?_
          show am_E _ _ _ _ [some (.ref 39), some (.int (g 17 z365.toNatClampNeg))] [.int (g 72 (g 17 z365.toNatClampNeg).toNatClampNeg), .int (g 17 z365.toNatClampNeg), .ref 91] _ _
          refine am_e0 hi_217_38 ?_
          obtain ⟨z368, hz368⟩ : ∃ q__, am_bin 3 (g 72 (g 17 z365.toNatClampNeg).toNatClampNeg) 1 = q__ := ⟨_, rfl⟩
          refine am_e10 (z := z368) hi_217_39 hz368 ?_
          refine am_e0 hi_217_40 ?_
          obtain ⟨z369, hz369⟩ : ∃ q__, am_bin 4 z368 4 = q__ := ⟨_, rfl⟩
          refine am_e10 (z := z369) hi_217_41 hz369 ?_
          refine am_e18 hi_217_42 ?_
          refine mm_26 hS272 ma_72 hi_217_46 (by decide) (by omega) (by omega) (fun h => nomatch h) ?_
          intro S370 hS371
          refine am_e2 (v := 39) hi_217_47 rfl ?_
          refine am_e7 hi_217_48 ?_
          refine mm_20 (v := .int (f 15)) hS371 hi_217_49 rfl ?_
          refine am_e0 hi_217_52 ?_
          refine am_e10 (z := z365) hi_217_53 hz365 ?_
          refine mm_21 (v := z365) hS371 hi_217_54 rfl (Nat.le_of_ble_eq_true rfl) ms_15 ?_
          intro S372 hS373
          have hp374 : mj_n (g 16) (f 15).toNatClampNeg 3 = mj_n (g 16) z365.toNatClampNeg 3 + if (g 16 z365.toNatClampNeg).toInt = 3 then 1 else 0 := mj_pop (by rw [cl_toNat, cl_toNat]; omega)
          have hp3741 : mj_n (g 16) z365.toNatClampNeg 3 ≤ mj_n (g 16) (f 15).toNatClampNeg 3 := by rw [hp374]; split <;> omega
          have hp3742 : (g 16 z365.toNatClampNeg).toInt = 3 → mj_n (g 16) z365.toNatClampNeg 3 + 1 ≤ mj_n (g 16) (f 15).toNatClampNeg 3 := fun q => by rw [hp374, if_pos q]; exact Int.le_refl _
          refine am_e35 hi_217_57 ?_
          show am_E _ _ _ _ [some (.ref 39), some (.int on), some (.int tw), some (.int 1)] [] _ _
          refine am_e2 (v := 39) hi_221_63 rfl ?_
          refine am_e0 hi_221_64 ?_
          refine am_e1 (v := on) hi_221_66 rfl ?_
          refine am_e0 hi_221_67 ?_
          refine am_e1 (v := tw) hi_221_68 rfl ?_
          refine am_e32n (as := [.ref 39, .int 24, .int on, .int 0, .int tw]) (la := [some (.ref 39), some (.int 24), some (.int on), some (.int 0), some (.int tw)]) (rest := []) hi_221_69 (am_hd0 (M := 221) (by decide) 69) (Nat.le_of_ble_eq_true rfl) (Nat.le_of_ble_eq_true rfl) (show 5 ≤ am_P0.2.2.1 189 from by decide +kernel) rfl (am_recv_ok hS373.fs) rfl rfl (ct_put (d := (d + 5)) hS373 hR  (by show (0 : Int) ≤ (f 32).toInt; omega) (by show (f 32).toInt ≤ (63 : Int); omega) (by show (f 53).toInt ≤ (4096 : Int); omega) (by show (0 : Int) ≤ (f 68).toInt; omega) (by show (f 68).toInt ≤ (65534 : Int); omega)) ?_
          rintro v375 S376 (⟨z377, r378, g'379, hv380, hS381, hR385, h382, h383, h384⟩)
          subst hv380
          have h382_ : z377.toInt = (f 68).toInt + 1 := h382
          have h383_ : r378.toInt = (f 68).toInt := h383
          have h384_ : ∀ j, j ∉ [60, 69, 70, 71, 72, 73] → g'379 j = (upg g 72 (g 17 z365.toNatClampNeg).toNatClampNeg z369) j := h384
          have hR385_ : RJ (upd (upd f 15 z365) 68 z377) g'379 gs bc [] 0 ((f 68).toNatClampNeg :: []) := hR385
          show am_E _ _ _ _ [some (.ref 39), some (.int on), some (.int tw), some (.int 1)] [.int r378] _ _
          refine am_e6i hi_221_72 ?_
          refine am_e18 hi_221_73 ?_
          refine am_e2 (v := 39) hi_221_90 rfl ?_
          refine am_e1 (v := on) hi_221_91 rfl ?_
          refine am_e32w (as := [.ref 39, .int on]) (la := [some (.ref 39), some (.int on)]) (rest := []) hi_221_92 (am_hd0 (M := 221) (by decide) 92) (Nat.le_of_ble_eq_true rfl) (Nat.le_of_ble_eq_true rfl) (show 2 ≤ am_P0.2.2.1 220 from by decide +kernel) rfl (am_recv_ok hS381.fs) rfl rfl ?_
          refine am_e2 (v := 39) hi_220_0 rfl ?_
          refine am_e32n (as := [.ref 39]) (la := [some (.ref 39)]) (rest := []) hi_220_1 (am_hd0 (M := 220) (by decide) 1) (Nat.le_of_ble_eq_true rfl) (Nat.le_of_ble_eq_true rfl) (show 1 ≤ am_P0.2.2.1 183 from by decide +kernel) rfl (am_recv_ok hS381.fs) rfl rfl (ct_next (d := (d + 3)) hS381   (by show (0 : Int) ≤ (f 4).toInt; omega) (by show (f 0).toInt ≤ (16384 : Int); omega)) ?_
          rintro v386 S387 (⟨r388, hv389, hS390, h391⟩)
          subst hv389
          have h391_ : (f 4).toInt < (f 0).toInt ∨ r388.toInt = (-1 : Int) := h391
          show am_E _ _ _ _ [some (.ref 39), some (.int on)] [.int r388] _ _
          refine am_e0 hi_220_4 ?_
          by_cases c393 : r388.toInt = (69 : Int)
          · refine am_e13t hi_220_6 (am_cT (m := r388.toInt) (n := (69 : Int)) rfl (by decide) c393) ?_
            refine am_e2 (v := 39) hi_220_18 rfl ?_
            refine am_e7 hi_220_19 ?_
            refine mm_20 (v := .int (f 4)) hS390 hi_220_20 rfl ?_
            refine am_e0 hi_220_23 ?_
            refine am_e10 (z := z267) hi_220_24 hz267 ?_
            refine mm_21 (v := z267) hS390 hi_220_25 rfl (Nat.le_of_ble_eq_true rfl) ms_4 ?_
            intro S394 hS395
            replace hS395 : MS S0 S394 (upd (upd (upd f 4 z267) 15 z365) 68 z377) g'379 := hS395
            have hR396 : RJ (upd (upd (upd f 4 z267) 15 z365) 68 z377) g'379 gs bc [] 0 ((f 68).toNatClampNeg :: []) := RJ.at hR385_ (by show (f 4).toInt ≤ z267.toInt; omega)
            refine am_e2 (v := 39) hi_220_28 rfl ?_
            refine am_e0 hi_220_29 ?_
            refine am_e1 (v := on) hi_220_31 rfl ?_
            refine am_e0 hi_220_32 ?_
            refine am_e0 hi_220_33 ?_
            refine am_e32n (as := [.ref 39, .int 35, .int on, .int 0, .int 0]) (la := [some (.ref 39), some (.int 35), some (.int on), some (.int 0), some (.int 0)]) (rest := []) hi_220_34 (am_hd0 (M := 220) (by decide) 34) (Nat.le_of_ble_eq_true rfl) (Nat.le_of_ble_eq_true rfl) (show 5 ≤ am_P0.2.2.1 179 from by decide +kernel) rfl (am_recv_ok hS395.fs) rfl rfl (ct_pile (d := (d + 4)) hS395 hR396 (mj_e_plain (by decide)) (by show (0 : Int) ≤ (f 10).toInt; omega) (by show (f 10).toInt ≤ (65535 : Int); omega)) ?_
            rintro v397 S398 (⟨z399, g'400, hv401, hS402, hR405, h403, h404⟩)
            subst hv401
            have h403_ : z399.toInt = (f 10).toInt + 1 := h403
            have h404_ : ∀ j, j ∉ [11, 12, 13, 14] → g'400 j = g'379 j := h404
            replace hS402 : MS S0 S398 (upd (upd (upd (upd f 4 z267) 10 z399) 15 z365) 68 z377) g'400 := hS402
            have hR405_ : RJ (upd (upd (upd (upd f 4 z267) 10 z399) 15 z365) 68 z377) g'400 (((35 : Int), on.toInt, (0 : Int), (0 : Int), []) :: gs) bc [] 0 ((f 68).toNatClampNeg :: []) := hR405
            show am_E _ _ _ _ [some (.ref 39), some (.int on)] [] _ _
            refine am_e18 hi_220_37 ?_
            refine am_e35 hi_220_47 ?_
            show am_E _ _ _ _ [some (.ref 39), some (.int on), some (.int tw), some (.int 1)] [] _ _
            refine am_e35 hi_221_95 ?_
            show am_E _ _ _ _ [some (.ref 39), some (.int 39), some (.int on), some (.int tw)] [] _ _
            refine am_e18 hi_181_366 ?_
            refine am_e35 hi_181_397 ?_
            show am_E _ _ _ _ [some (.ref 39), some (.int 39), some (.int on), some (.int tw), some (.int th)] [] _ _
            refine am_e35 hi_180_13 ?_
            have q1 : mg_p1 (((35 : Int), on.toInt, (0 : Int), (0 : Int), []) :: gs) = 0 + (mg_p1 gs) := rfl
            have q2 : mg_p2 (((35 : Int), on.toInt, (0 : Int), (0 : Int), []) :: gs) = 0 + (mg_p2 gs) := rfl
            have q3 : mg_p3 (((35 : Int), on.toInt, (0 : Int), (0 : Int), []) :: gs) = 3 + (mg_p3 gs) := rfl
            have q4 : mg_p4 (((35 : Int), on.toInt, (0 : Int), (0 : Int), []) :: gs) = 0 + (mg_p4 gs) := rfl
            refine ⟨_, _, _, bc, rfl, hS402, Or.inl ⟨⟨(RJ.fewer (pj' := []) hR405_ (fun _ h => nomatch h)), ?_, ?_⟩, rfl, ?_⟩⟩
            · exact (⟨⟨(show mg_k 35 from by decide), (show (0 : Int) ≤ z365.toInt from by omega), (show 0 ≤ (f 20).toInt from by omega), (show 1 ≤ (f 37).toInt from by omega), (show 0 ≤ (f 32).toInt from by omega), (show (f 32).toInt ≤ (f 5).toInt from by omega), (show (f 5).toInt ≤ 48 from by omega), (show (f 37).toInt ≤ 2 * ((f 5).toInt) + 2 from by omega), trivial⟩, mg_cast (mg_good_ext _ _ _ _ _ _ (fun i _ => by show g'400 34 i = g 34 i; rw [show g'400 34 = g'379 34 from h404_ 34 (by decide), show g'379 34 = g 34 from h384_ 34 (by decide)]) (fun i _ => by show g'400 38 i = g 38 i; rw [show g'400 38 = g'379 38 from h404_ 38 (by decide), show g'379 38 = g 38 from h384_ 38 (by decide)]) (fun i _ => by show g'400 23 i = g 23 i; rw [show g'400 23 = g'379 23 from h404_ 23 (by decide), show g'379 23 = g 23 from h384_ 23 (by decide)]) hrest) (by show (f 15).toInt + -1 = z365.toInt + 0; omega) (by show (f 20).toInt = (f 20).toInt; omega) (by show (f 37).toInt + 0 = (f 37).toInt + 0; omega) (by show (f 32).toInt + 0 = (f 32).toInt + 0; omega) (by show (f 5).toInt + -1 = (f 5).toInt + -1; omega)⟩ : mg_good (g'400 34) (g'400 38) (g'400 23) (((35 : Int), on.toInt, (0 : Int), (0 : Int), []) :: gs) (z365.toInt) ((f 20).toInt) ((f 37).toInt) ((f 32).toInt) ((f 5).toInt))
            · exact ⟨(by show 0 ≤ z267.toInt; omega), (by show z267.toInt ≤ (f 0).toInt; omega), (by show (f 0).toInt ≤ 512; omega), (by show 0 ≤ (f 24).toInt; omega), (by show (f 24).toInt + (f 20).toInt + mg_p1 (((35 : Int), on.toInt, (0 : Int), (0 : Int), []) :: gs) ≤ 4 * z267.toInt; omega), (by show (f 20).toInt ≤ z267.toInt; omega), (by show z365.toInt + mg_p2 (((35 : Int), on.toInt, (0 : Int), (0 : Int), []) :: gs) ≤ z267.toInt; omega), (by show mg_p3 (((35 : Int), on.toInt, (0 : Int), (0 : Int), []) :: gs) ≤ 20 * z267.toInt + 20; omega), (by show 0 ≤ z377.toInt; omega), (by show z377.toInt + 3 * (f 20).toInt + mg_p4 (((35 : Int), on.toInt, (0 : Int), (0 : Int), []) :: gs) ≤ 60 * z267.toInt + 60; omega), (by show 0 ≤ (f 62).toInt; omega), (by show (f 62).toInt + 64 * mj_n (g'400 16) z365.toNatClampNeg 3 ≤ 64 * z267.toInt; rw [show g'400 16 = g'379 16 from h404_ 16 (by decide), show g'379 16 = g 16 from h384_ 16 (by decide)]; omega), (by show 0 ≤ (f 44).toInt; omega), (by show (f 44).toInt ≤ z267.toInt; omega), (by show 0 ≤ (f 48).toInt; omega), (by show (f 48).toInt ≤ z267.toInt; omega), (by show 1 ≤ (f 53).toInt; omega), (by show (f 53).toInt ≤ z267.toInt + 1; omega), (by show 0 ≤ (f 19).toInt; omega), (by show (f 19).toInt ≤ 600; omega), (by show 0 ≤ (f 6).toInt; omega), (by show 0 ≤ (f 8).toInt; omega)⟩
            · show 100 * ((f 0).toInt - z267.toInt) + mg_p3 (((35 : Int), on.toInt, (0 : Int), (0 : Int), []) :: gs) < 100 * ((f 0).toInt - (f 4).toInt) + (1 + mg_p3 gs); omega
          · refine am_e13f hi_220_6 (am_cF (m := r388.toInt) (n := (69 : Int)) rfl (by decide) c393) ?_
            refine am_e2 (v := 39) hi_220_9 rfl ?_
            refine am_e32n (as := [.ref 39]) (la := [some (.ref 39)]) (rest := []) hi_220_10 (am_hd0 (M := 220) (by decide) 10) (Nat.le_of_ble_eq_true rfl) (Nat.le_of_ble_eq_true rfl) (show 1 ≤ am_P0.2.2.1 183 from by decide +kernel) rfl (am_recv_ok hS390.fs) rfl rfl (ct_next (d := (d + 3)) hS390   (by show (0 : Int) ≤ (f 4).toInt; omega) (by show (f 0).toInt ≤ (16384 : Int); omega)) ?_
            rintro v406 S407 (⟨r408, hv409, hS410, h411⟩)
            subst hv409
            have h411_ : (f 4).toInt < (f 0).toInt ∨ r408.toInt = (-1 : Int) := h411
            show am_E _ _ _ _ [some (.ref 39), some (.int on)] [.int r408] _ _
            refine am_e0 hi_220_13 ?_
            by_cases c413 : ¬ r408.toInt = (67 : Int)
            · refine am_e13t hi_220_15 (am_cT (m := r408.toInt) (n := (67 : Int)) rfl (by decide) c413) ?_
              refine am_e2 (v := 39) hi_220_40 rfl ?_
              refine am_e0 hi_220_41 ?_
              refine am_e32n (as := [.ref 39, .int 63]) (la := [some (.ref 39), some (.int 63)]) (rest := []) hi_220_43 (am_hd0 (M := 220) (by decide) 43) (Nat.le_of_ble_eq_true rfl) (Nat.le_of_ble_eq_true rfl) (show 2 ≤ am_P0.2.2.1 199 from by decide +kernel) rfl (am_recv_ok hS410.fs) rfl rfl (ct_leave (d := (d + 1)) hS410   (by show (0 : Int) ≤ (f 4).toInt; omega) (by show (f 0).toInt ≤ (16384 : Int); omega) (by show (0 : Int) ≤ (63 : Int); omega) (by show (0 : Int) ≤ (f 5).toInt; omega) (by show (f 5).toInt ≤ (48 : Int); omega) (by show (0 : Int) ≤ (f 6).toInt; omega)) ?_
              rintro v414 S415 (⟨z416, y417, hv418, hS419, h420, h421, h422⟩ | ⟨a424, b425, hv426, hS427, h428⟩)
              · subst hv418
                have h420_ : z416.toInt = (f 4).toInt + 1 := h420
                have h421_ : (f 4).toInt < (f 0).toInt := h421
                have h422_ : y417.toInt = (f 5).toInt - 1 := h422
                replace hS419 : MS S0 S415 (upd (upd (upd (upd f 4 z416) 5 y417) 15 z365) 68 z377) g'379 := hS419
                have hR430 : RJ (upd (upd (upd (upd f 4 z416) 5 y417) 15 z365) 68 z377) g'379 gs bc [] 0 ((f 68).toNatClampNeg :: []) := RJ.at hR385_ (by show (f 4).toInt ≤ z416.toInt; omega)
                show am_E _ _ _ _ [some (.ref 39), some (.int on)] [.int 1] _ _
                refine am_e6i hi_220_46 ?_
                refine am_e35 hi_220_47 ?_
                show am_E _ _ _ _ [some (.ref 39), some (.int on), some (.int tw), some (.int 1)] [] _ _
                refine am_e35 hi_221_95 ?_
                show am_E _ _ _ _ [some (.ref 39), some (.int 39), some (.int on), some (.int tw)] [] _ _
                refine am_e18 hi_181_366 ?_
                refine am_e35 hi_181_397 ?_
                show am_E _ _ _ _ [some (.ref 39), some (.int 39), some (.int on), some (.int tw), some (.int th)] [] _ _
                refine am_e35 hi_180_13 ?_
                have q1 : mg_p1 gs = mg_p1 gs := rfl
                have q2 : mg_p2 gs = mg_p2 gs := rfl
                have q3 : mg_p3 gs = mg_p3 gs := rfl
                have q4 : mg_p4 gs = mg_p4 gs := rfl
                refine ⟨_, _, _, bc, rfl, hS419, Or.inl ⟨⟨(RJ.fewer (pj' := []) hR430 (fun _ h => nomatch h)), ?_, ?_⟩, rfl, ?_⟩⟩
                · exact (mg_cast (mg_good_ext _ _ _ _ _ _ (fun i _ => by show g'379 34 i = g 34 i; rw [show g'379 34 = g 34 from h384_ 34 (by decide)]) (fun i _ => by show g'379 38 i = g 38 i; rw [show g'379 38 = g 38 from h384_ 38 (by decide)]) (fun i _ => by show g'379 23 i = g 23 i; rw [show g'379 23 = g 23 from h384_ 23 (by decide)]) hrest) (by show (f 15).toInt + -1 = z365.toInt; omega) (by show (f 20).toInt = (f 20).toInt; omega) (by show (f 37).toInt + 0 = (f 37).toInt; omega) (by show (f 32).toInt + 0 = (f 32).toInt; omega) (by show (f 5).toInt + -1 = y417.toInt; omega) : mg_good (g'379 34) (g'379 38) (g'379 23) gs (z365.toInt) ((f 20).toInt) ((f 37).toInt) ((f 32).toInt) (y417.toInt))
                · exact ⟨(by show 0 ≤ z416.toInt; omega), (by show z416.toInt ≤ (f 0).toInt; omega), (by show (f 0).toInt ≤ 512; omega), (by show 0 ≤ (f 24).toInt; omega), (by show (f 24).toInt + (f 20).toInt + mg_p1 gs ≤ 4 * z416.toInt; omega), (by show (f 20).toInt ≤ z416.toInt; omega), (by show z365.toInt + mg_p2 gs ≤ z416.toInt; omega), (by show mg_p3 gs ≤ 20 * z416.toInt + 20; omega), (by show 0 ≤ z377.toInt; omega), (by show z377.toInt + 3 * (f 20).toInt + mg_p4 gs ≤ 60 * z416.toInt + 60; omega), (by show 0 ≤ (f 62).toInt; omega), (by show (f 62).toInt + 64 * mj_n (g'379 16) z365.toNatClampNeg 3 ≤ 64 * z416.toInt; rw [show g'379 16 = g 16 from h384_ 16 (by decide)]; omega), (by show 0 ≤ (f 44).toInt; omega), (by show (f 44).toInt ≤ z416.toInt; omega), (by show 0 ≤ (f 48).toInt; omega), (by show (f 48).toInt ≤ z416.toInt; omega), (by show 1 ≤ (f 53).toInt; omega), (by show (f 53).toInt ≤ z416.toInt + 1; omega), (by show 0 ≤ (f 19).toInt; omega), (by show (f 19).toInt ≤ 600; omega), (by show 0 ≤ (f 6).toInt; omega), (by show 0 ≤ (f 8).toInt; omega)⟩
                · show 100 * ((f 0).toInt - z416.toInt) + mg_p3 gs < 100 * ((f 0).toInt - (f 4).toInt) + (1 + mg_p3 gs); omega
              · subst hv426
                have h428_ : (0 : Int) ≤ a424.toInt := h428
                replace hS427 : MS S0 S415 (upd (upd (upd (upd (upd f 6 a424) 7 b425) 10 0) 15 z365) 68 z377) g'379 := hS427
                have hR431 := rj_clear0 hR385_
                have hR432 : RJ (upd (upd (upd (upd (upd f 6 a424) 7 b425) 10 0) 15 z365) 68 z377) g'379 [] bc [] 0 [] := hR431
                show am_E _ _ _ _ [some (.ref 39), some (.int on)] [.int 0] _ _
                refine am_e6i hi_220_46 ?_
                refine am_e35 hi_220_47 ?_
                show am_E _ _ _ _ [some (.ref 39), some (.int on), some (.int tw), some (.int 1)] [] _ _
                refine am_e35 hi_221_95 ?_
                show am_E _ _ _ _ [some (.ref 39), some (.int 39), some (.int on), some (.int tw)] [] _ _
                refine am_e18 hi_181_366 ?_
                refine am_e35 hi_181_397 ?_
                show am_E _ _ _ _ [some (.ref 39), some (.int 39), some (.int on), some (.int tw), some (.int th)] [] _ _
                refine am_e35 hi_180_13 ?_
                have hRc := rj_clear0 hR432
                refine ⟨_, _, [], _, rfl, hS427, Or.inr ⟨hRc, rfl, (by show 0 ≤ (f 4).toInt; omega), (by show (f 4).toInt ≤ (f 0).toInt; omega), (by show 0 ≤ (f 32).toInt; omega), (by show (f 32).toInt ≤ 63; omega), (by show 1 ≤ (f 53).toInt; omega), (by show (f 53).toInt ≤ 600; omega), (by show 0 ≤ z377.toInt; omega), (by show z377.toInt ≤ 60000; omega), (by show 0 ≤ (f 48).toInt; omega), (by show (f 48).toInt ≤ 8000; omega), (by show 0 ≤ (f 37).toInt; omega), (by show (f 37).toInt ≤ 128; omega), (by show 0 ≤ (f 62).toInt; omega), (by show (f 62).toInt ≤ 65000; omega), (by show 0 ≤ (f 19).toInt; omega), (by show (f 19).toInt ≤ 600; omega), (by show 0 ≤ a424.toInt; omega), (by show 0 ≤ (f 8).toInt; omega)⟩⟩
            · refine am_e13f hi_220_15 (am_cF (m := r408.toInt) (n := (67 : Int)) rfl (by decide) c413) ?_
              refine am_e2 (v := 39) hi_220_18 rfl ?_
              refine am_e7 hi_220_19 ?_
              refine mm_20 (v := .int (f 4)) hS410 hi_220_20 rfl ?_
              refine am_e0 hi_220_23 ?_
              refine am_e10 (z := z267) hi_220_24 hz267 ?_
              refine mm_21 (v := z267) hS410 hi_220_25 rfl (Nat.le_of_ble_eq_true rfl) ms_4 ?_
              intro S433 hS434
              replace hS434 : MS S0 S433 (upd (upd (upd f 4 z267) 15 z365) 68 z377) g'379 := hS434
              have hR435 : RJ (upd (upd (upd f 4 z267) 15 z365) 68 z377) g'379 gs bc [] 0 ((f 68).toNatClampNeg :: []) := RJ.at hR385_ (by show (f 4).toInt ≤ z267.toInt; omega)
              refine am_e2 (v := 39) hi_220_28 rfl ?_
              refine am_e0 hi_220_29 ?_
              refine am_e1 (v := on) hi_220_31 rfl ?_
              refine am_e0 hi_220_32 ?_
              refine am_e0 hi_220_33 ?_
              refine am_e32n (as := [.ref 39, .int 35, .int on, .int 0, .int 0]) (la := [some (.ref 39), some (.int 35), some (.int on), some (.int 0), some (.int 0)]) (rest := []) hi_220_34 (am_hd0 (M := 220) (by decide) 34) (Nat.le_of_ble_eq_true rfl) (Nat.le_of_ble_eq_true rfl) (show 5 ≤ am_P0.2.2.1 179 from by decide +kernel) rfl (am_recv_ok hS434.fs) rfl rfl (ct_pile (d := (d + 4)) hS434 hR435 (mj_e_plain (by decide)) (by show (0 : Int) ≤ (f 10).toInt; omega) (by show (f 10).toInt ≤ (65535 : Int); omega)) ?_
              rintro v436 S437 (⟨z438, g'439, hv440, hS441, hR444, h442, h443⟩)
              subst hv440
              have h442_ : z438.toInt = (f 10).toInt + 1 := h442
              have h443_ : ∀ j, j ∉ [11, 12, 13, 14] → g'439 j = g'379 j := h443
              replace hS441 : MS S0 S437 (upd (upd (upd (upd f 4 z267) 10 z438) 15 z365) 68 z377) g'439 := hS441
              have hR444_ : RJ (upd (upd (upd (upd f 4 z267) 10 z438) 15 z365) 68 z377) g'439 (((35 : Int), on.toInt, (0 : Int), (0 : Int), []) :: gs) bc [] 0 ((f 68).toNatClampNeg :: []) := hR444
              show am_E _ _ _ _ [some (.ref 39), some (.int on)] [] _ _
              refine am_e18 hi_220_37 ?_
              refine am_e35 hi_220_47 ?_
              show am_E _ _ _ _ [some (.ref 39), some (.int on), some (.int tw), some (.int 1)] [] _ _
              refine am_e35 hi_221_95 ?_
              show am_E _ _ _ _ [some (.ref 39), some (.int 39), some (.int on), some (.int tw)] [] _ _
              refine am_e18 hi_181_366 ?_
              refine am_e35 hi_181_397 ?_
              show am_E _ _ _ _ [some (.ref 39), some (.int 39), some (.int on), some (.int tw), some (.int th)] [] _ _
              refine am_e35 hi_180_13 ?_
              have q1 : mg_p1 (((35 : Int), on.toInt, (0 : Int), (0 : Int), []) :: gs) = 0 + (mg_p1 gs) := rfl
              have q2 : mg_p2 (((35 : Int), on.toInt, (0 : Int), (0 : Int), []) :: gs) = 0 + (mg_p2 gs) := rfl
              have q3 : mg_p3 (((35 : Int), on.toInt, (0 : Int), (0 : Int), []) :: gs) = 3 + (mg_p3 gs) := rfl
              have q4 : mg_p4 (((35 : Int), on.toInt, (0 : Int), (0 : Int), []) :: gs) = 0 + (mg_p4 gs) := rfl
              refine ⟨_, _, _, bc, rfl, hS441, Or.inl ⟨⟨(RJ.fewer (pj' := []) hR444_ (fun _ h => nomatch h)), ?_, ?_⟩, rfl, ?_⟩⟩
              · exact (⟨⟨(show mg_k 35 from by decide), (show (0 : Int) ≤ z365.toInt from by omega), (show 0 ≤ (f 20).toInt from by omega), (show 1 ≤ (f 37).toInt from by omega), (show 0 ≤ (f 32).toInt from by omega), (show (f 32).toInt ≤ (f 5).toInt from by omega), (show (f 5).toInt ≤ 48 from by omega), (show (f 37).toInt ≤ 2 * ((f 5).toInt) + 2 from by omega), trivial⟩, mg_cast (mg_good_ext _ _ _ _ _ _ (fun i _ => by show g'439 34 i = g 34 i; rw [show g'439 34 = g'379 34 from h443_ 34 (by decide), show g'379 34 = g 34 from h384_ 34 (by decide)]) (fun i _ => by show g'439 38 i = g 38 i; rw [show g'439 38 = g'379 38 from h443_ 38 (by decide), show g'379 38 = g 38 from h384_ 38 (by decide)]) (fun i _ => by show g'439 23 i = g 23 i; rw [show g'439 23 = g'379 23 from h443_ 23 (by decide), show g'379 23 = g 23 from h384_ 23 (by decide)]) hrest) (by show (f 15).toInt + -1 = z365.toInt + 0; omega) (by show (f 20).toInt = (f 20).toInt; omega) (by show (f 37).toInt + 0 = (f 37).toInt + 0; omega) (by show (f 32).toInt + 0 = (f 32).toInt + 0; omega) (by show (f 5).toInt + -1 = (f 5).toInt + -1; omega)⟩ : mg_good (g'439 34) (g'439 38) (g'439 23) (((35 : Int), on.toInt, (0 : Int), (0 : Int), []) :: gs) (z365.toInt) ((f 20).toInt) ((f 37).toInt) ((f 32).toInt) ((f 5).toInt))
              · exact ⟨(by show 0 ≤ z267.toInt; omega), (by show z267.toInt ≤ (f 0).toInt; omega), (by show (f 0).toInt ≤ 512; omega), (by show 0 ≤ (f 24).toInt; omega), (by show (f 24).toInt + (f 20).toInt + mg_p1 (((35 : Int), on.toInt, (0 : Int), (0 : Int), []) :: gs) ≤ 4 * z267.toInt; omega), (by show (f 20).toInt ≤ z267.toInt; omega), (by show z365.toInt + mg_p2 (((35 : Int), on.toInt, (0 : Int), (0 : Int), []) :: gs) ≤ z267.toInt; omega), (by show mg_p3 (((35 : Int), on.toInt, (0 : Int), (0 : Int), []) :: gs) ≤ 20 * z267.toInt + 20; omega), (by show 0 ≤ z377.toInt; omega), (by show z377.toInt + 3 * (f 20).toInt + mg_p4 (((35 : Int), on.toInt, (0 : Int), (0 : Int), []) :: gs) ≤ 60 * z267.toInt + 60; omega), (by show 0 ≤ (f 62).toInt; omega), (by show (f 62).toInt + 64 * mj_n (g'439 16) z365.toNatClampNeg 3 ≤ 64 * z267.toInt; rw [show g'439 16 = g'379 16 from h443_ 16 (by decide), show g'379 16 = g 16 from h384_ 16 (by decide)]; omega), (by show 0 ≤ (f 44).toInt; omega), (by show (f 44).toInt ≤ z267.toInt; omega), (by show 0 ≤ (f 48).toInt; omega), (by show (f 48).toInt ≤ z267.toInt; omega), (by show 1 ≤ (f 53).toInt; omega), (by show (f 53).toInt ≤ z267.toInt + 1; omega), (by show 0 ≤ (f 19).toInt; omega), (by show (f 19).toInt ≤ 600; omega), (by show 0 ≤ (f 6).toInt; omega), (by show 0 ≤ (f 8).toInt; omega)⟩
              · show 100 * ((f 0).toInt - z267.toInt) + mg_p3 (((35 : Int), on.toInt, (0 : Int), (0 : Int), []) :: gs) < 100 * ((f 0).toInt - (f 4).toInt) + (1 + mg_p3 gs); omega
        · refine am_e13f hi_216_12 (am_cF (m := (g 16 z365.toNatClampNeg).toInt) (n := (1 : Int)) rfl (by decide) c366) ?_
          refine am_e2 (v := 39) hi_216_15 rfl ?_
          refine mm_20 (v := .ref 46) hS272 hi_216_16 rfl ?_
          refine am_e2 (v := 39) hi_216_19 rfl ?_
          refine mm_20 (v := .int (f 15)) hS272 hi_216_20 rfl ?_
          refine am_e0 hi_216_23 ?_
          refine am_e10 (z := z365) hi_216_24 hz365 ?_
          refine mm_25 hS272 ma_16 hi_216_25 (by decide) (by omega) (by omega) ?_
          show am_E _ _ _ _ [some (.ref 39)] [.int (g 16 z365.toNatClampNeg)] _ _
          refine am_e0 hi_216_26 ?_
          by_cases c445 : ¬ (g 16 z365.toNatClampNeg).toInt = (2 : Int)
          · refine am_e13t hi_216_27 (am_cT (m := (g 16 z365.toNatClampNeg).toInt) (n := (2 : Int)) rfl (by decide) c445) ?_
            refine am_e0 hi_216_34 ?_
            refine am_e36 hi_216_35 (by decide) ?_
            show am_E _ _ _ _ [some (.ref 39), some (.int on), some (.int tw), some (.int 1)] [.int 0] _ _
            refine am_e12t hi_221_56 (by decide) ?_
            refine am_e2 (v := 39) hi_221_76 rfl ?_
            refine am_e32w (as := [.ref 39]) (la := [some (.ref 39)]) (rest := []) hi_221_77 (am_hd0 (M := 221) (by decide) 77) (Nat.le_of_ble_eq_true rfl) (Nat.le_of_ble_eq_true rfl) (show 1 ≤ am_P0.2.2.1 209 from by decide +kernel) rfl (am_recv_ok hS272.fs) rfl rfl ?_
            refine am_e2 (v := 39) hi_209_0 rfl ?_
            refine am_e32n (as := [.ref 39]) (la := [some (.ref 39), none, none, none]) (rest := []) hi_209_1 (am_hd0 (M := 209) (by decide) 1) (Nat.le_of_ble_eq_true rfl) (Nat.le_of_ble_eq_true rfl) (show 1 ≤ am_P0.2.2.1 204 from by decide +kernel) rfl (am_recv_ok hS272.fs) rfl rfl (ct_load (d := (d + 2)) hS272 hR  (by show (0 : Int) ≤ (f 32).toInt; omega) (by show (f 32).toInt ≤ (63 : Int); omega) (by show (f 53).toInt ≤ (4096 : Int); omega) (by show (0 : Int) ≤ (f 68).toInt; omega) (by show (f 68).toInt ≤ (65534 : Int); omega) (by show (1 : Int) ≤ (f 15).toInt; omega) (by show (f 15).toInt ≤ (32767 : Int); omega) (by show (0 : Int) ≤ (f 24).toInt; omega) (by show (f 24).toInt ≤ (16384 : Int); omega) (by show (0 : Int) ≤ (f 62).toInt; omega) (by show (f 62).toInt ≤ (65000 : Int); omega)) ?_
            rintro v446 S447 (⟨o448, s449, m450, g'451, hv452, hS453, hR460, h454, h455, h456, h457, h458, h459⟩)
            subst hv452
            have h454_ : (f 62).toInt ≤ o448.toInt := h454
            have h455_ : o448.toInt ≤ (f 62).toInt + 64 := h455
            have h456_ : (f 68).toInt ≤ s449.toInt := h456
            have h457_ : s449.toInt ≤ (f 68).toInt + 1 := h457
            have h458_ : o448.toInt + 64 * mj_n (g'451 16) (f 15).toNatClampNeg 3 ≤ (f 62).toInt + 64 * mj_n (g 16) (f 15).toNatClampNeg 3 := h458
            have h459_ : ∀ j, j ∉ [16, 60, 63, 64, 65, 66, 67, 69, 70, 71, 72, 73] → g'451 j = g j := h459
            have hR460_ : RJ (upd (upd (upd f 62 o448) 68 s449) 75 m450) g'451 gs bc [] 0 [] := hR460
            show am_E _ _ _ _ [some (.ref 39)] [] _ _
            refine am_e2 (v := 39) hi_209_4 rfl ?_
            refine am_e7 hi_209_5 ?_
            refine mm_20 (v := .int (f 15)) hS453 hi_209_6 rfl ?_
            refine am_e0 hi_209_9 ?_
            refine am_e10 (z := z365) hi_209_10 hz365 ?_
            refine mm_21 (v := z365) hS453 hi_209_11 rfl (Nat.le_of_ble_eq_true rfl) ms_15 ?_
            intro S461 hS462
            replace hS462 : MS S0 S461 (upd (upd (upd (upd f 15 z365) 62 o448) 68 s449) 75 m450) g'451 := hS462
            have hp463 : mj_n (g'451 16) (f 15).toNatClampNeg 3 = mj_n (g'451 16) z365.toNatClampNeg 3 + if (g'451 16 z365.toNatClampNeg).toInt = 3 then 1 else 0 := mj_pop (by rw [cl_toNat, cl_toNat]; omega)
            have hp4631 : mj_n (g'451 16) z365.toNatClampNeg 3 ≤ mj_n (g'451 16) (f 15).toNatClampNeg 3 := by rw [hp463]; split <;> omega
            have hp4632 : (g'451 16 z365.toNatClampNeg).toInt = 3 → mj_n (g'451 16) z365.toNatClampNeg 3 + 1 ≤ mj_n (g'451 16) (f 15).toNatClampNeg 3 := fun q => by rw [hp463, if_pos q]; exact Int.le_refl _
            refine am_e35 hi_209_14 ?_
            show am_E _ _ _ _ [some (.ref 39), some (.int on), some (.int tw), some (.int 1)] [] _ _
            refine am_e2 (v := 39) hi_221_80 rfl ?_
            refine am_e0 hi_221_81 ?_
            refine am_e1 (v := on) hi_221_83 rfl ?_
            refine am_e0 hi_221_84 ?_
            refine am_e1 (v := tw) hi_221_85 rfl ?_
            refine am_e32n (as := [.ref 39, .int 23, .int on, .int 0, .int tw]) (la := [some (.ref 39), some (.int 23), some (.int on), some (.int 0), some (.int tw)]) (rest := []) hi_221_86 (am_hd0 (M := 221) (by decide) 86) (Nat.le_of_ble_eq_true rfl) (Nat.le_of_ble_eq_true rfl) (show 5 ≤ am_P0.2.2.1 189 from by decide +kernel) rfl (am_recv_ok hS462.fs) rfl rfl (ct_put (d := (d + 5)) hS462 hR460_  (by show (0 : Int) ≤ (f 32).toInt; omega) (by show (f 32).toInt ≤ (63 : Int); omega) (by show (f 53).toInt ≤ (4096 : Int); omega) (by show (0 : Int) ≤ s449.toInt; omega) (by show s449.toInt ≤ (65534 : Int); omega)) ?_
            rintro v464 S465 (⟨z466, r467, g'468, hv469, hS470, hR474, h471, h472, h473⟩)
            subst hv469
            have h471_ : z466.toInt = s449.toInt + 1 := h471
            have h472_ : r467.toInt = s449.toInt := h472
            have h473_ : ∀ j, j ∉ [60, 69, 70, 71, 72, 73] → g'468 j = g'451 j := h473
            replace hS470 : MS S0 S465 (upd (upd (upd (upd f 15 z365) 62 o448) 68 z466) 75 m450) g'468 := hS470
            have hR474_ : RJ (upd (upd (upd (upd f 15 z365) 62 o448) 68 z466) 75 m450) g'468 gs bc [] 0 (s449.toNatClampNeg :: []) := hR474
            show am_E _ _ _ _ [some (.ref 39), some (.int on), some (.int tw), some (.int 1)] [.int r467] _ _
            refine am_e6i hi_221_89 ?_
            refine am_e2 (v := 39) hi_221_90 rfl ?_
            refine am_e1 (v := on) hi_221_91 rfl ?_
            refine am_e32w (as := [.ref 39, .int on]) (la := [some (.ref 39), some (.int on)]) (rest := []) hi_221_92 (am_hd0 (M := 221) (by decide) 92) (Nat.le_of_ble_eq_true rfl) (Nat.le_of_ble_eq_true rfl) (show 2 ≤ am_P0.2.2.1 220 from by decide +kernel) rfl (am_recv_ok hS470.fs) rfl rfl ?_
            refine am_e2 (v := 39) hi_220_0 rfl ?_
            refine am_e32n (as := [.ref 39]) (la := [some (.ref 39)]) (rest := []) hi_220_1 (am_hd0 (M := 220) (by decide) 1) (Nat.le_of_ble_eq_true rfl) (Nat.le_of_ble_eq_true rfl) (show 1 ≤ am_P0.2.2.1 183 from by decide +kernel) rfl (am_recv_ok hS470.fs) rfl rfl (ct_next (d := (d + 3)) hS470   (by show (0 : Int) ≤ (f 4).toInt; omega) (by show (f 0).toInt ≤ (16384 : Int); omega)) ?_
            rintro v475 S476 (⟨r477, hv478, hS479, h480⟩)
            subst hv478
            have h480_ : (f 4).toInt < (f 0).toInt ∨ r477.toInt = (-1 : Int) := h480
            show am_E _ _ _ _ [some (.ref 39), some (.int on)] [.int r477] _ _
            refine am_e0 hi_220_4 ?_
            by_cases c482 : r477.toInt = (69 : Int)
            · refine am_e13t hi_220_6 (am_cT (m := r477.toInt) (n := (69 : Int)) rfl (by decide) c482) ?_
              refine am_e2 (v := 39) hi_220_18 rfl ?_
              refine am_e7 hi_220_19 ?_
              refine mm_20 (v := .int (f 4)) hS479 hi_220_20 rfl ?_
              refine am_e0 hi_220_23 ?_
              refine am_e10 (z := z267) hi_220_24 hz267 ?_
              refine mm_21 (v := z267) hS479 hi_220_25 rfl (Nat.le_of_ble_eq_true rfl) ms_4 ?_
              intro S483 hS484
              replace hS484 : MS S0 S483 (upd (upd (upd (upd (upd f 4 z267) 15 z365) 62 o448) 68 z466) 75 m450) g'468 := hS484
              have hR485 : RJ (upd (upd (upd (upd (upd f 4 z267) 15 z365) 62 o448) 68 z466) 75 m450) g'468 gs bc [] 0 (s449.toNatClampNeg :: []) := RJ.at hR474_ (by show (f 4).toInt ≤ z267.toInt; omega)
              refine am_e2 (v := 39) hi_220_28 rfl ?_
              refine am_e0 hi_220_29 ?_
              refine am_e1 (v := on) hi_220_31 rfl ?_
              refine am_e0 hi_220_32 ?_
              refine am_e0 hi_220_33 ?_
              refine am_e32n (as := [.ref 39, .int 35, .int on, .int 0, .int 0]) (la := [some (.ref 39), some (.int 35), some (.int on), some (.int 0), some (.int 0)]) (rest := []) hi_220_34 (am_hd0 (M := 220) (by decide) 34) (Nat.le_of_ble_eq_true rfl) (Nat.le_of_ble_eq_true rfl) (show 5 ≤ am_P0.2.2.1 179 from by decide +kernel) rfl (am_recv_ok hS484.fs) rfl rfl (ct_pile (d := (d + 4)) hS484 hR485 (mj_e_plain (by decide)) (by show (0 : Int) ≤ (f 10).toInt; omega) (by show (f 10).toInt ≤ (65535 : Int); omega)) ?_
              rintro v486 S487 (⟨z488, g'489, hv490, hS491, hR494, h492, h493⟩)
              subst hv490
              have h492_ : z488.toInt = (f 10).toInt + 1 := h492
              have h493_ : ∀ j, j ∉ [11, 12, 13, 14] → g'489 j = g'468 j := h493
              replace hS491 : MS S0 S487 (upd (upd (upd (upd (upd (upd f 4 z267) 10 z488) 15 z365) 62 o448) 68 z466) 75 m450) g'489 := hS491
              have hR494_ : RJ (upd (upd (upd (upd (upd (upd f 4 z267) 10 z488) 15 z365) 62 o448) 68 z466) 75 m450) g'489 (((35 : Int), on.toInt, (0 : Int), (0 : Int), []) :: gs) bc [] 0 (s449.toNatClampNeg :: []) := hR494
              show am_E _ _ _ _ [some (.ref 39), some (.int on)] [] _ _
              refine am_e18 hi_220_37 ?_
              refine am_e35 hi_220_47 ?_
              show am_E _ _ _ _ [some (.ref 39), some (.int on), some (.int tw), some (.int 1)] [] _ _
              refine am_e35 hi_221_95 ?_
              show am_E _ _ _ _ [some (.ref 39), some (.int 39), some (.int on), some (.int tw)] [] _ _
              refine am_e18 hi_181_366 ?_
              refine am_e35 hi_181_397 ?_
              show am_E _ _ _ _ [some (.ref 39), some (.int 39), some (.int on), some (.int tw), some (.int th)] [] _ _
              refine am_e35 hi_180_13 ?_
              have q1 : mg_p1 (((35 : Int), on.toInt, (0 : Int), (0 : Int), []) :: gs) = 0 + (mg_p1 gs) := rfl
              have q2 : mg_p2 (((35 : Int), on.toInt, (0 : Int), (0 : Int), []) :: gs) = 0 + (mg_p2 gs) := rfl
              have q3 : mg_p3 (((35 : Int), on.toInt, (0 : Int), (0 : Int), []) :: gs) = 3 + (mg_p3 gs) := rfl
              have q4 : mg_p4 (((35 : Int), on.toInt, (0 : Int), (0 : Int), []) :: gs) = 0 + (mg_p4 gs) := rfl
              refine ⟨_, _, _, bc, rfl, hS491, Or.inl ⟨⟨(RJ.fewer (pj' := []) hR494_ (fun _ h => nomatch h)), ?_, ?_⟩, rfl, ?_⟩⟩
              · exact (⟨⟨(show mg_k 35 from by decide), (show (0 : Int) ≤ z365.toInt from by omega), (show 0 ≤ (f 20).toInt from by omega), (show 1 ≤ (f 37).toInt from by omega), (show 0 ≤ (f 32).toInt from by omega), (show (f 32).toInt ≤ (f 5).toInt from by omega), (show (f 5).toInt ≤ 48 from by omega), (show (f 37).toInt ≤ 2 * ((f 5).toInt) + 2 from by omega), trivial⟩, mg_cast (mg_good_ext _ _ _ _ _ _ (fun i _ => by show g'489 34 i = g 34 i; rw [show g'489 34 = g'468 34 from h493_ 34 (by decide), show g'468 34 = g'451 34 from h473_ 34 (by decide), show g'451 34 = g 34 from h459_ 34 (by decide)]) (fun i _ => by show g'489 38 i = g 38 i; rw [show g'489 38 = g'468 38 from h493_ 38 (by decide), show g'468 38 = g'451 38 from h473_ 38 (by decide), show g'451 38 = g 38 from h459_ 38 (by decide)]) (fun i _ => by show g'489 23 i = g 23 i; rw [show g'489 23 = g'468 23 from h493_ 23 (by decide), show g'468 23 = g'451 23 from h473_ 23 (by decide), show g'451 23 = g 23 from h459_ 23 (by decide)]) hrest) (by show (f 15).toInt + -1 = z365.toInt + 0; omega) (by show (f 20).toInt = (f 20).toInt; omega) (by show (f 37).toInt + 0 = (f 37).toInt + 0; omega) (by show (f 32).toInt + 0 = (f 32).toInt + 0; omega) (by show (f 5).toInt + -1 = (f 5).toInt + -1; omega)⟩ : mg_good (g'489 34) (g'489 38) (g'489 23) (((35 : Int), on.toInt, (0 : Int), (0 : Int), []) :: gs) (z365.toInt) ((f 20).toInt) ((f 37).toInt) ((f 32).toInt) ((f 5).toInt))
              · exact ⟨(by show 0 ≤ z267.toInt; omega), (by show z267.toInt ≤ (f 0).toInt; omega), (by show (f 0).toInt ≤ 512; omega), (by show 0 ≤ (f 24).toInt; omega), (by show (f 24).toInt + (f 20).toInt + mg_p1 (((35 : Int), on.toInt, (0 : Int), (0 : Int), []) :: gs) ≤ 4 * z267.toInt; omega), (by show (f 20).toInt ≤ z267.toInt; omega), (by show z365.toInt + mg_p2 (((35 : Int), on.toInt, (0 : Int), (0 : Int), []) :: gs) ≤ z267.toInt; omega), (by show mg_p3 (((35 : Int), on.toInt, (0 : Int), (0 : Int), []) :: gs) ≤ 20 * z267.toInt + 20; omega), (by show 0 ≤ z466.toInt; omega), (by show z466.toInt + 3 * (f 20).toInt + mg_p4 (((35 : Int), on.toInt, (0 : Int), (0 : Int), []) :: gs) ≤ 60 * z267.toInt + 60; omega), (by show 0 ≤ o448.toInt; omega), (by show o448.toInt + 64 * mj_n (g'489 16) z365.toNatClampNeg 3 ≤ 64 * z267.toInt; rw [show g'489 16 = g'468 16 from h493_ 16 (by decide), show g'468 16 = g'451 16 from h473_ 16 (by decide)]; omega), (by show 0 ≤ (f 44).toInt; omega), (by show (f 44).toInt ≤ z267.toInt; omega), (by show 0 ≤ (f 48).toInt; omega), (by show (f 48).toInt ≤ z267.toInt; omega), (by show 1 ≤ (f 53).toInt; omega), (by show (f 53).toInt ≤ z267.toInt + 1; omega), (by show 0 ≤ (f 19).toInt; omega), (by show (f 19).toInt ≤ 600; omega), (by show 0 ≤ (f 6).toInt; omega), (by show 0 ≤ (f 8).toInt; omega)⟩
              · show 100 * ((f 0).toInt - z267.toInt) + mg_p3 (((35 : Int), on.toInt, (0 : Int), (0 : Int), []) :: gs) < 100 * ((f 0).toInt - (f 4).toInt) + (1 + mg_p3 gs); omega
            · refine am_e13f hi_220_6 (am_cF (m := r477.toInt) (n := (69 : Int)) rfl (by decide) c482) ?_
              refine am_e2 (v := 39) hi_220_9 rfl ?_
              refine am_e32n (as := [.ref 39]) (la := [some (.ref 39)]) (rest := []) hi_220_10 (am_hd0 (M := 220) (by decide) 10) (Nat.le_of_ble_eq_true rfl) (Nat.le_of_ble_eq_true rfl) (show 1 ≤ am_P0.2.2.1 183 from by decide +kernel) rfl (am_recv_ok hS479.fs) rfl rfl (ct_next (d := (d + 3)) hS479   (by show (0 : Int) ≤ (f 4).toInt; omega) (by show (f 0).toInt ≤ (16384 : Int); omega)) ?_
              rintro v495 S496 (⟨r497, hv498, hS499, h500⟩)
              subst hv498
              have h500_ : (f 4).toInt < (f 0).toInt ∨ r497.toInt = (-1 : Int) := h500
              show am_E _ _ _ _ [some (.ref 39), some (.int on)] [.int r497] _ _
              refine am_e0 hi_220_13 ?_
              by_cases c502 : ¬ r497.toInt = (67 : Int)
              · refine am_e13t hi_220_15 (am_cT (m := r497.toInt) (n := (67 : Int)) rfl (by decide) c502) ?_
                refine am_e2 (v := 39) hi_220_40 rfl ?_
                refine am_e0 hi_220_41 ?_
                refine am_e32n (as := [.ref 39, .int 63]) (la := [some (.ref 39), some (.int 63)]) (rest := []) hi_220_43 (am_hd0 (M := 220) (by decide) 43) (Nat.le_of_ble_eq_true rfl) (Nat.le_of_ble_eq_true rfl) (show 2 ≤ am_P0.2.2.1 199 from by decide +kernel) rfl (am_recv_ok hS499.fs) rfl rfl (ct_leave (d := (d + 1)) hS499   (by show (0 : Int) ≤ (f 4).toInt; omega) (by show (f 0).toInt ≤ (16384 : Int); omega) (by show (0 : Int) ≤ (63 : Int); omega) (by show (0 : Int) ≤ (f 5).toInt; omega) (by show (f 5).toInt ≤ (48 : Int); omega) (by show (0 : Int) ≤ (f 6).toInt; omega)) ?_
                rintro v503 S504 (⟨z505, y506, hv507, hS508, h509, h510, h511⟩ | ⟨a513, b514, hv515, hS516, h517⟩)
                · subst hv507
                  have h509_ : z505.toInt = (f 4).toInt + 1 := h509
                  have h510_ : (f 4).toInt < (f 0).toInt := h510
                  have h511_ : y506.toInt = (f 5).toInt - 1 := h511
                  replace hS508 : MS S0 S504 (upd (upd (upd (upd (upd (upd f 4 z505) 5 y506) 15 z365) 62 o448) 68 z466) 75 m450) g'468 := hS508
                  have hR519 : RJ (upd (upd (upd (upd (upd (upd f 4 z505) 5 y506) 15 z365) 62 o448) 68 z466) 75 m450) g'468 gs bc [] 0 (s449.toNatClampNeg :: []) := RJ.at hR474_ (by show (f 4).toInt ≤ z505.toInt; omega)
                  show am_E _ _ _ _ [some (.ref 39), some (.int on)] [.int 1] _ _
                  refine am_e6i hi_220_46 ?_
                  refine am_e35 hi_220_47 ?_
                  show am_E _ _ _ _ [some (.ref 39), some (.int on), some (.int tw), some (.int 1)] [] _ _
                  refine am_e35 hi_221_95 ?_
                  show am_E _ _ _ _ [some (.ref 39), some (.int 39), some (.int on), some (.int tw)] [] _ _
                  refine am_e18 hi_181_366 ?_
                  refine am_e35 hi_181_397 ?_
                  show am_E _ _ _ _ [some (.ref 39), some (.int 39), some (.int on), some (.int tw), some (.int th)] [] _ _
                  refine am_e35 hi_180_13 ?_
                  have q1 : mg_p1 gs = mg_p1 gs := rfl
                  have q2 : mg_p2 gs = mg_p2 gs := rfl
                  have q3 : mg_p3 gs = mg_p3 gs := rfl
                  have q4 : mg_p4 gs = mg_p4 gs := rfl
                  refine ⟨_, _, _, bc, rfl, hS508, Or.inl ⟨⟨(RJ.fewer (pj' := []) hR519 (fun _ h => nomatch h)), ?_, ?_⟩, rfl, ?_⟩⟩
                  · exact (mg_cast (mg_good_ext _ _ _ _ _ _ (fun i _ => by show g'468 34 i = g 34 i; rw [show g'468 34 = g'451 34 from h473_ 34 (by decide), show g'451 34 = g 34 from h459_ 34 (by decide)]) (fun i _ => by show g'468 38 i = g 38 i; rw [show g'468 38 = g'451 38 from h473_ 38 (by decide), show g'451 38 = g 38 from h459_ 38 (by decide)]) (fun i _ => by show g'468 23 i = g 23 i; rw [show g'468 23 = g'451 23 from h473_ 23 (by decide), show g'451 23 = g 23 from h459_ 23 (by decide)]) hrest) (by show (f 15).toInt + -1 = z365.toInt; omega) (by show (f 20).toInt = (f 20).toInt; omega) (by show (f 37).toInt + 0 = (f 37).toInt; omega) (by show (f 32).toInt + 0 = (f 32).toInt; omega) (by show (f 5).toInt + -1 = y506.toInt; omega) : mg_good (g'468 34) (g'468 38) (g'468 23) gs (z365.toInt) ((f 20).toInt) ((f 37).toInt) ((f 32).toInt) (y506.toInt))
                  · exact ⟨(by show 0 ≤ z505.toInt; omega), (by show z505.toInt ≤ (f 0).toInt; omega), (by show (f 0).toInt ≤ 512; omega), (by show 0 ≤ (f 24).toInt; omega), (by show (f 24).toInt + (f 20).toInt + mg_p1 gs ≤ 4 * z505.toInt; omega), (by show (f 20).toInt ≤ z505.toInt; omega), (by show z365.toInt + mg_p2 gs ≤ z505.toInt; omega), (by show mg_p3 gs ≤ 20 * z505.toInt + 20; omega), (by show 0 ≤ z466.toInt; omega), (by show z466.toInt + 3 * (f 20).toInt + mg_p4 gs ≤ 60 * z505.toInt + 60; omega), (by show 0 ≤ o448.toInt; omega), (by show o448.toInt + 64 * mj_n (g'468 16) z365.toNatClampNeg 3 ≤ 64 * z505.toInt; rw [show g'468 16 = g'451 16 from h473_ 16 (by decide)]; omega), (by show 0 ≤ (f 44).toInt; omega), (by show (f 44).toInt ≤ z505.toInt; omega), (by show 0 ≤ (f 48).toInt; omega), (by show (f 48).toInt ≤ z505.toInt; omega), (by show 1 ≤ (f 53).toInt; omega), (by show (f 53).toInt ≤ z505.toInt + 1; omega), (by show 0 ≤ (f 19).toInt; omega), (by show (f 19).toInt ≤ 600; omega), (by show 0 ≤ (f 6).toInt; omega), (by show 0 ≤ (f 8).toInt; omega)⟩
                  · show 100 * ((f 0).toInt - z505.toInt) + mg_p3 gs < 100 * ((f 0).toInt - (f 4).toInt) + (1 + mg_p3 gs); omega
                · subst hv515
                  have h517_ : (0 : Int) ≤ a513.toInt := h517
                  replace hS516 : MS S0 S504 (upd (upd (upd (upd (upd (upd (upd f 6 a513) 7 b514) 10 0) 15 z365) 62 o448) 68 z466) 75 m450) g'468 := hS516
                  have hR520 := rj_clear0 hR474_
                  have hR521 : RJ (upd (upd (upd (upd (upd (upd (upd f 6 a513) 7 b514) 10 0) 15 z365) 62 o448) 68 z466) 75 m450) g'468 [] bc [] 0 [] := hR520
                  show am_E _ _ _ _ [some (.ref 39), some (.int on)] [.int 0] _ _
                  refine am_e6i hi_220_46 ?_
                  refine am_e35 hi_220_47 ?_
                  show am_E _ _ _ _ [some (.ref 39), some (.int on), some (.int tw), some (.int 1)] [] _ _
                  refine am_e35 hi_221_95 ?_
                  show am_E _ _ _ _ [some (.ref 39), some (.int 39), some (.int on), some (.int tw)] [] _ _
                  refine am_e18 hi_181_366 ?_
                  refine am_e35 hi_181_397 ?_
                  show am_E _ _ _ _ [some (.ref 39), some (.int 39), some (.int on), some (.int tw), some (.int th)] [] _ _
                  refine am_e35 hi_180_13 ?_
                  have hRc := rj_clear0 hR521
                  refine ⟨_, _, [], _, rfl, hS516, Or.inr ⟨hRc, rfl, (by show 0 ≤ (f 4).toInt; omega), (by show (f 4).toInt ≤ (f 0).toInt; omega), (by show 0 ≤ (f 32).toInt; omega), (by show (f 32).toInt ≤ 63; omega), (by show 1 ≤ (f 53).toInt; omega), (by show (f 53).toInt ≤ 600; omega), (by show 0 ≤ z466.toInt; omega), (by show z466.toInt ≤ 60000; omega), (by show 0 ≤ (f 48).toInt; omega), (by show (f 48).toInt ≤ 8000; omega), (by show 0 ≤ (f 37).toInt; omega), (by show (f 37).toInt ≤ 128; omega), (by show 0 ≤ o448.toInt; omega), (by show o448.toInt ≤ 65000; omega), (by show 0 ≤ (f 19).toInt; omega), (by show (f 19).toInt ≤ 600; omega), (by show 0 ≤ a513.toInt; omega), (by show 0 ≤ (f 8).toInt; omega)⟩⟩
              · refine am_e13f hi_220_15 (am_cF (m := r497.toInt) (n := (67 : Int)) rfl (by decide) c502) ?_
                refine am_e2 (v := 39) hi_220_18 rfl ?_
                refine am_e7 hi_220_19 ?_
                refine mm_20 (v := .int (f 4)) hS499 hi_220_20 rfl ?_
                refine am_e0 hi_220_23 ?_
                refine am_e10 (z := z267) hi_220_24 hz267 ?_
                refine mm_21 (v := z267) hS499 hi_220_25 rfl (Nat.le_of_ble_eq_true rfl) ms_4 ?_
                intro S522 hS523
                replace hS523 : MS S0 S522 (upd (upd (upd (upd (upd f 4 z267) 15 z365) 62 o448) 68 z466) 75 m450) g'468 := hS523
                have hR524 : RJ (upd (upd (upd (upd (upd f 4 z267) 15 z365) 62 o448) 68 z466) 75 m450) g'468 gs bc [] 0 (s449.toNatClampNeg :: []) := RJ.at hR474_ (by show (f 4).toInt ≤ z267.toInt; omega)
                refine am_e2 (v := 39) hi_220_28 rfl ?_
                refine am_e0 hi_220_29 ?_
                refine am_e1 (v := on) hi_220_31 rfl ?_
                refine am_e0 hi_220_32 ?_
                refine am_e0 hi_220_33 ?_
                refine am_e32n (as := [.ref 39, .int 35, .int on, .int 0, .int 0]) (la := [some (.ref 39), some (.int 35), some (.int on), some (.int 0), some (.int 0)]) (rest := []) hi_220_34 (am_hd0 (M := 220) (by decide) 34) (Nat.le_of_ble_eq_true rfl) (Nat.le_of_ble_eq_true rfl) (show 5 ≤ am_P0.2.2.1 179 from by decide +kernel) rfl (am_recv_ok hS523.fs) rfl rfl (ct_pile (d := (d + 4)) hS523 hR524 (mj_e_plain (by decide)) (by show (0 : Int) ≤ (f 10).toInt; omega) (by show (f 10).toInt ≤ (65535 : Int); omega)) ?_
                rintro v525 S526 (⟨z527, g'528, hv529, hS530, hR533, h531, h532⟩)
                subst hv529
                have h531_ : z527.toInt = (f 10).toInt + 1 := h531
                have h532_ : ∀ j, j ∉ [11, 12, 13, 14] → g'528 j = g'468 j := h532
                replace hS530 : MS S0 S526 (upd (upd (upd (upd (upd (upd f 4 z267) 10 z527) 15 z365) 62 o448) 68 z466) 75 m450) g'528 := hS530
                have hR533_ : RJ (upd (upd (upd (upd (upd (upd f 4 z267) 10 z527) 15 z365) 62 o448) 68 z466) 75 m450) g'528 (((35 : Int), on.toInt, (0 : Int), (0 : Int), []) :: gs) bc [] 0 (s449.toNatClampNeg :: []) := hR533
                show am_E _ _ _ _ [some (.ref 39), some (.int on)] [] _ _
                refine am_e18 hi_220_37 ?_
                refine am_e35 hi_220_47 ?_
                show am_E _ _ _ _ [some (.ref 39), some (.int on), some (.int tw), some (.int 1)] [] _ _
                refine am_e35 hi_221_95 ?_
                show am_E _ _ _ _ [some (.ref 39), some (.int 39), some (.int on), some (.int tw)] [] _ _
                refine am_e18 hi_181_366 ?_
                refine am_e35 hi_181_397 ?_
                show am_E _ _ _ _ [some (.ref 39), some (.int 39), some (.int on), some (.int tw), some (.int th)] [] _ _
                refine am_e35 hi_180_13 ?_
                have q1 : mg_p1 (((35 : Int), on.toInt, (0 : Int), (0 : Int), []) :: gs) = 0 + (mg_p1 gs) := rfl
                have q2 : mg_p2 (((35 : Int), on.toInt, (0 : Int), (0 : Int), []) :: gs) = 0 + (mg_p2 gs) := rfl
                have q3 : mg_p3 (((35 : Int), on.toInt, (0 : Int), (0 : Int), []) :: gs) = 3 + (mg_p3 gs) := rfl
                have q4 : mg_p4 (((35 : Int), on.toInt, (0 : Int), (0 : Int), []) :: gs) = 0 + (mg_p4 gs) := rfl
                refine ⟨_, _, _, bc, rfl, hS530, Or.inl ⟨⟨(RJ.fewer (pj' := []) hR533_ (fun _ h => nomatch h)), ?_, ?_⟩, rfl, ?_⟩⟩
                · exact (⟨⟨(show mg_k 35 from by decide), (show (0 : Int) ≤ z365.toInt from by omega), (show 0 ≤ (f 20).toInt from by omega), (show 1 ≤ (f 37).toInt from by omega), (show 0 ≤ (f 32).toInt from by omega), (show (f 32).toInt ≤ (f 5).toInt from by omega), (show (f 5).toInt ≤ 48 from by omega), (show (f 37).toInt ≤ 2 * ((f 5).toInt) + 2 from by omega), trivial⟩, mg_cast (mg_good_ext _ _ _ _ _ _ (fun i _ => by show g'528 34 i = g 34 i; rw [show g'528 34 = g'468 34 from h532_ 34 (by decide), show g'468 34 = g'451 34 from h473_ 34 (by decide), show g'451 34 = g 34 from h459_ 34 (by decide)]) (fun i _ => by show g'528 38 i = g 38 i; rw [show g'528 38 = g'468 38 from h532_ 38 (by decide), show g'468 38 = g'451 38 from h473_ 38 (by decide), show g'451 38 = g 38 from h459_ 38 (by decide)]) (fun i _ => by show g'528 23 i = g 23 i; rw [show g'528 23 = g'468 23 from h532_ 23 (by decide), show g'468 23 = g'451 23 from h473_ 23 (by decide), show g'451 23 = g 23 from h459_ 23 (by decide)]) hrest) (by show (f 15).toInt + -1 = z365.toInt + 0; omega) (by show (f 20).toInt = (f 20).toInt; omega) (by show (f 37).toInt + 0 = (f 37).toInt + 0; omega) (by show (f 32).toInt + 0 = (f 32).toInt + 0; omega) (by show (f 5).toInt + -1 = (f 5).toInt + -1; omega)⟩ : mg_good (g'528 34) (g'528 38) (g'528 23) (((35 : Int), on.toInt, (0 : Int), (0 : Int), []) :: gs) (z365.toInt) ((f 20).toInt) ((f 37).toInt) ((f 32).toInt) ((f 5).toInt))
                · exact ⟨(by show 0 ≤ z267.toInt; omega), (by show z267.toInt ≤ (f 0).toInt; omega), (by show (f 0).toInt ≤ 512; omega), (by show 0 ≤ (f 24).toInt; omega), (by show (f 24).toInt + (f 20).toInt + mg_p1 (((35 : Int), on.toInt, (0 : Int), (0 : Int), []) :: gs) ≤ 4 * z267.toInt; omega), (by show (f 20).toInt ≤ z267.toInt; omega), (by show z365.toInt + mg_p2 (((35 : Int), on.toInt, (0 : Int), (0 : Int), []) :: gs) ≤ z267.toInt; omega), (by show mg_p3 (((35 : Int), on.toInt, (0 : Int), (0 : Int), []) :: gs) ≤ 20 * z267.toInt + 20; omega), (by show 0 ≤ z466.toInt; omega), (by show z466.toInt + 3 * (f 20).toInt + mg_p4 (((35 : Int), on.toInt, (0 : Int), (0 : Int), []) :: gs) ≤ 60 * z267.toInt + 60; omega), (by show 0 ≤ o448.toInt; omega), (by show o448.toInt + 64 * mj_n (g'528 16) z365.toNatClampNeg 3 ≤ 64 * z267.toInt; rw [show g'528 16 = g'468 16 from h532_ 16 (by decide), show g'468 16 = g'451 16 from h473_ 16 (by decide)]; omega), (by show 0 ≤ (f 44).toInt; omega), (by show (f 44).toInt ≤ z267.toInt; omega), (by show 0 ≤ (f 48).toInt; omega), (by show (f 48).toInt ≤ z267.toInt; omega), (by show 1 ≤ (f 53).toInt; omega), (by show (f 53).toInt ≤ z267.toInt + 1; omega), (by show 0 ≤ (f 19).toInt; omega), (by show (f 19).toInt ≤ 600; omega), (by show 0 ≤ (f 6).toInt; omega), (by show 0 ≤ (f 8).toInt; omega)⟩
                · show 100 * ((f 0).toInt - z267.toInt) + mg_p3 (((35 : Int), on.toInt, (0 : Int), (0 : Int), []) :: gs) < 100 * ((f 0).toInt - (f 4).toInt) + (1 + mg_p3 gs); omega
          · refine am_e13f hi_216_27 (am_cF (m := (g 16 z365.toNatClampNeg).toInt) (n := (2 : Int)) rfl (by decide) c445) ?_
            refine am_e0 hi_216_30 ?_
            refine am_e18 hi_216_31 ?_
            refine am_e36 hi_216_35 (by decide) ?_
            show am_E _ _ _ _ [some (.ref 39), some (.int on), some (.int tw), some (.int 1)] [.int 1] _ _
            refine am_e12f hi_221_56 (by decide) ?_
            refine am_e2 (v := 39) hi_221_59 rfl ?_
            refine am_e32w (as := [.ref 39]) (la := [some (.ref 39), none]) (rest := []) hi_221_60 (am_hd0 (M := 221) (by decide) 60) (Nat.le_of_ble_eq_true rfl) (Nat.le_of_ble_eq_true rfl) (show 1 ≤ am_P0.2.2.1 217 from by decide +kernel) rfl (am_recv_ok hS272.fs) rfl rfl ?_
            refine am_e2 (v := 39) hi_217_0 rfl ?_
            refine mm_20 (v := .ref 47) hS272 hi_217_1 rfl ?_
            refine am_e2 (v := 39) hi_217_4 rfl ?_
            refine mm_20 (v := .int (f 15)) hS272 hi_217_5 rfl ?_
            refine am_e0 hi_217_8 ?_
            refine am_e10 (z := z365) hi_217_9 hz365 ?_
            refine mm_25 hS272 ma_17 hi_217_10 (by decide) (by omega) (by omega) ?_
            show am_E _ _ _ _ [some (.ref 39), none] [.int (g 17 z365.toNatClampNeg)] _ _
            have r534 : (g 16 z365.toNatClampNeg).toInt = 1 ∨ (g 16 z365.toNatClampNeg).toInt = 2 → 0 ≤ (g 17 z365.toNatClampNeg).toInt ∧ (g 17 z365.toNatClampNeg).toInt < 65536 := RJ.vc hR z365.toNatClampNeg
            refine am_e3 (ls' := [some (.ref 39), some (.int (g 17 z365.toNatClampNeg))]) hi_217_11 (Nat.le_of_ble_eq_true rfl) rfl ?_
            refine am_e2 (v := 39) hi_217_12 rfl ?_
            refine mm_20 (v := .ref 91) hS272 hi_217_13 rfl ?_
            refine am_e1 (v := g 17 z365.toNatClampNeg) hi_217_16 rfl ?_
            refine am_e2 (v := 39) hi_217_17 rfl ?_
            refine mm_20 (v := .ref 46) hS272 hi_217_18 rfl ?_
            refine am_e2 (v := 39) hi_217_21 rfl ?_
            refine mm_20 (v := .int (f 15)) hS272 hi_217_22 rfl ?_
            refine am_e0 hi_217_25 ?_
            refine am_e10 (z := z365) hi_217_26 hz365 ?_
            refine mm_25 hS272 ma_16 hi_217_27 (by decide) (by omega) (by omega) ?_
            show am_E _ _ _ _ [some (.ref 39), some (.int (g 17 z365.toNatClampNeg))] [.int (g 16 z365.toNatClampNeg), .int (g 17 z365.toNatClampNeg), .ref 91] _ _
            refine am_e0 hi_217_28 ?_
            refine am_e13t hi_217_29 (am_cT (m := (g 16 z365.toNatClampNeg).toInt) (n := (1 : Int)) rfl (by decide) (by simp only [am_cI]; omega)) ?_
            refine am_e0 hi_217_45 ?_
            refine mm_26 hS272 ma_72 hi_217_46 (by decide) (by omega) (by omega) (fun h => nomatch h) ?_
            intro S535 hS536
            refine am_e2 (v := 39) hi_217_47 rfl ?_
            refine am_e7 hi_217_48 ?_
            refine mm_20 (v := .int (f 15)) hS536 hi_217_49 rfl ?_
            refine am_e0 hi_217_52 ?_
            refine am_e10 (z := z365) hi_217_53 hz365 ?_
            refine mm_21 (v := z365) hS536 hi_217_54 rfl (Nat.le_of_ble_eq_true rfl) ms_15 ?_
            intro S537 hS538
            have hp539 : mj_n (g 16) (f 15).toNatClampNeg 3 = mj_n (g 16) z365.toNatClampNeg 3 + if (g 16 z365.toNatClampNeg).toInt = 3 then 1 else 0 := mj_pop (by rw [cl_toNat, cl_toNat]; omega)
            have hp5391 : mj_n (g 16) z365.toNatClampNeg 3 ≤ mj_n (g 16) (f 15).toNatClampNeg 3 := by rw [hp539]; split <;> omega
            have hp5392 : (g 16 z365.toNatClampNeg).toInt = 3 → mj_n (g 16) z365.toNatClampNeg 3 + 1 ≤ mj_n (g 16) (f 15).toNatClampNeg 3 := fun q => by rw [hp539, if_pos q]; exact Int.le_refl _
            refine am_e35 hi_217_57 ?_
            show am_E _ _ _ _ [some (.ref 39), some (.int on), some (.int tw), some (.int 1)] [] _ _
            refine am_e2 (v := 39) hi_221_63 rfl ?_
            refine am_e0 hi_221_64 ?_
            refine am_e1 (v := on) hi_221_66 rfl ?_
            refine am_e0 hi_221_67 ?_
            refine am_e1 (v := tw) hi_221_68 rfl ?_
            refine am_e32n (as := [.ref 39, .int 24, .int on, .int 0, .int tw]) (la := [some (.ref 39), some (.int 24), some (.int on), some (.int 0), some (.int tw)]) (rest := []) hi_221_69 (am_hd0 (M := 221) (by decide) 69) (Nat.le_of_ble_eq_true rfl) (Nat.le_of_ble_eq_true rfl) (show 5 ≤ am_P0.2.2.1 189 from by decide +kernel) rfl (am_recv_ok hS538.fs) rfl rfl (ct_put (d := (d + 5)) hS538 hR  (by show (0 : Int) ≤ (f 32).toInt; omega) (by show (f 32).toInt ≤ (63 : Int); omega) (by show (f 53).toInt ≤ (4096 : Int); omega) (by show (0 : Int) ≤ (f 68).toInt; omega) (by show (f 68).toInt ≤ (65534 : Int); omega)) ?_
            rintro v540 S541 (⟨z542, r543, g'544, hv545, hS546, hR550, h547, h548, h549⟩)
            subst hv545
            have h547_ : z542.toInt = (f 68).toInt + 1 := h547
            have h548_ : r543.toInt = (f 68).toInt := h548
            have h549_ : ∀ j, j ∉ [60, 69, 70, 71, 72, 73] → g'544 j = (upg g 72 (g 17 z365.toNatClampNeg).toNatClampNeg 0) j := h549
            have hR550_ : RJ (upd (upd f 15 z365) 68 z542) g'544 gs bc [] 0 ((f 68).toNatClampNeg :: []) := hR550
            show am_E _ _ _ _ [some (.ref 39), some (.int on), some (.int tw), some (.int 1)] [.int r543] _ _
            refine am_e6i hi_221_72 ?_
            refine am_e18 hi_221_73 ?_
            refine am_e2 (v := 39) hi_221_90 rfl ?_
            refine am_e1 (v := on) hi_221_91 rfl ?_
            refine am_e32w (as := [.ref 39, .int on]) (la := [some (.ref 39), some (.int on)]) (rest := []) hi_221_92 (am_hd0 (M := 221) (by decide) 92) (Nat.le_of_ble_eq_true rfl) (Nat.le_of_ble_eq_true rfl) (show 2 ≤ am_P0.2.2.1 220 from by decide +kernel) rfl (am_recv_ok hS546.fs) rfl rfl ?_
            refine am_e2 (v := 39) hi_220_0 rfl ?_
            refine am_e32n (as := [.ref 39]) (la := [some (.ref 39)]) (rest := []) hi_220_1 (am_hd0 (M := 220) (by decide) 1) (Nat.le_of_ble_eq_true rfl) (Nat.le_of_ble_eq_true rfl) (show 1 ≤ am_P0.2.2.1 183 from by decide +kernel) rfl (am_recv_ok hS546.fs) rfl rfl (ct_next (d := (d + 3)) hS546   (by show (0 : Int) ≤ (f 4).toInt; omega) (by show (f 0).toInt ≤ (16384 : Int); omega)) ?_
            rintro v551 S552 (⟨r553, hv554, hS555, h556⟩)
            subst hv554
            have h556_ : (f 4).toInt < (f 0).toInt ∨ r553.toInt = (-1 : Int) := h556
            show am_E _ _ _ _ [some (.ref 39), some (.int on)] [.int r553] _ _
            refine am_e0 hi_220_4 ?_
            by_cases c558 : r553.toInt = (69 : Int)
            · refine am_e13t hi_220_6 (am_cT (m := r553.toInt) (n := (69 : Int)) rfl (by decide) c558) ?_
              refine am_e2 (v := 39) hi_220_18 rfl ?_
              refine am_e7 hi_220_19 ?_
              refine mm_20 (v := .int (f 4)) hS555 hi_220_20 rfl ?_
              refine am_e0 hi_220_23 ?_
              refine am_e10 (z := z267) hi_220_24 hz267 ?_
              refine mm_21 (v := z267) hS555 hi_220_25 rfl (Nat.le_of_ble_eq_true rfl) ms_4 ?_
              intro S559 hS560
              replace hS560 : MS S0 S559 (upd (upd (upd f 4 z267) 15 z365) 68 z542) g'544 := hS560
              have hR561 : RJ (upd (upd (upd f 4 z267) 15 z365) 68 z542) g'544 gs bc [] 0 ((f 68).toNatClampNeg :: []) := RJ.at hR550_ (by show (f 4).toInt ≤ z267.toInt; omega)
              refine am_e2 (v := 39) hi_220_28 rfl ?_
              refine am_e0 hi_220_29 ?_
              refine am_e1 (v := on) hi_220_31 rfl ?_
              refine am_e0 hi_220_32 ?_
              refine am_e0 hi_220_33 ?_
              refine am_e32n (as := [.ref 39, .int 35, .int on, .int 0, .int 0]) (la := [some (.ref 39), some (.int 35), some (.int on), some (.int 0), some (.int 0)]) (rest := []) hi_220_34 (am_hd0 (M := 220) (by decide) 34) (Nat.le_of_ble_eq_true rfl) (Nat.le_of_ble_eq_true rfl) (show 5 ≤ am_P0.2.2.1 179 from by decide +kernel) rfl (am_recv_ok hS560.fs) rfl rfl (ct_pile (d := (d + 4)) hS560 hR561 (mj_e_plain (by decide)) (by show (0 : Int) ≤ (f 10).toInt; omega) (by show (f 10).toInt ≤ (65535 : Int); omega)) ?_
              rintro v562 S563 (⟨z564, g'565, hv566, hS567, hR570, h568, h569⟩)
              subst hv566
              have h568_ : z564.toInt = (f 10).toInt + 1 := h568
              have h569_ : ∀ j, j ∉ [11, 12, 13, 14] → g'565 j = g'544 j := h569
              replace hS567 : MS S0 S563 (upd (upd (upd (upd f 4 z267) 10 z564) 15 z365) 68 z542) g'565 := hS567
              have hR570_ : RJ (upd (upd (upd (upd f 4 z267) 10 z564) 15 z365) 68 z542) g'565 (((35 : Int), on.toInt, (0 : Int), (0 : Int), []) :: gs) bc [] 0 ((f 68).toNatClampNeg :: []) := hR570
              show am_E _ _ _ _ [some (.ref 39), some (.int on)] [] _ _
              refine am_e18 hi_220_37 ?_
              refine am_e35 hi_220_47 ?_
              show am_E _ _ _ _ [some (.ref 39), some (.int on), some (.int tw), some (.int 1)] [] _ _
              refine am_e35 hi_221_95 ?_
              show am_E _ _ _ _ [some (.ref 39), some (.int 39), some (.int on), some (.int tw)] [] _ _
              refine am_e18 hi_181_366 ?_
              refine am_e35 hi_181_397 ?_
              show am_E _ _ _ _ [some (.ref 39), some (.int 39), some (.int on), some (.int tw), some (.int th)] [] _ _
              refine am_e35 hi_180_13 ?_
              have q1 : mg_p1 (((35 : Int), on.toInt, (0 : Int), (0 : Int), []) :: gs) = 0 + (mg_p1 gs) := rfl
              have q2 : mg_p2 (((35 : Int), on.toInt, (0 : Int), (0 : Int), []) :: gs) = 0 + (mg_p2 gs) := rfl
              have q3 : mg_p3 (((35 : Int), on.toInt, (0 : Int), (0 : Int), []) :: gs) = 3 + (mg_p3 gs) := rfl
              have q4 : mg_p4 (((35 : Int), on.toInt, (0 : Int), (0 : Int), []) :: gs) = 0 + (mg_p4 gs) := rfl
              refine ⟨_, _, _, bc, rfl, hS567, Or.inl ⟨⟨(RJ.fewer (pj' := []) hR570_ (fun _ h => nomatch h)), ?_, ?_⟩, rfl, ?_⟩⟩
              · exact (⟨⟨(show mg_k 35 from by decide), (show (0 : Int) ≤ z365.toInt from by omega), (show 0 ≤ (f 20).toInt from by omega), (show 1 ≤ (f 37).toInt from by omega), (show 0 ≤ (f 32).toInt from by omega), (show (f 32).toInt ≤ (f 5).toInt from by omega), (show (f 5).toInt ≤ 48 from by omega), (show (f 37).toInt ≤ 2 * ((f 5).toInt) + 2 from by omega), trivial⟩, mg_cast (mg_good_ext _ _ _ _ _ _ (fun i _ => by show g'565 34 i = g 34 i; rw [show g'565 34 = g'544 34 from h569_ 34 (by decide), show g'544 34 = g 34 from h549_ 34 (by decide)]) (fun i _ => by show g'565 38 i = g 38 i; rw [show g'565 38 = g'544 38 from h569_ 38 (by decide), show g'544 38 = g 38 from h549_ 38 (by decide)]) (fun i _ => by show g'565 23 i = g 23 i; rw [show g'565 23 = g'544 23 from h569_ 23 (by decide), show g'544 23 = g 23 from h549_ 23 (by decide)]) hrest) (by show (f 15).toInt + -1 = z365.toInt + 0; omega) (by show (f 20).toInt = (f 20).toInt; omega) (by show (f 37).toInt + 0 = (f 37).toInt + 0; omega) (by show (f 32).toInt + 0 = (f 32).toInt + 0; omega) (by show (f 5).toInt + -1 = (f 5).toInt + -1; omega)⟩ : mg_good (g'565 34) (g'565 38) (g'565 23) (((35 : Int), on.toInt, (0 : Int), (0 : Int), []) :: gs) (z365.toInt) ((f 20).toInt) ((f 37).toInt) ((f 32).toInt) ((f 5).toInt))
              · exact ⟨(by show 0 ≤ z267.toInt; omega), (by show z267.toInt ≤ (f 0).toInt; omega), (by show (f 0).toInt ≤ 512; omega), (by show 0 ≤ (f 24).toInt; omega), (by show (f 24).toInt + (f 20).toInt + mg_p1 (((35 : Int), on.toInt, (0 : Int), (0 : Int), []) :: gs) ≤ 4 * z267.toInt; omega), (by show (f 20).toInt ≤ z267.toInt; omega), (by show z365.toInt + mg_p2 (((35 : Int), on.toInt, (0 : Int), (0 : Int), []) :: gs) ≤ z267.toInt; omega), (by show mg_p3 (((35 : Int), on.toInt, (0 : Int), (0 : Int), []) :: gs) ≤ 20 * z267.toInt + 20; omega), (by show 0 ≤ z542.toInt; omega), (by show z542.toInt + 3 * (f 20).toInt + mg_p4 (((35 : Int), on.toInt, (0 : Int), (0 : Int), []) :: gs) ≤ 60 * z267.toInt + 60; omega), (by show 0 ≤ (f 62).toInt; omega), (by show (f 62).toInt + 64 * mj_n (g'565 16) z365.toNatClampNeg 3 ≤ 64 * z267.toInt; rw [show g'565 16 = g'544 16 from h569_ 16 (by decide), show g'544 16 = g 16 from h549_ 16 (by decide)]; omega), (by show 0 ≤ (f 44).toInt; omega), (by show (f 44).toInt ≤ z267.toInt; omega), (by show 0 ≤ (f 48).toInt; omega), (by show (f 48).toInt ≤ z267.toInt; omega), (by show 1 ≤ (f 53).toInt; omega), (by show (f 53).toInt ≤ z267.toInt + 1; omega), (by show 0 ≤ (f 19).toInt; omega), (by show (f 19).toInt ≤ 600; omega), (by show 0 ≤ (f 6).toInt; omega), (by show 0 ≤ (f 8).toInt; omega)⟩
              · show 100 * ((f 0).toInt - z267.toInt) + mg_p3 (((35 : Int), on.toInt, (0 : Int), (0 : Int), []) :: gs) < 100 * ((f 0).toInt - (f 4).toInt) + (1 + mg_p3 gs); omega
            · refine am_e13f hi_220_6 (am_cF (m := r553.toInt) (n := (69 : Int)) rfl (by decide) c558) ?_
              refine am_e2 (v := 39) hi_220_9 rfl ?_
              refine am_e32n (as := [.ref 39]) (la := [some (.ref 39)]) (rest := []) hi_220_10 (am_hd0 (M := 220) (by decide) 10) (Nat.le_of_ble_eq_true rfl) (Nat.le_of_ble_eq_true rfl) (show 1 ≤ am_P0.2.2.1 183 from by decide +kernel) rfl (am_recv_ok hS555.fs) rfl rfl (ct_next (d := (d + 3)) hS555   (by show (0 : Int) ≤ (f 4).toInt; omega) (by show (f 0).toInt ≤ (16384 : Int); omega)) ?_
              rintro v571 S572 (⟨r573, hv574, hS575, h576⟩)
              subst hv574
              have h576_ : (f 4).toInt < (f 0).toInt ∨ r573.toInt = (-1 : Int) := h576
              show am_E _ _ _ _ [some (.ref 39), some (.int on)] [.int r573] _ _
              refine am_e0 hi_220_13 ?_
              by_cases c578 : ¬ r573.toInt = (67 : Int)
              · refine am_e13t hi_220_15 (am_cT (m := r573.toInt) (n := (67 : Int)) rfl (by decide) c578) ?_
                refine am_e2 (v := 39) hi_220_40 rfl ?_
                refine am_e0 hi_220_41 ?_
                refine am_e32n (as := [.ref 39, .int 63]) (la := [some (.ref 39), some (.int 63)]) (rest := []) hi_220_43 (am_hd0 (M := 220) (by decide) 43) (Nat.le_of_ble_eq_true rfl) (Nat.le_of_ble_eq_true rfl) (show 2 ≤ am_P0.2.2.1 199 from by decide +kernel) rfl (am_recv_ok hS575.fs) rfl rfl (ct_leave (d := (d + 1)) hS575   (by show (0 : Int) ≤ (f 4).toInt; omega) (by show (f 0).toInt ≤ (16384 : Int); omega) (by show (0 : Int) ≤ (63 : Int); omega) (by show (0 : Int) ≤ (f 5).toInt; omega) (by show (f 5).toInt ≤ (48 : Int); omega) (by show (0 : Int) ≤ (f 6).toInt; omega)) ?_
                rintro v579 S580 (⟨z581, y582, hv583, hS584, h585, h586, h587⟩ | ⟨a589, b590, hv591, hS592, h593⟩)
                · subst hv583
                  have h585_ : z581.toInt = (f 4).toInt + 1 := h585
                  have h586_ : (f 4).toInt < (f 0).toInt := h586
                  have h587_ : y582.toInt = (f 5).toInt - 1 := h587
                  replace hS584 : MS S0 S580 (upd (upd (upd (upd f 4 z581) 5 y582) 15 z365) 68 z542) g'544 := hS584
                  have hR595 : RJ (upd (upd (upd (upd f 4 z581) 5 y582) 15 z365) 68 z542) g'544 gs bc [] 0 ((f 68).toNatClampNeg :: []) := RJ.at hR550_ (by show (f 4).toInt ≤ z581.toInt; omega)
                  show am_E _ _ _ _ [some (.ref 39), some (.int on)] [.int 1] _ _
                  refine am_e6i hi_220_46 ?_
                  refine am_e35 hi_220_47 ?_
                  show am_E _ _ _ _ [some (.ref 39), some (.int on), some (.int tw), some (.int 1)] [] _ _
                  refine am_e35 hi_221_95 ?_
                  show am_E _ _ _ _ [some (.ref 39), some (.int 39), some (.int on), some (.int tw)] [] _ _
                  refine am_e18 hi_181_366 ?_
                  refine am_e35 hi_181_397 ?_
                  show am_E _ _ _ _ [some (.ref 39), some (.int 39), some (.int on), some (.int tw), some (.int th)] [] _ _
                  refine am_e35 hi_180_13 ?_
                  have q1 : mg_p1 gs = mg_p1 gs := rfl
                  have q2 : mg_p2 gs = mg_p2 gs := rfl
                  have q3 : mg_p3 gs = mg_p3 gs := rfl
                  have q4 : mg_p4 gs = mg_p4 gs := rfl
                  refine ⟨_, _, _, bc, rfl, hS584, Or.inl ⟨⟨(RJ.fewer (pj' := []) hR595 (fun _ h => nomatch h)), ?_, ?_⟩, rfl, ?_⟩⟩
                  · exact (mg_cast (mg_good_ext _ _ _ _ _ _ (fun i _ => by show g'544 34 i = g 34 i; rw [show g'544 34 = g 34 from h549_ 34 (by decide)]) (fun i _ => by show g'544 38 i = g 38 i; rw [show g'544 38 = g 38 from h549_ 38 (by decide)]) (fun i _ => by show g'544 23 i = g 23 i; rw [show g'544 23 = g 23 from h549_ 23 (by decide)]) hrest) (by show (f 15).toInt + -1 = z365.toInt; omega) (by show (f 20).toInt = (f 20).toInt; omega) (by show (f 37).toInt + 0 = (f 37).toInt; omega) (by show (f 32).toInt + 0 = (f 32).toInt; omega) (by show (f 5).toInt + -1 = y582.toInt; omega) : mg_good (g'544 34) (g'544 38) (g'544 23) gs (z365.toInt) ((f 20).toInt) ((f 37).toInt) ((f 32).toInt) (y582.toInt))
                  · exact ⟨(by show 0 ≤ z581.toInt; omega), (by show z581.toInt ≤ (f 0).toInt; omega), (by show (f 0).toInt ≤ 512; omega), (by show 0 ≤ (f 24).toInt; omega), (by show (f 24).toInt + (f 20).toInt + mg_p1 gs ≤ 4 * z581.toInt; omega), (by show (f 20).toInt ≤ z581.toInt; omega), (by show z365.toInt + mg_p2 gs ≤ z581.toInt; omega), (by show mg_p3 gs ≤ 20 * z581.toInt + 20; omega), (by show 0 ≤ z542.toInt; omega), (by show z542.toInt + 3 * (f 20).toInt + mg_p4 gs ≤ 60 * z581.toInt + 60; omega), (by show 0 ≤ (f 62).toInt; omega), (by show (f 62).toInt + 64 * mj_n (g'544 16) z365.toNatClampNeg 3 ≤ 64 * z581.toInt; rw [show g'544 16 = g 16 from h549_ 16 (by decide)]; omega), (by show 0 ≤ (f 44).toInt; omega), (by show (f 44).toInt ≤ z581.toInt; omega), (by show 0 ≤ (f 48).toInt; omega), (by show (f 48).toInt ≤ z581.toInt; omega), (by show 1 ≤ (f 53).toInt; omega), (by show (f 53).toInt ≤ z581.toInt + 1; omega), (by show 0 ≤ (f 19).toInt; omega), (by show (f 19).toInt ≤ 600; omega), (by show 0 ≤ (f 6).toInt; omega), (by show 0 ≤ (f 8).toInt; omega)⟩
                  · show 100 * ((f 0).toInt - z581.toInt) + mg_p3 gs < 100 * ((f 0).toInt - (f 4).toInt) + (1 + mg_p3 gs); omega
                · subst hv591
                  have h593_ : (0 : Int) ≤ a589.toInt := h593
                  replace hS592 : MS S0 S580 (upd (upd (upd (upd (upd f 6 a589) 7 b590) 10 0) 15 z365) 68 z542) g'544 := hS592
                  have hR596 := rj_clear0 hR550_
                  have hR597 : RJ (upd (upd (upd (upd (upd f 6 a589) 7 b590) 10 0) 15 z365) 68 z542) g'544 [] bc [] 0 [] := hR596
                  show am_E _ _ _ _ [some (.ref 39), some (.int on)] [.int 0] _ _
                  refine am_e6i hi_220_46 ?_
                  refine am_e35 hi_220_47 ?_
                  show am_E _ _ _ _ [some (.ref 39), some (.int on), some (.int tw), some (.int 1)] [] _ _
                  refine am_e35 hi_221_95 ?_
                  show am_E _ _ _ _ [some (.ref 39), some (.int 39), some (.int on), some (.int tw)] [] _ _
                  refine am_e18 hi_181_366 ?_
                  refine am_e35 hi_181_397 ?_
                  show am_E _ _ _ _ [some (.ref 39), some (.int 39), some (.int on), some (.int tw), some (.int th)] [] _ _
                  refine am_e35 hi_180_13 ?_
                  have hRc := rj_clear0 hR597
                  refine ⟨_, _, [], _, rfl, hS592, Or.inr ⟨hRc, rfl, (by show 0 ≤ (f 4).toInt; omega), (by show (f 4).toInt ≤ (f 0).toInt; omega), (by show 0 ≤ (f 32).toInt; omega), (by show (f 32).toInt ≤ 63; omega), (by show 1 ≤ (f 53).toInt; omega), (by show (f 53).toInt ≤ 600; omega), (by show 0 ≤ z542.toInt; omega), (by show z542.toInt ≤ 60000; omega), (by show 0 ≤ (f 48).toInt; omega), (by show (f 48).toInt ≤ 8000; omega), (by show 0 ≤ (f 37).toInt; omega), (by show (f 37).toInt ≤ 128; omega), (by show 0 ≤ (f 62).toInt; omega), (by show (f 62).toInt ≤ 65000; omega), (by show 0 ≤ (f 19).toInt; omega), (by show (f 19).toInt ≤ 600; omega), (by show 0 ≤ a589.toInt; omega), (by show 0 ≤ (f 8).toInt; omega)⟩⟩
              · refine am_e13f hi_220_15 (am_cF (m := r573.toInt) (n := (67 : Int)) rfl (by decide) c578) ?_
                refine am_e2 (v := 39) hi_220_18 rfl ?_
                refine am_e7 hi_220_19 ?_
                refine mm_20 (v := .int (f 4)) hS575 hi_220_20 rfl ?_
                refine am_e0 hi_220_23 ?_
                refine am_e10 (z := z267) hi_220_24 hz267 ?_
                refine mm_21 (v := z267) hS575 hi_220_25 rfl (Nat.le_of_ble_eq_true rfl) ms_4 ?_
                intro S598 hS599
                replace hS599 : MS S0 S598 (upd (upd (upd f 4 z267) 15 z365) 68 z542) g'544 := hS599
                have hR600 : RJ (upd (upd (upd f 4 z267) 15 z365) 68 z542) g'544 gs bc [] 0 ((f 68).toNatClampNeg :: []) := RJ.at hR550_ (by show (f 4).toInt ≤ z267.toInt; omega)
                refine am_e2 (v := 39) hi_220_28 rfl ?_
                refine am_e0 hi_220_29 ?_
                refine am_e1 (v := on) hi_220_31 rfl ?_
                refine am_e0 hi_220_32 ?_
                refine am_e0 hi_220_33 ?_
                refine am_e32n (as := [.ref 39, .int 35, .int on, .int 0, .int 0]) (la := [some (.ref 39), some (.int 35), some (.int on), some (.int 0), some (.int 0)]) (rest := []) hi_220_34 (am_hd0 (M := 220) (by decide) 34) (Nat.le_of_ble_eq_true rfl) (Nat.le_of_ble_eq_true rfl) (show 5 ≤ am_P0.2.2.1 179 from by decide +kernel) rfl (am_recv_ok hS599.fs) rfl rfl (ct_pile (d := (d + 4)) hS599 hR600 (mj_e_plain (by decide)) (by show (0 : Int) ≤ (f 10).toInt; omega) (by show (f 10).toInt ≤ (65535 : Int); omega)) ?_
                rintro v601 S602 (⟨z603, g'604, hv605, hS606, hR609, h607, h608⟩)
                subst hv605
                have h607_ : z603.toInt = (f 10).toInt + 1 := h607
                have h608_ : ∀ j, j ∉ [11, 12, 13, 14] → g'604 j = g'544 j := h608
                replace hS606 : MS S0 S602 (upd (upd (upd (upd f 4 z267) 10 z603) 15 z365) 68 z542) g'604 := hS606
                have hR609_ : RJ (upd (upd (upd (upd f 4 z267) 10 z603) 15 z365) 68 z542) g'604 (((35 : Int), on.toInt, (0 : Int), (0 : Int), []) :: gs) bc [] 0 ((f 68).toNatClampNeg :: []) := hR609
                show am_E _ _ _ _ [some (.ref 39), some (.int on)] [] _ _
                refine am_e18 hi_220_37 ?_
                refine am_e35 hi_220_47 ?_
                show am_E _ _ _ _ [some (.ref 39), some (.int on), some (.int tw), some (.int 1)] [] _ _
                refine am_e35 hi_221_95 ?_
                show am_E _ _ _ _ [some (.ref 39), some (.int 39), some (.int on), some (.int tw)] [] _ _
                refine am_e18 hi_181_366 ?_
                refine am_e35 hi_181_397 ?_
                show am_E _ _ _ _ [some (.ref 39), some (.int 39), some (.int on), some (.int tw), some (.int th)] [] _ _
                refine am_e35 hi_180_13 ?_
                have q1 : mg_p1 (((35 : Int), on.toInt, (0 : Int), (0 : Int), []) :: gs) = 0 + (mg_p1 gs) := rfl
                have q2 : mg_p2 (((35 : Int), on.toInt, (0 : Int), (0 : Int), []) :: gs) = 0 + (mg_p2 gs) := rfl
                have q3 : mg_p3 (((35 : Int), on.toInt, (0 : Int), (0 : Int), []) :: gs) = 3 + (mg_p3 gs) := rfl
                have q4 : mg_p4 (((35 : Int), on.toInt, (0 : Int), (0 : Int), []) :: gs) = 0 + (mg_p4 gs) := rfl
                refine ⟨_, _, _, bc, rfl, hS606, Or.inl ⟨⟨(RJ.fewer (pj' := []) hR609_ (fun _ h => nomatch h)), ?_, ?_⟩, rfl, ?_⟩⟩
                · exact (⟨⟨(show mg_k 35 from by decide), (show (0 : Int) ≤ z365.toInt from by omega), (show 0 ≤ (f 20).toInt from by omega), (show 1 ≤ (f 37).toInt from by omega), (show 0 ≤ (f 32).toInt from by omega), (show (f 32).toInt ≤ (f 5).toInt from by omega), (show (f 5).toInt ≤ 48 from by omega), (show (f 37).toInt ≤ 2 * ((f 5).toInt) + 2 from by omega), trivial⟩, mg_cast (mg_good_ext _ _ _ _ _ _ (fun i _ => by show g'604 34 i = g 34 i; rw [show g'604 34 = g'544 34 from h608_ 34 (by decide), show g'544 34 = g 34 from h549_ 34 (by decide)]) (fun i _ => by show g'604 38 i = g 38 i; rw [show g'604 38 = g'544 38 from h608_ 38 (by decide), show g'544 38 = g 38 from h549_ 38 (by decide)]) (fun i _ => by show g'604 23 i = g 23 i; rw [show g'604 23 = g'544 23 from h608_ 23 (by decide), show g'544 23 = g 23 from h549_ 23 (by decide)]) hrest) (by show (f 15).toInt + -1 = z365.toInt + 0; omega) (by show (f 20).toInt = (f 20).toInt; omega) (by show (f 37).toInt + 0 = (f 37).toInt + 0; omega) (by show (f 32).toInt + 0 = (f 32).toInt + 0; omega) (by show (f 5).toInt + -1 = (f 5).toInt + -1; omega)⟩ : mg_good (g'604 34) (g'604 38) (g'604 23) (((35 : Int), on.toInt, (0 : Int), (0 : Int), []) :: gs) (z365.toInt) ((f 20).toInt) ((f 37).toInt) ((f 32).toInt) ((f 5).toInt))
                · exact ⟨(by show 0 ≤ z267.toInt; omega), (by show z267.toInt ≤ (f 0).toInt; omega), (by show (f 0).toInt ≤ 512; omega), (by show 0 ≤ (f 24).toInt; omega), (by show (f 24).toInt + (f 20).toInt + mg_p1 (((35 : Int), on.toInt, (0 : Int), (0 : Int), []) :: gs) ≤ 4 * z267.toInt; omega), (by show (f 20).toInt ≤ z267.toInt; omega), (by show z365.toInt + mg_p2 (((35 : Int), on.toInt, (0 : Int), (0 : Int), []) :: gs) ≤ z267.toInt; omega), (by show mg_p3 (((35 : Int), on.toInt, (0 : Int), (0 : Int), []) :: gs) ≤ 20 * z267.toInt + 20; omega), (by show 0 ≤ z542.toInt; omega), (by show z542.toInt + 3 * (f 20).toInt + mg_p4 (((35 : Int), on.toInt, (0 : Int), (0 : Int), []) :: gs) ≤ 60 * z267.toInt + 60; omega), (by show 0 ≤ (f 62).toInt; omega), (by show (f 62).toInt + 64 * mj_n (g'604 16) z365.toNatClampNeg 3 ≤ 64 * z267.toInt; rw [show g'604 16 = g'544 16 from h608_ 16 (by decide), show g'544 16 = g 16 from h549_ 16 (by decide)]; omega), (by show 0 ≤ (f 44).toInt; omega), (by show (f 44).toInt ≤ z267.toInt; omega), (by show 0 ≤ (f 48).toInt; omega), (by show (f 48).toInt ≤ z267.toInt; omega), (by show 1 ≤ (f 53).toInt; omega), (by show (f 53).toInt ≤ z267.toInt + 1; omega), (by show 0 ≤ (f 19).toInt; omega), (by show (f 19).toInt ≤ 600; omega), (by show 0 ≤ (f 6).toInt; omega), (by show 0 ≤ (f 8).toInt; omega)⟩
                · show 100 * ((f 0).toInt - z267.toInt) + mg_p3 (((35 : Int), on.toInt, (0 : Int), (0 : Int), []) :: gs) < 100 * ((f 0).toInt - (f 4).toInt) + (1 + mg_p3 gs); omega
    · refine am_e13f hi_221_15 (am_cF (m := r261.toInt) (n := (69 : Int)) rfl (by decide) c266) ?_
      refine am_e2 (v := 39) hi_221_18 rfl ?_
      refine am_e32n (as := [.ref 39]) (la := [some (.ref 39)]) (rest := []) hi_221_19 (am_hd0 (M := 221) (by decide) 19) (Nat.le_of_ble_eq_true rfl) (Nat.le_of_ble_eq_true rfl) (show 1 ≤ am_P0.2.2.1 183 from by decide +kernel) rfl (am_recv_ok hS263.fs) rfl rfl (ct_next (d := (d + 4)) hS263   (by show (0 : Int) ≤ (f 4).toInt; omega) (by show (f 0).toInt ≤ (16384 : Int); omega)) ?_
      rintro v610 S611 (⟨r612, hv613, hS614, h615⟩)
      subst hv613
      have h615_ : (f 4).toInt < (f 0).toInt ∨ r612.toInt = (-1 : Int) := h615
      show am_E _ _ _ _ [some (.ref 39), some (.int on), some (.int tw), none] [.int r612] _ _
      refine am_e0 hi_221_22 ?_
      by_cases c617 : ¬ r612.toInt = (67 : Int)
      · refine am_e13t hi_221_24 (am_cT (m := r612.toInt) (n := (67 : Int)) rfl (by decide) c617) ?_
        refine am_e0 hi_221_46 ?_
        refine am_e3 (ls' := [some (.ref 39), some (.int on), some (.int tw), some (.int 0)]) hi_221_47 (Nat.le_of_ble_eq_true rfl) rfl ?_
        refine am_e1 (v := 0) hi_221_48 rfl ?_
        refine am_e12t hi_221_49 (by decide) ?_
        refine am_e2 (v := 39) hi_221_76 rfl ?_
        refine am_e32w (as := [.ref 39]) (la := [some (.ref 39)]) (rest := []) hi_221_77 (am_hd0 (M := 221) (by decide) 77) (Nat.le_of_ble_eq_true rfl) (Nat.le_of_ble_eq_true rfl) (show 1 ≤ am_P0.2.2.1 209 from by decide +kernel) rfl (am_recv_ok hS614.fs) rfl rfl ?_
        refine am_e2 (v := 39) hi_209_0 rfl ?_
        refine am_e32n (as := [.ref 39]) (la := [some (.ref 39), none, none, none]) (rest := []) hi_209_1 (am_hd0 (M := 209) (by decide) 1) (Nat.le_of_ble_eq_true rfl) (Nat.le_of_ble_eq_true rfl) (show 1 ≤ am_P0.2.2.1 204 from by decide +kernel) rfl (am_recv_ok hS614.fs) rfl rfl (ct_load (d := (d + 2)) hS614 hR  (by show (0 : Int) ≤ (f 32).toInt; omega) (by show (f 32).toInt ≤ (63 : Int); omega) (by show (f 53).toInt ≤ (4096 : Int); omega) (by show (0 : Int) ≤ (f 68).toInt; omega) (by show (f 68).toInt ≤ (65534 : Int); omega) (by show (1 : Int) ≤ (f 15).toInt; omega) (by show (f 15).toInt ≤ (32767 : Int); omega) (by show (0 : Int) ≤ (f 24).toInt; omega) (by show (f 24).toInt ≤ (16384 : Int); omega) (by show (0 : Int) ≤ (f 62).toInt; omega) (by show (f 62).toInt ≤ (65000 : Int); omega)) ?_
        rintro v618 S619 (⟨o620, s621, m622, g'623, hv624, hS625, hR632, h626, h627, h628, h629, h630, h631⟩)
        subst hv624
        have h626_ : (f 62).toInt ≤ o620.toInt := h626
        have h627_ : o620.toInt ≤ (f 62).toInt + 64 := h627
        have h628_ : (f 68).toInt ≤ s621.toInt := h628
        have h629_ : s621.toInt ≤ (f 68).toInt + 1 := h629
        have h630_ : o620.toInt + 64 * mj_n (g'623 16) (f 15).toNatClampNeg 3 ≤ (f 62).toInt + 64 * mj_n (g 16) (f 15).toNatClampNeg 3 := h630
        have h631_ : ∀ j, j ∉ [16, 60, 63, 64, 65, 66, 67, 69, 70, 71, 72, 73] → g'623 j = g j := h631
        have hR632_ : RJ (upd (upd (upd f 62 o620) 68 s621) 75 m622) g'623 gs bc [] 0 [] := hR632
        show am_E _ _ _ _ [some (.ref 39)] [] _ _
        refine am_e2 (v := 39) hi_209_4 rfl ?_
        refine am_e7 hi_209_5 ?_
        refine mm_20 (v := .int (f 15)) hS625 hi_209_6 rfl ?_
        refine am_e0 hi_209_9 ?_
        obtain ⟨z633, hz633, tz633⟩ := am_subI (x := f 15) (y := 1) (m := (f 15).toInt) (n := (1 : Int)) rfl (by decide) (by omega) (by omega)
        refine am_e10 (z := z633) hi_209_10 hz633 ?_
        refine mm_21 (v := z633) hS625 hi_209_11 rfl (Nat.le_of_ble_eq_true rfl) ms_15 ?_
        intro S634 hS635
        replace hS635 : MS S0 S634 (upd (upd (upd (upd f 15 z633) 62 o620) 68 s621) 75 m622) g'623 := hS635
        have hp636 : mj_n (g'623 16) (f 15).toNatClampNeg 3 = mj_n (g'623 16) z633.toNatClampNeg 3 + if (g'623 16 z633.toNatClampNeg).toInt = 3 then 1 else 0 := mj_pop (by rw [cl_toNat, cl_toNat]; omega)
        have hp6361 : mj_n (g'623 16) z633.toNatClampNeg 3 ≤ mj_n (g'623 16) (f 15).toNatClampNeg 3 := by rw [hp636]; split <;> omega
        have hp6362 : (g'623 16 z633.toNatClampNeg).toInt = 3 → mj_n (g'623 16) z633.toNatClampNeg 3 + 1 ≤ mj_n (g'623 16) (f 15).toNatClampNeg 3 := fun q => by rw [hp636, if_pos q]; exact Int.le_refl _
        refine am_e35 hi_209_14 ?_
        show am_E _ _ _ _ [some (.ref 39), some (.int on), some (.int tw), some (.int 0)] [] _ _
        refine am_e2 (v := 39) hi_221_80 rfl ?_
        refine am_e0 hi_221_81 ?_
        refine am_e1 (v := on) hi_221_83 rfl ?_
        refine am_e0 hi_221_84 ?_
        refine am_e1 (v := tw) hi_221_85 rfl ?_
        refine am_e32n (as := [.ref 39, .int 23, .int on, .int 0, .int tw]) (la := [some (.ref 39), some (.int 23), some (.int on), some (.int 0), some (.int tw)]) (rest := []) hi_221_86 (am_hd0 (M := 221) (by decide) 86) (Nat.le_of_ble_eq_true rfl) (Nat.le_of_ble_eq_true rfl) (show 5 ≤ am_P0.2.2.1 189 from by decide +kernel) rfl (am_recv_ok hS635.fs) rfl rfl (ct_put (d := (d + 5)) hS635 hR632_  (by show (0 : Int) ≤ (f 32).toInt; omega) (by show (f 32).toInt ≤ (63 : Int); omega) (by show (f 53).toInt ≤ (4096 : Int); omega) (by show (0 : Int) ≤ s621.toInt; omega) (by show s621.toInt ≤ (65534 : Int); omega)) ?_
        rintro v637 S638 (⟨z639, r640, g'641, hv642, hS643, hR647, h644, h645, h646⟩)
        subst hv642
        have h644_ : z639.toInt = s621.toInt + 1 := h644
        have h645_ : r640.toInt = s621.toInt := h645
        have h646_ : ∀ j, j ∉ [60, 69, 70, 71, 72, 73] → g'641 j = g'623 j := h646
        replace hS643 : MS S0 S638 (upd (upd (upd (upd f 15 z633) 62 o620) 68 z639) 75 m622) g'641 := hS643
        have hR647_ : RJ (upd (upd (upd (upd f 15 z633) 62 o620) 68 z639) 75 m622) g'641 gs bc [] 0 (s621.toNatClampNeg :: []) := hR647
        show am_E _ _ _ _ [some (.ref 39), some (.int on), some (.int tw), some (.int 0)] [.int r640] _ _
        refine am_e6i hi_221_89 ?_
        refine am_e2 (v := 39) hi_221_90 rfl ?_
        refine am_e1 (v := on) hi_221_91 rfl ?_
        refine am_e32w (as := [.ref 39, .int on]) (la := [some (.ref 39), some (.int on)]) (rest := []) hi_221_92 (am_hd0 (M := 221) (by decide) 92) (Nat.le_of_ble_eq_true rfl) (Nat.le_of_ble_eq_true rfl) (show 2 ≤ am_P0.2.2.1 220 from by decide +kernel) rfl (am_recv_ok hS643.fs) rfl rfl ?_
        refine am_e2 (v := 39) hi_220_0 rfl ?_
        refine am_e32n (as := [.ref 39]) (la := [some (.ref 39)]) (rest := []) hi_220_1 (am_hd0 (M := 220) (by decide) 1) (Nat.le_of_ble_eq_true rfl) (Nat.le_of_ble_eq_true rfl) (show 1 ≤ am_P0.2.2.1 183 from by decide +kernel) rfl (am_recv_ok hS643.fs) rfl rfl (ct_next (d := (d + 3)) hS643   (by show (0 : Int) ≤ (f 4).toInt; omega) (by show (f 0).toInt ≤ (16384 : Int); omega)) ?_
        rintro v648 S649 (⟨r650, hv651, hS652, h653⟩)
        subst hv651
        have h653_ : (f 4).toInt < (f 0).toInt ∨ r650.toInt = (-1 : Int) := h653
        show am_E _ _ _ _ [some (.ref 39), some (.int on)] [.int r650] _ _
        refine am_e0 hi_220_4 ?_
        by_cases c655 : r650.toInt = (69 : Int)
        · refine am_e13t hi_220_6 (am_cT (m := r650.toInt) (n := (69 : Int)) rfl (by decide) c655) ?_
          refine am_e2 (v := 39) hi_220_18 rfl ?_
          refine am_e7 hi_220_19 ?_
          refine mm_20 (v := .int (f 4)) hS652 hi_220_20 rfl ?_
          refine am_e0 hi_220_23 ?_
          obtain ⟨z656, hz656, tz656⟩ := am_addI (x := f 4) (y := 1) (m := (f 4).toInt) (n := (1 : Int)) rfl (by decide) (by omega) (by omega)
          refine am_e10 (z := z656) hi_220_24 hz656 ?_
          refine mm_21 (v := z656) hS652 hi_220_25 rfl (Nat.le_of_ble_eq_true rfl) ms_4 ?_
          intro S657 hS658
          replace hS658 : MS S0 S657 (upd (upd (upd (upd (upd f 4 z656) 15 z633) 62 o620) 68 z639) 75 m622) g'641 := hS658
          have hR659 : RJ (upd (upd (upd (upd (upd f 4 z656) 15 z633) 62 o620) 68 z639) 75 m622) g'641 gs bc [] 0 (s621.toNatClampNeg :: []) := RJ.at hR647_ (by show (f 4).toInt ≤ z656.toInt; omega)
          refine am_e2 (v := 39) hi_220_28 rfl ?_
          refine am_e0 hi_220_29 ?_
          refine am_e1 (v := on) hi_220_31 rfl ?_
          refine am_e0 hi_220_32 ?_
          refine am_e0 hi_220_33 ?_
          refine am_e32n (as := [.ref 39, .int 35, .int on, .int 0, .int 0]) (la := [some (.ref 39), some (.int 35), some (.int on), some (.int 0), some (.int 0)]) (rest := []) hi_220_34 (am_hd0 (M := 220) (by decide) 34) (Nat.le_of_ble_eq_true rfl) (Nat.le_of_ble_eq_true rfl) (show 5 ≤ am_P0.2.2.1 179 from by decide +kernel) rfl (am_recv_ok hS658.fs) rfl rfl (ct_pile (d := (d + 4)) hS658 hR659 (mj_e_plain (by decide)) (by show (0 : Int) ≤ (f 10).toInt; omega) (by show (f 10).toInt ≤ (65535 : Int); omega)) ?_
          rintro v660 S661 (⟨z662, g'663, hv664, hS665, hR668, h666, h667⟩)
          subst hv664
          have h666_ : z662.toInt = (f 10).toInt + 1 := h666
          have h667_ : ∀ j, j ∉ [11, 12, 13, 14] → g'663 j = g'641 j := h667
          replace hS665 : MS S0 S661 (upd (upd (upd (upd (upd (upd f 4 z656) 10 z662) 15 z633) 62 o620) 68 z639) 75 m622) g'663 := hS665
          have hR668_ : RJ (upd (upd (upd (upd (upd (upd f 4 z656) 10 z662) 15 z633) 62 o620) 68 z639) 75 m622) g'663 (((35 : Int), on.toInt, (0 : Int), (0 : Int), []) :: gs) bc [] 0 (s621.toNatClampNeg :: []) := hR668
          show am_E _ _ _ _ [some (.ref 39), some (.int on)] [] _ _
          refine am_e18 hi_220_37 ?_
          refine am_e35 hi_220_47 ?_
          show am_E _ _ _ _ [some (.ref 39), some (.int on), some (.int tw), some (.int 0)] [] _ _
          refine am_e35 hi_221_95 ?_
          show am_E _ _ _ _ [some (.ref 39), some (.int 39), some (.int on), some (.int tw)] [] _ _
          refine am_e18 hi_181_366 ?_
          refine am_e35 hi_181_397 ?_
          show am_E _ _ _ _ [some (.ref 39), some (.int 39), some (.int on), some (.int tw), some (.int th)] [] _ _
          refine am_e35 hi_180_13 ?_
          have q1 : mg_p1 (((35 : Int), on.toInt, (0 : Int), (0 : Int), []) :: gs) = 0 + (mg_p1 gs) := rfl
          have q2 : mg_p2 (((35 : Int), on.toInt, (0 : Int), (0 : Int), []) :: gs) = 0 + (mg_p2 gs) := rfl
          have q3 : mg_p3 (((35 : Int), on.toInt, (0 : Int), (0 : Int), []) :: gs) = 3 + (mg_p3 gs) := rfl
          have q4 : mg_p4 (((35 : Int), on.toInt, (0 : Int), (0 : Int), []) :: gs) = 0 + (mg_p4 gs) := rfl
          refine ⟨_, _, _, bc, rfl, hS665, Or.inl ⟨⟨(RJ.fewer (pj' := []) hR668_ (fun _ h => nomatch h)), ?_, ?_⟩, rfl, ?_⟩⟩
          · exact (⟨⟨(show mg_k 35 from by decide), (show (0 : Int) ≤ z633.toInt from by omega), (show 0 ≤ (f 20).toInt from by omega), (show 1 ≤ (f 37).toInt from by omega), (show 0 ≤ (f 32).toInt from by omega), (show (f 32).toInt ≤ (f 5).toInt from by omega), (show (f 5).toInt ≤ 48 from by omega), (show (f 37).toInt ≤ 2 * ((f 5).toInt) + 2 from by omega), trivial⟩, mg_cast (mg_good_ext _ _ _ _ _ _ (fun i _ => by show g'663 34 i = g 34 i; rw [show g'663 34 = g'641 34 from h667_ 34 (by decide), show g'641 34 = g'623 34 from h646_ 34 (by decide), show g'623 34 = g 34 from h631_ 34 (by decide)]) (fun i _ => by show g'663 38 i = g 38 i; rw [show g'663 38 = g'641 38 from h667_ 38 (by decide), show g'641 38 = g'623 38 from h646_ 38 (by decide), show g'623 38 = g 38 from h631_ 38 (by decide)]) (fun i _ => by show g'663 23 i = g 23 i; rw [show g'663 23 = g'641 23 from h667_ 23 (by decide), show g'641 23 = g'623 23 from h646_ 23 (by decide), show g'623 23 = g 23 from h631_ 23 (by decide)]) hrest) (by show (f 15).toInt + -1 = z633.toInt + 0; omega) (by show (f 20).toInt = (f 20).toInt; omega) (by show (f 37).toInt + 0 = (f 37).toInt + 0; omega) (by show (f 32).toInt + 0 = (f 32).toInt + 0; omega) (by show (f 5).toInt + -1 = (f 5).toInt + -1; omega)⟩ : mg_good (g'663 34) (g'663 38) (g'663 23) (((35 : Int), on.toInt, (0 : Int), (0 : Int), []) :: gs) (z633.toInt) ((f 20).toInt) ((f 37).toInt) ((f 32).toInt) ((f 5).toInt))
          · exact ⟨(by show 0 ≤ z656.toInt; omega), (by show z656.toInt ≤ (f 0).toInt; omega), (by show (f 0).toInt ≤ 512; omega), (by show 0 ≤ (f 24).toInt; omega), (by show (f 24).toInt + (f 20).toInt + mg_p1 (((35 : Int), on.toInt, (0 : Int), (0 : Int), []) :: gs) ≤ 4 * z656.toInt; omega), (by show (f 20).toInt ≤ z656.toInt; omega), (by show z633.toInt + mg_p2 (((35 : Int), on.toInt, (0 : Int), (0 : Int), []) :: gs) ≤ z656.toInt; omega), (by show mg_p3 (((35 : Int), on.toInt, (0 : Int), (0 : Int), []) :: gs) ≤ 20 * z656.toInt + 20; omega), (by show 0 ≤ z639.toInt; omega), (by show z639.toInt + 3 * (f 20).toInt + mg_p4 (((35 : Int), on.toInt, (0 : Int), (0 : Int), []) :: gs) ≤ 60 * z656.toInt + 60; omega), (by show 0 ≤ o620.toInt; omega), (by show o620.toInt + 64 * mj_n (g'663 16) z633.toNatClampNeg 3 ≤ 64 * z656.toInt; rw [show g'663 16 = g'641 16 from h667_ 16 (by decide), show g'641 16 = g'623 16 from h646_ 16 (by decide)]; omega), (by show 0 ≤ (f 44).toInt; omega), (by show (f 44).toInt ≤ z656.toInt; omega), (by show 0 ≤ (f 48).toInt; omega), (by show (f 48).toInt ≤ z656.toInt; omega), (by show 1 ≤ (f 53).toInt; omega), (by show (f 53).toInt ≤ z656.toInt + 1; omega), (by show 0 ≤ (f 19).toInt; omega), (by show (f 19).toInt ≤ 600; omega), (by show 0 ≤ (f 6).toInt; omega), (by show 0 ≤ (f 8).toInt; omega)⟩
          · show 100 * ((f 0).toInt - z656.toInt) + mg_p3 (((35 : Int), on.toInt, (0 : Int), (0 : Int), []) :: gs) < 100 * ((f 0).toInt - (f 4).toInt) + (1 + mg_p3 gs); omega
        · refine am_e13f hi_220_6 (am_cF (m := r650.toInt) (n := (69 : Int)) rfl (by decide) c655) ?_
          refine am_e2 (v := 39) hi_220_9 rfl ?_
          refine am_e32n (as := [.ref 39]) (la := [some (.ref 39)]) (rest := []) hi_220_10 (am_hd0 (M := 220) (by decide) 10) (Nat.le_of_ble_eq_true rfl) (Nat.le_of_ble_eq_true rfl) (show 1 ≤ am_P0.2.2.1 183 from by decide +kernel) rfl (am_recv_ok hS652.fs) rfl rfl (ct_next (d := (d + 3)) hS652   (by show (0 : Int) ≤ (f 4).toInt; omega) (by show (f 0).toInt ≤ (16384 : Int); omega)) ?_
          rintro v669 S670 (⟨r671, hv672, hS673, h674⟩)
          subst hv672
          have h674_ : (f 4).toInt < (f 0).toInt ∨ r671.toInt = (-1 : Int) := h674
          show am_E _ _ _ _ [some (.ref 39), some (.int on)] [.int r671] _ _
          refine am_e0 hi_220_13 ?_
          by_cases c676 : ¬ r671.toInt = (67 : Int)
          · refine am_e13t hi_220_15 (am_cT (m := r671.toInt) (n := (67 : Int)) rfl (by decide) c676) ?_
            refine am_e2 (v := 39) hi_220_40 rfl ?_
            refine am_e0 hi_220_41 ?_
            refine am_e32n (as := [.ref 39, .int 63]) (la := [some (.ref 39), some (.int 63)]) (rest := []) hi_220_43 (am_hd0 (M := 220) (by decide) 43) (Nat.le_of_ble_eq_true rfl) (Nat.le_of_ble_eq_true rfl) (show 2 ≤ am_P0.2.2.1 199 from by decide +kernel) rfl (am_recv_ok hS673.fs) rfl rfl (ct_leave (d := (d + 1)) hS673   (by show (0 : Int) ≤ (f 4).toInt; omega) (by show (f 0).toInt ≤ (16384 : Int); omega) (by show (0 : Int) ≤ (63 : Int); omega) (by show (0 : Int) ≤ (f 5).toInt; omega) (by show (f 5).toInt ≤ (48 : Int); omega) (by show (0 : Int) ≤ (f 6).toInt; omega)) ?_
            rintro v677 S678 (⟨z679, y680, hv681, hS682, h683, h684, h685⟩ | ⟨a687, b688, hv689, hS690, h691⟩)
            · subst hv681
              have h683_ : z679.toInt = (f 4).toInt + 1 := h683
              have h684_ : (f 4).toInt < (f 0).toInt := h684
              have h685_ : y680.toInt = (f 5).toInt - 1 := h685
              replace hS682 : MS S0 S678 (upd (upd (upd (upd (upd (upd f 4 z679) 5 y680) 15 z633) 62 o620) 68 z639) 75 m622) g'641 := hS682
              have hR693 : RJ (upd (upd (upd (upd (upd (upd f 4 z679) 5 y680) 15 z633) 62 o620) 68 z639) 75 m622) g'641 gs bc [] 0 (s621.toNatClampNeg :: []) := RJ.at hR647_ (by show (f 4).toInt ≤ z679.toInt; omega)
              show am_E _ _ _ _ [some (.ref 39), some (.int on)] [.int 1] _ _
              refine am_e6i hi_220_46 ?_
              refine am_e35 hi_220_47 ?_
              show am_E _ _ _ _ [some (.ref 39), some (.int on), some (.int tw), some (.int 0)] [] _ _
              refine am_e35 hi_221_95 ?_
              show am_E _ _ _ _ [some (.ref 39), some (.int 39), some (.int on), some (.int tw)] [] _ _
              refine am_e18 hi_181_366 ?_
              refine am_e35 hi_181_397 ?_
              show am_E _ _ _ _ [some (.ref 39), some (.int 39), some (.int on), some (.int tw), some (.int th)] [] _ _
              refine am_e35 hi_180_13 ?_
              have q1 : mg_p1 gs = mg_p1 gs := rfl
              have q2 : mg_p2 gs = mg_p2 gs := rfl
              have q3 : mg_p3 gs = mg_p3 gs := rfl
              have q4 : mg_p4 gs = mg_p4 gs := rfl
              refine ⟨_, _, _, bc, rfl, hS682, Or.inl ⟨⟨(RJ.fewer (pj' := []) hR693 (fun _ h => nomatch h)), ?_, ?_⟩, rfl, ?_⟩⟩
              · exact (mg_cast (mg_good_ext _ _ _ _ _ _ (fun i _ => by show g'641 34 i = g 34 i; rw [show g'641 34 = g'623 34 from h646_ 34 (by decide), show g'623 34 = g 34 from h631_ 34 (by decide)]) (fun i _ => by show g'641 38 i = g 38 i; rw [show g'641 38 = g'623 38 from h646_ 38 (by decide), show g'623 38 = g 38 from h631_ 38 (by decide)]) (fun i _ => by show g'641 23 i = g 23 i; rw [show g'641 23 = g'623 23 from h646_ 23 (by decide), show g'623 23 = g 23 from h631_ 23 (by decide)]) hrest) (by show (f 15).toInt + -1 = z633.toInt; omega) (by show (f 20).toInt = (f 20).toInt; omega) (by show (f 37).toInt + 0 = (f 37).toInt; omega) (by show (f 32).toInt + 0 = (f 32).toInt; omega) (by show (f 5).toInt + -1 = y680.toInt; omega) : mg_good (g'641 34) (g'641 38) (g'641 23) gs (z633.toInt) ((f 20).toInt) ((f 37).toInt) ((f 32).toInt) (y680.toInt))
              · exact ⟨(by show 0 ≤ z679.toInt; omega), (by show z679.toInt ≤ (f 0).toInt; omega), (by show (f 0).toInt ≤ 512; omega), (by show 0 ≤ (f 24).toInt; omega), (by show (f 24).toInt + (f 20).toInt + mg_p1 gs ≤ 4 * z679.toInt; omega), (by show (f 20).toInt ≤ z679.toInt; omega), (by show z633.toInt + mg_p2 gs ≤ z679.toInt; omega), (by show mg_p3 gs ≤ 20 * z679.toInt + 20; omega), (by show 0 ≤ z639.toInt; omega), (by show z639.toInt + 3 * (f 20).toInt + mg_p4 gs ≤ 60 * z679.toInt + 60; omega), (by show 0 ≤ o620.toInt; omega), (by show o620.toInt + 64 * mj_n (g'641 16) z633.toNatClampNeg 3 ≤ 64 * z679.toInt; rw [show g'641 16 = g'623 16 from h646_ 16 (by decide)]; omega), (by show 0 ≤ (f 44).toInt; omega), (by show (f 44).toInt ≤ z679.toInt; omega), (by show 0 ≤ (f 48).toInt; omega), (by show (f 48).toInt ≤ z679.toInt; omega), (by show 1 ≤ (f 53).toInt; omega), (by show (f 53).toInt ≤ z679.toInt + 1; omega), (by show 0 ≤ (f 19).toInt; omega), (by show (f 19).toInt ≤ 600; omega), (by show 0 ≤ (f 6).toInt; omega), (by show 0 ≤ (f 8).toInt; omega)⟩
              · show 100 * ((f 0).toInt - z679.toInt) + mg_p3 gs < 100 * ((f 0).toInt - (f 4).toInt) + (1 + mg_p3 gs); omega
            · subst hv689
              have h691_ : (0 : Int) ≤ a687.toInt := h691
              replace hS690 : MS S0 S678 (upd (upd (upd (upd (upd (upd (upd f 6 a687) 7 b688) 10 0) 15 z633) 62 o620) 68 z639) 75 m622) g'641 := hS690
              have hR694 := rj_clear0 hR647_
              have hR695 : RJ (upd (upd (upd (upd (upd (upd (upd f 6 a687) 7 b688) 10 0) 15 z633) 62 o620) 68 z639) 75 m622) g'641 [] bc [] 0 [] := hR694
              show am_E _ _ _ _ [some (.ref 39), some (.int on)] [.int 0] _ _
              refine am_e6i hi_220_46 ?_
              refine am_e35 hi_220_47 ?_
              show am_E _ _ _ _ [some (.ref 39), some (.int on), some (.int tw), some (.int 0)] [] _ _
              refine am_e35 hi_221_95 ?_
              show am_E _ _ _ _ [some (.ref 39), some (.int 39), some (.int on), some (.int tw)] [] _ _
              refine am_e18 hi_181_366 ?_
              refine am_e35 hi_181_397 ?_
              show am_E _ _ _ _ [some (.ref 39), some (.int 39), some (.int on), some (.int tw), some (.int th)] [] _ _
              refine am_e35 hi_180_13 ?_
              have hRc := rj_clear0 hR695
              refine ⟨_, _, [], _, rfl, hS690, Or.inr ⟨hRc, rfl, (by show 0 ≤ (f 4).toInt; omega), (by show (f 4).toInt ≤ (f 0).toInt; omega), (by show 0 ≤ (f 32).toInt; omega), (by show (f 32).toInt ≤ 63; omega), (by show 1 ≤ (f 53).toInt; omega), (by show (f 53).toInt ≤ 600; omega), (by show 0 ≤ z639.toInt; omega), (by show z639.toInt ≤ 60000; omega), (by show 0 ≤ (f 48).toInt; omega), (by show (f 48).toInt ≤ 8000; omega), (by show 0 ≤ (f 37).toInt; omega), (by show (f 37).toInt ≤ 128; omega), (by show 0 ≤ o620.toInt; omega), (by show o620.toInt ≤ 65000; omega), (by show 0 ≤ (f 19).toInt; omega), (by show (f 19).toInt ≤ 600; omega), (by show 0 ≤ a687.toInt; omega), (by show 0 ≤ (f 8).toInt; omega)⟩⟩
          · refine am_e13f hi_220_15 (am_cF (m := r671.toInt) (n := (67 : Int)) rfl (by decide) c676) ?_
            refine am_e2 (v := 39) hi_220_18 rfl ?_
            refine am_e7 hi_220_19 ?_
            refine mm_20 (v := .int (f 4)) hS673 hi_220_20 rfl ?_
            refine am_e0 hi_220_23 ?_
            obtain ⟨z696, hz696, tz696⟩ := am_addI (x := f 4) (y := 1) (m := (f 4).toInt) (n := (1 : Int)) rfl (by decide) (by omega) (by omega)
            refine am_e10 (z := z696) hi_220_24 hz696 ?_
            refine mm_21 (v := z696) hS673 hi_220_25 rfl (Nat.le_of_ble_eq_true rfl) ms_4 ?_
            intro S697 hS698
            replace hS698 : MS S0 S697 (upd (upd (upd (upd (upd f 4 z696) 15 z633) 62 o620) 68 z639) 75 m622) g'641 := hS698
            have hR699 : RJ (upd (upd (upd (upd (upd f 4 z696) 15 z633) 62 o620) 68 z639) 75 m622) g'641 gs bc [] 0 (s621.toNatClampNeg :: []) := RJ.at hR647_ (by show (f 4).toInt ≤ z696.toInt; omega)
            refine am_e2 (v := 39) hi_220_28 rfl ?_
            refine am_e0 hi_220_29 ?_
            refine am_e1 (v := on) hi_220_31 rfl ?_
            refine am_e0 hi_220_32 ?_
            refine am_e0 hi_220_33 ?_
            refine am_e32n (as := [.ref 39, .int 35, .int on, .int 0, .int 0]) (la := [some (.ref 39), some (.int 35), some (.int on), some (.int 0), some (.int 0)]) (rest := []) hi_220_34 (am_hd0 (M := 220) (by decide) 34) (Nat.le_of_ble_eq_true rfl) (Nat.le_of_ble_eq_true rfl) (show 5 ≤ am_P0.2.2.1 179 from by decide +kernel) rfl (am_recv_ok hS698.fs) rfl rfl (ct_pile (d := (d + 4)) hS698 hR699 (mj_e_plain (by decide)) (by show (0 : Int) ≤ (f 10).toInt; omega) (by show (f 10).toInt ≤ (65535 : Int); omega)) ?_
            rintro v700 S701 (⟨z702, g'703, hv704, hS705, hR708, h706, h707⟩)
            subst hv704
            have h706_ : z702.toInt = (f 10).toInt + 1 := h706
            have h707_ : ∀ j, j ∉ [11, 12, 13, 14] → g'703 j = g'641 j := h707
            replace hS705 : MS S0 S701 (upd (upd (upd (upd (upd (upd f 4 z696) 10 z702) 15 z633) 62 o620) 68 z639) 75 m622) g'703 := hS705
            have hR708_ : RJ (upd (upd (upd (upd (upd (upd f 4 z696) 10 z702) 15 z633) 62 o620) 68 z639) 75 m622) g'703 (((35 : Int), on.toInt, (0 : Int), (0 : Int), []) :: gs) bc [] 0 (s621.toNatClampNeg :: []) := hR708
            show am_E _ _ _ _ [some (.ref 39), some (.int on)] [] _ _
            refine am_e18 hi_220_37 ?_
            refine am_e35 hi_220_47 ?_
            show am_E _ _ _ _ [some (.ref 39), some (.int on), some (.int tw), some (.int 0)] [] _ _
            refine am_e35 hi_221_95 ?_
            show am_E _ _ _ _ [some (.ref 39), some (.int 39), some (.int on), some (.int tw)] [] _ _
            refine am_e18 hi_181_366 ?_
            refine am_e35 hi_181_397 ?_
            show am_E _ _ _ _ [some (.ref 39), some (.int 39), some (.int on), some (.int tw), some (.int th)] [] _ _
            refine am_e35 hi_180_13 ?_
            have q1 : mg_p1 (((35 : Int), on.toInt, (0 : Int), (0 : Int), []) :: gs) = 0 + (mg_p1 gs) := rfl
            have q2 : mg_p2 (((35 : Int), on.toInt, (0 : Int), (0 : Int), []) :: gs) = 0 + (mg_p2 gs) := rfl
            have q3 : mg_p3 (((35 : Int), on.toInt, (0 : Int), (0 : Int), []) :: gs) = 3 + (mg_p3 gs) := rfl
            have q4 : mg_p4 (((35 : Int), on.toInt, (0 : Int), (0 : Int), []) :: gs) = 0 + (mg_p4 gs) := rfl
            refine ⟨_, _, _, bc, rfl, hS705, Or.inl ⟨⟨(RJ.fewer (pj' := []) hR708_ (fun _ h => nomatch h)), ?_, ?_⟩, rfl, ?_⟩⟩
            · exact (⟨⟨(show mg_k 35 from by decide), (show (0 : Int) ≤ z633.toInt from by omega), (show 0 ≤ (f 20).toInt from by omega), (show 1 ≤ (f 37).toInt from by omega), (show 0 ≤ (f 32).toInt from by omega), (show (f 32).toInt ≤ (f 5).toInt from by omega), (show (f 5).toInt ≤ 48 from by omega), (show (f 37).toInt ≤ 2 * ((f 5).toInt) + 2 from by omega), trivial⟩, mg_cast (mg_good_ext _ _ _ _ _ _ (fun i _ => by show g'703 34 i = g 34 i; rw [show g'703 34 = g'641 34 from h707_ 34 (by decide), show g'641 34 = g'623 34 from h646_ 34 (by decide), show g'623 34 = g 34 from h631_ 34 (by decide)]) (fun i _ => by show g'703 38 i = g 38 i; rw [show g'703 38 = g'641 38 from h707_ 38 (by decide), show g'641 38 = g'623 38 from h646_ 38 (by decide), show g'623 38 = g 38 from h631_ 38 (by decide)]) (fun i _ => by show g'703 23 i = g 23 i; rw [show g'703 23 = g'641 23 from h707_ 23 (by decide), show g'641 23 = g'623 23 from h646_ 23 (by decide), show g'623 23 = g 23 from h631_ 23 (by decide)]) hrest) (by show (f 15).toInt + -1 = z633.toInt + 0; omega) (by show (f 20).toInt = (f 20).toInt; omega) (by show (f 37).toInt + 0 = (f 37).toInt + 0; omega) (by show (f 32).toInt + 0 = (f 32).toInt + 0; omega) (by show (f 5).toInt + -1 = (f 5).toInt + -1; omega)⟩ : mg_good (g'703 34) (g'703 38) (g'703 23) (((35 : Int), on.toInt, (0 : Int), (0 : Int), []) :: gs) (z633.toInt) ((f 20).toInt) ((f 37).toInt) ((f 32).toInt) ((f 5).toInt))
            · exact ⟨(by show 0 ≤ z696.toInt; omega), (by show z696.toInt ≤ (f 0).toInt; omega), (by show (f 0).toInt ≤ 512; omega), (by show 0 ≤ (f 24).toInt; omega), (by show (f 24).toInt + (f 20).toInt + mg_p1 (((35 : Int), on.toInt, (0 : Int), (0 : Int), []) :: gs) ≤ 4 * z696.toInt; omega), (by show (f 20).toInt ≤ z696.toInt; omega), (by show z633.toInt + mg_p2 (((35 : Int), on.toInt, (0 : Int), (0 : Int), []) :: gs) ≤ z696.toInt; omega), (by show mg_p3 (((35 : Int), on.toInt, (0 : Int), (0 : Int), []) :: gs) ≤ 20 * z696.toInt + 20; omega), (by show 0 ≤ z639.toInt; omega), (by show z639.toInt + 3 * (f 20).toInt + mg_p4 (((35 : Int), on.toInt, (0 : Int), (0 : Int), []) :: gs) ≤ 60 * z696.toInt + 60; omega), (by show 0 ≤ o620.toInt; omega), (by show o620.toInt + 64 * mj_n (g'703 16) z633.toNatClampNeg 3 ≤ 64 * z696.toInt; rw [show g'703 16 = g'641 16 from h707_ 16 (by decide), show g'641 16 = g'623 16 from h646_ 16 (by decide)]; omega), (by show 0 ≤ (f 44).toInt; omega), (by show (f 44).toInt ≤ z696.toInt; omega), (by show 0 ≤ (f 48).toInt; omega), (by show (f 48).toInt ≤ z696.toInt; omega), (by show 1 ≤ (f 53).toInt; omega), (by show (f 53).toInt ≤ z696.toInt + 1; omega), (by show 0 ≤ (f 19).toInt; omega), (by show (f 19).toInt ≤ 600; omega), (by show 0 ≤ (f 6).toInt; omega), (by show 0 ≤ (f 8).toInt; omega)⟩
            · show 100 * ((f 0).toInt - z696.toInt) + mg_p3 (((35 : Int), on.toInt, (0 : Int), (0 : Int), []) :: gs) < 100 * ((f 0).toInt - (f 4).toInt) + (1 + mg_p3 gs); omega
      · refine am_e13f hi_221_24 (am_cF (m := r612.toInt) (n := (67 : Int)) rfl (by decide) c617) ?_
        refine am_e2 (v := 39) hi_221_27 rfl ?_
        refine am_e2 (v := 39) hi_221_28 rfl ?_
        refine mm_20 (v := .int (f 4)) hS614 hi_221_29 rfl ?_
        refine am_e0 hi_221_32 ?_
        obtain ⟨z709, hz709, tz709⟩ := am_addI (x := f 4) (y := 1) (m := (f 4).toInt) (n := (1 : Int)) rfl (by decide) (by omega) (by omega)
        refine am_e10 (z := z709) hi_221_33 hz709 ?_
        refine am_e32n (as := [.ref 39, .int z709]) (la := [some (.ref 39), some (.int z709)]) (rest := []) hi_221_34 (am_hd0 (M := 221) (by decide) 34) (Nat.le_of_ble_eq_true rfl) (Nat.le_of_ble_eq_true rfl) (show 2 ≤ am_P0.2.2.1 184 from by decide +kernel) rfl (am_recv_ok hS614.fs) rfl rfl (ct_kindAt (d := (d + 5)) hS614   (by show (0 : Int) ≤ z709.toInt; omega) (by show (f 0).toInt ≤ (16384 : Int); omega)) ?_
        rintro v710 S711 (⟨r712, hv713, hS714, h715⟩)
        subst hv713
        have h715_ : z709.toInt < (f 0).toInt ∨ r712.toInt = (-1 : Int) := h715
        show am_E _ _ _ _ [some (.ref 39), some (.int on), some (.int tw), none] [.int r712] _ _
        refine am_e0 hi_221_37 ?_
        by_cases c717 : ¬ r712.toInt = (63 : Int)
        · refine am_e13t hi_221_39 (am_cT (m := r712.toInt) (n := (63 : Int)) rfl (by decide) c717) ?_
          refine am_e0 hi_221_46 ?_
          refine am_e3 (ls' := [some (.ref 39), some (.int on), some (.int tw), some (.int 0)]) hi_221_47 (Nat.le_of_ble_eq_true rfl) rfl ?_
          refine am_e1 (v := 0) hi_221_48 rfl ?_
          refine am_e12t hi_221_49 (by decide) ?_
          refine am_e2 (v := 39) hi_221_76 rfl ?_
          refine am_e32w (as := [.ref 39]) (la := [some (.ref 39)]) (rest := []) hi_221_77 (am_hd0 (M := 221) (by decide) 77) (Nat.le_of_ble_eq_true rfl) (Nat.le_of_ble_eq_true rfl) (show 1 ≤ am_P0.2.2.1 209 from by decide +kernel) rfl (am_recv_ok hS714.fs) rfl rfl ?_
          refine am_e2 (v := 39) hi_209_0 rfl ?_
          refine am_e32n (as := [.ref 39]) (la := [some (.ref 39), none, none, none]) (rest := []) hi_209_1 (am_hd0 (M := 209) (by decide) 1) (Nat.le_of_ble_eq_true rfl) (Nat.le_of_ble_eq_true rfl) (show 1 ≤ am_P0.2.2.1 204 from by decide +kernel) rfl (am_recv_ok hS714.fs) rfl rfl (ct_load (d := (d + 2)) hS714 hR  (by show (0 : Int) ≤ (f 32).toInt; omega) (by show (f 32).toInt ≤ (63 : Int); omega) (by show (f 53).toInt ≤ (4096 : Int); omega) (by show (0 : Int) ≤ (f 68).toInt; omega) (by show (f 68).toInt ≤ (65534 : Int); omega) (by show (1 : Int) ≤ (f 15).toInt; omega) (by show (f 15).toInt ≤ (32767 : Int); omega) (by show (0 : Int) ≤ (f 24).toInt; omega) (by show (f 24).toInt ≤ (16384 : Int); omega) (by show (0 : Int) ≤ (f 62).toInt; omega) (by show (f 62).toInt ≤ (65000 : Int); omega)) ?_
          rintro v718 S719 (⟨o720, s721, m722, g'723, hv724, hS725, hR732, h726, h727, h728, h729, h730, h731⟩)
          subst hv724
          have h726_ : (f 62).toInt ≤ o720.toInt := h726
          have h727_ : o720.toInt ≤ (f 62).toInt + 64 := h727
          have h728_ : (f 68).toInt ≤ s721.toInt := h728
          have h729_ : s721.toInt ≤ (f 68).toInt + 1 := h729
          have h730_ : o720.toInt + 64 * mj_n (g'723 16) (f 15).toNatClampNeg 3 ≤ (f 62).toInt + 64 * mj_n (g 16) (f 15).toNatClampNeg 3 := h730
          have h731_ : ∀ j, j ∉ [16, 60, 63, 64, 65, 66, 67, 69, 70, 71, 72, 73] → g'723 j = g j := h731
          have hR732_ : RJ (upd (upd (upd f 62 o720) 68 s721) 75 m722) g'723 gs bc [] 0 [] := hR732
          show am_E _ _ _ _ [some (.ref 39)] [] _ _
          refine am_e2 (v := 39) hi_209_4 rfl ?_
          refine am_e7 hi_209_5 ?_
          refine mm_20 (v := .int (f 15)) hS725 hi_209_6 rfl ?_
          refine am_e0 hi_209_9 ?_
          obtain ⟨z733, hz733, tz733⟩ := am_subI (x := f 15) (y := 1) (m := (f 15).toInt) (n := (1 : Int)) rfl (by decide) (by omega) (by omega)
          refine am_e10 (z := z733) hi_209_10 hz733 ?_
          refine mm_21 (v := z733) hS725 hi_209_11 rfl (Nat.le_of_ble_eq_true rfl) ms_15 ?_
          intro S734 hS735
          replace hS735 : MS S0 S734 (upd (upd (upd (upd f 15 z733) 62 o720) 68 s721) 75 m722) g'723 := hS735
          have hp736 : mj_n (g'723 16) (f 15).toNatClampNeg 3 = mj_n (g'723 16) z733.toNatClampNeg 3 + if (g'723 16 z733.toNatClampNeg).toInt = 3 then 1 else 0 := mj_pop (by rw [cl_toNat, cl_toNat]; omega)
          have hp7361 : mj_n (g'723 16) z733.toNatClampNeg 3 ≤ mj_n (g'723 16) (f 15).toNatClampNeg 3 := by rw [hp736]; split <;> omega
          have hp7362 : (g'723 16 z733.toNatClampNeg).toInt = 3 → mj_n (g'723 16) z733.toNatClampNeg 3 + 1 ≤ mj_n (g'723 16) (f 15).toNatClampNeg 3 := fun q => by rw [hp736, if_pos q]; exact Int.le_refl _
          refine am_e35 hi_209_14 ?_
          show am_E _ _ _ _ [some (.ref 39), some (.int on), some (.int tw), some (.int 0)] [] _ _
          refine am_e2 (v := 39) hi_221_80 rfl ?_
          refine am_e0 hi_221_81 ?_
          refine am_e1 (v := on) hi_221_83 rfl ?_
          refine am_e0 hi_221_84 ?_
          refine am_e1 (v := tw) hi_221_85 rfl ?_
          refine am_e32n (as := [.ref 39, .int 23, .int on, .int 0, .int tw]) (la := [some (.ref 39), some (.int 23), some (.int on), some (.int 0), some (.int tw)]) (rest := []) hi_221_86 (am_hd0 (M := 221) (by decide) 86) (Nat.le_of_ble_eq_true rfl) (Nat.le_of_ble_eq_true rfl) (show 5 ≤ am_P0.2.2.1 189 from by decide +kernel) rfl (am_recv_ok hS735.fs) rfl rfl (ct_put (d := (d + 5)) hS735 hR732_  (by show (0 : Int) ≤ (f 32).toInt; omega) (by show (f 32).toInt ≤ (63 : Int); omega) (by show (f 53).toInt ≤ (4096 : Int); omega) (by show (0 : Int) ≤ s721.toInt; omega) (by show s721.toInt ≤ (65534 : Int); omega)) ?_
          rintro v737 S738 (⟨z739, r740, g'741, hv742, hS743, hR747, h744, h745, h746⟩)
          subst hv742
          have h744_ : z739.toInt = s721.toInt + 1 := h744
          have h745_ : r740.toInt = s721.toInt := h745
          have h746_ : ∀ j, j ∉ [60, 69, 70, 71, 72, 73] → g'741 j = g'723 j := h746
          replace hS743 : MS S0 S738 (upd (upd (upd (upd f 15 z733) 62 o720) 68 z739) 75 m722) g'741 := hS743
          have hR747_ : RJ (upd (upd (upd (upd f 15 z733) 62 o720) 68 z739) 75 m722) g'741 gs bc [] 0 (s721.toNatClampNeg :: []) := hR747
          show am_E _ _ _ _ [some (.ref 39), some (.int on), some (.int tw), some (.int 0)] [.int r740] _ _
          refine am_e6i hi_221_89 ?_
          refine am_e2 (v := 39) hi_221_90 rfl ?_
          refine am_e1 (v := on) hi_221_91 rfl ?_
          refine am_e32w (as := [.ref 39, .int on]) (la := [some (.ref 39), some (.int on)]) (rest := []) hi_221_92 (am_hd0 (M := 221) (by decide) 92) (Nat.le_of_ble_eq_true rfl) (Nat.le_of_ble_eq_true rfl) (show 2 ≤ am_P0.2.2.1 220 from by decide +kernel) rfl (am_recv_ok hS743.fs) rfl rfl ?_
          refine am_e2 (v := 39) hi_220_0 rfl ?_
          refine am_e32n (as := [.ref 39]) (la := [some (.ref 39)]) (rest := []) hi_220_1 (am_hd0 (M := 220) (by decide) 1) (Nat.le_of_ble_eq_true rfl) (Nat.le_of_ble_eq_true rfl) (show 1 ≤ am_P0.2.2.1 183 from by decide +kernel) rfl (am_recv_ok hS743.fs) rfl rfl (ct_next (d := (d + 3)) hS743   (by show (0 : Int) ≤ (f 4).toInt; omega) (by show (f 0).toInt ≤ (16384 : Int); omega)) ?_
          rintro v748 S749 (⟨r750, hv751, hS752, h753⟩)
          subst hv751
          have h753_ : (f 4).toInt < (f 0).toInt ∨ r750.toInt = (-1 : Int) := h753
          show am_E _ _ _ _ [some (.ref 39), some (.int on)] [.int r750] _ _
          refine am_e0 hi_220_4 ?_
          by_cases c755 : r750.toInt = (69 : Int)
          · refine am_e13t hi_220_6 (am_cT (m := r750.toInt) (n := (69 : Int)) rfl (by decide) c755) ?_
            refine am_e2 (v := 39) hi_220_18 rfl ?_
            refine am_e7 hi_220_19 ?_
            refine mm_20 (v := .int (f 4)) hS752 hi_220_20 rfl ?_
            refine am_e0 hi_220_23 ?_
            refine am_e10 (z := z709) hi_220_24 hz709 ?_
            refine mm_21 (v := z709) hS752 hi_220_25 rfl (Nat.le_of_ble_eq_true rfl) ms_4 ?_
            intro S756 hS757
            replace hS757 : MS S0 S756 (upd (upd (upd (upd (upd f 4 z709) 15 z733) 62 o720) 68 z739) 75 m722) g'741 := hS757
            have hR758 : RJ (upd (upd (upd (upd (upd f 4 z709) 15 z733) 62 o720) 68 z739) 75 m722) g'741 gs bc [] 0 (s721.toNatClampNeg :: []) := RJ.at hR747_ (by show (f 4).toInt ≤ z709.toInt; omega)
            refine am_e2 (v := 39) hi_220_28 rfl ?_
            refine am_e0 hi_220_29 ?_
            refine am_e1 (v := on) hi_220_31 rfl ?_
            refine am_e0 hi_220_32 ?_
            refine am_e0 hi_220_33 ?_
            refine am_e32n (as := [.ref 39, .int 35, .int on, .int 0, .int 0]) (la := [some (.ref 39), some (.int 35), some (.int on), some (.int 0), some (.int 0)]) (rest := []) hi_220_34 (am_hd0 (M := 220) (by decide) 34) (Nat.le_of_ble_eq_true rfl) (Nat.le_of_ble_eq_true rfl) (show 5 ≤ am_P0.2.2.1 179 from by decide +kernel) rfl (am_recv_ok hS757.fs) rfl rfl (ct_pile (d := (d + 4)) hS757 hR758 (mj_e_plain (by decide)) (by show (0 : Int) ≤ (f 10).toInt; omega) (by show (f 10).toInt ≤ (65535 : Int); omega)) ?_
            rintro v759 S760 (⟨z761, g'762, hv763, hS764, hR767, h765, h766⟩)
            subst hv763
            have h765_ : z761.toInt = (f 10).toInt + 1 := h765
            have h766_ : ∀ j, j ∉ [11, 12, 13, 14] → g'762 j = g'741 j := h766
            replace hS764 : MS S0 S760 (upd (upd (upd (upd (upd (upd f 4 z709) 10 z761) 15 z733) 62 o720) 68 z739) 75 m722) g'762 := hS764
            have hR767_ : RJ (upd (upd (upd (upd (upd (upd f 4 z709) 10 z761) 15 z733) 62 o720) 68 z739) 75 m722) g'762 (((35 : Int), on.toInt, (0 : Int), (0 : Int), []) :: gs) bc [] 0 (s721.toNatClampNeg :: []) := hR767
            show am_E _ _ _ _ [some (.ref 39), some (.int on)] [] _ _
            refine am_e18 hi_220_37 ?_
            refine am_e35 hi_220_47 ?_
            show am_E _ _ _ _ [some (.ref 39), some (.int on), some (.int tw), some (.int 0)] [] _ _
            refine am_e35 hi_221_95 ?_
            show am_E _ _ _ _ [some (.ref 39), some (.int 39), some (.int on), some (.int tw)] [] _ _
            refine am_e18 hi_181_366 ?_
            refine am_e35 hi_181_397 ?_
            show am_E _ _ _ _ [some (.ref 39), some (.int 39), some (.int on), some (.int tw), some (.int th)] [] _ _
            refine am_e35 hi_180_13 ?_
            have q1 : mg_p1 (((35 : Int), on.toInt, (0 : Int), (0 : Int), []) :: gs) = 0 + (mg_p1 gs) := rfl
            have q2 : mg_p2 (((35 : Int), on.toInt, (0 : Int), (0 : Int), []) :: gs) = 0 + (mg_p2 gs) := rfl
            have q3 : mg_p3 (((35 : Int), on.toInt, (0 : Int), (0 : Int), []) :: gs) = 3 + (mg_p3 gs) := rfl
            have q4 : mg_p4 (((35 : Int), on.toInt, (0 : Int), (0 : Int), []) :: gs) = 0 + (mg_p4 gs) := rfl
            refine ⟨_, _, _, bc, rfl, hS764, Or.inl ⟨⟨(RJ.fewer (pj' := []) hR767_ (fun _ h => nomatch h)), ?_, ?_⟩, rfl, ?_⟩⟩
            · exact (⟨⟨(show mg_k 35 from by decide), (show (0 : Int) ≤ z733.toInt from by omega), (show 0 ≤ (f 20).toInt from by omega), (show 1 ≤ (f 37).toInt from by omega), (show 0 ≤ (f 32).toInt from by omega), (show (f 32).toInt ≤ (f 5).toInt from by omega), (show (f 5).toInt ≤ 48 from by omega), (show (f 37).toInt ≤ 2 * ((f 5).toInt) + 2 from by omega), trivial⟩, mg_cast (mg_good_ext _ _ _ _ _ _ (fun i _ => by show g'762 34 i = g 34 i; rw [show g'762 34 = g'741 34 from h766_ 34 (by decide), show g'741 34 = g'723 34 from h746_ 34 (by decide), show g'723 34 = g 34 from h731_ 34 (by decide)]) (fun i _ => by show g'762 38 i = g 38 i; rw [show g'762 38 = g'741 38 from h766_ 38 (by decide), show g'741 38 = g'723 38 from h746_ 38 (by decide), show g'723 38 = g 38 from h731_ 38 (by decide)]) (fun i _ => by show g'762 23 i = g 23 i; rw [show g'762 23 = g'741 23 from h766_ 23 (by decide), show g'741 23 = g'723 23 from h746_ 23 (by decide), show g'723 23 = g 23 from h731_ 23 (by decide)]) hrest) (by show (f 15).toInt + -1 = z733.toInt + 0; omega) (by show (f 20).toInt = (f 20).toInt; omega) (by show (f 37).toInt + 0 = (f 37).toInt + 0; omega) (by show (f 32).toInt + 0 = (f 32).toInt + 0; omega) (by show (f 5).toInt + -1 = (f 5).toInt + -1; omega)⟩ : mg_good (g'762 34) (g'762 38) (g'762 23) (((35 : Int), on.toInt, (0 : Int), (0 : Int), []) :: gs) (z733.toInt) ((f 20).toInt) ((f 37).toInt) ((f 32).toInt) ((f 5).toInt))
            · exact ⟨(by show 0 ≤ z709.toInt; omega), (by show z709.toInt ≤ (f 0).toInt; omega), (by show (f 0).toInt ≤ 512; omega), (by show 0 ≤ (f 24).toInt; omega), (by show (f 24).toInt + (f 20).toInt + mg_p1 (((35 : Int), on.toInt, (0 : Int), (0 : Int), []) :: gs) ≤ 4 * z709.toInt; omega), (by show (f 20).toInt ≤ z709.toInt; omega), (by show z733.toInt + mg_p2 (((35 : Int), on.toInt, (0 : Int), (0 : Int), []) :: gs) ≤ z709.toInt; omega), (by show mg_p3 (((35 : Int), on.toInt, (0 : Int), (0 : Int), []) :: gs) ≤ 20 * z709.toInt + 20; omega), (by show 0 ≤ z739.toInt; omega), (by show z739.toInt + 3 * (f 20).toInt + mg_p4 (((35 : Int), on.toInt, (0 : Int), (0 : Int), []) :: gs) ≤ 60 * z709.toInt + 60; omega), (by show 0 ≤ o720.toInt; omega), (by show o720.toInt + 64 * mj_n (g'762 16) z733.toNatClampNeg 3 ≤ 64 * z709.toInt; rw [show g'762 16 = g'741 16 from h766_ 16 (by decide), show g'741 16 = g'723 16 from h746_ 16 (by decide)]; omega), (by show 0 ≤ (f 44).toInt; omega), (by show (f 44).toInt ≤ z709.toInt; omega), (by show 0 ≤ (f 48).toInt; omega), (by show (f 48).toInt ≤ z709.toInt; omega), (by show 1 ≤ (f 53).toInt; omega), (by show (f 53).toInt ≤ z709.toInt + 1; omega), (by show 0 ≤ (f 19).toInt; omega), (by show (f 19).toInt ≤ 600; omega), (by show 0 ≤ (f 6).toInt; omega), (by show 0 ≤ (f 8).toInt; omega)⟩
            · show 100 * ((f 0).toInt - z709.toInt) + mg_p3 (((35 : Int), on.toInt, (0 : Int), (0 : Int), []) :: gs) < 100 * ((f 0).toInt - (f 4).toInt) + (1 + mg_p3 gs); omega
          · refine am_e13f hi_220_6 (am_cF (m := r750.toInt) (n := (69 : Int)) rfl (by decide) c755) ?_
            refine am_e2 (v := 39) hi_220_9 rfl ?_
            refine am_e32n (as := [.ref 39]) (la := [some (.ref 39)]) (rest := []) hi_220_10 (am_hd0 (M := 220) (by decide) 10) (Nat.le_of_ble_eq_true rfl) (Nat.le_of_ble_eq_true rfl) (show 1 ≤ am_P0.2.2.1 183 from by decide +kernel) rfl (am_recv_ok hS752.fs) rfl rfl (ct_next (d := (d + 3)) hS752   (by show (0 : Int) ≤ (f 4).toInt; omega) (by show (f 0).toInt ≤ (16384 : Int); omega)) ?_
            rintro v768 S769 (⟨r770, hv771, hS772, h773⟩)
            subst hv771
            have h773_ : (f 4).toInt < (f 0).toInt ∨ r770.toInt = (-1 : Int) := h773
            show am_E _ _ _ _ [some (.ref 39), some (.int on)] [.int r770] _ _
            refine am_e0 hi_220_13 ?_
            by_cases c775 : ¬ r770.toInt = (67 : Int)
            · refine am_e13t hi_220_15 (am_cT (m := r770.toInt) (n := (67 : Int)) rfl (by decide) c775) ?_
              refine am_e2 (v := 39) hi_220_40 rfl ?_
              refine am_e0 hi_220_41 ?_
              refine am_e32n (as := [.ref 39, .int 63]) (la := [some (.ref 39), some (.int 63)]) (rest := []) hi_220_43 (am_hd0 (M := 220) (by decide) 43) (Nat.le_of_ble_eq_true rfl) (Nat.le_of_ble_eq_true rfl) (show 2 ≤ am_P0.2.2.1 199 from by decide +kernel) rfl (am_recv_ok hS772.fs) rfl rfl (ct_leave (d := (d + 1)) hS772   (by show (0 : Int) ≤ (f 4).toInt; omega) (by show (f 0).toInt ≤ (16384 : Int); omega) (by show (0 : Int) ≤ (63 : Int); omega) (by show (0 : Int) ≤ (f 5).toInt; omega) (by show (f 5).toInt ≤ (48 : Int); omega) (by show (0 : Int) ≤ (f 6).toInt; omega)) ?_
              rintro v776 S777 (⟨z778, y779, hv780, hS781, h782, h783, h784⟩ | ⟨a786, b787, hv788, hS789, h790⟩)
              · subst hv780
                have h782_ : z778.toInt = (f 4).toInt + 1 := h782
                have h783_ : (f 4).toInt < (f 0).toInt := h783
                have h784_ : y779.toInt = (f 5).toInt - 1 := h784
                replace hS781 : MS S0 S777 (upd (upd (upd (upd (upd (upd f 4 z778) 5 y779) 15 z733) 62 o720) 68 z739) 75 m722) g'741 := hS781
                have hR792 : RJ (upd (upd (upd (upd (upd (upd f 4 z778) 5 y779) 15 z733) 62 o720) 68 z739) 75 m722) g'741 gs bc [] 0 (s721.toNatClampNeg :: []) := RJ.at hR747_ (by show (f 4).toInt ≤ z778.toInt; omega)
                show am_E _ _ _ _ [some (.ref 39), some (.int on)] [.int 1] _ _
                refine am_e6i hi_220_46 ?_
                refine am_e35 hi_220_47 ?_
                show am_E _ _ _ _ [some (.ref 39), some (.int on), some (.int tw), some (.int 0)] [] _ _
                refine am_e35 hi_221_95 ?_
                show am_E _ _ _ _ [some (.ref 39), some (.int 39), some (.int on), some (.int tw)] [] _ _
                refine am_e18 hi_181_366 ?_
                refine am_e35 hi_181_397 ?_
                show am_E _ _ _ _ [some (.ref 39), some (.int 39), some (.int on), some (.int tw), some (.int th)] [] _ _
                refine am_e35 hi_180_13 ?_
                have q1 : mg_p1 gs = mg_p1 gs := rfl
                have q2 : mg_p2 gs = mg_p2 gs := rfl
                have q3 : mg_p3 gs = mg_p3 gs := rfl
                have q4 : mg_p4 gs = mg_p4 gs := rfl
                refine ⟨_, _, _, bc, rfl, hS781, Or.inl ⟨⟨(RJ.fewer (pj' := []) hR792 (fun _ h => nomatch h)), ?_, ?_⟩, rfl, ?_⟩⟩
                · exact (mg_cast (mg_good_ext _ _ _ _ _ _ (fun i _ => by show g'741 34 i = g 34 i; rw [show g'741 34 = g'723 34 from h746_ 34 (by decide), show g'723 34 = g 34 from h731_ 34 (by decide)]) (fun i _ => by show g'741 38 i = g 38 i; rw [show g'741 38 = g'723 38 from h746_ 38 (by decide), show g'723 38 = g 38 from h731_ 38 (by decide)]) (fun i _ => by show g'741 23 i = g 23 i; rw [show g'741 23 = g'723 23 from h746_ 23 (by decide), show g'723 23 = g 23 from h731_ 23 (by decide)]) hrest) (by show (f 15).toInt + -1 = z733.toInt; omega) (by show (f 20).toInt = (f 20).toInt; omega) (by show (f 37).toInt + 0 = (f 37).toInt; omega) (by show (f 32).toInt + 0 = (f 32).toInt; omega) (by show (f 5).toInt + -1 = y779.toInt; omega) : mg_good (g'741 34) (g'741 38) (g'741 23) gs (z733.toInt) ((f 20).toInt) ((f 37).toInt) ((f 32).toInt) (y779.toInt))
                · exact ⟨(by show 0 ≤ z778.toInt; omega), (by show z778.toInt ≤ (f 0).toInt; omega), (by show (f 0).toInt ≤ 512; omega), (by show 0 ≤ (f 24).toInt; omega), (by show (f 24).toInt + (f 20).toInt + mg_p1 gs ≤ 4 * z778.toInt; omega), (by show (f 20).toInt ≤ z778.toInt; omega), (by show z733.toInt + mg_p2 gs ≤ z778.toInt; omega), (by show mg_p3 gs ≤ 20 * z778.toInt + 20; omega), (by show 0 ≤ z739.toInt; omega), (by show z739.toInt + 3 * (f 20).toInt + mg_p4 gs ≤ 60 * z778.toInt + 60; omega), (by show 0 ≤ o720.toInt; omega), (by show o720.toInt + 64 * mj_n (g'741 16) z733.toNatClampNeg 3 ≤ 64 * z778.toInt; rw [show g'741 16 = g'723 16 from h746_ 16 (by decide)]; omega), (by show 0 ≤ (f 44).toInt; omega), (by show (f 44).toInt ≤ z778.toInt; omega), (by show 0 ≤ (f 48).toInt; omega), (by show (f 48).toInt ≤ z778.toInt; omega), (by show 1 ≤ (f 53).toInt; omega), (by show (f 53).toInt ≤ z778.toInt + 1; omega), (by show 0 ≤ (f 19).toInt; omega), (by show (f 19).toInt ≤ 600; omega), (by show 0 ≤ (f 6).toInt; omega), (by show 0 ≤ (f 8).toInt; omega)⟩
                · show 100 * ((f 0).toInt - z778.toInt) + mg_p3 gs < 100 * ((f 0).toInt - (f 4).toInt) + (1 + mg_p3 gs); omega
              · subst hv788
                have h790_ : (0 : Int) ≤ a786.toInt := h790
                replace hS789 : MS S0 S777 (upd (upd (upd (upd (upd (upd (upd f 6 a786) 7 b787) 10 0) 15 z733) 62 o720) 68 z739) 75 m722) g'741 := hS789
                have hR793 := rj_clear0 hR747_
                have hR794 : RJ (upd (upd (upd (upd (upd (upd (upd f 6 a786) 7 b787) 10 0) 15 z733) 62 o720) 68 z739) 75 m722) g'741 [] bc [] 0 [] := hR793
                show am_E _ _ _ _ [some (.ref 39), some (.int on)] [.int 0] _ _
                refine am_e6i hi_220_46 ?_
                refine am_e35 hi_220_47 ?_
                show am_E _ _ _ _ [some (.ref 39), some (.int on), some (.int tw), some (.int 0)] [] _ _
                refine am_e35 hi_221_95 ?_
                show am_E _ _ _ _ [some (.ref 39), some (.int 39), some (.int on), some (.int tw)] [] _ _
                refine am_e18 hi_181_366 ?_
                refine am_e35 hi_181_397 ?_
                show am_E _ _ _ _ [some (.ref 39), some (.int 39), some (.int on), some (.int tw), some (.int th)] [] _ _
                refine am_e35 hi_180_13 ?_
                have hRc := rj_clear0 hR794
                refine ⟨_, _, [], _, rfl, hS789, Or.inr ⟨hRc, rfl, (by show 0 ≤ (f 4).toInt; omega), (by show (f 4).toInt ≤ (f 0).toInt; omega), (by show 0 ≤ (f 32).toInt; omega), (by show (f 32).toInt ≤ 63; omega), (by show 1 ≤ (f 53).toInt; omega), (by show (f 53).toInt ≤ 600; omega), (by show 0 ≤ z739.toInt; omega), (by show z739.toInt ≤ 60000; omega), (by show 0 ≤ (f 48).toInt; omega), (by show (f 48).toInt ≤ 8000; omega), (by show 0 ≤ (f 37).toInt; omega), (by show (f 37).toInt ≤ 128; omega), (by show 0 ≤ o720.toInt; omega), (by show o720.toInt ≤ 65000; omega), (by show 0 ≤ (f 19).toInt; omega), (by show (f 19).toInt ≤ 600; omega), (by show 0 ≤ a786.toInt; omega), (by show 0 ≤ (f 8).toInt; omega)⟩⟩
            · refine am_e13f hi_220_15 (am_cF (m := r770.toInt) (n := (67 : Int)) rfl (by decide) c775) ?_
              refine am_e2 (v := 39) hi_220_18 rfl ?_
              refine am_e7 hi_220_19 ?_
              refine mm_20 (v := .int (f 4)) hS772 hi_220_20 rfl ?_
              refine am_e0 hi_220_23 ?_
              refine am_e10 (z := z709) hi_220_24 hz709 ?_
              refine mm_21 (v := z709) hS772 hi_220_25 rfl (Nat.le_of_ble_eq_true rfl) ms_4 ?_
              intro S795 hS796
              replace hS796 : MS S0 S795 (upd (upd (upd (upd (upd f 4 z709) 15 z733) 62 o720) 68 z739) 75 m722) g'741 := hS796
              have hR797 : RJ (upd (upd (upd (upd (upd f 4 z709) 15 z733) 62 o720) 68 z739) 75 m722) g'741 gs bc [] 0 (s721.toNatClampNeg :: []) := RJ.at hR747_ (by show (f 4).toInt ≤ z709.toInt; omega)
              refine am_e2 (v := 39) hi_220_28 rfl ?_
              refine am_e0 hi_220_29 ?_
              refine am_e1 (v := on) hi_220_31 rfl ?_
              refine am_e0 hi_220_32 ?_
              refine am_e0 hi_220_33 ?_
              refine am_e32n (as := [.ref 39, .int 35, .int on, .int 0, .int 0]) (la := [some (.ref 39), some (.int 35), some (.int on), some (.int 0), some (.int 0)]) (rest := []) hi_220_34 (am_hd0 (M := 220) (by decide) 34) (Nat.le_of_ble_eq_true rfl) (Nat.le_of_ble_eq_true rfl) (show 5 ≤ am_P0.2.2.1 179 from by decide +kernel) rfl (am_recv_ok hS796.fs) rfl rfl (ct_pile (d := (d + 4)) hS796 hR797 (mj_e_plain (by decide)) (by show (0 : Int) ≤ (f 10).toInt; omega) (by show (f 10).toInt ≤ (65535 : Int); omega)) ?_
              rintro v798 S799 (⟨z800, g'801, hv802, hS803, hR806, h804, h805⟩)
              subst hv802
              have h804_ : z800.toInt = (f 10).toInt + 1 := h804
              have h805_ : ∀ j, j ∉ [11, 12, 13, 14] → g'801 j = g'741 j := h805
              replace hS803 : MS S0 S799 (upd (upd (upd (upd (upd (upd f 4 z709) 10 z800) 15 z733) 62 o720) 68 z739) 75 m722) g'801 := hS803
              have hR806_ : RJ (upd (upd (upd (upd (upd (upd f 4 z709) 10 z800) 15 z733) 62 o720) 68 z739) 75 m722) g'801 (((35 : Int), on.toInt, (0 : Int), (0 : Int), []) :: gs) bc [] 0 (s721.toNatClampNeg :: []) := hR806
              show am_E _ _ _ _ [some (.ref 39), some (.int on)] [] _ _
              refine am_e18 hi_220_37 ?_
              refine am_e35 hi_220_47 ?_
              show am_E _ _ _ _ [some (.ref 39), some (.int on), some (.int tw), some (.int 0)] [] _ _
              refine am_e35 hi_221_95 ?_
              show am_E _ _ _ _ [some (.ref 39), some (.int 39), some (.int on), some (.int tw)] [] _ _
              refine am_e18 hi_181_366 ?_
              refine am_e35 hi_181_397 ?_
              show am_E _ _ _ _ [some (.ref 39), some (.int 39), some (.int on), some (.int tw), some (.int th)] [] _ _
              refine am_e35 hi_180_13 ?_
              have q1 : mg_p1 (((35 : Int), on.toInt, (0 : Int), (0 : Int), []) :: gs) = 0 + (mg_p1 gs) := rfl
              have q2 : mg_p2 (((35 : Int), on.toInt, (0 : Int), (0 : Int), []) :: gs) = 0 + (mg_p2 gs) := rfl
              have q3 : mg_p3 (((35 : Int), on.toInt, (0 : Int), (0 : Int), []) :: gs) = 3 + (mg_p3 gs) := rfl
              have q4 : mg_p4 (((35 : Int), on.toInt, (0 : Int), (0 : Int), []) :: gs) = 0 + (mg_p4 gs) := rfl
              refine ⟨_, _, _, bc, rfl, hS803, Or.inl ⟨⟨(RJ.fewer (pj' := []) hR806_ (fun _ h => nomatch h)), ?_, ?_⟩, rfl, ?_⟩⟩
              · exact (⟨⟨(show mg_k 35 from by decide), (show (0 : Int) ≤ z733.toInt from by omega), (show 0 ≤ (f 20).toInt from by omega), (show 1 ≤ (f 37).toInt from by omega), (show 0 ≤ (f 32).toInt from by omega), (show (f 32).toInt ≤ (f 5).toInt from by omega), (show (f 5).toInt ≤ 48 from by omega), (show (f 37).toInt ≤ 2 * ((f 5).toInt) + 2 from by omega), trivial⟩, mg_cast (mg_good_ext _ _ _ _ _ _ (fun i _ => by show g'801 34 i = g 34 i; rw [show g'801 34 = g'741 34 from h805_ 34 (by decide), show g'741 34 = g'723 34 from h746_ 34 (by decide), show g'723 34 = g 34 from h731_ 34 (by decide)]) (fun i _ => by show g'801 38 i = g 38 i; rw [show g'801 38 = g'741 38 from h805_ 38 (by decide), show g'741 38 = g'723 38 from h746_ 38 (by decide), show g'723 38 = g 38 from h731_ 38 (by decide)]) (fun i _ => by show g'801 23 i = g 23 i; rw [show g'801 23 = g'741 23 from h805_ 23 (by decide), show g'741 23 = g'723 23 from h746_ 23 (by decide), show g'723 23 = g 23 from h731_ 23 (by decide)]) hrest) (by show (f 15).toInt + -1 = z733.toInt + 0; omega) (by show (f 20).toInt = (f 20).toInt; omega) (by show (f 37).toInt + 0 = (f 37).toInt + 0; omega) (by show (f 32).toInt + 0 = (f 32).toInt + 0; omega) (by show (f 5).toInt + -1 = (f 5).toInt + -1; omega)⟩ : mg_good (g'801 34) (g'801 38) (g'801 23) (((35 : Int), on.toInt, (0 : Int), (0 : Int), []) :: gs) (z733.toInt) ((f 20).toInt) ((f 37).toInt) ((f 32).toInt) ((f 5).toInt))
              · exact ⟨(by show 0 ≤ z709.toInt; omega), (by show z709.toInt ≤ (f 0).toInt; omega), (by show (f 0).toInt ≤ 512; omega), (by show 0 ≤ (f 24).toInt; omega), (by show (f 24).toInt + (f 20).toInt + mg_p1 (((35 : Int), on.toInt, (0 : Int), (0 : Int), []) :: gs) ≤ 4 * z709.toInt; omega), (by show (f 20).toInt ≤ z709.toInt; omega), (by show z733.toInt + mg_p2 (((35 : Int), on.toInt, (0 : Int), (0 : Int), []) :: gs) ≤ z709.toInt; omega), (by show mg_p3 (((35 : Int), on.toInt, (0 : Int), (0 : Int), []) :: gs) ≤ 20 * z709.toInt + 20; omega), (by show 0 ≤ z739.toInt; omega), (by show z739.toInt + 3 * (f 20).toInt + mg_p4 (((35 : Int), on.toInt, (0 : Int), (0 : Int), []) :: gs) ≤ 60 * z709.toInt + 60; omega), (by show 0 ≤ o720.toInt; omega), (by show o720.toInt + 64 * mj_n (g'801 16) z733.toNatClampNeg 3 ≤ 64 * z709.toInt; rw [show g'801 16 = g'741 16 from h805_ 16 (by decide), show g'741 16 = g'723 16 from h746_ 16 (by decide)]; omega), (by show 0 ≤ (f 44).toInt; omega), (by show (f 44).toInt ≤ z709.toInt; omega), (by show 0 ≤ (f 48).toInt; omega), (by show (f 48).toInt ≤ z709.toInt; omega), (by show 1 ≤ (f 53).toInt; omega), (by show (f 53).toInt ≤ z709.toInt + 1; omega), (by show 0 ≤ (f 19).toInt; omega), (by show (f 19).toInt ≤ 600; omega), (by show 0 ≤ (f 6).toInt; omega), (by show 0 ≤ (f 8).toInt; omega)⟩
              · show 100 * ((f 0).toInt - z709.toInt) + mg_p3 (((35 : Int), on.toInt, (0 : Int), (0 : Int), []) :: gs) < 100 * ((f 0).toInt - (f 4).toInt) + (1 + mg_p3 gs); omega
        · refine am_e13f hi_221_39 (am_cF (m := r712.toInt) (n := (63 : Int)) rfl (by decide) c717) ?_
          refine am_e0 hi_221_42 ?_
          refine am_e18 hi_221_43 ?_
          refine am_e3 (ls' := [some (.ref 39), some (.int on), some (.int tw), some (.int 1)]) hi_221_47 (Nat.le_of_ble_eq_true rfl) rfl ?_
          refine am_e1 (v := 1) hi_221_48 rfl ?_
          refine am_e12f hi_221_49 (by decide) ?_
          refine am_e2 (v := 39) hi_221_52 rfl ?_
          refine am_e32w (as := [.ref 39]) (la := [some (.ref 39)]) (rest := []) hi_221_53 (am_hd0 (M := 221) (by decide) 53) (Nat.le_of_ble_eq_true rfl) (Nat.le_of_ble_eq_true rfl) (show 1 ≤ am_P0.2.2.1 216 from by decide +kernel) rfl (am_recv_ok hS714.fs) rfl rfl ?_
          refine am_e2 (v := 39) hi_216_0 rfl ?_
          refine mm_20 (v := .ref 46) hS714 hi_216_1 rfl ?_
          refine am_e2 (v := 39) hi_216_4 rfl ?_
          refine mm_20 (v := .int (f 15)) hS714 hi_216_5 rfl ?_
          refine am_e0 hi_216_8 ?_
          obtain ⟨z807, hz807, tz807⟩ := am_subI (x := f 15) (y := 1) (m := (f 15).toInt) (n := (1 : Int)) rfl (by decide) (by omega) (by omega)
          refine am_e10 (z := z807) hi_216_9 hz807 ?_
          refine mm_25 hS714 ma_16 hi_216_10 (by decide) (by omega) (by omega) ?_
          show am_E _ _ _ _ [some (.ref 39)] [.int (g 16 z807.toNatClampNeg)] _ _
          refine am_e0 hi_216_11 ?_
          by_cases c808 : (g 16 z807.toNatClampNeg).toInt = (1 : Int)
          · refine am_e13t hi_216_12 (am_cT (m := (g 16 z807.toNatClampNeg).toInt) (n := (1 : Int)) rfl (by decide) c808) ?_
            refine am_e0 hi_216_30 ?_
            refine am_e18 hi_216_31 ?_
            refine am_e36 hi_216_35 (by decide) ?_
            show am_E _ _ _ _ [some (.ref 39), some (.int on), some (.int tw), some (.int 1)] [.int 1] _ _
            refine am_e12f hi_221_56 (by decide) ?_
            refine am_e2 (v := 39) hi_221_59 rfl ?_
            refine am_e32w (as := [.ref 39]) (la := [some (.ref 39), none]) (rest := []) hi_221_60 (am_hd0 (M := 221) (by decide) 60) (Nat.le_of_ble_eq_true rfl) (Nat.le_of_ble_eq_true rfl) (show 1 ≤ am_P0.2.2.1 217 from by decide +kernel) rfl (am_recv_ok hS714.fs) rfl rfl ?_
            refine am_e2 (v := 39) hi_217_0 rfl ?_
            refine mm_20 (v := .ref 47) hS714 hi_217_1 rfl ?_
            refine am_e2 (v := 39) hi_217_4 rfl ?_
            refine mm_20 (v := .int (f 15)) hS714 hi_217_5 rfl ?_
            refine am_e0 hi_217_8 ?_
            refine am_e10 (z := z807) hi_217_9 hz807 ?_
            refine mm_25 hS714 ma_17 hi_217_10 (by decide) (by omega) (by omega) ?_
            show am_E _ _ _ _ [some (.ref 39), none] [.int (g 17 z807.toNatClampNeg)] _ _
            have r809 : (g 16 z807.toNatClampNeg).toInt = 1 ∨ (g 16 z807.toNatClampNeg).toInt = 2 → 0 ≤ (g 17 z807.toNatClampNeg).toInt ∧ (g 17 z807.toNatClampNeg).toInt < 65536 := RJ.vc hR z807.toNatClampNeg
            refine am_e3 (ls' := [some (.ref 39), some (.int (g 17 z807.toNatClampNeg))]) hi_217_11 (Nat.le_of_ble_eq_true rfl) rfl ?_
            refine am_e2 (v := 39) hi_217_12 rfl ?_
            refine mm_20 (v := .ref 91) hS714 hi_217_13 rfl ?_
            refine am_e1 (v := g 17 z807.toNatClampNeg) hi_217_16 rfl ?_
            refine am_e2 (v := 39) hi_217_17 rfl ?_
            refine mm_20 (v := .ref 46) hS714 hi_217_18 rfl ?_
            refine am_e2 (v := 39) hi_217_21 rfl ?_
            refine mm_20 (v := .int (f 15)) hS714 hi_217_22 rfl ?_
            refine am_e0 hi_217_25 ?_
            refine am_e10 (z := z807) hi_217_26 hz807 ?_
            refine mm_25 hS714 ma_16 hi_217_27 (by decide) (by omega) (by omega) ?_
            show am_E _ _ _ _ [some (.ref 39), some (.int (g 17 z807.toNatClampNeg))] [.int (g 16 z807.toNatClampNeg), .int (g 17 z807.toNatClampNeg), .ref 91] _ _
            refine am_e0 hi_217_28 ?_
            refine am_e13f hi_217_29 (am_cF (m := (g 16 z807.toNatClampNeg).toInt) (n := (1 : Int)) rfl (by decide) (by simp only [am_cI]; omega)) ?_
            refine am_e2 (v := 39) hi_217_32 rfl ?_
            refine mm_20 (v := .ref 91) hS714 hi_217_33 rfl ?_
            refine am_e1 (v := g 17 z807.toNatClampNeg) hi_217_36 rfl ?_
            refine mm_25 hS714 ma_72 hi_217_37 (by decide) (by omega) (by omega) ?_
            show am_E _ _ _ _ [some (.ref 39), some (.int (g 17 z807.toNatClampNeg))] [.int (g 72 (g 17 z807.toNatClampNeg).toNatClampNeg), .int (g 17 z807.toNatClampNeg), .ref 91] _ _
            refine am_e0 hi_217_38 ?_
            obtain ⟨z810, hz810⟩ : ∃ q__, am_bin 3 (g 72 (g 17 z807.toNatClampNeg).toNatClampNeg) 1 = q__ := ⟨_, rfl⟩
            refine am_e10 (z := z810) hi_217_39 hz810 ?_
            refine am_e0 hi_217_40 ?_
            obtain ⟨z811, hz811⟩ : ∃ q__, am_bin 4 z810 4 = q__ := ⟨_, rfl⟩
            refine am_e10 (z := z811) hi_217_41 hz811 ?_
            refine am_e18 hi_217_42 ?_
            refine mm_26 hS714 ma_72 hi_217_46 (by decide) (by omega) (by omega) (fun h => nomatch h) ?_
            intro S812 hS813
            refine am_e2 (v := 39) hi_217_47 rfl ?_
            refine am_e7 hi_217_48 ?_
            refine mm_20 (v := .int (f 15)) hS813 hi_217_49 rfl ?_
            refine am_e0 hi_217_52 ?_
            refine am_e10 (z := z807) hi_217_53 hz807 ?_
            refine mm_21 (v := z807) hS813 hi_217_54 rfl (Nat.le_of_ble_eq_true rfl) ms_15 ?_
            intro S814 hS815
            have hp816 : mj_n (g 16) (f 15).toNatClampNeg 3 = mj_n (g 16) z807.toNatClampNeg 3 + if (g 16 z807.toNatClampNeg).toInt = 3 then 1 else 0 := mj_pop (by rw [cl_toNat, cl_toNat]; omega)
            have hp8161 : mj_n (g 16) z807.toNatClampNeg 3 ≤ mj_n (g 16) (f 15).toNatClampNeg 3 := by rw [hp816]; split <;> omega
            have hp8162 : (g 16 z807.toNatClampNeg).toInt = 3 → mj_n (g 16) z807.toNatClampNeg 3 + 1 ≤ mj_n (g 16) (f 15).toNatClampNeg 3 := fun q => by rw [hp816, if_pos q]; exact Int.le_refl _
            refine am_e35 hi_217_57 ?_
            show am_E _ _ _ _ [some (.ref 39), some (.int on), some (.int tw), some (.int 1)] [] _ _
            refine am_e2 (v := 39) hi_221_63 rfl ?_
            refine am_e0 hi_221_64 ?_
            refine am_e1 (v := on) hi_221_66 rfl ?_
            refine am_e0 hi_221_67 ?_
            refine am_e1 (v := tw) hi_221_68 rfl ?_
            refine am_e32n (as := [.ref 39, .int 24, .int on, .int 0, .int tw]) (la := [some (.ref 39), some (.int 24), some (.int on), some (.int 0), some (.int tw)]) (rest := []) hi_221_69 (am_hd0 (M := 221) (by decide) 69) (Nat.le_of_ble_eq_true rfl) (Nat.le_of_ble_eq_true rfl) (show 5 ≤ am_P0.2.2.1 189 from by decide +kernel) rfl (am_recv_ok hS815.fs) rfl rfl (ct_put (d := (d + 5)) hS815 hR  (by show (0 : Int) ≤ (f 32).toInt; omega) (by show (f 32).toInt ≤ (63 : Int); omega) (by show (f 53).toInt ≤ (4096 : Int); omega) (by show (0 : Int) ≤ (f 68).toInt; omega) (by show (f 68).toInt ≤ (65534 : Int); omega)) ?_
            rintro v817 S818 (⟨z819, r820, g'821, hv822, hS823, hR827, h824, h825, h826⟩)
            subst hv822
            have h824_ : z819.toInt = (f 68).toInt + 1 := h824
            have h825_ : r820.toInt = (f 68).toInt := h825
            have h826_ : ∀ j, j ∉ [60, 69, 70, 71, 72, 73] → g'821 j = (upg g 72 (g 17 z807.toNatClampNeg).toNatClampNeg z811) j := h826
            have hR827_ : RJ (upd (upd f 15 z807) 68 z819) g'821 gs bc [] 0 ((f 68).toNatClampNeg :: []) := hR827
            show am_E _ _ _ _ [some (.ref 39), some (.int on), some (.int tw), some (.int 1)] [.int r820] _ _
            refine am_e6i hi_221_72 ?_
            refine am_e18 hi_221_73 ?_
            refine am_e2 (v := 39) hi_221_90 rfl ?_
            refine am_e1 (v := on) hi_221_91 rfl ?_
            refine am_e32w (as := [.ref 39, .int on]) (la := [some (.ref 39), some (.int on)]) (rest := []) hi_221_92 (am_hd0 (M := 221) (by decide) 92) (Nat.le_of_ble_eq_true rfl) (Nat.le_of_ble_eq_true rfl) (show 2 ≤ am_P0.2.2.1 220 from by decide +kernel) rfl (am_recv_ok hS823.fs) rfl rfl ?_
            refine am_e2 (v := 39) hi_220_0 rfl ?_
            refine am_e32n (as := [.ref 39]) (la := [some (.ref 39)]) (rest := []) hi_220_1 (am_hd0 (M := 220) (by decide) 1) (Nat.le_of_ble_eq_true rfl) (Nat.le_of_ble_eq_true rfl) (show 1 ≤ am_P0.2.2.1 183 from by decide +kernel) rfl (am_recv_ok hS823.fs) rfl rfl (ct_next (d := (d + 3)) hS823   (by show (0 : Int) ≤ (f 4).toInt; omega) (by show (f 0).toInt ≤ (16384 : Int); omega)) ?_
            rintro v828 S829 (⟨r830, hv831, hS832, h833⟩)
            subst hv831
            have h833_ : (f 4).toInt < (f 0).toInt ∨ r830.toInt = (-1 : Int) := h833
            show am_E _ _ _ _ [some (.ref 39), some (.int on)] [.int r830] _ _
            refine am_e0 hi_220_4 ?_
            by_cases c835 : r830.toInt = (69 : Int)
            · refine am_e13t hi_220_6 (am_cT (m := r830.toInt) (n := (69 : Int)) rfl (by decide) c835) ?_
              refine am_e2 (v := 39) hi_220_18 rfl ?_
              refine am_e7 hi_220_19 ?_
              refine mm_20 (v := .int (f 4)) hS832 hi_220_20 rfl ?_
              refine am_e0 hi_220_23 ?_
              refine am_e10 (z := z709) hi_220_24 hz709 ?_
              refine mm_21 (v := z709) hS832 hi_220_25 rfl (Nat.le_of_ble_eq_true rfl) ms_4 ?_
              intro S836 hS837
              replace hS837 : MS S0 S836 (upd (upd (upd f 4 z709) 15 z807) 68 z819) g'821 := hS837
              have hR838 : RJ (upd (upd (upd f 4 z709) 15 z807) 68 z819) g'821 gs bc [] 0 ((f 68).toNatClampNeg :: []) := RJ.at hR827_ (by show (f 4).toInt ≤ z709.toInt; omega)
              refine am_e2 (v := 39) hi_220_28 rfl ?_
              refine am_e0 hi_220_29 ?_
              refine am_e1 (v := on) hi_220_31 rfl ?_
              refine am_e0 hi_220_32 ?_
              refine am_e0 hi_220_33 ?_
              refine am_e32n (as := [.ref 39, .int 35, .int on, .int 0, .int 0]) (la := [some (.ref 39), some (.int 35), some (.int on), some (.int 0), some (.int 0)]) (rest := []) hi_220_34 (am_hd0 (M := 220) (by decide) 34) (Nat.le_of_ble_eq_true rfl) (Nat.le_of_ble_eq_true rfl) (show 5 ≤ am_P0.2.2.1 179 from by decide +kernel) rfl (am_recv_ok hS837.fs) rfl rfl (ct_pile (d := (d + 4)) hS837 hR838 (mj_e_plain (by decide)) (by show (0 : Int) ≤ (f 10).toInt; omega) (by show (f 10).toInt ≤ (65535 : Int); omega)) ?_
              rintro v839 S840 (⟨z841, g'842, hv843, hS844, hR847, h845, h846⟩)
              subst hv843
              have h845_ : z841.toInt = (f 10).toInt + 1 := h845
              have h846_ : ∀ j, j ∉ [11, 12, 13, 14] → g'842 j = g'821 j := h846
              replace hS844 : MS S0 S840 (upd (upd (upd (upd f 4 z709) 10 z841) 15 z807) 68 z819) g'842 := hS844
              have hR847_ : RJ (upd (upd (upd (upd f 4 z709) 10 z841) 15 z807) 68 z819) g'842 (((35 : Int), on.toInt, (0 : Int), (0 : Int), []) :: gs) bc [] 0 ((f 68).toNatClampNeg :: []) := hR847
              show am_E _ _ _ _ [some (.ref 39), some (.int on)] [] _ _
              refine am_e18 hi_220_37 ?_
              refine am_e35 hi_220_47 ?_
              show am_E _ _ _ _ [some (.ref 39), some (.int on), some (.int tw), some (.int 1)] [] _ _
              refine am_e35 hi_221_95 ?_
              show am_E _ _ _ _ [some (.ref 39), some (.int 39), some (.int on), some (.int tw)] [] _ _
              refine am_e18 hi_181_366 ?_
              refine am_e35 hi_181_397 ?_
              show am_E _ _ _ _ [some (.ref 39), some (.int 39), some (.int on), some (.int tw), some (.int th)] [] _ _
              refine am_e35 hi_180_13 ?_
              have q1 : mg_p1 (((35 : Int), on.toInt, (0 : Int), (0 : Int), []) :: gs) = 0 + (mg_p1 gs) := rfl
              have q2 : mg_p2 (((35 : Int), on.toInt, (0 : Int), (0 : Int), []) :: gs) = 0 + (mg_p2 gs) := rfl
              have q3 : mg_p3 (((35 : Int), on.toInt, (0 : Int), (0 : Int), []) :: gs) = 3 + (mg_p3 gs) := rfl
              have q4 : mg_p4 (((35 : Int), on.toInt, (0 : Int), (0 : Int), []) :: gs) = 0 + (mg_p4 gs) := rfl
              refine ⟨_, _, _, bc, rfl, hS844, Or.inl ⟨⟨(RJ.fewer (pj' := []) hR847_ (fun _ h => nomatch h)), ?_, ?_⟩, rfl, ?_⟩⟩
              · exact (⟨⟨(show mg_k 35 from by decide), (show (0 : Int) ≤ z807.toInt from by omega), (show 0 ≤ (f 20).toInt from by omega), (show 1 ≤ (f 37).toInt from by omega), (show 0 ≤ (f 32).toInt from by omega), (show (f 32).toInt ≤ (f 5).toInt from by omega), (show (f 5).toInt ≤ 48 from by omega), (show (f 37).toInt ≤ 2 * ((f 5).toInt) + 2 from by omega), trivial⟩, mg_cast (mg_good_ext _ _ _ _ _ _ (fun i _ => by show g'842 34 i = g 34 i; rw [show g'842 34 = g'821 34 from h846_ 34 (by decide), show g'821 34 = g 34 from h826_ 34 (by decide)]) (fun i _ => by show g'842 38 i = g 38 i; rw [show g'842 38 = g'821 38 from h846_ 38 (by decide), show g'821 38 = g 38 from h826_ 38 (by decide)]) (fun i _ => by show g'842 23 i = g 23 i; rw [show g'842 23 = g'821 23 from h846_ 23 (by decide), show g'821 23 = g 23 from h826_ 23 (by decide)]) hrest) (by show (f 15).toInt + -1 = z807.toInt + 0; omega) (by show (f 20).toInt = (f 20).toInt; omega) (by show (f 37).toInt + 0 = (f 37).toInt + 0; omega) (by show (f 32).toInt + 0 = (f 32).toInt + 0; omega) (by show (f 5).toInt + -1 = (f 5).toInt + -1; omega)⟩ : mg_good (g'842 34) (g'842 38) (g'842 23) (((35 : Int), on.toInt, (0 : Int), (0 : Int), []) :: gs) (z807.toInt) ((f 20).toInt) ((f 37).toInt) ((f 32).toInt) ((f 5).toInt))
              · exact ⟨(by show 0 ≤ z709.toInt; omega), (by show z709.toInt ≤ (f 0).toInt; omega), (by show (f 0).toInt ≤ 512; omega), (by show 0 ≤ (f 24).toInt; omega), (by show (f 24).toInt + (f 20).toInt + mg_p1 (((35 : Int), on.toInt, (0 : Int), (0 : Int), []) :: gs) ≤ 4 * z709.toInt; omega), (by show (f 20).toInt ≤ z709.toInt; omega), (by show z807.toInt + mg_p2 (((35 : Int), on.toInt, (0 : Int), (0 : Int), []) :: gs) ≤ z709.toInt; omega), (by show mg_p3 (((35 : Int), on.toInt, (0 : Int), (0 : Int), []) :: gs) ≤ 20 * z709.toInt + 20; omega), (by show 0 ≤ z819.toInt; omega), (by show z819.toInt + 3 * (f 20).toInt + mg_p4 (((35 : Int), on.toInt, (0 : Int), (0 : Int), []) :: gs) ≤ 60 * z709.toInt + 60; omega), (by show 0 ≤ (f 62).toInt; omega), (by show (f 62).toInt + 64 * mj_n (g'842 16) z807.toNatClampNeg 3 ≤ 64 * z709.toInt; rw [show g'842 16 = g'821 16 from h846_ 16 (by decide), show g'821 16 = g 16 from h826_ 16 (by decide)]; omega), (by show 0 ≤ (f 44).toInt; omega), (by show (f 44).toInt ≤ z709.toInt; omega), (by show 0 ≤ (f 48).toInt; omega), (by show (f 48).toInt ≤ z709.toInt; omega), (by show 1 ≤ (f 53).toInt; omega), (by show (f 53).toInt ≤ z709.toInt + 1; omega), (by show 0 ≤ (f 19).toInt; omega), (by show (f 19).toInt ≤ 600; omega), (by show 0 ≤ (f 6).toInt; omega), (by show 0 ≤ (f 8).toInt; omega)⟩
              · show 100 * ((f 0).toInt - z709.toInt) + mg_p3 (((35 : Int), on.toInt, (0 : Int), (0 : Int), []) :: gs) < 100 * ((f 0).toInt - (f 4).toInt) + (1 + mg_p3 gs); omega
            · refine am_e13f hi_220_6 (am_cF (m := r830.toInt) (n := (69 : Int)) rfl (by decide) c835) ?_
              refine am_e2 (v := 39) hi_220_9 rfl ?_
              refine am_e32n (as := [.ref 39]) (la := [some (.ref 39)]) (rest := []) hi_220_10 (am_hd0 (M := 220) (by decide) 10) (Nat.le_of_ble_eq_true rfl) (Nat.le_of_ble_eq_true rfl) (show 1 ≤ am_P0.2.2.1 183 from by decide +kernel) rfl (am_recv_ok hS832.fs) rfl rfl (ct_next (d := (d + 3)) hS832   (by show (0 : Int) ≤ (f 4).toInt; omega) (by show (f 0).toInt ≤ (16384 : Int); omega)) ?_
              rintro v848 S849 (⟨r850, hv851, hS852, h853⟩)
              subst hv851
              have h853_ : (f 4).toInt < (f 0).toInt ∨ r850.toInt = (-1 : Int) := h853
              show am_E _ _ _ _ [some (.ref 39), some (.int on)] [.int r850] _ _
              refine am_e0 hi_220_13 ?_
              by_cases c855 : ¬ r850.toInt = (67 : Int)
              · refine am_e13t hi_220_15 (am_cT (m := r850.toInt) (n := (67 : Int)) rfl (by decide) c855) ?_
                refine am_e2 (v := 39) hi_220_40 rfl ?_
                refine am_e0 hi_220_41 ?_
                refine am_e32n (as := [.ref 39, .int 63]) (la := [some (.ref 39), some (.int 63)]) (rest := []) hi_220_43 (am_hd0 (M := 220) (by decide) 43) (Nat.le_of_ble_eq_true rfl) (Nat.le_of_ble_eq_true rfl) (show 2 ≤ am_P0.2.2.1 199 from by decide +kernel) rfl (am_recv_ok hS852.fs) rfl rfl (ct_leave (d := (d + 1)) hS852   (by show (0 : Int) ≤ (f 4).toInt; omega) (by show (f 0).toInt ≤ (16384 : Int); omega) (by show (0 : Int) ≤ (63 : Int); omega) (by show (0 : Int) ≤ (f 5).toInt; omega) (by show (f 5).toInt ≤ (48 : Int); omega) (by show (0 : Int) ≤ (f 6).toInt; omega)) ?_
                rintro v856 S857 (⟨z858, y859, hv860, hS861, h862, h863, h864⟩ | ⟨a866, b867, hv868, hS869, h870⟩)
                · subst hv860
                  have h862_ : z858.toInt = (f 4).toInt + 1 := h862
                  have h863_ : (f 4).toInt < (f 0).toInt := h863
                  have h864_ : y859.toInt = (f 5).toInt - 1 := h864
                  replace hS861 : MS S0 S857 (upd (upd (upd (upd f 4 z858) 5 y859) 15 z807) 68 z819) g'821 := hS861
                  have hR872 : RJ (upd (upd (upd (upd f 4 z858) 5 y859) 15 z807) 68 z819) g'821 gs bc [] 0 ((f 68).toNatClampNeg :: []) := RJ.at hR827_ (by show (f 4).toInt ≤ z858.toInt; omega)
                  show am_E _ _ _ _ [some (.ref 39), some (.int on)] [.int 1] _ _
                  refine am_e6i hi_220_46 ?_
                  refine am_e35 hi_220_47 ?_
                  show am_E _ _ _ _ [some (.ref 39), some (.int on), some (.int tw), some (.int 1)] [] _ _
                  refine am_e35 hi_221_95 ?_
                  show am_E _ _ _ _ [some (.ref 39), some (.int 39), some (.int on), some (.int tw)] [] _ _
                  refine am_e18 hi_181_366 ?_
                  refine am_e35 hi_181_397 ?_
                  show am_E _ _ _ _ [some (.ref 39), some (.int 39), some (.int on), some (.int tw), some (.int th)] [] _ _
                  refine am_e35 hi_180_13 ?_
                  have q1 : mg_p1 gs = mg_p1 gs := rfl
                  have q2 : mg_p2 gs = mg_p2 gs := rfl
                  have q3 : mg_p3 gs = mg_p3 gs := rfl
                  have q4 : mg_p4 gs = mg_p4 gs := rfl
                  refine ⟨_, _, _, bc, rfl, hS861, Or.inl ⟨⟨(RJ.fewer (pj' := []) hR872 (fun _ h => nomatch h)), ?_, ?_⟩, rfl, ?_⟩⟩
                  · exact (mg_cast (mg_good_ext _ _ _ _ _ _ (fun i _ => by show g'821 34 i = g 34 i; rw [show g'821 34 = g 34 from h826_ 34 (by decide)]) (fun i _ => by show g'821 38 i = g 38 i; rw [show g'821 38 = g 38 from h826_ 38 (by decide)]) (fun i _ => by show g'821 23 i = g 23 i; rw [show g'821 23 = g 23 from h826_ 23 (by decide)]) hrest) (by show (f 15).toInt + -1 = z807.toInt; omega) (by show (f 20).toInt = (f 20).toInt; omega) (by show (f 37).toInt + 0 = (f 37).toInt; omega) (by show (f 32).toInt + 0 = (f 32).toInt; omega) (by show (f 5).toInt + -1 = y859.toInt; omega) : mg_good (g'821 34) (g'821 38) (g'821 23) gs (z807.toInt) ((f 20).toInt) ((f 37).toInt) ((f 32).toInt) (y859.toInt))
                  · exact ⟨(by show 0 ≤ z858.toInt; omega), (by show z858.toInt ≤ (f 0).toInt; omega), (by show (f 0).toInt ≤ 512; omega), (by show 0 ≤ (f 24).toInt; omega), (by show (f 24).toInt + (f 20).toInt + mg_p1 gs ≤ 4 * z858.toInt; omega), (by show (f 20).toInt ≤ z858.toInt; omega), (by show z807.toInt + mg_p2 gs ≤ z858.toInt; omega), (by show mg_p3 gs ≤ 20 * z858.toInt + 20; omega), (by show 0 ≤ z819.toInt; omega), (by show z819.toInt + 3 * (f 20).toInt + mg_p4 gs ≤ 60 * z858.toInt + 60; omega), (by show 0 ≤ (f 62).toInt; omega), (by show (f 62).toInt + 64 * mj_n (g'821 16) z807.toNatClampNeg 3 ≤ 64 * z858.toInt; rw [show g'821 16 = g 16 from h826_ 16 (by decide)]; omega), (by show 0 ≤ (f 44).toInt; omega), (by show (f 44).toInt ≤ z858.toInt; omega), (by show 0 ≤ (f 48).toInt; omega), (by show (f 48).toInt ≤ z858.toInt; omega), (by show 1 ≤ (f 53).toInt; omega), (by show (f 53).toInt ≤ z858.toInt + 1; omega), (by show 0 ≤ (f 19).toInt; omega), (by show (f 19).toInt ≤ 600; omega), (by show 0 ≤ (f 6).toInt; omega), (by show 0 ≤ (f 8).toInt; omega)⟩
                  · show 100 * ((f 0).toInt - z858.toInt) + mg_p3 gs < 100 * ((f 0).toInt - (f 4).toInt) + (1 + mg_p3 gs); omega
                · subst hv868
                  have h870_ : (0 : Int) ≤ a866.toInt := h870
                  replace hS869 : MS S0 S857 (upd (upd (upd (upd (upd f 6 a866) 7 b867) 10 0) 15 z807) 68 z819) g'821 := hS869
                  have hR873 := rj_clear0 hR827_
                  have hR874 : RJ (upd (upd (upd (upd (upd f 6 a866) 7 b867) 10 0) 15 z807) 68 z819) g'821 [] bc [] 0 [] := hR873
                  show am_E _ _ _ _ [some (.ref 39), some (.int on)] [.int 0] _ _
                  refine am_e6i hi_220_46 ?_
                  refine am_e35 hi_220_47 ?_
                  show am_E _ _ _ _ [some (.ref 39), some (.int on), some (.int tw), some (.int 1)] [] _ _
                  refine am_e35 hi_221_95 ?_
                  show am_E _ _ _ _ [some (.ref 39), some (.int 39), some (.int on), some (.int tw)] [] _ _
                  refine am_e18 hi_181_366 ?_
                  refine am_e35 hi_181_397 ?_
                  show am_E _ _ _ _ [some (.ref 39), some (.int 39), some (.int on), some (.int tw), some (.int th)] [] _ _
                  refine am_e35 hi_180_13 ?_
                  have hRc := rj_clear0 hR874
                  refine ⟨_, _, [], _, rfl, hS869, Or.inr ⟨hRc, rfl, (by show 0 ≤ (f 4).toInt; omega), (by show (f 4).toInt ≤ (f 0).toInt; omega), (by show 0 ≤ (f 32).toInt; omega), (by show (f 32).toInt ≤ 63; omega), (by show 1 ≤ (f 53).toInt; omega), (by show (f 53).toInt ≤ 600; omega), (by show 0 ≤ z819.toInt; omega), (by show z819.toInt ≤ 60000; omega), (by show 0 ≤ (f 48).toInt; omega), (by show (f 48).toInt ≤ 8000; omega), (by show 0 ≤ (f 37).toInt; omega), (by show (f 37).toInt ≤ 128; omega), (by show 0 ≤ (f 62).toInt; omega), (by show (f 62).toInt ≤ 65000; omega), (by show 0 ≤ (f 19).toInt; omega), (by show (f 19).toInt ≤ 600; omega), (by show 0 ≤ a866.toInt; omega), (by show 0 ≤ (f 8).toInt; omega)⟩⟩
              · refine am_e13f hi_220_15 (am_cF (m := r850.toInt) (n := (67 : Int)) rfl (by decide) c855) ?_
                refine am_e2 (v := 39) hi_220_18 rfl ?_
                refine am_e7 hi_220_19 ?_
                refine mm_20 (v := .int (f 4)) hS852 hi_220_20 rfl ?_
                refine am_e0 hi_220_23 ?_
                refine am_e10 (z := z709) hi_220_24 hz709 ?_
                refine mm_21 (v := z709) hS852 hi_220_25 rfl (Nat.le_of_ble_eq_true rfl) ms_4 ?_
                intro S875 hS876
                replace hS876 : MS S0 S875 (upd (upd (upd f 4 z709) 15 z807) 68 z819) g'821 := hS876
                have hR877 : RJ (upd (upd (upd f 4 z709) 15 z807) 68 z819) g'821 gs bc [] 0 ((f 68).toNatClampNeg :: []) := RJ.at hR827_ (by show (f 4).toInt ≤ z709.toInt; omega)
                refine am_e2 (v := 39) hi_220_28 rfl ?_
                refine am_e0 hi_220_29 ?_
                refine am_e1 (v := on) hi_220_31 rfl ?_
                refine am_e0 hi_220_32 ?_
                refine am_e0 hi_220_33 ?_
                refine am_e32n (as := [.ref 39, .int 35, .int on, .int 0, .int 0]) (la := [some (.ref 39), some (.int 35), some (.int on), some (.int 0), some (.int 0)]) (rest := []) hi_220_34 (am_hd0 (M := 220) (by decide) 34) (Nat.le_of_ble_eq_true rfl) (Nat.le_of_ble_eq_true rfl) (show 5 ≤ am_P0.2.2.1 179 from by decide +kernel) rfl (am_recv_ok hS876.fs) rfl rfl (ct_pile (d := (d + 4)) hS876 hR877 (mj_e_plain (by decide)) (by show (0 : Int) ≤ (f 10).toInt; omega) (by show (f 10).toInt ≤ (65535 : Int); omega)) ?_
                rintro v878 S879 (⟨z880, g'881, hv882, hS883, hR886, h884, h885⟩)
                subst hv882
                have h884_ : z880.toInt = (f 10).toInt + 1 := h884
                have h885_ : ∀ j, j ∉ [11, 12, 13, 14] → g'881 j = g'821 j := h885
                replace hS883 : MS S0 S879 (upd (upd (upd (upd f 4 z709) 10 z880) 15 z807) 68 z819) g'881 := hS883
                have hR886_ : RJ (upd (upd (upd (upd f 4 z709) 10 z880) 15 z807) 68 z819) g'881 (((35 : Int), on.toInt, (0 : Int), (0 : Int), []) :: gs) bc [] 0 ((f 68).toNatClampNeg :: []) := hR886
                show am_E _ _ _ _ [some (.ref 39), some (.int on)] [] _ _
                refine am_e18 hi_220_37 ?_
                refine am_e35 hi_220_47 ?_
                show am_E _ _ _ _ [some (.ref 39), some (.int on), some (.int tw), some (.int 1)] [] _ _
                refine am_e35 hi_221_95 ?_
                show am_E _ _ _ _ [some (.ref 39), some (.int 39), some (.int on), some (.int tw)] [] _ _
                refine am_e18 hi_181_366 ?_
                refine am_e35 hi_181_397 ?_
                show am_E _ _ _ _ [some (.ref 39), some (.int 39), some (.int on), some (.int tw), some (.int th)] [] _ _
                refine am_e35 hi_180_13 ?_
                have q1 : mg_p1 (((35 : Int), on.toInt, (0 : Int), (0 : Int), []) :: gs) = 0 + (mg_p1 gs) := rfl
                have q2 : mg_p2 (((35 : Int), on.toInt, (0 : Int), (0 : Int), []) :: gs) = 0 + (mg_p2 gs) := rfl
                have q3 : mg_p3 (((35 : Int), on.toInt, (0 : Int), (0 : Int), []) :: gs) = 3 + (mg_p3 gs) := rfl
                have q4 : mg_p4 (((35 : Int), on.toInt, (0 : Int), (0 : Int), []) :: gs) = 0 + (mg_p4 gs) := rfl
                refine ⟨_, _, _, bc, rfl, hS883, Or.inl ⟨⟨(RJ.fewer (pj' := []) hR886_ (fun _ h => nomatch h)), ?_, ?_⟩, rfl, ?_⟩⟩
                · exact (⟨⟨(show mg_k 35 from by decide), (show (0 : Int) ≤ z807.toInt from by omega), (show 0 ≤ (f 20).toInt from by omega), (show 1 ≤ (f 37).toInt from by omega), (show 0 ≤ (f 32).toInt from by omega), (show (f 32).toInt ≤ (f 5).toInt from by omega), (show (f 5).toInt ≤ 48 from by omega), (show (f 37).toInt ≤ 2 * ((f 5).toInt) + 2 from by omega), trivial⟩, mg_cast (mg_good_ext _ _ _ _ _ _ (fun i _ => by show g'881 34 i = g 34 i; rw [show g'881 34 = g'821 34 from h885_ 34 (by decide), show g'821 34 = g 34 from h826_ 34 (by decide)]) (fun i _ => by show g'881 38 i = g 38 i; rw [show g'881 38 = g'821 38 from h885_ 38 (by decide), show g'821 38 = g 38 from h826_ 38 (by decide)]) (fun i _ => by show g'881 23 i = g 23 i; rw [show g'881 23 = g'821 23 from h885_ 23 (by decide), show g'821 23 = g 23 from h826_ 23 (by decide)]) hrest) (by show (f 15).toInt + -1 = z807.toInt + 0; omega) (by show (f 20).toInt = (f 20).toInt; omega) (by show (f 37).toInt + 0 = (f 37).toInt + 0; omega) (by show (f 32).toInt + 0 = (f 32).toInt + 0; omega) (by show (f 5).toInt + -1 = (f 5).toInt + -1; omega)⟩ : mg_good (g'881 34) (g'881 38) (g'881 23) (((35 : Int), on.toInt, (0 : Int), (0 : Int), []) :: gs) (z807.toInt) ((f 20).toInt) ((f 37).toInt) ((f 32).toInt) ((f 5).toInt))
                · exact ⟨(by show 0 ≤ z709.toInt; omega), (by show z709.toInt ≤ (f 0).toInt; omega), (by show (f 0).toInt ≤ 512; omega), (by show 0 ≤ (f 24).toInt; omega), (by show (f 24).toInt + (f 20).toInt + mg_p1 (((35 : Int), on.toInt, (0 : Int), (0 : Int), []) :: gs) ≤ 4 * z709.toInt; omega), (by show (f 20).toInt ≤ z709.toInt; omega), (by show z807.toInt + mg_p2 (((35 : Int), on.toInt, (0 : Int), (0 : Int), []) :: gs) ≤ z709.toInt; omega), (by show mg_p3 (((35 : Int), on.toInt, (0 : Int), (0 : Int), []) :: gs) ≤ 20 * z709.toInt + 20; omega), (by show 0 ≤ z819.toInt; omega), (by show z819.toInt + 3 * (f 20).toInt + mg_p4 (((35 : Int), on.toInt, (0 : Int), (0 : Int), []) :: gs) ≤ 60 * z709.toInt + 60; omega), (by show 0 ≤ (f 62).toInt; omega), (by show (f 62).toInt + 64 * mj_n (g'881 16) z807.toNatClampNeg 3 ≤ 64 * z709.toInt; rw [show g'881 16 = g'821 16 from h885_ 16 (by decide), show g'821 16 = g 16 from h826_ 16 (by decide)]; omega), (by show 0 ≤ (f 44).toInt; omega), (by show (f 44).toInt ≤ z709.toInt; omega), (by show 0 ≤ (f 48).toInt; omega), (by show (f 48).toInt ≤ z709.toInt; omega), (by show 1 ≤ (f 53).toInt; omega), (by show (f 53).toInt ≤ z709.toInt + 1; omega), (by show 0 ≤ (f 19).toInt; omega), (by show (f 19).toInt ≤ 600; omega), (by show 0 ≤ (f 6).toInt; omega), (by show 0 ≤ (f 8).toInt; omega)⟩
                · show 100 * ((f 0).toInt - z709.toInt) + mg_p3 (((35 : Int), on.toInt, (0 : Int), (0 : Int), []) :: gs) < 100 * ((f 0).toInt - (f 4).toInt) + (1 + mg_p3 gs); omega
          · refine am_e13f hi_216_12 (am_cF (m := (g 16 z807.toNatClampNeg).toInt) (n := (1 : Int)) rfl (by decide) c808) ?_
            refine am_e2 (v := 39) hi_216_15 rfl ?_
            refine mm_20 (v := .ref 46) hS714 hi_216_16 rfl ?_
            refine am_e2 (v := 39) hi_216_19 rfl ?_
            refine mm_20 (v := .int (f 15)) hS714 hi_216_20 rfl ?_
            refine am_e0 hi_216_23 ?_
            refine am_e10 (z := z807) hi_216_24 hz807 ?_
            refine mm_25 hS714 ma_16 hi_216_25 (by decide) (by omega) (by omega) ?_
            show am_E _ _ _ _ [some (.ref 39)] [.int (g 16 z807.toNatClampNeg)] _ _
            refine am_e0 hi_216_26 ?_
            by_cases c887 : ¬ (g 16 z807.toNatClampNeg).toInt = (2 : Int)
            · refine am_e13t hi_216_27 (am_cT (m := (g 16 z807.toNatClampNeg).toInt) (n := (2 : Int)) rfl (by decide) c887) ?_
              refine am_e0 hi_216_34 ?_
              refine am_e36 hi_216_35 (by decide) ?_
              show am_E _ _ _ _ [some (.ref 39), some (.int on), some (.int tw), some (.int 1)] [.int 0] _ _
              refine am_e12t hi_221_56 (by decide) ?_
              refine am_e2 (v := 39) hi_221_76 rfl ?_
              refine am_e32w (as := [.ref 39]) (la := [some (.ref 39)]) (rest := []) hi_221_77 (am_hd0 (M := 221) (by decide) 77) (Nat.le_of_ble_eq_true rfl) (Nat.le_of_ble_eq_true rfl) (show 1 ≤ am_P0.2.2.1 209 from by decide +kernel) rfl (am_recv_ok hS714.fs) rfl rfl ?_
              refine am_e2 (v := 39) hi_209_0 rfl ?_
              refine am_e32n (as := [.ref 39]) (la := [some (.ref 39), none, none, none]) (rest := []) hi_209_1 (am_hd0 (M := 209) (by decide) 1) (Nat.le_of_ble_eq_true rfl) (Nat.le_of_ble_eq_true rfl) (show 1 ≤ am_P0.2.2.1 204 from by decide +kernel) rfl (am_recv_ok hS714.fs) rfl rfl (ct_load (d := (d + 2)) hS714 hR  (by show (0 : Int) ≤ (f 32).toInt; omega) (by show (f 32).toInt ≤ (63 : Int); omega) (by show (f 53).toInt ≤ (4096 : Int); omega) (by show (0 : Int) ≤ (f 68).toInt; omega) (by show (f 68).toInt ≤ (65534 : Int); omega) (by show (1 : Int) ≤ (f 15).toInt; omega) (by show (f 15).toInt ≤ (32767 : Int); omega) (by show (0 : Int) ≤ (f 24).toInt; omega) (by show (f 24).toInt ≤ (16384 : Int); omega) (by show (0 : Int) ≤ (f 62).toInt; omega) (by show (f 62).toInt ≤ (65000 : Int); omega)) ?_
              rintro v888 S889 (⟨o890, s891, m892, g'893, hv894, hS895, hR902, h896, h897, h898, h899, h900, h901⟩)
              subst hv894
              have h896_ : (f 62).toInt ≤ o890.toInt := h896
              have h897_ : o890.toInt ≤ (f 62).toInt + 64 := h897
              have h898_ : (f 68).toInt ≤ s891.toInt := h898
              have h899_ : s891.toInt ≤ (f 68).toInt + 1 := h899
              have h900_ : o890.toInt + 64 * mj_n (g'893 16) (f 15).toNatClampNeg 3 ≤ (f 62).toInt + 64 * mj_n (g 16) (f 15).toNatClampNeg 3 := h900
              have h901_ : ∀ j, j ∉ [16, 60, 63, 64, 65, 66, 67, 69, 70, 71, 72, 73] → g'893 j = g j := h901
              have hR902_ : RJ (upd (upd (upd f 62 o890) 68 s891) 75 m892) g'893 gs bc [] 0 [] := hR902
              show am_E _ _ _ _ [some (.ref 39)] [] _ _
              refine am_e2 (v := 39) hi_209_4 rfl ?_
              refine am_e7 hi_209_5 ?_
              refine mm_20 (v := .int (f 15)) hS895 hi_209_6 rfl ?_
              refine am_e0 hi_209_9 ?_
              refine am_e10 (z := z807) hi_209_10 hz807 ?_
              refine mm_21 (v := z807) hS895 hi_209_11 rfl (Nat.le_of_ble_eq_true rfl) ms_15 ?_
              intro S903 hS904
              replace hS904 : MS S0 S903 (upd (upd (upd (upd f 15 z807) 62 o890) 68 s891) 75 m892) g'893 := hS904
              have hp905 : mj_n (g'893 16) (f 15).toNatClampNeg 3 = mj_n (g'893 16) z807.toNatClampNeg 3 + if (g'893 16 z807.toNatClampNeg).toInt = 3 then 1 else 0 := mj_pop (by rw [cl_toNat, cl_toNat]; omega)
              have hp9051 : mj_n (g'893 16) z807.toNatClampNeg 3 ≤ mj_n (g'893 16) (f 15).toNatClampNeg 3 := by rw [hp905]; split <;> omega
              have hp9052 : (g'893 16 z807.toNatClampNeg).toInt = 3 → mj_n (g'893 16) z807.toNatClampNeg 3 + 1 ≤ mj_n (g'893 16) (f 15).toNatClampNeg 3 := fun q => by rw [hp905, if_pos q]; exact Int.le_refl _
              refine am_e35 hi_209_14 ?_
              show am_E _ _ _ _ [some (.ref 39), some (.int on), some (.int tw), some (.int 1)] [] _ _
              refine am_e2 (v := 39) hi_221_80 rfl ?_
              refine am_e0 hi_221_81 ?_
              refine am_e1 (v := on) hi_221_83 rfl ?_
              refine am_e0 hi_221_84 ?_
              refine am_e1 (v := tw) hi_221_85 rfl ?_
              refine am_e32n (as := [.ref 39, .int 23, .int on, .int 0, .int tw]) (la := [some (.ref 39), some (.int 23), some (.int on), some (.int 0), some (.int tw)]) (rest := []) hi_221_86 (am_hd0 (M := 221) (by decide) 86) (Nat.le_of_ble_eq_true rfl) (Nat.le_of_ble_eq_true rfl) (show 5 ≤ am_P0.2.2.1 189 from by decide +kernel) rfl (am_recv_ok hS904.fs) rfl rfl (ct_put (d := (d + 5)) hS904 hR902_  (by show (0 : Int) ≤ (f 32).toInt; omega) (by show (f 32).toInt ≤ (63 : Int); omega) (by show (f 53).toInt ≤ (4096 : Int); omega) (by show (0 : Int) ≤ s891.toInt; omega) (by show s891.toInt ≤ (65534 : Int); omega)) ?_
              rintro v906 S907 (⟨z908, r909, g'910, hv911, hS912, hR916, h913, h914, h915⟩)
              subst hv911
              have h913_ : z908.toInt = s891.toInt + 1 := h913
              have h914_ : r909.toInt = s891.toInt := h914
              have h915_ : ∀ j, j ∉ [60, 69, 70, 71, 72, 73] → g'910 j = g'893 j := h915
              replace hS912 : MS S0 S907 (upd (upd (upd (upd f 15 z807) 62 o890) 68 z908) 75 m892) g'910 := hS912
              have hR916_ : RJ (upd (upd (upd (upd f 15 z807) 62 o890) 68 z908) 75 m892) g'910 gs bc [] 0 (s891.toNatClampNeg :: []) := hR916
              show am_E _ _ _ _ [some (.ref 39), some (.int on), some (.int tw), some (.int 1)] [.int r909] _ _
              refine am_e6i hi_221_89 ?_
              refine am_e2 (v := 39) hi_221_90 rfl ?_
              refine am_e1 (v := on) hi_221_91 rfl ?_
              refine am_e32w (as := [.ref 39, .int on]) (la := [some (.ref 39), some (.int on)]) (rest := []) hi_221_92 (am_hd0 (M := 221) (by decide) 92) (Nat.le_of_ble_eq_true rfl) (Nat.le_of_ble_eq_true rfl) (show 2 ≤ am_P0.2.2.1 220 from by decide +kernel) rfl (am_recv_ok hS912.fs) rfl rfl ?_
              refine am_e2 (v := 39) hi_220_0 rfl ?_
              refine am_e32n (as := [.ref 39]) (la := [some (.ref 39)]) (rest := []) hi_220_1 (am_hd0 (M := 220) (by decide) 1) (Nat.le_of_ble_eq_true rfl) (Nat.le_of_ble_eq_true rfl) (show 1 ≤ am_P0.2.2.1 183 from by decide +kernel) rfl (am_recv_ok hS912.fs) rfl rfl (ct_next (d := (d + 3)) hS912   (by show (0 : Int) ≤ (f 4).toInt; omega) (by show (f 0).toInt ≤ (16384 : Int); omega)) ?_
              rintro v917 S918 (⟨r919, hv920, hS921, h922⟩)
              subst hv920
              have h922_ : (f 4).toInt < (f 0).toInt ∨ r919.toInt = (-1 : Int) := h922
              show am_E _ _ _ _ [some (.ref 39), some (.int on)] [.int r919] _ _
              refine am_e0 hi_220_4 ?_
              by_cases c924 : r919.toInt = (69 : Int)
              · refine am_e13t hi_220_6 (am_cT (m := r919.toInt) (n := (69 : Int)) rfl (by decide) c924) ?_
                refine am_e2 (v := 39) hi_220_18 rfl ?_
                refine am_e7 hi_220_19 ?_
                refine mm_20 (v := .int (f 4)) hS921 hi_220_20 rfl ?_
                refine am_e0 hi_220_23 ?_
                refine am_e10 (z := z709) hi_220_24 hz709 ?_
                refine mm_21 (v := z709) hS921 hi_220_25 rfl (Nat.le_of_ble_eq_true rfl) ms_4 ?_
                intro S925 hS926
                replace hS926 : MS S0 S925 (upd (upd (upd (upd (upd f 4 z709) 15 z807) 62 o890) 68 z908) 75 m892) g'910 := hS926
                have hR927 : RJ (upd (upd (upd (upd (upd f 4 z709) 15 z807) 62 o890) 68 z908) 75 m892) g'910 gs bc [] 0 (s891.toNatClampNeg :: []) := RJ.at hR916_ (by show (f 4).toInt ≤ z709.toInt; omega)
                refine am_e2 (v := 39) hi_220_28 rfl ?_
                refine am_e0 hi_220_29 ?_
                refine am_e1 (v := on) hi_220_31 rfl ?_
                refine am_e0 hi_220_32 ?_
                refine am_e0 hi_220_33 ?_
                refine am_e32n (as := [.ref 39, .int 35, .int on, .int 0, .int 0]) (la := [some (.ref 39), some (.int 35), some (.int on), some (.int 0), some (.int 0)]) (rest := []) hi_220_34 (am_hd0 (M := 220) (by decide) 34) (Nat.le_of_ble_eq_true rfl) (Nat.le_of_ble_eq_true rfl) (show 5 ≤ am_P0.2.2.1 179 from by decide +kernel) rfl (am_recv_ok hS926.fs) rfl rfl (ct_pile (d := (d + 4)) hS926 hR927 (mj_e_plain (by decide)) (by show (0 : Int) ≤ (f 10).toInt; omega) (by show (f 10).toInt ≤ (65535 : Int); omega)) ?_
                rintro v928 S929 (⟨z930, g'931, hv932, hS933, hR936, h934, h935⟩)
                subst hv932
                have h934_ : z930.toInt = (f 10).toInt + 1 := h934
                have h935_ : ∀ j, j ∉ [11, 12, 13, 14] → g'931 j = g'910 j := h935
                replace hS933 : MS S0 S929 (upd (upd (upd (upd (upd (upd f 4 z709) 10 z930) 15 z807) 62 o890) 68 z908) 75 m892) g'931 := hS933
                have hR936_ : RJ (upd (upd (upd (upd (upd (upd f 4 z709) 10 z930) 15 z807) 62 o890) 68 z908) 75 m892) g'931 (((35 : Int), on.toInt, (0 : Int), (0 : Int), []) :: gs) bc [] 0 (s891.toNatClampNeg :: []) := hR936
                show am_E _ _ _ _ [some (.ref 39), some (.int on)] [] _ _
                refine am_e18 hi_220_37 ?_
                refine am_e35 hi_220_47 ?_
                show am_E _ _ _ _ [some (.ref 39), some (.int on), some (.int tw), some (.int 1)] [] _ _
                refine am_e35 hi_221_95 ?_
                show am_E _ _ _ _ [some (.ref 39), some (.int 39), some (.int on), some (.int tw)] [] _ _
                refine am_e18 hi_181_366 ?_
                refine am_e35 hi_181_397 ?_
                show am_E _ _ _ _ [some (.ref 39), some (.int 39), some (.int on), some (.int tw), some (.int th)] [] _ _
                refine am_e35 hi_180_13 ?_
                have q1 : mg_p1 (((35 : Int), on.toInt, (0 : Int), (0 : Int), []) :: gs) = 0 + (mg_p1 gs) := rfl
                have q2 : mg_p2 (((35 : Int), on.toInt, (0 : Int), (0 : Int), []) :: gs) = 0 + (mg_p2 gs) := rfl
                have q3 : mg_p3 (((35 : Int), on.toInt, (0 : Int), (0 : Int), []) :: gs) = 3 + (mg_p3 gs) := rfl
                have q4 : mg_p4 (((35 : Int), on.toInt, (0 : Int), (0 : Int), []) :: gs) = 0 + (mg_p4 gs) := rfl
                refine ⟨_, _, _, bc, rfl, hS933, Or.inl ⟨⟨(RJ.fewer (pj' := []) hR936_ (fun _ h => nomatch h)), ?_, ?_⟩, rfl, ?_⟩⟩
                · exact (⟨⟨(show mg_k 35 from by decide), (show (0 : Int) ≤ z807.toInt from by omega), (show 0 ≤ (f 20).toInt from by omega), (show 1 ≤ (f 37).toInt from by omega), (show 0 ≤ (f 32).toInt from by omega), (show (f 32).toInt ≤ (f 5).toInt from by omega), (show (f 5).toInt ≤ 48 from by omega), (show (f 37).toInt ≤ 2 * ((f 5).toInt) + 2 from by omega), trivial⟩, mg_cast (mg_good_ext _ _ _ _ _ _ (fun i _ => by show g'931 34 i = g 34 i; rw [show g'931 34 = g'910 34 from h935_ 34 (by decide), show g'910 34 = g'893 34 from h915_ 34 (by decide), show g'893 34 = g 34 from h901_ 34 (by decide)]) (fun i _ => by show g'931 38 i = g 38 i; rw [show g'931 38 = g'910 38 from h935_ 38 (by decide), show g'910 38 = g'893 38 from h915_ 38 (by decide), show g'893 38 = g 38 from h901_ 38 (by decide)]) (fun i _ => by show g'931 23 i = g 23 i; rw [show g'931 23 = g'910 23 from h935_ 23 (by decide), show g'910 23 = g'893 23 from h915_ 23 (by decide), show g'893 23 = g 23 from h901_ 23 (by decide)]) hrest) (by show (f 15).toInt + -1 = z807.toInt + 0; omega) (by show (f 20).toInt = (f 20).toInt; omega) (by show (f 37).toInt + 0 = (f 37).toInt + 0; omega) (by show (f 32).toInt + 0 = (f 32).toInt + 0; omega) (by show (f 5).toInt + -1 = (f 5).toInt + -1; omega)⟩ : mg_good (g'931 34) (g'931 38) (g'931 23) (((35 : Int), on.toInt, (0 : Int), (0 : Int), []) :: gs) (z807.toInt) ((f 20).toInt) ((f 37).toInt) ((f 32).toInt) ((f 5).toInt))
                · exact ⟨(by show 0 ≤ z709.toInt; omega), (by show z709.toInt ≤ (f 0).toInt; omega), (by show (f 0).toInt ≤ 512; omega), (by show 0 ≤ (f 24).toInt; omega), (by show (f 24).toInt + (f 20).toInt + mg_p1 (((35 : Int), on.toInt, (0 : Int), (0 : Int), []) :: gs) ≤ 4 * z709.toInt; omega), (by show (f 20).toInt ≤ z709.toInt; omega), (by show z807.toInt + mg_p2 (((35 : Int), on.toInt, (0 : Int), (0 : Int), []) :: gs) ≤ z709.toInt; omega), (by show mg_p3 (((35 : Int), on.toInt, (0 : Int), (0 : Int), []) :: gs) ≤ 20 * z709.toInt + 20; omega), (by show 0 ≤ z908.toInt; omega), (by show z908.toInt + 3 * (f 20).toInt + mg_p4 (((35 : Int), on.toInt, (0 : Int), (0 : Int), []) :: gs) ≤ 60 * z709.toInt + 60; omega), (by show 0 ≤ o890.toInt; omega), (by show o890.toInt + 64 * mj_n (g'931 16) z807.toNatClampNeg 3 ≤ 64 * z709.toInt; rw [show g'931 16 = g'910 16 from h935_ 16 (by decide), show g'910 16 = g'893 16 from h915_ 16 (by decide)]; omega), (by show 0 ≤ (f 44).toInt; omega), (by show (f 44).toInt ≤ z709.toInt; omega), (by show 0 ≤ (f 48).toInt; omega), (by show (f 48).toInt ≤ z709.toInt; omega), (by show 1 ≤ (f 53).toInt; omega), (by show (f 53).toInt ≤ z709.toInt + 1; omega), (by show 0 ≤ (f 19).toInt; omega), (by show (f 19).toInt ≤ 600; omega), (by show 0 ≤ (f 6).toInt; omega), (by show 0 ≤ (f 8).toInt; omega)⟩
                · show 100 * ((f 0).toInt - z709.toInt) + mg_p3 (((35 : Int), on.toInt, (0 : Int), (0 : Int), []) :: gs) < 100 * ((f 0).toInt - (f 4).toInt) + (1 + mg_p3 gs); omega
              · refine am_e13f hi_220_6 (am_cF (m := r919.toInt) (n := (69 : Int)) rfl (by decide) c924) ?_
                refine am_e2 (v := 39) hi_220_9 rfl ?_
                refine am_e32n (as := [.ref 39]) (la := [some (.ref 39)]) (rest := []) hi_220_10 (am_hd0 (M := 220) (by decide) 10) (Nat.le_of_ble_eq_true rfl) (Nat.le_of_ble_eq_true rfl) (show 1 ≤ am_P0.2.2.1 183 from by decide +kernel) rfl (am_recv_ok hS921.fs) rfl rfl (ct_next (d := (d + 3)) hS921   (by show (0 : Int) ≤ (f 4).toInt; omega) (by show (f 0).toInt ≤ (16384 : Int); omega)) ?_
                rintro v937 S938 (⟨r939, hv940, hS941, h942⟩)
                subst hv940
                have h942_ : (f 4).toInt < (f 0).toInt ∨ r939.toInt = (-1 : Int) := h942
                show am_E _ _ _ _ [some (.ref 39), some (.int on)] [.int r939] _ _
                refine am_e0 hi_220_13 ?_
                by_cases c944 : ¬ r939.toInt = (67 : Int)
                · refine am_e13t hi_220_15 (am_cT (m := r939.toInt) (n := (67 : Int)) rfl (by decide) c944) ?_
                  refine am_e2 (v := 39) hi_220_40 rfl ?_
                  refine am_e0 hi_220_41 ?_
                  refine am_e32n (as := [.ref 39, .int 63]) (la := [some (.ref 39), some (.int 63)]) (rest := []) hi_220_43 (am_hd0 (M := 220) (by decide) 43) (Nat.le_of_ble_eq_true rfl) (Nat.le_of_ble_eq_true rfl) (show 2 ≤ am_P0.2.2.1 199 from by decide +kernel) rfl (am_recv_ok hS941.fs) rfl rfl (ct_leave (d := (d + 1)) hS941   (by show (0 : Int) ≤ (f 4).toInt; omega) (by show (f 0).toInt ≤ (16384 : Int); omega) (by show (0 : Int) ≤ (63 : Int); omega) (by show (0 : Int) ≤ (f 5).toInt; omega) (by show (f 5).toInt ≤ (48 : Int); omega) (by show (0 : Int) ≤ (f 6).toInt; omega)) ?_
                  rintro v945 S946 (⟨z947, y948, hv949, hS950, h951, h952, h953⟩ | ⟨a955, b956, hv957, hS958, h959⟩)
                  · subst hv949
                    have h951_ : z947.toInt = (f 4).toInt + 1 := h951
                    have h952_ : (f 4).toInt < (f 0).toInt := h952
                    have h953_ : y948.toInt = (f 5).toInt - 1 := h953
                    replace hS950 : MS S0 S946 (upd (upd (upd (upd (upd (upd f 4 z947) 5 y948) 15 z807) 62 o890) 68 z908) 75 m892) g'910 := hS950
                    have hR961 : RJ (upd (upd (upd (upd (upd (upd f 4 z947) 5 y948) 15 z807) 62 o890) 68 z908) 75 m892) g'910 gs bc [] 0 (s891.toNatClampNeg :: []) := RJ.at hR916_ (by show (f 4).toInt ≤ z947.toInt; omega)
                    show am_E _ _ _ _ [some (.ref 39), some (.int on)] [.int 1] _ _
                    refine am_e6i hi_220_46 ?_
                    refine am_e35 hi_220_47 ?_
                    show am_E _ _ _ _ [some (.ref 39), some (.int on), some (.int tw), some (.int 1)] [] _ _
                    refine am_e35 hi_221_95 ?_
                    show am_E _ _ _ _ [some (.ref 39), some (.int 39), some (.int on), some (.int tw)] [] _ _
                    refine am_e18 hi_181_366 ?_
                    refine am_e35 hi_181_397 ?_
                    show am_E _ _ _ _ [some (.ref 39), some (.int 39), some (.int on), some (.int tw), some (.int th)] [] _ _
                    refine am_e35 hi_180_13 ?_
                    have q1 : mg_p1 gs = mg_p1 gs := rfl
                    have q2 : mg_p2 gs = mg_p2 gs := rfl
                    have q3 : mg_p3 gs = mg_p3 gs := rfl
                    have q4 : mg_p4 gs = mg_p4 gs := rfl
                    refine ⟨_, _, _, bc, rfl, hS950, Or.inl ⟨⟨(RJ.fewer (pj' := []) hR961 (fun _ h => nomatch h)), ?_, ?_⟩, rfl, ?_⟩⟩
                    · exact (mg_cast (mg_good_ext _ _ _ _ _ _ (fun i _ => by show g'910 34 i = g 34 i; rw [show g'910 34 = g'893 34 from h915_ 34 (by decide), show g'893 34 = g 34 from h901_ 34 (by decide)]) (fun i _ => by show g'910 38 i = g 38 i; rw [show g'910 38 = g'893 38 from h915_ 38 (by decide), show g'893 38 = g 38 from h901_ 38 (by decide)]) (fun i _ => by show g'910 23 i = g 23 i; rw [show g'910 23 = g'893 23 from h915_ 23 (by decide), show g'893 23 = g 23 from h901_ 23 (by decide)]) hrest) (by show (f 15).toInt + -1 = z807.toInt; omega) (by show (f 20).toInt = (f 20).toInt; omega) (by show (f 37).toInt + 0 = (f 37).toInt; omega) (by show (f 32).toInt + 0 = (f 32).toInt; omega) (by show (f 5).toInt + -1 = y948.toInt; omega) : mg_good (g'910 34) (g'910 38) (g'910 23) gs (z807.toInt) ((f 20).toInt) ((f 37).toInt) ((f 32).toInt) (y948.toInt))
                    · exact ⟨(by show 0 ≤ z947.toInt; omega), (by show z947.toInt ≤ (f 0).toInt; omega), (by show (f 0).toInt ≤ 512; omega), (by show 0 ≤ (f 24).toInt; omega), (by show (f 24).toInt + (f 20).toInt + mg_p1 gs ≤ 4 * z947.toInt; omega), (by show (f 20).toInt ≤ z947.toInt; omega), (by show z807.toInt + mg_p2 gs ≤ z947.toInt; omega), (by show mg_p3 gs ≤ 20 * z947.toInt + 20; omega), (by show 0 ≤ z908.toInt; omega), (by show z908.toInt + 3 * (f 20).toInt + mg_p4 gs ≤ 60 * z947.toInt + 60; omega), (by show 0 ≤ o890.toInt; omega), (by show o890.toInt + 64 * mj_n (g'910 16) z807.toNatClampNeg 3 ≤ 64 * z947.toInt; rw [show g'910 16 = g'893 16 from h915_ 16 (by decide)]; omega), (by show 0 ≤ (f 44).toInt; omega), (by show (f 44).toInt ≤ z947.toInt; omega), (by show 0 ≤ (f 48).toInt; omega), (by show (f 48).toInt ≤ z947.toInt; omega), (by show 1 ≤ (f 53).toInt; omega), (by show (f 53).toInt ≤ z947.toInt + 1; omega), (by show 0 ≤ (f 19).toInt; omega), (by show (f 19).toInt ≤ 600; omega), (by show 0 ≤ (f 6).toInt; omega), (by show 0 ≤ (f 8).toInt; omega)⟩
                    · show 100 * ((f 0).toInt - z947.toInt) + mg_p3 gs < 100 * ((f 0).toInt - (f 4).toInt) + (1 + mg_p3 gs); omega
                  · subst hv957
                    have h959_ : (0 : Int) ≤ a955.toInt := h959
                    replace hS958 : MS S0 S946 (upd (upd (upd (upd (upd (upd (upd f 6 a955) 7 b956) 10 0) 15 z807) 62 o890) 68 z908) 75 m892) g'910 := hS958
                    have hR962 := rj_clear0 hR916_
                    have hR963 : RJ (upd (upd (upd (upd (upd (upd (upd f 6 a955) 7 b956) 10 0) 15 z807) 62 o890) 68 z908) 75 m892) g'910 [] bc [] 0 [] := hR962
                    show am_E _ _ _ _ [some (.ref 39), some (.int on)] [.int 0] _ _
                    refine am_e6i hi_220_46 ?_
                    refine am_e35 hi_220_47 ?_
                    show am_E _ _ _ _ [some (.ref 39), some (.int on), some (.int tw), some (.int 1)] [] _ _
                    refine am_e35 hi_221_95 ?_
                    show am_E _ _ _ _ [some (.ref 39), some (.int 39), some (.int on), some (.int tw)] [] _ _
                    refine am_e18 hi_181_366 ?_
                    refine am_e35 hi_181_397 ?_
                    show am_E _ _ _ _ [some (.ref 39), some (.int 39), some (.int on), some (.int tw), some (.int th)] [] _ _
                    refine am_e35 hi_180_13 ?_
                    have hRc := rj_clear0 hR963
                    refine ⟨_, _, [], _, rfl, hS958, Or.inr ⟨hRc, rfl, (by show 0 ≤ (f 4).toInt; omega), (by show (f 4).toInt ≤ (f 0).toInt; omega), (by show 0 ≤ (f 32).toInt; omega), (by show (f 32).toInt ≤ 63; omega), (by show 1 ≤ (f 53).toInt; omega), (by show (f 53).toInt ≤ 600; omega), (by show 0 ≤ z908.toInt; omega), (by show z908.toInt ≤ 60000; omega), (by show 0 ≤ (f 48).toInt; omega), (by show (f 48).toInt ≤ 8000; omega), (by show 0 ≤ (f 37).toInt; omega), (by show (f 37).toInt ≤ 128; omega), (by show 0 ≤ o890.toInt; omega), (by show o890.toInt ≤ 65000; omega), (by show 0 ≤ (f 19).toInt; omega), (by show (f 19).toInt ≤ 600; omega), (by show 0 ≤ a955.toInt; omega), (by show 0 ≤ (f 8).toInt; omega)⟩⟩
                · refine am_e13f hi_220_15 (am_cF (m := r939.toInt) (n := (67 : Int)) rfl (by decide) c944) ?_
                  refine am_e2 (v := 39) hi_220_18 rfl ?_
                  refine am_e7 hi_220_19 ?_
                  refine mm_20 (v := .int (f 4)) hS941 hi_220_20 rfl ?_
                  refine am_e0 hi_220_23 ?_
                  refine am_e10 (z := z709) hi_220_24 hz709 ?_
                  refine mm_21 (v := z709) hS941 hi_220_25 rfl (Nat.le_of_ble_eq_true rfl) ms_4 ?_
                  intro S964 hS965
                  replace hS965 : MS S0 S964 (upd (upd (upd (upd (upd f 4 z709) 15 z807) 62 o890) 68 z908) 75 m892) g'910 := hS965
                  have hR966 : RJ (upd (upd (upd (upd (upd f 4 z709) 15 z807) 62 o890) 68 z908) 75 m892) g'910 gs bc [] 0 (s891.toNatClampNeg :: []) := RJ.at hR916_ (by show (f 4).toInt ≤ z709.toInt; omega)
                  refine am_e2 (v := 39) hi_220_28 rfl ?_
                  refine am_e0 hi_220_29 ?_
                  refine am_e1 (v := on) hi_220_31 rfl ?_
                  refine am_e0 hi_220_32 ?_
                  refine am_e0 hi_220_33 ?_
                  refine am_e32n (as := [.ref 39, .int 35, .int on, .int 0, .int 0]) (la := [some (.ref 39), some (.int 35), some (.int on), some (.int 0), some (.int 0)]) (rest := []) hi_220_34 (am_hd0 (M := 220) (by decide) 34) (Nat.le_of_ble_eq_true rfl) (Nat.le_of_ble_eq_true rfl) (show 5 ≤ am_P0.2.2.1 179 from by decide +kernel) rfl (am_recv_ok hS965.fs) rfl rfl (ct_pile (d := (d + 4)) hS965 hR966 (mj_e_plain (by decide)) (by show (0 : Int) ≤ (f 10).toInt; omega) (by show (f 10).toInt ≤ (65535 : Int); omega)) ?_
                  rintro v967 S968 (⟨z969, g'970, hv971, hS972, hR975, h973, h974⟩)
                  subst hv971
                  have h973_ : z969.toInt = (f 10).toInt + 1 := h973
                  have h974_ : ∀ j, j ∉ [11, 12, 13, 14] → g'970 j = g'910 j := h974
                  replace hS972 : MS S0 S968 (upd (upd (upd (upd (upd (upd f 4 z709) 10 z969) 15 z807) 62 o890) 68 z908) 75 m892) g'970 := hS972
                  have hR975_ : RJ (upd (upd (upd (upd (upd (upd f 4 z709) 10 z969) 15 z807) 62 o890) 68 z908) 75 m892) g'970 (((35 : Int), on.toInt, (0 : Int), (0 : Int), []) :: gs) bc [] 0 (s891.toNatClampNeg :: []) := hR975
                  show am_E _ _ _ _ [some (.ref 39), some (.int on)] [] _ _
                  refine am_e18 hi_220_37 ?_
                  refine am_e35 hi_220_47 ?_
                  show am_E _ _ _ _ [some (.ref 39), some (.int on), some (.int tw), some (.int 1)] [] _ _
                  refine am_e35 hi_221_95 ?_
                  show am_E _ _ _ _ [some (.ref 39), some (.int 39), some (.int on), some (.int tw)] [] _ _
                  refine am_e18 hi_181_366 ?_
                  refine am_e35 hi_181_397 ?_
                  show am_E _ _ _ _ [some (.ref 39), some (.int 39), some (.int on), some (.int tw), some (.int th)] [] _ _
                  refine am_e35 hi_180_13 ?_
                  have q1 : mg_p1 (((35 : Int), on.toInt, (0 : Int), (0 : Int), []) :: gs) = 0 + (mg_p1 gs) := rfl
                  have q2 : mg_p2 (((35 : Int), on.toInt, (0 : Int), (0 : Int), []) :: gs) = 0 + (mg_p2 gs) := rfl
                  have q3 : mg_p3 (((35 : Int), on.toInt, (0 : Int), (0 : Int), []) :: gs) = 3 + (mg_p3 gs) := rfl
                  have q4 : mg_p4 (((35 : Int), on.toInt, (0 : Int), (0 : Int), []) :: gs) = 0 + (mg_p4 gs) := rfl
                  refine ⟨_, _, _, bc, rfl, hS972, Or.inl ⟨⟨(RJ.fewer (pj' := []) hR975_ (fun _ h => nomatch h)), ?_, ?_⟩, rfl, ?_⟩⟩
                  · exact (⟨⟨(show mg_k 35 from by decide), (show (0 : Int) ≤ z807.toInt from by omega), (show 0 ≤ (f 20).toInt from by omega), (show 1 ≤ (f 37).toInt from by omega), (show 0 ≤ (f 32).toInt from by omega), (show (f 32).toInt ≤ (f 5).toInt from by omega), (show (f 5).toInt ≤ 48 from by omega), (show (f 37).toInt ≤ 2 * ((f 5).toInt) + 2 from by omega), trivial⟩, mg_cast (mg_good_ext _ _ _ _ _ _ (fun i _ => by show g'970 34 i = g 34 i; rw [show g'970 34 = g'910 34 from h974_ 34 (by decide), show g'910 34 = g'893 34 from h915_ 34 (by decide), show g'893 34 = g 34 from h901_ 34 (by decide)]) (fun i _ => by show g'970 38 i = g 38 i; rw [show g'970 38 = g'910 38 from h974_ 38 (by decide), show g'910 38 = g'893 38 from h915_ 38 (by decide), show g'893 38 = g 38 from h901_ 38 (by decide)]) (fun i _ => by show g'970 23 i = g 23 i; rw [show g'970 23 = g'910 23 from h974_ 23 (by decide), show g'910 23 = g'893 23 from h915_ 23 (by decide), show g'893 23 = g 23 from h901_ 23 (by decide)]) hrest) (by show (f 15).toInt + -1 = z807.toInt + 0; omega) (by show (f 20).toInt = (f 20).toInt; omega) (by show (f 37).toInt + 0 = (f 37).toInt + 0; omega) (by show (f 32).toInt + 0 = (f 32).toInt + 0; omega) (by show (f 5).toInt + -1 = (f 5).toInt + -1; omega)⟩ : mg_good (g'970 34) (g'970 38) (g'970 23) (((35 : Int), on.toInt, (0 : Int), (0 : Int), []) :: gs) (z807.toInt) ((f 20).toInt) ((f 37).toInt) ((f 32).toInt) ((f 5).toInt))
                  · exact ⟨(by show 0 ≤ z709.toInt; omega), (by show z709.toInt ≤ (f 0).toInt; omega), (by show (f 0).toInt ≤ 512; omega), (by show 0 ≤ (f 24).toInt; omega), (by show (f 24).toInt + (f 20).toInt + mg_p1 (((35 : Int), on.toInt, (0 : Int), (0 : Int), []) :: gs) ≤ 4 * z709.toInt; omega), (by show (f 20).toInt ≤ z709.toInt; omega), (by show z807.toInt + mg_p2 (((35 : Int), on.toInt, (0 : Int), (0 : Int), []) :: gs) ≤ z709.toInt; omega), (by show mg_p3 (((35 : Int), on.toInt, (0 : Int), (0 : Int), []) :: gs) ≤ 20 * z709.toInt + 20; omega), (by show 0 ≤ z908.toInt; omega), (by show z908.toInt + 3 * (f 20).toInt + mg_p4 (((35 : Int), on.toInt, (0 : Int), (0 : Int), []) :: gs) ≤ 60 * z709.toInt + 60; omega), (by show 0 ≤ o890.toInt; omega), (by show o890.toInt + 64 * mj_n (g'970 16) z807.toNatClampNeg 3 ≤ 64 * z709.toInt; rw [show g'970 16 = g'910 16 from h974_ 16 (by decide), show g'910 16 = g'893 16 from h915_ 16 (by decide)]; omega), (by show 0 ≤ (f 44).toInt; omega), (by show (f 44).toInt ≤ z709.toInt; omega), (by show 0 ≤ (f 48).toInt; omega), (by show (f 48).toInt ≤ z709.toInt; omega), (by show 1 ≤ (f 53).toInt; omega), (by show (f 53).toInt ≤ z709.toInt + 1; omega), (by show 0 ≤ (f 19).toInt; omega), (by show (f 19).toInt ≤ 600; omega), (by show 0 ≤ (f 6).toInt; omega), (by show 0 ≤ (f 8).toInt; omega)⟩
                  · show 100 * ((f 0).toInt - z709.toInt) + mg_p3 (((35 : Int), on.toInt, (0 : Int), (0 : Int), []) :: gs) < 100 * ((f 0).toInt - (f 4).toInt) + (1 + mg_p3 gs); omega
            · refine am_e13f hi_216_27 (am_cF (m := (g 16 z807.toNatClampNeg).toInt) (n := (2 : Int)) rfl (by decide) c887) ?_
              refine am_e0 hi_216_30 ?_
              refine am_e18 hi_216_31 ?_
              refine am_e36 hi_216_35 (by decide) ?_
              show am_E _ _ _ _ [some (.ref 39), some (.int on), some (.int tw), some (.int 1)] [.int 1] _ _
              refine am_e12f hi_221_56 (by decide) ?_
              refine am_e2 (v := 39) hi_221_59 rfl ?_
              refine am_e32w (as := [.ref 39]) (la := [some (.ref 39), none]) (rest := []) hi_221_60 (am_hd0 (M := 221) (by decide) 60) (Nat.le_of_ble_eq_true rfl) (Nat.le_of_ble_eq_true rfl) (show 1 ≤ am_P0.2.2.1 217 from by decide +kernel) rfl (am_recv_ok hS714.fs) rfl rfl ?_
              refine am_e2 (v := 39) hi_217_0 rfl ?_
              refine mm_20 (v := .ref 47) hS714 hi_217_1 rfl ?_
              refine am_e2 (v := 39) hi_217_4 rfl ?_
              refine mm_20 (v := .int (f 15)) hS714 hi_217_5 rfl ?_
              refine am_e0 hi_217_8 ?_
              refine am_e10 (z := z807) hi_217_9 hz807 ?_
              refine mm_25 hS714 ma_17 hi_217_10 (by decide) (by omega) (by omega) ?_
              show am_E _ _ _ _ [some (.ref 39), none] [.int (g 17 z807.toNatClampNeg)] _ _
              have r976 : (g 16 z807.toNatClampNeg).toInt = 1 ∨ (g 16 z807.toNatClampNeg).toInt = 2 → 0 ≤ (g 17 z807.toNatClampNeg).toInt ∧ (g 17 z807.toNatClampNeg).toInt < 65536 := RJ.vc hR z807.toNatClampNeg
              refine am_e3 (ls' := [some (.ref 39), some (.int (g 17 z807.toNatClampNeg))]) hi_217_11 (Nat.le_of_ble_eq_true rfl) rfl ?_
              refine am_e2 (v := 39) hi_217_12 rfl ?_
              refine mm_20 (v := .ref 91) hS714 hi_217_13 rfl ?_
              refine am_e1 (v := g 17 z807.toNatClampNeg) hi_217_16 rfl ?_
              refine am_e2 (v := 39) hi_217_17 rfl ?_
              refine mm_20 (v := .ref 46) hS714 hi_217_18 rfl ?_
              refine am_e2 (v := 39) hi_217_21 rfl ?_
              refine mm_20 (v := .int (f 15)) hS714 hi_217_22 rfl ?_
              refine am_e0 hi_217_25 ?_
              refine am_e10 (z := z807) hi_217_26 hz807 ?_
              refine mm_25 hS714 ma_16 hi_217_27 (by decide) (by omega) (by omega) ?_
              show am_E _ _ _ _ [some (.ref 39), some (.int (g 17 z807.toNatClampNeg))] [.int (g 16 z807.toNatClampNeg), .int (g 17 z807.toNatClampNeg), .ref 91] _ _
              refine am_e0 hi_217_28 ?_
              refine am_e13t hi_217_29 (am_cT (m := (g 16 z807.toNatClampNeg).toInt) (n := (1 : Int)) rfl (by decide) (by simp only [am_cI]; omega)) ?_
              refine am_e0 hi_217_45 ?_
              refine mm_26 hS714 ma_72 hi_217_46 (by decide) (by omega) (by omega) (fun h => nomatch h) ?_
              intro S977 hS978
              refine am_e2 (v := 39) hi_217_47 rfl ?_
              refine am_e7 hi_217_48 ?_
              refine mm_20 (v := .int (f 15)) hS978 hi_217_49 rfl ?_
              refine am_e0 hi_217_52 ?_
              refine am_e10 (z := z807) hi_217_53 hz807 ?_
              refine mm_21 (v := z807) hS978 hi_217_54 rfl (Nat.le_of_ble_eq_true rfl) ms_15 ?_
              intro S979 hS980
              have hp981 : mj_n (g 16) (f 15).toNatClampNeg 3 = mj_n (g 16) z807.toNatClampNeg 3 + if (g 16 z807.toNatClampNeg).toInt = 3 then 1 else 0 := mj_pop (by rw [cl_toNat, cl_toNat]; omega)
              have hp9811 : mj_n (g 16) z807.toNatClampNeg 3 ≤ mj_n (g 16) (f 15).toNatClampNeg 3 := by rw [hp981]; split <;> omega
              have hp9812 : (g 16 z807.toNatClampNeg).toInt = 3 → mj_n (g 16) z807.toNatClampNeg 3 + 1 ≤ mj_n (g 16) (f 15).toNatClampNeg 3 := fun q => by rw [hp981, if_pos q]; exact Int.le_refl _
              refine am_e35 hi_217_57 ?_
              show am_E _ _ _ _ [some (.ref 39), some (.int on), some (.int tw), some (.int 1)] [] _ _
              refine am_e2 (v := 39) hi_221_63 rfl ?_
              refine am_e0 hi_221_64 ?_
              refine am_e1 (v := on) hi_221_66 rfl ?_
              refine am_e0 hi_221_67 ?_
              refine am_e1 (v := tw) hi_221_68 rfl ?_
              refine am_e32n (as := [.ref 39, .int 24, .int on, .int 0, .int tw]) (la := [some (.ref 39), some (.int 24), some (.int on), some (.int 0), some (.int tw)]) (rest := []) hi_221_69 (am_hd0 (M := 221) (by decide) 69) (Nat.le_of_ble_eq_true rfl) (Nat.le_of_ble_eq_true rfl) (show 5 ≤ am_P0.2.2.1 189 from by decide +kernel) rfl (am_recv_ok hS980.fs) rfl rfl (ct_put (d := (d + 5)) hS980 hR  (by show (0 : Int) ≤ (f 32).toInt; omega) (by show (f 32).toInt ≤ (63 : Int); omega) (by show (f 53).toInt ≤ (4096 : Int); omega) (by show (0 : Int) ≤ (f 68).toInt; omega) (by show (f 68).toInt ≤ (65534 : Int); omega)) ?_
              rintro v982 S983 (⟨z984, r985, g'986, hv987, hS988, hR992, h989, h990, h991⟩)
              subst hv987
              have h989_ : z984.toInt = (f 68).toInt + 1 := h989
              have h990_ : r985.toInt = (f 68).toInt := h990
              have h991_ : ∀ j, j ∉ [60, 69, 70, 71, 72, 73] → g'986 j = (upg g 72 (g 17 z807.toNatClampNeg).toNatClampNeg 0) j := h991
              have hR992_ : RJ (upd (upd f 15 z807) 68 z984) g'986 gs bc [] 0 ((f 68).toNatClampNeg :: []) := hR992
              show am_E _ _ _ _ [some (.ref 39), some (.int on), some (.int tw), some (.int 1)] [.int r985] _ _
              refine am_e6i hi_221_72 ?_
              refine am_e18 hi_221_73 ?_
              refine am_e2 (v := 39) hi_221_90 rfl ?_
              refine am_e1 (v := on) hi_221_91 rfl ?_
              refine am_e32w (as := [.ref 39, .int on]) (la := [some (.ref 39), some (.int on)]) (rest := []) hi_221_92 (am_hd0 (M := 221) (by decide) 92) (Nat.le_of_ble_eq_true rfl) (Nat.le_of_ble_eq_true rfl) (show 2 ≤ am_P0.2.2.1 220 from by decide +kernel) rfl (am_recv_ok hS988.fs) rfl rfl ?_
              refine am_e2 (v := 39) hi_220_0 rfl ?_
              refine am_e32n (as := [.ref 39]) (la := [some (.ref 39)]) (rest := []) hi_220_1 (am_hd0 (M := 220) (by decide) 1) (Nat.le_of_ble_eq_true rfl) (Nat.le_of_ble_eq_true rfl) (show 1 ≤ am_P0.2.2.1 183 from by decide +kernel) rfl (am_recv_ok hS988.fs) rfl rfl (ct_next (d := (d + 3)) hS988   (by show (0 : Int) ≤ (f 4).toInt; omega) (by show (f 0).toInt ≤ (16384 : Int); omega)) ?_
              rintro v993 S994 (⟨r995, hv996, hS997, h998⟩)
              subst hv996
              have h998_ : (f 4).toInt < (f 0).toInt ∨ r995.toInt = (-1 : Int) := h998
              show am_E _ _ _ _ [some (.ref 39), some (.int on)] [.int r995] _ _
              refine am_e0 hi_220_4 ?_
              by_cases c1000 : r995.toInt = (69 : Int)
              · refine am_e13t hi_220_6 (am_cT (m := r995.toInt) (n := (69 : Int)) rfl (by decide) c1000) ?_
                refine am_e2 (v := 39) hi_220_18 rfl ?_
                refine am_e7 hi_220_19 ?_
                refine mm_20 (v := .int (f 4)) hS997 hi_220_20 rfl ?_
                refine am_e0 hi_220_23 ?_
                refine am_e10 (z := z709) hi_220_24 hz709 ?_
                refine mm_21 (v := z709) hS997 hi_220_25 rfl (Nat.le_of_ble_eq_true rfl) ms_4 ?_
                intro S1001 hS1002
                replace hS1002 : MS S0 S1001 (upd (upd (upd f 4 z709) 15 z807) 68 z984) g'986 := hS1002
                have hR1003 : RJ (upd (upd (upd f 4 z709) 15 z807) 68 z984) g'986 gs bc [] 0 ((f 68).toNatClampNeg :: []) := RJ.at hR992_ (by show (f 4).toInt ≤ z709.toInt; omega)
                refine am_e2 (v := 39) hi_220_28 rfl ?_
                refine am_e0 hi_220_29 ?_
                refine am_e1 (v := on) hi_220_31 rfl ?_
                refine am_e0 hi_220_32 ?_
                refine am_e0 hi_220_33 ?_
                refine am_e32n (as := [.ref 39, .int 35, .int on, .int 0, .int 0]) (la := [some (.ref 39), some (.int 35), some (.int on), some (.int 0), some (.int 0)]) (rest := []) hi_220_34 (am_hd0 (M := 220) (by decide) 34) (Nat.le_of_ble_eq_true rfl) (Nat.le_of_ble_eq_true rfl) (show 5 ≤ am_P0.2.2.1 179 from by decide +kernel) rfl (am_recv_ok hS1002.fs) rfl rfl (ct_pile (d := (d + 4)) hS1002 hR1003 (mj_e_plain (by decide)) (by show (0 : Int) ≤ (f 10).toInt; omega) (by show (f 10).toInt ≤ (65535 : Int); omega)) ?_
                rintro v1004 S1005 (⟨z1006, g'1007, hv1008, hS1009, hR1012, h1010, h1011⟩)
                subst hv1008
                have h1010_ : z1006.toInt = (f 10).toInt + 1 := h1010
                have h1011_ : ∀ j, j ∉ [11, 12, 13, 14] → g'1007 j = g'986 j := h1011
                replace hS1009 : MS S0 S1005 (upd (upd (upd (upd f 4 z709) 10 z1006) 15 z807) 68 z984) g'1007 := hS1009
                have hR1012_ : RJ (upd (upd (upd (upd f 4 z709) 10 z1006) 15 z807) 68 z984) g'1007 (((35 : Int), on.toInt, (0 : Int), (0 : Int), []) :: gs) bc [] 0 ((f 68).toNatClampNeg :: []) := hR1012
                show am_E _ _ _ _ [some (.ref 39), some (.int on)] [] _ _
                refine am_e18 hi_220_37 ?_
                refine am_e35 hi_220_47 ?_
                show am_E _ _ _ _ [some (.ref 39), some (.int on), some (.int tw), some (.int 1)] [] _ _
                refine am_e35 hi_221_95 ?_
                show am_E _ _ _ _ [some (.ref 39), some (.int 39), some (.int on), some (.int tw)] [] _ _
                refine am_e18 hi_181_366 ?_
                refine am_e35 hi_181_397 ?_
                show am_E _ _ _ _ [some (.ref 39), some (.int 39), some (.int on), some (.int tw), some (.int th)] [] _ _
                refine am_e35 hi_180_13 ?_
                have q1 : mg_p1 (((35 : Int), on.toInt, (0 : Int), (0 : Int), []) :: gs) = 0 + (mg_p1 gs) := rfl
                have q2 : mg_p2 (((35 : Int), on.toInt, (0 : Int), (0 : Int), []) :: gs) = 0 + (mg_p2 gs) := rfl
                have q3 : mg_p3 (((35 : Int), on.toInt, (0 : Int), (0 : Int), []) :: gs) = 3 + (mg_p3 gs) := rfl
                have q4 : mg_p4 (((35 : Int), on.toInt, (0 : Int), (0 : Int), []) :: gs) = 0 + (mg_p4 gs) := rfl
                refine ⟨_, _, _, bc, rfl, hS1009, Or.inl ⟨⟨(RJ.fewer (pj' := []) hR1012_ (fun _ h => nomatch h)), ?_, ?_⟩, rfl, ?_⟩⟩
                · exact (⟨⟨(show mg_k 35 from by decide), (show (0 : Int) ≤ z807.toInt from by omega), (show 0 ≤ (f 20).toInt from by omega), (show 1 ≤ (f 37).toInt from by omega), (show 0 ≤ (f 32).toInt from by omega), (show (f 32).toInt ≤ (f 5).toInt from by omega), (show (f 5).toInt ≤ 48 from by omega), (show (f 37).toInt ≤ 2 * ((f 5).toInt) + 2 from by omega), trivial⟩, mg_cast (mg_good_ext _ _ _ _ _ _ (fun i _ => by show g'1007 34 i = g 34 i; rw [show g'1007 34 = g'986 34 from h1011_ 34 (by decide), show g'986 34 = g 34 from h991_ 34 (by decide)]) (fun i _ => by show g'1007 38 i = g 38 i; rw [show g'1007 38 = g'986 38 from h1011_ 38 (by decide), show g'986 38 = g 38 from h991_ 38 (by decide)]) (fun i _ => by show g'1007 23 i = g 23 i; rw [show g'1007 23 = g'986 23 from h1011_ 23 (by decide), show g'986 23 = g 23 from h991_ 23 (by decide)]) hrest) (by show (f 15).toInt + -1 = z807.toInt + 0; omega) (by show (f 20).toInt = (f 20).toInt; omega) (by show (f 37).toInt + 0 = (f 37).toInt + 0; omega) (by show (f 32).toInt + 0 = (f 32).toInt + 0; omega) (by show (f 5).toInt + -1 = (f 5).toInt + -1; omega)⟩ : mg_good (g'1007 34) (g'1007 38) (g'1007 23) (((35 : Int), on.toInt, (0 : Int), (0 : Int), []) :: gs) (z807.toInt) ((f 20).toInt) ((f 37).toInt) ((f 32).toInt) ((f 5).toInt))
                · exact ⟨(by show 0 ≤ z709.toInt; omega), (by show z709.toInt ≤ (f 0).toInt; omega), (by show (f 0).toInt ≤ 512; omega), (by show 0 ≤ (f 24).toInt; omega), (by show (f 24).toInt + (f 20).toInt + mg_p1 (((35 : Int), on.toInt, (0 : Int), (0 : Int), []) :: gs) ≤ 4 * z709.toInt; omega), (by show (f 20).toInt ≤ z709.toInt; omega), (by show z807.toInt + mg_p2 (((35 : Int), on.toInt, (0 : Int), (0 : Int), []) :: gs) ≤ z709.toInt; omega), (by show mg_p3 (((35 : Int), on.toInt, (0 : Int), (0 : Int), []) :: gs) ≤ 20 * z709.toInt + 20; omega), (by show 0 ≤ z984.toInt; omega), (by show z984.toInt + 3 * (f 20).toInt + mg_p4 (((35 : Int), on.toInt, (0 : Int), (0 : Int), []) :: gs) ≤ 60 * z709.toInt + 60; omega), (by show 0 ≤ (f 62).toInt; omega), (by show (f 62).toInt + 64 * mj_n (g'1007 16) z807.toNatClampNeg 3 ≤ 64 * z709.toInt; rw [show g'1007 16 = g'986 16 from h1011_ 16 (by decide), show g'986 16 = g 16 from h991_ 16 (by decide)]; omega), (by show 0 ≤ (f 44).toInt; omega), (by show (f 44).toInt ≤ z709.toInt; omega), (by show 0 ≤ (f 48).toInt; omega), (by show (f 48).toInt ≤ z709.toInt; omega), (by show 1 ≤ (f 53).toInt; omega), (by show (f 53).toInt ≤ z709.toInt + 1; omega), (by show 0 ≤ (f 19).toInt; omega), (by show (f 19).toInt ≤ 600; omega), (by show 0 ≤ (f 6).toInt; omega), (by show 0 ≤ (f 8).toInt; omega)⟩
                · show 100 * ((f 0).toInt - z709.toInt) + mg_p3 (((35 : Int), on.toInt, (0 : Int), (0 : Int), []) :: gs) < 100 * ((f 0).toInt - (f 4).toInt) + (1 + mg_p3 gs); omega
              · refine am_e13f hi_220_6 (am_cF (m := r995.toInt) (n := (69 : Int)) rfl (by decide) c1000) ?_
                refine am_e2 (v := 39) hi_220_9 rfl ?_
                refine am_e32n (as := [.ref 39]) (la := [some (.ref 39)]) (rest := []) hi_220_10 (am_hd0 (M := 220) (by decide) 10) (Nat.le_of_ble_eq_true rfl) (Nat.le_of_ble_eq_true rfl) (show 1 ≤ am_P0.2.2.1 183 from by decide +kernel) rfl (am_recv_ok hS997.fs) rfl rfl (ct_next (d := (d + 3)) hS997   (by show (0 : Int) ≤ (f 4).toInt; omega) (by show (f 0).toInt ≤ (16384 : Int); omega)) ?_
                rintro v1013 S1014 (⟨r1015, hv1016, hS1017, h1018⟩)
                subst hv1016
                have h1018_ : (f 4).toInt < (f 0).toInt ∨ r1015.toInt = (-1 : Int) := h1018
                show am_E _ _ _ _ [some (.ref 39), some (.int on)] [.int r1015] _ _
                refine am_e0 hi_220_13 ?_
                by_cases c1020 : ¬ r1015.toInt = (67 : Int)
                · refine am_e13t hi_220_15 (am_cT (m := r1015.toInt) (n := (67 : Int)) rfl (by decide) c1020) ?_
                  refine am_e2 (v := 39) hi_220_40 rfl ?_
                  refine am_e0 hi_220_41 ?_
                  refine am_e32n (as := [.ref 39, .int 63]) (la := [some (.ref 39), some (.int 63)]) (rest := []) hi_220_43 (am_hd0 (M := 220) (by decide) 43) (Nat.le_of_ble_eq_true rfl) (Nat.le_of_ble_eq_true rfl) (show 2 ≤ am_P0.2.2.1 199 from by decide +kernel) rfl (am_recv_ok hS1017.fs) rfl rfl (ct_leave (d := (d + 1)) hS1017   (by show (0 : Int) ≤ (f 4).toInt; omega) (by show (f 0).toInt ≤ (16384 : Int); omega) (by show (0 : Int) ≤ (63 : Int); omega) (by show (0 : Int) ≤ (f 5).toInt; omega) (by show (f 5).toInt ≤ (48 : Int); omega) (by show (0 : Int) ≤ (f 6).toInt; omega)) ?_
                  rintro v1021 S1022 (⟨z1023, y1024, hv1025, hS1026, h1027, h1028, h1029⟩ | ⟨a1031, b1032, hv1033, hS1034, h1035⟩)
                  · subst hv1025
                    have h1027_ : z1023.toInt = (f 4).toInt + 1 := h1027
                    have h1028_ : (f 4).toInt < (f 0).toInt := h1028
                    have h1029_ : y1024.toInt = (f 5).toInt - 1 := h1029
                    replace hS1026 : MS S0 S1022 (upd (upd (upd (upd f 4 z1023) 5 y1024) 15 z807) 68 z984) g'986 := hS1026
                    have hR1037 : RJ (upd (upd (upd (upd f 4 z1023) 5 y1024) 15 z807) 68 z984) g'986 gs bc [] 0 ((f 68).toNatClampNeg :: []) := RJ.at hR992_ (by show (f 4).toInt ≤ z1023.toInt; omega)
                    show am_E _ _ _ _ [some (.ref 39), some (.int on)] [.int 1] _ _
                    refine am_e6i hi_220_46 ?_
                    refine am_e35 hi_220_47 ?_
                    show am_E _ _ _ _ [some (.ref 39), some (.int on), some (.int tw), some (.int 1)] [] _ _
                    refine am_e35 hi_221_95 ?_
                    show am_E _ _ _ _ [some (.ref 39), some (.int 39), some (.int on), some (.int tw)] [] _ _
                    refine am_e18 hi_181_366 ?_
                    refine am_e35 hi_181_397 ?_
                    show am_E _ _ _ _ [some (.ref 39), some (.int 39), some (.int on), some (.int tw), some (.int th)] [] _ _
                    refine am_e35 hi_180_13 ?_
                    have q1 : mg_p1 gs = mg_p1 gs := rfl
                    have q2 : mg_p2 gs = mg_p2 gs := rfl
                    have q3 : mg_p3 gs = mg_p3 gs := rfl
                    have q4 : mg_p4 gs = mg_p4 gs := rfl
                    refine ⟨_, _, _, bc, rfl, hS1026, Or.inl ⟨⟨(RJ.fewer (pj' := []) hR1037 (fun _ h => nomatch h)), ?_, ?_⟩, rfl, ?_⟩⟩
                    · exact (mg_cast (mg_good_ext _ _ _ _ _ _ (fun i _ => by show g'986 34 i = g 34 i; rw [show g'986 34 = g 34 from h991_ 34 (by decide)]) (fun i _ => by show g'986 38 i = g 38 i; rw [show g'986 38 = g 38 from h991_ 38 (by decide)]) (fun i _ => by show g'986 23 i = g 23 i; rw [show g'986 23 = g 23 from h991_ 23 (by decide)]) hrest) (by show (f 15).toInt + -1 = z807.toInt; omega) (by show (f 20).toInt = (f 20).toInt; omega) (by show (f 37).toInt + 0 = (f 37).toInt; omega) (by show (f 32).toInt + 0 = (f 32).toInt; omega) (by show (f 5).toInt + -1 = y1024.toInt; omega) : mg_good (g'986 34) (g'986 38) (g'986 23) gs (z807.toInt) ((f 20).toInt) ((f 37).toInt) ((f 32).toInt) (y1024.toInt))
                    · exact ⟨(by show 0 ≤ z1023.toInt; omega), (by show z1023.toInt ≤ (f 0).toInt; omega), (by show (f 0).toInt ≤ 512; omega), (by show 0 ≤ (f 24).toInt; omega), (by show (f 24).toInt + (f 20).toInt + mg_p1 gs ≤ 4 * z1023.toInt; omega), (by show (f 20).toInt ≤ z1023.toInt; omega), (by show z807.toInt + mg_p2 gs ≤ z1023.toInt; omega), (by show mg_p3 gs ≤ 20 * z1023.toInt + 20; omega), (by show 0 ≤ z984.toInt; omega), (by show z984.toInt + 3 * (f 20).toInt + mg_p4 gs ≤ 60 * z1023.toInt + 60; omega), (by show 0 ≤ (f 62).toInt; omega), (by show (f 62).toInt + 64 * mj_n (g'986 16) z807.toNatClampNeg 3 ≤ 64 * z1023.toInt; rw [show g'986 16 = g 16 from h991_ 16 (by decide)]; omega), (by show 0 ≤ (f 44).toInt; omega), (by show (f 44).toInt ≤ z1023.toInt; omega), (by show 0 ≤ (f 48).toInt; omega), (by show (f 48).toInt ≤ z1023.toInt; omega), (by show 1 ≤ (f 53).toInt; omega), (by show (f 53).toInt ≤ z1023.toInt + 1; omega), (by show 0 ≤ (f 19).toInt; omega), (by show (f 19).toInt ≤ 600; omega), (by show 0 ≤ (f 6).toInt; omega), (by show 0 ≤ (f 8).toInt; omega)⟩
                    · show 100 * ((f 0).toInt - z1023.toInt) + mg_p3 gs < 100 * ((f 0).toInt - (f 4).toInt) + (1 + mg_p3 gs); omega
                  · subst hv1033
                    have h1035_ : (0 : Int) ≤ a1031.toInt := h1035
                    replace hS1034 : MS S0 S1022 (upd (upd (upd (upd (upd f 6 a1031) 7 b1032) 10 0) 15 z807) 68 z984) g'986 := hS1034
                    have hR1038 := rj_clear0 hR992_
                    have hR1039 : RJ (upd (upd (upd (upd (upd f 6 a1031) 7 b1032) 10 0) 15 z807) 68 z984) g'986 [] bc [] 0 [] := hR1038
                    show am_E _ _ _ _ [some (.ref 39), some (.int on)] [.int 0] _ _
                    refine am_e6i hi_220_46 ?_
                    refine am_e35 hi_220_47 ?_
                    show am_E _ _ _ _ [some (.ref 39), some (.int on), some (.int tw), some (.int 1)] [] _ _
                    refine am_e35 hi_221_95 ?_
                    show am_E _ _ _ _ [some (.ref 39), some (.int 39), some (.int on), some (.int tw)] [] _ _
                    refine am_e18 hi_181_366 ?_
                    refine am_e35 hi_181_397 ?_
                    show am_E _ _ _ _ [some (.ref 39), some (.int 39), some (.int on), some (.int tw), some (.int th)] [] _ _
                    refine am_e35 hi_180_13 ?_
                    have hRc := rj_clear0 hR1039
                    refine ⟨_, _, [], _, rfl, hS1034, Or.inr ⟨hRc, rfl, (by show 0 ≤ (f 4).toInt; omega), (by show (f 4).toInt ≤ (f 0).toInt; omega), (by show 0 ≤ (f 32).toInt; omega), (by show (f 32).toInt ≤ 63; omega), (by show 1 ≤ (f 53).toInt; omega), (by show (f 53).toInt ≤ 600; omega), (by show 0 ≤ z984.toInt; omega), (by show z984.toInt ≤ 60000; omega), (by show 0 ≤ (f 48).toInt; omega), (by show (f 48).toInt ≤ 8000; omega), (by show 0 ≤ (f 37).toInt; omega), (by show (f 37).toInt ≤ 128; omega), (by show 0 ≤ (f 62).toInt; omega), (by show (f 62).toInt ≤ 65000; omega), (by show 0 ≤ (f 19).toInt; omega), (by show (f 19).toInt ≤ 600; omega), (by show 0 ≤ a1031.toInt; omega), (by show 0 ≤ (f 8).toInt; omega)⟩⟩
                · refine am_e13f hi_220_15 (am_cF (m := r1015.toInt) (n := (67 : Int)) rfl (by decide) c1020) ?_
                  refine am_e2 (v := 39) hi_220_18 rfl ?_
                  refine am_e7 hi_220_19 ?_
                  refine mm_20 (v := .int (f 4)) hS1017 hi_220_20 rfl ?_
                  refine am_e0 hi_220_23 ?_
                  refine am_e10 (z := z709) hi_220_24 hz709 ?_
                  refine mm_21 (v := z709) hS1017 hi_220_25 rfl (Nat.le_of_ble_eq_true rfl) ms_4 ?_
                  intro S1040 hS1041
                  replace hS1041 : MS S0 S1040 (upd (upd (upd f 4 z709) 15 z807) 68 z984) g'986 := hS1041
                  have hR1042 : RJ (upd (upd (upd f 4 z709) 15 z807) 68 z984) g'986 gs bc [] 0 ((f 68).toNatClampNeg :: []) := RJ.at hR992_ (by show (f 4).toInt ≤ z709.toInt; omega)
                  refine am_e2 (v := 39) hi_220_28 rfl ?_
                  refine am_e0 hi_220_29 ?_
                  refine am_e1 (v := on) hi_220_31 rfl ?_
                  refine am_e0 hi_220_32 ?_
                  refine am_e0 hi_220_33 ?_
                  refine am_e32n (as := [.ref 39, .int 35, .int on, .int 0, .int 0]) (la := [some (.ref 39), some (.int 35), some (.int on), some (.int 0), some (.int 0)]) (rest := []) hi_220_34 (am_hd0 (M := 220) (by decide) 34) (Nat.le_of_ble_eq_true rfl) (Nat.le_of_ble_eq_true rfl) (show 5 ≤ am_P0.2.2.1 179 from by decide +kernel) rfl (am_recv_ok hS1041.fs) rfl rfl (ct_pile (d := (d + 4)) hS1041 hR1042 (mj_e_plain (by decide)) (by show (0 : Int) ≤ (f 10).toInt; omega) (by show (f 10).toInt ≤ (65535 : Int); omega)) ?_
                  rintro v1043 S1044 (⟨z1045, g'1046, hv1047, hS1048, hR1051, h1049, h1050⟩)
                  subst hv1047
                  have h1049_ : z1045.toInt = (f 10).toInt + 1 := h1049
                  have h1050_ : ∀ j, j ∉ [11, 12, 13, 14] → g'1046 j = g'986 j := h1050
                  replace hS1048 : MS S0 S1044 (upd (upd (upd (upd f 4 z709) 10 z1045) 15 z807) 68 z984) g'1046 := hS1048
                  have hR1051_ : RJ (upd (upd (upd (upd f 4 z709) 10 z1045) 15 z807) 68 z984) g'1046 (((35 : Int), on.toInt, (0 : Int), (0 : Int), []) :: gs) bc [] 0 ((f 68).toNatClampNeg :: []) := hR1051
                  show am_E _ _ _ _ [some (.ref 39), some (.int on)] [] _ _
                  refine am_e18 hi_220_37 ?_
                  refine am_e35 hi_220_47 ?_
                  show am_E _ _ _ _ [some (.ref 39), some (.int on), some (.int tw), some (.int 1)] [] _ _
                  refine am_e35 hi_221_95 ?_
                  show am_E _ _ _ _ [some (.ref 39), some (.int 39), some (.int on), some (.int tw)] [] _ _
                  refine am_e18 hi_181_366 ?_
                  refine am_e35 hi_181_397 ?_
                  show am_E _ _ _ _ [some (.ref 39), some (.int 39), some (.int on), some (.int tw), some (.int th)] [] _ _
                  refine am_e35 hi_180_13 ?_
                  have q1 : mg_p1 (((35 : Int), on.toInt, (0 : Int), (0 : Int), []) :: gs) = 0 + (mg_p1 gs) := rfl
                  have q2 : mg_p2 (((35 : Int), on.toInt, (0 : Int), (0 : Int), []) :: gs) = 0 + (mg_p2 gs) := rfl
                  have q3 : mg_p3 (((35 : Int), on.toInt, (0 : Int), (0 : Int), []) :: gs) = 3 + (mg_p3 gs) := rfl
                  have q4 : mg_p4 (((35 : Int), on.toInt, (0 : Int), (0 : Int), []) :: gs) = 0 + (mg_p4 gs) := rfl
                  refine ⟨_, _, _, bc, rfl, hS1048, Or.inl ⟨⟨(RJ.fewer (pj' := []) hR1051_ (fun _ h => nomatch h)), ?_, ?_⟩, rfl, ?_⟩⟩
                  · exact (⟨⟨(show mg_k 35 from by decide), (show (0 : Int) ≤ z807.toInt from by omega), (show 0 ≤ (f 20).toInt from by omega), (show 1 ≤ (f 37).toInt from by omega), (show 0 ≤ (f 32).toInt from by omega), (show (f 32).toInt ≤ (f 5).toInt from by omega), (show (f 5).toInt ≤ 48 from by omega), (show (f 37).toInt ≤ 2 * ((f 5).toInt) + 2 from by omega), trivial⟩, mg_cast (mg_good_ext _ _ _ _ _ _ (fun i _ => by show g'1046 34 i = g 34 i; rw [show g'1046 34 = g'986 34 from h1050_ 34 (by decide), show g'986 34 = g 34 from h991_ 34 (by decide)]) (fun i _ => by show g'1046 38 i = g 38 i; rw [show g'1046 38 = g'986 38 from h1050_ 38 (by decide), show g'986 38 = g 38 from h991_ 38 (by decide)]) (fun i _ => by show g'1046 23 i = g 23 i; rw [show g'1046 23 = g'986 23 from h1050_ 23 (by decide), show g'986 23 = g 23 from h991_ 23 (by decide)]) hrest) (by show (f 15).toInt + -1 = z807.toInt + 0; omega) (by show (f 20).toInt = (f 20).toInt; omega) (by show (f 37).toInt + 0 = (f 37).toInt + 0; omega) (by show (f 32).toInt + 0 = (f 32).toInt + 0; omega) (by show (f 5).toInt + -1 = (f 5).toInt + -1; omega)⟩ : mg_good (g'1046 34) (g'1046 38) (g'1046 23) (((35 : Int), on.toInt, (0 : Int), (0 : Int), []) :: gs) (z807.toInt) ((f 20).toInt) ((f 37).toInt) ((f 32).toInt) ((f 5).toInt))
                  · exact ⟨(by show 0 ≤ z709.toInt; omega), (by show z709.toInt ≤ (f 0).toInt; omega), (by show (f 0).toInt ≤ 512; omega), (by show 0 ≤ (f 24).toInt; omega), (by show (f 24).toInt + (f 20).toInt + mg_p1 (((35 : Int), on.toInt, (0 : Int), (0 : Int), []) :: gs) ≤ 4 * z709.toInt; omega), (by show (f 20).toInt ≤ z709.toInt; omega), (by show z807.toInt + mg_p2 (((35 : Int), on.toInt, (0 : Int), (0 : Int), []) :: gs) ≤ z709.toInt; omega), (by show mg_p3 (((35 : Int), on.toInt, (0 : Int), (0 : Int), []) :: gs) ≤ 20 * z709.toInt + 20; omega), (by show 0 ≤ z984.toInt; omega), (by show z984.toInt + 3 * (f 20).toInt + mg_p4 (((35 : Int), on.toInt, (0 : Int), (0 : Int), []) :: gs) ≤ 60 * z709.toInt + 60; omega), (by show 0 ≤ (f 62).toInt; omega), (by show (f 62).toInt + 64 * mj_n (g'1046 16) z807.toNatClampNeg 3 ≤ 64 * z709.toInt; rw [show g'1046 16 = g'986 16 from h1050_ 16 (by decide), show g'986 16 = g 16 from h991_ 16 (by decide)]; omega), (by show 0 ≤ (f 44).toInt; omega), (by show (f 44).toInt ≤ z709.toInt; omega), (by show 0 ≤ (f 48).toInt; omega), (by show (f 48).toInt ≤ z709.toInt; omega), (by show 1 ≤ (f 53).toInt; omega), (by show (f 53).toInt ≤ z709.toInt + 1; omega), (by show 0 ≤ (f 19).toInt; omega), (by show (f 19).toInt ≤ 600; omega), (by show 0 ≤ (f 6).toInt; omega), (by show 0 ≤ (f 8).toInt; omega)⟩
                  · show 100 * ((f 0).toInt - z709.toInt) + mg_p3 (((35 : Int), on.toInt, (0 : Int), (0 : Int), []) :: gs) < 100 * ((f 0).toInt - (f 4).toInt) + (1 + mg_p3 gs); omega
