/-! STEPS: local statements (printed by wip/p2/st2.py) -/
set_option maxHeartbeats 16000000 in
theorem st_18 {sc : Nat × (Nat → Int32)} {d : Nat} {S0 S : am_S} {f : Nat → Int32} {g : Nat → Nat → Int32} {on : Int32} {tw : Int32} {th : Int32} {gs : List mg_E} {bc : List (List Nat)} (hS : MS S0 S f g) (hR : RJ f g gs bc [] 0 []) (hrest : mg_good (g 34) (g 38) (g 23) gs ((f 15).toInt + -1) (tw.toInt) ((f 37).toInt + 0) ((f 32).toInt + 0) ((f 5).toInt + 0)) (hw : ∀ i : Nat, tw.toInt ≤ (i : Int) → (i : Int) < (f 20).toInt → 0 ≤ (g 23 i).toInt ∧ (g 23 i).toInt < 16384) (p0 : 0 ≤ (f 4).toInt) (p1 : (f 4).toInt ≤ (f 0).toInt) (p2 : (f 0).toInt ≤ 512) (p3 : 0 ≤ (f 24).toInt) (p4 : (f 24).toInt + (f 20).toInt + mg_p1 gs ≤ 4 * (f 4).toInt) (p5 : (f 20).toInt ≤ (f 4).toInt) (p6 : (f 15).toInt + 0 + mg_p2 gs ≤ (f 4).toInt) (p7 : 1 + mg_p3 gs ≤ 20 * (f 4).toInt + 20) (p8 : 0 ≤ (f 68).toInt) (p9 : (f 68).toInt + 3 * (f 20).toInt + 5 + mg_p4 gs ≤ 60 * (f 4).toInt + 60) (p10 : 0 ≤ (f 62).toInt) (p11 : (f 62).toInt + 64 * mj_n (g 16) (f 15).toNatClampNeg 3 ≤ 64 * (f 4).toInt) (p12 : 0 ≤ (f 44).toInt) (p13 : (f 44).toInt ≤ (f 4).toInt) (p14 : 0 ≤ (f 48).toInt) (p15 : (f 48).toInt ≤ (f 4).toInt) (p16 : 1 ≤ (f 53).toInt) (p17 : (f 53).toInt ≤ (f 4).toInt + 1) (p18 : 0 ≤ (f 19).toInt) (p19 : (f 19).toInt ≤ 600) (p20 : 0 ≤ mg_p1 gs) (p21 : 0 ≤ mg_p2 gs) (p22 : 0 ≤ mg_p4 gs) (p23 : 0 ≤ (f 10).toInt) (p24 : (f 10).toInt ≤ mg_p3 gs) (p25 : 0 ≤ mj_n (g 16) (f 15).toNatClampNeg 3) (p26 : 1 ≤ (f 15).toInt) (p27 : 0 ≤ (f 20).toInt) (p28 : 1 ≤ (f 37).toInt) (p29 : 0 ≤ (f 32).toInt) (p30 : (f 32).toInt ≤ (f 5).toInt) (p31 : (f 5).toInt ≤ 48) (p32 : (f 37).toInt ≤ 2 * (f 5).toInt + 1) (p33 : 0 ≤ tw.toInt) (p34 : tw.toInt ≤ (f 20).toInt) : am_E (am_PP sc) (d + 8) 180 0 [some (.ref 39), some (.int 18), some (.int on), some (.int tw), some (.int th)] [] S (am_N fun v S1 => ∃ (f' : Nat → Int32) (g' : Nat → Nat → Int32) (gs' : List mg_E) (bc' : List (List Nat)), v = none ∧ MS S0 S1 f' g' ∧ (mg_on f (100 * ((f 0).toInt - (f 4).toInt) + (1 + mg_p3 gs)) f' g' gs' bc' ∨ mg_off f f' g' bc')) := by
  have hbs := mg_basic hrest
  refine am_e1 (v := 18) hi_180_0 rfl ?_
  refine am_e0 hi_180_1 ?_
  refine am_e13t hi_180_3 (by decide) ?_
  refine am_e1 (v := 18) hi_180_14 rfl ?_
  refine am_e19 (t := 318) hi_180_15 (by decide) ?_
  refine am_e2 (v := 39) hi_180_318 rfl ?_
  refine am_e2 (v := 39) hi_180_319 rfl ?_
  refine mm_20 (v := .int (f 20)) hS hi_180_320 rfl ?_
  refine am_e1 (v := tw) hi_180_323 rfl ?_
  obtain ⟨z0, hz0, tz0⟩ := am_subI (x := f 20) (y := tw) (m := (f 20).toInt) (n := tw.toInt) rfl rfl (by omega) (by omega)
  refine am_e10 (z := z0) hi_180_324 hz0 ?_
  refine am_e2 (v := 39) hi_180_325 rfl ?_
  refine mm_20 (v := .int (f 19)) hS hi_180_326 rfl ?_
  refine am_e32w (as := [.ref 39, .int z0, .int (f 19)]) (la := [some (.ref 39), some (.int z0), some (.int (f 19))]) (rest := []) hi_180_329 (am_hd0 (M := 180) (by decide) 329) (Nat.le_of_ble_eq_true rfl) (Nat.le_of_ble_eq_true rfl) (show 3 ≤ am_P0.2.2.1 258 from by decide +kernel) rfl (am_recv_ok hS.fs) rfl rfl ?_
  refine am_e2 (v := 39) hi_258_0 rfl ?_
  refine am_e32w (as := [.ref 39]) (la := [some (.ref 39)]) (rest := []) hi_258_1 (am_hd0 (M := 258) (by decide) 1) (Nat.le_of_ble_eq_true rfl) (Nat.le_of_ble_eq_true rfl) (show 1 ≤ am_P0.2.2.1 216 from by decide +kernel) rfl (am_recv_ok hS.fs) rfl rfl ?_
  refine am_e2 (v := 39) hi_216_0 rfl ?_
  refine mm_20 (v := .ref 46) hS hi_216_1 rfl ?_
  refine am_e2 (v := 39) hi_216_4 rfl ?_
  refine mm_20 (v := .int (f 15)) hS hi_216_5 rfl ?_
  refine am_e0 hi_216_8 ?_
  obtain ⟨z1, hz1, tz1⟩ := am_subI (x := f 15) (y := 1) (m := (f 15).toInt) (n := (1 : Int)) rfl (by decide) (by omega) (by omega)
  refine am_e10 (z := z1) hi_216_9 hz1 ?_
  refine mm_25 hS ma_16 hi_216_10 (by decide) (by omega) (by omega) ?_
  show am_E _ _ _ _ [some (.ref 39)] [.int (g 16 z1.toNatClampNeg)] _ _
  refine am_e0 hi_216_11 ?_
  by_cases c2 : (g 16 z1.toNatClampNeg).toInt = (1 : Int)
  · refine am_e13t hi_216_12 (am_cT (m := (g 16 z1.toNatClampNeg).toInt) (n := (1 : Int)) rfl (by decide) c2) ?_
    refine am_e0 hi_216_30 ?_
    refine am_e18 hi_216_31 ?_
    refine am_e36 hi_216_35 (by decide) ?_
    show am_E _ _ _ _ [some (.ref 39), some (.int z0), some (.int (f 19))] [.int 1] _ _
    refine am_e12f hi_258_4 (by decide) ?_
    refine am_e1 (v := f 19) hi_258_7 rfl ?_
    refine am_e1 (v := z0) hi_258_8 rfl ?_
    by_cases c3 : z0.toInt < (f 19).toInt
    · refine am_e13t hi_258_9 (am_cT (m := (f 19).toInt) (n := z0.toInt) rfl rfl c3) ?_
      refine am_e2 (v := 39) hi_258_31 rfl ?_
      refine am_e32w (as := [.ref 39]) (la := [some (.ref 39)]) (rest := []) hi_258_32 (am_hd0 (M := 258) (by decide) 32) (Nat.le_of_ble_eq_true rfl) (Nat.le_of_ble_eq_true rfl) (show 1 ≤ am_P0.2.2.1 209 from by decide +kernel) rfl (am_recv_ok hS.fs) rfl rfl ?_
      refine am_e2 (v := 39) hi_209_0 rfl ?_
      refine am_e32n (as := [.ref 39]) (la := [some (.ref 39), none, none, none]) (rest := []) hi_209_1 (am_hd0 (M := 209) (by decide) 1) (Nat.le_of_ble_eq_true rfl) (Nat.le_of_ble_eq_true rfl) (show 1 ≤ am_P0.2.2.1 204 from by decide +kernel) rfl (am_recv_ok hS.fs) rfl rfl (ct_load (d := (d + 3)) hS hR  (by show (0 : Int) ≤ (f 32).toInt; omega) (by show (f 32).toInt ≤ (63 : Int); omega) (by show (f 53).toInt ≤ (4096 : Int); omega) (by show (0 : Int) ≤ (f 68).toInt; omega) (by show (f 68).toInt ≤ (65534 : Int); omega) (by show (1 : Int) ≤ (f 15).toInt; omega) (by show (f 15).toInt ≤ (32767 : Int); omega) (by show (0 : Int) ≤ (f 24).toInt; omega) (by show (f 24).toInt ≤ (16384 : Int); omega) (by show (0 : Int) ≤ (f 62).toInt; omega) (by show (f 62).toInt ≤ (65000 : Int); omega)) ?_
      rintro v4 S5 (⟨o6, s7, m8, g'9, hv10, hS11, hR18, h12, h13, h14, h15, h16, h17⟩)
      subst hv10
      have h12_ : (f 62).toInt ≤ o6.toInt := h12
      have h13_ : o6.toInt ≤ (f 62).toInt + 64 := h13
      have h14_ : (f 68).toInt ≤ s7.toInt := h14
      have h15_ : s7.toInt ≤ (f 68).toInt + 1 := h15
      have h16_ : o6.toInt + 64 * mj_n (g'9 16) (f 15).toNatClampNeg 3 ≤ (f 62).toInt + 64 * mj_n (g 16) (f 15).toNatClampNeg 3 := h16
      have h17_ : ∀ j, j ∉ [16, 60, 63, 64, 65, 66, 67, 69, 70, 71, 72, 73] → g'9 j = g j := h17
      have hR18_ : RJ (upd (upd (upd f 62 o6) 68 s7) 75 m8) g'9 gs bc [] 0 [] := hR18
      show am_E _ _ _ _ [some (.ref 39)] [] _ _
      refine am_e2 (v := 39) hi_209_4 rfl ?_
      refine am_e7 hi_209_5 ?_
      refine mm_20 (v := .int (f 15)) hS11 hi_209_6 rfl ?_
      refine am_e0 hi_209_9 ?_
      refine am_e10 (z := z1) hi_209_10 hz1 ?_
      refine mm_21 (v := z1) hS11 hi_209_11 rfl (Nat.le_of_ble_eq_true rfl) ms_15 ?_
      intro S19 hS20
      replace hS20 : MS S0 S19 (upd (upd (upd (upd f 15 z1) 62 o6) 68 s7) 75 m8) g'9 := hS20
      have hp21 : mj_n (g'9 16) (f 15).toNatClampNeg 3 = mj_n (g'9 16) z1.toNatClampNeg 3 + if (g'9 16 z1.toNatClampNeg).toInt = 3 then 1 else 0 := mj_pop (by rw [cl_toNat, cl_toNat]; omega)
      have hp211 : mj_n (g'9 16) z1.toNatClampNeg 3 ≤ mj_n (g'9 16) (f 15).toNatClampNeg 3 := by rw [hp21]; split <;> omega
      have hp212 : (g'9 16 z1.toNatClampNeg).toInt = 3 → mj_n (g'9 16) z1.toNatClampNeg 3 + 1 ≤ mj_n (g'9 16) (f 15).toNatClampNeg 3 := fun q => by rw [hp21, if_pos q]; exact Int.le_refl _
      refine am_e35 hi_209_14 ?_
      show am_E _ _ _ _ [some (.ref 39), some (.int z0), some (.int (f 19))] [] _ _
      refine am_e2 (v := 39) hi_258_35 rfl ?_
      refine am_e1 (v := z0) hi_258_36 rfl ?_
      refine am_e1 (v := f 19) hi_258_37 rfl ?_
      obtain ⟨z22, hz22, tz22⟩ := am_subI (x := z0) (y := f 19) (m := z0.toInt) (n := (f 19).toInt) rfl rfl (by omega) (by omega)
      refine am_e10 (z := z22) hi_258_38 hz22 ?_
      refine am_e32n (as := [.ref 39, .int z22]) (la := [some (.ref 39), some (.int z22), none]) (rest := []) hi_258_39 (am_hd0 (M := 258) (by decide) 39) (Nat.le_of_ble_eq_true rfl) (Nat.le_of_ble_eq_true rfl) (show 2 ≤ am_P0.2.2.1 240 from by decide +kernel) rfl (am_recv_ok hS20.fs) rfl rfl (ct_nils (d := (d + 5)) hS20 hR18_  (by show (0 : Int) ≤ (f 32).toInt; omega) (by show (f 32).toInt ≤ (63 : Int); omega) (by show (f 53).toInt ≤ (4096 : Int); omega) (by show (0 : Int) ≤ s7.toInt; omega) (by show s7.toInt ≤ (65534 : Int); omega) (by show s7.toInt + z22.toInt ≤ 65534; omega)) ?_
      rintro v23 S24 (⟨s25, g'26, hv27, hS28, hR32, h29, h30, h31⟩)
      subst hv27
      have h29_ : s7.toInt ≤ s25.toInt := h29
      have h30_ : s25.toInt ≤ s7.toInt + z22.toInt ∨ s25.toInt ≤ s7.toInt := h30
      have h31_ : ∀ j, j ∉ [60, 69, 70, 71, 72, 73] → g'26 j = g'9 j := h31
      replace hS28 : MS S0 S24 (upd (upd (upd (upd f 15 z1) 62 o6) 68 s25) 75 m8) g'26 := hS28
      have hR32_ : RJ (upd (upd (upd (upd f 15 z1) 62 o6) 68 s25) 75 m8) g'26 gs bc [] 0 [] := hR32
      show am_E _ _ _ _ [some (.ref 39), some (.int z0), some (.int (f 19))] [] _ _
      refine am_e1 (v := f 19) hi_258_42 rfl ?_
      refine am_e1 (v := z0) hi_258_43 rfl ?_
      refine am_e13f hi_258_44 (am_cF (m := (f 19).toInt) (n := z0.toInt) rfl rfl (by simp only [am_cI]; omega)) ?_
      refine am_e2 (v := 39) hi_258_47 rfl ?_
      refine am_e0 hi_258_48 ?_
      refine am_e1 (v := f 19) hi_258_50 rfl ?_
      refine am_e1 (v := z0) hi_258_51 rfl ?_
      obtain ⟨z33, hz33, tz33⟩ := am_subI (x := f 19) (y := z0) (m := (f 19).toInt) (n := z0.toInt) rfl rfl (by omega) (by omega)
      refine am_e10 (z := z33) hi_258_52 hz33 ?_
      refine am_e0 hi_258_53 ?_
      refine am_e0 hi_258_54 ?_
      refine am_e32n (as := [.ref 39, .int 26, .int z33, .int 0, .int 0]) (la := [some (.ref 39), some (.int 26), some (.int z33), some (.int 0), some (.int 0)]) (rest := []) hi_258_55 (am_hd0 (M := 258) (by decide) 55) (Nat.le_of_ble_eq_true rfl) (Nat.le_of_ble_eq_true rfl) (show 5 ≤ am_P0.2.2.1 189 from by decide +kernel) rfl (am_recv_ok hS28.fs) rfl rfl (ct_put (d := (d + 6)) hS28 hR32_  (by show (0 : Int) ≤ (f 32).toInt; omega) (by show (f 32).toInt ≤ (63 : Int); omega) (by show (f 53).toInt ≤ (4096 : Int); omega) (by show (0 : Int) ≤ s25.toInt; omega) (by show s25.toInt ≤ (65534 : Int); omega)) ?_
      rintro v34 S35 (⟨z36, r37, g'38, hv39, hS40, hR44, h41, h42, h43⟩)
      subst hv39
      have h41_ : z36.toInt = s25.toInt + 1 := h41
      have h42_ : r37.toInt = s25.toInt := h42
      have h43_ : ∀ j, j ∉ [60, 69, 70, 71, 72, 73] → g'38 j = g'26 j := h43
      replace hS40 : MS S0 S35 (upd (upd (upd (upd f 15 z1) 62 o6) 68 z36) 75 m8) g'38 := hS40
      have hR44_ : RJ (upd (upd (upd (upd f 15 z1) 62 o6) 68 z36) 75 m8) g'38 gs bc [] 0 (s25.toNatClampNeg :: []) := hR44
      show am_E _ _ _ _ [some (.ref 39), some (.int z0), some (.int (f 19))] [.int r37] _ _
      refine am_e6i hi_258_58 ?_
      refine am_e35 hi_258_59 ?_
      show am_E _ _ _ _ [some (.ref 39), some (.int 18), some (.int on), some (.int tw), some (.int th)] [] _ _
      refine am_e2 (v := 39) hi_180_332 rfl ?_
      refine am_e1 (v := on) hi_180_333 rfl ?_
      refine am_e1 (v := tw) hi_180_334 rfl ?_
      refine am_e32n (as := [.ref 39, .int on, .int tw]) (la := [some (.ref 39), some (.int on), some (.int tw), none, none, none]) (rest := []) hi_180_335 (am_hd0 (M := 180) (by decide) 335) (Nat.le_of_ble_eq_true rfl) (Nat.le_of_ble_eq_true rfl) (show 3 ≤ am_P0.2.2.1 241 from by decide +kernel) rfl (am_recv_ok hS40.fs) rfl rfl (ct_localEnd (d := (d + 5)) hS40 hR44_ (by intro i h1 h2; show 0 ≤ (g'38 23 i).toInt ∧ (g'38 23 i).toInt < 16384; rw [show g'38 23 = g'26 23 from h43_ 23 (by decide), show g'26 23 = g'9 23 from h31_ 23 (by decide), show g'9 23 = g 23 from h17_ 23 (by decide)]; exact hw i (by omega) (by have h3 : (i : Int) < (f 20).toInt := h2; omega)) (by show (0 : Int) ≤ (f 32).toInt; omega) (by show (f 32).toInt ≤ (63 : Int); omega) (by show (f 53).toInt ≤ (4096 : Int); omega) (by show (0 : Int) ≤ (f 24).toInt; omega) (by show (f 24).toInt + (f 20).toInt ≤ 16000; omega) (by show (0 : Int) ≤ tw.toInt; omega) (by show tw.toInt ≤ (f 20).toInt; omega) (by show (0 : Int) ≤ z36.toInt; omega) (by show z36.toInt + (f 20).toInt ≤ 65530; omega)) ?_
      rintro v45 S46 (⟨a47, b48, q49, l50, y51, s52, g'53, hv54, hS55, hR61, h56, h57, h58, h59, h60⟩)
      subst hv54
      have h56_ : q49.toInt = tw.toInt := h56
      have h57_ : l50.toInt = (f 24).toInt + (f 20).toInt - tw.toInt := h57
      have h58_ : z36.toInt ≤ s52.toInt := h58
      have h59_ : s52.toInt + tw.toInt ≤ z36.toInt + (f 20).toInt + 1 := h59
      have h60_ : ∀ j, j ∉ [25, 26, 27, 28, 29, 30, 58, 60, 69, 70, 71, 72, 73] → g'53 j = g'38 j := h60
      replace hS55 : MS S0 S46 (upd (upd (upd (upd (upd (upd (upd (upd (upd f 8 a47) 9 b48) 15 z1) 20 q49) 24 l50) 31 y51) 62 o6) 68 s52) 75 m8) g'53 := hS55
      have hR61_ : RJ (upd (upd (upd (upd (upd (upd (upd (upd (upd f 8 a47) 9 b48) 15 z1) 20 q49) 24 l50) 31 y51) 62 o6) 68 s52) 75 m8) g'53 gs bc [] 0 (s25.toNatClampNeg :: []) := hR61
      show am_E _ _ _ _ [some (.ref 39), some (.int 18), some (.int on), some (.int tw), some (.int th)] [] _ _
      refine am_e18 hi_180_338 ?_
      refine am_e35 hi_180_371 ?_
      have q1 : mg_p1 gs = mg_p1 gs := rfl
      have q2 : mg_p2 gs = mg_p2 gs := rfl
      have q3 : mg_p3 gs = mg_p3 gs := rfl
      have q4 : mg_p4 gs = mg_p4 gs := rfl
      refine ⟨_, _, _, bc, rfl, hS55, Or.inl ⟨⟨(RJ.fewer (pj' := []) hR61_ (fun _ h => nomatch h)), ?_, ?_⟩, rfl, ?_⟩⟩
      · exact (mg_cast (mg_good_ext _ _ _ _ _ _ (fun i _ => by show g'53 34 i = g 34 i; rw [show g'53 34 = g'38 34 from h60_ 34 (by decide), show g'38 34 = g'26 34 from h43_ 34 (by decide), show g'26 34 = g'9 34 from h31_ 34 (by decide), show g'9 34 = g 34 from h17_ 34 (by decide)]) (fun i _ => by show g'53 38 i = g 38 i; rw [show g'53 38 = g'38 38 from h60_ 38 (by decide), show g'38 38 = g'26 38 from h43_ 38 (by decide), show g'26 38 = g'9 38 from h31_ 38 (by decide), show g'9 38 = g 38 from h17_ 38 (by decide)]) (fun i _ => by show g'53 23 i = g 23 i; rw [show g'53 23 = g'38 23 from h60_ 23 (by decide), show g'38 23 = g'26 23 from h43_ 23 (by decide), show g'26 23 = g'9 23 from h31_ 23 (by decide), show g'9 23 = g 23 from h17_ 23 (by decide)]) hrest) (by show (f 15).toInt + -1 = z1.toInt; omega) (by show tw.toInt = q49.toInt; omega) (by show (f 37).toInt + 0 = (f 37).toInt; omega) (by show (f 32).toInt + 0 = (f 32).toInt; omega) (by show (f 5).toInt + 0 = (f 5).toInt; omega) : mg_good (g'53 34) (g'53 38) (g'53 23) gs (z1.toInt) (q49.toInt) ((f 37).toInt) ((f 32).toInt) ((f 5).toInt))
      · exact ⟨(by show 0 ≤ (f 4).toInt; omega), (by show (f 4).toInt ≤ (f 0).toInt; omega), (by show (f 0).toInt ≤ 512; omega), (by show 0 ≤ l50.toInt; omega), (by show l50.toInt + q49.toInt + mg_p1 gs ≤ 4 * (f 4).toInt; omega), (by show q49.toInt ≤ (f 4).toInt; omega), (by show z1.toInt + mg_p2 gs ≤ (f 4).toInt; omega), (by show mg_p3 gs ≤ 20 * (f 4).toInt + 20; omega), (by show 0 ≤ s52.toInt; omega), (by show s52.toInt + 3 * q49.toInt + mg_p4 gs ≤ 60 * (f 4).toInt + 60; omega), (by show 0 ≤ o6.toInt; omega), (by show o6.toInt + 64 * mj_n (g'53 16) z1.toNatClampNeg 3 ≤ 64 * (f 4).toInt; rw [show g'53 16 = g'38 16 from h60_ 16 (by decide), show g'38 16 = g'26 16 from h43_ 16 (by decide), show g'26 16 = g'9 16 from h31_ 16 (by decide)]; omega), (by show 0 ≤ (f 44).toInt; omega), (by show (f 44).toInt ≤ (f 4).toInt; omega), (by show 0 ≤ (f 48).toInt; omega), (by show (f 48).toInt ≤ (f 4).toInt; omega), (by show 1 ≤ (f 53).toInt; omega), (by show (f 53).toInt ≤ (f 4).toInt + 1; omega), (by show 0 ≤ (f 19).toInt; omega), (by show (f 19).toInt ≤ 600; omega)⟩
      · show 100 * ((f 0).toInt - (f 4).toInt) + mg_p3 gs < 100 * ((f 0).toInt - (f 4).toInt) + (1 + mg_p3 gs); omega
    · refine am_e13f hi_258_9 (am_cF (m := (f 19).toInt) (n := z0.toInt) rfl rfl c3) ?_
      refine am_e2 (v := 39) hi_258_12 rfl ?_
      refine am_e32w (as := [.ref 39]) (la := [some (.ref 39), none]) (rest := []) hi_258_13 (am_hd0 (M := 258) (by decide) 13) (Nat.le_of_ble_eq_true rfl) (Nat.le_of_ble_eq_true rfl) (show 1 ≤ am_P0.2.2.1 217 from by decide +kernel) rfl (am_recv_ok hS.fs) rfl rfl ?_
      refine am_e2 (v := 39) hi_217_0 rfl ?_
      refine mm_20 (v := .ref 47) hS hi_217_1 rfl ?_
      refine am_e2 (v := 39) hi_217_4 rfl ?_
      refine mm_20 (v := .int (f 15)) hS hi_217_5 rfl ?_
      refine am_e0 hi_217_8 ?_
      refine am_e10 (z := z1) hi_217_9 hz1 ?_
      refine mm_25 hS ma_17 hi_217_10 (by decide) (by omega) (by omega) ?_
      show am_E _ _ _ _ [some (.ref 39), none] [.int (g 17 z1.toNatClampNeg)] _ _
      have r62 : (g 16 z1.toNatClampNeg).toInt = 1 ∨ (g 16 z1.toNatClampNeg).toInt = 2 → 0 ≤ (g 17 z1.toNatClampNeg).toInt ∧ (g 17 z1.toNatClampNeg).toInt < 65536 := RJ.vc hR z1.toNatClampNeg
      refine am_e3 (ls' := [some (.ref 39), some (.int (g 17 z1.toNatClampNeg))]) hi_217_11 (Nat.le_of_ble_eq_true rfl) rfl ?_
      refine am_e2 (v := 39) hi_217_12 rfl ?_
      refine mm_20 (v := .ref 91) hS hi_217_13 rfl ?_
      refine am_e1 (v := g 17 z1.toNatClampNeg) hi_217_16 rfl ?_
      refine am_e2 (v := 39) hi_217_17 rfl ?_
      refine mm_20 (v := .ref 46) hS hi_217_18 rfl ?_
      refine am_e2 (v := 39) hi_217_21 rfl ?_
      refine mm_20 (v := .int (f 15)) hS hi_217_22 rfl ?_
      refine am_e0 hi_217_25 ?_
      refine am_e10 (z := z1) hi_217_26 hz1 ?_
      refine mm_25 hS ma_16 hi_217_27 (by decide) (by omega) (by omega) ?_
      show am_E _ _ _ _ [some (.ref 39), some (.int (g 17 z1.toNatClampNeg))] [.int (g 16 z1.toNatClampNeg), .int (g 17 z1.toNatClampNeg), .ref 91] _ _
      refine am_e0 hi_217_28 ?_
      refine am_e13f hi_217_29 (am_cF (m := (g 16 z1.toNatClampNeg).toInt) (n := (1 : Int)) rfl (by decide) (by simp only [am_cI]; omega)) ?_
      refine am_e2 (v := 39) hi_217_32 rfl ?_
      refine mm_20 (v := .ref 91) hS hi_217_33 rfl ?_
      refine am_e1 (v := g 17 z1.toNatClampNeg) hi_217_36 rfl ?_
      refine mm_25 hS ma_72 hi_217_37 (by decide) (by omega) (by omega) ?_
      show am_E _ _ _ _ [some (.ref 39), some (.int (g 17 z1.toNatClampNeg))] [.int (g 72 (g 17 z1.toNatClampNeg).toNatClampNeg), .int (g 17 z1.toNatClampNeg), .ref 91] _ _
      refine am_e0 hi_217_38 ?_
      obtain ⟨z63, hz63⟩ : ∃ q__, am_bin 3 (g 72 (g 17 z1.toNatClampNeg).toNatClampNeg) 1 = q__ := ⟨_, rfl⟩
      refine am_e10 (z := z63) hi_217_39 hz63 ?_
      refine am_e0 hi_217_40 ?_
      obtain ⟨z64, hz64⟩ : ∃ q__, am_bin 4 z63 4 = q__ := ⟨_, rfl⟩
      refine am_e10 (z := z64) hi_217_41 hz64 ?_
      refine am_e18 hi_217_42 ?_
      refine mm_26 hS ma_72 hi_217_46 (by decide) (by omega) (by omega) (fun h => nomatch h) ?_
      intro S65 hS66
      refine am_e2 (v := 39) hi_217_47 rfl ?_
      refine am_e7 hi_217_48 ?_
      refine mm_20 (v := .int (f 15)) hS66 hi_217_49 rfl ?_
      refine am_e0 hi_217_52 ?_
      refine am_e10 (z := z1) hi_217_53 hz1 ?_
      refine mm_21 (v := z1) hS66 hi_217_54 rfl (Nat.le_of_ble_eq_true rfl) ms_15 ?_
      intro S67 hS68
      have hp69 : mj_n (g 16) (f 15).toNatClampNeg 3 = mj_n (g 16) z1.toNatClampNeg 3 + if (g 16 z1.toNatClampNeg).toInt = 3 then 1 else 0 := mj_pop (by rw [cl_toNat, cl_toNat]; omega)
      have hp691 : mj_n (g 16) z1.toNatClampNeg 3 ≤ mj_n (g 16) (f 15).toNatClampNeg 3 := by rw [hp69]; split <;> omega
      have hp692 : (g 16 z1.toNatClampNeg).toInt = 3 → mj_n (g 16) z1.toNatClampNeg 3 + 1 ≤ mj_n (g 16) (f 15).toNatClampNeg 3 := fun q => by rw [hp69, if_pos q]; exact Int.le_refl _
      refine am_e35 hi_217_57 ?_
      show am_E _ _ _ _ [some (.ref 39), some (.int z0), some (.int (f 19))] [] _ _
      refine am_e2 (v := 39) hi_258_16 rfl ?_
      refine am_e0 hi_258_17 ?_
      refine am_e1 (v := z0) hi_258_19 rfl ?_
      refine am_e1 (v := f 19) hi_258_20 rfl ?_
      obtain ⟨z70, hz70, tz70⟩ := am_subI (x := z0) (y := f 19) (m := z0.toInt) (n := (f 19).toInt) rfl rfl (by omega) (by omega)
      refine am_e10 (z := z70) hi_258_21 hz70 ?_
      refine am_e0 hi_258_22 ?_
      obtain ⟨z71, hz71, tz71⟩ := am_addI (x := z70) (y := 1) (m := z70.toInt) (n := (1 : Int)) rfl (by decide) (by omega) (by omega)
      refine am_e10 (z := z71) hi_258_23 hz71 ?_
      refine am_e0 hi_258_24 ?_
      refine am_e0 hi_258_25 ?_
      refine am_e32n (as := [.ref 39, .int 25, .int z71, .int 0, .int 0]) (la := [some (.ref 39), some (.int 25), some (.int z71), some (.int 0), some (.int 0)]) (rest := []) hi_258_26 (am_hd0 (M := 258) (by decide) 26) (Nat.le_of_ble_eq_true rfl) (Nat.le_of_ble_eq_true rfl) (show 5 ≤ am_P0.2.2.1 189 from by decide +kernel) rfl (am_recv_ok hS68.fs) rfl rfl (ct_put (d := (d + 6)) hS68 hR  (by show (0 : Int) ≤ (f 32).toInt; omega) (by show (f 32).toInt ≤ (63 : Int); omega) (by show (f 53).toInt ≤ (4096 : Int); omega) (by show (0 : Int) ≤ (f 68).toInt; omega) (by show (f 68).toInt ≤ (65534 : Int); omega)) ?_
      rintro v72 S73 (⟨z74, r75, g'76, hv77, hS78, hR82, h79, h80, h81⟩)
      subst hv77
      have h79_ : z74.toInt = (f 68).toInt + 1 := h79
      have h80_ : r75.toInt = (f 68).toInt := h80
      have h81_ : ∀ j, j ∉ [60, 69, 70, 71, 72, 73] → g'76 j = (upg g 72 (g 17 z1.toNatClampNeg).toNatClampNeg z64) j := h81
      have hR82_ : RJ (upd (upd f 15 z1) 68 z74) g'76 gs bc [] 0 ((f 68).toNatClampNeg :: []) := hR82
      show am_E _ _ _ _ [some (.ref 39), some (.int z0), some (.int (f 19))] [.int r75] _ _
      refine am_e6i hi_258_29 ?_
      refine am_e35 hi_258_30 ?_
      show am_E _ _ _ _ [some (.ref 39), some (.int 18), some (.int on), some (.int tw), some (.int th)] [] _ _
      refine am_e2 (v := 39) hi_180_332 rfl ?_
      refine am_e1 (v := on) hi_180_333 rfl ?_
      refine am_e1 (v := tw) hi_180_334 rfl ?_
      refine am_e32n (as := [.ref 39, .int on, .int tw]) (la := [some (.ref 39), some (.int on), some (.int tw), none, none, none]) (rest := []) hi_180_335 (am_hd0 (M := 180) (by decide) 335) (Nat.le_of_ble_eq_true rfl) (Nat.le_of_ble_eq_true rfl) (show 3 ≤ am_P0.2.2.1 241 from by decide +kernel) rfl (am_recv_ok hS78.fs) rfl rfl (ct_localEnd (d := (d + 5)) hS78 hR82_ (by intro i h1 h2; show 0 ≤ (g'76 23 i).toInt ∧ (g'76 23 i).toInt < 16384; rw [show g'76 23 = g 23 from h81_ 23 (by decide)]; exact hw i (by omega) (by have h3 : (i : Int) < (f 20).toInt := h2; omega)) (by show (0 : Int) ≤ (f 32).toInt; omega) (by show (f 32).toInt ≤ (63 : Int); omega) (by show (f 53).toInt ≤ (4096 : Int); omega) (by show (0 : Int) ≤ (f 24).toInt; omega) (by show (f 24).toInt + (f 20).toInt ≤ 16000; omega) (by show (0 : Int) ≤ tw.toInt; omega) (by show tw.toInt ≤ (f 20).toInt; omega) (by show (0 : Int) ≤ z74.toInt; omega) (by show z74.toInt + (f 20).toInt ≤ 65530; omega)) ?_
      rintro v83 S84 (⟨a85, b86, q87, l88, y89, s90, g'91, hv92, hS93, hR99, h94, h95, h96, h97, h98⟩)
      subst hv92
      have h94_ : q87.toInt = tw.toInt := h94
      have h95_ : l88.toInt = (f 24).toInt + (f 20).toInt - tw.toInt := h95
      have h96_ : z74.toInt ≤ s90.toInt := h96
      have h97_ : s90.toInt + tw.toInt ≤ z74.toInt + (f 20).toInt + 1 := h97
      have h98_ : ∀ j, j ∉ [25, 26, 27, 28, 29, 30, 58, 60, 69, 70, 71, 72, 73] → g'91 j = g'76 j := h98
      replace hS93 : MS S0 S84 (upd (upd (upd (upd (upd (upd (upd f 8 a85) 9 b86) 15 z1) 20 q87) 24 l88) 31 y89) 68 s90) g'91 := hS93
      have hR99_ : RJ (upd (upd (upd (upd (upd (upd (upd f 8 a85) 9 b86) 15 z1) 20 q87) 24 l88) 31 y89) 68 s90) g'91 gs bc [] 0 ((f 68).toNatClampNeg :: []) := hR99
      show am_E _ _ _ _ [some (.ref 39), some (.int 18), some (.int on), some (.int tw), some (.int th)] [] _ _
      refine am_e18 hi_180_338 ?_
      refine am_e35 hi_180_371 ?_
      have q1 : mg_p1 gs = mg_p1 gs := rfl
      have q2 : mg_p2 gs = mg_p2 gs := rfl
      have q3 : mg_p3 gs = mg_p3 gs := rfl
      have q4 : mg_p4 gs = mg_p4 gs := rfl
      refine ⟨_, _, _, bc, rfl, hS93, Or.inl ⟨⟨(RJ.fewer (pj' := []) hR99_ (fun _ h => nomatch h)), ?_, ?_⟩, rfl, ?_⟩⟩
      · exact (mg_cast (mg_good_ext _ _ _ _ _ _ (fun i _ => by show g'91 34 i = g 34 i; rw [show g'91 34 = g'76 34 from h98_ 34 (by decide), show g'76 34 = g 34 from h81_ 34 (by decide)]) (fun i _ => by show g'91 38 i = g 38 i; rw [show g'91 38 = g'76 38 from h98_ 38 (by decide), show g'76 38 = g 38 from h81_ 38 (by decide)]) (fun i _ => by show g'91 23 i = g 23 i; rw [show g'91 23 = g'76 23 from h98_ 23 (by decide), show g'76 23 = g 23 from h81_ 23 (by decide)]) hrest) (by show (f 15).toInt + -1 = z1.toInt; omega) (by show tw.toInt = q87.toInt; omega) (by show (f 37).toInt + 0 = (f 37).toInt; omega) (by show (f 32).toInt + 0 = (f 32).toInt; omega) (by show (f 5).toInt + 0 = (f 5).toInt; omega) : mg_good (g'91 34) (g'91 38) (g'91 23) gs (z1.toInt) (q87.toInt) ((f 37).toInt) ((f 32).toInt) ((f 5).toInt))
      · exact ⟨(by show 0 ≤ (f 4).toInt; omega), (by show (f 4).toInt ≤ (f 0).toInt; omega), (by show (f 0).toInt ≤ 512; omega), (by show 0 ≤ l88.toInt; omega), (by show l88.toInt + q87.toInt + mg_p1 gs ≤ 4 * (f 4).toInt; omega), (by show q87.toInt ≤ (f 4).toInt; omega), (by show z1.toInt + mg_p2 gs ≤ (f 4).toInt; omega), (by show mg_p3 gs ≤ 20 * (f 4).toInt + 20; omega), (by show 0 ≤ s90.toInt; omega), (by show s90.toInt + 3 * q87.toInt + mg_p4 gs ≤ 60 * (f 4).toInt + 60; omega), (by show 0 ≤ (f 62).toInt; omega), (by show (f 62).toInt + 64 * mj_n (g'91 16) z1.toNatClampNeg 3 ≤ 64 * (f 4).toInt; rw [show g'91 16 = g'76 16 from h98_ 16 (by decide), show g'76 16 = g 16 from h81_ 16 (by decide)]; omega), (by show 0 ≤ (f 44).toInt; omega), (by show (f 44).toInt ≤ (f 4).toInt; omega), (by show 0 ≤ (f 48).toInt; omega), (by show (f 48).toInt ≤ (f 4).toInt; omega), (by show 1 ≤ (f 53).toInt; omega), (by show (f 53).toInt ≤ (f 4).toInt + 1; omega), (by show 0 ≤ (f 19).toInt; omega), (by show (f 19).toInt ≤ 600; omega)⟩
      · show 100 * ((f 0).toInt - (f 4).toInt) + mg_p3 gs < 100 * ((f 0).toInt - (f 4).toInt) + (1 + mg_p3 gs); omega
  · refine am_e13f hi_216_12 (am_cF (m := (g 16 z1.toNatClampNeg).toInt) (n := (1 : Int)) rfl (by decide) c2) ?_
    refine am_e2 (v := 39) hi_216_15 rfl ?_
    refine mm_20 (v := .ref 46) hS hi_216_16 rfl ?_
    refine am_e2 (v := 39) hi_216_19 rfl ?_
    refine mm_20 (v := .int (f 15)) hS hi_216_20 rfl ?_
    refine am_e0 hi_216_23 ?_
    refine am_e10 (z := z1) hi_216_24 hz1 ?_
    refine mm_25 hS ma_16 hi_216_25 (by decide) (by omega) (by omega) ?_
    show am_E _ _ _ _ [some (.ref 39)] [.int (g 16 z1.toNatClampNeg)] _ _
    refine am_e0 hi_216_26 ?_
    by_cases c100 : ¬ (g 16 z1.toNatClampNeg).toInt = (2 : Int)
    · refine am_e13t hi_216_27 (am_cT (m := (g 16 z1.toNatClampNeg).toInt) (n := (2 : Int)) rfl (by decide) c100) ?_
      refine am_e0 hi_216_34 ?_
      refine am_e36 hi_216_35 (by decide) ?_
      show am_E _ _ _ _ [some (.ref 39), some (.int z0), some (.int (f 19))] [.int 0] _ _
      refine am_e12t hi_258_4 (by decide) ?_
      refine am_e2 (v := 39) hi_258_31 rfl ?_
      refine am_e32w (as := [.ref 39]) (la := [some (.ref 39)]) (rest := []) hi_258_32 (am_hd0 (M := 258) (by decide) 32) (Nat.le_of_ble_eq_true rfl) (Nat.le_of_ble_eq_true rfl) (show 1 ≤ am_P0.2.2.1 209 from by decide +kernel) rfl (am_recv_ok hS.fs) rfl rfl ?_
      refine am_e2 (v := 39) hi_209_0 rfl ?_
      refine am_e32n (as := [.ref 39]) (la := [some (.ref 39), none, none, none]) (rest := []) hi_209_1 (am_hd0 (M := 209) (by decide) 1) (Nat.le_of_ble_eq_true rfl) (Nat.le_of_ble_eq_true rfl) (show 1 ≤ am_P0.2.2.1 204 from by decide +kernel) rfl (am_recv_ok hS.fs) rfl rfl (ct_load (d := (d + 3)) hS hR  (by show (0 : Int) ≤ (f 32).toInt; omega) (by show (f 32).toInt ≤ (63 : Int); omega) (by show (f 53).toInt ≤ (4096 : Int); omega) (by show (0 : Int) ≤ (f 68).toInt; omega) (by show (f 68).toInt ≤ (65534 : Int); omega) (by show (1 : Int) ≤ (f 15).toInt; omega) (by show (f 15).toInt ≤ (32767 : Int); omega) (by show (0 : Int) ≤ (f 24).toInt; omega) (by show (f 24).toInt ≤ (16384 : Int); omega) (by show (0 : Int) ≤ (f 62).toInt; omega) (by show (f 62).toInt ≤ (65000 : Int); omega)) ?_
      rintro v101 S102 (⟨o103, s104, m105, g'106, hv107, hS108, hR115, h109, h110, h111, h112, h113, h114⟩)
      subst hv107
      have h109_ : (f 62).toInt ≤ o103.toInt := h109
      have h110_ : o103.toInt ≤ (f 62).toInt + 64 := h110
      have h111_ : (f 68).toInt ≤ s104.toInt := h111
      have h112_ : s104.toInt ≤ (f 68).toInt + 1 := h112
      have h113_ : o103.toInt + 64 * mj_n (g'106 16) (f 15).toNatClampNeg 3 ≤ (f 62).toInt + 64 * mj_n (g 16) (f 15).toNatClampNeg 3 := h113
      have h114_ : ∀ j, j ∉ [16, 60, 63, 64, 65, 66, 67, 69, 70, 71, 72, 73] → g'106 j = g j := h114
      have hR115_ : RJ (upd (upd (upd f 62 o103) 68 s104) 75 m105) g'106 gs bc [] 0 [] := hR115
      show am_E _ _ _ _ [some (.ref 39)] [] _ _
      refine am_e2 (v := 39) hi_209_4 rfl ?_
      refine am_e7 hi_209_5 ?_
      refine mm_20 (v := .int (f 15)) hS108 hi_209_6 rfl ?_
      refine am_e0 hi_209_9 ?_
      refine am_e10 (z := z1) hi_209_10 hz1 ?_
      refine mm_21 (v := z1) hS108 hi_209_11 rfl (Nat.le_of_ble_eq_true rfl) ms_15 ?_
      intro S116 hS117
      replace hS117 : MS S0 S116 (upd (upd (upd (upd f 15 z1) 62 o103) 68 s104) 75 m105) g'106 := hS117
      have hp118 : mj_n (g'106 16) (f 15).toNatClampNeg 3 = mj_n (g'106 16) z1.toNatClampNeg 3 + if (g'106 16 z1.toNatClampNeg).toInt = 3 then 1 else 0 := mj_pop (by rw [cl_toNat, cl_toNat]; omega)
      have hp1181 : mj_n (g'106 16) z1.toNatClampNeg 3 ≤ mj_n (g'106 16) (f 15).toNatClampNeg 3 := by rw [hp118]; split <;> omega
      have hp1182 : (g'106 16 z1.toNatClampNeg).toInt = 3 → mj_n (g'106 16) z1.toNatClampNeg 3 + 1 ≤ mj_n (g'106 16) (f 15).toNatClampNeg 3 := fun q => by rw [hp118, if_pos q]; exact Int.le_refl _
      refine am_e35 hi_209_14 ?_
      show am_E _ _ _ _ [some (.ref 39), some (.int z0), some (.int (f 19))] [] _ _
      refine am_e2 (v := 39) hi_258_35 rfl ?_
      refine am_e1 (v := z0) hi_258_36 rfl ?_
      refine am_e1 (v := f 19) hi_258_37 rfl ?_
      obtain ⟨z119, hz119, tz119⟩ := am_subI (x := z0) (y := f 19) (m := z0.toInt) (n := (f 19).toInt) rfl rfl (by omega) (by omega)
      refine am_e10 (z := z119) hi_258_38 hz119 ?_
      refine am_e32n (as := [.ref 39, .int z119]) (la := [some (.ref 39), some (.int z119), none]) (rest := []) hi_258_39 (am_hd0 (M := 258) (by decide) 39) (Nat.le_of_ble_eq_true rfl) (Nat.le_of_ble_eq_true rfl) (show 2 ≤ am_P0.2.2.1 240 from by decide +kernel) rfl (am_recv_ok hS117.fs) rfl rfl (ct_nils (d := (d + 5)) hS117 hR115_  (by show (0 : Int) ≤ (f 32).toInt; omega) (by show (f 32).toInt ≤ (63 : Int); omega) (by show (f 53).toInt ≤ (4096 : Int); omega) (by show (0 : Int) ≤ s104.toInt; omega) (by show s104.toInt ≤ (65534 : Int); omega) (by show s104.toInt + z119.toInt ≤ 65534; omega)) ?_
      rintro v120 S121 (⟨s122, g'123, hv124, hS125, hR129, h126, h127, h128⟩)
      subst hv124
      have h126_ : s104.toInt ≤ s122.toInt := h126
      have h127_ : s122.toInt ≤ s104.toInt + z119.toInt ∨ s122.toInt ≤ s104.toInt := h127
      have h128_ : ∀ j, j ∉ [60, 69, 70, 71, 72, 73] → g'123 j = g'106 j := h128
      replace hS125 : MS S0 S121 (upd (upd (upd (upd f 15 z1) 62 o103) 68 s122) 75 m105) g'123 := hS125
      have hR129_ : RJ (upd (upd (upd (upd f 15 z1) 62 o103) 68 s122) 75 m105) g'123 gs bc [] 0 [] := hR129
      show am_E _ _ _ _ [some (.ref 39), some (.int z0), some (.int (f 19))] [] _ _
      refine am_e1 (v := f 19) hi_258_42 rfl ?_
      refine am_e1 (v := z0) hi_258_43 rfl ?_
      by_cases c130 : (f 19).toInt ≤ z0.toInt
      · refine am_e13t hi_258_44 (am_cT (m := (f 19).toInt) (n := z0.toInt) rfl rfl c130) ?_
        refine am_e35 hi_258_59 ?_
        show am_E _ _ _ _ [some (.ref 39), some (.int 18), some (.int on), some (.int tw), some (.int th)] [] _ _
        refine am_e2 (v := 39) hi_180_332 rfl ?_
        refine am_e1 (v := on) hi_180_333 rfl ?_
        refine am_e1 (v := tw) hi_180_334 rfl ?_
        refine am_e32n (as := [.ref 39, .int on, .int tw]) (la := [some (.ref 39), some (.int on), some (.int tw), none, none, none]) (rest := []) hi_180_335 (am_hd0 (M := 180) (by decide) 335) (Nat.le_of_ble_eq_true rfl) (Nat.le_of_ble_eq_true rfl) (show 3 ≤ am_P0.2.2.1 241 from by decide +kernel) rfl (am_recv_ok hS125.fs) rfl rfl (ct_localEnd (d := (d + 5)) hS125 hR129_ (by intro i h1 h2; show 0 ≤ (g'123 23 i).toInt ∧ (g'123 23 i).toInt < 16384; rw [show g'123 23 = g'106 23 from h128_ 23 (by decide), show g'106 23 = g 23 from h114_ 23 (by decide)]; exact hw i (by omega) (by have h3 : (i : Int) < (f 20).toInt := h2; omega)) (by show (0 : Int) ≤ (f 32).toInt; omega) (by show (f 32).toInt ≤ (63 : Int); omega) (by show (f 53).toInt ≤ (4096 : Int); omega) (by show (0 : Int) ≤ (f 24).toInt; omega) (by show (f 24).toInt + (f 20).toInt ≤ 16000; omega) (by show (0 : Int) ≤ tw.toInt; omega) (by show tw.toInt ≤ (f 20).toInt; omega) (by show (0 : Int) ≤ s122.toInt; omega) (by show s122.toInt + (f 20).toInt ≤ 65530; omega)) ?_
        rintro v131 S132 (⟨a133, b134, q135, l136, y137, s138, g'139, hv140, hS141, hR147, h142, h143, h144, h145, h146⟩)
        subst hv140
        have h142_ : q135.toInt = tw.toInt := h142
        have h143_ : l136.toInt = (f 24).toInt + (f 20).toInt - tw.toInt := h143
        have h144_ : s122.toInt ≤ s138.toInt := h144
        have h145_ : s138.toInt + tw.toInt ≤ s122.toInt + (f 20).toInt + 1 := h145
        have h146_ : ∀ j, j ∉ [25, 26, 27, 28, 29, 30, 58, 60, 69, 70, 71, 72, 73] → g'139 j = g'123 j := h146
        replace hS141 : MS S0 S132 (upd (upd (upd (upd (upd (upd (upd (upd (upd f 8 a133) 9 b134) 15 z1) 20 q135) 24 l136) 31 y137) 62 o103) 68 s138) 75 m105) g'139 := hS141
        have hR147_ : RJ (upd (upd (upd (upd (upd (upd (upd (upd (upd f 8 a133) 9 b134) 15 z1) 20 q135) 24 l136) 31 y137) 62 o103) 68 s138) 75 m105) g'139 gs bc [] 0 [] := hR147
        show am_E _ _ _ _ [some (.ref 39), some (.int 18), some (.int on), some (.int tw), some (.int th)] [] _ _
        refine am_e18 hi_180_338 ?_
        refine am_e35 hi_180_371 ?_
        have q1 : mg_p1 gs = mg_p1 gs := rfl
        have q2 : mg_p2 gs = mg_p2 gs := rfl
        have q3 : mg_p3 gs = mg_p3 gs := rfl
        have q4 : mg_p4 gs = mg_p4 gs := rfl
        refine ⟨_, _, _, bc, rfl, hS141, Or.inl ⟨⟨hR147_, ?_, ?_⟩, rfl, ?_⟩⟩
        · exact (mg_cast (mg_good_ext _ _ _ _ _ _ (fun i _ => by show g'139 34 i = g 34 i; rw [show g'139 34 = g'123 34 from h146_ 34 (by decide), show g'123 34 = g'106 34 from h128_ 34 (by decide), show g'106 34 = g 34 from h114_ 34 (by decide)]) (fun i _ => by show g'139 38 i = g 38 i; rw [show g'139 38 = g'123 38 from h146_ 38 (by decide), show g'123 38 = g'106 38 from h128_ 38 (by decide), show g'106 38 = g 38 from h114_ 38 (by decide)]) (fun i _ => by show g'139 23 i = g 23 i; rw [show g'139 23 = g'123 23 from h146_ 23 (by decide), show g'123 23 = g'106 23 from h128_ 23 (by decide), show g'106 23 = g 23 from h114_ 23 (by decide)]) hrest) (by show (f 15).toInt + -1 = z1.toInt; omega) (by show tw.toInt = q135.toInt; omega) (by show (f 37).toInt + 0 = (f 37).toInt; omega) (by show (f 32).toInt + 0 = (f 32).toInt; omega) (by show (f 5).toInt + 0 = (f 5).toInt; omega) : mg_good (g'139 34) (g'139 38) (g'139 23) gs (z1.toInt) (q135.toInt) ((f 37).toInt) ((f 32).toInt) ((f 5).toInt))
        · exact ⟨(by show 0 ≤ (f 4).toInt; omega), (by show (f 4).toInt ≤ (f 0).toInt; omega), (by show (f 0).toInt ≤ 512; omega), (by show 0 ≤ l136.toInt; omega), (by show l136.toInt + q135.toInt + mg_p1 gs ≤ 4 * (f 4).toInt; omega), (by show q135.toInt ≤ (f 4).toInt; omega), (by show z1.toInt + mg_p2 gs ≤ (f 4).toInt; omega), (by show mg_p3 gs ≤ 20 * (f 4).toInt + 20; omega), (by show 0 ≤ s138.toInt; omega), (by show s138.toInt + 3 * q135.toInt + mg_p4 gs ≤ 60 * (f 4).toInt + 60; omega), (by show 0 ≤ o103.toInt; omega), (by show o103.toInt + 64 * mj_n (g'139 16) z1.toNatClampNeg 3 ≤ 64 * (f 4).toInt; rw [show g'139 16 = g'123 16 from h146_ 16 (by decide), show g'123 16 = g'106 16 from h128_ 16 (by decide)]; omega), (by show 0 ≤ (f 44).toInt; omega), (by show (f 44).toInt ≤ (f 4).toInt; omega), (by show 0 ≤ (f 48).toInt; omega), (by show (f 48).toInt ≤ (f 4).toInt; omega), (by show 1 ≤ (f 53).toInt; omega), (by show (f 53).toInt ≤ (f 4).toInt + 1; omega), (by show 0 ≤ (f 19).toInt; omega), (by show (f 19).toInt ≤ 600; omega)⟩
        · show 100 * ((f 0).toInt - (f 4).toInt) + mg_p3 gs < 100 * ((f 0).toInt - (f 4).toInt) + (1 + mg_p3 gs); omega
      · refine am_e13f hi_258_44 (am_cF (m := (f 19).toInt) (n := z0.toInt) rfl rfl c130) ?_
        refine am_e2 (v := 39) hi_258_47 rfl ?_
        refine am_e0 hi_258_48 ?_
        refine am_e1 (v := f 19) hi_258_50 rfl ?_
        refine am_e1 (v := z0) hi_258_51 rfl ?_
        obtain ⟨z148, hz148, tz148⟩ := am_subI (x := f 19) (y := z0) (m := (f 19).toInt) (n := z0.toInt) rfl rfl (by omega) (by omega)
        refine am_e10 (z := z148) hi_258_52 hz148 ?_
        refine am_e0 hi_258_53 ?_
        refine am_e0 hi_258_54 ?_
        refine am_e32n (as := [.ref 39, .int 26, .int z148, .int 0, .int 0]) (la := [some (.ref 39), some (.int 26), some (.int z148), some (.int 0), some (.int 0)]) (rest := []) hi_258_55 (am_hd0 (M := 258) (by decide) 55) (Nat.le_of_ble_eq_true rfl) (Nat.le_of_ble_eq_true rfl) (show 5 ≤ am_P0.2.2.1 189 from by decide +kernel) rfl (am_recv_ok hS125.fs) rfl rfl (ct_put (d := (d + 6)) hS125 hR129_  (by show (0 : Int) ≤ (f 32).toInt; omega) (by show (f 32).toInt ≤ (63 : Int); omega) (by show (f 53).toInt ≤ (4096 : Int); omega) (by show (0 : Int) ≤ s122.toInt; omega) (by show s122.toInt ≤ (65534 : Int); omega)) ?_
        rintro v149 S150 (⟨z151, r152, g'153, hv154, hS155, hR159, h156, h157, h158⟩)
        subst hv154
        have h156_ : z151.toInt = s122.toInt + 1 := h156
        have h157_ : r152.toInt = s122.toInt := h157
        have h158_ : ∀ j, j ∉ [60, 69, 70, 71, 72, 73] → g'153 j = g'123 j := h158
        replace hS155 : MS S0 S150 (upd (upd (upd (upd f 15 z1) 62 o103) 68 z151) 75 m105) g'153 := hS155
        have hR159_ : RJ (upd (upd (upd (upd f 15 z1) 62 o103) 68 z151) 75 m105) g'153 gs bc [] 0 (s122.toNatClampNeg :: []) := hR159
        show am_E _ _ _ _ [some (.ref 39), some (.int z0), some (.int (f 19))] [.int r152] _ _
        refine am_e6i hi_258_58 ?_
        refine am_e35 hi_258_59 ?_
        show am_E _ _ _ _ [some (.ref 39), some (.int 18), some (.int on), some (.int tw), some (.int th)] [] _ _
        refine am_e2 (v := 39) hi_180_332 rfl ?_
        refine am_e1 (v := on) hi_180_333 rfl ?_
        refine am_e1 (v := tw) hi_180_334 rfl ?_
        refine am_e32n (as := [.ref 39, .int on, .int tw]) (la := [some (.ref 39), some (.int on), some (.int tw), none, none, none]) (rest := []) hi_180_335 (am_hd0 (M := 180) (by decide) 335) (Nat.le_of_ble_eq_true rfl) (Nat.le_of_ble_eq_true rfl) (show 3 ≤ am_P0.2.2.1 241 from by decide +kernel) rfl (am_recv_ok hS155.fs) rfl rfl (ct_localEnd (d := (d + 5)) hS155 hR159_ (by intro i h1 h2; show 0 ≤ (g'153 23 i).toInt ∧ (g'153 23 i).toInt < 16384; rw [show g'153 23 = g'123 23 from h158_ 23 (by decide), show g'123 23 = g'106 23 from h128_ 23 (by decide), show g'106 23 = g 23 from h114_ 23 (by decide)]; exact hw i (by omega) (by have h3 : (i : Int) < (f 20).toInt := h2; omega)) (by show (0 : Int) ≤ (f 32).toInt; omega) (by show (f 32).toInt ≤ (63 : Int); omega) (by show (f 53).toInt ≤ (4096 : Int); omega) (by show (0 : Int) ≤ (f 24).toInt; omega) (by show (f 24).toInt + (f 20).toInt ≤ 16000; omega) (by show (0 : Int) ≤ tw.toInt; omega) (by show tw.toInt ≤ (f 20).toInt; omega) (by show (0 : Int) ≤ z151.toInt; omega) (by show z151.toInt + (f 20).toInt ≤ 65530; omega)) ?_
        rintro v160 S161 (⟨a162, b163, q164, l165, y166, s167, g'168, hv169, hS170, hR176, h171, h172, h173, h174, h175⟩)
        subst hv169
        have h171_ : q164.toInt = tw.toInt := h171
        have h172_ : l165.toInt = (f 24).toInt + (f 20).toInt - tw.toInt := h172
        have h173_ : z151.toInt ≤ s167.toInt := h173
        have h174_ : s167.toInt + tw.toInt ≤ z151.toInt + (f 20).toInt + 1 := h174
        have h175_ : ∀ j, j ∉ [25, 26, 27, 28, 29, 30, 58, 60, 69, 70, 71, 72, 73] → g'168 j = g'153 j := h175
        replace hS170 : MS S0 S161 (upd (upd (upd (upd (upd (upd (upd (upd (upd f 8 a162) 9 b163) 15 z1) 20 q164) 24 l165) 31 y166) 62 o103) 68 s167) 75 m105) g'168 := hS170
        have hR176_ : RJ (upd (upd (upd (upd (upd (upd (upd (upd (upd f 8 a162) 9 b163) 15 z1) 20 q164) 24 l165) 31 y166) 62 o103) 68 s167) 75 m105) g'168 gs bc [] 0 (s122.toNatClampNeg :: []) := hR176
        show am_E _ _ _ _ [some (.ref 39), some (.int 18), some (.int on), some (.int tw), some (.int th)] [] _ _
        refine am_e18 hi_180_338 ?_
        refine am_e35 hi_180_371 ?_
        have q1 : mg_p1 gs = mg_p1 gs := rfl
        have q2 : mg_p2 gs = mg_p2 gs := rfl
        have q3 : mg_p3 gs = mg_p3 gs := rfl
        have q4 : mg_p4 gs = mg_p4 gs := rfl
        refine ⟨_, _, _, bc, rfl, hS170, Or.inl ⟨⟨(RJ.fewer (pj' := []) hR176_ (fun _ h => nomatch h)), ?_, ?_⟩, rfl, ?_⟩⟩
        · exact (mg_cast (mg_good_ext _ _ _ _ _ _ (fun i _ => by show g'168 34 i = g 34 i; rw [show g'168 34 = g'153 34 from h175_ 34 (by decide), show g'153 34 = g'123 34 from h158_ 34 (by decide), show g'123 34 = g'106 34 from h128_ 34 (by decide), show g'106 34 = g 34 from h114_ 34 (by decide)]) (fun i _ => by show g'168 38 i = g 38 i; rw [show g'168 38 = g'153 38 from h175_ 38 (by decide), show g'153 38 = g'123 38 from h158_ 38 (by decide), show g'123 38 = g'106 38 from h128_ 38 (by decide), show g'106 38 = g 38 from h114_ 38 (by decide)]) (fun i _ => by show g'168 23 i = g 23 i; rw [show g'168 23 = g'153 23 from h175_ 23 (by decide), show g'153 23 = g'123 23 from h158_ 23 (by decide), show g'123 23 = g'106 23 from h128_ 23 (by decide), show g'106 23 = g 23 from h114_ 23 (by decide)]) hrest) (by show (f 15).toInt + -1 = z1.toInt; omega) (by show tw.toInt = q164.toInt; omega) (by show (f 37).toInt + 0 = (f 37).toInt; omega) (by show (f 32).toInt + 0 = (f 32).toInt; omega) (by show (f 5).toInt + 0 = (f 5).toInt; omega) : mg_good (g'168 34) (g'168 38) (g'168 23) gs (z1.toInt) (q164.toInt) ((f 37).toInt) ((f 32).toInt) ((f 5).toInt))
        · exact ⟨(by show 0 ≤ (f 4).toInt; omega), (by show (f 4).toInt ≤ (f 0).toInt; omega), (by show (f 0).toInt ≤ 512; omega), (by show 0 ≤ l165.toInt; omega), (by show l165.toInt + q164.toInt + mg_p1 gs ≤ 4 * (f 4).toInt; omega), (by show q164.toInt ≤ (f 4).toInt; omega), (by show z1.toInt + mg_p2 gs ≤ (f 4).toInt; omega), (by show mg_p3 gs ≤ 20 * (f 4).toInt + 20; omega), (by show 0 ≤ s167.toInt; omega), (by show s167.toInt + 3 * q164.toInt + mg_p4 gs ≤ 60 * (f 4).toInt + 60; omega), (by show 0 ≤ o103.toInt; omega), (by show o103.toInt + 64 * mj_n (g'168 16) z1.toNatClampNeg 3 ≤ 64 * (f 4).toInt; rw [show g'168 16 = g'153 16 from h175_ 16 (by decide), show g'153 16 = g'123 16 from h158_ 16 (by decide), show g'123 16 = g'106 16 from h128_ 16 (by decide)]; omega), (by show 0 ≤ (f 44).toInt; omega), (by show (f 44).toInt ≤ (f 4).toInt; omega), (by show 0 ≤ (f 48).toInt; omega), (by show (f 48).toInt ≤ (f 4).toInt; omega), (by show 1 ≤ (f 53).toInt; omega), (by show (f 53).toInt ≤ (f 4).toInt + 1; omega), (by show 0 ≤ (f 19).toInt; omega), (by show (f 19).toInt ≤ 600; omega)⟩
        · show 100 * ((f 0).toInt - (f 4).toInt) + mg_p3 gs < 100 * ((f 0).toInt - (f 4).toInt) + (1 + mg_p3 gs); omega
    · refine am_e13f hi_216_27 (am_cF (m := (g 16 z1.toNatClampNeg).toInt) (n := (2 : Int)) rfl (by decide) c100) ?_
      refine am_e0 hi_216_30 ?_
      refine am_e18 hi_216_31 ?_
      refine am_e36 hi_216_35 (by decide) ?_
      show am_E _ _ _ _ [some (.ref 39), some (.int z0), some (.int (f 19))] [.int 1] _ _
      refine am_e12f hi_258_4 (by decide) ?_
      refine am_e1 (v := f 19) hi_258_7 rfl ?_
      refine am_e1 (v := z0) hi_258_8 rfl ?_
      by_cases c177 : z0.toInt < (f 19).toInt
      · refine am_e13t hi_258_9 (am_cT (m := (f 19).toInt) (n := z0.toInt) rfl rfl c177) ?_
        refine am_e2 (v := 39) hi_258_31 rfl ?_
        refine am_e32w (as := [.ref 39]) (la := [some (.ref 39)]) (rest := []) hi_258_32 (am_hd0 (M := 258) (by decide) 32) (Nat.le_of_ble_eq_true rfl) (Nat.le_of_ble_eq_true rfl) (show 1 ≤ am_P0.2.2.1 209 from by decide +kernel) rfl (am_recv_ok hS.fs) rfl rfl ?_
        refine am_e2 (v := 39) hi_209_0 rfl ?_
        refine am_e32n (as := [.ref 39]) (la := [some (.ref 39), none, none, none]) (rest := []) hi_209_1 (am_hd0 (M := 209) (by decide) 1) (Nat.le_of_ble_eq_true rfl) (Nat.le_of_ble_eq_true rfl) (show 1 ≤ am_P0.2.2.1 204 from by decide +kernel) rfl (am_recv_ok hS.fs) rfl rfl (ct_load (d := (d + 3)) hS hR  (by show (0 : Int) ≤ (f 32).toInt; omega) (by show (f 32).toInt ≤ (63 : Int); omega) (by show (f 53).toInt ≤ (4096 : Int); omega) (by show (0 : Int) ≤ (f 68).toInt; omega) (by show (f 68).toInt ≤ (65534 : Int); omega) (by show (1 : Int) ≤ (f 15).toInt; omega) (by show (f 15).toInt ≤ (32767 : Int); omega) (by show (0 : Int) ≤ (f 24).toInt; omega) (by show (f 24).toInt ≤ (16384 : Int); omega) (by show (0 : Int) ≤ (f 62).toInt; omega) (by show (f 62).toInt ≤ (65000 : Int); omega)) ?_
        rintro v178 S179 (⟨o180, s181, m182, g'183, hv184, hS185, hR192, h186, h187, h188, h189, h190, h191⟩)
        subst hv184
        have h186_ : (f 62).toInt ≤ o180.toInt := h186
        have h187_ : o180.toInt ≤ (f 62).toInt + 64 := h187
        have h188_ : (f 68).toInt ≤ s181.toInt := h188
        have h189_ : s181.toInt ≤ (f 68).toInt + 1 := h189
        have h190_ : o180.toInt + 64 * mj_n (g'183 16) (f 15).toNatClampNeg 3 ≤ (f 62).toInt + 64 * mj_n (g 16) (f 15).toNatClampNeg 3 := h190
        have h191_ : ∀ j, j ∉ [16, 60, 63, 64, 65, 66, 67, 69, 70, 71, 72, 73] → g'183 j = g j := h191
        have hR192_ : RJ (upd (upd (upd f 62 o180) 68 s181) 75 m182) g'183 gs bc [] 0 [] := hR192
        show am_E _ _ _ _ [some (.ref 39)] [] _ _
        refine am_e2 (v := 39) hi_209_4 rfl ?_
        refine am_e7 hi_209_5 ?_
        refine mm_20 (v := .int (f 15)) hS185 hi_209_6 rfl ?_
        refine am_e0 hi_209_9 ?_
        refine am_e10 (z := z1) hi_209_10 hz1 ?_
        refine mm_21 (v := z1) hS185 hi_209_11 rfl (Nat.le_of_ble_eq_true rfl) ms_15 ?_
        intro S193 hS194
        replace hS194 : MS S0 S193 (upd (upd (upd (upd f 15 z1) 62 o180) 68 s181) 75 m182) g'183 := hS194
        have hp195 : mj_n (g'183 16) (f 15).toNatClampNeg 3 = mj_n (g'183 16) z1.toNatClampNeg 3 + if (g'183 16 z1.toNatClampNeg).toInt = 3 then 1 else 0 := mj_pop (by rw [cl_toNat, cl_toNat]; omega)
        have hp1951 : mj_n (g'183 16) z1.toNatClampNeg 3 ≤ mj_n (g'183 16) (f 15).toNatClampNeg 3 := by rw [hp195]; split <;> omega
        have hp1952 : (g'183 16 z1.toNatClampNeg).toInt = 3 → mj_n (g'183 16) z1.toNatClampNeg 3 + 1 ≤ mj_n (g'183 16) (f 15).toNatClampNeg 3 := fun q => by rw [hp195, if_pos q]; exact Int.le_refl _
        refine am_e35 hi_209_14 ?_
        show am_E _ _ _ _ [some (.ref 39), some (.int z0), some (.int (f 19))] [] _ _
        refine am_e2 (v := 39) hi_258_35 rfl ?_
        refine am_e1 (v := z0) hi_258_36 rfl ?_
        refine am_e1 (v := f 19) hi_258_37 rfl ?_
        obtain ⟨z196, hz196, tz196⟩ := am_subI (x := z0) (y := f 19) (m := z0.toInt) (n := (f 19).toInt) rfl rfl (by omega) (by omega)
        refine am_e10 (z := z196) hi_258_38 hz196 ?_
        refine am_e32n (as := [.ref 39, .int z196]) (la := [some (.ref 39), some (.int z196), none]) (rest := []) hi_258_39 (am_hd0 (M := 258) (by decide) 39) (Nat.le_of_ble_eq_true rfl) (Nat.le_of_ble_eq_true rfl) (show 2 ≤ am_P0.2.2.1 240 from by decide +kernel) rfl (am_recv_ok hS194.fs) rfl rfl (ct_nils (d := (d + 5)) hS194 hR192_  (by show (0 : Int) ≤ (f 32).toInt; omega) (by show (f 32).toInt ≤ (63 : Int); omega) (by show (f 53).toInt ≤ (4096 : Int); omega) (by show (0 : Int) ≤ s181.toInt; omega) (by show s181.toInt ≤ (65534 : Int); omega) (by show s181.toInt + z196.toInt ≤ 65534; omega)) ?_
        rintro v197 S198 (⟨s199, g'200, hv201, hS202, hR206, h203, h204, h205⟩)
        subst hv201
        have h203_ : s181.toInt ≤ s199.toInt := h203
        have h204_ : s199.toInt ≤ s181.toInt + z196.toInt ∨ s199.toInt ≤ s181.toInt := h204
        have h205_ : ∀ j, j ∉ [60, 69, 70, 71, 72, 73] → g'200 j = g'183 j := h205
        replace hS202 : MS S0 S198 (upd (upd (upd (upd f 15 z1) 62 o180) 68 s199) 75 m182) g'200 := hS202
        have hR206_ : RJ (upd (upd (upd (upd f 15 z1) 62 o180) 68 s199) 75 m182) g'200 gs bc [] 0 [] := hR206
        show am_E _ _ _ _ [some (.ref 39), some (.int z0), some (.int (f 19))] [] _ _
        refine am_e1 (v := f 19) hi_258_42 rfl ?_
        refine am_e1 (v := z0) hi_258_43 rfl ?_
        refine am_e13f hi_258_44 (am_cF (m := (f 19).toInt) (n := z0.toInt) rfl rfl (by simp only [am_cI]; omega)) ?_
        refine am_e2 (v := 39) hi_258_47 rfl ?_
        refine am_e0 hi_258_48 ?_
        refine am_e1 (v := f 19) hi_258_50 rfl ?_
        refine am_e1 (v := z0) hi_258_51 rfl ?_
        obtain ⟨z207, hz207, tz207⟩ := am_subI (x := f 19) (y := z0) (m := (f 19).toInt) (n := z0.toInt) rfl rfl (by omega) (by omega)
        refine am_e10 (z := z207) hi_258_52 hz207 ?_
        refine am_e0 hi_258_53 ?_
        refine am_e0 hi_258_54 ?_
        refine am_e32n (as := [.ref 39, .int 26, .int z207, .int 0, .int 0]) (la := [some (.ref 39), some (.int 26), some (.int z207), some (.int 0), some (.int 0)]) (rest := []) hi_258_55 (am_hd0 (M := 258) (by decide) 55) (Nat.le_of_ble_eq_true rfl) (Nat.le_of_ble_eq_true rfl) (show 5 ≤ am_P0.2.2.1 189 from by decide +kernel) rfl (am_recv_ok hS202.fs) rfl rfl (ct_put (d := (d + 6)) hS202 hR206_  (by show (0 : Int) ≤ (f 32).toInt; omega) (by show (f 32).toInt ≤ (63 : Int); omega) (by show (f 53).toInt ≤ (4096 : Int); omega) (by show (0 : Int) ≤ s199.toInt; omega) (by show s199.toInt ≤ (65534 : Int); omega)) ?_
        rintro v208 S209 (⟨z210, r211, g'212, hv213, hS214, hR218, h215, h216, h217⟩)
        subst hv213
        have h215_ : z210.toInt = s199.toInt + 1 := h215
        have h216_ : r211.toInt = s199.toInt := h216
        have h217_ : ∀ j, j ∉ [60, 69, 70, 71, 72, 73] → g'212 j = g'200 j := h217
        replace hS214 : MS S0 S209 (upd (upd (upd (upd f 15 z1) 62 o180) 68 z210) 75 m182) g'212 := hS214
        have hR218_ : RJ (upd (upd (upd (upd f 15 z1) 62 o180) 68 z210) 75 m182) g'212 gs bc [] 0 (s199.toNatClampNeg :: []) := hR218
        show am_E _ _ _ _ [some (.ref 39), some (.int z0), some (.int (f 19))] [.int r211] _ _
        refine am_e6i hi_258_58 ?_
        refine am_e35 hi_258_59 ?_
        show am_E _ _ _ _ [some (.ref 39), some (.int 18), some (.int on), some (.int tw), some (.int th)] [] _ _
        refine am_e2 (v := 39) hi_180_332 rfl ?_
        refine am_e1 (v := on) hi_180_333 rfl ?_
        refine am_e1 (v := tw) hi_180_334 rfl ?_
        refine am_e32n (as := [.ref 39, .int on, .int tw]) (la := [some (.ref 39), some (.int on), some (.int tw), none, none, none]) (rest := []) hi_180_335 (am_hd0 (M := 180) (by decide) 335) (Nat.le_of_ble_eq_true rfl) (Nat.le_of_ble_eq_true rfl) (show 3 ≤ am_P0.2.2.1 241 from by decide +kernel) rfl (am_recv_ok hS214.fs) rfl rfl (ct_localEnd (d := (d + 5)) hS214 hR218_ (by intro i h1 h2; show 0 ≤ (g'212 23 i).toInt ∧ (g'212 23 i).toInt < 16384; rw [show g'212 23 = g'200 23 from h217_ 23 (by decide), show g'200 23 = g'183 23 from h205_ 23 (by decide), show g'183 23 = g 23 from h191_ 23 (by decide)]; exact hw i (by omega) (by have h3 : (i : Int) < (f 20).toInt := h2; omega)) (by show (0 : Int) ≤ (f 32).toInt; omega) (by show (f 32).toInt ≤ (63 : Int); omega) (by show (f 53).toInt ≤ (4096 : Int); omega) (by show (0 : Int) ≤ (f 24).toInt; omega) (by show (f 24).toInt + (f 20).toInt ≤ 16000; omega) (by show (0 : Int) ≤ tw.toInt; omega) (by show tw.toInt ≤ (f 20).toInt; omega) (by show (0 : Int) ≤ z210.toInt; omega) (by show z210.toInt + (f 20).toInt ≤ 65530; omega)) ?_
        rintro v219 S220 (⟨a221, b222, q223, l224, y225, s226, g'227, hv228, hS229, hR235, h230, h231, h232, h233, h234⟩)
        subst hv228
        have h230_ : q223.toInt = tw.toInt := h230
        have h231_ : l224.toInt = (f 24).toInt + (f 20).toInt - tw.toInt := h231
        have h232_ : z210.toInt ≤ s226.toInt := h232
        have h233_ : s226.toInt + tw.toInt ≤ z210.toInt + (f 20).toInt + 1 := h233
        have h234_ : ∀ j, j ∉ [25, 26, 27, 28, 29, 30, 58, 60, 69, 70, 71, 72, 73] → g'227 j = g'212 j := h234
        replace hS229 : MS S0 S220 (upd (upd (upd (upd (upd (upd (upd (upd (upd f 8 a221) 9 b222) 15 z1) 20 q223) 24 l224) 31 y225) 62 o180) 68 s226) 75 m182) g'227 := hS229
        have hR235_ : RJ (upd (upd (upd (upd (upd (upd (upd (upd (upd f 8 a221) 9 b222) 15 z1) 20 q223) 24 l224) 31 y225) 62 o180) 68 s226) 75 m182) g'227 gs bc [] 0 (s199.toNatClampNeg :: []) := hR235
        show am_E _ _ _ _ [some (.ref 39), some (.int 18), some (.int on), some (.int tw), some (.int th)] [] _ _
        refine am_e18 hi_180_338 ?_
        refine am_e35 hi_180_371 ?_
        have q1 : mg_p1 gs = mg_p1 gs := rfl
        have q2 : mg_p2 gs = mg_p2 gs := rfl
        have q3 : mg_p3 gs = mg_p3 gs := rfl
        have q4 : mg_p4 gs = mg_p4 gs := rfl
        refine ⟨_, _, _, bc, rfl, hS229, Or.inl ⟨⟨(RJ.fewer (pj' := []) hR235_ (fun _ h => nomatch h)), ?_, ?_⟩, rfl, ?_⟩⟩
        · exact (mg_cast (mg_good_ext _ _ _ _ _ _ (fun i _ => by show g'227 34 i = g 34 i; rw [show g'227 34 = g'212 34 from h234_ 34 (by decide), show g'212 34 = g'200 34 from h217_ 34 (by decide), show g'200 34 = g'183 34 from h205_ 34 (by decide), show g'183 34 = g 34 from h191_ 34 (by decide)]) (fun i _ => by show g'227 38 i = g 38 i; rw [show g'227 38 = g'212 38 from h234_ 38 (by decide), show g'212 38 = g'200 38 from h217_ 38 (by decide), show g'200 38 = g'183 38 from h205_ 38 (by decide), show g'183 38 = g 38 from h191_ 38 (by decide)]) (fun i _ => by show g'227 23 i = g 23 i; rw [show g'227 23 = g'212 23 from h234_ 23 (by decide), show g'212 23 = g'200 23 from h217_ 23 (by decide), show g'200 23 = g'183 23 from h205_ 23 (by decide), show g'183 23 = g 23 from h191_ 23 (by decide)]) hrest) (by show (f 15).toInt + -1 = z1.toInt; omega) (by show tw.toInt = q223.toInt; omega) (by show (f 37).toInt + 0 = (f 37).toInt; omega) (by show (f 32).toInt + 0 = (f 32).toInt; omega) (by show (f 5).toInt + 0 = (f 5).toInt; omega) : mg_good (g'227 34) (g'227 38) (g'227 23) gs (z1.toInt) (q223.toInt) ((f 37).toInt) ((f 32).toInt) ((f 5).toInt))
        · exact ⟨(by show 0 ≤ (f 4).toInt; omega), (by show (f 4).toInt ≤ (f 0).toInt; omega), (by show (f 0).toInt ≤ 512; omega), (by show 0 ≤ l224.toInt; omega), (by show l224.toInt + q223.toInt + mg_p1 gs ≤ 4 * (f 4).toInt; omega), (by show q223.toInt ≤ (f 4).toInt; omega), (by show z1.toInt + mg_p2 gs ≤ (f 4).toInt; omega), (by show mg_p3 gs ≤ 20 * (f 4).toInt + 20; omega), (by show 0 ≤ s226.toInt; omega), (by show s226.toInt + 3 * q223.toInt + mg_p4 gs ≤ 60 * (f 4).toInt + 60; omega), (by show 0 ≤ o180.toInt; omega), (by show o180.toInt + 64 * mj_n (g'227 16) z1.toNatClampNeg 3 ≤ 64 * (f 4).toInt; rw [show g'227 16 = g'212 16 from h234_ 16 (by decide), show g'212 16 = g'200 16 from h217_ 16 (by decide), show g'200 16 = g'183 16 from h205_ 16 (by decide)]; omega), (by show 0 ≤ (f 44).toInt; omega), (by show (f 44).toInt ≤ (f 4).toInt; omega), (by show 0 ≤ (f 48).toInt; omega), (by show (f 48).toInt ≤ (f 4).toInt; omega), (by show 1 ≤ (f 53).toInt; omega), (by show (f 53).toInt ≤ (f 4).toInt + 1; omega), (by show 0 ≤ (f 19).toInt; omega), (by show (f 19).toInt ≤ 600; omega)⟩
        · show 100 * ((f 0).toInt - (f 4).toInt) + mg_p3 gs < 100 * ((f 0).toInt - (f 4).toInt) + (1 + mg_p3 gs); omega
      · refine am_e13f hi_258_9 (am_cF (m := (f 19).toInt) (n := z0.toInt) rfl rfl c177) ?_
        refine am_e2 (v := 39) hi_258_12 rfl ?_
        refine am_e32w (as := [.ref 39]) (la := [some (.ref 39), none]) (rest := []) hi_258_13 (am_hd0 (M := 258) (by decide) 13) (Nat.le_of_ble_eq_true rfl) (Nat.le_of_ble_eq_true rfl) (show 1 ≤ am_P0.2.2.1 217 from by decide +kernel) rfl (am_recv_ok hS.fs) rfl rfl ?_
        refine am_e2 (v := 39) hi_217_0 rfl ?_
        refine mm_20 (v := .ref 47) hS hi_217_1 rfl ?_
        refine am_e2 (v := 39) hi_217_4 rfl ?_
        refine mm_20 (v := .int (f 15)) hS hi_217_5 rfl ?_
        refine am_e0 hi_217_8 ?_
        refine am_e10 (z := z1) hi_217_9 hz1 ?_
        refine mm_25 hS ma_17 hi_217_10 (by decide) (by omega) (by omega) ?_
        show am_E _ _ _ _ [some (.ref 39), none] [.int (g 17 z1.toNatClampNeg)] _ _
        have r236 : (g 16 z1.toNatClampNeg).toInt = 1 ∨ (g 16 z1.toNatClampNeg).toInt = 2 → 0 ≤ (g 17 z1.toNatClampNeg).toInt ∧ (g 17 z1.toNatClampNeg).toInt < 65536 := RJ.vc hR z1.toNatClampNeg
        refine am_e3 (ls' := [some (.ref 39), some (.int (g 17 z1.toNatClampNeg))]) hi_217_11 (Nat.le_of_ble_eq_true rfl) rfl ?_
        refine am_e2 (v := 39) hi_217_12 rfl ?_
        refine mm_20 (v := .ref 91) hS hi_217_13 rfl ?_
        refine am_e1 (v := g 17 z1.toNatClampNeg) hi_217_16 rfl ?_
        refine am_e2 (v := 39) hi_217_17 rfl ?_
        refine mm_20 (v := .ref 46) hS hi_217_18 rfl ?_
        refine am_e2 (v := 39) hi_217_21 rfl ?_
        refine mm_20 (v := .int (f 15)) hS hi_217_22 rfl ?_
        refine am_e0 hi_217_25 ?_
        refine am_e10 (z := z1) hi_217_26 hz1 ?_
        refine mm_25 hS ma_16 hi_217_27 (by decide) (by omega) (by omega) ?_
        show am_E _ _ _ _ [some (.ref 39), some (.int (g 17 z1.toNatClampNeg))] [.int (g 16 z1.toNatClampNeg), .int (g 17 z1.toNatClampNeg), .ref 91] _ _
        refine am_e0 hi_217_28 ?_
        refine am_e13t hi_217_29 (am_cT (m := (g 16 z1.toNatClampNeg).toInt) (n := (1 : Int)) rfl (by decide) (by simp only [am_cI]; omega)) ?_
        refine am_e0 hi_217_45 ?_
        refine mm_26 hS ma_72 hi_217_46 (by decide) (by omega) (by omega) (fun h => nomatch h) ?_
        intro S237 hS238
        refine am_e2 (v := 39) hi_217_47 rfl ?_
        refine am_e7 hi_217_48 ?_
        refine mm_20 (v := .int (f 15)) hS238 hi_217_49 rfl ?_
        refine am_e0 hi_217_52 ?_
        refine am_e10 (z := z1) hi_217_53 hz1 ?_
        refine mm_21 (v := z1) hS238 hi_217_54 rfl (Nat.le_of_ble_eq_true rfl) ms_15 ?_
        intro S239 hS240
        have hp241 : mj_n (g 16) (f 15).toNatClampNeg 3 = mj_n (g 16) z1.toNatClampNeg 3 + if (g 16 z1.toNatClampNeg).toInt = 3 then 1 else 0 := mj_pop (by rw [cl_toNat, cl_toNat]; omega)
        have hp2411 : mj_n (g 16) z1.toNatClampNeg 3 ≤ mj_n (g 16) (f 15).toNatClampNeg 3 := by rw [hp241]; split <;> omega
        have hp2412 : (g 16 z1.toNatClampNeg).toInt = 3 → mj_n (g 16) z1.toNatClampNeg 3 + 1 ≤ mj_n (g 16) (f 15).toNatClampNeg 3 := fun q => by rw [hp241, if_pos q]; exact Int.le_refl _
        refine am_e35 hi_217_57 ?_
        show am_E _ _ _ _ [some (.ref 39), some (.int z0), some (.int (f 19))] [] _ _
        refine am_e2 (v := 39) hi_258_16 rfl ?_
        refine am_e0 hi_258_17 ?_
        refine am_e1 (v := z0) hi_258_19 rfl ?_
        refine am_e1 (v := f 19) hi_258_20 rfl ?_
        obtain ⟨z242, hz242, tz242⟩ := am_subI (x := z0) (y := f 19) (m := z0.toInt) (n := (f 19).toInt) rfl rfl (by omega) (by omega)
        refine am_e10 (z := z242) hi_258_21 hz242 ?_
        refine am_e0 hi_258_22 ?_
        obtain ⟨z243, hz243, tz243⟩ := am_addI (x := z242) (y := 1) (m := z242.toInt) (n := (1 : Int)) rfl (by decide) (by omega) (by omega)
        refine am_e10 (z := z243) hi_258_23 hz243 ?_
        refine am_e0 hi_258_24 ?_
        refine am_e0 hi_258_25 ?_
        refine am_e32n (as := [.ref 39, .int 25, .int z243, .int 0, .int 0]) (la := [some (.ref 39), some (.int 25), some (.int z243), some (.int 0), some (.int 0)]) (rest := []) hi_258_26 (am_hd0 (M := 258) (by decide) 26) (Nat.le_of_ble_eq_true rfl) (Nat.le_of_ble_eq_true rfl) (show 5 ≤ am_P0.2.2.1 189 from by decide +kernel) rfl (am_recv_ok hS240.fs) rfl rfl (ct_put (d := (d + 6)) hS240 hR  (by show (0 : Int) ≤ (f 32).toInt; omega) (by show (f 32).toInt ≤ (63 : Int); omega) (by show (f 53).toInt ≤ (4096 : Int); omega) (by show (0 : Int) ≤ (f 68).toInt; omega) (by show (f 68).toInt ≤ (65534 : Int); omega)) ?_
        rintro v244 S245 (⟨z246, r247, g'248, hv249, hS250, hR254, h251, h252, h253⟩)
        subst hv249
        have h251_ : z246.toInt = (f 68).toInt + 1 := h251
        have h252_ : r247.toInt = (f 68).toInt := h252
        have h253_ : ∀ j, j ∉ [60, 69, 70, 71, 72, 73] → g'248 j = (upg g 72 (g 17 z1.toNatClampNeg).toNatClampNeg 0) j := h253
        have hR254_ : RJ (upd (upd f 15 z1) 68 z246) g'248 gs bc [] 0 ((f 68).toNatClampNeg :: []) := hR254
        show am_E _ _ _ _ [some (.ref 39), some (.int z0), some (.int (f 19))] [.int r247] _ _
        refine am_e6i hi_258_29 ?_
        refine am_e35 hi_258_30 ?_
        show am_E _ _ _ _ [some (.ref 39), some (.int 18), some (.int on), some (.int tw), some (.int th)] [] _ _
        refine am_e2 (v := 39) hi_180_332 rfl ?_
        refine am_e1 (v := on) hi_180_333 rfl ?_
        refine am_e1 (v := tw) hi_180_334 rfl ?_
        refine am_e32n (as := [.ref 39, .int on, .int tw]) (la := [some (.ref 39), some (.int on), some (.int tw), none, none, none]) (rest := []) hi_180_335 (am_hd0 (M := 180) (by decide) 335) (Nat.le_of_ble_eq_true rfl) (Nat.le_of_ble_eq_true rfl) (show 3 ≤ am_P0.2.2.1 241 from by decide +kernel) rfl (am_recv_ok hS250.fs) rfl rfl (ct_localEnd (d := (d + 5)) hS250 hR254_ (by intro i h1 h2; show 0 ≤ (g'248 23 i).toInt ∧ (g'248 23 i).toInt < 16384; rw [show g'248 23 = g 23 from h253_ 23 (by decide)]; exact hw i (by omega) (by have h3 : (i : Int) < (f 20).toInt := h2; omega)) (by show (0 : Int) ≤ (f 32).toInt; omega) (by show (f 32).toInt ≤ (63 : Int); omega) (by show (f 53).toInt ≤ (4096 : Int); omega) (by show (0 : Int) ≤ (f 24).toInt; omega) (by show (f 24).toInt + (f 20).toInt ≤ 16000; omega) (by show (0 : Int) ≤ tw.toInt; omega) (by show tw.toInt ≤ (f 20).toInt; omega) (by show (0 : Int) ≤ z246.toInt; omega) (by show z246.toInt + (f 20).toInt ≤ 65530; omega)) ?_
        rintro v255 S256 (⟨a257, b258, q259, l260, y261, s262, g'263, hv264, hS265, hR271, h266, h267, h268, h269, h270⟩)
        subst hv264
        have h266_ : q259.toInt = tw.toInt := h266
        have h267_ : l260.toInt = (f 24).toInt + (f 20).toInt - tw.toInt := h267
        have h268_ : z246.toInt ≤ s262.toInt := h268
        have h269_ : s262.toInt + tw.toInt ≤ z246.toInt + (f 20).toInt + 1 := h269
        have h270_ : ∀ j, j ∉ [25, 26, 27, 28, 29, 30, 58, 60, 69, 70, 71, 72, 73] → g'263 j = g'248 j := h270
        replace hS265 : MS S0 S256 (upd (upd (upd (upd (upd (upd (upd f 8 a257) 9 b258) 15 z1) 20 q259) 24 l260) 31 y261) 68 s262) g'263 := hS265
        have hR271_ : RJ (upd (upd (upd (upd (upd (upd (upd f 8 a257) 9 b258) 15 z1) 20 q259) 24 l260) 31 y261) 68 s262) g'263 gs bc [] 0 ((f 68).toNatClampNeg :: []) := hR271
        show am_E _ _ _ _ [some (.ref 39), some (.int 18), some (.int on), some (.int tw), some (.int th)] [] _ _
        refine am_e18 hi_180_338 ?_
        refine am_e35 hi_180_371 ?_
        have q1 : mg_p1 gs = mg_p1 gs := rfl
        have q2 : mg_p2 gs = mg_p2 gs := rfl
        have q3 : mg_p3 gs = mg_p3 gs := rfl
        have q4 : mg_p4 gs = mg_p4 gs := rfl
        refine ⟨_, _, _, bc, rfl, hS265, Or.inl ⟨⟨(RJ.fewer (pj' := []) hR271_ (fun _ h => nomatch h)), ?_, ?_⟩, rfl, ?_⟩⟩
        · exact (mg_cast (mg_good_ext _ _ _ _ _ _ (fun i _ => by show g'263 34 i = g 34 i; rw [show g'263 34 = g'248 34 from h270_ 34 (by decide), show g'248 34 = g 34 from h253_ 34 (by decide)]) (fun i _ => by show g'263 38 i = g 38 i; rw [show g'263 38 = g'248 38 from h270_ 38 (by decide), show g'248 38 = g 38 from h253_ 38 (by decide)]) (fun i _ => by show g'263 23 i = g 23 i; rw [show g'263 23 = g'248 23 from h270_ 23 (by decide), show g'248 23 = g 23 from h253_ 23 (by decide)]) hrest) (by show (f 15).toInt + -1 = z1.toInt; omega) (by show tw.toInt = q259.toInt; omega) (by show (f 37).toInt + 0 = (f 37).toInt; omega) (by show (f 32).toInt + 0 = (f 32).toInt; omega) (by show (f 5).toInt + 0 = (f 5).toInt; omega) : mg_good (g'263 34) (g'263 38) (g'263 23) gs (z1.toInt) (q259.toInt) ((f 37).toInt) ((f 32).toInt) ((f 5).toInt))
        · exact ⟨(by show 0 ≤ (f 4).toInt; omega), (by show (f 4).toInt ≤ (f 0).toInt; omega), (by show (f 0).toInt ≤ 512; omega), (by show 0 ≤ l260.toInt; omega), (by show l260.toInt + q259.toInt + mg_p1 gs ≤ 4 * (f 4).toInt; omega), (by show q259.toInt ≤ (f 4).toInt; omega), (by show z1.toInt + mg_p2 gs ≤ (f 4).toInt; omega), (by show mg_p3 gs ≤ 20 * (f 4).toInt + 20; omega), (by show 0 ≤ s262.toInt; omega), (by show s262.toInt + 3 * q259.toInt + mg_p4 gs ≤ 60 * (f 4).toInt + 60; omega), (by show 0 ≤ (f 62).toInt; omega), (by show (f 62).toInt + 64 * mj_n (g'263 16) z1.toNatClampNeg 3 ≤ 64 * (f 4).toInt; rw [show g'263 16 = g'248 16 from h270_ 16 (by decide), show g'248 16 = g 16 from h253_ 16 (by decide)]; omega), (by show 0 ≤ (f 44).toInt; omega), (by show (f 44).toInt ≤ (f 4).toInt; omega), (by show 0 ≤ (f 48).toInt; omega), (by show (f 48).toInt ≤ (f 4).toInt; omega), (by show 1 ≤ (f 53).toInt; omega), (by show (f 53).toInt ≤ (f 4).toInt + 1; omega), (by show 0 ≤ (f 19).toInt; omega), (by show (f 19).toInt ≤ 600; omega)⟩
        · show 100 * ((f 0).toInt - (f 4).toInt) + mg_p3 gs < 100 * ((f 0).toInt - (f 4).toInt) + (1 + mg_p3 gs); omega
