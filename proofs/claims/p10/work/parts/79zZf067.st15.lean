/-! STEPS: local statements (printed by wip/p2/st2.py) -/
set_option maxHeartbeats 16000000 in
theorem st_18 {sc : Nat × (Nat → Int32)} {d : Nat} {S0 S : am_S} {f : Nat → Int32} {g : Nat → Nat → Int32} {on : Int32} {tw : Int32} {th : Int32} {gs : List mg_E} {bc : List (List Nat)} (hS : MS S0 S f g) (hR : RJ f g gs bc [] 0 []) (hrest : mg_good (g 34) (g 38) (g 23) gs ((f 15).toInt + -1) (tw.toInt) ((f 37).toInt + 0) ((f 32).toInt + 0) ((f 5).toInt + 0)) (hw : ∀ i : Nat, tw.toInt ≤ (i : Int) → (i : Int) < (f 20).toInt → 0 ≤ (g 23 i).toInt ∧ (g 23 i).toInt < 16384) (p0 : 0 ≤ (f 4).toInt) (p1 : (f 4).toInt ≤ (f 0).toInt) (p2 : (f 0).toInt ≤ 512) (p3 : 0 ≤ (f 24).toInt) (p4 : (f 24).toInt + (f 20).toInt + mg_p1 gs ≤ 4 * (f 4).toInt) (p5 : (f 20).toInt ≤ (f 4).toInt) (p6 : (f 15).toInt + 0 + mg_p2 gs ≤ (f 4).toInt) (p7 : 1 + mg_p3 gs ≤ 20 * (f 4).toInt + 20) (p8 : 0 ≤ (f 68).toInt) (p9 : (f 68).toInt + 3 * (f 20).toInt + 5 + mg_p4 gs ≤ 60 * (f 4).toInt + 60) (p10 : 0 ≤ (f 62).toInt) (p11 : (f 62).toInt + 64 * mj_n (g 16) (f 15).toNatClampNeg 3 ≤ 64 * (f 4).toInt) (p12 : 0 ≤ (f 44).toInt) (p13 : (f 44).toInt ≤ (f 4).toInt) (p14 : 0 ≤ (f 48).toInt) (p15 : (f 48).toInt ≤ (f 4).toInt) (p16 : 1 ≤ (f 53).toInt) (p17 : (f 53).toInt ≤ (f 4).toInt + 1) (p18 : 0 ≤ (f 19).toInt) (p19 : (f 19).toInt ≤ 600) (p20 : 0 ≤ (f 6).toInt) (p21 : 0 ≤ (f 8).toInt) (p22 : 0 ≤ mg_p1 gs) (p23 : 0 ≤ mg_p2 gs) (p24 : 0 ≤ mg_p4 gs) (p25 : 0 ≤ (f 10).toInt) (p26 : (f 10).toInt ≤ mg_p3 gs) (p27 : 0 ≤ mj_n (g 16) (f 15).toNatClampNeg 3) (p28 : 1 ≤ (f 15).toInt) (p29 : 0 ≤ (f 20).toInt) (p30 : 1 ≤ (f 37).toInt) (p31 : 0 ≤ (f 32).toInt) (p32 : (f 32).toInt ≤ (f 5).toInt) (p33 : (f 5).toInt ≤ 48) (p34 : (f 37).toInt ≤ 2 * (f 5).toInt + 1) (p35 : 0 ≤ tw.toInt) (p36 : tw.toInt ≤ (f 20).toInt) : am_E (am_PP sc) (d + 8) 180 0 [some (.ref 39), some (.int 18), some (.int on), some (.int tw), some (.int th)] [] S (am_N fun v S1 => ∃ (f' : Nat → Int32) (g' : Nat → Nat → Int32) (gs' : List mg_E) (bc' : List (List Nat)), v = none ∧ MS S0 S1 f' g' ∧ (mg_on f (100 * ((f 0).toInt - (f 4).toInt) + (1 + mg_p3 gs)) f' g' gs' bc' ∨ mg_off f f' g' bc')) := by
  have hbs := mg_basic hrest
  refine am_e1 (v := 18) hi_180_0 rfl ?_
  refine am_e0 hi_180_1 ?_
  refine am_e13t hi_180_3 (by decide) ?_
  refine am_e1 (v := 18) hi_180_14 rfl ?_
  refine am_e19 (t := 318) hi_180_15 (by decide) ?_
  refine am_e2 (v := 39) hi_180_318 rfl ?_
  refine am_e2 (v := 39) hi_180_319 rfl ?_
  refine mm_20 (v := .int (f 20)) hS hi_180_320 rfl ?_
  refine am_e1 (v := tw) hi_180_323 rfl ?_
  obtain ⟨z0, hz0, tz0⟩ := am_subI (x := f 20) (y := tw) (m := (f 20).toInt) (n := tw.toInt) rfl rfl (by omega) (by omega)
  refine am_e10 (z := z0) hi_180_324 hz0 ?_
  refine am_e2 (v := 39) hi_180_325 rfl ?_
  refine mm_20 (v := .int (f 19)) hS hi_180_326 rfl ?_
  refine am_e32w (as := [.ref 39, .int z0, .int (f 19)]) (la := [some (.ref 39), some (.int z0), some (.int (f 19))]) (rest := []) hi_180_329 (am_hd0 (M := 180) (by decide) 329) (Nat.le_of_ble_eq_true rfl) (Nat.le_of_ble_eq_true rfl) (show 3 ≤ am_P0.2.2.1 258 from by decide +kernel) rfl (am_recv_ok hS.fs) rfl rfl ?_
  refine am_e2 (v := 39) hi_258_0 rfl ?_
  refine am_e32w (as := [.ref 39]) (la := [some (.ref 39)]) (rest := []) hi_258_1 (am_hd0 (M := 258) (by decide) 1) (Nat.le_of_ble_eq_true rfl) (Nat.le_of_ble_eq_true rfl) (show 1 ≤ am_P0.2.2.1 216 from by decide +kernel) rfl (am_recv_ok hS.fs) rfl rfl ?_
  refine am_e2 (v := 39) hi_216_0 rfl ?_
  refine mm_20 (v := .ref 46) hS hi_216_1 rfl ?_
  refine am_e2 (v := 39) hi_216_4 rfl ?_
  refine mm_20 (v := .int (f 15)) hS hi_216_5 rfl ?_
  refine am_e0 hi_216_8 ?_
  obtain ⟨z1, hz1, tz1⟩ := am_subI (x := f 15) (y := 1) (m := (f 15).toInt) (n := (1 : Int)) rfl (by decide) (by omega) (by omega)
  refine am_e10 (z := z1) hi_216_9 hz1 ?_
  refine mm_25 hS ma_16 hi_216_10 (by decide) (by omega) (by omega) ?_
  show am_E _ _ _ _ [some (.ref 39)] [.int (g 16 z1.toNatClampNeg)] _ _
  refine am_e0 hi_216_11 ?_
  by_cases c2 : (g 16 z1.toNatClampNeg).toInt = (1 : Int)
  · refine am_e13t hi_216_12 (am_cT (m := (g 16 z1.toNatClampNeg).toInt) (n := (1 : Int)) rfl (by decide) c2) ?_
    refine am_e0 hi_216_30 ?_
    refine am_e18 hi_216_31 ?_
    refine am_e36 hi_216_35 (by decide) ?_
    show am_E _ _ _ _ [some (.ref 39), some (.int z0), some (.int (f 19))] [.int 1] _ _
    refine am_e12f hi_258_4 (by decide) ?_
    refine am_e1 (v := f 19) hi_258_7 rfl ?_
    refine am_e1 (v := z0) hi_258_8 rfl ?_
    by_cases c3 : z0.toInt < (f 19).toInt
    · refine am_e13t hi_258_9 (am_cT (m := (f 19).toInt) (n := z0.toInt) rfl rfl c3) ?_
      refine am_e2 (v := 39) hi_258_31 rfl ?_
      refine am_e32w (as := [.ref 39]) (la := [some (.ref 39)]) (rest := []) hi_258_32 (am_hd0 (M := 258) (by decide) 32) (Nat.le_of_ble_eq_true rfl) (Nat.le_of_ble_eq_true rfl) (show 1 ≤ am_P0.2.2.1 209 from by decide +kernel) rfl (am_recv_ok hS.fs) rfl rfl ?_
      refine am_e2 (v := 39) hi_209_0 rfl ?_
      refine am_e32n (as := [.ref 39]) (la := [some (.ref 39), none, none, none]) (rest := []) hi_209_1 (am_hd0 (M := 209) (by decide) 1) (Nat.le_of_ble_eq_true rfl) (Nat.le_of_ble_eq_true rfl) (show 1 ≤ am_P0.2.2.1 204 from by decide +kernel) rfl (am_recv_ok hS.fs) rfl rfl (ct_load (d := (d + 3)) hS hR  (by show (0 : Int) ≤ (f 32).toInt; omega) (by show (f 32).toInt ≤ (63 : Int); omega) (by show (f 53).toInt ≤ (4096 : Int); omega) (by show (0 : Int) ≤ (f 68).toInt; omega) (by show (f 68).toInt ≤ (65534 : Int); omega) (by show (1 : Int) ≤ (f 15).toInt; omega) (by show (f 15).toInt ≤ (32767 : Int); omega) (by show (0 : Int) ≤ (f 24).toInt; omega) (by show (f 24).toInt ≤ (16384 : Int); omega) (by show (0 : Int) ≤ (f 62).toInt; omega) (by show (f 62).toInt ≤ (65000 : Int); omega)) ?_
      rintro v4 S5 (⟨o6, s7, m8, g'9, hv10, hS11, hR18, h12, h13, h14, h15, h16, h17⟩)
      subst hv10
      have h12_ : (f 62).toInt ≤ o6.toInt := h12
      have h13_ : o6.toInt ≤ (f 62).toInt + 64 := h13
      have h14_ : (f 68).toInt ≤ s7.toInt := h14
      have h15_ : s7.toInt ≤ (f 68).toInt + 1 := h15
      have h16_ : o6.toInt + 64 * mj_n (g'9 16) (f 15).toNatClampNeg 3 ≤ (f 62).toInt + 64 * mj_n (g 16) (f 15).toNatClampNeg 3 := h16
      have h17_ : ∀ j, j ∉ [16, 60, 63, 64, 65, 66, 67, 69, 70, 71, 72, 73] → g'9 j = g j := h17
      have hR18_ : RJ (upd (upd (upd f 62 o6) 68 s7) 75 m8) g'9 gs bc [] 0 [] := hR18
      show am_E _ _ _ _ [some (.ref 39)] [] _ _
      refine am_e2 (v := 39) hi_209_4 rfl ?_
      refine am_e7 hi_209_5 ?_
      refine mm_20 (v := .int (f 15)) hS11 hi_209_6 rfl ?_
      refine am_e0 hi_209_9 ?_
      refine am_e10 (z := z1) hi_209_10 hz1 ?_
      refine mm_21 (v := z1) hS11 hi_209_11 rfl (Nat.le_of_ble_eq_true rfl) ms_15 ?_
      intro S19 hS20
      replace hS20 : MS S0 S19 (upd (upd (upd (upd f 15 z1) 62 o6) 68 s7) 75 m8) g'9 := hS20
      have hp21 : mj_n (g'9 16) (f 15).toNatClampNeg 3 = mj_n (g'9 16) z1.toNatClampNeg 3 + if (g'9 16 z1.toNatClampNeg).toInt = 3 then 1 else 0 := mj_pop (by rw [cl_toNat, cl_toNat]; omega)
      have hp211 : mj_n (g'9 16) z1.toNatClampNeg 3 ≤ mj_n (g'9 16) (f 15).toNatClampNeg 3 := by rw [hp21]; split <;> omega
      have hp212 : (g'9 16 z1.toNatClampNeg).toInt = 3 → mj_n (g'9 16) z1.toNatClampNeg 3 + 1 ≤ mj_n (g'9 16) (f 15).toNatClampNeg 3 := fun q => by rw [hp21, if_pos q]; exact Int.le_refl _
      refine am_e35 hi_209_14 ?_
      show am_E _ _ _ _ [some (.ref 39), some (.int z0), some (.int (f 19))] [] _ _
      refine am_e2 (v := 39) hi_258_35 rfl ?_
      refine am_e1 (v := z0) hi_258_36 rfl ?_
      refine am_e1 (v := f 19) hi_258_37 rfl ?_
      obtain ⟨z22, hz22, tz22⟩ := am_subI (x := z0) (y := f 19) (m := z0.toInt) (n := (f 19).toInt) rfl rfl (by omega) (by omega)
      refine am_e10 (z := z22) hi_258_38 hz22 ?_
      refine am_e32n (as := [.ref 39, .int z22]) (la := [some (.ref 39), some (.int z22), none]) (rest := []) hi_258_39 (am_hd0 (M := 258) (by decide) 39) (Nat.le_of_ble_eq_true rfl) (Nat.le_of_ble_eq_true rfl) (show 2 ≤ am_P0.2.2.1 240 from by decide +kernel) rfl (am_recv_ok hS20.fs) rfl rfl (ct_nils (d := (d + 5)) hS20 hR18_  (by show (0 : Int) ≤ (f 32).toInt; omega) (by show (f 32).toInt ≤ (63 : Int); omega) (by show (f 53).toInt ≤ (4096 : Int); omega) (by show (0 : Int) ≤ s7.toInt; omega) (by show s7.toInt ≤ (65534 : Int); omega) (by show s7.toInt + z22.toInt ≤ 65534; omega)) ?_
      rintro v23 S24 (⟨s25, g'26, hv27, hS28, hR32, h29, h30, h31⟩)
      subst hv27
      have h29_ : s7.toInt ≤ s25.toInt := h29
      have h30_ : s25.toInt ≤ s7.toInt + z22.toInt ∨ s25.toInt ≤ s7.toInt := h30
      have h31_ : ∀ j, j ∉ [60, 69, 70, 71, 72, 73] → g'26 j = g'9 j := h31
      replace hS28 : MS S0 S24 (upd (upd (upd (upd f 15 z1) 62 o6) 68 s25) 75 m8) g'26 := hS28
      have hR32_ : RJ (upd (upd (upd (upd f 15 z1) 62 o6) 68 s25) 75 m8) g'26 gs bc [] 0 [] := hR32
      show am_E _ _ _ _ [some (.ref 39), some (.int z0), some (.int (f 19))] [] _ _
      refine am_e1 (v := f 19) hi_258_42 rfl ?_
      refine am_e1 (v := z0) hi_258_43 rfl ?_
      refine am_e13f hi_258_44 (am_cF (m := (f 19).toInt) (n := z0.toInt) rfl rfl (by simp only [am_cI]; omega)) ?_
      refine am_e2 (v := 39) hi_258_47 rfl ?_
      refine am_e0 hi_258_48 ?_
      refine am_e1 (v := f 19) hi_258_50 rfl ?_
      refine am_e1 (v := z0) hi_258_51 rfl ?_
      obtain ⟨z33, hz33, tz33⟩ := am_subI (x := f 19) (y := z0) (m := (f 19).toInt) (n := z0.toInt) rfl rfl (by omega) (by omega)
      refine am_e10 (z := z33) hi_258_52 hz33 ?_
      refine am_e0 hi_258_53 ?_
      refine am_e0 hi_258_54 ?_
      refine am_e32n (as := [.ref 39, .int 26, .int z33, .int 0, .int 0]) (la := [some (.ref 39), some (.int 26), some (.int z33), some (.int 0), some (.int 0)]) (rest := []) hi_258_55 (am_hd0 (M := 258) (by decide) 55) (Nat.le_of_ble_eq_true rfl) (Nat.le_of_ble_eq_true rfl) (show 5 ≤ am_P0.2.2.1 189 from by decide +kernel) rfl (am_recv_ok hS28.fs) rfl rfl (ct_put (d := (d + 6)) hS28 hR32_  (by show (0 : Int) ≤ (f 32).toInt; omega) (by show (f 32).toInt ≤ (63 : Int); omega) (by show (f 53).toInt ≤ (4096 : Int); omega) (by show (0 : Int) ≤ s25.toInt; omega) (by show s25.toInt ≤ (65534 : Int); omega)) ?_
      rintro v34 S35 (⟨z36, r37, g'38, hv39, hS40, hR44, h41, h42, h43⟩)
      subst hv39
      have h41_ : z36.toInt = s25.toInt + 1 := h41
      have h42_ : r37.toInt = s25.toInt := h42
      have h43_ : ∀ j, j ∉ [60, 69, 70, 71, 72, 73] → g'38 j = g'26 j := h43
      replace hS40 : MS S0 S35 (upd (upd (upd (upd f 15 z1) 62 o6) 68 z36) 75 m8) g'38 := hS40
      have hR44_ : RJ (upd (upd (upd (upd f 15 z1) 62 o6) 68 z36) 75 m8) g'38 gs bc [] 0 (s25.toNatClampNeg :: []) := hR44
      show am_E _ _ _ _ [some (.ref 39), some (.int z0), some (.int (f 19))] [.int r37] _ _
      refine am_e6i hi_258_58 ?_
      refine am_e35 hi_258_59 ?_
      show am_E _ _ _ _ [some (.ref 39), some (.int 18), some (.int on), some (.int tw), some (.int th)] [] _ _
      refine am_e2 (v := 39) hi_180_332 rfl ?_
      refine am_e1 (v := on) hi_180_333 rfl ?_
      refine am_e1 (v := tw) hi_180_334 rfl ?_
      refine am_e32n (as := [.ref 39, .int on, .int tw]) (la := [some (.ref 39), some (.int on), some (.int tw), none, none, none]) (rest := []) hi_180_335 (am_hd0 (M := 180) (by decide) 335) (Nat.le_of_ble_eq_true rfl) (Nat.le_of_ble_eq_true rfl) (show 3 ≤ am_P0.2.2.1 241 from by decide +kernel) rfl (am_recv_ok hS40.fs) rfl rfl (ct_localEnd (d := (d + 5)) hS40 hR44_ (by intro i h1 h2; show 0 ≤ (g'38 23 i).toInt ∧ (g'38 23 i).toInt < 16384; rw [show g'38 23 = g'26 23 from h43_ 23 (by decide), show g'26 23 = g'9 23 from h31_ 23 (by decide), show g'9 23 = g 23 from h17_ 23 (by decide)]; exact hw i (by omega) (by have h3 : (i : Int) < (f 20).toInt := h2; omega)) (by show (0 : Int) ≤ (f 32).toInt; omega) (by show (f 32).toInt ≤ (63 : Int); omega) (by show (f 53).toInt ≤ (4096 : Int); omega) (by show (0 : Int) ≤ (f 24).toInt; omega) (by show (f 24).toInt + (f 20).toInt ≤ 16000; omega) (by show (0 : Int) ≤ tw.toInt; omega) (by show tw.toInt ≤ (f 20).toInt; omega) (by show (0 : Int) ≤ z36.toInt; omega) (by show z36.toInt + (f 20).toInt ≤ 65530; omega) (by show (0 : Int) ≤ (f 8).toInt; omega)) ?_
      rintro v45 S46 (⟨a47, b48, q49, l50, y51, s52, g'53, hv54, hS55, hR62, h56, h57, h58, h59, h60, h61⟩)
      subst hv54
      have h56_ : q49.toInt = tw.toInt := h56
      have h57_ : l50.toInt = (f 24).toInt + (f 20).toInt - tw.toInt := h57
      have h58_ : z36.toInt ≤ s52.toInt := h58
      have h59_ : s52.toInt + tw.toInt ≤ z36.toInt + (f 20).toInt + 1 := h59
      have h60_ : ∀ j, j ∉ [25, 26, 27, 28, 29, 30, 58, 60, 69, 70, 71, 72, 73] → g'53 j = g'38 j := h60
      have h61_ : (0 : Int) ≤ a47.toInt := h61
      replace hS55 : MS S0 S46 (upd (upd (upd (upd (upd (upd (upd (upd (upd f 8 a47) 9 b48) 15 z1) 20 q49) 24 l50) 31 y51) 62 o6) 68 s52) 75 m8) g'53 := hS55
      have hR62_ : RJ (upd (upd (upd (upd (upd (upd (upd (upd (upd f 8 a47) 9 b48) 15 z1) 20 q49) 24 l50) 31 y51) 62 o6) 68 s52) 75 m8) g'53 gs bc [] 0 (s25.toNatClampNeg :: []) := hR62
      show am_E _ _ _ _ [some (.ref 39), some (.int 18), some (.int on), some (.int tw), some (.int th)] [] _ _
      refine am_e18 hi_180_338 ?_
      refine am_e35 hi_180_371 ?_
      have q1 : mg_p1 gs = mg_p1 gs := rfl
      have q2 : mg_p2 gs = mg_p2 gs := rfl
      have q3 : mg_p3 gs = mg_p3 gs := rfl
      have q4 : mg_p4 gs = mg_p4 gs := rfl
      refine ⟨_, _, _, bc, rfl, hS55, Or.inl ⟨⟨(RJ.fewer (pj' := []) hR62_ (fun _ h => nomatch h)), ?_, ?_⟩, rfl, ?_⟩⟩
      · exact (mg_cast (mg_good_ext _ _ _ _ _ _ (fun i _ => by show g'53 34 i = g 34 i; rw [show g'53 34 = g'38 34 from h60_ 34 (by decide), show g'38 34 = g'26 34 from h43_ 34 (by decide), show g'26 34 = g'9 34 from h31_ 34 (by decide), show g'9 34 = g 34 from h17_ 34 (by decide)]) (fun i _ => by show g'53 38 i = g 38 i; rw [show g'53 38 = g'38 38 from h60_ 38 (by decide), show g'38 38 = g'26 38 from h43_ 38 (by decide), show g'26 38 = g'9 38 from h31_ 38 (by decide), show g'9 38 = g 38 from h17_ 38 (by decide)]) (fun i _ => by show g'53 23 i = g 23 i; rw [show g'53 23 = g'38 23 from h60_ 23 (by decide), show g'38 23 = g'26 23 from h43_ 23 (by decide), show g'26 23 = g'9 23 from h31_ 23 (by decide), show g'9 23 = g 23 from h17_ 23 (by decide)]) hrest) (by show (f 15).toInt + -1 = z1.toInt; omega) (by show tw.toInt = q49.toInt; omega) (by show (f 37).toInt + 0 = (f 37).toInt; omega) (by show (f 32).toInt + 0 = (f 32).toInt; omega) (by show (f 5).toInt + 0 = (f 5).toInt; omega) : mg_good (g'53 34) (g'53 38) (g'53 23) gs (z1.toInt) (q49.toInt) ((f 37).toInt) ((f 32).toInt) ((f 5).toInt))
      · exact ⟨(by show 0 ≤ (f 4).toInt; omega), (by show (f 4).toInt ≤ (f 0).toInt; omega), (by show (f 0).toInt ≤ 512; omega), (by show 0 ≤ l50.toInt; omega), (by show l50.toInt + q49.toInt + mg_p1 gs ≤ 4 * (f 4).toInt; omega), (by show q49.toInt ≤ (f 4).toInt; omega), (by show z1.toInt + mg_p2 gs ≤ (f 4).toInt; omega), (by show mg_p3 gs ≤ 20 * (f 4).toInt + 20; omega), (by show 0 ≤ s52.toInt; omega), (by show s52.toInt + 3 * q49.toInt + mg_p4 gs ≤ 60 * (f 4).toInt + 60; omega), (by show 0 ≤ o6.toInt; omega), (by show o6.toInt + 64 * mj_n (g'53 16) z1.toNatClampNeg 3 ≤ 64 * (f 4).toInt; rw [show g'53 16 = g'38 16 from h60_ 16 (by decide), show g'38 16 = g'26 16 from h43_ 16 (by decide), show g'26 16 = g'9 16 from h31_ 16 (by decide)]; omega), (by show 0 ≤ (f 44).toInt; omega), (by show (f 44).toInt ≤ (f 4).toInt; omega), (by show 0 ≤ (f 48).toInt; omega), (by show (f 48).toInt ≤ (f 4).toInt; omega), (by show 1 ≤ (f 53).toInt; omega), (by show (f 53).toInt ≤ (f 4).toInt + 1; omega), (by show 0 ≤ (f 19).toInt; omega), (by show (f 19).toInt ≤ 600; omega), (by show 0 ≤ (f 6).toInt; omega), (by show 0 ≤ a47.toInt; omega)⟩
      · show 100 * ((f 0).toInt - (f 4).toInt) + mg_p3 gs < 100 * ((f 0).toInt - (f 4).toInt) + (1 + mg_p3 gs); omega
    · refine am_e13f hi_258_9 (am_cF (m := (f 19).toInt) (n := z0.toInt) rfl rfl c3) ?_
      refine am_e2 (v := 39) hi_258_12 rfl ?_
      refine am_e32w (as := [.ref 39]) (la := [some (.ref 39), none]) (rest := []) hi_258_13 (am_hd0 (M := 258) (by decide) 13) (Nat.le_of_ble_eq_true rfl) (Nat.le_of_ble_eq_true rfl) (show 1 ≤ am_P0.2.2.1 217 from by decide +kernel) rfl (am_recv_ok hS.fs) rfl rfl ?_
      refine am_e2 (v := 39) hi_217_0 rfl ?_
      refine mm_20 (v := .ref 47) hS hi_217_1 rfl ?_
      refine am_e2 (v := 39) hi_217_4 rfl ?_
      refine mm_20 (v := .int (f 15)) hS hi_217_5 rfl ?_
      refine am_e0 hi_217_8 ?_
      refine am_e10 (z := z1) hi_217_9 hz1 ?_
      refine mm_25 hS ma_17 hi_217_10 (by decide) (by omega) (by omega) ?_
      show am_E _ _ _ _ [some (.ref 39), none] [.int (g 17 z1.toNatClampNeg)] _ _
      have r63 : (g 16 z1.toNatClampNeg).toInt = 1 ∨ (g 16 z1.toNatClampNeg).toInt = 2 → 0 ≤ (g 17 z1.toNatClampNeg).toInt ∧ (g 17 z1.toNatClampNeg).toInt < 65536 := RJ.vc hR z1.toNatClampNeg
      refine am_e3 (ls' := [some (.ref 39), some (.int (g 17 z1.toNatClampNeg))]) hi_217_11 (Nat.le_of_ble_eq_true rfl) rfl ?_
      refine am_e2 (v := 39) hi_217_12 rfl ?_
      refine mm_20 (v := .ref 91) hS hi_217_13 rfl ?_
      refine am_e1 (v := g 17 z1.toNatClampNeg) hi_217_16 rfl ?_
      refine am_e2 (v := 39) hi_217_17 rfl ?_
      refine mm_20 (v := .ref 46) hS hi_217_18 rfl ?_
      refine am_e2 (v := 39) hi_217_21 rfl ?_
      refine mm_20 (v := .int (f 15)) hS hi_217_22 rfl ?_
      refine am_e0 hi_217_25 ?_
      refine am_e10 (z := z1) hi_217_26 hz1 ?_
      refine mm_25 hS ma_16 hi_217_27 (by decide) (by omega) (by omega) ?_
      show am_E _ _ _ _ [some (.ref 39), some (.int (g 17 z1.toNatClampNeg))] [.int (g 16 z1.toNatClampNeg), .int (g 17 z1.toNatClampNeg), .ref 91] _ _
      refine am_e0 hi_217_28 ?_
      refine am_e13f hi_217_29 (am_cF (m := (g 16 z1.toNatClampNeg).toInt) (n := (1 : Int)) rfl (by decide) (by simp only [am_cI]; omega)) ?_
      refine am_e2 (v := 39) hi_217_32 rfl ?_
      refine mm_20 (v := .ref 91) hS hi_217_33 rfl ?_
      refine am_e1 (v := g 17 z1.toNatClampNeg) hi_217_36 rfl ?_
      refine mm_25 hS ma_72 hi_217_37 (by decide) (by omega) (by omega) ?_
      show am_E _ _ _ _ [some (.ref 39), some (.int (g 17 z1.toNatClampNeg))] [.int (g 72 (g 17 z1.toNatClampNeg).toNatClampNeg), .int (g 17 z1.toNatClampNeg), .ref 91] _ _
      refine am_e0 hi_217_38 ?_
      obtain ⟨z64, hz64⟩ : ∃ q__, am_bin 3 (g 72 (g 17 z1.toNatClampNeg).toNatClampNeg) 1 = q__ := ⟨_, rfl⟩
      refine am_e10 (z := z64) hi_217_39 hz64 ?_
      refine am_e0 hi_217_40 ?_
      obtain ⟨z65, hz65⟩ : ∃ q__, am_bin 4 z64 4 = q__ := ⟨_, rfl⟩
      refine am_e10 (z := z65) hi_217_41 hz65 ?_
      refine am_e18 hi_217_42 ?_
      refine mm_26 hS ma_72 hi_217_46 (by decide) (by omega) (by omega) (fun h => nomatch h) ?_
      intro S66 hS67
      refine am_e2 (v := 39) hi_217_47 rfl ?_
      refine am_e7 hi_217_48 ?_
      refine mm_20 (v := .int (f 15)) hS67 hi_217_49 rfl ?_
      refine am_e0 hi_217_52 ?_
      refine am_e10 (z := z1) hi_217_53 hz1 ?_
      refine mm_21 (v := z1) hS67 hi_217_54 rfl (Nat.le_of_ble_eq_true rfl) ms_15 ?_
      intro S68 hS69
      have hp70 : mj_n (g 16) (f 15).toNatClampNeg 3 = mj_n (g 16) z1.toNatClampNeg 3 + if (g 16 z1.toNatClampNeg).toInt = 3 then 1 else 0 := mj_pop (by rw [cl_toNat, cl_toNat]; omega)
      have hp701 : mj_n (g 16) z1.toNatClampNeg 3 ≤ mj_n (g 16) (f 15).toNatClampNeg 3 := by rw [hp70]; split <;> omega
      have hp702 : (g 16 z1.toNatClampNeg).toInt = 3 → mj_n (g 16) z1.toNatClampNeg 3 + 1 ≤ mj_n (g 16) (f 15).toNatClampNeg 3 := fun q => by rw [hp70, if_pos q]; exact Int.le_refl _
      refine am_e35 hi_217_57 ?_
      show am_E _ _ _ _ [some (.ref 39), some (.int z0), some (.int (f 19))] [] _ _
      refine am_e2 (v := 39) hi_258_16 rfl ?_
      refine am_e0 hi_258_17 ?_
      refine am_e1 (v := z0) hi_258_19 rfl ?_
      refine am_e1 (v := f 19) hi_258_20 rfl ?_
      obtain ⟨z71, hz71, tz71⟩ := am_subI (x := z0) (y := f 19) (m := z0.toInt) (n := (f 19).toInt) rfl rfl (by omega) (by omega)
      refine am_e10 (z := z71) hi_258_21 hz71 ?_
      refine am_e0 hi_258_22 ?_
      obtain ⟨z72, hz72, tz72⟩ := am_addI (x := z71) (y := 1) (m := z71.toInt) (n := (1 : Int)) rfl (by decide) (by omega) (by omega)
      refine am_e10 (z := z72) hi_258_23 hz72 ?_
      refine am_e0 hi_258_24 ?_
      refine am_e0 hi_258_25 ?_
      refine am_e32n (as := [.ref 39, .int 25, .int z72, .int 0, .int 0]) (la := [some (.ref 39), some (.int 25), some (.int z72), some (.int 0), some (.int 0)]) (rest := []) hi_258_26 (am_hd0 (M := 258) (by decide) 26) (Nat.le_of_ble_eq_true rfl) (Nat.le_of_ble_eq_true rfl) (show 5 ≤ am_P0.2.2.1 189 from by decide +kernel) rfl (am_recv_ok hS69.fs) rfl rfl (ct_put (d := (d + 6)) hS69 hR  (by show (0 : Int) ≤ (f 32).toInt; omega) (by show (f 32).toInt ≤ (63 : Int); omega) (by show (f 53).toInt ≤ (4096 : Int); omega) (by show (0 : Int) ≤ (f 68).toInt; omega) (by show (f 68).toInt ≤ (65534 : Int); omega)) ?_
      rintro v73 S74 (⟨z75, r76, g'77, hv78, hS79, hR83, h80, h81, h82⟩)
      subst hv78
      have h80_ : z75.toInt = (f 68).toInt + 1 := h80
      have h81_ : r76.toInt = (f 68).toInt := h81
      have h82_ : ∀ j, j ∉ [60, 69, 70, 71, 72, 73] → g'77 j = (upg g 72 (g 17 z1.toNatClampNeg).toNatClampNeg z65) j := h82
      have hR83_ : RJ (upd (upd f 15 z1) 68 z75) g'77 gs bc [] 0 ((f 68).toNatClampNeg :: []) := hR83
      show am_E _ _ _ _ [some (.ref 39), some (.int z0), some (.int (f 19))] [.int r76] _ _
      refine am_e6i hi_258_29 ?_
      refine am_e35 hi_258_30 ?_
      show am_E _ _ _ _ [some (.ref 39), some (.int 18), some (.int on), some (.int tw), some (.int th)] [] _ _
      refine am_e2 (v := 39) hi_180_332 rfl ?_
      refine am_e1 (v := on) hi_180_333 rfl ?_
      refine am_e1 (v := tw) hi_180_334 rfl ?_
      refine am_e32n (as := [.ref 39, .int on, .int tw]) (la := [some (.ref 39), some (.int on), some (.int tw), none, none, none]) (rest := []) hi_180_335 (am_hd0 (M := 180) (by decide) 335) (Nat.le_of_ble_eq_true rfl) (Nat.le_of_ble_eq_true rfl) (show 3 ≤ am_P0.2.2.1 241 from by decide +kernel) rfl (am_recv_ok hS79.fs) rfl rfl (ct_localEnd (d := (d + 5)) hS79 hR83_ (by intro i h1 h2; show 0 ≤ (g'77 23 i).toInt ∧ (g'77 23 i).toInt < 16384; rw [show g'77 23 = g 23 from h82_ 23 (by decide)]; exact hw i (by omega) (by have h3 : (i : Int) < (f 20).toInt := h2; omega)) (by show (0 : Int) ≤ (f 32).toInt; omega) (by show (f 32).toInt ≤ (63 : Int); omega) (by show (f 53).toInt ≤ (4096 : Int); omega) (by show (0 : Int) ≤ (f 24).toInt; omega) (by show (f 24).toInt + (f 20).toInt ≤ 16000; omega) (by show (0 : Int) ≤ tw.toInt; omega) (by show tw.toInt ≤ (f 20).toInt; omega) (by show (0 : Int) ≤ z75.toInt; omega) (by show z75.toInt + (f 20).toInt ≤ 65530; omega) (by show (0 : Int) ≤ (f 8).toInt; omega)) ?_
      rintro v84 S85 (⟨a86, b87, q88, l89, y90, s91, g'92, hv93, hS94, hR101, h95, h96, h97, h98, h99, h100⟩)
      subst hv93
      have h95_ : q88.toInt = tw.toInt := h95
      have h96_ : l89.toInt = (f 24).toInt + (f 20).toInt - tw.toInt := h96
      have h97_ : z75.toInt ≤ s91.toInt := h97
      have h98_ : s91.toInt + tw.toInt ≤ z75.toInt + (f 20).toInt + 1 := h98
      have h99_ : ∀ j, j ∉ [25, 26, 27, 28, 29, 30, 58, 60, 69, 70, 71, 72, 73] → g'92 j = g'77 j := h99
      have h100_ : (0 : Int) ≤ a86.toInt := h100
      replace hS94 : MS S0 S85 (upd (upd (upd (upd (upd (upd (upd f 8 a86) 9 b87) 15 z1) 20 q88) 24 l89) 31 y90) 68 s91) g'92 := hS94
      have hR101_ : RJ (upd (upd (upd (upd (upd (upd (upd f 8 a86) 9 b87) 15 z1) 20 q88) 24 l89) 31 y90) 68 s91) g'92 gs bc [] 0 ((f 68).toNatClampNeg :: []) := hR101
      show am_E _ _ _ _ [some (.ref 39), some (.int 18), some (.int on), some (.int tw), some (.int th)] [] _ _
      refine am_e18 hi_180_338 ?_
      refine am_e35 hi_180_371 ?_
      have q1 : mg_p1 gs = mg_p1 gs := rfl
      have q2 : mg_p2 gs = mg_p2 gs := rfl
      have q3 : mg_p3 gs = mg_p3 gs := rfl
      have q4 : mg_p4 gs = mg_p4 gs := rfl
      refine ⟨_, _, _, bc, rfl, hS94, Or.inl ⟨⟨(RJ.fewer (pj' := []) hR101_ (fun _ h => nomatch h)), ?_, ?_⟩, rfl, ?_⟩⟩
      · exact (mg_cast (mg_good_ext _ _ _ _ _ _ (fun i _ => by show g'92 34 i = g 34 i; rw [show g'92 34 = g'77 34 from h99_ 34 (by decide), show g'77 34 = g 34 from h82_ 34 (by decide)]) (fun i _ => by show g'92 38 i = g 38 i; rw [show g'92 38 = g'77 38 from h99_ 38 (by decide), show g'77 38 = g 38 from h82_ 38 (by decide)]) (fun i _ => by show g'92 23 i = g 23 i; rw [show g'92 23 = g'77 23 from h99_ 23 (by decide), show g'77 23 = g 23 from h82_ 23 (by decide)]) hrest) (by show (f 15).toInt + -1 = z1.toInt; omega) (by show tw.toInt = q88.toInt; omega) (by show (f 37).toInt + 0 = (f 37).toInt; omega) (by show (f 32).toInt + 0 = (f 32).toInt; omega) (by show (f 5).toInt + 0 = (f 5).toInt; omega) : mg_good (g'92 34) (g'92 38) (g'92 23) gs (z1.toInt) (q88.toInt) ((f 37).toInt) ((f 32).toInt) ((f 5).toInt))
      · exact ⟨(by show 0 ≤ (f 4).toInt; omega), (by show (f 4).toInt ≤ (f 0).toInt; omega), (by show (f 0).toInt ≤ 512; omega), (by show 0 ≤ l89.toInt; omega), (by show l89.toInt + q88.toInt + mg_p1 gs ≤ 4 * (f 4).toInt; omega), (by show q88.toInt ≤ (f 4).toInt; omega), (by show z1.toInt + mg_p2 gs ≤ (f 4).toInt; omega), (by show mg_p3 gs ≤ 20 * (f 4).toInt + 20; omega), (by show 0 ≤ s91.toInt; omega), (by show s91.toInt + 3 * q88.toInt + mg_p4 gs ≤ 60 * (f 4).toInt + 60; omega), (by show 0 ≤ (f 62).toInt; omega), (by show (f 62).toInt + 64 * mj_n (g'92 16) z1.toNatClampNeg 3 ≤ 64 * (f 4).toInt; rw [show g'92 16 = g'77 16 from h99_ 16 (by decide), show g'77 16 = g 16 from h82_ 16 (by decide)]; omega), (by show 0 ≤ (f 44).toInt; omega), (by show (f 44).toInt ≤ (f 4).toInt; omega), (by show 0 ≤ (f 48).toInt; omega), (by show (f 48).toInt ≤ (f 4).toInt; omega), (by show 1 ≤ (f 53).toInt; omega), (by show (f 53).toInt ≤ (f 4).toInt + 1; omega), (by show 0 ≤ (f 19).toInt; omega), (by show (f 19).toInt ≤ 600; omega), (by show 0 ≤ (f 6).toInt; omega), (by show 0 ≤ a86.toInt; omega)⟩
      · show 100 * ((f 0).toInt - (f 4).toInt) + mg_p3 gs < 100 * ((f 0).toInt - (f 4).toInt) + (1 + mg_p3 gs); omega
  · refine am_e13f hi_216_12 (am_cF (m := (g 16 z1.toNatClampNeg).toInt) (n := (1 : Int)) rfl (by decide) c2) ?_
    refine am_e2 (v := 39) hi_216_15 rfl ?_
    refine mm_20 (v := .ref 46) hS hi_216_16 rfl ?_
    refine am_e2 (v := 39) hi_216_19 rfl ?_
    refine mm_20 (v := .int (f 15)) hS hi_216_20 rfl ?_
    refine am_e0 hi_216_23 ?_
    refine am_e10 (z := z1) hi_216_24 hz1 ?_
    refine mm_25 hS ma_16 hi_216_25 (by decide) (by omega) (by omega) ?_
    show am_E _ _ _ _ [some (.ref 39)] [.int (g 16 z1.toNatClampNeg)] _ _
    refine am_e0 hi_216_26 ?_
    by_cases c102 : ¬ (g 16 z1.toNatClampNeg).toInt = (2 : Int)
    · refine am_e13t hi_216_27 (am_cT (m := (g 16 z1.toNatClampNeg).toInt) (n := (2 : Int)) rfl (by decide) c102) ?_
      refine am_e0 hi_216_34 ?_
      refine am_e36 hi_216_35 (by decide) ?_
      show am_E _ _ _ _ [some (.ref 39), some (.int z0), some (.int (f 19))] [.int 0] _ _
      refine am_e12t hi_258_4 (by decide) ?_
      refine am_e2 (v := 39) hi_258_31 rfl ?_
      refine am_e32w (as := [.ref 39]) (la := [some (.ref 39)]) (rest := []) hi_258_32 (am_hd0 (M := 258) (by decide) 32) (Nat.le_of_ble_eq_true rfl) (Nat.le_of_ble_eq_true rfl) (show 1 ≤ am_P0.2.2.1 209 from by decide +kernel) rfl (am_recv_ok hS.fs) rfl rfl ?_
      refine am_e2 (v := 39) hi_209_0 rfl ?_
      refine am_e32n (as := [.ref 39]) (la := [some (.ref 39), none, none, none]) (rest := []) hi_209_1 (am_hd0 (M := 209) (by decide) 1) (Nat.le_of_ble_eq_true rfl) (Nat.le_of_ble_eq_true rfl) (show 1 ≤ am_P0.2.2.1 204 from by decide +kernel) rfl (am_recv_ok hS.fs) rfl rfl (ct_load (d := (d + 3)) hS hR  (by show (0 : Int) ≤ (f 32).toInt; omega) (by show (f 32).toInt ≤ (63 : Int); omega) (by show (f 53).toInt ≤ (4096 : Int); omega) (by show (0 : Int) ≤ (f 68).toInt; omega) (by show (f 68).toInt ≤ (65534 : Int); omega) (by show (1 : Int) ≤ (f 15).toInt; omega) (by show (f 15).toInt ≤ (32767 : Int); omega) (by show (0 : Int) ≤ (f 24).toInt; omega) (by show (f 24).toInt ≤ (16384 : Int); omega) (by show (0 : Int) ≤ (f 62).toInt; omega) (by show (f 62).toInt ≤ (65000 : Int); omega)) ?_
      rintro v103 S104 (⟨o105, s106, m107, g'108, hv109, hS110, hR117, h111, h112, h113, h114, h115, h116⟩)
      subst hv109
      have h111_ : (f 62).toInt ≤ o105.toInt := h111
      have h112_ : o105.toInt ≤ (f 62).toInt + 64 := h112
      have h113_ : (f 68).toInt ≤ s106.toInt := h113
      have h114_ : s106.toInt ≤ (f 68).toInt + 1 := h114
      have h115_ : o105.toInt + 64 * mj_n (g'108 16) (f 15).toNatClampNeg 3 ≤ (f 62).toInt + 64 * mj_n (g 16) (f 15).toNatClampNeg 3 := h115
      have h116_ : ∀ j, j ∉ [16, 60, 63, 64, 65, 66, 67, 69, 70, 71, 72, 73] → g'108 j = g j := h116
      have hR117_ : RJ (upd (upd (upd f 62 o105) 68 s106) 75 m107) g'108 gs bc [] 0 [] := hR117
      show am_E _ _ _ _ [some (.ref 39)] [] _ _
      refine am_e2 (v := 39) hi_209_4 rfl ?_
      refine am_e7 hi_209_5 ?_
      refine mm_20 (v := .int (f 15)) hS110 hi_209_6 rfl ?_
      refine am_e0 hi_209_9 ?_
      refine am_e10 (z := z1) hi_209_10 hz1 ?_
      refine mm_21 (v := z1) hS110 hi_209_11 rfl (Nat.le_of_ble_eq_true rfl) ms_15 ?_
      intro S118 hS119
      replace hS119 : MS S0 S118 (upd (upd (upd (upd f 15 z1) 62 o105) 68 s106) 75 m107) g'108 := hS119
      have hp120 : mj_n (g'108 16) (f 15).toNatClampNeg 3 = mj_n (g'108 16) z1.toNatClampNeg 3 + if (g'108 16 z1.toNatClampNeg).toInt = 3 then 1 else 0 := mj_pop (by rw [cl_toNat, cl_toNat]; omega)
      have hp1201 : mj_n (g'108 16) z1.toNatClampNeg 3 ≤ mj_n (g'108 16) (f 15).toNatClampNeg 3 := by rw [hp120]; split <;> omega
      have hp1202 : (g'108 16 z1.toNatClampNeg).toInt = 3 → mj_n (g'108 16) z1.toNatClampNeg 3 + 1 ≤ mj_n (g'108 16) (f 15).toNatClampNeg 3 := fun q => by rw [hp120, if_pos q]; exact Int.le_refl _
      refine am_e35 hi_209_14 ?_
      show am_E _ _ _ _ [some (.ref 39), some (.int z0), some (.int (f 19))] [] _ _
      refine am_e2 (v := 39) hi_258_35 rfl ?_
      refine am_e1 (v := z0) hi_258_36 rfl ?_
      refine am_e1 (v := f 19) hi_258_37 rfl ?_
      obtain ⟨z121, hz121, tz121⟩ := am_subI (x := z0) (y := f 19) (m := z0.toInt) (n := (f 19).toInt) rfl rfl (by omega) (by omega)
      refine am_e10 (z := z121) hi_258_38 hz121 ?_
      refine am_e32n (as := [.ref 39, .int z121]) (la := [some (.ref 39), some (.int z121), none]) (rest := []) hi_258_39 (am_hd0 (M := 258) (by decide) 39) (Nat.le_of_ble_eq_true rfl) (Nat.le_of_ble_eq_true rfl) (show 2 ≤ am_P0.2.2.1 240 from by decide +kernel) rfl (am_recv_ok hS119.fs) rfl rfl (ct_nils (d := (d + 5)) hS119 hR117_  (by show (0 : Int) ≤ (f 32).toInt; omega) (by show (f 32).toInt ≤ (63 : Int); omega) (by show (f 53).toInt ≤ (4096 : Int); omega) (by show (0 : Int) ≤ s106.toInt; omega) (by show s106.toInt ≤ (65534 : Int); omega) (by show s106.toInt + z121.toInt ≤ 65534; omega)) ?_
      rintro v122 S123 (⟨s124, g'125, hv126, hS127, hR131, h128, h129, h130⟩)
      subst hv126
      have h128_ : s106.toInt ≤ s124.toInt := h128
      have h129_ : s124.toInt ≤ s106.toInt + z121.toInt ∨ s124.toInt ≤ s106.toInt := h129
      have h130_ : ∀ j, j ∉ [60, 69, 70, 71, 72, 73] → g'125 j = g'108 j := h130
      replace hS127 : MS S0 S123 (upd (upd (upd (upd f 15 z1) 62 o105) 68 s124) 75 m107) g'125 := hS127
      have hR131_ : RJ (upd (upd (upd (upd f 15 z1) 62 o105) 68 s124) 75 m107) g'125 gs bc [] 0 [] := hR131
      show am_E _ _ _ _ [some (.ref 39), some (.int z0), some (.int (f 19))] [] _ _
      refine am_e1 (v := f 19) hi_258_42 rfl ?_
      refine am_e1 (v := z0) hi_258_43 rfl ?_
      by_cases c132 : (f 19).toInt ≤ z0.toInt
      · refine am_e13t hi_258_44 (am_cT (m := (f 19).toInt) (n := z0.toInt) rfl rfl c132) ?_
        refine am_e35 hi_258_59 ?_
        show am_E _ _ _ _ [some (.ref 39), some (.int 18), some (.int on), some (.int tw), some (.int th)] [] _ _
        refine am_e2 (v := 39) hi_180_332 rfl ?_
        refine am_e1 (v := on) hi_180_333 rfl ?_
        refine am_e1 (v := tw) hi_180_334 rfl ?_
        refine am_e32n (as := [.ref 39, .int on, .int tw]) (la := [some (.ref 39), some (.int on), some (.int tw), none, none, none]) (rest := []) hi_180_335 (am_hd0 (M := 180) (by decide) 335) (Nat.le_of_ble_eq_true rfl) (Nat.le_of_ble_eq_true rfl) (show 3 ≤ am_P0.2.2.1 241 from by decide +kernel) rfl (am_recv_ok hS127.fs) rfl rfl (ct_localEnd (d := (d + 5)) hS127 hR131_ (by intro i h1 h2; show 0 ≤ (g'125 23 i).toInt ∧ (g'125 23 i).toInt < 16384; rw [show g'125 23 = g'108 23 from h130_ 23 (by decide), show g'108 23 = g 23 from h116_ 23 (by decide)]; exact hw i (by omega) (by have h3 : (i : Int) < (f 20).toInt := h2; omega)) (by show (0 : Int) ≤ (f 32).toInt; omega) (by show (f 32).toInt ≤ (63 : Int); omega) (by show (f 53).toInt ≤ (4096 : Int); omega) (by show (0 : Int) ≤ (f 24).toInt; omega) (by show (f 24).toInt + (f 20).toInt ≤ 16000; omega) (by show (0 : Int) ≤ tw.toInt; omega) (by show tw.toInt ≤ (f 20).toInt; omega) (by show (0 : Int) ≤ s124.toInt; omega) (by show s124.toInt + (f 20).toInt ≤ 65530; omega) (by show (0 : Int) ≤ (f 8).toInt; omega)) ?_
        rintro v133 S134 (⟨a135, b136, q137, l138, y139, s140, g'141, hv142, hS143, hR150, h144, h145, h146, h147, h148, h149⟩)
        subst hv142
        have h144_ : q137.toInt = tw.toInt := h144
        have h145_ : l138.toInt = (f 24).toInt + (f 20).toInt - tw.toInt := h145
        have h146_ : s124.toInt ≤ s140.toInt := h146
        have h147_ : s140.toInt + tw.toInt ≤ s124.toInt + (f 20).toInt + 1 := h147
        have h148_ : ∀ j, j ∉ [25, 26, 27, 28, 29, 30, 58, 60, 69, 70, 71, 72, 73] → g'141 j = g'125 j := h148
        have h149_ : (0 : Int) ≤ a135.toInt := h149
        replace hS143 : MS S0 S134 (upd (upd (upd (upd (upd (upd (upd (upd (upd f 8 a135) 9 b136) 15 z1) 20 q137) 24 l138) 31 y139) 62 o105) 68 s140) 75 m107) g'141 := hS143
        have hR150_ : RJ (upd (upd (upd (upd (upd (upd (upd (upd (upd f 8 a135) 9 b136) 15 z1) 20 q137) 24 l138) 31 y139) 62 o105) 68 s140) 75 m107) g'141 gs bc [] 0 [] := hR150
        show am_E _ _ _ _ [some (.ref 39), some (.int 18), some (.int on), some (.int tw), some (.int th)] [] _ _
        refine am_e18 hi_180_338 ?_
        refine am_e35 hi_180_371 ?_
        have q1 : mg_p1 gs = mg_p1 gs := rfl
        have q2 : mg_p2 gs = mg_p2 gs := rfl
        have q3 : mg_p3 gs = mg_p3 gs := rfl
        have q4 : mg_p4 gs = mg_p4 gs := rfl
        refine ⟨_, _, _, bc, rfl, hS143, Or.inl ⟨⟨hR150_, ?_, ?_⟩, rfl, ?_⟩⟩
        · exact (mg_cast (mg_good_ext _ _ _ _ _ _ (fun i _ => by show g'141 34 i = g 34 i; rw [show g'141 34 = g'125 34 from h148_ 34 (by decide), show g'125 34 = g'108 34 from h130_ 34 (by decide), show g'108 34 = g 34 from h116_ 34 (by decide)]) (fun i _ => by show g'141 38 i = g 38 i; rw [show g'141 38 = g'125 38 from h148_ 38 (by decide), show g'125 38 = g'108 38 from h130_ 38 (by decide), show g'108 38 = g 38 from h116_ 38 (by decide)]) (fun i _ => by show g'141 23 i = g 23 i; rw [show g'141 23 = g'125 23 from h148_ 23 (by decide), show g'125 23 = g'108 23 from h130_ 23 (by decide), show g'108 23 = g 23 from h116_ 23 (by decide)]) hrest) (by show (f 15).toInt + -1 = z1.toInt; omega) (by show tw.toInt = q137.toInt; omega) (by show (f 37).toInt + 0 = (f 37).toInt; omega) (by show (f 32).toInt + 0 = (f 32).toInt; omega) (by show (f 5).toInt + 0 = (f 5).toInt; omega) : mg_good (g'141 34) (g'141 38) (g'141 23) gs (z1.toInt) (q137.toInt) ((f 37).toInt) ((f 32).toInt) ((f 5).toInt))
        · exact ⟨(by show 0 ≤ (f 4).toInt; omega), (by show (f 4).toInt ≤ (f 0).toInt; omega), (by show (f 0).toInt ≤ 512; omega), (by show 0 ≤ l138.toInt; omega), (by show l138.toInt + q137.toInt + mg_p1 gs ≤ 4 * (f 4).toInt; omega), (by show q137.toInt ≤ (f 4).toInt; omega), (by show z1.toInt + mg_p2 gs ≤ (f 4).toInt; omega), (by show mg_p3 gs ≤ 20 * (f 4).toInt + 20; omega), (by show 0 ≤ s140.toInt; omega), (by show s140.toInt + 3 * q137.toInt + mg_p4 gs ≤ 60 * (f 4).toInt + 60; omega), (by show 0 ≤ o105.toInt; omega), (by show o105.toInt + 64 * mj_n (g'141 16) z1.toNatClampNeg 3 ≤ 64 * (f 4).toInt; rw [show g'141 16 = g'125 16 from h148_ 16 (by decide), show g'125 16 = g'108 16 from h130_ 16 (by decide)]; omega), (by show 0 ≤ (f 44).toInt; omega), (by show (f 44).toInt ≤ (f 4).toInt; omega), (by show 0 ≤ (f 48).toInt; omega), (by show (f 48).toInt ≤ (f 4).toInt; omega), (by show 1 ≤ (f 53).toInt; omega), (by show (f 53).toInt ≤ (f 4).toInt + 1; omega), (by show 0 ≤ (f 19).toInt; omega), (by show (f 19).toInt ≤ 600; omega), (by show 0 ≤ (f 6).toInt; omega), (by show 0 ≤ a135.toInt; omega)⟩
        · show 100 * ((f 0).toInt - (f 4).toInt) + mg_p3 gs < 100 * ((f 0).toInt - (f 4).toInt) + (1 + mg_p3 gs); omega
      · refine am_e13f hi_258_44 (am_cF (m := (f 19).toInt) (n := z0.toInt) rfl rfl c132) ?_
        refine am_e2 (v := 39) hi_258_47 rfl ?_
        refine am_e0 hi_258_48 ?_
        refine am_e1 (v := f 19) hi_258_50 rfl ?_
        refine am_e1 (v := z0) hi_258_51 rfl ?_
        obtain ⟨z151, hz151, tz151⟩ := am_subI (x := f 19) (y := z0) (m := (f 19).toInt) (n := z0.toInt) rfl rfl (by omega) (by omega)
        refine am_e10 (z := z151) hi_258_52 hz151 ?_
        refine am_e0 hi_258_53 ?_
        refine am_e0 hi_258_54 ?_
        refine am_e32n (as := [.ref 39, .int 26, .int z151, .int 0, .int 0]) (la := [some (.ref 39), some (.int 26), some (.int z151), some (.int 0), some (.int 0)]) (rest := []) hi_258_55 (am_hd0 (M := 258) (by decide) 55) (Nat.le_of_ble_eq_true rfl) (Nat.le_of_ble_eq_true rfl) (show 5 ≤ am_P0.2.2.1 189 from by decide +kernel) rfl (am_recv_ok hS127.fs) rfl rfl (ct_put (d := (d + 6)) hS127 hR131_  (by show (0 : Int) ≤ (f 32).toInt; omega) (by show (f 32).toInt ≤ (63 : Int); omega) (by show (f 53).toInt ≤ (4096 : Int); omega) (by show (0 : Int) ≤ s124.toInt; omega) (by show s124.toInt ≤ (65534 : Int); omega)) ?_
        rintro v152 S153 (⟨z154, r155, g'156, hv157, hS158, hR162, h159, h160, h161⟩)
        subst hv157
        have h159_ : z154.toInt = s124.toInt + 1 := h159
        have h160_ : r155.toInt = s124.toInt := h160
        have h161_ : ∀ j, j ∉ [60, 69, 70, 71, 72, 73] → g'156 j = g'125 j := h161
        replace hS158 : MS S0 S153 (upd (upd (upd (upd f 15 z1) 62 o105) 68 z154) 75 m107) g'156 := hS158
        have hR162_ : RJ (upd (upd (upd (upd f 15 z1) 62 o105) 68 z154) 75 m107) g'156 gs bc [] 0 (s124.toNatClampNeg :: []) := hR162
        show am_E _ _ _ _ [some (.ref 39), some (.int z0), some (.int (f 19))] [.int r155] _ _
        refine am_e6i hi_258_58 ?_
        refine am_e35 hi_258_59 ?_
        show am_E _ _ _ _ [some (.ref 39), some (.int 18), some (.int on), some (.int tw), some (.int th)] [] _ _
        refine am_e2 (v := 39) hi_180_332 rfl ?_
        refine am_e1 (v := on) hi_180_333 rfl ?_
        refine am_e1 (v := tw) hi_180_334 rfl ?_
        refine am_e32n (as := [.ref 39, .int on, .int tw]) (la := [some (.ref 39), some (.int on), some (.int tw), none, none, none]) (rest := []) hi_180_335 (am_hd0 (M := 180) (by decide) 335) (Nat.le_of_ble_eq_true rfl) (Nat.le_of_ble_eq_true rfl) (show 3 ≤ am_P0.2.2.1 241 from by decide +kernel) rfl (am_recv_ok hS158.fs) rfl rfl (ct_localEnd (d := (d + 5)) hS158 hR162_ (by intro i h1 h2; show 0 ≤ (g'156 23 i).toInt ∧ (g'156 23 i).toInt < 16384; rw [show g'156 23 = g'125 23 from h161_ 23 (by decide), show g'125 23 = g'108 23 from h130_ 23 (by decide), show g'108 23 = g 23 from h116_ 23 (by decide)]; exact hw i (by omega) (by have h3 : (i : Int) < (f 20).toInt := h2; omega)) (by show (0 : Int) ≤ (f 32).toInt; omega) (by show (f 32).toInt ≤ (63 : Int); omega) (by show (f 53).toInt ≤ (4096 : Int); omega) (by show (0 : Int) ≤ (f 24).toInt; omega) (by show (f 24).toInt + (f 20).toInt ≤ 16000; omega) (by show (0 : Int) ≤ tw.toInt; omega) (by show tw.toInt ≤ (f 20).toInt; omega) (by show (0 : Int) ≤ z154.toInt; omega) (by show z154.toInt + (f 20).toInt ≤ 65530; omega) (by show (0 : Int) ≤ (f 8).toInt; omega)) ?_
        rintro v163 S164 (⟨a165, b166, q167, l168, y169, s170, g'171, hv172, hS173, hR180, h174, h175, h176, h177, h178, h179⟩)
        subst hv172
        have h174_ : q167.toInt = tw.toInt := h174
        have h175_ : l168.toInt = (f 24).toInt + (f 20).toInt - tw.toInt := h175
        have h176_ : z154.toInt ≤ s170.toInt := h176
        have h177_ : s170.toInt + tw.toInt ≤ z154.toInt + (f 20).toInt + 1 := h177
        have h178_ : ∀ j, j ∉ [25, 26, 27, 28, 29, 30, 58, 60, 69, 70, 71, 72, 73] → g'171 j = g'156 j := h178
        have h179_ : (0 : Int) ≤ a165.toInt := h179
        replace hS173 : MS S0 S164 (upd (upd (upd (upd (upd (upd (upd (upd (upd f 8 a165) 9 b166) 15 z1) 20 q167) 24 l168) 31 y169) 62 o105) 68 s170) 75 m107) g'171 := hS173
        have hR180_ : RJ (upd (upd (upd (upd (upd (upd (upd (upd (upd f 8 a165) 9 b166) 15 z1) 20 q167) 24 l168) 31 y169) 62 o105) 68 s170) 75 m107) g'171 gs bc [] 0 (s124.toNatClampNeg :: []) := hR180
        show am_E _ _ _ _ [some (.ref 39), some (.int 18), some (.int on), some (.int tw), some (.int th)] [] _ _
        refine am_e18 hi_180_338 ?_
        refine am_e35 hi_180_371 ?_
        have q1 : mg_p1 gs = mg_p1 gs := rfl
        have q2 : mg_p2 gs = mg_p2 gs := rfl
        have q3 : mg_p3 gs = mg_p3 gs := rfl
        have q4 : mg_p4 gs = mg_p4 gs := rfl
        refine ⟨_, _, _, bc, rfl, hS173, Or.inl ⟨⟨(RJ.fewer (pj' := []) hR180_ (fun _ h => nomatch h)), ?_, ?_⟩, rfl, ?_⟩⟩
        · exact (mg_cast (mg_good_ext _ _ _ _ _ _ (fun i _ => by show g'171 34 i = g 34 i; rw [show g'171 34 = g'156 34 from h178_ 34 (by decide), show g'156 34 = g'125 34 from h161_ 34 (by decide), show g'125 34 = g'108 34 from h130_ 34 (by decide), show g'108 34 = g 34 from h116_ 34 (by decide)]) (fun i _ => by show g'171 38 i = g 38 i; rw [show g'171 38 = g'156 38 from h178_ 38 (by decide), show g'156 38 = g'125 38 from h161_ 38 (by decide), show g'125 38 = g'108 38 from h130_ 38 (by decide), show g'108 38 = g 38 from h116_ 38 (by decide)]) (fun i _ => by show g'171 23 i = g 23 i; rw [show g'171 23 = g'156 23 from h178_ 23 (by decide), show g'156 23 = g'125 23 from h161_ 23 (by decide), show g'125 23 = g'108 23 from h130_ 23 (by decide), show g'108 23 = g 23 from h116_ 23 (by decide)]) hrest) (by show (f 15).toInt + -1 = z1.toInt; omega) (by show tw.toInt = q167.toInt; omega) (by show (f 37).toInt + 0 = (f 37).toInt; omega) (by show (f 32).toInt + 0 = (f 32).toInt; omega) (by show (f 5).toInt + 0 = (f 5).toInt; omega) : mg_good (g'171 34) (g'171 38) (g'171 23) gs (z1.toInt) (q167.toInt) ((f 37).toInt) ((f 32).toInt) ((f 5).toInt))
        · exact ⟨(by show 0 ≤ (f 4).toInt; omega), (by show (f 4).toInt ≤ (f 0).toInt; omega), (by show (f 0).toInt ≤ 512; omega), (by show 0 ≤ l168.toInt; omega), (by show l168.toInt + q167.toInt + mg_p1 gs ≤ 4 * (f 4).toInt; omega), (by show q167.toInt ≤ (f 4).toInt; omega), (by show z1.toInt + mg_p2 gs ≤ (f 4).toInt; omega), (by show mg_p3 gs ≤ 20 * (f 4).toInt + 20; omega), (by show 0 ≤ s170.toInt; omega), (by show s170.toInt + 3 * q167.toInt + mg_p4 gs ≤ 60 * (f 4).toInt + 60; omega), (by show 0 ≤ o105.toInt; omega), (by show o105.toInt + 64 * mj_n (g'171 16) z1.toNatClampNeg 3 ≤ 64 * (f 4).toInt; rw [show g'171 16 = g'156 16 from h178_ 16 (by decide), show g'156 16 = g'125 16 from h161_ 16 (by decide), show g'125 16 = g'108 16 from h130_ 16 (by decide)]; omega), (by show 0 ≤ (f 44).toInt; omega), (by show (f 44).toInt ≤ (f 4).toInt; omega), (by show 0 ≤ (f 48).toInt; omega), (by show (f 48).toInt ≤ (f 4).toInt; omega), (by show 1 ≤ (f 53).toInt; omega), (by show (f 53).toInt ≤ (f 4).toInt + 1; omega), (by show 0 ≤ (f 19).toInt; omega), (by show (f 19).toInt ≤ 600; omega), (by show 0 ≤ (f 6).toInt; omega), (by show 0 ≤ a165.toInt; omega)⟩
        · show 100 * ((f 0).toInt - (f 4).toInt) + mg_p3 gs < 100 * ((f 0).toInt - (f 4).toInt) + (1 + mg_p3 gs); omega
    · refine am_e13f hi_216_27 (am_cF (m := (g 16 z1.toNatClampNeg).toInt) (n := (2 : Int)) rfl (by decide) c102) ?_
      refine am_e0 hi_216_30 ?_
      refine am_e18 hi_216_31 ?_
      refine am_e36 hi_216_35 (by decide) ?_
      show am_E _ _ _ _ [some (.ref 39), some (.int z0), some (.int (f 19))] [.int 1] _ _
      refine am_e12f hi_258_4 (by decide) ?_
      refine am_e1 (v := f 19) hi_258_7 rfl ?_
      refine am_e1 (v := z0) hi_258_8 rfl ?_
      by_cases c181 : z0.toInt < (f 19).toInt
      · refine am_e13t hi_258_9 (am_cT (m := (f 19).toInt) (n := z0.toInt) rfl rfl c181) ?_
        refine am_e2 (v := 39) hi_258_31 rfl ?_
        refine am_e32w (as := [.ref 39]) (la := [some (.ref 39)]) (rest := []) hi_258_32 (am_hd0 (M := 258) (by decide) 32) (Nat.le_of_ble_eq_true rfl) (Nat.le_of_ble_eq_true rfl) (show 1 ≤ am_P0.2.2.1 209 from by decide +kernel) rfl (am_recv_ok hS.fs) rfl rfl ?_
        refine am_e2 (v := 39) hi_209_0 rfl ?_
        refine am_e32n (as := [.ref 39]) (la := [some (.ref 39), none, none, none]) (rest := []) hi_209_1 (am_hd0 (M := 209) (by decide) 1) (Nat.le_of_ble_eq_true rfl) (Nat.le_of_ble_eq_true rfl) (show 1 ≤ am_P0.2.2.1 204 from by decide +kernel) rfl (am_recv_ok hS.fs) rfl rfl (ct_load (d := (d + 3)) hS hR  (by show (0 : Int) ≤ (f 32).toInt; omega) (by show (f 32).toInt ≤ (63 : Int); omega) (by show (f 53).toInt ≤ (4096 : Int); omega) (by show (0 : Int) ≤ (f 68).toInt; omega) (by show (f 68).toInt ≤ (65534 : Int); omega) (by show (1 : Int) ≤ (f 15).toInt; omega) (by show (f 15).toInt ≤ (32767 : Int); omega) (by show (0 : Int) ≤ (f 24).toInt; omega) (by show (f 24).toInt ≤ (16384 : Int); omega) (by show (0 : Int) ≤ (f 62).toInt; omega) (by show (f 62).toInt ≤ (65000 : Int); omega)) ?_
        rintro v182 S183 (⟨o184, s185, m186, g'187, hv188, hS189, hR196, h190, h191, h192, h193, h194, h195⟩)
        subst hv188
        have h190_ : (f 62).toInt ≤ o184.toInt := h190
        have h191_ : o184.toInt ≤ (f 62).toInt + 64 := h191
        have h192_ : (f 68).toInt ≤ s185.toInt := h192
        have h193_ : s185.toInt ≤ (f 68).toInt + 1 := h193
        have h194_ : o184.toInt + 64 * mj_n (g'187 16) (f 15).toNatClampNeg 3 ≤ (f 62).toInt + 64 * mj_n (g 16) (f 15).toNatClampNeg 3 := h194
        have h195_ : ∀ j, j ∉ [16, 60, 63, 64, 65, 66, 67, 69, 70, 71, 72, 73] → g'187 j = g j := h195
        have hR196_ : RJ (upd (upd (upd f 62 o184) 68 s185) 75 m186) g'187 gs bc [] 0 [] := hR196
        show am_E _ _ _ _ [some (.ref 39)] [] _ _
        refine am_e2 (v := 39) hi_209_4 rfl ?_
        refine am_e7 hi_209_5 ?_
        refine mm_20 (v := .int (f 15)) hS189 hi_209_6 rfl ?_
        refine am_e0 hi_209_9 ?_
        refine am_e10 (z := z1) hi_209_10 hz1 ?_
        refine mm_21 (v := z1) hS189 hi_209_11 rfl (Nat.le_of_ble_eq_true rfl) ms_15 ?_
        intro S197 hS198
        replace hS198 : MS S0 S197 (upd (upd (upd (upd f 15 z1) 62 o184) 68 s185) 75 m186) g'187 := hS198
        have hp199 : mj_n (g'187 16) (f 15).toNatClampNeg 3 = mj_n (g'187 16) z1.toNatClampNeg 3 + if (g'187 16 z1.toNatClampNeg).toInt = 3 then 1 else 0 := mj_pop (by rw [cl_toNat, cl_toNat]; omega)
        have hp1991 : mj_n (g'187 16) z1.toNatClampNeg 3 ≤ mj_n (g'187 16) (f 15).toNatClampNeg 3 := by rw [hp199]; split <;> omega
        have hp1992 : (g'187 16 z1.toNatClampNeg).toInt = 3 → mj_n (g'187 16) z1.toNatClampNeg 3 + 1 ≤ mj_n (g'187 16) (f 15).toNatClampNeg 3 := fun q => by rw [hp199, if_pos q]; exact Int.le_refl _
        refine am_e35 hi_209_14 ?_
        show am_E _ _ _ _ [some (.ref 39), some (.int z0), some (.int (f 19))] [] _ _
        refine am_e2 (v := 39) hi_258_35 rfl ?_
        refine am_e1 (v := z0) hi_258_36 rfl ?_
        refine am_e1 (v := f 19) hi_258_37 rfl ?_
        obtain ⟨z200, hz200, tz200⟩ := am_subI (x := z0) (y := f 19) (m := z0.toInt) (n := (f 19).toInt) rfl rfl (by omega) (by omega)
        refine am_e10 (z := z200) hi_258_38 hz200 ?_
        refine am_e32n (as := [.ref 39, .int z200]) (la := [some (.ref 39), some (.int z200), none]) (rest := []) hi_258_39 (am_hd0 (M := 258) (by decide) 39) (Nat.le_of_ble_eq_true rfl) (Nat.le_of_ble_eq_true rfl) (show 2 ≤ am_P0.2.2.1 240 from by decide +kernel) rfl (am_recv_ok hS198.fs) rfl rfl (ct_nils (d := (d + 5)) hS198 hR196_  (by show (0 : Int) ≤ (f 32).toInt; omega) (by show (f 32).toInt ≤ (63 : Int); omega) (by show (f 53).toInt ≤ (4096 : Int); omega) (by show (0 : Int) ≤ s185.toInt; omega) (by show s185.toInt ≤ (65534 : Int); omega) (by show s185.toInt + z200.toInt ≤ 65534; omega)) ?_
        rintro v201 S202 (⟨s203, g'204, hv205, hS206, hR210, h207, h208, h209⟩)
        subst hv205
        have h207_ : s185.toInt ≤ s203.toInt := h207
        have h208_ : s203.toInt ≤ s185.toInt + z200.toInt ∨ s203.toInt ≤ s185.toInt := h208
        have h209_ : ∀ j, j ∉ [60, 69, 70, 71, 72, 73] → g'204 j = g'187 j := h209
        replace hS206 : MS S0 S202 (upd (upd (upd (upd f 15 z1) 62 o184) 68 s203) 75 m186) g'204 := hS206
        have hR210_ : RJ (upd (upd (upd (upd f 15 z1) 62 o184) 68 s203) 75 m186) g'204 gs bc [] 0 [] := hR210
        show am_E _ _ _ _ [some (.ref 39), some (.int z0), some (.int (f 19))] [] _ _
        refine am_e1 (v := f 19) hi_258_42 rfl ?_
        refine am_e1 (v := z0) hi_258_43 rfl ?_
        refine am_e13f hi_258_44 (am_cF (m := (f 19).toInt) (n := z0.toInt) rfl rfl (by simp only [am_cI]; omega)) ?_
        refine am_e2 (v := 39) hi_258_47 rfl ?_
        refine am_e0 hi_258_48 ?_
        refine am_e1 (v := f 19) hi_258_50 rfl ?_
        refine am_e1 (v := z0) hi_258_51 rfl ?_
        obtain ⟨z211, hz211, tz211⟩ := am_subI (x := f 19) (y := z0) (m := (f 19).toInt) (n := z0.toInt) rfl rfl (by omega) (by omega)
        refine am_e10 (z := z211) hi_258_52 hz211 ?_
        refine am_e0 hi_258_53 ?_
        refine am_e0 hi_258_54 ?_
        refine am_e32n (as := [.ref 39, .int 26, .int z211, .int 0, .int 0]) (la := [some (.ref 39), some (.int 26), some (.int z211), some (.int 0), some (.int 0)]) (rest := []) hi_258_55 (am_hd0 (M := 258) (by decide) 55) (Nat.le_of_ble_eq_true rfl) (Nat.le_of_ble_eq_true rfl) (show 5 ≤ am_P0.2.2.1 189 from by decide +kernel) rfl (am_recv_ok hS206.fs) rfl rfl (ct_put (d := (d + 6)) hS206 hR210_  (by show (0 : Int) ≤ (f 32).toInt; omega) (by show (f 32).toInt ≤ (63 : Int); omega) (by show (f 53).toInt ≤ (4096 : Int); omega) (by show (0 : Int) ≤ s203.toInt; omega) (by show s203.toInt ≤ (65534 : Int); omega)) ?_
        rintro v212 S213 (⟨z214, r215, g'216, hv217, hS218, hR222, h219, h220, h221⟩)
        subst hv217
        have h219_ : z214.toInt = s203.toInt + 1 := h219
        have h220_ : r215.toInt = s203.toInt := h220
        have h221_ : ∀ j, j ∉ [60, 69, 70, 71, 72, 73] → g'216 j = g'204 j := h221
        replace hS218 : MS S0 S213 (upd (upd (upd (upd f 15 z1) 62 o184) 68 z214) 75 m186) g'216 := hS218
        have hR222_ : RJ (upd (upd (upd (upd f 15 z1) 62 o184) 68 z214) 75 m186) g'216 gs bc [] 0 (s203.toNatClampNeg :: []) := hR222
        show am_E _ _ _ _ [some (.ref 39), some (.int z0), some (.int (f 19))] [.int r215] _ _
        refine am_e6i hi_258_58 ?_
        refine am_e35 hi_258_59 ?_
        show am_E _ _ _ _ [some (.ref 39), some (.int 18), some (.int on), some (.int tw), some (.int th)] [] _ _
        refine am_e2 (v := 39) hi_180_332 rfl ?_
        refine am_e1 (v := on) hi_180_333 rfl ?_
        refine am_e1 (v := tw) hi_180_334 rfl ?_
        refine am_e32n (as := [.ref 39, .int on, .int tw]) (la := [some (.ref 39), some (.int on), some (.int tw), none, none, none]) (rest := []) hi_180_335 (am_hd0 (M := 180) (by decide) 335) (Nat.le_of_ble_eq_true rfl) (Nat.le_of_ble_eq_true rfl) (show 3 ≤ am_P0.2.2.1 241 from by decide +kernel) rfl (am_recv_ok hS218.fs) rfl rfl (ct_localEnd (d := (d + 5)) hS218 hR222_ (by intro i h1 h2; show 0 ≤ (g'216 23 i).toInt ∧ (g'216 23 i).toInt < 16384; rw [show g'216 23 = g'204 23 from h221_ 23 (by decide), show g'204 23 = g'187 23 from h209_ 23 (by decide), show g'187 23 = g 23 from h195_ 23 (by decide)]; exact hw i (by omega) (by have h3 : (i : Int) < (f 20).toInt := h2; omega)) (by show (0 : Int) ≤ (f 32).toInt; omega) (by show (f 32).toInt ≤ (63 : Int); omega) (by show (f 53).toInt ≤ (4096 : Int); omega) (by show (0 : Int) ≤ (f 24).toInt; omega) (by show (f 24).toInt + (f 20).toInt ≤ 16000; omega) (by show (0 : Int) ≤ tw.toInt; omega) (by show tw.toInt ≤ (f 20).toInt; omega) (by show (0 : Int) ≤ z214.toInt; omega) (by show z214.toInt + (f 20).toInt ≤ 65530; omega) (by show (0 : Int) ≤ (f 8).toInt; omega)) ?_
        rintro v223 S224 (⟨a225, b226, q227, l228, y229, s230, g'231, hv232, hS233, hR240, h234, h235, h236, h237, h238, h239⟩)
        subst hv232
        have h234_ : q227.toInt = tw.toInt := h234
        have h235_ : l228.toInt = (f 24).toInt + (f 20).toInt - tw.toInt := h235
        have h236_ : z214.toInt ≤ s230.toInt := h236
        have h237_ : s230.toInt + tw.toInt ≤ z214.toInt + (f 20).toInt + 1 := h237
        have h238_ : ∀ j, j ∉ [25, 26, 27, 28, 29, 30, 58, 60, 69, 70, 71, 72, 73] → g'231 j = g'216 j := h238
        have h239_ : (0 : Int) ≤ a225.toInt := h239
        replace hS233 : MS S0 S224 (upd (upd (upd (upd (upd (upd (upd (upd (upd f 8 a225) 9 b226) 15 z1) 20 q227) 24 l228) 31 y229) 62 o184) 68 s230) 75 m186) g'231 := hS233
        have hR240_ : RJ (upd (upd (upd (upd (upd (upd (upd (upd (upd f 8 a225) 9 b226) 15 z1) 20 q227) 24 l228) 31 y229) 62 o184) 68 s230) 75 m186) g'231 gs bc [] 0 (s203.toNatClampNeg :: []) := hR240
        show am_E _ _ _ _ [some (.ref 39), some (.int 18), some (.int on), some (.int tw), some (.int th)] [] _ _
        refine am_e18 hi_180_338 ?_
        refine am_e35 hi_180_371 ?_
        have q1 : mg_p1 gs = mg_p1 gs := rfl
        have q2 : mg_p2 gs = mg_p2 gs := rfl
        have q3 : mg_p3 gs = mg_p3 gs := rfl
        have q4 : mg_p4 gs = mg_p4 gs := rfl
        refine ⟨_, _, _, bc, rfl, hS233, Or.inl ⟨⟨(RJ.fewer (pj' := []) hR240_ (fun _ h => nomatch h)), ?_, ?_⟩, rfl, ?_⟩⟩
        · exact (mg_cast (mg_good_ext _ _ _ _ _ _ (fun i _ => by show g'231 34 i = g 34 i; rw [show g'231 34 = g'216 34 from h238_ 34 (by decide), show g'216 34 = g'204 34 from h221_ 34 (by decide), show g'204 34 = g'187 34 from h209_ 34 (by decide), show g'187 34 = g 34 from h195_ 34 (by decide)]) (fun i _ => by show g'231 38 i = g 38 i; rw [show g'231 38 = g'216 38 from h238_ 38 (by decide), show g'216 38 = g'204 38 from h221_ 38 (by decide), show g'204 38 = g'187 38 from h209_ 38 (by decide), show g'187 38 = g 38 from h195_ 38 (by decide)]) (fun i _ => by show g'231 23 i = g 23 i; rw [show g'231 23 = g'216 23 from h238_ 23 (by decide), show g'216 23 = g'204 23 from h221_ 23 (by decide), show g'204 23 = g'187 23 from h209_ 23 (by decide), show g'187 23 = g 23 from h195_ 23 (by decide)]) hrest) (by show (f 15).toInt + -1 = z1.toInt; omega) (by show tw.toInt = q227.toInt; omega) (by show (f 37).toInt + 0 = (f 37).toInt; omega) (by show (f 32).toInt + 0 = (f 32).toInt; omega) (by show (f 5).toInt + 0 = (f 5).toInt; omega) : mg_good (g'231 34) (g'231 38) (g'231 23) gs (z1.toInt) (q227.toInt) ((f 37).toInt) ((f 32).toInt) ((f 5).toInt))
        · exact ⟨(by show 0 ≤ (f 4).toInt; omega), (by show (f 4).toInt ≤ (f 0).toInt; omega), (by show (f 0).toInt ≤ 512; omega), (by show 0 ≤ l228.toInt; omega), (by show l228.toInt + q227.toInt + mg_p1 gs ≤ 4 * (f 4).toInt; omega), (by show q227.toInt ≤ (f 4).toInt; omega), (by show z1.toInt + mg_p2 gs ≤ (f 4).toInt; omega), (by show mg_p3 gs ≤ 20 * (f 4).toInt + 20; omega), (by show 0 ≤ s230.toInt; omega), (by show s230.toInt + 3 * q227.toInt + mg_p4 gs ≤ 60 * (f 4).toInt + 60; omega), (by show 0 ≤ o184.toInt; omega), (by show o184.toInt + 64 * mj_n (g'231 16) z1.toNatClampNeg 3 ≤ 64 * (f 4).toInt; rw [show g'231 16 = g'216 16 from h238_ 16 (by decide), show g'216 16 = g'204 16 from h221_ 16 (by decide), show g'204 16 = g'187 16 from h209_ 16 (by decide)]; omega), (by show 0 ≤ (f 44).toInt; omega), (by show (f 44).toInt ≤ (f 4).toInt; omega), (by show 0 ≤ (f 48).toInt; omega), (by show (f 48).toInt ≤ (f 4).toInt; omega), (by show 1 ≤ (f 53).toInt; omega), (by show (f 53).toInt ≤ (f 4).toInt + 1; omega), (by show 0 ≤ (f 19).toInt; omega), (by show (f 19).toInt ≤ 600; omega), (by show 0 ≤ (f 6).toInt; omega), (by show 0 ≤ a225.toInt; omega)⟩
        · show 100 * ((f 0).toInt - (f 4).toInt) + mg_p3 gs < 100 * ((f 0).toInt - (f 4).toInt) + (1 + mg_p3 gs); omega
      · refine am_e13f hi_258_9 (am_cF (m := (f 19).toInt) (n := z0.toInt) rfl rfl c181) ?_
        refine am_e2 (v := 39) hi_258_12 rfl ?_
        refine am_e32w (as := [.ref 39]) (la := [some (.ref 39), none]) (rest := []) hi_258_13 (am_hd0 (M := 258) (by decide) 13) (Nat.le_of_ble_eq_true rfl) (Nat.le_of_ble_eq_true rfl) (show 1 ≤ am_P0.2.2.1 217 from by decide +kernel) rfl (am_recv_ok hS.fs) rfl rfl ?_
        refine am_e2 (v := 39) hi_217_0 rfl ?_
        refine mm_20 (v := .ref 47) hS hi_217_1 rfl ?_
        refine am_e2 (v := 39) hi_217_4 rfl ?_
        refine mm_20 (v := .int (f 15)) hS hi_217_5 rfl ?_
        refine am_e0 hi_217_8 ?_
        refine am_e10 (z := z1) hi_217_9 hz1 ?_
        refine mm_25 hS ma_17 hi_217_10 (by decide) (by omega) (by omega) ?_
        show am_E _ _ _ _ [some (.ref 39), none] [.int (g 17 z1.toNatClampNeg)] _ _
        have r241 : (g 16 z1.toNatClampNeg).toInt = 1 ∨ (g 16 z1.toNatClampNeg).toInt = 2 → 0 ≤ (g 17 z1.toNatClampNeg).toInt ∧ (g 17 z1.toNatClampNeg).toInt < 65536 := RJ.vc hR z1.toNatClampNeg
        refine am_e3 (ls' := [some (.ref 39), some (.int (g 17 z1.toNatClampNeg))]) hi_217_11 (Nat.le_of_ble_eq_true rfl) rfl ?_
        refine am_e2 (v := 39) hi_217_12 rfl ?_
        refine mm_20 (v := .ref 91) hS hi_217_13 rfl ?_
        refine am_e1 (v := g 17 z1.toNatClampNeg) hi_217_16 rfl ?_
        refine am_e2 (v := 39) hi_217_17 rfl ?_
        refine mm_20 (v := .ref 46) hS hi_217_18 rfl ?_
        refine am_e2 (v := 39) hi_217_21 rfl ?_
        refine mm_20 (v := .int (f 15)) hS hi_217_22 rfl ?_
        refine am_e0 hi_217_25 ?_
        refine am_e10 (z := z1) hi_217_26 hz1 ?_
        refine mm_25 hS ma_16 hi_217_27 (by decide) (by omega) (by omega) ?_
        show am_E _ _ _ _ [some (.ref 39), some (.int (g 17 z1.toNatClampNeg))] [.int (g 16 z1.toNatClampNeg), .int (g 17 z1.toNatClampNeg), .ref 91] _ _
        refine am_e0 hi_217_28 ?_
        refine am_e13t hi_217_29 (am_cT (m := (g 16 z1.toNatClampNeg).toInt) (n := (1 : Int)) rfl (by decide) (by simp only [am_cI]; omega)) ?_
        refine am_e0 hi_217_45 ?_
        refine mm_26 hS ma_72 hi_217_46 (by decide) (by omega) (by omega) (fun h => nomatch h) ?_
        intro S242 hS243
        refine am_e2 (v := 39) hi_217_47 rfl ?_
        refine am_e7 hi_217_48 ?_
        refine mm_20 (v := .int (f 15)) hS243 hi_217_49 rfl ?_
        refine am_e0 hi_217_52 ?_
        refine am_e10 (z := z1) hi_217_53 hz1 ?_
        refine mm_21 (v := z1) hS243 hi_217_54 rfl (Nat.le_of_ble_eq_true rfl) ms_15 ?_
        intro S244 hS245
        have hp246 : mj_n (g 16) (f 15).toNatClampNeg 3 = mj_n (g 16) z1.toNatClampNeg 3 + if (g 16 z1.toNatClampNeg).toInt = 3 then 1 else 0 := mj_pop (by rw [cl_toNat, cl_toNat]; omega)
        have hp2461 : mj_n (g 16) z1.toNatClampNeg 3 ≤ mj_n (g 16) (f 15).toNatClampNeg 3 := by rw [hp246]; split <;> omega
        have hp2462 : (g 16 z1.toNatClampNeg).toInt = 3 → mj_n (g 16) z1.toNatClampNeg 3 + 1 ≤ mj_n (g 16) (f 15).toNatClampNeg 3 := fun q => by rw [hp246, if_pos q]; exact Int.le_refl _
        refine am_e35 hi_217_57 ?_
        show am_E _ _ _ _ [some (.ref 39), some (.int z0), some (.int (f 19))] [] _ _
        refine am_e2 (v := 39) hi_258_16 rfl ?_
        refine am_e0 hi_258_17 ?_
        refine am_e1 (v := z0) hi_258_19 rfl ?_
        refine am_e1 (v := f 19) hi_258_20 rfl ?_
        obtain ⟨z247, hz247, tz247⟩ := am_subI (x := z0) (y := f 19) (m := z0.toInt) (n := (f 19).toInt) rfl rfl (by omega) (by omega)
        refine am_e10 (z := z247) hi_258_21 hz247 ?_
        refine am_e0 hi_258_22 ?_
        obtain ⟨z248, hz248, tz248⟩ := am_addI (x := z247) (y := 1) (m := z247.toInt) (n := (1 : Int)) rfl (by decide) (by omega) (by omega)
        refine am_e10 (z := z248) hi_258_23 hz248 ?_
        refine am_e0 hi_258_24 ?_
        refine am_e0 hi_258_25 ?_
        refine am_e32n (as := [.ref 39, .int 25, .int z248, .int 0, .int 0]) (la := [some (.ref 39), some (.int 25), some (.int z248), some (.int 0), some (.int 0)]) (rest := []) hi_258_26 (am_hd0 (M := 258) (by decide) 26) (Nat.le_of_ble_eq_true rfl) (Nat.le_of_ble_eq_true rfl) (show 5 ≤ am_P0.2.2.1 189 from by decide +kernel) rfl (am_recv_ok hS245.fs) rfl rfl (ct_put (d := (d + 6)) hS245 hR  (by show (0 : Int) ≤ (f 32).toInt; omega) (by show (f 32).toInt ≤ (63 : Int); omega) (by show (f 53).toInt ≤ (4096 : Int); omega) (by show (0 : Int) ≤ (f 68).toInt; omega) (by show (f 68).toInt ≤ (65534 : Int); omega)) ?_
        rintro v249 S250 (⟨z251, r252, g'253, hv254, hS255, hR259, h256, h257, h258⟩)
        subst hv254
        have h256_ : z251.toInt = (f 68).toInt + 1 := h256
        have h257_ : r252.toInt = (f 68).toInt := h257
        have h258_ : ∀ j, j ∉ [60, 69, 70, 71, 72, 73] → g'253 j = (upg g 72 (g 17 z1.toNatClampNeg).toNatClampNeg 0) j := h258
        have hR259_ : RJ (upd (upd f 15 z1) 68 z251) g'253 gs bc [] 0 ((f 68).toNatClampNeg :: []) := hR259
        show am_E _ _ _ _ [some (.ref 39), some (.int z0), some (.int (f 19))] [.int r252] _ _
        refine am_e6i hi_258_29 ?_
        refine am_e35 hi_258_30 ?_
        show am_E _ _ _ _ [some (.ref 39), some (.int 18), some (.int on), some (.int tw), some (.int th)] [] _ _
        refine am_e2 (v := 39) hi_180_332 rfl ?_
        refine am_e1 (v := on) hi_180_333 rfl ?_
        refine am_e1 (v := tw) hi_180_334 rfl ?_
        refine am_e32n (as := [.ref 39, .int on, .int tw]) (la := [some (.ref 39), some (.int on), some (.int tw), none, none, none]) (rest := []) hi_180_335 (am_hd0 (M := 180) (by decide) 335) (Nat.le_of_ble_eq_true rfl) (Nat.le_of_ble_eq_true rfl) (show 3 ≤ am_P0.2.2.1 241 from by decide +kernel) rfl (am_recv_ok hS255.fs) rfl rfl (ct_localEnd (d := (d + 5)) hS255 hR259_ (by intro i h1 h2; show 0 ≤ (g'253 23 i).toInt ∧ (g'253 23 i).toInt < 16384; rw [show g'253 23 = g 23 from h258_ 23 (by decide)]; exact hw i (by omega) (by have h3 : (i : Int) < (f 20).toInt := h2; omega)) (by show (0 : Int) ≤ (f 32).toInt; omega) (by show (f 32).toInt ≤ (63 : Int); omega) (by show (f 53).toInt ≤ (4096 : Int); omega) (by show (0 : Int) ≤ (f 24).toInt; omega) (by show (f 24).toInt + (f 20).toInt ≤ 16000; omega) (by show (0 : Int) ≤ tw.toInt; omega) (by show tw.toInt ≤ (f 20).toInt; omega) (by show (0 : Int) ≤ z251.toInt; omega) (by show z251.toInt + (f 20).toInt ≤ 65530; omega) (by show (0 : Int) ≤ (f 8).toInt; omega)) ?_
        rintro v260 S261 (⟨a262, b263, q264, l265, y266, s267, g'268, hv269, hS270, hR277, h271, h272, h273, h274, h275, h276⟩)
        subst hv269
        have h271_ : q264.toInt = tw.toInt := h271
        have h272_ : l265.toInt = (f 24).toInt + (f 20).toInt - tw.toInt := h272
        have h273_ : z251.toInt ≤ s267.toInt := h273
        have h274_ : s267.toInt + tw.toInt ≤ z251.toInt + (f 20).toInt + 1 := h274
        have h275_ : ∀ j, j ∉ [25, 26, 27, 28, 29, 30, 58, 60, 69, 70, 71, 72, 73] → g'268 j = g'253 j := h275
        have h276_ : (0 : Int) ≤ a262.toInt := h276
        replace hS270 : MS S0 S261 (upd (upd (upd (upd (upd (upd (upd f 8 a262) 9 b263) 15 z1) 20 q264) 24 l265) 31 y266) 68 s267) g'268 := hS270
        have hR277_ : RJ (upd (upd (upd (upd (upd (upd (upd f 8 a262) 9 b263) 15 z1) 20 q264) 24 l265) 31 y266) 68 s267) g'268 gs bc [] 0 ((f 68).toNatClampNeg :: []) := hR277
        show am_E _ _ _ _ [some (.ref 39), some (.int 18), some (.int on), some (.int tw), some (.int th)] [] _ _
        refine am_e18 hi_180_338 ?_
        refine am_e35 hi_180_371 ?_
        have q1 : mg_p1 gs = mg_p1 gs := rfl
        have q2 : mg_p2 gs = mg_p2 gs := rfl
        have q3 : mg_p3 gs = mg_p3 gs := rfl
        have q4 : mg_p4 gs = mg_p4 gs := rfl
        refine ⟨_, _, _, bc, rfl, hS270, Or.inl ⟨⟨(RJ.fewer (pj' := []) hR277_ (fun _ h => nomatch h)), ?_, ?_⟩, rfl, ?_⟩⟩
        · exact (mg_cast (mg_good_ext _ _ _ _ _ _ (fun i _ => by show g'268 34 i = g 34 i; rw [show g'268 34 = g'253 34 from h275_ 34 (by decide), show g'253 34 = g 34 from h258_ 34 (by decide)]) (fun i _ => by show g'268 38 i = g 38 i; rw [show g'268 38 = g'253 38 from h275_ 38 (by decide), show g'253 38 = g 38 from h258_ 38 (by decide)]) (fun i _ => by show g'268 23 i = g 23 i; rw [show g'268 23 = g'253 23 from h275_ 23 (by decide), show g'253 23 = g 23 from h258_ 23 (by decide)]) hrest) (by show (f 15).toInt + -1 = z1.toInt; omega) (by show tw.toInt = q264.toInt; omega) (by show (f 37).toInt + 0 = (f 37).toInt; omega) (by show (f 32).toInt + 0 = (f 32).toInt; omega) (by show (f 5).toInt + 0 = (f 5).toInt; omega) : mg_good (g'268 34) (g'268 38) (g'268 23) gs (z1.toInt) (q264.toInt) ((f 37).toInt) ((f 32).toInt) ((f 5).toInt))
        · exact ⟨(by show 0 ≤ (f 4).toInt; omega), (by show (f 4).toInt ≤ (f 0).toInt; omega), (by show (f 0).toInt ≤ 512; omega), (by show 0 ≤ l265.toInt; omega), (by show l265.toInt + q264.toInt + mg_p1 gs ≤ 4 * (f 4).toInt; omega), (by show q264.toInt ≤ (f 4).toInt; omega), (by show z1.toInt + mg_p2 gs ≤ (f 4).toInt; omega), (by show mg_p3 gs ≤ 20 * (f 4).toInt + 20; omega), (by show 0 ≤ s267.toInt; omega), (by show s267.toInt + 3 * q264.toInt + mg_p4 gs ≤ 60 * (f 4).toInt + 60; omega), (by show 0 ≤ (f 62).toInt; omega), (by show (f 62).toInt + 64 * mj_n (g'268 16) z1.toNatClampNeg 3 ≤ 64 * (f 4).toInt; rw [show g'268 16 = g'253 16 from h275_ 16 (by decide), show g'253 16 = g 16 from h258_ 16 (by decide)]; omega), (by show 0 ≤ (f 44).toInt; omega), (by show (f 44).toInt ≤ (f 4).toInt; omega), (by show 0 ≤ (f 48).toInt; omega), (by show (f 48).toInt ≤ (f 4).toInt; omega), (by show 1 ≤ (f 53).toInt; omega), (by show (f 53).toInt ≤ (f 4).toInt + 1; omega), (by show 0 ≤ (f 19).toInt; omega), (by show (f 19).toInt ≤ 600; omega), (by show 0 ≤ (f 6).toInt; omega), (by show 0 ≤ a262.toInt; omega)⟩
        · show 100 * ((f 0).toInt - (f 4).toInt) + mg_p3 gs < 100 * ((f 0).toInt - (f 4).toInt) + (1 + mg_p3 gs); omega
