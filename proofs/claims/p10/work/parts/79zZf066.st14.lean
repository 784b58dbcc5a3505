/-! STEPS: loops over lists begun (printed by wip/p2/st2.py) -/
set_option maxHeartbeats 16000000 in
theorem st_14 {sc : Nat × (Nat → Int32)} {d : Nat} {S0 S : am_S} {f : Nat → Int32} {g : Nat → Nat → Int32} {on : Int32} {tw : Int32} {th : Int32} {gs : List mg_E} {bc : List (List Nat)} (hS : MS S0 S f g) (hR : RJ f g gs bc [] 0 []) (hrest : mg_good (g 34) (g 38) (g 23) gs ((f 15).toInt + -1) ((f 20).toInt) ((f 37).toInt + 0) ((f 32).toInt + 0) ((f 5).toInt + 0)) (p0 : 0 ≤ (f 4).toInt) (p1 : (f 4).toInt ≤ (f 0).toInt) (p2 : (f 0).toInt ≤ 512) (p3 : 0 ≤ (f 24).toInt) (p4 : (f 24).toInt + (f 20).toInt + tw.toInt + mg_p1 gs ≤ 4 * (f 4).toInt) (p5 : (f 20).toInt ≤ (f 4).toInt) (p6 : (f 15).toInt + 0 + mg_p2 gs ≤ (f 4).toInt) (p7 : 1 + mg_p3 gs ≤ 20 * (f 4).toInt + 20) (p8 : 0 ≤ (f 68).toInt) (p9 : (f 68).toInt + 3 * (f 20).toInt + 0 + mg_p4 gs ≤ 60 * (f 4).toInt + 60) (p10 : 0 ≤ (f 62).toInt) (p11 : (f 62).toInt + 64 * mj_n (g 16) (f 15).toNatClampNeg 3 ≤ 64 * (f 4).toInt) (p12 : 0 ≤ (f 44).toInt) (p13 : (f 44).toInt ≤ (f 4).toInt) (p14 : 0 ≤ (f 48).toInt) (p15 : (f 48).toInt ≤ (f 4).toInt) (p16 : 1 ≤ (f 53).toInt) (p17 : (f 53).toInt ≤ (f 4).toInt + 1) (p18 : 0 ≤ (f 19).toInt) (p19 : (f 19).toInt ≤ 600) (p20 : 0 ≤ (f 6).toInt) (p21 : 0 ≤ (f 8).toInt) (p22 : 0 ≤ mg_p1 gs) (p23 : 0 ≤ mg_p2 gs) (p24 : 0 ≤ mg_p4 gs) (p25 : 0 ≤ (f 10).toInt) (p26 : (f 10).toInt ≤ mg_p3 gs) (p27 : 0 ≤ mj_n (g 16) (f 15).toNatClampNeg 3) (p28 : 1 ≤ (f 15).toInt) (p29 : 0 ≤ (f 20).toInt) (p30 : 1 ≤ (f 37).toInt) (p31 : 0 ≤ (f 32).toInt) (p32 : (f 32).toInt ≤ (f 5).toInt) (p33 : (f 5).toInt ≤ 48) (p34 : (f 37).toInt ≤ 2 * (f 5).toInt + 1) (p35 : 0 ≤ on.toInt) (p36 : 1 ≤ tw.toInt) (p37 : on.toInt + 2 * tw.toInt ≤ 16000) : am_E (am_PP sc) (d + 8) 180 0 [some (.ref 39), some (.int 14), some (.int on), some (.int tw), some (.int th)] [] S (am_N fun v S1 => ∃ (f' : Nat → Int32) (g' : Nat → Nat → Int32) (gs' : List mg_E) (bc' : List (List Nat)), v = none ∧ MS S0 S1 f' g' ∧ (mg_on f (100 * ((f 0).toInt - (f 4).toInt) + (1 + mg_p3 gs)) f' g' gs' bc' ∨ mg_off f f' g' bc')) := by
  have hbs := mg_basic hrest
  refine am_e1 (v := 14) hi_180_0 rfl ?_
  refine am_e0 hi_180_1 ?_
  refine am_e13t hi_180_3 (by decide) ?_
  refine am_e1 (v := 14) hi_180_14 rfl ?_
  refine am_e19 (t := 262) hi_180_15 (by decide) ?_
  refine am_e2 (v := 39) hi_180_262 rfl ?_
  refine am_e1 (v := on) hi_180_263 rfl ?_
  refine am_e1 (v := tw) hi_180_264 rfl ?_
  refine am_e1 (v := th) hi_180_265 rfl ?_
  refine am_e32w (as := [.ref 39, .int on, .int tw, .int th]) (la := [some (.ref 39), some (.int on), some (.int tw), some (.int th), none, none, none, none]) (rest := []) hi_180_267 (am_hd0 (M := 180) (by decide) 267) (Nat.le_of_ble_eq_true rfl) (Nat.le_of_ble_eq_true rfl) (show 4 ≤ am_P0.2.2.1 257 from by decide +kernel) rfl (am_recv_ok hS.fs) rfl rfl ?_
  refine am_e2 (v := 39) hi_257_0 rfl ?_
  refine am_e0 hi_257_1 ?_
  refine am_e2 (v := 39) hi_257_2 rfl ?_
  refine mm_20 (v := .int (f 19)) hS hi_257_3 rfl ?_
  refine am_e32w (as := [.ref 39, .int 4, .int (f 19)]) (la := [some (.ref 39), some (.int 4), some (.int (f 19))]) (rest := []) hi_257_6 (am_hd0 (M := 257) (by decide) 6) (Nat.le_of_ble_eq_true rfl) (Nat.le_of_ble_eq_true rfl) (show 3 ≤ am_P0.2.2.1 258 from by decide +kernel) rfl (am_recv_ok hS.fs) rfl rfl ?_
  refine am_e2 (v := 39) hi_258_0 rfl ?_
  refine am_e32w (as := [.ref 39]) (la := [some (.ref 39)]) (rest := []) hi_258_1 (am_hd0 (M := 258) (by decide) 1) (Nat.le_of_ble_eq_true rfl) (Nat.le_of_ble_eq_true rfl) (show 1 ≤ am_P0.2.2.1 216 from by decide +kernel) rfl (am_recv_ok hS.fs) rfl rfl ?_
  refine am_e2 (v := 39) hi_216_0 rfl ?_
  refine mm_20 (v := .ref 46) hS hi_216_1 rfl ?_
  refine am_e2 (v := 39) hi_216_4 rfl ?_
  refine mm_20 (v := .int (f 15)) hS hi_216_5 rfl ?_
  refine am_e0 hi_216_8 ?_
  obtain ⟨z0, hz0, tz0⟩ := am_subI (x := f 15) (y := 1) (m := (f 15).toInt) (n := (1 : Int)) rfl (by decide) (by omega) (by omega)
  refine am_e10 (z := z0) hi_216_9 hz0 ?_
  refine mm_25 hS ma_16 hi_216_10 (by decide) (by omega) (by omega) ?_
  show am_E _ _ _ _ [some (.ref 39)] [.int (g 16 z0.toNatClampNeg)] _ _
  refine am_e0 hi_216_11 ?_
  by_cases c1 : (g 16 z0.toNatClampNeg).toInt = (1 : Int)
  · refine am_e13t hi_216_12 (am_cT (m := (g 16 z0.toNatClampNeg).toInt) (n := (1 : Int)) rfl (by decide) c1) ?_
    refine am_e0 hi_216_30 ?_
    refine am_e18 hi_216_31 ?_
    refine am_e36 hi_216_35 (by decide) ?_
    show am_E _ _ _ _ [some (.ref 39), some (.int 4), some (.int (f 19))] [.int 1] _ _
    refine am_e12f hi_258_4 (by decide) ?_
    refine am_e1 (v := f 19) hi_258_7 rfl ?_
    refine am_e1 (v := 4) hi_258_8 rfl ?_
    by_cases c2 : (4 : Int) < (f 19).toInt
    · refine am_e13t hi_258_9 (am_cT (m := (f 19).toInt) (n := (4 : Int)) rfl (by decide) c2) ?_
      refine am_e2 (v := 39) hi_258_31 rfl ?_
      refine am_e32w (as := [.ref 39]) (la := [some (.ref 39)]) (rest := []) hi_258_32 (am_hd0 (M := 258) (by decide) 32) (Nat.le_of_ble_eq_true rfl) (Nat.le_of_ble_eq_true rfl) (show 1 ≤ am_P0.2.2.1 209 from by decide +kernel) rfl (am_recv_ok hS.fs) rfl rfl ?_
      refine am_e2 (v := 39) hi_209_0 rfl ?_
      refine am_e32n (as := [.ref 39]) (la := [some (.ref 39), none, none, none]) (rest := []) hi_209_1 (am_hd0 (M := 209) (by decide) 1) (Nat.le_of_ble_eq_true rfl) (Nat.le_of_ble_eq_true rfl) (show 1 ≤ am_P0.2.2.1 204 from by decide +kernel) rfl (am_recv_ok hS.fs) rfl rfl (ct_load (d := (d + 2)) hS hR  (by show (0 : Int) ≤ (f 32).toInt; omega) (by show (f 32).toInt ≤ (63 : Int); omega) (by show (f 53).toInt ≤ (4096 : Int); omega) (by show (0 : Int) ≤ (f 68).toInt; omega) (by show (f 68).toInt ≤ (65534 : Int); omega) (by show (1 : Int) ≤ (f 15).toInt; omega) (by show (f 15).toInt ≤ (32767 : Int); omega) (by show (0 : Int) ≤ (f 24).toInt; omega) (by show (f 24).toInt ≤ (16384 : Int); omega) (by show (0 : Int) ≤ (f 62).toInt; omega) (by show (f 62).toInt ≤ (65000 : Int); omega)) ?_
      rintro v3 S4 (⟨o5, s6, m7, g'8, hv9, hS10, hR17, h11, h12, h13, h14, h15, h16⟩)
      subst hv9
      have h11_ : (f 62).toInt ≤ o5.toInt := h11
      have h12_ : o5.toInt ≤ (f 62).toInt + 64 := h12
      have h13_ : (f 68).toInt ≤ s6.toInt := h13
      have h14_ : s6.toInt ≤ (f 68).toInt + 1 := h14
      have h15_ : o5.toInt + 64 * mj_n (g'8 16) (f 15).toNatClampNeg 3 ≤ (f 62).toInt + 64 * mj_n (g 16) (f 15).toNatClampNeg 3 := h15
      have h16_ : ∀ j, j ∉ [16, 60, 63, 64, 65, 66, 67, 69, 70, 71, 72, 73] → g'8 j = g j := h16
      have hR17_ : RJ (upd (upd (upd f 62 o5) 68 s6) 75 m7) g'8 gs bc [] 0 [] := hR17
      show am_E _ _ _ _ [some (.ref 39)] [] _ _
      refine am_e2 (v := 39) hi_209_4 rfl ?_
      refine am_e7 hi_209_5 ?_
      refine mm_20 (v := .int (f 15)) hS10 hi_209_6 rfl ?_
      refine am_e0 hi_209_9 ?_
      refine am_e10 (z := z0) hi_209_10 hz0 ?_
      refine mm_21 (v := z0) hS10 hi_209_11 rfl (Nat.le_of_ble_eq_true rfl) ms_15 ?_
      intro S18 hS19
      replace hS19 : MS S0 S18 (upd (upd (upd (upd f 15 z0) 62 o5) 68 s6) 75 m7) g'8 := hS19
      have hp20 : mj_n (g'8 16) (f 15).toNatClampNeg 3 = mj_n (g'8 16) z0.toNatClampNeg 3 + if (g'8 16 z0.toNatClampNeg).toInt = 3 then 1 else 0 := mj_pop (by rw [cl_toNat, cl_toNat]; omega)
      have hp201 : mj_n (g'8 16) z0.toNatClampNeg 3 ≤ mj_n (g'8 16) (f 15).toNatClampNeg 3 := by rw [hp20]; split <;> omega
      have hp202 : (g'8 16 z0.toNatClampNeg).toInt = 3 → mj_n (g'8 16) z0.toNatClampNeg 3 + 1 ≤ mj_n (g'8 16) (f 15).toNatClampNeg 3 := fun q => by rw [hp20, if_pos q]; exact Int.le_refl _
      refine am_e35 hi_209_14 ?_
      show am_E _ _ _ _ [some (.ref 39), some (.int 4), some (.int (f 19))] [] _ _
      refine am_e2 (v := 39) hi_258_35 rfl ?_
      refine am_e1 (v := 4) hi_258_36 rfl ?_
      refine am_e1 (v := f 19) hi_258_37 rfl ?_
      obtain ⟨z21, hz21, tz21⟩ := am_subI (x := 4) (y := f 19) (m := (4 : Int)) (n := (f 19).toInt) (by decide) rfl (by omega) (by omega)
      refine am_e10 (z := z21) hi_258_38 hz21 ?_
      refine am_e32n (as := [.ref 39, .int z21]) (la := [some (.ref 39), some (.int z21), none]) (rest := []) hi_258_39 (am_hd0 (M := 258) (by decide) 39) (Nat.le_of_ble_eq_true rfl) (Nat.le_of_ble_eq_true rfl) (show 2 ≤ am_P0.2.2.1 240 from by decide +kernel) rfl (am_recv_ok hS19.fs) rfl rfl (ct_nils (d := (d + 4)) hS19 hR17_  (by show (0 : Int) ≤ (f 32).toInt; omega) (by show (f 32).toInt ≤ (63 : Int); omega) (by show (f 53).toInt ≤ (4096 : Int); omega) (by show (0 : Int) ≤ s6.toInt; omega) (by show s6.toInt ≤ (65534 : Int); omega) (by show s6.toInt + z21.toInt ≤ 65534; omega)) ?_
      rintro v22 S23 (⟨s24, g'25, hv26, hS27, hR31, h28, h29, h30⟩)
      subst hv26
      have h28_ : s6.toInt ≤ s24.toInt := h28
      have h29_ : s24.toInt ≤ s6.toInt + z21.toInt ∨ s24.toInt ≤ s6.toInt := h29
      have h30_ : ∀ j, j ∉ [60, 69, 70, 71, 72, 73] → g'25 j = g'8 j := h30
      replace hS27 : MS S0 S23 (upd (upd (upd (upd f 15 z0) 62 o5) 68 s24) 75 m7) g'25 := hS27
      have hR31_ : RJ (upd (upd (upd (upd f 15 z0) 62 o5) 68 s24) 75 m7) g'25 gs bc [] 0 [] := hR31
      show am_E _ _ _ _ [some (.ref 39), some (.int 4), some (.int (f 19))] [] _ _
      refine am_e1 (v := f 19) hi_258_42 rfl ?_
      refine am_e1 (v := 4) hi_258_43 rfl ?_
      refine am_e13f hi_258_44 (am_cF (m := (f 19).toInt) (n := (4 : Int)) rfl (by decide) (by simp only [am_cI]; omega)) ?_
      refine am_e2 (v := 39) hi_258_47 rfl ?_
      refine am_e0 hi_258_48 ?_
      refine am_e1 (v := f 19) hi_258_50 rfl ?_
      refine am_e1 (v := 4) hi_258_51 rfl ?_
      obtain ⟨z32, hz32, tz32⟩ := am_subI (x := f 19) (y := 4) (m := (f 19).toInt) (n := (4 : Int)) rfl (by decide) (by omega) (by omega)
      refine am_e10 (z := z32) hi_258_52 hz32 ?_
      refine am_e0 hi_258_53 ?_
      refine am_e0 hi_258_54 ?_
      refine am_e32n (as := [.ref 39, .int 26, .int z32, .int 0, .int 0]) (la := [some (.ref 39), some (.int 26), some (.int z32), some (.int 0), some (.int 0)]) (rest := []) hi_258_55 (am_hd0 (M := 258) (by decide) 55) (Nat.le_of_ble_eq_true rfl) (Nat.le_of_ble_eq_true rfl) (show 5 ≤ am_P0.2.2.1 189 from by decide +kernel) rfl (am_recv_ok hS27.fs) rfl rfl (ct_put (d := (d + 5)) hS27 hR31_  (by show (0 : Int) ≤ (f 32).toInt; omega) (by show (f 32).toInt ≤ (63 : Int); omega) (by show (f 53).toInt ≤ (4096 : Int); omega) (by show (0 : Int) ≤ s24.toInt; omega) (by show s24.toInt ≤ (65534 : Int); omega)) ?_
      rintro v33 S34 (⟨z35, r36, g'37, hv38, hS39, hR43, h40, h41, h42⟩)
      subst hv38
      have h40_ : z35.toInt = s24.toInt + 1 := h40
      have h41_ : r36.toInt = s24.toInt := h41
      have h42_ : ∀ j, j ∉ [60, 69, 70, 71, 72, 73] → g'37 j = g'25 j := h42
      replace hS39 : MS S0 S34 (upd (upd (upd (upd f 15 z0) 62 o5) 68 z35) 75 m7) g'37 := hS39
      have hR43_ : RJ (upd (upd (upd (upd f 15 z0) 62 o5) 68 z35) 75 m7) g'37 gs bc [] 0 (s24.toNatClampNeg :: []) := hR43
      show am_E _ _ _ _ [some (.ref 39), some (.int 4), some (.int (f 19))] [.int r36] _ _
      refine am_e6i hi_258_58 ?_
      refine am_e35 hi_258_59 ?_
      show am_E _ _ _ _ [some (.ref 39), some (.int on), some (.int tw), some (.int th), none, none, none, none] [] _ _
      refine am_e2 (v := 39) hi_257_9 rfl ?_
      refine am_e0 hi_257_10 ?_
      refine am_e32n (as := [.ref 39, .int 12]) (la := [some (.ref 39), some (.int 12)]) (rest := []) hi_257_12 (am_hd0 (M := 257) (by decide) 12) (Nat.le_of_ble_eq_true rfl) (Nat.le_of_ble_eq_true rfl) (show 2 ≤ am_P0.2.2.1 193 from by decide +kernel) rfl (am_recv_ok hS39.fs) rfl rfl (ct_enter (d := (d + 4)) hS39   (by show (0 : Int) ≤ (f 4).toInt; omega) (by show (f 0).toInt ≤ (16384 : Int); omega) (by show (0 : Int) ≤ (12 : Int); omega) (by show (0 : Int) ≤ (f 5).toInt; omega) (by show (f 5).toInt ≤ (48 : Int); omega) (by show (0 : Int) ≤ (f 6).toInt; omega)) ?_
      rintro v44 S45 (⟨z46, y47, hv48, hS49, h50, h51, h52, h53⟩ | ⟨a55, b56, hv57, hS58, h59⟩)
      · subst hv48
        have h50_ : z46.toInt = (f 4).toInt + 1 := h50
        have h51_ : (f 4).toInt < (f 0).toInt := h51
        have h52_ : y47.toInt = (f 5).toInt + 1 := h52
        have h53_ : y47.toInt ≤ (48 : Int) := h53
        replace hS49 : MS S0 S45 (upd (upd (upd (upd (upd (upd f 4 z46) 5 y47) 15 z0) 62 o5) 68 z35) 75 m7) g'37 := hS49
        have hR61 : RJ (upd (upd (upd (upd (upd (upd f 4 z46) 5 y47) 15 z0) 62 o5) 68 z35) 75 m7) g'37 gs bc [] 0 (s24.toNatClampNeg :: []) := RJ.at hR43_ (by show (f 4).toInt ≤ z46.toInt; omega)
        show am_E _ _ _ _ [some (.ref 39), some (.int on), some (.int tw), some (.int th), none, none, none, none] [.int 1] _ _
        refine am_e12t hi_257_15 (by decide) ?_
        refine am_e2 (v := 39) hi_257_19 rfl ?_
        refine am_e32w (as := [.ref 39]) (la := [some (.ref 39)]) (rest := []) hi_257_20 (am_hd0 (M := 257) (by decide) 20) (Nat.le_of_ble_eq_true rfl) (Nat.le_of_ble_eq_true rfl) (show 1 ≤ am_P0.2.2.1 197 from by decide +kernel) rfl (am_recv_ok hS49.fs) rfl rfl ?_
        refine am_e2 (v := 39) hi_197_0 rfl ?_
        refine mm_20 (v := .int (f 24)) hS49 hi_197_1 rfl ?_
        refine am_e2 (v := 39) hi_197_4 rfl ?_
        refine mm_20 (v := .ref 59) hS49 hi_197_5 rfl ?_
        refine am_e2 (v := 39) hi_197_8 rfl ?_
        refine mm_20 (v := .int (f 32)) hS49 hi_197_9 rfl ?_
        refine mm_25 hS49 ma_34 hi_197_12 (by decide) (by omega) (by omega) ?_
        show am_E _ _ _ _ _ (.int (g'37 34 (f 32).toNatClampNeg) :: _) _ _
        rw [show g'37 34 = g'25 34 from h42_ 34 (by decide), show g'25 34 = g'8 34 from h30_ 34 (by decide), show g'8 34 = g 34 from h16_ 34 (by decide)]
        show am_E _ _ _ _ [some (.ref 39)] [.int (g 34 (f 32).toNatClampNeg), .int (f 24)] _ _
        have r62 : 0 ≤ (g 34 (f 32).toNatClampNeg).toInt := by
          have h := RJ.ba hR61 (f 32).toNatClampNeg
          rw [show g'37 34 = g'25 34 from h42_ 34 (by decide), show g'25 34 = g'8 34 from h30_ 34 (by decide), show g'8 34 = g 34 from h16_ 34 (by decide)] at h
          exact h
        have r63 : (g 34 (f 32).toNatClampNeg).toInt ≤ 2147483647 := i32_le _
        obtain ⟨z64, hz64, tz64⟩ := am_subI (x := f 24) (y := g 34 (f 32).toNatClampNeg) (m := (f 24).toInt) (n := (g 34 (f 32).toNatClampNeg).toInt) rfl rfl (by omega) (by omega)
        refine am_e10 (z := z64) hi_197_13 hz64 ?_
        refine am_e33 hi_197_14 ?_
        show am_E _ _ _ _ [some (.ref 39), some (.int on), some (.int tw), some (.int th), none, none, none, none] [.int z64] _ _
        refine am_e3 (ls' := [some (.ref 39), some (.int on), some (.int tw), some (.int th), some (.int z64), none, none, none]) hi_257_23 (Nat.le_of_ble_eq_true rfl) rfl ?_
        refine am_e2 (v := 39) hi_257_25 rfl ?_
        refine am_e0 hi_257_26 ?_
        refine am_e0 hi_257_27 ?_
        refine am_e1 (v := on) hi_257_28 rfl ?_
        refine am_e32n (as := [.ref 39, .int 4, .int 1, .int on]) (la := [some (.ref 39), some (.int 4), some (.int 1), some (.int on), none]) (rest := []) hi_257_29 (am_hd0 (M := 257) (by decide) 29) (Nat.le_of_ble_eq_true rfl) (Nat.le_of_ble_eq_true rfl) (show 4 ≤ am_P0.2.2.1 254 from by decide +kernel) rfl (am_recv_ok hS49.fs) rfl rfl (ct_hide (d := (d + 4)) hS49 hR61 (by decide)  (by show (0 : Int) ≤ (f 32).toInt; omega) (by show (f 32).toInt ≤ (63 : Int); omega) (by show (f 53).toInt ≤ (4096 : Int); omega) (by show (0 : Int) ≤ (f 24).toInt; omega) (by show (f 24).toInt ≤ (16000 : Int); omega) (by show (0 : Int) ≤ (4 : Int); omega) (by show (4 : Int) ≤ (16 : Int); omega) (by show (0 : Int) ≤ (f 8).toInt; omega)) ?_
        rintro v65 S66 (⟨a67, b68, l69, y70, g'71, hv72, hS73, hR77, h74, h75, h76⟩)
        subst hv72
        have h74_ : l69.toInt = (f 24).toInt + (4 : Int) := h74
        have h75_ : ∀ j, j ∉ [25, 26, 27, 28, 29, 30, 58] → g'71 j = g'37 j := h75
        have h76_ : (0 : Int) ≤ a67.toInt := h76
        replace hS73 : MS S0 S66 (upd (upd (upd (upd (upd (upd (upd (upd (upd (upd f 4 z46) 5 y47) 8 a67) 9 b68) 15 z0) 24 l69) 31 y70) 62 o5) 68 z35) 75 m7) g'71 := hS73
        have hR77_ : RJ (upd (upd (upd (upd (upd (upd (upd (upd (upd (upd f 4 z46) 5 y47) 8 a67) 9 b68) 15 z0) 24 l69) 31 y70) 62 o5) 68 z35) 75 m7) g'71 gs bc [] 0 (s24.toNatClampNeg :: []) := hR77
        show am_E _ _ _ _ [some (.ref 39), some (.int on), some (.int tw), some (.int th), some (.int z64), none, none, none] [] _ _
        refine am_e2 (v := 39) hi_257_32 rfl ?_
        refine am_e0 hi_257_33 ?_
        refine am_e1 (v := z64) hi_257_35 rfl ?_
        refine am_e0 hi_257_37 ?_
        refine am_e1 (v := on) hi_257_38 rfl ?_
        refine am_e32n (as := [.ref 39, .int 42, .int z64, .int 0, .int on]) (la := [some (.ref 39), some (.int 42), some (.int z64), some (.int 0), some (.int on)]) (rest := []) hi_257_39 (am_hd0 (M := 257) (by decide) 39) (Nat.le_of_ble_eq_true rfl) (Nat.le_of_ble_eq_true rfl) (show 5 ≤ am_P0.2.2.1 189 from by decide +kernel) rfl (am_recv_ok hS73.fs) rfl rfl (ct_put (d := (d + 6)) hS73 hR77_  (by show (0 : Int) ≤ (f 32).toInt; omega) (by show (f 32).toInt ≤ (63 : Int); omega) (by show (f 53).toInt ≤ (4096 : Int); omega) (by show (0 : Int) ≤ z35.toInt; omega) (by show z35.toInt ≤ (65534 : Int); omega)) ?_
        rintro v78 S79 (⟨z80, r81, g'82, hv83, hS84, hR88, h85, h86, h87⟩)
        subst hv83
        have h85_ : z80.toInt = z35.toInt + 1 := h85
        have h86_ : r81.toInt = z35.toInt := h86
        have h87_ : ∀ j, j ∉ [60, 69, 70, 71, 72, 73] → g'82 j = g'71 j := h87
        replace hS84 : MS S0 S79 (upd (upd (upd (upd (upd (upd (upd (upd (upd (upd f 4 z46) 5 y47) 8 a67) 9 b68) 15 z0) 24 l69) 31 y70) 62 o5) 68 z80) 75 m7) g'82 := hS84
        have hR88_ : RJ (upd (upd (upd (upd (upd (upd (upd (upd (upd (upd f 4 z46) 5 y47) 8 a67) 9 b68) 15 z0) 24 l69) 31 y70) 62 o5) 68 z80) 75 m7) g'82 gs bc [] 0 (z35.toNatClampNeg :: (s24.toNatClampNeg :: [])) := hR88
        show am_E _ _ _ _ [some (.ref 39), some (.int on), some (.int tw), some (.int th), some (.int z64), none, none, none] [.int r81] _ _
        refine am_e6i hi_257_42 ?_
        refine am_e2 (v := 39) hi_257_43 rfl ?_
        refine am_e32n (as := [.ref 39]) (la := [some (.ref 39)]) (rest := []) hi_257_44 (am_hd0 (M := 257) (by decide) 44) (Nat.le_of_ble_eq_true rfl) (Nat.le_of_ble_eq_true rfl) (show 1 ≤ am_P0.2.2.1 210 from by decide +kernel) rfl (am_recv_ok hS84.fs) rfl rfl (ct_here (d := (d + 6)) hS84 hR88_  (by show (0 : Int) ≤ (f 32).toInt; omega) (by show (f 32).toInt ≤ (63 : Int); omega) (by show (f 53).toInt ≤ (4096 : Int); omega) (by show (0 : Int) ≤ z80.toInt; omega) (by show z80.toInt ≤ (65534 : Int); omega)) ?_
        rintro v89 S90 (⟨r91, hv92, hS93, h94, h95⟩)
        subst hv92
        have h94_ : (0 : Int) ≤ r91.toInt := h94
        have h95_ : r91.toInt ≤ z80.toInt := h95
        show am_E _ _ _ _ [some (.ref 39), some (.int on), some (.int tw), some (.int th), some (.int z64), none, none, none] [.int r91] _ _
        refine am_e3 (ls' := [some (.ref 39), some (.int on), some (.int tw), some (.int th), some (.int z64), some (.int r91), none, none]) hi_257_47 (Nat.le_of_ble_eq_true rfl) rfl ?_
        refine am_e2 (v := 39) hi_257_49 rfl ?_
        refine am_e0 hi_257_50 ?_
        refine am_e0 hi_257_52 ?_
        refine am_e0 hi_257_53 ?_
        refine am_e1 (v := on) hi_257_54 rfl ?_
        refine am_e32n (as := [.ref 39, .int 34, .int 0, .int 0, .int on]) (la := [some (.ref 39), some (.int 34), some (.int 0), some (.int 0), some (.int on)]) (rest := []) hi_257_55 (am_hd0 (M := 257) (by decide) 55) (Nat.le_of_ble_eq_true rfl) (Nat.le_of_ble_eq_true rfl) (show 5 ≤ am_P0.2.2.1 189 from by decide +kernel) rfl (am_recv_ok hS93.fs) rfl rfl (ct_put (d := (d + 6)) hS93 hR88_  (by show (0 : Int) ≤ (f 32).toInt; omega) (by show (f 32).toInt ≤ (63 : Int); omega) (by show (f 53).toInt ≤ (4096 : Int); omega) (by show (0 : Int) ≤ z80.toInt; omega) (by show z80.toInt ≤ (65534 : Int); omega)) ?_
        rintro v97 S98 (⟨z99, r100, g'101, hv102, hS103, hR107, h104, h105, h106⟩)
        subst hv102
        have h104_ : z99.toInt = z80.toInt + 1 := h104
        have h105_ : r100.toInt = z80.toInt := h105
        have h106_ : ∀ j, j ∉ [60, 69, 70, 71, 72, 73] → g'101 j = g'82 j := h106
        replace hS103 : MS S0 S98 (upd (upd (upd (upd (upd (upd (upd (upd (upd (upd f 4 z46) 5 y47) 8 a67) 9 b68) 15 z0) 24 l69) 31 y70) 62 o5) 68 z99) 75 m7) g'101 := hS103
        have hR107_ : RJ (upd (upd (upd (upd (upd (upd (upd (upd (upd (upd f 4 z46) 5 y47) 8 a67) 9 b68) 15 z0) 24 l69) 31 y70) 62 o5) 68 z99) 75 m7) g'101 gs bc [] 0 (z80.toNatClampNeg :: (z35.toNatClampNeg :: (s24.toNatClampNeg :: []))) := hR107
        show am_E _ _ _ _ [some (.ref 39), some (.int on), some (.int tw), some (.int th), some (.int z64), some (.int r91), none, none] [.int r100] _ _
        refine am_e6i hi_257_58 ?_
        refine am_e2 (v := 39) hi_257_59 rfl ?_
        refine am_e0 hi_257_60 ?_
        refine am_e1 (v := z64) hi_257_62 rfl ?_
        refine am_e1 (v := tw) hi_257_64 rfl ?_
        refine am_e1 (v := th) hi_257_65 rfl ?_
        refine am_e32n (as := [.ref 39, .int 43, .int z64, .int tw, .int th]) (la := [some (.ref 39), some (.int 43), some (.int z64), some (.int tw), some (.int th)]) (rest := []) hi_257_66 (am_hd0 (M := 257) (by decide) 66) (Nat.le_of_ble_eq_true rfl) (Nat.le_of_ble_eq_true rfl) (show 5 ≤ am_P0.2.2.1 189 from by decide +kernel) rfl (am_recv_ok hS103.fs) rfl rfl (ct_put (d := (d + 6)) hS103 hR107_  (by show (0 : Int) ≤ (f 32).toInt; omega) (by show (f 32).toInt ≤ (63 : Int); omega) (by show (f 53).toInt ≤ (4096 : Int); omega) (by show (0 : Int) ≤ z99.toInt; omega) (by show z99.toInt ≤ (65534 : Int); omega)) ?_
        rintro v108 S109 (⟨z110, r111, g'112, hv113, hS114, hR118, h115, h116, h117⟩)
        subst hv113
        have h115_ : z110.toInt = z99.toInt + 1 := h115
        have h116_ : r111.toInt = z99.toInt := h116
        have h117_ : ∀ j, j ∉ [60, 69, 70, 71, 72, 73] → g'112 j = g'101 j := h117
        replace hS114 : MS S0 S109 (upd (upd (upd (upd (upd (upd (upd (upd (upd (upd f 4 z46) 5 y47) 8 a67) 9 b68) 15 z0) 24 l69) 31 y70) 62 o5) 68 z110) 75 m7) g'112 := hS114
        have hR118_ : RJ (upd (upd (upd (upd (upd (upd (upd (upd (upd (upd f 4 z46) 5 y47) 8 a67) 9 b68) 15 z0) 24 l69) 31 y70) 62 o5) 68 z110) 75 m7) g'112 gs bc [] 0 (z99.toNatClampNeg :: (z80.toNatClampNeg :: (z35.toNatClampNeg :: (s24.toNatClampNeg :: [])))) := hR118
        show am_E _ _ _ _ [some (.ref 39), some (.int on), some (.int tw), some (.int th), some (.int z64), some (.int r91), none, none] [.int r111] _ _
        refine am_e6i hi_257_69 ?_
        refine am_e2 (v := 39) hi_257_70 rfl ?_
        refine am_e0 hi_257_71 ?_
        refine am_e1 (v := z64) hi_257_73 rfl ?_
        refine am_e0 hi_257_75 ?_
        refine am_e0 hi_257_76 ?_
        refine am_e32n (as := [.ref 39, .int 44, .int z64, .int 0, .int 0]) (la := [some (.ref 39), some (.int 44), some (.int z64), some (.int 0), some (.int 0)]) (rest := []) hi_257_77 (am_hd0 (M := 257) (by decide) 77) (Nat.le_of_ble_eq_true rfl) (Nat.le_of_ble_eq_true rfl) (show 5 ≤ am_P0.2.2.1 189 from by decide +kernel) rfl (am_recv_ok hS114.fs) rfl rfl (ct_put (d := (d + 6)) hS114 hR118_  (by show (0 : Int) ≤ (f 32).toInt; omega) (by show (f 32).toInt ≤ (63 : Int); omega) (by show (f 53).toInt ≤ (4096 : Int); omega) (by show (0 : Int) ≤ z110.toInt; omega) (by show z110.toInt ≤ (65534 : Int); omega)) ?_
        rintro v119 S120 (⟨z121, r122, g'123, hv124, hS125, hR129, h126, h127, h128⟩)
        subst hv124
        have h126_ : z121.toInt = z110.toInt + 1 := h126
        have h127_ : r122.toInt = z110.toInt := h127
        have h128_ : ∀ j, j ∉ [60, 69, 70, 71, 72, 73] → g'123 j = g'112 j := h128
        replace hS125 : MS S0 S120 (upd (upd (upd (upd (upd (upd (upd (upd (upd (upd f 4 z46) 5 y47) 8 a67) 9 b68) 15 z0) 24 l69) 31 y70) 62 o5) 68 z121) 75 m7) g'123 := hS125
        have hR129_ : RJ (upd (upd (upd (upd (upd (upd (upd (upd (upd (upd f 4 z46) 5 y47) 8 a67) 9 b68) 15 z0) 24 l69) 31 y70) 62 o5) 68 z121) 75 m7) g'123 gs bc [] 0 (z110.toNatClampNeg :: (z99.toNatClampNeg :: (z80.toNatClampNeg :: (z35.toNatClampNeg :: (s24.toNatClampNeg :: []))))) := hR129
        show am_E _ _ _ _ [some (.ref 39), some (.int on), some (.int tw), some (.int th), some (.int z64), some (.int r91), none, none] [.int r122] _ _
        refine am_e3 (ls' := [some (.ref 39), some (.int on), some (.int tw), some (.int th), some (.int z64), some (.int r91), some (.int r122), none]) hi_257_80 (Nat.le_of_ble_eq_true rfl) rfl ?_
        refine am_e2 (v := 39) hi_257_82 rfl ?_
        refine am_e0 hi_257_83 ?_
        refine am_e32n (as := [.ref 39, .int 1]) (la := [some (.ref 39), some (.int 1)]) (rest := []) hi_257_84 (am_hd0 (M := 257) (by decide) 84) (Nat.le_of_ble_eq_true rfl) (Nat.le_of_ble_eq_true rfl) (show 2 ≤ am_P0.2.2.1 177 from by decide +kernel) rfl (am_recv_ok hS125.fs) rfl rfl (ct_beginBlock2 (d := (d + 6)) hS125 hR129_ (by decide)  (by show (0 : Int) ≤ (f 37).toInt; omega) (by show (f 37).toInt ≤ (127 : Int); omega) (by show (0 : Int) ≤ l69.toInt; omega) (by show (0 : Int) ≤ (f 44).toInt; omega) (by show (f 44).toInt ≤ z46.toInt; omega) (by show (0 : Int) ≤ (f 48).toInt; omega)) ?_
        rintro v130 S131 (⟨z132, g'133, hv134, hS135, hR139, h136, h137, h138⟩)
        subst hv134
        have h136_ : z132.toInt = (f 37).toInt + 1 := h136
        have h137_ : ∀ j, j ∉ [38, 39, 40, 41, 42, 43] → g'133 j = g'123 j := h137
        have h138_ : g'133 38 = upd (g'123 38) (f 37).toNatClampNeg l69 := h138
        replace hS135 : MS S0 S131 (upd (upd (upd (upd (upd (upd (upd (upd (upd (upd (upd f 4 z46) 5 y47) 8 a67) 9 b68) 15 z0) 24 l69) 31 y70) 37 z132) 62 o5) 68 z121) 75 m7) g'133 := hS135
        have hR139_ : RJ (upd (upd (upd (upd (upd (upd (upd (upd (upd (upd (upd f 4 z46) 5 y47) 8 a67) 9 b68) 15 z0) 24 l69) 31 y70) 37 z132) 62 o5) 68 z121) 75 m7) g'133 gs ([] :: bc) [] 0 (z110.toNatClampNeg :: (z99.toNatClampNeg :: (z80.toNatClampNeg :: (z35.toNatClampNeg :: (s24.toNatClampNeg :: []))))) := hR139
        show am_E _ _ _ _ [some (.ref 39), some (.int on), some (.int tw), some (.int th), some (.int z64), some (.int r91), some (.int r122), none] [] _ _
        refine am_e0 hi_257_87 ?_
        refine am_e3 (ls' := [some (.ref 39), some (.int on), some (.int tw), some (.int th), some (.int z64), some (.int r91), some (.int r122), some (.int 0)]) hi_257_88 (Nat.le_of_ble_eq_true rfl) rfl ?_
        refine fr_each (d := (d + 2)) (f := (upd (upd (upd (upd (upd (upd (upd (upd (upd (upd (upd f 4 z46) 5 y47) 8 a67) 9 b68) 15 z0) 24 l69) 31 y70) 37 z132) 62 o5) 68 z121) 75 m7)) (g := g'133) (w := on) (m := tw) (x3 := th) (c4 := z64) (h5 := r91) (q6 := r122)  (by show (0 : Int) ≤ (f 32).toInt; omega) (by show (f 32).toInt ≤ (63 : Int); omega) (by show (f 53).toInt ≤ (4096 : Int); omega) (by show (0 : Int) ≤ l69.toInt; omega) (by show l69.toInt + tw.toInt ≤ 16383; omega) (by show (0 : Int) ≤ on.toInt; omega) (by show on.toInt + 2 * tw.toInt ≤ 16000; omega) (by show (0 : Int) ≤ a67.toInt; omega) ?_ ((tw.toInt - (0 : Int)).toNat + 1) _ 0 a67 b68 l69 y70 _ hS135 hR139_ (fun _ _ => rfl) (by show (0 : Int) ≤ (0 : Int); omega) (by show (0 : Int) ≤ tw.toInt; omega) (by show l69.toInt = l69.toInt + (0 : Int); omega) (by show (0 : Int) ≤ a67.toInt; omega) (by show tw.toInt - (0 : Int) < _; omega)
        · intro S145 i140 a141 b142 l143 y144 gx148 hS146 hR147 hg149 h150 h151
          replace hS146 : MS S0 S145 (upd (upd (upd (upd (upd (upd (upd (upd (upd (upd (upd f 4 z46) 5 y47) 8 a141) 9 b142) 15 z0) 24 l143) 31 y144) 37 z132) 62 o5) 68 z121) 75 m7) gx148 := hS146
          have h150_ : l143.toInt = l69.toInt + tw.toInt := h150
          have h151_ : (0 : Int) ≤ a141.toInt := h151
          have hR147_ : RJ (upd (upd (upd (upd (upd (upd (upd (upd (upd (upd (upd f 4 z46) 5 y47) 8 a141) 9 b142) 15 z0) 24 l143) 31 y144) 37 z132) 62 o5) 68 z121) 75 m7) gx148 gs ([] :: bc) [] 0 (z110.toNatClampNeg :: (z99.toNatClampNeg :: (z80.toNatClampNeg :: (z35.toNatClampNeg :: (s24.toNatClampNeg :: []))))) := hR147
          show am_E _ _ _ _ [some (.ref 39), some (.int on), some (.int tw), some (.int th), some (.int z64), some (.int r91), some (.int r122), some (.int i140)] [] _ _
          refine am_e2 (v := 39) hi_257_129 rfl ?_
          refine am_e0 hi_257_130 ?_
          refine am_e1 (v := r122) hi_257_132 rfl ?_
          refine am_e1 (v := r91) hi_257_134 rfl ?_
          refine am_e1 (v := z64) hi_257_136 rfl ?_
          refine am_e32n (as := [.ref 39, .int 15, .int r122, .int r91, .int z64]) (la := [some (.ref 39), some (.int 15), some (.int r122), some (.int r91), some (.int z64)]) (rest := []) hi_257_138 (am_hd0 (M := 257) (by decide) 138) (Nat.le_of_ble_eq_true rfl) (Nat.le_of_ble_eq_true rfl) (show 5 ≤ am_P0.2.2.1 179 from by decide +kernel) rfl (am_recv_ok hS146.fs) rfl rfl (ct_pile (d := (d + 6)) hS146 hR147_ (mj_e_b (by decide) (by omega) (by show r122.toInt < z121.toInt; omega)) (by show (0 : Int) ≤ (f 10).toInt; omega) (by show (f 10).toInt ≤ (65535 : Int); omega)) ?_
          rintro v152 S153 (⟨z154, g'155, hv156, hS157, hR160, h158, h159⟩)
          subst hv156
          have h158_ : z154.toInt = (f 10).toInt + 1 := h158
          have h159_ : ∀ j, j ∉ [11, 12, 13, 14] → g'155 j = gx148 j := h159
          replace hS157 : MS S0 S153 (upd (upd (upd (upd (upd (upd (upd (upd (upd (upd (upd (upd f 4 z46) 5 y47) 8 a141) 9 b142) 10 z154) 15 z0) 24 l143) 31 y144) 37 z132) 62 o5) 68 z121) 75 m7) g'155 := hS157
          have hR160_ : RJ (upd (upd (upd (upd (upd (upd (upd (upd (upd (upd (upd (upd f 4 z46) 5 y47) 8 a141) 9 b142) 10 z154) 15 z0) 24 l143) 31 y144) 37 z132) 62 o5) 68 z121) 75 m7) g'155 (((15 : Int), r122.toInt, r91.toInt, z64.toInt, []) :: gs) ([] :: bc) [] 0 (z110.toNatClampNeg :: (z99.toNatClampNeg :: (z80.toNatClampNeg :: (z35.toNatClampNeg :: (s24.toNatClampNeg :: []))))) := hR160
          show am_E _ _ _ _ [some (.ref 39), some (.int on), some (.int tw), some (.int th), some (.int z64), some (.int r91), some (.int r122), some (.int i140)] [] _ _
          refine am_e2 (v := 39) hi_257_141 rfl ?_
          refine am_e32w (as := [.ref 39]) (la := [some (.ref 39)]) (rest := []) hi_257_142 (am_hd0 (M := 257) (by decide) 142) (Nat.le_of_ble_eq_true rfl) (Nat.le_of_ble_eq_true rfl) (show 1 ≤ am_P0.2.2.1 178 from by decide +kernel) rfl (am_recv_ok hS157.fs) rfl rfl ?_
          refine am_e2 (v := 39) hi_178_0 rfl ?_
          refine am_e0 hi_178_1 ?_
          refine am_e0 hi_178_2 ?_
          refine am_e0 hi_178_3 ?_
          refine am_e0 hi_178_4 ?_
          refine am_e32n (as := [.ref 39, .int 1, .int 0, .int 0, .int 0]) (la := [some (.ref 39), some (.int 1), some (.int 0), some (.int 0), some (.int 0)]) (rest := []) hi_178_5 (am_hd0 (M := 178) (by decide) 5) (Nat.le_of_ble_eq_true rfl) (Nat.le_of_ble_eq_true rfl) (show 5 ≤ am_P0.2.2.1 179 from by decide +kernel) rfl (am_recv_ok hS157.fs) rfl rfl (ct_pile (d := (d + 5)) hS157 hR160_ (mj_e_plain (by decide)) (by show (0 : Int) ≤ z154.toInt; omega) (by show z154.toInt ≤ (65535 : Int); omega)) ?_
          rintro v161 S162 (⟨z163, g'164, hv165, hS166, hR169, h167, h168⟩)
          subst hv165
          have h167_ : z163.toInt = z154.toInt + 1 := h167
          have h168_ : ∀ j, j ∉ [11, 12, 13, 14] → g'164 j = g'155 j := h168
          replace hS166 : MS S0 S162 (upd (upd (upd (upd (upd (upd (upd (upd (upd (upd (upd (upd f 4 z46) 5 y47) 8 a141) 9 b142) 10 z163) 15 z0) 24 l143) 31 y144) 37 z132) 62 o5) 68 z121) 75 m7) g'164 := hS166
          have hR169_ : RJ (upd (upd (upd (upd (upd (upd (upd (upd (upd (upd (upd (upd f 4 z46) 5 y47) 8 a141) 9 b142) 10 z163) 15 z0) 24 l143) 31 y144) 37 z132) 62 o5) 68 z121) 75 m7) g'164 (((1 : Int), (0 : Int), (0 : Int), (0 : Int), []) :: (((15 : Int), r122.toInt, r91.toInt, z64.toInt, []) :: gs)) ([] :: bc) [] 0 (z110.toNatClampNeg :: (z99.toNatClampNeg :: (z80.toNatClampNeg :: (z35.toNatClampNeg :: (s24.toNatClampNeg :: []))))) := hR169
          show am_E _ _ _ _ [some (.ref 39)] [] _ _
          refine am_e35 hi_178_8 ?_
          show am_E _ _ _ _ [some (.ref 39), some (.int on), some (.int tw), some (.int th), some (.int z64), some (.int r91), some (.int r122), some (.int i140)] [] _ _
          refine am_e35 hi_257_145 ?_
          show am_E _ _ _ _ [some (.ref 39), some (.int 14), some (.int on), some (.int tw), some (.int th)] [] _ _
          refine am_e18 hi_180_270 ?_
          refine am_e35 hi_180_371 ?_
          have q1 : mg_p1 (((1 : Int), (0 : Int), (0 : Int), (0 : Int), []) :: (((15 : Int), r122.toInt, r91.toInt, z64.toInt, []) :: gs)) = 0 + (0 + (mg_p1 gs)) := rfl
          have q2 : mg_p2 (((1 : Int), (0 : Int), (0 : Int), (0 : Int), []) :: (((15 : Int), r122.toInt, r91.toInt, z64.toInt, []) :: gs)) = 0 + (0 + (mg_p2 gs)) := rfl
          have q3 : mg_p3 (((1 : Int), (0 : Int), (0 : Int), (0 : Int), []) :: (((15 : Int), r122.toInt, r91.toInt, z64.toInt, []) :: gs)) = 1 + (1 + (mg_p3 gs)) := rfl
          have q4 : mg_p4 (((1 : Int), (0 : Int), (0 : Int), (0 : Int), []) :: (((15 : Int), r122.toInt, r91.toInt, z64.toInt, []) :: gs)) = 0 + (0 + (mg_p4 gs)) := rfl
          refine ⟨_, _, _, ([] :: bc), rfl, hS166, Or.inl ⟨⟨(RJ.fewer (pj' := []) hR169_ (fun _ h => nomatch h)), ?_, ?_⟩, rfl, ?_⟩⟩
          · exact (⟨⟨(show mg_k 1 from by decide), (show (0 : Int) ≤ z0.toInt from by omega), (show 0 ≤ (f 20).toInt from by omega), (show 1 ≤ z132.toInt from by omega), (show 0 ≤ (f 32).toInt from by omega), (show (f 32).toInt ≤ y47.toInt from by omega), (show y47.toInt ≤ 48 from by omega), (show z132.toInt ≤ 2 * (y47.toInt) + 1 from by omega), trivial⟩, ⟨⟨(show mg_k 15 from by decide), (show (0 : Int) ≤ z0.toInt + 0 from by omega), (show 0 ≤ (f 20).toInt from by omega), (show 1 ≤ z132.toInt + 0 from by omega), (show 0 ≤ (f 32).toInt + 0 from by omega), (show (f 32).toInt + 0 ≤ y47.toInt + 0 from by omega), (show y47.toInt + 0 ≤ 48 from by omega), (show z132.toInt + 0 ≤ 2 * (y47.toInt + 0) + 0 from by omega), (mg_pa13 (l1 := l69) hR (by show g'164 34 = g 34; rw [show g'164 34 = g'155 34 from h168_ 34 (by decide), show g'155 34 = gx148 34 from h159_ 34 (by decide), show gx148 34 = g'133 34 from hg149 34 (by decide), show g'133 34 = g'123 34 from h137_ 34 (by decide), show g'123 34 = g'112 34 from h128_ 34 (by decide), show g'112 34 = g'101 34 from h117_ 34 (by decide), show g'101 34 = g'82 34 from h106_ 34 (by decide), show g'82 34 = g'71 34 from h87_ 34 (by decide), show g'71 34 = g'37 34 from h75_ 34 (by decide), show g'37 34 = g'25 34 from h42_ 34 (by decide), show g'25 34 = g'8 34 from h30_ 34 (by decide), show g'8 34 = g 34 from h16_ 34 (by decide)]) (by show g'164 38 = upd (g 38) (f 37).toNatClampNeg l69; rw [show g'164 38 = g'155 38 from h168_ 38 (by decide), show g'155 38 = gx148 38 from h159_ 38 (by decide), show gx148 38 = g'133 38 from hg149 38 (by decide), h138_, show g'123 38 = g'112 38 from h128_ 38 (by decide), show g'112 38 = g'101 38 from h117_ 38 (by decide), show g'101 38 = g'82 38 from h106_ 38 (by decide), show g'82 38 = g'71 38 from h87_ 38 (by decide), show g'71 38 = g'37 38 from h75_ 38 (by decide), show g'37 38 = g'25 38 from h42_ 38 (by decide), show g'25 38 = g'8 38 from h30_ 38 (by decide), show g'8 38 = g 38 from h16_ 38 (by decide)]) (by show (f 32).toInt + 0 = (f 32).toInt; omega) (by omega) (by show z132.toInt + 0 = (f 37).toInt + 1; omega) (by show z64.toInt = (f 24).toInt - (g 34 (f 32).toNatClampNeg).toInt; omega) (by omega) (by show (f 24).toInt ≤ l69.toInt; omega))⟩, mg_cast (mg_good_ext _ _ _ _ _ _ (fun i _ => by show g'164 34 i = g 34 i; rw [show g'164 34 = g'155 34 from h168_ 34 (by decide), show g'155 34 = gx148 34 from h159_ 34 (by decide), show gx148 34 = g'133 34 from hg149 34 (by decide), show g'133 34 = g'123 34 from h137_ 34 (by decide), show g'123 34 = g'112 34 from h128_ 34 (by decide), show g'112 34 = g'101 34 from h117_ 34 (by decide), show g'101 34 = g'82 34 from h106_ 34 (by decide), show g'82 34 = g'71 34 from h87_ 34 (by decide), show g'71 34 = g'37 34 from h75_ 34 (by decide), show g'37 34 = g'25 34 from h42_ 34 (by decide), show g'25 34 = g'8 34 from h30_ 34 (by decide), show g'8 34 = g 34 from h16_ 34 (by decide)]) (fun i hi => by show g'164 38 i = g 38 i; rw [show g'164 38 = g'155 38 from h168_ 38 (by decide), show g'155 38 = gx148 38 from h159_ 38 (by decide), show gx148 38 = g'133 38 from hg149 38 (by decide), h138_, show g'123 38 = g'112 38 from h128_ 38 (by decide), show g'112 38 = g'101 38 from h117_ 38 (by decide), show g'101 38 = g'82 38 from h106_ 38 (by decide), show g'82 38 = g'71 38 from h87_ 38 (by decide), show g'71 38 = g'37 38 from h75_ 38 (by decide), show g'37 38 = g'25 38 from h42_ 38 (by decide), show g'25 38 = g'8 38 from h30_ 38 (by decide), show g'8 38 = g 38 from h16_ 38 (by decide)]; exact upd_ne (by rw [cl_toNat]; omega)) (fun i _ => by show g'164 23 i = g 23 i; rw [show g'164 23 = g'155 23 from h168_ 23 (by decide), show g'155 23 = gx148 23 from h159_ 23 (by decide), show gx148 23 = g'133 23 from hg149 23 (by decide), show g'133 23 = g'123 23 from h137_ 23 (by decide), show g'123 23 = g'112 23 from h128_ 23 (by decide), show g'112 23 = g'101 23 from h117_ 23 (by decide), show g'101 23 = g'82 23 from h106_ 23 (by decide), show g'82 23 = g'71 23 from h87_ 23 (by decide), show g'71 23 = g'37 23 from h75_ 23 (by decide), show g'37 23 = g'25 23 from h42_ 23 (by decide), show g'25 23 = g'8 23 from h30_ 23 (by decide), show g'8 23 = g 23 from h16_ 23 (by decide)]) hrest) (by show (f 15).toInt + -1 = z0.toInt + 0 + 0; omega) (by show (f 20).toInt = (f 20).toInt; omega) (by show (f 37).toInt + 0 = z132.toInt + 0 + -1; omega) (by show (f 32).toInt + 0 = (f 32).toInt + 0 + 0; omega) (by show (f 5).toInt + 0 = y47.toInt + 0 + -1; omega)⟩⟩ : mg_good (g'164 34) (g'164 38) (g'164 23) (((1 : Int), (0 : Int), (0 : Int), (0 : Int), []) :: (((15 : Int), r122.toInt, r91.toInt, z64.toInt, []) :: gs)) (z0.toInt) ((f 20).toInt) (z132.toInt) ((f 32).toInt) (y47.toInt))
          · exact ⟨(by show 0 ≤ z46.toInt; omega), (by show z46.toInt ≤ (f 0).toInt; omega), (by show (f 0).toInt ≤ 512; omega), (by show 0 ≤ l143.toInt; omega), (by show l143.toInt + (f 20).toInt + mg_p1 (((1 : Int), (0 : Int), (0 : Int), (0 : Int), []) :: (((15 : Int), r122.toInt, r91.toInt, z64.toInt, []) :: gs)) ≤ 4 * z46.toInt; omega), (by show (f 20).toInt ≤ z46.toInt; omega), (by show z0.toInt + mg_p2 (((1 : Int), (0 : Int), (0 : Int), (0 : Int), []) :: (((15 : Int), r122.toInt, r91.toInt, z64.toInt, []) :: gs)) ≤ z46.toInt; omega), (by show mg_p3 (((1 : Int), (0 : Int), (0 : Int), (0 : Int), []) :: (((15 : Int), r122.toInt, r91.toInt, z64.toInt, []) :: gs)) ≤ 20 * z46.toInt + 20; omega), (by show 0 ≤ z121.toInt; omega), (by show z121.toInt + 3 * (f 20).toInt + mg_p4 (((1 : Int), (0 : Int), (0 : Int), (0 : Int), []) :: (((15 : Int), r122.toInt, r91.toInt, z64.toInt, []) :: gs)) ≤ 60 * z46.toInt + 60; omega), (by show 0 ≤ o5.toInt; omega), (by show o5.toInt + 64 * mj_n (g'164 16) z0.toNatClampNeg 3 ≤ 64 * z46.toInt; rw [show g'164 16 = g'155 16 from h168_ 16 (by decide), show g'155 16 = gx148 16 from h159_ 16 (by decide), show gx148 16 = g'133 16 from hg149 16 (by decide), show g'133 16 = g'123 16 from h137_ 16 (by decide), show g'123 16 = g'112 16 from h128_ 16 (by decide), show g'112 16 = g'101 16 from h117_ 16 (by decide), show g'101 16 = g'82 16 from h106_ 16 (by decide), show g'82 16 = g'71 16 from h87_ 16 (by decide), show g'71 16 = g'37 16 from h75_ 16 (by decide), show g'37 16 = g'25 16 from h42_ 16 (by decide), show g'25 16 = g'8 16 from h30_ 16 (by decide)]; omega), (by show 0 ≤ (f 44).toInt; omega), (by show (f 44).toInt ≤ z46.toInt; omega), (by show 0 ≤ (f 48).toInt; omega), (by show (f 48).toInt ≤ z46.toInt; omega), (by show 1 ≤ (f 53).toInt; omega), (by show (f 53).toInt ≤ z46.toInt + 1; omega), (by show 0 ≤ (f 19).toInt; omega), (by show (f 19).toInt ≤ 600; omega), (by show 0 ≤ (f 6).toInt; omega), (by show 0 ≤ a141.toInt; omega)⟩
          · show 100 * ((f 0).toInt - z46.toInt) + mg_p3 (((1 : Int), (0 : Int), (0 : Int), (0 : Int), []) :: (((15 : Int), r122.toInt, r91.toInt, z64.toInt, []) :: gs)) < 100 * ((f 0).toInt - (f 4).toInt) + (1 + mg_p3 gs); omega
      · subst hv57
        have h59_ : (0 : Int) ≤ a55.toInt := h59
        replace hS58 : MS S0 S45 (upd (upd (upd (upd (upd (upd (upd f 6 a55) 7 b56) 10 0) 15 z0) 62 o5) 68 z35) 75 m7) g'37 := hS58
        have hR170 := rj_clear0 hR43_
        have hR171 : RJ (upd (upd (upd (upd (upd (upd (upd f 6 a55) 7 b56) 10 0) 15 z0) 62 o5) 68 z35) 75 m7) g'37 [] bc [] 0 [] := hR170
        show am_E _ _ _ _ [some (.ref 39), some (.int on), some (.int tw), some (.int th), none, none, none, none] [.int 0] _ _
        refine am_e12f hi_257_15 (by decide) ?_
        refine am_e35 hi_257_18 ?_
        show am_E _ _ _ _ [some (.ref 39), some (.int 14), some (.int on), some (.int tw), some (.int th)] [] _ _
        refine am_e18 hi_180_270 ?_
        refine am_e35 hi_180_371 ?_
        have hRc := rj_clear0 hR171
        refine ⟨_, _, [], _, rfl, hS58, Or.inr ⟨hRc, rfl, (by show 0 ≤ (f 4).toInt; omega), (by show (f 4).toInt ≤ (f 0).toInt; omega), (by show 0 ≤ (f 32).toInt; omega), (by show (f 32).toInt ≤ 63; omega), (by show 1 ≤ (f 53).toInt; omega), (by show (f 53).toInt ≤ 600; omega), (by show 0 ≤ z35.toInt; omega), (by show z35.toInt ≤ 60000; omega), (by show 0 ≤ (f 48).toInt; omega), (by show (f 48).toInt ≤ 8000; omega), (by show 0 ≤ (f 37).toInt; omega), (by show (f 37).toInt ≤ 128; omega), (by show 0 ≤ o5.toInt; omega), (by show o5.toInt ≤ 65000; omega), (by show 0 ≤ (f 19).toInt; omega), (by show (f 19).toInt ≤ 600; omega), (by show 0 ≤ a55.toInt; omega), (by show 0 ≤ (f 8).toInt; omega)⟩⟩
    · refine am_e13f hi_258_9 (am_cF (m := (f 19).toInt) (n := (4 : Int)) rfl (by decide) c2) ?_
      refine am_e2 (v := 39) hi_258_12 rfl ?_
      refine am_e32w (as := [.ref 39]) (la := [some (.ref 39), none]) (rest := []) hi_258_13 (am_hd0 (M := 258) (by decide) 13) (Nat.le_of_ble_eq_true rfl) (Nat.le_of_ble_eq_true rfl) (show 1 ≤ am_P0.2.2.1 217 from by decide +kernel) rfl (am_recv_ok hS.fs) rfl rfl ?_
      refine am_e2 (v := 39) hi_217_0 rfl ?_
      refine mm_20 (v := .ref 47) hS hi_217_1 rfl ?_
      refine am_e2 (v := 39) hi_217_4 rfl ?_
      refine mm_20 (v := .int (f 15)) hS hi_217_5 rfl ?_
      refine am_e0 hi_217_8 ?_
      refine am_e10 (z := z0) hi_217_9 hz0 ?_
      refine mm_25 hS ma_17 hi_217_10 (by decide) (by omega) (by omega) ?_
      show am_E _ _ _ _ [some (.ref 39), none] [.int (g 17 z0.toNatClampNeg)] _ _
      have r172 : (g 16 z0.toNatClampNeg).toInt = 1 ∨ (g 16 z0.toNatClampNeg).toInt = 2 → 0 ≤ (g 17 z0.toNatClampNeg).toInt ∧ (g 17 z0.toNatClampNeg).toInt < 65536 := RJ.vc hR z0.toNatClampNeg
      refine am_e3 (ls' := [some (.ref 39), some (.int (g 17 z0.toNatClampNeg))]) hi_217_11 (Nat.le_of_ble_eq_true rfl) rfl ?_
      refine am_e2 (v := 39) hi_217_12 rfl ?_
      refine mm_20 (v := .ref 91) hS hi_217_13 rfl ?_
      refine am_e1 (v := g 17 z0.toNatClampNeg) hi_217_16 rfl ?_
      refine am_e2 (v := 39) hi_217_17 rfl ?_
      refine mm_20 (v := .ref 46) hS hi_217_18 rfl ?_
      refine am_e2 (v := 39) hi_217_21 rfl ?_
      refine mm_20 (v := .int (f 15)) hS hi_217_22 rfl ?_
      refine am_e0 hi_217_25 ?_
      refine am_e10 (z := z0) hi_217_26 hz0 ?_
      refine mm_25 hS ma_16 hi_217_27 (by decide) (by omega) (by omega) ?_
      show am_E _ _ _ _ [some (.ref 39), some (.int (g 17 z0.toNatClampNeg))] [.int (g 16 z0.toNatClampNeg), .int (g 17 z0.toNatClampNeg), .ref 91] _ _
      refine am_e0 hi_217_28 ?_
      refine am_e13f hi_217_29 (am_cF (m := (g 16 z0.toNatClampNeg).toInt) (n := (1 : Int)) rfl (by decide) (by simp only [am_cI]; omega)) ?_
      refine am_e2 (v := 39) hi_217_32 rfl ?_
      refine mm_20 (v := .ref 91) hS hi_217_33 rfl ?_
      refine am_e1 (v := g 17 z0.toNatClampNeg) hi_217_36 rfl ?_
      refine mm_25 hS ma_72 hi_217_37 (by decide) (by omega) (by omega) ?_
      show am_E _ _ _ _ [some (.ref 39), some (.int (g 17 z0.toNatClampNeg))] [.int (g 72 (g 17 z0.toNatClampNeg).toNatClampNeg), .int (g 17 z0.toNatClampNeg), .ref 91] _ _
      refine am_e0 hi_217_38 ?_
      obtain ⟨z173, hz173⟩ : ∃ q__, am_bin 3 (g 72 (g 17 z0.toNatClampNeg).toNatClampNeg) 1 = q__ := ⟨_, rfl⟩
      refine am_e10 (z := z173) hi_217_39 hz173 ?_
      refine am_e0 hi_217_40 ?_
      obtain ⟨z174, hz174⟩ : ∃ q__, am_bin 4 z173 4 = q__ := ⟨_, rfl⟩
      refine am_e10 (z := z174) hi_217_41 hz174 ?_
      refine am_e18 hi_217_42 ?_
      refine mm_26 hS ma_72 hi_217_46 (by decide) (by omega) (by omega) (fun h => nomatch h) ?_
      intro S175 hS176
      refine am_e2 (v := 39) hi_217_47 rfl ?_
      refine am_e7 hi_217_48 ?_
      refine mm_20 (v := .int (f 15)) hS176 hi_217_49 rfl ?_
      refine am_e0 hi_217_52 ?_
      refine am_e10 (z := z0) hi_217_53 hz0 ?_
      refine mm_21 (v := z0) hS176 hi_217_54 rfl (Nat.le_of_ble_eq_true rfl) ms_15 ?_
      intro S177 hS178
      have hp179 : mj_n (g 16) (f 15).toNatClampNeg 3 = mj_n (g 16) z0.toNatClampNeg 3 + if (g 16 z0.toNatClampNeg).toInt = 3 then 1 else 0 := mj_pop (by rw [cl_toNat, cl_toNat]; omega)
      have hp1791 : mj_n (g 16) z0.toNatClampNeg 3 ≤ mj_n (g 16) (f 15).toNatClampNeg 3 := by rw [hp179]; split <;> omega
      have hp1792 : (g 16 z0.toNatClampNeg).toInt = 3 → mj_n (g 16) z0.toNatClampNeg 3 + 1 ≤ mj_n (g 16) (f 15).toNatClampNeg 3 := fun q => by rw [hp179, if_pos q]; exact Int.le_refl _
      refine am_e35 hi_217_57 ?_
      show am_E _ _ _ _ [some (.ref 39), some (.int 4), some (.int (f 19))] [] _ _
      refine am_e2 (v := 39) hi_258_16 rfl ?_
      refine am_e0 hi_258_17 ?_
      refine am_e1 (v := 4) hi_258_19 rfl ?_
      refine am_e1 (v := f 19) hi_258_20 rfl ?_
      obtain ⟨z180, hz180, tz180⟩ := am_subI (x := 4) (y := f 19) (m := (4 : Int)) (n := (f 19).toInt) (by decide) rfl (by omega) (by omega)
      refine am_e10 (z := z180) hi_258_21 hz180 ?_
      refine am_e0 hi_258_22 ?_
      obtain ⟨z181, hz181, tz181⟩ := am_addI (x := z180) (y := 1) (m := z180.toInt) (n := (1 : Int)) rfl (by decide) (by omega) (by omega)
      refine am_e10 (z := z181) hi_258_23 hz181 ?_
      refine am_e0 hi_258_24 ?_
      refine am_e0 hi_258_25 ?_
      refine am_e32n (as := [.ref 39, .int 25, .int z181, .int 0, .int 0]) (la := [some (.ref 39), some (.int 25), some (.int z181), some (.int 0), some (.int 0)]) (rest := []) hi_258_26 (am_hd0 (M := 258) (by decide) 26) (Nat.le_of_ble_eq_true rfl) (Nat.le_of_ble_eq_true rfl) (show 5 ≤ am_P0.2.2.1 189 from by decide +kernel) rfl (am_recv_ok hS178.fs) rfl rfl (ct_put (d := (d + 5)) hS178 hR  (by show (0 : Int) ≤ (f 32).toInt; omega) (by show (f 32).toInt ≤ (63 : Int); omega) (by show (f 53).toInt ≤ (4096 : Int); omega) (by show (0 : Int) ≤ (f 68).toInt; omega) (by show (f 68).toInt ≤ (65534 : Int); omega)) ?_
      rintro v182 S183 (⟨z184, r185, g'186, hv187, hS188, hR192, h189, h190, h191⟩)
      subst hv187
      have h189_ : z184.toInt = (f 68).toInt + 1 := h189
      have h190_ : r185.toInt = (f 68).toInt := h190
      have h191_ : ∀ j, j ∉ [60, 69, 70, 71, 72, 73] → g'186 j = (upg g 72 (g 17 z0.toNatClampNeg).toNatClampNeg z174) j := h191
      have hR192_ : RJ (upd (upd f 15 z0) 68 z184) g'186 gs bc [] 0 ((f 68).toNatClampNeg :: []) := hR192
      show am_E _ _ _ _ [some (.ref 39), some (.int 4), some (.int (f 19))] [.int r185] _ _
      refine am_e6i hi_258_29 ?_
      refine am_e35 hi_258_30 ?_
      show am_E _ _ _ _ [some (.ref 39), some (.int on), some (.int tw), some (.int th), none, none, none, none] [] _ _
      refine am_e2 (v := 39) hi_257_9 rfl ?_
      refine am_e0 hi_257_10 ?_
      refine am_e32n (as := [.ref 39, .int 12]) (la := [some (.ref 39), some (.int 12)]) (rest := []) hi_257_12 (am_hd0 (M := 257) (by decide) 12) (Nat.le_of_ble_eq_true rfl) (Nat.le_of_ble_eq_true rfl) (show 2 ≤ am_P0.2.2.1 193 from by decide +kernel) rfl (am_recv_ok hS188.fs) rfl rfl (ct_enter (d := (d + 4)) hS188   (by show (0 : Int) ≤ (f 4).toInt; omega) (by show (f 0).toInt ≤ (16384 : Int); omega) (by show (0 : Int) ≤ (12 : Int); omega) (by show (0 : Int) ≤ (f 5).toInt; omega) (by show (f 5).toInt ≤ (48 : Int); omega) (by show (0 : Int) ≤ (f 6).toInt; omega)) ?_
      rintro v193 S194 (⟨z195, y196, hv197, hS198, h199, h200, h201, h202⟩ | ⟨a204, b205, hv206, hS207, h208⟩)
      · subst hv197
        have h199_ : z195.toInt = (f 4).toInt + 1 := h199
        have h200_ : (f 4).toInt < (f 0).toInt := h200
        have h201_ : y196.toInt = (f 5).toInt + 1 := h201
        have h202_ : y196.toInt ≤ (48 : Int) := h202
        replace hS198 : MS S0 S194 (upd (upd (upd (upd f 4 z195) 5 y196) 15 z0) 68 z184) g'186 := hS198
        have hR210 : RJ (upd (upd (upd (upd f 4 z195) 5 y196) 15 z0) 68 z184) g'186 gs bc [] 0 ((f 68).toNatClampNeg :: []) := RJ.at hR192_ (by show (f 4).toInt ≤ z195.toInt; omega)
        show am_E _ _ _ _ [some (.ref 39), some (.int on), some (.int tw), some (.int th), none, none, none, none] [.int 1] _ _
        refine am_e12t hi_257_15 (by decide) ?_
        refine am_e2 (v := 39) hi_257_19 rfl ?_
        refine am_e32w (as := [.ref 39]) (la := [some (.ref 39)]) (rest := []) hi_257_20 (am_hd0 (M := 257) (by decide) 20) (Nat.le_of_ble_eq_true rfl) (Nat.le_of_ble_eq_true rfl) (show 1 ≤ am_P0.2.2.1 197 from by decide +kernel) rfl (am_recv_ok hS198.fs) rfl rfl ?_
        refine am_e2 (v := 39) hi_197_0 rfl ?_
        refine mm_20 (v := .int (f 24)) hS198 hi_197_1 rfl ?_
        refine am_e2 (v := 39) hi_197_4 rfl ?_
        refine mm_20 (v := .ref 59) hS198 hi_197_5 rfl ?_
        refine am_e2 (v := 39) hi_197_8 rfl ?_
        refine mm_20 (v := .int (f 32)) hS198 hi_197_9 rfl ?_
        refine mm_25 hS198 ma_34 hi_197_12 (by decide) (by omega) (by omega) ?_
        show am_E _ _ _ _ _ (.int (g'186 34 (f 32).toNatClampNeg) :: _) _ _
        rw [show g'186 34 = g 34 from h191_ 34 (by decide)]
        show am_E _ _ _ _ [some (.ref 39)] [.int (g 34 (f 32).toNatClampNeg), .int (f 24)] _ _
        have r211 : 0 ≤ (g 34 (f 32).toNatClampNeg).toInt := by
          have h := RJ.ba hR210 (f 32).toNatClampNeg
          rw [show g'186 34 = g 34 from h191_ 34 (by decide)] at h
          exact h
        have r212 : (g 34 (f 32).toNatClampNeg).toInt ≤ 2147483647 := i32_le _
        obtain ⟨z213, hz213, tz213⟩ := am_subI (x := f 24) (y := g 34 (f 32).toNatClampNeg) (m := (f 24).toInt) (n := (g 34 (f 32).toNatClampNeg).toInt) rfl rfl (by omega) (by omega)
        refine am_e10 (z := z213) hi_197_13 hz213 ?_
        refine am_e33 hi_197_14 ?_
        show am_E _ _ _ _ [some (.ref 39), some (.int on), some (.int tw), some (.int th), none, none, none, none] [.int z213] _ _
        refine am_e3 (ls' := [some (.ref 39), some (.int on), some (.int tw), some (.int th), some (.int z213), none, none, none]) hi_257_23 (Nat.le_of_ble_eq_true rfl) rfl ?_
        refine am_e2 (v := 39) hi_257_25 rfl ?_
        refine am_e0 hi_257_26 ?_
        refine am_e0 hi_257_27 ?_
        refine am_e1 (v := on) hi_257_28 rfl ?_
        refine am_e32n (as := [.ref 39, .int 4, .int 1, .int on]) (la := [some (.ref 39), some (.int 4), some (.int 1), some (.int on), none]) (rest := []) hi_257_29 (am_hd0 (M := 257) (by decide) 29) (Nat.le_of_ble_eq_true rfl) (Nat.le_of_ble_eq_true rfl) (show 4 ≤ am_P0.2.2.1 254 from by decide +kernel) rfl (am_recv_ok hS198.fs) rfl rfl (ct_hide (d := (d + 4)) hS198 hR210 (by decide)  (by show (0 : Int) ≤ (f 32).toInt; omega) (by show (f 32).toInt ≤ (63 : Int); omega) (by show (f 53).toInt ≤ (4096 : Int); omega) (by show (0 : Int) ≤ (f 24).toInt; omega) (by show (f 24).toInt ≤ (16000 : Int); omega) (by show (0 : Int) ≤ (4 : Int); omega) (by show (4 : Int) ≤ (16 : Int); omega) (by show (0 : Int) ≤ (f 8).toInt; omega)) ?_
        rintro v214 S215 (⟨a216, b217, l218, y219, g'220, hv221, hS222, hR226, h223, h224, h225⟩)
        subst hv221
        have h223_ : l218.toInt = (f 24).toInt + (4 : Int) := h223
        have h224_ : ∀ j, j ∉ [25, 26, 27, 28, 29, 30, 58] → g'220 j = g'186 j := h224
        have h225_ : (0 : Int) ≤ a216.toInt := h225
        replace hS222 : MS S0 S215 (upd (upd (upd (upd (upd (upd (upd (upd f 4 z195) 5 y196) 8 a216) 9 b217) 15 z0) 24 l218) 31 y219) 68 z184) g'220 := hS222
        have hR226_ : RJ (upd (upd (upd (upd (upd (upd (upd (upd f 4 z195) 5 y196) 8 a216) 9 b217) 15 z0) 24 l218) 31 y219) 68 z184) g'220 gs bc [] 0 ((f 68).toNatClampNeg :: []) := hR226
        show am_E _ _ _ _ [some (.ref 39), some (.int on), some (.int tw), some (.int th), some (.int z213), none, none, none] [] _ _
        refine am_e2 (v := 39) hi_257_32 rfl ?_
        refine am_e0 hi_257_33 ?_
        refine am_e1 (v := z213) hi_257_35 rfl ?_
        refine am_e0 hi_257_37 ?_
        refine am_e1 (v := on) hi_257_38 rfl ?_
        refine am_e32n (as := [.ref 39, .int 42, .int z213, .int 0, .int on]) (la := [some (.ref 39), some (.int 42), some (.int z213), some (.int 0), some (.int on)]) (rest := []) hi_257_39 (am_hd0 (M := 257) (by decide) 39) (Nat.le_of_ble_eq_true rfl) (Nat.le_of_ble_eq_true rfl) (show 5 ≤ am_P0.2.2.1 189 from by decide +kernel) rfl (am_recv_ok hS222.fs) rfl rfl (ct_put (d := (d + 6)) hS222 hR226_  (by show (0 : Int) ≤ (f 32).toInt; omega) (by show (f 32).toInt ≤ (63 : Int); omega) (by show (f 53).toInt ≤ (4096 : Int); omega) (by show (0 : Int) ≤ z184.toInt; omega) (by show z184.toInt ≤ (65534 : Int); omega)) ?_
        rintro v227 S228 (⟨z229, r230, g'231, hv232, hS233, hR237, h234, h235, h236⟩)
        subst hv232
        have h234_ : z229.toInt = z184.toInt + 1 := h234
        have h235_ : r230.toInt = z184.toInt := h235
        have h236_ : ∀ j, j ∉ [60, 69, 70, 71, 72, 73] → g'231 j = g'220 j := h236
        replace hS233 : MS S0 S228 (upd (upd (upd (upd (upd (upd (upd (upd f 4 z195) 5 y196) 8 a216) 9 b217) 15 z0) 24 l218) 31 y219) 68 z229) g'231 := hS233
        have hR237_ : RJ (upd (upd (upd (upd (upd (upd (upd (upd f 4 z195) 5 y196) 8 a216) 9 b217) 15 z0) 24 l218) 31 y219) 68 z229) g'231 gs bc [] 0 (z184.toNatClampNeg :: ((f 68).toNatClampNeg :: [])) := hR237
        show am_E _ _ _ _ [some (.ref 39), some (.int on), some (.int tw), some (.int th), some (.int z213), none, none, none] [.int r230] _ _
        refine am_e6i hi_257_42 ?_
        refine am_e2 (v := 39) hi_257_43 rfl ?_
        refine am_e32n (as := [.ref 39]) (la := [some (.ref 39)]) (rest := []) hi_257_44 (am_hd0 (M := 257) (by decide) 44) (Nat.le_of_ble_eq_true rfl) (Nat.le_of_ble_eq_true rfl) (show 1 ≤ am_P0.2.2.1 210 from by decide +kernel) rfl (am_recv_ok hS233.fs) rfl rfl (ct_here (d := (d + 6)) hS233 hR237_  (by show (0 : Int) ≤ (f 32).toInt; omega) (by show (f 32).toInt ≤ (63 : Int); omega) (by show (f 53).toInt ≤ (4096 : Int); omega) (by show (0 : Int) ≤ z229.toInt; omega) (by show z229.toInt ≤ (65534 : Int); omega)) ?_
        rintro v238 S239 (⟨r240, hv241, hS242, h243, h244⟩)
        subst hv241
        have h243_ : (0 : Int) ≤ r240.toInt := h243
        have h244_ : r240.toInt ≤ z229.toInt := h244
        show am_E _ _ _ _ [some (.ref 39), some (.int on), some (.int tw), some (.int th), some (.int z213), none, none, none] [.int r240] _ _
        refine am_e3 (ls' := [some (.ref 39), some (.int on), some (.int tw), some (.int th), some (.int z213), some (.int r240), none, none]) hi_257_47 (Nat.le_of_ble_eq_true rfl) rfl ?_
        refine am_e2 (v := 39) hi_257_49 rfl ?_
        refine am_e0 hi_257_50 ?_
        refine am_e0 hi_257_52 ?_
        refine am_e0 hi_257_53 ?_
        refine am_e1 (v := on) hi_257_54 rfl ?_
        refine am_e32n (as := [.ref 39, .int 34, .int 0, .int 0, .int on]) (la := [some (.ref 39), some (.int 34), some (.int 0), some (.int 0), some (.int on)]) (rest := []) hi_257_55 (am_hd0 (M := 257) (by decide) 55) (Nat.le_of_ble_eq_true rfl) (Nat.le_of_ble_eq_true rfl) (show 5 ≤ am_P0.2.2.1 189 from by decide +kernel) rfl (am_recv_ok hS242.fs) rfl rfl (ct_put (d := (d + 6)) hS242 hR237_  (by show (0 : Int) ≤ (f 32).toInt; omega) (by show (f 32).toInt ≤ (63 : Int); omega) (by show (f 53).toInt ≤ (4096 : Int); omega) (by show (0 : Int) ≤ z229.toInt; omega) (by show z229.toInt ≤ (65534 : Int); omega)) ?_
        rintro v246 S247 (⟨z248, r249, g'250, hv251, hS252, hR256, h253, h254, h255⟩)
        subst hv251
        have h253_ : z248.toInt = z229.toInt + 1 := h253
        have h254_ : r249.toInt = z229.toInt := h254
        have h255_ : ∀ j, j ∉ [60, 69, 70, 71, 72, 73] → g'250 j = g'231 j := h255
        replace hS252 : MS S0 S247 (upd (upd (upd (upd (upd (upd (upd (upd f 4 z195) 5 y196) 8 a216) 9 b217) 15 z0) 24 l218) 31 y219) 68 z248) g'250 := hS252
        have hR256_ : RJ (upd (upd (upd (upd (upd (upd (upd (upd f 4 z195) 5 y196) 8 a216) 9 b217) 15 z0) 24 l218) 31 y219) 68 z248) g'250 gs bc [] 0 (z229.toNatClampNeg :: (z184.toNatClampNeg :: ((f 68).toNatClampNeg :: []))) := hR256
        show am_E _ _ _ _ [some (.ref 39), some (.int on), some (.int tw), some (.int th), some (.int z213), some (.int r240), none, none] [.int r249] _ _
        refine am_e6i hi_257_58 ?_
        refine am_e2 (v := 39) hi_257_59 rfl ?_
        refine am_e0 hi_257_60 ?_
        refine am_e1 (v := z213) hi_257_62 rfl ?_
        refine am_e1 (v := tw) hi_257_64 rfl ?_
        refine am_e1 (v := th) hi_257_65 rfl ?_
        refine am_e32n (as := [.ref 39, .int 43, .int z213, .int tw, .int th]) (la := [some (.ref 39), some (.int 43), some (.int z213), some (.int tw), some (.int th)]) (rest := []) hi_257_66 (am_hd0 (M := 257) (by decide) 66) (Nat.le_of_ble_eq_true rfl) (Nat.le_of_ble_eq_true rfl) (show 5 ≤ am_P0.2.2.1 189 from by decide +kernel) rfl (am_recv_ok hS252.fs) rfl rfl (ct_put (d := (d + 6)) hS252 hR256_  (by show (0 : Int) ≤ (f 32).toInt; omega) (by show (f 32).toInt ≤ (63 : Int); omega) (by show (f 53).toInt ≤ (4096 : Int); omega) (by show (0 : Int) ≤ z248.toInt; omega) (by show z248.toInt ≤ (65534 : Int); omega)) ?_
        rintro v257 S258 (⟨z259, r260, g'261, hv262, hS263, hR267, h264, h265, h266⟩)
        subst hv262
        have h264_ : z259.toInt = z248.toInt + 1 := h264
        have h265_ : r260.toInt = z248.toInt := h265
        have h266_ : ∀ j, j ∉ [60, 69, 70, 71, 72, 73] → g'261 j = g'250 j := h266
        replace hS263 : MS S0 S258 (upd (upd (upd (upd (upd (upd (upd (upd f 4 z195) 5 y196) 8 a216) 9 b217) 15 z0) 24 l218) 31 y219) 68 z259) g'261 := hS263
        have hR267_ : RJ (upd (upd (upd (upd (upd (upd (upd (upd f 4 z195) 5 y196) 8 a216) 9 b217) 15 z0) 24 l218) 31 y219) 68 z259) g'261 gs bc [] 0 (z248.toNatClampNeg :: (z229.toNatClampNeg :: (z184.toNatClampNeg :: ((f 68).toNatClampNeg :: [])))) := hR267
        show am_E _ _ _ _ [some (.ref 39), some (.int on), some (.int tw), some (.int th), some (.int z213), some (.int r240), none, none] [.int r260] _ _
        refine am_e6i hi_257_69 ?_
        refine am_e2 (v := 39) hi_257_70 rfl ?_
        refine am_e0 hi_257_71 ?_
        refine am_e1 (v := z213) hi_257_73 rfl ?_
        refine am_e0 hi_257_75 ?_
        refine am_e0 hi_257_76 ?_
        refine am_e32n (as := [.ref 39, .int 44, .int z213, .int 0, .int 0]) (la := [some (.ref 39), some (.int 44), some (.int z213), some (.int 0), some (.int 0)]) (rest := []) hi_257_77 (am_hd0 (M := 257) (by decide) 77) (Nat.le_of_ble_eq_true rfl) (Nat.le_of_ble_eq_true rfl) (show 5 ≤ am_P0.2.2.1 189 from by decide +kernel) rfl (am_recv_ok hS263.fs) rfl rfl (ct_put (d := (d + 6)) hS263 hR267_  (by show (0 : Int) ≤ (f 32).toInt; omega) (by show (f 32).toInt ≤ (63 : Int); omega) (by show (f 53).toInt ≤ (4096 : Int); omega) (by show (0 : Int) ≤ z259.toInt; omega) (by show z259.toInt ≤ (65534 : Int); omega)) ?_
        rintro v268 S269 (⟨z270, r271, g'272, hv273, hS274, hR278, h275, h276, h277⟩)
        subst hv273
        have h275_ : z270.toInt = z259.toInt + 1 := h275
        have h276_ : r271.toInt = z259.toInt := h276
        have h277_ : ∀ j, j ∉ [60, 69, 70, 71, 72, 73] → g'272 j = g'261 j := h277
        replace hS274 : MS S0 S269 (upd (upd (upd (upd (upd (upd (upd (upd f 4 z195) 5 y196) 8 a216) 9 b217) 15 z0) 24 l218) 31 y219) 68 z270) g'272 := hS274
        have hR278_ : RJ (upd (upd (upd (upd (upd (upd (upd (upd f 4 z195) 5 y196) 8 a216) 9 b217) 15 z0) 24 l218) 31 y219) 68 z270) g'272 gs bc [] 0 (z259.toNatClampNeg :: (z248.toNatClampNeg :: (z229.toNatClampNeg :: (z184.toNatClampNeg :: ((f 68).toNatClampNeg :: []))))) := hR278
        show am_E _ _ _ _ [some (.ref 39), some (.int on), some (.int tw), some (.int th), some (.int z213), some (.int r240), none, none] [.int r271] _ _
        refine am_e3 (ls' := [some (.ref 39), some (.int on), some (.int tw), some (.int th), some (.int z213), some (.int r240), some (.int r271), none]) hi_257_80 (Nat.le_of_ble_eq_true rfl) rfl ?_
        refine am_e2 (v := 39) hi_257_82 rfl ?_
        refine am_e0 hi_257_83 ?_
        refine am_e32n (as := [.ref 39, .int 1]) (la := [some (.ref 39), some (.int 1)]) (rest := []) hi_257_84 (am_hd0 (M := 257) (by decide) 84) (Nat.le_of_ble_eq_true rfl) (Nat.le_of_ble_eq_true rfl) (show 2 ≤ am_P0.2.2.1 177 from by decide +kernel) rfl (am_recv_ok hS274.fs) rfl rfl (ct_beginBlock2 (d := (d + 6)) hS274 hR278_ (by decide)  (by show (0 : Int) ≤ (f 37).toInt; omega) (by show (f 37).toInt ≤ (127 : Int); omega) (by show (0 : Int) ≤ l218.toInt; omega) (by show (0 : Int) ≤ (f 44).toInt; omega) (by show (f 44).toInt ≤ z195.toInt; omega) (by show (0 : Int) ≤ (f 48).toInt; omega)) ?_
        rintro v279 S280 (⟨z281, g'282, hv283, hS284, hR288, h285, h286, h287⟩)
        subst hv283
        have h285_ : z281.toInt = (f 37).toInt + 1 := h285
        have h286_ : ∀ j, j ∉ [38, 39, 40, 41, 42, 43] → g'282 j = g'272 j := h286
        have h287_ : g'282 38 = upd (g'272 38) (f 37).toNatClampNeg l218 := h287
        replace hS284 : MS S0 S280 (upd (upd (upd (upd (upd (upd (upd (upd (upd f 4 z195) 5 y196) 8 a216) 9 b217) 15 z0) 24 l218) 31 y219) 37 z281) 68 z270) g'282 := hS284
        have hR288_ : RJ (upd (upd (upd (upd (upd (upd (upd (upd (upd f 4 z195) 5 y196) 8 a216) 9 b217) 15 z0) 24 l218) 31 y219) 37 z281) 68 z270) g'282 gs ([] :: bc) [] 0 (z259.toNatClampNeg :: (z248.toNatClampNeg :: (z229.toNatClampNeg :: (z184.toNatClampNeg :: ((f 68).toNatClampNeg :: []))))) := hR288
        show am_E _ _ _ _ [some (.ref 39), some (.int on), some (.int tw), some (.int th), some (.int z213), some (.int r240), some (.int r271), none] [] _ _
        refine am_e0 hi_257_87 ?_
        refine am_e3 (ls' := [some (.ref 39), some (.int on), some (.int tw), some (.int th), some (.int z213), some (.int r240), some (.int r271), some (.int 0)]) hi_257_88 (Nat.le_of_ble_eq_true rfl) rfl ?_
        refine fr_each (d := (d + 2)) (f := (upd (upd (upd (upd (upd (upd (upd (upd (upd f 4 z195) 5 y196) 8 a216) 9 b217) 15 z0) 24 l218) 31 y219) 37 z281) 68 z270)) (g := g'282) (w := on) (m := tw) (x3 := th) (c4 := z213) (h5 := r240) (q6 := r271)  (by show (0 : Int) ≤ (f 32).toInt; omega) (by show (f 32).toInt ≤ (63 : Int); omega) (by show (f 53).toInt ≤ (4096 : Int); omega) (by show (0 : Int) ≤ l218.toInt; omega) (by show l218.toInt + tw.toInt ≤ 16383; omega) (by show (0 : Int) ≤ on.toInt; omega) (by show on.toInt + 2 * tw.toInt ≤ 16000; omega) (by show (0 : Int) ≤ a216.toInt; omega) ?_ ((tw.toInt - (0 : Int)).toNat + 1) _ 0 a216 b217 l218 y219 _ hS284 hR288_ (fun _ _ => rfl) (by show (0 : Int) ≤ (0 : Int); omega) (by show (0 : Int) ≤ tw.toInt; omega) (by show l218.toInt = l218.toInt + (0 : Int); omega) (by show (0 : Int) ≤ a216.toInt; omega) (by show tw.toInt - (0 : Int) < _; omega)
        · intro S294 i289 a290 b291 l292 y293 gx297 hS295 hR296 hg298 h299 h300
          replace hS295 : MS S0 S294 (upd (upd (upd (upd (upd (upd (upd (upd (upd f 4 z195) 5 y196) 8 a290) 9 b291) 15 z0) 24 l292) 31 y293) 37 z281) 68 z270) gx297 := hS295
          have h299_ : l292.toInt = l218.toInt + tw.toInt := h299
          have h300_ : (0 : Int) ≤ a290.toInt := h300
          have hR296_ : RJ (upd (upd (upd (upd (upd (upd (upd (upd (upd f 4 z195) 5 y196) 8 a290) 9 b291) 15 z0) 24 l292) 31 y293) 37 z281) 68 z270) gx297 gs ([] :: bc) [] 0 (z259.toNatClampNeg :: (z248.toNatClampNeg :: (z229.toNatClampNeg :: (z184.toNatClampNeg :: ((f 68).toNatClampNeg :: []))))) := hR296
          show am_E _ _ _ _ [some (.ref 39), some (.int on), some (.int tw), some (.int th), some (.int z213), some (.int r240), some (.int r271), some (.int i289)] [] _ _
          refine am_e2 (v := 39) hi_257_129 rfl ?_
          refine am_e0 hi_257_130 ?_
          refine am_e1 (v := r271) hi_257_132 rfl ?_
          refine am_e1 (v := r240) hi_257_134 rfl ?_
          refine am_e1 (v := z213) hi_257_136 rfl ?_
          refine am_e32n (as := [.ref 39, .int 15, .int r271, .int r240, .int z213]) (la := [some (.ref 39), some (.int 15), some (.int r271), some (.int r240), some (.int z213)]) (rest := []) hi_257_138 (am_hd0 (M := 257) (by decide) 138) (Nat.le_of_ble_eq_true rfl) (Nat.le_of_ble_eq_true rfl) (show 5 ≤ am_P0.2.2.1 179 from by decide +kernel) rfl (am_recv_ok hS295.fs) rfl rfl (ct_pile (d := (d + 6)) hS295 hR296_ (mj_e_b (by decide) (by omega) (by show r271.toInt < z270.toInt; omega)) (by show (0 : Int) ≤ (f 10).toInt; omega) (by show (f 10).toInt ≤ (65535 : Int); omega)) ?_
          rintro v301 S302 (⟨z303, g'304, hv305, hS306, hR309, h307, h308⟩)
          subst hv305
          have h307_ : z303.toInt = (f 10).toInt + 1 := h307
          have h308_ : ∀ j, j ∉ [11, 12, 13, 14] → g'304 j = gx297 j := h308
          replace hS306 : MS S0 S302 (upd (upd (upd (upd (upd (upd (upd (upd (upd (upd f 4 z195) 5 y196) 8 a290) 9 b291) 10 z303) 15 z0) 24 l292) 31 y293) 37 z281) 68 z270) g'304 := hS306
          have hR309_ : RJ (upd (upd (upd (upd (upd (upd (upd (upd (upd (upd f 4 z195) 5 y196) 8 a290) 9 b291) 10 z303) 15 z0) 24 l292) 31 y293) 37 z281) 68 z270) g'304 (((15 : Int), r271.toInt, r240.toInt, z213.toInt, []) :: gs) ([] :: bc) [] 0 (z259.toNatClampNeg :: (z248.toNatClampNeg :: (z229.toNatClampNeg :: (z184.toNatClampNeg :: ((f 68).toNatClampNeg :: []))))) := hR309
          show am_E _ _ _ _ [some (.ref 39), some (.int on), some (.int tw), some (.int th), some (.int z213), some (.int r240), some (.int r271), some (.int i289)] [] _ _
          refine am_e2 (v := 39) hi_257_141 rfl ?_
          refine am_e32w (as := [.ref 39]) (la := [some (.ref 39)]) (rest := []) hi_257_142 (am_hd0 (M := 257) (by decide) 142) (Nat.le_of_ble_eq_true rfl) (Nat.le_of_ble_eq_true rfl) (show 1 ≤ am_P0.2.2.1 178 from by decide +kernel) rfl (am_recv_ok hS306.fs) rfl rfl ?_
          refine am_e2 (v := 39) hi_178_0 rfl ?_
          refine am_e0 hi_178_1 ?_
          refine am_e0 hi_178_2 ?_
          refine am_e0 hi_178_3 ?_
          refine am_e0 hi_178_4 ?_
          refine am_e32n (as := [.ref 39, .int 1, .int 0, .int 0, .int 0]) (la := [some (.ref 39), some (.int 1), some (.int 0), some (.int 0), some (.int 0)]) (rest := []) hi_178_5 (am_hd0 (M := 178) (by decide) 5) (Nat.le_of_ble_eq_true rfl) (Nat.le_of_ble_eq_true rfl) (show 5 ≤ am_P0.2.2.1 179 from by decide +kernel) rfl (am_recv_ok hS306.fs) rfl rfl (ct_pile (d := (d + 5)) hS306 hR309_ (mj_e_plain (by decide)) (by show (0 : Int) ≤ z303.toInt; omega) (by show z303.toInt ≤ (65535 : Int); omega)) ?_
          rintro v310 S311 (⟨z312, g'313, hv314, hS315, hR318, h316, h317⟩)
          subst hv314
          have h316_ : z312.toInt = z303.toInt + 1 := h316
          have h317_ : ∀ j, j ∉ [11, 12, 13, 14] → g'313 j = g'304 j := h317
          replace hS315 : MS S0 S311 (upd (upd (upd (upd (upd (upd (upd (upd (upd (upd f 4 z195) 5 y196) 8 a290) 9 b291) 10 z312) 15 z0) 24 l292) 31 y293) 37 z281) 68 z270) g'313 := hS315
          have hR318_ : RJ (upd (upd (upd (upd (upd (upd (upd (upd (upd (upd f 4 z195) 5 y196) 8 a290) 9 b291) 10 z312) 15 z0) 24 l292) 31 y293) 37 z281) 68 z270) g'313 (((1 : Int), (0 : Int), (0 : Int), (0 : Int), []) :: (((15 : Int), r271.toInt, r240.toInt, z213.toInt, []) :: gs)) ([] :: bc) [] 0 (z259.toNatClampNeg :: (z248.toNatClampNeg :: (z229.toNatClampNeg :: (z184.toNatClampNeg :: ((f 68).toNatClampNeg :: []))))) := hR318
          show am_E _ _ _ _ [some (.ref 39)] [] _ _
          refine am_e35 hi_178_8 ?_
          show am_E _ _ _ _ [some (.ref 39), some (.int on), some (.int tw), some (.int th), some (.int z213), some (.int r240), some (.int r271), some (.int i289)] [] _ _
          refine am_e35 hi_257_145 ?_
          show am_E _ _ _ _ [some (.ref 39), some (.int 14), some (.int on), some (.int tw), some (.int th)] [] _ _
          refine am_e18 hi_180_270 ?_
          refine am_e35 hi_180_371 ?_
          have q1 : mg_p1 (((1 : Int), (0 : Int), (0 : Int), (0 : Int), []) :: (((15 : Int), r271.toInt, r240.toInt, z213.toInt, []) :: gs)) = 0 + (0 + (mg_p1 gs)) := rfl
          have q2 : mg_p2 (((1 : Int), (0 : Int), (0 : Int), (0 : Int), []) :: (((15 : Int), r271.toInt, r240.toInt, z213.toInt, []) :: gs)) = 0 + (0 + (mg_p2 gs)) := rfl
          have q3 : mg_p3 (((1 : Int), (0 : Int), (0 : Int), (0 : Int), []) :: (((15 : Int), r271.toInt, r240.toInt, z213.toInt, []) :: gs)) = 1 + (1 + (mg_p3 gs)) := rfl
          have q4 : mg_p4 (((1 : Int), (0 : Int), (0 : Int), (0 : Int), []) :: (((15 : Int), r271.toInt, r240.toInt, z213.toInt, []) :: gs)) = 0 + (0 + (mg_p4 gs)) := rfl
          refine ⟨_, _, _, ([] :: bc), rfl, hS315, Or.inl ⟨⟨(RJ.fewer (pj' := []) hR318_ (fun _ h => nomatch h)), ?_, ?_⟩, rfl, ?_⟩⟩
          · exact (⟨⟨(show mg_k 1 from by decide), (show (0 : Int) ≤ z0.toInt from by omega), (show 0 ≤ (f 20).toInt from by omega), (show 1 ≤ z281.toInt from by omega), (show 0 ≤ (f 32).toInt from by omega), (show (f 32).toInt ≤ y196.toInt from by omega), (show y196.toInt ≤ 48 from by omega), (show z281.toInt ≤ 2 * (y196.toInt) + 1 from by omega), trivial⟩, ⟨⟨(show mg_k 15 from by decide), (show (0 : Int) ≤ z0.toInt + 0 from by omega), (show 0 ≤ (f 20).toInt from by omega), (show 1 ≤ z281.toInt + 0 from by omega), (show 0 ≤ (f 32).toInt + 0 from by omega), (show (f 32).toInt + 0 ≤ y196.toInt + 0 from by omega), (show y196.toInt + 0 ≤ 48 from by omega), (show z281.toInt + 0 ≤ 2 * (y196.toInt + 0) + 0 from by omega), (mg_pa13 (l1 := l218) hR (by show g'313 34 = g 34; rw [show g'313 34 = g'304 34 from h317_ 34 (by decide), show g'304 34 = gx297 34 from h308_ 34 (by decide), show gx297 34 = g'282 34 from hg298 34 (by decide), show g'282 34 = g'272 34 from h286_ 34 (by decide), show g'272 34 = g'261 34 from h277_ 34 (by decide), show g'261 34 = g'250 34 from h266_ 34 (by decide), show g'250 34 = g'231 34 from h255_ 34 (by decide), show g'231 34 = g'220 34 from h236_ 34 (by decide), show g'220 34 = g'186 34 from h224_ 34 (by decide), show g'186 34 = g 34 from h191_ 34 (by decide)]) (by show g'313 38 = upd (g 38) (f 37).toNatClampNeg l218; rw [show g'313 38 = g'304 38 from h317_ 38 (by decide), show g'304 38 = gx297 38 from h308_ 38 (by decide), show gx297 38 = g'282 38 from hg298 38 (by decide), h287_, show g'272 38 = g'261 38 from h277_ 38 (by decide), show g'261 38 = g'250 38 from h266_ 38 (by decide), show g'250 38 = g'231 38 from h255_ 38 (by decide), show g'231 38 = g'220 38 from h236_ 38 (by decide), show g'220 38 = g'186 38 from h224_ 38 (by decide), show g'186 38 = g 38 from h191_ 38 (by decide)]) (by show (f 32).toInt + 0 = (f 32).toInt; omega) (by omega) (by show z281.toInt + 0 = (f 37).toInt + 1; omega) (by show z213.toInt = (f 24).toInt - (g 34 (f 32).toNatClampNeg).toInt; omega) (by omega) (by show (f 24).toInt ≤ l218.toInt; omega))⟩, mg_cast (mg_good_ext _ _ _ _ _ _ (fun i _ => by show g'313 34 i = g 34 i; rw [show g'313 34 = g'304 34 from h317_ 34 (by decide), show g'304 34 = gx297 34 from h308_ 34 (by decide), show gx297 34 = g'282 34 from hg298 34 (by decide), show g'282 34 = g'272 34 from h286_ 34 (by decide), show g'272 34 = g'261 34 from h277_ 34 (by decide), show g'261 34 = g'250 34 from h266_ 34 (by decide), show g'250 34 = g'231 34 from h255_ 34 (by decide), show g'231 34 = g'220 34 from h236_ 34 (by decide), show g'220 34 = g'186 34 from h224_ 34 (by decide), show g'186 34 = g 34 from h191_ 34 (by decide)]) (fun i hi => by show g'313 38 i = g 38 i; rw [show g'313 38 = g'304 38 from h317_ 38 (by decide), show g'304 38 = gx297 38 from h308_ 38 (by decide), show gx297 38 = g'282 38 from hg298 38 (by decide), h287_, show g'272 38 = g'261 38 from h277_ 38 (by decide), show g'261 38 = g'250 38 from h266_ 38 (by decide), show g'250 38 = g'231 38 from h255_ 38 (by decide), show g'231 38 = g'220 38 from h236_ 38 (by decide), show g'220 38 = g'186 38 from h224_ 38 (by decide), show g'186 38 = g 38 from h191_ 38 (by decide)]; exact upd_ne (by rw [cl_toNat]; omega)) (fun i _ => by show g'313 23 i = g 23 i; rw [show g'313 23 = g'304 23 from h317_ 23 (by decide), show g'304 23 = gx297 23 from h308_ 23 (by decide), show gx297 23 = g'282 23 from hg298 23 (by decide), show g'282 23 = g'272 23 from h286_ 23 (by decide), show g'272 23 = g'261 23 from h277_ 23 (by decide), show g'261 23 = g'250 23 from h266_ 23 (by decide), show g'250 23 = g'231 23 from h255_ 23 (by decide), show g'231 23 = g'220 23 from h236_ 23 (by decide), show g'220 23 = g'186 23 from h224_ 23 (by decide), show g'186 23 = g 23 from h191_ 23 (by decide)]) hrest) (by show (f 15).toInt + -1 = z0.toInt + 0 + 0; omega) (by show (f 20).toInt = (f 20).toInt; omega) (by show (f 37).toInt + 0 = z281.toInt + 0 + -1; omega) (by show (f 32).toInt + 0 = (f 32).toInt + 0 + 0; omega) (by show (f 5).toInt + 0 = y196.toInt + 0 + -1; omega)⟩⟩ : mg_good (g'313 34) (g'313 38) (g'313 23) (((1 : Int), (0 : Int), (0 : Int), (0 : Int), []) :: (((15 : Int), r271.toInt, r240.toInt, z213.toInt, []) :: gs)) (z0.toInt) ((f 20).toInt) (z281.toInt) ((f 32).toInt) (y196.toInt))
          · exact ⟨(by show 0 ≤ z195.toInt; omega), (by show z195.toInt ≤ (f 0).toInt; omega), (by show (f 0).toInt ≤ 512; omega), (by show 0 ≤ l292.toInt; omega), (by show l292.toInt + (f 20).toInt + mg_p1 (((1 : Int), (0 : Int), (0 : Int), (0 : Int), []) :: (((15 : Int), r271.toInt, r240.toInt, z213.toInt, []) :: gs)) ≤ 4 * z195.toInt; omega), (by show (f 20).toInt ≤ z195.toInt; omega), (by show z0.toInt + mg_p2 (((1 : Int), (0 : Int), (0 : Int), (0 : Int), []) :: (((15 : Int), r271.toInt, r240.toInt, z213.toInt, []) :: gs)) ≤ z195.toInt; omega), (by show mg_p3 (((1 : Int), (0 : Int), (0 : Int), (0 : Int), []) :: (((15 : Int), r271.toInt, r240.toInt, z213.toInt, []) :: gs)) ≤ 20 * z195.toInt + 20; omega), (by show 0 ≤ z270.toInt; omega), (by show z270.toInt + 3 * (f 20).toInt + mg_p4 (((1 : Int), (0 : Int), (0 : Int), (0 : Int), []) :: (((15 : Int), r271.toInt, r240.toInt, z213.toInt, []) :: gs)) ≤ 60 * z195.toInt + 60; omega), (by show 0 ≤ (f 62).toInt; omega), (by show (f 62).toInt + 64 * mj_n (g'313 16) z0.toNatClampNeg 3 ≤ 64 * z195.toInt; rw [show g'313 16 = g'304 16 from h317_ 16 (by decide), show g'304 16 = gx297 16 from h308_ 16 (by decide), show gx297 16 = g'282 16 from hg298 16 (by decide), show g'282 16 = g'272 16 from h286_ 16 (by decide), show g'272 16 = g'261 16 from h277_ 16 (by decide), show g'261 16 = g'250 16 from h266_ 16 (by decide), show g'250 16 = g'231 16 from h255_ 16 (by decide), show g'231 16 = g'220 16 from h236_ 16 (by decide), show g'220 16 = g'186 16 from h224_ 16 (by decide), show g'186 16 = g 16 from h191_ 16 (by decide)]; omega), (by show 0 ≤ (f 44).toInt; omega), (by show (f 44).toInt ≤ z195.toInt; omega), (by show 0 ≤ (f 48).toInt; omega), (by show (f 48).toInt ≤ z195.toInt; omega), (by show 1 ≤ (f 53).toInt; omega), (by show (f 53).toInt ≤ z195.toInt + 1; omega), (by show 0 ≤ (f 19).toInt; omega), (by show (f 19).toInt ≤ 600; omega), (by show 0 ≤ (f 6).toInt; omega), (by show 0 ≤ a290.toInt; omega)⟩
          · show 100 * ((f 0).toInt - z195.toInt) + mg_p3 (((1 : Int), (0 : Int), (0 : Int), (0 : Int), []) :: (((15 : Int), r271.toInt, r240.toInt, z213.toInt, []) :: gs)) < 100 * ((f 0).toInt - (f 4).toInt) + (1 + mg_p3 gs); omega
      · subst hv206
        have h208_ : (0 : Int) ≤ a204.toInt := h208
        replace hS207 : MS S0 S194 (upd (upd (upd (upd (upd f 6 a204) 7 b205) 10 0) 15 z0) 68 z184) g'186 := hS207
        have hR319 := rj_clear0 hR192_
        have hR320 : RJ (upd (upd (upd (upd (upd f 6 a204) 7 b205) 10 0) 15 z0) 68 z184) g'186 [] bc [] 0 [] := hR319
        show am_E _ _ _ _ [some (.ref 39), some (.int on), some (.int tw), some (.int th), none, none, none, none] [.int 0] _ _
        refine am_e12f hi_257_15 (by decide) ?_
        refine am_e35 hi_257_18 ?_
        show am_E _ _ _ _ [some (.ref 39), some (.int 14), some (.int on), some (.int tw), some (.int th)] [] _ _
        refine am_e18 hi_180_270 ?_
        refine am_e35 hi_180_371 ?_
        have hRc := rj_clear0 hR320
        refine ⟨_, _, [], _, rfl, hS207, Or.inr ⟨hRc, rfl, (by show 0 ≤ (f 4).toInt; omega), (by show (f 4).toInt ≤ (f 0).toInt; omega), (by show 0 ≤ (f 32).toInt; omega), (by show (f 32).toInt ≤ 63; omega), (by show 1 ≤ (f 53).toInt; omega), (by show (f 53).toInt ≤ 600; omega), (by show 0 ≤ z184.toInt; omega), (by show z184.toInt ≤ 60000; omega), (by show 0 ≤ (f 48).toInt; omega), (by show (f 48).toInt ≤ 8000; omega), (by show 0 ≤ (f 37).toInt; omega), (by show (f 37).toInt ≤ 128; omega), (by show 0 ≤ (f 62).toInt; omega), (by show (f 62).toInt ≤ 65000; omega), (by show 0 ≤ (f 19).toInt; omega), (by show (f 19).toInt ≤ 600; omega), (by show 0 ≤ a204.toInt; omega), (by show 0 ≤ (f 8).toInt; omega)⟩⟩
  · refine am_e13f hi_216_12 (am_cF (m := (g 16 z0.toNatClampNeg).toInt) (n := (1 : Int)) rfl (by decide) c1) ?_
    refine am_e2 (v := 39) hi_216_15 rfl ?_
    refine mm_20 (v := .ref 46) hS hi_216_16 rfl ?_
    refine am_e2 (v := 39) hi_216_19 rfl ?_
    refine mm_20 (v := .int (f 15)) hS hi_216_20 rfl ?_
    refine am_e0 hi_216_23 ?_
    refine am_e10 (z := z0) hi_216_24 hz0 ?_
    refine mm_25 hS ma_16 hi_216_25 (by decide) (by omega) (by omega) ?_
    show am_E _ _ _ _ [some (.ref 39)] [.int (g 16 z0.toNatClampNeg)] _ _
    refine am_e0 hi_216_26 ?_
    by_cases c321 : ¬ (g 16 z0.toNatClampNeg).toInt = (2 : Int)
    · refine am_e13t hi_216_27 (am_cT (m := (g 16 z0.toNatClampNeg).toInt) (n := (2 : Int)) rfl (by decide) c321) ?_
      refine am_e0 hi_216_34 ?_
      refine am_e36 hi_216_35 (by decide) ?_
      show am_E _ _ _ _ [some (.ref 39), some (.int 4), some (.int (f 19))] [.int 0] _ _
      refine am_e12t hi_258_4 (by decide) ?_
      refine am_e2 (v := 39) hi_258_31 rfl ?_
      refine am_e32w (as := [.ref 39]) (la := [some (.ref 39)]) (rest := []) hi_258_32 (am_hd0 (M := 258) (by decide) 32) (Nat.le_of_ble_eq_true rfl) (Nat.le_of_ble_eq_true rfl) (show 1 ≤ am_P0.2.2.1 209 from by decide +kernel) rfl (am_recv_ok hS.fs) rfl rfl ?_
      refine am_e2 (v := 39) hi_209_0 rfl ?_
      refine am_e32n (as := [.ref 39]) (la := [some (.ref 39), none, none, none]) (rest := []) hi_209_1 (am_hd0 (M := 209) (by decide) 1) (Nat.le_of_ble_eq_true rfl) (Nat.le_of_ble_eq_true rfl) (show 1 ≤ am_P0.2.2.1 204 from by decide +kernel) rfl (am_recv_ok hS.fs) rfl rfl (ct_load (d := (d + 2)) hS hR  (by show (0 : Int) ≤ (f 32).toInt; omega) (by show (f 32).toInt ≤ (63 : Int); omega) (by show (f 53).toInt ≤ (4096 : Int); omega) (by show (0 : Int) ≤ (f 68).toInt; omega) (by show (f 68).toInt ≤ (65534 : Int); omega) (by show (1 : Int) ≤ (f 15).toInt; omega) (by show (f 15).toInt ≤ (32767 : Int); omega) (by show (0 : Int) ≤ (f 24).toInt; omega) (by show (f 24).toInt ≤ (16384 : Int); omega) (by show (0 : Int) ≤ (f 62).toInt; omega) (by show (f 62).toInt ≤ (65000 : Int); omega)) ?_
      rintro v322 S323 (⟨o324, s325, m326, g'327, hv328, hS329, hR336, h330, h331, h332, h333, h334, h335⟩)
      subst hv328
      have h330_ : (f 62).toInt ≤ o324.toInt := h330
      have h331_ : o324.toInt ≤ (f 62).toInt + 64 := h331
      have h332_ : (f 68).toInt ≤ s325.toInt := h332
      have h333_ : s325.toInt ≤ (f 68).toInt + 1 := h333
      have h334_ : o324.toInt + 64 * mj_n (g'327 16) (f 15).toNatClampNeg 3 ≤ (f 62).toInt + 64 * mj_n (g 16) (f 15).toNatClampNeg 3 := h334
      have h335_ : ∀ j, j ∉ [16, 60, 63, 64, 65, 66, 67, 69, 70, 71, 72, 73] → g'327 j = g j := h335
      have hR336_ : RJ (upd (upd (upd f 62 o324) 68 s325) 75 m326) g'327 gs bc [] 0 [] := hR336
      show am_E _ _ _ _ [some (.ref 39)] [] _ _
      refine am_e2 (v := 39) hi_209_4 rfl ?_
      refine am_e7 hi_209_5 ?_
      refine mm_20 (v := .int (f 15)) hS329 hi_209_6 rfl ?_
      refine am_e0 hi_209_9 ?_
      refine am_e10 (z := z0) hi_209_10 hz0 ?_
      refine mm_21 (v := z0) hS329 hi_209_11 rfl (Nat.le_of_ble_eq_true rfl) ms_15 ?_
      intro S337 hS338
      replace hS338 : MS S0 S337 (upd (upd (upd (upd f 15 z0) 62 o324) 68 s325) 75 m326) g'327 := hS338
      have hp339 : mj_n (g'327 16) (f 15).toNatClampNeg 3 = mj_n (g'327 16) z0.toNatClampNeg 3 + if (g'327 16 z0.toNatClampNeg).toInt = 3 then 1 else 0 := mj_pop (by rw [cl_toNat, cl_toNat]; omega)
      have hp3391 : mj_n (g'327 16) z0.toNatClampNeg 3 ≤ mj_n (g'327 16) (f 15).toNatClampNeg 3 := by rw [hp339]; split <;> omega
      have hp3392 : (g'327 16 z0.toNatClampNeg).toInt = 3 → mj_n (g'327 16) z0.toNatClampNeg 3 + 1 ≤ mj_n (g'327 16) (f 15).toNatClampNeg 3 := fun q => by rw [hp339, if_pos q]; exact Int.le_refl _
      refine am_e35 hi_209_14 ?_
      show am_E _ _ _ _ [some (.ref 39), some (.int 4), some (.int (f 19))] [] _ _
      refine am_e2 (v := 39) hi_258_35 rfl ?_
      refine am_e1 (v := 4) hi_258_36 rfl ?_
      refine am_e1 (v := f 19) hi_258_37 rfl ?_
      obtain ⟨z340, hz340, tz340⟩ := am_subI (x := 4) (y := f 19) (m := (4 : Int)) (n := (f 19).toInt) (by decide) rfl (by omega) (by omega)
      refine am_e10 (z := z340) hi_258_38 hz340 ?_
      refine am_e32n (as := [.ref 39, .int z340]) (la := [some (.ref 39), some (.int z340), none]) (rest := []) hi_258_39 (am_hd0 (M := 258) (by decide) 39) (Nat.le_of_ble_eq_true rfl) (Nat.le_of_ble_eq_true rfl) (show 2 ≤ am_P0.2.2.1 240 from by decide +kernel) rfl (am_recv_ok hS338.fs) rfl rfl (ct_nils (d := (d + 4)) hS338 hR336_  (by show (0 : Int) ≤ (f 32).toInt; omega) (by show (f 32).toInt ≤ (63 : Int); omega) (by show (f 53).toInt ≤ (4096 : Int); omega) (by show (0 : Int) ≤ s325.toInt; omega) (by show s325.toInt ≤ (65534 : Int); omega) (by show s325.toInt + z340.toInt ≤ 65534; omega)) ?_
      rintro v341 S342 (⟨s343, g'344, hv345, hS346, hR350, h347, h348, h349⟩)
      subst hv345
      have h347_ : s325.toInt ≤ s343.toInt := h347
      have h348_ : s343.toInt ≤ s325.toInt + z340.toInt ∨ s343.toInt ≤ s325.toInt := h348
      have h349_ : ∀ j, j ∉ [60, 69, 70, 71, 72, 73] → g'344 j = g'327 j := h349
      replace hS346 : MS S0 S342 (upd (upd (upd (upd f 15 z0) 62 o324) 68 s343) 75 m326) g'344 := hS346
      have hR350_ : RJ (upd (upd (upd (upd f 15 z0) 62 o324) 68 s343) 75 m326) g'344 gs bc [] 0 [] := hR350
      show am_E _ _ _ _ [some (.ref 39), some (.int 4), some (.int (f 19))] [] _ _
      refine am_e1 (v := f 19) hi_258_42 rfl ?_
      refine am_e1 (v := 4) hi_258_43 rfl ?_
      by_cases c351 : (f 19).toInt ≤ (4 : Int)
      · refine am_e13t hi_258_44 (am_cT (m := (f 19).toInt) (n := (4 : Int)) rfl (by decide) c351) ?_
        refine am_e35 hi_258_59 ?_
        show am_E _ _ _ _ [some (.ref 39), some (.int on), some (.int tw), some (.int th), none, none, none, none] [] _ _
        refine am_e2 (v := 39) hi_257_9 rfl ?_
        refine am_e0 hi_257_10 ?_
        refine am_e32n (as := [.ref 39, .int 12]) (la := [some (.ref 39), some (.int 12)]) (rest := []) hi_257_12 (am_hd0 (M := 257) (by decide) 12) (Nat.le_of_ble_eq_true rfl) (Nat.le_of_ble_eq_true rfl) (show 2 ≤ am_P0.2.2.1 193 from by decide +kernel) rfl (am_recv_ok hS346.fs) rfl rfl (ct_enter (d := (d + 4)) hS346   (by show (0 : Int) ≤ (f 4).toInt; omega) (by show (f 0).toInt ≤ (16384 : Int); omega) (by show (0 : Int) ≤ (12 : Int); omega) (by show (0 : Int) ≤ (f 5).toInt; omega) (by show (f 5).toInt ≤ (48 : Int); omega) (by show (0 : Int) ≤ (f 6).toInt; omega)) ?_
        rintro v352 S353 (⟨z354, y355, hv356, hS357, h358, h359, h360, h361⟩ | ⟨a363, b364, hv365, hS366, h367⟩)
        · subst hv356
          have h358_ : z354.toInt = (f 4).toInt + 1 := h358
          have h359_ : (f 4).toInt < (f 0).toInt := h359
          have h360_ : y355.toInt = (f 5).toInt + 1 := h360
          have h361_ : y355.toInt ≤ (48 : Int) := h361
          replace hS357 : MS S0 S353 (upd (upd (upd (upd (upd (upd f 4 z354) 5 y355) 15 z0) 62 o324) 68 s343) 75 m326) g'344 := hS357
          have hR369 : RJ (upd (upd (upd (upd (upd (upd f 4 z354) 5 y355) 15 z0) 62 o324) 68 s343) 75 m326) g'344 gs bc [] 0 [] := RJ.at hR350_ (by show (f 4).toInt ≤ z354.toInt; omega)
          show am_E _ _ _ _ [some (.ref 39), some (.int on), some (.int tw), some (.int th), none, none, none, none] [.int 1] _ _
          refine am_e12t hi_257_15 (by decide) ?_
          refine am_e2 (v := 39) hi_257_19 rfl ?_
          refine am_e32w (as := [.ref 39]) (la := [some (.ref 39)]) (rest := []) hi_257_20 (am_hd0 (M := 257) (by decide) 20) (Nat.le_of_ble_eq_true rfl) (Nat.le_of_ble_eq_true rfl) (show 1 ≤ am_P0.2.2.1 197 from by decide +kernel) rfl (am_recv_ok hS357.fs) rfl rfl ?_
          refine am_e2 (v := 39) hi_197_0 rfl ?_
          refine mm_20 (v := .int (f 24)) hS357 hi_197_1 rfl ?_
          refine am_e2 (v := 39) hi_197_4 rfl ?_
          refine mm_20 (v := .ref 59) hS357 hi_197_5 rfl ?_
          refine am_e2 (v := 39) hi_197_8 rfl ?_
          refine mm_20 (v := .int (f 32)) hS357 hi_197_9 rfl ?_
          refine mm_25 hS357 ma_34 hi_197_12 (by decide) (by omega) (by omega) ?_
          show am_E _ _ _ _ _ (.int (g'344 34 (f 32).toNatClampNeg) :: _) _ _
          rw [show g'344 34 = g'327 34 from h349_ 34 (by decide), show g'327 34 = g 34 from h335_ 34 (by decide)]
          show am_E _ _ _ _ [some (.ref 39)] [.int (g 34 (f 32).toNatClampNeg), .int (f 24)] _ _
          have r370 : 0 ≤ (g 34 (f 32).toNatClampNeg).toInt := by
            have h := RJ.ba hR369 (f 32).toNatClampNeg
            rw [show g'344 34 = g'327 34 from h349_ 34 (by decide), show g'327 34 = g 34 from h335_ 34 (by decide)] at h
            exact h
          have r371 : (g 34 (f 32).toNatClampNeg).toInt ≤ 2147483647 := i32_le _
          obtain ⟨z372, hz372, tz372⟩ := am_subI (x := f 24) (y := g 34 (f 32).toNatClampNeg) (m := (f 24).toInt) (n := (g 34 (f 32).toNatClampNeg).toInt) rfl rfl (by omega) (by omega)
          refine am_e10 (z := z372) hi_197_13 hz372 ?_
          refine am_e33 hi_197_14 ?_
          show am_E _ _ _ _ [some (.ref 39), some (.int on), some (.int tw), some (.int th), none, none, none, none] [.int z372] _ _
          refine am_e3 (ls' := [some (.ref 39), some (.int on), some (.int tw), some (.int th), some (.int z372), none, none, none]) hi_257_23 (Nat.le_of_ble_eq_true rfl) rfl ?_
          refine am_e2 (v := 39) hi_257_25 rfl ?_
          refine am_e0 hi_257_26 ?_
          refine am_e0 hi_257_27 ?_
          refine am_e1 (v := on) hi_257_28 rfl ?_
          refine am_e32n (as := [.ref 39, .int 4, .int 1, .int on]) (la := [some (.ref 39), some (.int 4), some (.int 1), some (.int on), none]) (rest := []) hi_257_29 (am_hd0 (M := 257) (by decide) 29) (Nat.le_of_ble_eq_true rfl) (Nat.le_of_ble_eq_true rfl) (show 4 ≤ am_P0.2.2.1 254 from by decide +kernel) rfl (am_recv_ok hS357.fs) rfl rfl (ct_hide (d := (d + 4)) hS357 hR369 (by decide)  (by show (0 : Int) ≤ (f 32).toInt; omega) (by show (f 32).toInt ≤ (63 : Int); omega) (by show (f 53).toInt ≤ (4096 : Int); omega) (by show (0 : Int) ≤ (f 24).toInt; omega) (by show (f 24).toInt ≤ (16000 : Int); omega) (by show (0 : Int) ≤ (4 : Int); omega) (by show (4 : Int) ≤ (16 : Int); omega) (by show (0 : Int) ≤ (f 8).toInt; omega)) ?_
          rintro v373 S374 (⟨a375, b376, l377, y378, g'379, hv380, hS381, hR385, h382, h383, h384⟩)
          subst hv380
          have h382_ : l377.toInt = (f 24).toInt + (4 : Int) := h382
          have h383_ : ∀ j, j ∉ [25, 26, 27, 28, 29, 30, 58] → g'379 j = g'344 j := h383
          have h384_ : (0 : Int) ≤ a375.toInt := h384
          replace hS381 : MS S0 S374 (upd (upd (upd (upd (upd (upd (upd (upd (upd (upd f 4 z354) 5 y355) 8 a375) 9 b376) 15 z0) 24 l377) 31 y378) 62 o324) 68 s343) 75 m326) g'379 := hS381
          have hR385_ : RJ (upd (upd (upd (upd (upd (upd (upd (upd (upd (upd f 4 z354) 5 y355) 8 a375) 9 b376) 15 z0) 24 l377) 31 y378) 62 o324) 68 s343) 75 m326) g'379 gs bc [] 0 [] := hR385
          show am_E _ _ _ _ [some (.ref 39), some (.int on), some (.int tw), some (.int th), some (.int z372), none, none, none] [] _ _
          refine am_e2 (v := 39) hi_257_32 rfl ?_
          refine am_e0 hi_257_33 ?_
          refine am_e1 (v := z372) hi_257_35 rfl ?_
          refine am_e0 hi_257_37 ?_
          refine am_e1 (v := on) hi_257_38 rfl ?_
          refine am_e32n (as := [.ref 39, .int 42, .int z372, .int 0, .int on]) (la := [some (.ref 39), some (.int 42), some (.int z372), some (.int 0), some (.int on)]) (rest := []) hi_257_39 (am_hd0 (M := 257) (by decide) 39) (Nat.le_of_ble_eq_true rfl) (Nat.le_of_ble_eq_true rfl) (show 5 ≤ am_P0.2.2.1 189 from by decide +kernel) rfl (am_recv_ok hS381.fs) rfl rfl (ct_put (d := (d + 6)) hS381 hR385_  (by show (0 : Int) ≤ (f 32).toInt; omega) (by show (f 32).toInt ≤ (63 : Int); omega) (by show (f 53).toInt ≤ (4096 : Int); omega) (by show (0 : Int) ≤ s343.toInt; omega) (by show s343.toInt ≤ (65534 : Int); omega)) ?_
          rintro v386 S387 (⟨z388, r389, g'390, hv391, hS392, hR396, h393, h394, h395⟩)
          subst hv391
          have h393_ : z388.toInt = s343.toInt + 1 := h393
          have h394_ : r389.toInt = s343.toInt := h394
          have h395_ : ∀ j, j ∉ [60, 69, 70, 71, 72, 73] → g'390 j = g'379 j := h395
          replace hS392 : MS S0 S387 (upd (upd (upd (upd (upd (upd (upd (upd (upd (upd f 4 z354) 5 y355) 8 a375) 9 b376) 15 z0) 24 l377) 31 y378) 62 o324) 68 z388) 75 m326) g'390 := hS392
          have hR396_ : RJ (upd (upd (upd (upd (upd (upd (upd (upd (upd (upd f 4 z354) 5 y355) 8 a375) 9 b376) 15 z0) 24 l377) 31 y378) 62 o324) 68 z388) 75 m326) g'390 gs bc [] 0 (s343.toNatClampNeg :: []) := hR396
          show am_E _ _ _ _ [some (.ref 39), some (.int on), some (.int tw), some (.int th), some (.int z372), none, none, none] [.int r389] _ _
          refine am_e6i hi_257_42 ?_
          refine am_e2 (v := 39) hi_257_43 rfl ?_
          refine am_e32n (as := [.ref 39]) (la := [some (.ref 39)]) (rest := []) hi_257_44 (am_hd0 (M := 257) (by decide) 44) (Nat.le_of_ble_eq_true rfl) (Nat.le_of_ble_eq_true rfl) (show 1 ≤ am_P0.2.2.1 210 from by decide +kernel) rfl (am_recv_ok hS392.fs) rfl rfl (ct_here (d := (d + 6)) hS392 hR396_  (by show (0 : Int) ≤ (f 32).toInt; omega) (by show (f 32).toInt ≤ (63 : Int); omega) (by show (f 53).toInt ≤ (4096 : Int); omega) (by show (0 : Int) ≤ z388.toInt; omega) (by show z388.toInt ≤ (65534 : Int); omega)) ?_
          rintro v397 S398 (⟨r399, hv400, hS401, h402, h403⟩)
          subst hv400
          have h402_ : (0 : Int) ≤ r399.toInt := h402
          have h403_ : r399.toInt ≤ z388.toInt := h403
          show am_E _ _ _ _ [some (.ref 39), some (.int on), some (.int tw), some (.int th), some (.int z372), none, none, none] [.int r399] _ _
          refine am_e3 (ls' := [some (.ref 39), some (.int on), some (.int tw), some (.int th), some (.int z372), some (.int r399), none, none]) hi_257_47 (Nat.le_of_ble_eq_true rfl) rfl ?_
          refine am_e2 (v := 39) hi_257_49 rfl ?_
          refine am_e0 hi_257_50 ?_
          refine am_e0 hi_257_52 ?_
          refine am_e0 hi_257_53 ?_
          refine am_e1 (v := on) hi_257_54 rfl ?_
          refine am_e32n (as := [.ref 39, .int 34, .int 0, .int 0, .int on]) (la := [some (.ref 39), some (.int 34), some (.int 0), some (.int 0), some (.int on)]) (rest := []) hi_257_55 (am_hd0 (M := 257) (by decide) 55) (Nat.le_of_ble_eq_true rfl) (Nat.le_of_ble_eq_true rfl) (show 5 ≤ am_P0.2.2.1 189 from by decide +kernel) rfl (am_recv_ok hS401.fs) rfl rfl (ct_put (d := (d + 6)) hS401 hR396_  (by show (0 : Int) ≤ (f 32).toInt; omega) (by show (f 32).toInt ≤ (63 : Int); omega) (by show (f 53).toInt ≤ (4096 : Int); omega) (by show (0 : Int) ≤ z388.toInt; omega) (by show z388.toInt ≤ (65534 : Int); omega)) ?_
          rintro v405 S406 (⟨z407, r408, g'409, hv410, hS411, hR415, h412, h413, h414⟩)
          subst hv410
          have h412_ : z407.toInt = z388.toInt + 1 := h412
          have h413_ : r408.toInt = z388.toInt := h413
          have h414_ : ∀ j, j ∉ [60, 69, 70, 71, 72, 73] → g'409 j = g'390 j := h414
          replace hS411 : MS S0 S406 (upd (upd (upd (upd (upd (upd (upd (upd (upd (upd f 4 z354) 5 y355) 8 a375) 9 b376) 15 z0) 24 l377) 31 y378) 62 o324) 68 z407) 75 m326) g'409 := hS411
          have hR415_ : RJ (upd (upd (upd (upd (upd (upd (upd (upd (upd (upd f 4 z354) 5 y355) 8 a375) 9 b376) 15 z0) 24 l377) 31 y378) 62 o324) 68 z407) 75 m326) g'409 gs bc [] 0 (z388.toNatClampNeg :: (s343.toNatClampNeg :: [])) := hR415
          show am_E _ _ _ _ [some (.ref 39), some (.int on), some (.int tw), some (.int th), some (.int z372), some (.int r399), none, none] [.int r408] _ _
          refine am_e6i hi_257_58 ?_
          refine am_e2 (v := 39) hi_257_59 rfl ?_
          refine am_e0 hi_257_60 ?_
          refine am_e1 (v := z372) hi_257_62 rfl ?_
          refine am_e1 (v := tw) hi_257_64 rfl ?_
          refine am_e1 (v := th) hi_257_65 rfl ?_
          refine am_e32n (as := [.ref 39, .int 43, .int z372, .int tw, .int th]) (la := [some (.ref 39), some (.int 43), some (.int z372), some (.int tw), some (.int th)]) (rest := []) hi_257_66 (am_hd0 (M := 257) (by decide) 66) (Nat.le_of_ble_eq_true rfl) (Nat.le_of_ble_eq_true rfl) (show 5 ≤ am_P0.2.2.1 189 from by decide +kernel) rfl (am_recv_ok hS411.fs) rfl rfl (ct_put (d := (d + 6)) hS411 hR415_  (by show (0 : Int) ≤ (f 32).toInt; omega) (by show (f 32).toInt ≤ (63 : Int); omega) (by show (f 53).toInt ≤ (4096 : Int); omega) (by show (0 : Int) ≤ z407.toInt; omega) (by show z407.toInt ≤ (65534 : Int); omega)) ?_
          rintro v416 S417 (⟨z418, r419, g'420, hv421, hS422, hR426, h423, h424, h425⟩)
          subst hv421
          have h423_ : z418.toInt = z407.toInt + 1 := h423
          have h424_ : r419.toInt = z407.toInt := h424
          have h425_ : ∀ j, j ∉ [60, 69, 70, 71, 72, 73] → g'420 j = g'409 j := h425
          replace hS422 : MS S0 S417 (upd (upd (upd (upd (upd (upd (upd (upd (upd (upd f 4 z354) 5 y355) 8 a375) 9 b376) 15 z0) 24 l377) 31 y378) 62 o324) 68 z418) 75 m326) g'420 := hS422
          have hR426_ : RJ (upd (upd (upd (upd (upd (upd (upd (upd (upd (upd f 4 z354) 5 y355) 8 a375) 9 b376) 15 z0) 24 l377) 31 y378) 62 o324) 68 z418) 75 m326) g'420 gs bc [] 0 (z407.toNatClampNeg :: (z388.toNatClampNeg :: (s343.toNatClampNeg :: []))) := hR426
          show am_E _ _ _ _ [some (.ref 39), some (.int on), some (.int tw), some (.int th), some (.int z372), some (.int r399), none, none] [.int r419] _ _
          refine am_e6i hi_257_69 ?_
          refine am_e2 (v := 39) hi_257_70 rfl ?_
          refine am_e0 hi_257_71 ?_
          refine am_e1 (v := z372) hi_257_73 rfl ?_
          refine am_e0 hi_257_75 ?_
          refine am_e0 hi_257_76 ?_
          refine am_e32n (as := [.ref 39, .int 44, .int z372, .int 0, .int 0]) (la := [some (.ref 39), some (.int 44), some (.int z372), some (.int 0), some (.int 0)]) (rest := []) hi_257_77 (am_hd0 (M := 257) (by decide) 77) (Nat.le_of_ble_eq_true rfl) (Nat.le_of_ble_eq_true rfl) (show 5 ≤ am_P0.2.2.1 189 from by decide +kernel) rfl (am_recv_ok hS422.fs) rfl rfl (ct_put (d := (d + 6)) hS422 hR426_  (by show (0 : Int) ≤ (f 32).toInt; omega) (by show (f 32).toInt ≤ (63 : Int); omega) (by show (f 53).toInt ≤ (4096 : Int); omega) (by show (0 : Int) ≤ z418.toInt; omega) (by show z418.toInt ≤ (65534 : Int); omega)) ?_
          rintro v427 S428 (⟨z429, r430, g'431, hv432, hS433, hR437, h434, h435, h436⟩)
          subst hv432
          have h434_ : z429.toInt = z418.toInt + 1 := h434
          have h435_ : r430.toInt = z418.toInt := h435
          have h436_ : ∀ j, j ∉ [60, 69, 70, 71, 72, 73] → g'431 j = g'420 j := h436
          replace hS433 : MS S0 S428 (upd (upd (upd (upd (upd (upd (upd (upd (upd (upd f 4 z354) 5 y355) 8 a375) 9 b376) 15 z0) 24 l377) 31 y378) 62 o324) 68 z429) 75 m326) g'431 := hS433
          have hR437_ : RJ (upd (upd (upd (upd (upd (upd (upd (upd (upd (upd f 4 z354) 5 y355) 8 a375) 9 b376) 15 z0) 24 l377) 31 y378) 62 o324) 68 z429) 75 m326) g'431 gs bc [] 0 (z418.toNatClampNeg :: (z407.toNatClampNeg :: (z388.toNatClampNeg :: (s343.toNatClampNeg :: [])))) := hR437
          show am_E _ _ _ _ [some (.ref 39), some (.int on), some (.int tw), some (.int th), some (.int z372), some (.int r399), none, none] [.int r430] _ _
          refine am_e3 (ls' := [some (.ref 39), some (.int on), some (.int tw), some (.int th), some (.int z372), some (.int r399), some (.int r430), none]) hi_257_80 (Nat.le_of_ble_eq_true rfl) rfl ?_
          refine am_e2 (v := 39) hi_257_82 rfl ?_
          refine am_e0 hi_257_83 ?_
          refine am_e32n (as := [.ref 39, .int 1]) (la := [some (.ref 39), some (.int 1)]) (rest := []) hi_257_84 (am_hd0 (M := 257) (by decide) 84) (Nat.le_of_ble_eq_true rfl) (Nat.le_of_ble_eq_true rfl) (show 2 ≤ am_P0.2.2.1 177 from by decide +kernel) rfl (am_recv_ok hS433.fs) rfl rfl (ct_beginBlock2 (d := (d + 6)) hS433 hR437_ (by decide)  (by show (0 : Int) ≤ (f 37).toInt; omega) (by show (f 37).toInt ≤ (127 : Int); omega) (by show (0 : Int) ≤ l377.toInt; omega) (by show (0 : Int) ≤ (f 44).toInt; omega) (by show (f 44).toInt ≤ z354.toInt; omega) (by show (0 : Int) ≤ (f 48).toInt; omega)) ?_
          rintro v438 S439 (⟨z440, g'441, hv442, hS443, hR447, h444, h445, h446⟩)
          subst hv442
          have h444_ : z440.toInt = (f 37).toInt + 1 := h444
          have h445_ : ∀ j, j ∉ [38, 39, 40, 41, 42, 43] → g'441 j = g'431 j := h445
          have h446_ : g'441 38 = upd (g'431 38) (f 37).toNatClampNeg l377 := h446
          replace hS443 : MS S0 S439 (upd (upd (upd (upd (upd (upd (upd (upd (upd (upd (upd f 4 z354) 5 y355) 8 a375) 9 b376) 15 z0) 24 l377) 31 y378) 37 z440) 62 o324) 68 z429) 75 m326) g'441 := hS443
          have hR447_ : RJ (upd (upd (upd (upd (upd (upd (upd (upd (upd (upd (upd f 4 z354) 5 y355) 8 a375) 9 b376) 15 z0) 24 l377) 31 y378) 37 z440) 62 o324) 68 z429) 75 m326) g'441 gs ([] :: bc) [] 0 (z418.toNatClampNeg :: (z407.toNatClampNeg :: (z388.toNatClampNeg :: (s343.toNatClampNeg :: [])))) := hR447
          show am_E _ _ _ _ [some (.ref 39), some (.int on), some (.int tw), some (.int th), some (.int z372), some (.int r399), some (.int r430), none] [] _ _
          refine am_e0 hi_257_87 ?_
          refine am_e3 (ls' := [some (.ref 39), some (.int on), some (.int tw), some (.int th), some (.int z372), some (.int r399), some (.int r430), some (.int 0)]) hi_257_88 (Nat.le_of_ble_eq_true rfl) rfl ?_
          refine fr_each (d := (d + 2)) (f := (upd (upd (upd (upd (upd (upd (upd (upd (upd (upd (upd f 4 z354) 5 y355) 8 a375) 9 b376) 15 z0) 24 l377) 31 y378) 37 z440) 62 o324) 68 z429) 75 m326)) (g := g'441) (w := on) (m := tw) (x3 := th) (c4 := z372) (h5 := r399) (q6 := r430)  (by show (0 : Int) ≤ (f 32).toInt; omega) (by show (f 32).toInt ≤ (63 : Int); omega) (by show (f 53).toInt ≤ (4096 : Int); omega) (by show (0 : Int) ≤ l377.toInt; omega) (by show l377.toInt + tw.toInt ≤ 16383; omega) (by show (0 : Int) ≤ on.toInt; omega) (by show on.toInt + 2 * tw.toInt ≤ 16000; omega) (by show (0 : Int) ≤ a375.toInt; omega) ?_ ((tw.toInt - (0 : Int)).toNat + 1) _ 0 a375 b376 l377 y378 _ hS443 hR447_ (fun _ _ => rfl) (by show (0 : Int) ≤ (0 : Int); omega) (by show (0 : Int) ≤ tw.toInt; omega) (by show l377.toInt = l377.toInt + (0 : Int); omega) (by show (0 : Int) ≤ a375.toInt; omega) (by show tw.toInt - (0 : Int) < _; omega)
          · intro S453 i448 a449 b450 l451 y452 gx456 hS454 hR455 hg457 h458 h459
            replace hS454 : MS S0 S453 (upd (upd (upd (upd (upd (upd (upd (upd (upd (upd (upd f 4 z354) 5 y355) 8 a449) 9 b450) 15 z0) 24 l451) 31 y452) 37 z440) 62 o324) 68 z429) 75 m326) gx456 := hS454
            have h458_ : l451.toInt = l377.toInt + tw.toInt := h458
            have h459_ : (0 : Int) ≤ a449.toInt := h459
            have hR455_ : RJ (upd (upd (upd (upd (upd (upd (upd (upd (upd (upd (upd f 4 z354) 5 y355) 8 a449) 9 b450) 15 z0) 24 l451) 31 y452) 37 z440) 62 o324) 68 z429) 75 m326) gx456 gs ([] :: bc) [] 0 (z418.toNatClampNeg :: (z407.toNatClampNeg :: (z388.toNatClampNeg :: (s343.toNatClampNeg :: [])))) := hR455
            show am_E _ _ _ _ [some (.ref 39), some (.int on), some (.int tw), some (.int th), some (.int z372), some (.int r399), some (.int r430), some (.int i448)] [] _ _
            refine am_e2 (v := 39) hi_257_129 rfl ?_
            refine am_e0 hi_257_130 ?_
            refine am_e1 (v := r430) hi_257_132 rfl ?_
            refine am_e1 (v := r399) hi_257_134 rfl ?_
            refine am_e1 (v := z372) hi_257_136 rfl ?_
            refine am_e32n (as := [.ref 39, .int 15, .int r430, .int r399, .int z372]) (la := [some (.ref 39), some (.int 15), some (.int r430), some (.int r399), some (.int z372)]) (rest := []) hi_257_138 (am_hd0 (M := 257) (by decide) 138) (Nat.le_of_ble_eq_true rfl) (Nat.le_of_ble_eq_true rfl) (show 5 ≤ am_P0.2.2.1 179 from by decide +kernel) rfl (am_recv_ok hS454.fs) rfl rfl (ct_pile (d := (d + 6)) hS454 hR455_ (mj_e_b (by decide) (by omega) (by show r430.toInt < z429.toInt; omega)) (by show (0 : Int) ≤ (f 10).toInt; omega) (by show (f 10).toInt ≤ (65535 : Int); omega)) ?_
            rintro v460 S461 (⟨z462, g'463, hv464, hS465, hR468, h466, h467⟩)
            subst hv464
            have h466_ : z462.toInt = (f 10).toInt + 1 := h466
            have h467_ : ∀ j, j ∉ [11, 12, 13, 14] → g'463 j = gx456 j := h467
            replace hS465 : MS S0 S461 (upd (upd (upd (upd (upd (upd (upd (upd (upd (upd (upd (upd f 4 z354) 5 y355) 8 a449) 9 b450) 10 z462) 15 z0) 24 l451) 31 y452) 37 z440) 62 o324) 68 z429) 75 m326) g'463 := hS465
            have hR468_ : RJ (upd (upd (upd (upd (upd (upd (upd (upd (upd (upd (upd (upd f 4 z354) 5 y355) 8 a449) 9 b450) 10 z462) 15 z0) 24 l451) 31 y452) 37 z440) 62 o324) 68 z429) 75 m326) g'463 (((15 : Int), r430.toInt, r399.toInt, z372.toInt, []) :: gs) ([] :: bc) [] 0 (z418.toNatClampNeg :: (z407.toNatClampNeg :: (z388.toNatClampNeg :: (s343.toNatClampNeg :: [])))) := hR468
            show am_E _ _ _ _ [some (.ref 39), some (.int on), some (.int tw), some (.int th), some (.int z372), some (.int r399), some (.int r430), some (.int i448)] [] _ _
            refine am_e2 (v := 39) hi_257_141 rfl ?_
            refine am_e32w (as := [.ref 39]) (la := [some (.ref 39)]) (rest := []) hi_257_142 (am_hd0 (M := 257) (by decide) 142) (Nat.le_of_ble_eq_true rfl) (Nat.le_of_ble_eq_true rfl) (show 1 ≤ am_P0.2.2.1 178 from by decide +kernel) rfl (am_recv_ok hS465.fs) rfl rfl ?_
            refine am_e2 (v := 39) hi_178_0 rfl ?_
            refine am_e0 hi_178_1 ?_
            refine am_e0 hi_178_2 ?_
            refine am_e0 hi_178_3 ?_
            refine am_e0 hi_178_4 ?_
            refine am_e32n (as := [.ref 39, .int 1, .int 0, .int 0, .int 0]) (la := [some (.ref 39), some (.int 1), some (.int 0), some (.int 0), some (.int 0)]) (rest := []) hi_178_5 (am_hd0 (M := 178) (by decide) 5) (Nat.le_of_ble_eq_true rfl) (Nat.le_of_ble_eq_true rfl) (show 5 ≤ am_P0.2.2.1 179 from by decide +kernel) rfl (am_recv_ok hS465.fs) rfl rfl (ct_pile (d := (d + 5)) hS465 hR468_ (mj_e_plain (by decide)) (by show (0 : Int) ≤ z462.toInt; omega) (by show z462.toInt ≤ (65535 : Int); omega)) ?_
            rintro v469 S470 (⟨z471, g'472, hv473, hS474, hR477, h475, h476⟩)
            subst hv473
            have h475_ : z471.toInt = z462.toInt + 1 := h475
            have h476_ : ∀ j, j ∉ [11, 12, 13, 14] → g'472 j = g'463 j := h476
            replace hS474 : MS S0 S470 (upd (upd (upd (upd (upd (upd (upd (upd (upd (upd (upd (upd f 4 z354) 5 y355) 8 a449) 9 b450) 10 z471) 15 z0) 24 l451) 31 y452) 37 z440) 62 o324) 68 z429) 75 m326) g'472 := hS474
            have hR477_ : RJ (upd (upd (upd (upd (upd (upd (upd (upd (upd (upd (upd (upd f 4 z354) 5 y355) 8 a449) 9 b450) 10 z471) 15 z0) 24 l451) 31 y452) 37 z440) 62 o324) 68 z429) 75 m326) g'472 (((1 : Int), (0 : Int), (0 : Int), (0 : Int), []) :: (((15 : Int), r430.toInt, r399.toInt, z372.toInt, []) :: gs)) ([] :: bc) [] 0 (z418.toNatClampNeg :: (z407.toNatClampNeg :: (z388.toNatClampNeg :: (s343.toNatClampNeg :: [])))) := hR477
            show am_E _ _ _ _ [some (.ref 39)] [] _ _
            refine am_e35 hi_178_8 ?_
            show am_E _ _ _ _ [some (.ref 39), some (.int on), some (.int tw), some (.int th), some (.int z372), some (.int r399), some (.int r430), some (.int i448)] [] _ _
            refine am_e35 hi_257_145 ?_
            show am_E _ _ _ _ [some (.ref 39), some (.int 14), some (.int on), some (.int tw), some (.int th)] [] _ _
            refine am_e18 hi_180_270 ?_
            refine am_e35 hi_180_371 ?_
            have q1 : mg_p1 (((1 : Int), (0 : Int), (0 : Int), (0 : Int), []) :: (((15 : Int), r430.toInt, r399.toInt, z372.toInt, []) :: gs)) = 0 + (0 + (mg_p1 gs)) := rfl
            have q2 : mg_p2 (((1 : Int), (0 : Int), (0 : Int), (0 : Int), []) :: (((15 : Int), r430.toInt, r399.toInt, z372.toInt, []) :: gs)) = 0 + (0 + (mg_p2 gs)) := rfl
            have q3 : mg_p3 (((1 : Int), (0 : Int), (0 : Int), (0 : Int), []) :: (((15 : Int), r430.toInt, r399.toInt, z372.toInt, []) :: gs)) = 1 + (1 + (mg_p3 gs)) := rfl
            have q4 : mg_p4 (((1 : Int), (0 : Int), (0 : Int), (0 : Int), []) :: (((15 : Int), r430.toInt, r399.toInt, z372.toInt, []) :: gs)) = 0 + (0 + (mg_p4 gs)) := rfl
            refine ⟨_, _, _, ([] :: bc), rfl, hS474, Or.inl ⟨⟨(RJ.fewer (pj' := []) hR477_ (fun _ h => nomatch h)), ?_, ?_⟩, rfl, ?_⟩⟩
            · exact (⟨⟨(show mg_k 1 from by decide), (show (0 : Int) ≤ z0.toInt from by omega), (show 0 ≤ (f 20).toInt from by omega), (show 1 ≤ z440.toInt from by omega), (show 0 ≤ (f 32).toInt from by omega), (show (f 32).toInt ≤ y355.toInt from by omega), (show y355.toInt ≤ 48 from by omega), (show z440.toInt ≤ 2 * (y355.toInt) + 1 from by omega), trivial⟩, ⟨⟨(show mg_k 15 from by decide), (show (0 : Int) ≤ z0.toInt + 0 from by omega), (show 0 ≤ (f 20).toInt from by omega), (show 1 ≤ z440.toInt + 0 from by omega), (show 0 ≤ (f 32).toInt + 0 from by omega), (show (f 32).toInt + 0 ≤ y355.toInt + 0 from by omega), (show y355.toInt + 0 ≤ 48 from by omega), (show z440.toInt + 0 ≤ 2 * (y355.toInt + 0) + 0 from by omega), (mg_pa13 (l1 := l377) hR (by show g'472 34 = g 34; rw [show g'472 34 = g'463 34 from h476_ 34 (by decide), show g'463 34 = gx456 34 from h467_ 34 (by decide), show gx456 34 = g'441 34 from hg457 34 (by decide), show g'441 34 = g'431 34 from h445_ 34 (by decide), show g'431 34 = g'420 34 from h436_ 34 (by decide), show g'420 34 = g'409 34 from h425_ 34 (by decide), show g'409 34 = g'390 34 from h414_ 34 (by decide), show g'390 34 = g'379 34 from h395_ 34 (by decide), show g'379 34 = g'344 34 from h383_ 34 (by decide), show g'344 34 = g'327 34 from h349_ 34 (by decide), show g'327 34 = g 34 from h335_ 34 (by decide)]) (by show g'472 38 = upd (g 38) (f 37).toNatClampNeg l377; rw [show g'472 38 = g'463 38 from h476_ 38 (by decide), show g'463 38 = gx456 38 from h467_ 38 (by decide), show gx456 38 = g'441 38 from hg457 38 (by decide), h446_, show g'431 38 = g'420 38 from h436_ 38 (by decide), show g'420 38 = g'409 38 from h425_ 38 (by decide), show g'409 38 = g'390 38 from h414_ 38 (by decide), show g'390 38 = g'379 38 from h395_ 38 (by decide), show g'379 38 = g'344 38 from h383_ 38 (by decide), show g'344 38 = g'327 38 from h349_ 38 (by decide), show g'327 38 = g 38 from h335_ 38 (by decide)]) (by show (f 32).toInt + 0 = (f 32).toInt; omega) (by omega) (by show z440.toInt + 0 = (f 37).toInt + 1; omega) (by show z372.toInt = (f 24).toInt - (g 34 (f 32).toNatClampNeg).toInt; omega) (by omega) (by show (f 24).toInt ≤ l377.toInt; omega))⟩, mg_cast (mg_good_ext _ _ _ _ _ _ (fun i _ => by show g'472 34 i = g 34 i; rw [show g'472 34 = g'463 34 from h476_ 34 (by decide), show g'463 34 = gx456 34 from h467_ 34 (by decide), show gx456 34 = g'441 34 from hg457 34 (by decide), show g'441 34 = g'431 34 from h445_ 34 (by decide), show g'431 34 = g'420 34 from h436_ 34 (by decide), show g'420 34 = g'409 34 from h425_ 34 (by decide), show g'409 34 = g'390 34 from h414_ 34 (by decide), show g'390 34 = g'379 34 from h395_ 34 (by decide), show g'379 34 = g'344 34 from h383_ 34 (by decide), show g'344 34 = g'327 34 from h349_ 34 (by decide), show g'327 34 = g 34 from h335_ 34 (by decide)]) (fun i hi => by show g'472 38 i = g 38 i; rw [show g'472 38 = g'463 38 from h476_ 38 (by decide), show g'463 38 = gx456 38 from h467_ 38 (by decide), show gx456 38 = g'441 38 from hg457 38 (by decide), h446_, show g'431 38 = g'420 38 from h436_ 38 (by decide), show g'420 38 = g'409 38 from h425_ 38 (by decide), show g'409 38 = g'390 38 from h414_ 38 (by decide), show g'390 38 = g'379 38 from h395_ 38 (by decide), show g'379 38 = g'344 38 from h383_ 38 (by decide), show g'344 38 = g'327 38 from h349_ 38 (by decide), show g'327 38 = g 38 from h335_ 38 (by decide)]; exact upd_ne (by rw [cl_toNat]; omega)) (fun i _ => by show g'472 23 i = g 23 i; rw [show g'472 23 = g'463 23 from h476_ 23 (by decide), show g'463 23 = gx456 23 from h467_ 23 (by decide), show gx456 23 = g'441 23 from hg457 23 (by decide), show g'441 23 = g'431 23 from h445_ 23 (by decide), show g'431 23 = g'420 23 from h436_ 23 (by decide), show g'420 23 = g'409 23 from h425_ 23 (by decide), show g'409 23 = g'390 23 from h414_ 23 (by decide), show g'390 23 = g'379 23 from h395_ 23 (by decide), show g'379 23 = g'344 23 from h383_ 23 (by decide), show g'344 23 = g'327 23 from h349_ 23 (by decide), show g'327 23 = g 23 from h335_ 23 (by decide)]) hrest) (by show (f 15).toInt + -1 = z0.toInt + 0 + 0; omega) (by show (f 20).toInt = (f 20).toInt; omega) (by show (f 37).toInt + 0 = z440.toInt + 0 + -1; omega) (by show (f 32).toInt + 0 = (f 32).toInt + 0 + 0; omega) (by show (f 5).toInt + 0 = y355.toInt + 0 + -1; omega)⟩⟩ : mg_good (g'472 34) (g'472 38) (g'472 23) (((1 : Int), (0 : Int), (0 : Int), (0 : Int), []) :: (((15 : Int), r430.toInt, r399.toInt, z372.toInt, []) :: gs)) (z0.toInt) ((f 20).toInt) (z440.toInt) ((f 32).toInt) (y355.toInt))
            · exact ⟨(by show 0 ≤ z354.toInt; omega), (by show z354.toInt ≤ (f 0).toInt; omega), (by show (f 0).toInt ≤ 512; omega), (by show 0 ≤ l451.toInt; omega), (by show l451.toInt + (f 20).toInt + mg_p1 (((1 : Int), (0 : Int), (0 : Int), (0 : Int), []) :: (((15 : Int), r430.toInt, r399.toInt, z372.toInt, []) :: gs)) ≤ 4 * z354.toInt; omega), (by show (f 20).toInt ≤ z354.toInt; omega), (by show z0.toInt + mg_p2 (((1 : Int), (0 : Int), (0 : Int), (0 : Int), []) :: (((15 : Int), r430.toInt, r399.toInt, z372.toInt, []) :: gs)) ≤ z354.toInt; omega), (by show mg_p3 (((1 : Int), (0 : Int), (0 : Int), (0 : Int), []) :: (((15 : Int), r430.toInt, r399.toInt, z372.toInt, []) :: gs)) ≤ 20 * z354.toInt + 20; omega), (by show 0 ≤ z429.toInt; omega), (by show z429.toInt + 3 * (f 20).toInt + mg_p4 (((1 : Int), (0 : Int), (0 : Int), (0 : Int), []) :: (((15 : Int), r430.toInt, r399.toInt, z372.toInt, []) :: gs)) ≤ 60 * z354.toInt + 60; omega), (by show 0 ≤ o324.toInt; omega), (by show o324.toInt + 64 * mj_n (g'472 16) z0.toNatClampNeg 3 ≤ 64 * z354.toInt; rw [show g'472 16 = g'463 16 from h476_ 16 (by decide), show g'463 16 = gx456 16 from h467_ 16 (by decide), show gx456 16 = g'441 16 from hg457 16 (by decide), show g'441 16 = g'431 16 from h445_ 16 (by decide), show g'431 16 = g'420 16 from h436_ 16 (by decide), show g'420 16 = g'409 16 from h425_ 16 (by decide), show g'409 16 = g'390 16 from h414_ 16 (by decide), show g'390 16 = g'379 16 from h395_ 16 (by decide), show g'379 16 = g'344 16 from h383_ 16 (by decide), show g'344 16 = g'327 16 from h349_ 16 (by decide)]; omega), (by show 0 ≤ (f 44).toInt; omega), (by show (f 44).toInt ≤ z354.toInt; omega), (by show 0 ≤ (f 48).toInt; omega), (by show (f 48).toInt ≤ z354.toInt; omega), (by show 1 ≤ (f 53).toInt; omega), (by show (f 53).toInt ≤ z354.toInt + 1; omega), (by show 0 ≤ (f 19).toInt; omega), (by show (f 19).toInt ≤ 600; omega), (by show 0 ≤ (f 6).toInt; omega), (by show 0 ≤ a449.toInt; omega)⟩
            · show 100 * ((f 0).toInt - z354.toInt) + mg_p3 (((1 : Int), (0 : Int), (0 : Int), (0 : Int), []) :: (((15 : Int), r430.toInt, r399.toInt, z372.toInt, []) :: gs)) < 100 * ((f 0).toInt - (f 4).toInt) + (1 + mg_p3 gs); omega
        · subst hv365
          have h367_ : (0 : Int) ≤ a363.toInt := h367
          replace hS366 : MS S0 S353 (upd (upd (upd (upd (upd (upd (upd f 6 a363) 7 b364) 10 0) 15 z0) 62 o324) 68 s343) 75 m326) g'344 := hS366
          have hR478 := rj_clear0 hR350_
          have hR479 : RJ (upd (upd (upd (upd (upd (upd (upd f 6 a363) 7 b364) 10 0) 15 z0) 62 o324) 68 s343) 75 m326) g'344 [] bc [] 0 [] := hR478
          show am_E _ _ _ _ [some (.ref 39), some (.int on), some (.int tw), some (.int th), none, none, none, none] [.int 0] _ _
          refine am_e12f hi_257_15 (by decide) ?_
          refine am_e35 hi_257_18 ?_
          show am_E _ _ _ _ [some (.ref 39), some (.int 14), some (.int on), some (.int tw), some (.int th)] [] _ _
          refine am_e18 hi_180_270 ?_
          refine am_e35 hi_180_371 ?_
          have hRc := rj_clear0 hR479
          refine ⟨_, _, [], _, rfl, hS366, Or.inr ⟨hRc, rfl, (by show 0 ≤ (f 4).toInt; omega), (by show (f 4).toInt ≤ (f 0).toInt; omega), (by show 0 ≤ (f 32).toInt; omega), (by show (f 32).toInt ≤ 63; omega), (by show 1 ≤ (f 53).toInt; omega), (by show (f 53).toInt ≤ 600; omega), (by show 0 ≤ s343.toInt; omega), (by show s343.toInt ≤ 60000; omega), (by show 0 ≤ (f 48).toInt; omega), (by show (f 48).toInt ≤ 8000; omega), (by show 0 ≤ (f 37).toInt; omega), (by show (f 37).toInt ≤ 128; omega), (by show 0 ≤ o324.toInt; omega), (by show o324.toInt ≤ 65000; omega), (by show 0 ≤ (f 19).toInt; omega), (by show (f 19).toInt ≤ 600; omega), (by show 0 ≤ a363.toInt; omega), (by show 0 ≤ (f 8).toInt; omega)⟩⟩
      · refine am_e13f hi_258_44 (am_cF (m := (f 19).toInt) (n := (4 : Int)) rfl (by decide) c351) ?_
        refine am_e2 (v := 39) hi_258_47 rfl ?_
        refine am_e0 hi_258_48 ?_
        refine am_e1 (v := f 19) hi_258_50 rfl ?_
        refine am_e1 (v := 4) hi_258_51 rfl ?_
        obtain ⟨z480, hz480, tz480⟩ := am_subI (x := f 19) (y := 4) (m := (f 19).toInt) (n := (4 : Int)) rfl (by decide) (by omega) (by omega)
        refine am_e10 (z := z480) hi_258_52 hz480 ?_
        refine am_e0 hi_258_53 ?_
        refine am_e0 hi_258_54 ?_
        refine am_e32n (as := [.ref 39, .int 26, .int z480, .int 0, .int 0]) (la := [some (.ref 39), some (.int 26), some (.int z480), some (.int 0), some (.int 0)]) (rest := []) hi_258_55 (am_hd0 (M := 258) (by decide) 55) (Nat.le_of_ble_eq_true rfl) (Nat.le_of_ble_eq_true rfl) (show 5 ≤ am_P0.2.2.1 189 from by decide +kernel) rfl (am_recv_ok hS346.fs) rfl rfl (ct_put (d := (d + 5)) hS346 hR350_  (by show (0 : Int) ≤ (f 32).toInt; omega) (by show (f 32).toInt ≤ (63 : Int); omega) (by show (f 53).toInt ≤ (4096 : Int); omega) (by show (0 : Int) ≤ s343.toInt; omega) (by show s343.toInt ≤ (65534 : Int); omega)) ?_
        rintro v481 S482 (⟨z483, r484, g'485, hv486, hS487, hR491, h488, h489, h490⟩)
        subst hv486
        have h488_ : z483.toInt = s343.toInt + 1 := h488
        have h489_ : r484.toInt = s343.toInt := h489
        have h490_ : ∀ j, j ∉ [60, 69, 70, 71, 72, 73] → g'485 j = g'344 j := h490
        replace hS487 : MS S0 S482 (upd (upd (upd (upd f 15 z0) 62 o324) 68 z483) 75 m326) g'485 := hS487
        have hR491_ : RJ (upd (upd (upd (upd f 15 z0) 62 o324) 68 z483) 75 m326) g'485 gs bc [] 0 (s343.toNatClampNeg :: []) := hR491
        show am_E _ _ _ _ [some (.ref 39), some (.int 4), some (.int (f 19))] [.int r484] _ _
        refine am_e6i hi_258_58 ?_
        refine am_e35 hi_258_59 ?_
        show am_E _ _ _ _ [some (.ref 39), some (.int on), some (.int tw), some (.int th), none, none, none, none] [] _ _
        refine am_e2 (v := 39) hi_257_9 rfl ?_
        refine am_e0 hi_257_10 ?_
        refine am_e32n (as := [.ref 39, .int 12]) (la := [some (.ref 39), some (.int 12)]) (rest := []) hi_257_12 (am_hd0 (M := 257) (by decide) 12) (Nat.le_of_ble_eq_true rfl) (Nat.le_of_ble_eq_true rfl) (show 2 ≤ am_P0.2.2.1 193 from by decide +kernel) rfl (am_recv_ok hS487.fs) rfl rfl (ct_enter (d := (d + 4)) hS487   (by show (0 : Int) ≤ (f 4).toInt; omega) (by show (f 0).toInt ≤ (16384 : Int); omega) (by show (0 : Int) ≤ (12 : Int); omega) (by show (0 : Int) ≤ (f 5).toInt; omega) (by show (f 5).toInt ≤ (48 : Int); omega) (by show (0 : Int) ≤ (f 6).toInt; omega)) ?_
        rintro v492 S493 (⟨z494, y495, hv496, hS497, h498, h499, h500, h501⟩ | ⟨a503, b504, hv505, hS506, h507⟩)
        · subst hv496
          have h498_ : z494.toInt = (f 4).toInt + 1 := h498
          have h499_ : (f 4).toInt < (f 0).toInt := h499
          have h500_ : y495.toInt = (f 5).toInt + 1 := h500
          have h501_ : y495.toInt ≤ (48 : Int) := h501
          replace hS497 : MS S0 S493 (upd (upd (upd (upd (upd (upd f 4 z494) 5 y495) 15 z0) 62 o324) 68 z483) 75 m326) g'485 := hS497
          have hR509 : RJ (upd (upd (upd (upd (upd (upd f 4 z494) 5 y495) 15 z0) 62 o324) 68 z483) 75 m326) g'485 gs bc [] 0 (s343.toNatClampNeg :: []) := RJ.at hR491_ (by show (f 4).toInt ≤ z494.toInt; omega)
          show am_E _ _ _ _ [some (.ref 39), some (.int on), some (.int tw), some (.int th), none, none, none, none] [.int 1] _ _
          refine am_e12t hi_257_15 (by decide) ?_
          refine am_e2 (v := 39) hi_257_19 rfl ?_
          refine am_e32w (as := [.ref 39]) (la := [some (.ref 39)]) (rest := []) hi_257_20 (am_hd0 (M := 257) (by decide) 20) (Nat.le_of_ble_eq_true rfl) (Nat.le_of_ble_eq_true rfl) (show 1 ≤ am_P0.2.2.1 197 from by decide +kernel) rfl (am_recv_ok hS497.fs) rfl rfl ?_
          refine am_e2 (v := 39) hi_197_0 rfl ?_
          refine mm_20 (v := .int (f 24)) hS497 hi_197_1 rfl ?_
          refine am_e2 (v := 39) hi_197_4 rfl ?_
          refine mm_20 (v := .ref 59) hS497 hi_197_5 rfl ?_
          refine am_e2 (v := 39) hi_197_8 rfl ?_
          refine mm_20 (v := .int (f 32)) hS497 hi_197_9 rfl ?_
          refine mm_25 hS497 ma_34 hi_197_12 (by decide) (by omega) (by omega) ?_
          show am_E _ _ _ _ _ (.int (g'485 34 (f 32).toNatClampNeg) :: _) _ _
          rw [show g'485 34 = g'344 34 from h490_ 34 (by decide), show g'344 34 = g'327 34 from h349_ 34 (by decide), show g'327 34 = g 34 from h335_ 34 (by decide)]
          show am_E _ _ _ _ [some (.ref 39)] [.int (g 34 (f 32).toNatClampNeg), .int (f 24)] _ _
          have r510 : 0 ≤ (g 34 (f 32).toNatClampNeg).toInt := by
            have h := RJ.ba hR509 (f 32).toNatClampNeg
            rw [show g'485 34 = g'344 34 from h490_ 34 (by decide), show g'344 34 = g'327 34 from h349_ 34 (by decide), show g'327 34 = g 34 from h335_ 34 (by decide)] at h
            exact h
          have r511 : (g 34 (f 32).toNatClampNeg).toInt ≤ 2147483647 := i32_le _
          obtain ⟨z512, hz512, tz512⟩ := am_subI (x := f 24) (y := g 34 (f 32).toNatClampNeg) (m := (f 24).toInt) (n := (g 34 (f 32).toNatClampNeg).toInt) rfl rfl (by omega) (by omega)
          refine am_e10 (z := z512) hi_197_13 hz512 ?_
          refine am_e33 hi_197_14 ?_
          show am_E _ _ _ _ [some (.ref 39), some (.int on), some (.int tw), some (.int th), none, none, none, none] [.int z512] _ _
          refine am_e3 (ls' := [some (.ref 39), some (.int on), some (.int tw), some (.int th), some (.int z512), none, none, none]) hi_257_23 (Nat.le_of_ble_eq_true rfl) rfl ?_
          refine am_e2 (v := 39) hi_257_25 rfl ?_
          refine am_e0 hi_257_26 ?_
          refine am_e0 hi_257_27 ?_
          refine am_e1 (v := on) hi_257_28 rfl ?_
          refine am_e32n (as := [.ref 39, .int 4, .int 1, .int on]) (la := [some (.ref 39), some (.int 4), some (.int 1), some (.int on), none]) (rest := []) hi_257_29 (am_hd0 (M := 257) (by decide) 29) (Nat.le_of_ble_eq_true rfl) (Nat.le_of_ble_eq_true rfl) (show 4 ≤ am_P0.2.2.1 254 from by decide +kernel) rfl (am_recv_ok hS497.fs) rfl rfl (ct_hide (d := (d + 4)) hS497 hR509 (by decide)  (by show (0 : Int) ≤ (f 32).toInt; omega) (by show (f 32).toInt ≤ (63 : Int); omega) (by show (f 53).toInt ≤ (4096 : Int); omega) (by show (0 : Int) ≤ (f 24).toInt; omega) (by show (f 24).toInt ≤ (16000 : Int); omega) (by show (0 : Int) ≤ (4 : Int); omega) (by show (4 : Int) ≤ (16 : Int); omega) (by show (0 : Int) ≤ (f 8).toInt; omega)) ?_
          rintro v513 S514 (⟨a515, b516, l517, y518, g'519, hv520, hS521, hR525, h522, h523, h524⟩)
          subst hv520
          have h522_ : l517.toInt = (f 24).toInt + (4 : Int) := h522
          have h523_ : ∀ j, j ∉ [25, 26, 27, 28, 29, 30, 58] → g'519 j = g'485 j := h523
          have h524_ : (0 : Int) ≤ a515.toInt := h524
          replace hS521 : MS S0 S514 (upd (upd (upd (upd (upd (upd (upd (upd (upd (upd f 4 z494) 5 y495) 8 a515) 9 b516) 15 z0) 24 l517) 31 y518) 62 o324) 68 z483) 75 m326) g'519 := hS521
          have hR525_ : RJ (upd (upd (upd (upd (upd (upd (upd (upd (upd (upd f 4 z494) 5 y495) 8 a515) 9 b516) 15 z0) 24 l517) 31 y518) 62 o324) 68 z483) 75 m326) g'519 gs bc [] 0 (s343.toNatClampNeg :: []) := hR525
          show am_E _ _ _ _ [some (.ref 39), some (.int on), some (.int tw), some (.int th), some (.int z512), none, none, none] [] _ _
          refine am_e2 (v := 39) hi_257_32 rfl ?_
          refine am_e0 hi_257_33 ?_
          refine am_e1 (v := z512) hi_257_35 rfl ?_
          refine am_e0 hi_257_37 ?_
          refine am_e1 (v := on) hi_257_38 rfl ?_
          refine am_e32n (as := [.ref 39, .int 42, .int z512, .int 0, .int on]) (la := [some (.ref 39), some (.int 42), some (.int z512), some (.int 0), some (.int on)]) (rest := []) hi_257_39 (am_hd0 (M := 257) (by decide) 39) (Nat.le_of_ble_eq_true rfl) (Nat.le_of_ble_eq_true rfl) (show 5 ≤ am_P0.2.2.1 189 from by decide +kernel) rfl (am_recv_ok hS521.fs) rfl rfl (ct_put (d := (d + 6)) hS521 hR525_  (by show (0 : Int) ≤ (f 32).toInt; omega) (by show (f 32).toInt ≤ (63 : Int); omega) (by show (f 53).toInt ≤ (4096 : Int); omega) (by show (0 : Int) ≤ z483.toInt; omega) (by show z483.toInt ≤ (65534 : Int); omega)) ?_
          rintro v526 S527 (⟨z528, r529, g'530, hv531, hS532, hR536, h533, h534, h535⟩)
          subst hv531
          have h533_ : z528.toInt = z483.toInt + 1 := h533
          have h534_ : r529.toInt = z483.toInt := h534
          have h535_ : ∀ j, j ∉ [60, 69, 70, 71, 72, 73] → g'530 j = g'519 j := h535
          replace hS532 : MS S0 S527 (upd (upd (upd (upd (upd (upd (upd (upd (upd (upd f 4 z494) 5 y495) 8 a515) 9 b516) 15 z0) 24 l517) 31 y518) 62 o324) 68 z528) 75 m326) g'530 := hS532
          have hR536_ : RJ (upd (upd (upd (upd (upd (upd (upd (upd (upd (upd f 4 z494) 5 y495) 8 a515) 9 b516) 15 z0) 24 l517) 31 y518) 62 o324) 68 z528) 75 m326) g'530 gs bc [] 0 (z483.toNatClampNeg :: (s343.toNatClampNeg :: [])) := hR536
          show am_E _ _ _ _ [some (.ref 39), some (.int on), some (.int tw), some (.int th), some (.int z512), none, none, none] [.int r529] _ _
          refine am_e6i hi_257_42 ?_
          refine am_e2 (v := 39) hi_257_43 rfl ?_
          refine am_e32n (as := [.ref 39]) (la := [some (.ref 39)]) (rest := []) hi_257_44 (am_hd0 (M := 257) (by decide) 44) (Nat.le_of_ble_eq_true rfl) (Nat.le_of_ble_eq_true rfl) (show 1 ≤ am_P0.2.2.1 210 from by decide +kernel) rfl (am_recv_ok hS532.fs) rfl rfl (ct_here (d := (d + 6)) hS532 hR536_  (by show (0 : Int) ≤ (f 32).toInt; omega) (by show (f 32).toInt ≤ (63 : Int); omega) (by show (f 53).toInt ≤ (4096 : Int); omega) (by show (0 : Int) ≤ z528.toInt; omega) (by show z528.toInt ≤ (65534 : Int); omega)) ?_
          rintro v537 S538 (⟨r539, hv540, hS541, h542, h543⟩)
          subst hv540
          have h542_ : (0 : Int) ≤ r539.toInt := h542
          have h543_ : r539.toInt ≤ z528.toInt := h543
          show am_E _ _ _ _ [some (.ref 39), some (.int on), some (.int tw), some (.int th), some (.int z512), none, none, none] [.int r539] _ _
          refine am_e3 (ls' := [some (.ref 39), some (.int on), some (.int tw), some (.int th), some (.int z512), some (.int r539), none, none]) hi_257_47 (Nat.le_of_ble_eq_true rfl) rfl ?_
          refine am_e2 (v := 39) hi_257_49 rfl ?_
          refine am_e0 hi_257_50 ?_
          refine am_e0 hi_257_52 ?_
          refine am_e0 hi_257_53 ?_
          refine am_e1 (v := on) hi_257_54 rfl ?_
          refine am_e32n (as := [.ref 39, .int 34, .int 0, .int 0, .int on]) (la := [some (.ref 39), some (.int 34), some (.int 0), some (.int 0), some (.int on)]) (rest := []) hi_257_55 (am_hd0 (M := 257) (by decide) 55) (Nat.le_of_ble_eq_true rfl) (Nat.le_of_ble_eq_true rfl) (show 5 ≤ am_P0.2.2.1 189 from by decide +kernel) rfl (am_recv_ok hS541.fs) rfl rfl (ct_put (d := (d + 6)) hS541 hR536_  (by show (0 : Int) ≤ (f 32).toInt; omega) (by show (f 32).toInt ≤ (63 : Int); omega) (by show (f 53).toInt ≤ (4096 : Int); omega) (by show (0 : Int) ≤ z528.toInt; omega) (by show z528.toInt ≤ (65534 : Int); omega)) ?_
          rintro v545 S546 (⟨z547, r548, g'549, hv550, hS551, hR555, h552, h553, h554⟩)
          subst hv550
          have h552_ : z547.toInt = z528.toInt + 1 := h552
          have h553_ : r548.toInt = z528.toInt := h553
          have h554_ : ∀ j, j ∉ [60, 69, 70, 71, 72, 73] → g'549 j = g'530 j := h554
          replace hS551 : MS S0 S546 (upd (upd (upd (upd (upd (upd (upd (upd (upd (upd f 4 z494) 5 y495) 8 a515) 9 b516) 15 z0) 24 l517) 31 y518) 62 o324) 68 z547) 75 m326) g'549 := hS551
          have hR555_ : RJ (upd (upd (upd (upd (upd (upd (upd (upd (upd (upd f 4 z494) 5 y495) 8 a515) 9 b516) 15 z0) 24 l517) 31 y518) 62 o324) 68 z547) 75 m326) g'549 gs bc [] 0 (z528.toNatClampNeg :: (z483.toNatClampNeg :: (s343.toNatClampNeg :: []))) := hR555
          show am_E _ _ _ _ [some (.ref 39), some (.int on), some (.int tw), some (.int th), some (.int z512), some (.int r539), none, none] [.int r548] _ _
          refine am_e6i hi_257_58 ?_
          refine am_e2 (v := 39) hi_257_59 rfl ?_
          refine am_e0 hi_257_60 ?_
          refine am_e1 (v := z512) hi_257_62 rfl ?_
          refine am_e1 (v := tw) hi_257_64 rfl ?_
          refine am_e1 (v := th) hi_257_65 rfl ?_
          refine am_e32n (as := [.ref 39, .int 43, .int z512, .int tw, .int th]) (la := [some (.ref 39), some (.int 43), some (.int z512), some (.int tw), some (.int th)]) (rest := []) hi_257_66 (am_hd0 (M := 257) (by decide) 66) (Nat.le_of_ble_eq_true rfl) (Nat.le_of_ble_eq_true rfl) (show 5 ≤ am_P0.2.2.1 189 from by decide +kernel) rfl (am_recv_ok hS551.fs) rfl rfl (ct_put (d := (d + 6)) hS551 hR555_  (by show (0 : Int) ≤ (f 32).toInt; omega) (by show (f 32).toInt ≤ (63 : Int); omega) (by show (f 53).toInt ≤ (4096 : Int); omega) (by show (0 : Int) ≤ z547.toInt; omega) (by show z547.toInt ≤ (65534 : Int); omega)) ?_
          rintro v556 S557 (⟨z558, r559, g'560, hv561, hS562, hR566, h563, h564, h565⟩)
          subst hv561
          have h563_ : z558.toInt = z547.toInt + 1 := h563
          have h564_ : r559.toInt = z547.toInt := h564
          have h565_ : ∀ j, j ∉ [60, 69, 70, 71, 72, 73] → g'560 j = g'549 j := h565
          replace hS562 : MS S0 S557 (upd (upd (upd (upd (upd (upd (upd (upd (upd (upd f 4 z494) 5 y495) 8 a515) 9 b516) 15 z0) 24 l517) 31 y518) 62 o324) 68 z558) 75 m326) g'560 := hS562
          have hR566_ : RJ (upd (upd (upd (upd (upd (upd (upd (upd (upd (upd f 4 z494) 5 y495) 8 a515) 9 b516) 15 z0) 24 l517) 31 y518) 62 o324) 68 z558) 75 m326) g'560 gs bc [] 0 (z547.toNatClampNeg :: (z528.toNatClampNeg :: (z483.toNatClampNeg :: (s343.toNatClampNeg :: [])))) := hR566
          show am_E _ _ _ _ [some (.ref 39), some (.int on), some (.int tw), some (.int th), some (.int z512), some (.int r539), none, none] [.int r559] _ _
          refine am_e6i hi_257_69 ?_
          refine am_e2 (v := 39) hi_257_70 rfl ?_
          refine am_e0 hi_257_71 ?_
          refine am_e1 (v := z512) hi_257_73 rfl ?_
          refine am_e0 hi_257_75 ?_
          refine am_e0 hi_257_76 ?_
          refine am_e32n (as := [.ref 39, .int 44, .int z512, .int 0, .int 0]) (la := [some (.ref 39), some (.int 44), some (.int z512), some (.int 0), some (.int 0)]) (rest := []) hi_257_77 (am_hd0 (M := 257) (by decide) 77) (Nat.le_of_ble_eq_true rfl) (Nat.le_of_ble_eq_true rfl) (show 5 ≤ am_P0.2.2.1 189 from by decide +kernel) rfl (am_recv_ok hS562.fs) rfl rfl (ct_put (d := (d + 6)) hS562 hR566_  (by show (0 : Int) ≤ (f 32).toInt; omega) (by show (f 32).toInt ≤ (63 : Int); omega) (by show (f 53).toInt ≤ (4096 : Int); omega) (by show (0 : Int) ≤ z558.toInt; omega) (by show z558.toInt ≤ (65534 : Int); omega)) ?_
          rintro v567 S568 (⟨z569, r570, g'571, hv572, hS573, hR577, h574, h575, h576⟩)
          subst hv572
          have h574_ : z569.toInt = z558.toInt + 1 := h574
          have h575_ : r570.toInt = z558.toInt := h575
          have h576_ : ∀ j, j ∉ [60, 69, 70, 71, 72, 73] → g'571 j = g'560 j := h576
          replace hS573 : MS S0 S568 (upd (upd (upd (upd (upd (upd (upd (upd (upd (upd f 4 z494) 5 y495) 8 a515) 9 b516) 15 z0) 24 l517) 31 y518) 62 o324) 68 z569) 75 m326) g'571 := hS573
          have hR577_ : RJ (upd (upd (upd (upd (upd (upd (upd (upd (upd (upd f 4 z494) 5 y495) 8 a515) 9 b516) 15 z0) 24 l517) 31 y518) 62 o324) 68 z569) 75 m326) g'571 gs bc [] 0 (z558.toNatClampNeg :: (z547.toNatClampNeg :: (z528.toNatClampNeg :: (z483.toNatClampNeg :: (s343.toNatClampNeg :: []))))) := hR577
          show am_E _ _ _ _ [some (.ref 39), some (.int on), some (.int tw), some (.int th), some (.int z512), some (.int r539), none, none] [.int r570] _ _
          refine am_e3 (ls' := [some (.ref 39), some (.int on), some (.int tw), some (.int th), some (.int z512), some (.int r539), some (.int r570), none]) hi_257_80 (Nat.le_of_ble_eq_true rfl) rfl ?_
          refine am_e2 (v := 39) hi_257_82 rfl ?_
          refine am_e0 hi_257_83 ?_
          refine am_e32n (as := [.ref 39, .int 1]) (la := [some (.ref 39), some (.int 1)]) (rest := []) hi_257_84 (am_hd0 (M := 257) (by decide) 84) (Nat.le_of_ble_eq_true rfl) (Nat.le_of_ble_eq_true rfl) (show 2 ≤ am_P0.2.2.1 177 from by decide +kernel) rfl (am_recv_ok hS573.fs) rfl rfl (ct_beginBlock2 (d := (d + 6)) hS573 hR577_ (by decide)  (by show (0 : Int) ≤ (f 37).toInt; omega) (by show (f 37).toInt ≤ (127 : Int); omega) (by show (0 : Int) ≤ l517.toInt; omega) (by show (0 : Int) ≤ (f 44).toInt; omega) (by show (f 44).toInt ≤ z494.toInt; omega) (by show (0 : Int) ≤ (f 48).toInt; omega)) ?_
          rintro v578 S579 (⟨z580, g'581, hv582, hS583, hR587, h584, h585, h586⟩)
          subst hv582
          have h584_ : z580.toInt = (f 37).toInt + 1 := h584
          have h585_ : ∀ j, j ∉ [38, 39, 40, 41, 42, 43] → g'581 j = g'571 j := h585
          have h586_ : g'581 38 = upd (g'571 38) (f 37).toNatClampNeg l517 := h586
          replace hS583 : MS S0 S579 (upd (upd (upd (upd (upd (upd (upd (upd (upd (upd (upd f 4 z494) 5 y495) 8 a515) 9 b516) 15 z0) 24 l517) 31 y518) 37 z580) 62 o324) 68 z569) 75 m326) g'581 := hS583
          have hR587_ : RJ (upd (upd (upd (upd (upd (upd (upd (upd (upd (upd (upd f 4 z494) 5 y495) 8 a515) 9 b516) 15 z0) 24 l517) 31 y518) 37 z580) 62 o324) 68 z569) 75 m326) g'581 gs ([] :: bc) [] 0 (z558.toNatClampNeg :: (z547.toNatClampNeg :: (z528.toNatClampNeg :: (z483.toNatClampNeg :: (s343.toNatClampNeg :: []))))) := hR587
          show am_E _ _ _ _ [some (.ref 39), some (.int on), some (.int tw), some (.int th), some (.int z512), some (.int r539), some (.int r570), none] [] _ _
          refine am_e0 hi_257_87 ?_
          refine am_e3 (ls' := [some (.ref 39), some (.int on), some (.int tw), some (.int th), some (.int z512), some (.int r539), some (.int r570), some (.int 0)]) hi_257_88 (Nat.le_of_ble_eq_true rfl) rfl ?_
          refine fr_each (d := (d + 2)) (f := (upd (upd (upd (upd (upd (upd (upd (upd (upd (upd (upd f 4 z494) 5 y495) 8 a515) 9 b516) 15 z0) 24 l517) 31 y518) 37 z580) 62 o324) 68 z569) 75 m326)) (g := g'581) (w := on) (m := tw) (x3 := th) (c4 := z512) (h5 := r539) (q6 := r570)  (by show (0 : Int) ≤ (f 32).toInt; omega) (by show (f 32).toInt ≤ (63 : Int); omega) (by show (f 53).toInt ≤ (4096 : Int); omega) (by show (0 : Int) ≤ l517.toInt; omega) (by show l517.toInt + tw.toInt ≤ 16383; omega) (by show (0 : Int) ≤ on.toInt; omega) (by show on.toInt + 2 * tw.toInt ≤ 16000; omega) (by show (0 : Int) ≤ a515.toInt; omega) ?_ ((tw.toInt - (0 : Int)).toNat + 1) _ 0 a515 b516 l517 y518 _ hS583 hR587_ (fun _ _ => rfl) (by show (0 : Int) ≤ (0 : Int); omega) (by show (0 : Int) ≤ tw.toInt; omega) (by show l517.toInt = l517.toInt + (0 : Int); omega) (by show (0 : Int) ≤ a515.toInt; omega) (by show tw.toInt - (0 : Int) < _; omega)
          · intro S593 i588 a589 b590 l591 y592 gx596 hS594 hR595 hg597 h598 h599
            replace hS594 : MS S0 S593 (upd (upd (upd (upd (upd (upd (upd (upd (upd (upd (upd f 4 z494) 5 y495) 8 a589) 9 b590) 15 z0) 24 l591) 31 y592) 37 z580) 62 o324) 68 z569) 75 m326) gx596 := hS594
            have h598_ : l591.toInt = l517.toInt + tw.toInt := h598
            have h599_ : (0 : Int) ≤ a589.toInt := h599
            have hR595_ : RJ (upd (upd (upd (upd (upd (upd (upd (upd (upd (upd (upd f 4 z494) 5 y495) 8 a589) 9 b590) 15 z0) 24 l591) 31 y592) 37 z580) 62 o324) 68 z569) 75 m326) gx596 gs ([] :: bc) [] 0 (z558.toNatClampNeg :: (z547.toNatClampNeg :: (z528.toNatClampNeg :: (z483.toNatClampNeg :: (s343.toNatClampNeg :: []))))) := hR595
            show am_E _ _ _ _ [some (.ref 39), some (.int on), some (.int tw), some (.int th), some (.int z512), some (.int r539), some (.int r570), some (.int i588)] [] _ _
            refine am_e2 (v := 39) hi_257_129 rfl ?_
            refine am_e0 hi_257_130 ?_
            refine am_e1 (v := r570) hi_257_132 rfl ?_
            refine am_e1 (v := r539) hi_257_134 rfl ?_
            refine am_e1 (v := z512) hi_257_136 rfl ?_
            refine am_e32n (as := [.ref 39, .int 15, .int r570, .int r539, .int z512]) (la := [some (.ref 39), some (.int 15), some (.int r570), some (.int r539), some (.int z512)]) (rest := []) hi_257_138 (am_hd0 (M := 257) (by decide) 138) (Nat.le_of_ble_eq_true rfl) (Nat.le_of_ble_eq_true rfl) (show 5 ≤ am_P0.2.2.1 179 from by decide +kernel) rfl (am_recv_ok hS594.fs) rfl rfl (ct_pile (d := (d + 6)) hS594 hR595_ (mj_e_b (by decide) (by omega) (by show r570.toInt < z569.toInt; omega)) (by show (0 : Int) ≤ (f 10).toInt; omega) (by show (f 10).toInt ≤ (65535 : Int); omega)) ?_
            rintro v600 S601 (⟨z602, g'603, hv604, hS605, hR608, h606, h607⟩)
            subst hv604
            have h606_ : z602.toInt = (f 10).toInt + 1 := h606
            have h607_ : ∀ j, j ∉ [11, 12, 13, 14] → g'603 j = gx596 j := h607
            replace hS605 : MS S0 S601 (upd (upd (upd (upd (upd (upd (upd (upd (upd (upd (upd (upd f 4 z494) 5 y495) 8 a589) 9 b590) 10 z602) 15 z0) 24 l591) 31 y592) 37 z580) 62 o324) 68 z569) 75 m326) g'603 := hS605
            have hR608_ : RJ (upd (upd (upd (upd (upd (upd (upd (upd (upd (upd (upd (upd f 4 z494) 5 y495) 8 a589) 9 b590) 10 z602) 15 z0) 24 l591) 31 y592) 37 z580) 62 o324) 68 z569) 75 m326) g'603 (((15 : Int), r570.toInt, r539.toInt, z512.toInt, []) :: gs) ([] :: bc) [] 0 (z558.toNatClampNeg :: (z547.toNatClampNeg :: (z528.toNatClampNeg :: (z483.toNatClampNeg :: (s343.toNatClampNeg :: []))))) := hR608
            show am_E _ _ _ _ [some (.ref 39), some (.int on), some (.int tw), some (.int th), some (.int z512), some (.int r539), some (.int r570), some (.int i588)] [] _ _
            refine am_e2 (v := 39) hi_257_141 rfl ?_
            refine am_e32w (as := [.ref 39]) (la := [some (.ref 39)]) (rest := []) hi_257_142 (am_hd0 (M := 257) (by decide) 142) (Nat.le_of_ble_eq_true rfl) (Nat.le_of_ble_eq_true rfl) (show 1 ≤ am_P0.2.2.1 178 from by decide +kernel) rfl (am_recv_ok hS605.fs) rfl rfl ?_
            refine am_e2 (v := 39) hi_178_0 rfl ?_
            refine am_e0 hi_178_1 ?_
            refine am_e0 hi_178_2 ?_
            refine am_e0 hi_178_3 ?_
            refine am_e0 hi_178_4 ?_
            refine am_e32n (as := [.ref 39, .int 1, .int 0, .int 0, .int 0]) (la := [some (.ref 39), some (.int 1), some (.int 0), some (.int 0), some (.int 0)]) (rest := []) hi_178_5 (am_hd0 (M := 178) (by decide) 5) (Nat.le_of_ble_eq_true rfl) (Nat.le_of_ble_eq_true rfl) (show 5 ≤ am_P0.2.2.1 179 from by decide +kernel) rfl (am_recv_ok hS605.fs) rfl rfl (ct_pile (d := (d + 5)) hS605 hR608_ (mj_e_plain (by decide)) (by show (0 : Int) ≤ z602.toInt; omega) (by show z602.toInt ≤ (65535 : Int); omega)) ?_
            rintro v609 S610 (⟨z611, g'612, hv613, hS614, hR617, h615, h616⟩)
            subst hv613
            have h615_ : z611.toInt = z602.toInt + 1 := h615
            have h616_ : ∀ j, j ∉ [11, 12, 13, 14] → g'612 j = g'603 j := h616
            replace hS614 : MS S0 S610 (upd (upd (upd (upd (upd (upd (upd (upd (upd (upd (upd (upd f 4 z494) 5 y495) 8 a589) 9 b590) 10 z611) 15 z0) 24 l591) 31 y592) 37 z580) 62 o324) 68 z569) 75 m326) g'612 := hS614
            have hR617_ : RJ (upd (upd (upd (upd (upd (upd (upd (upd (upd (upd (upd (upd f 4 z494) 5 y495) 8 a589) 9 b590) 10 z611) 15 z0) 24 l591) 31 y592) 37 z580) 62 o324) 68 z569) 75 m326) g'612 (((1 : Int), (0 : Int), (0 : Int), (0 : Int), []) :: (((15 : Int), r570.toInt, r539.toInt, z512.toInt, []) :: gs)) ([] :: bc) [] 0 (z558.toNatClampNeg :: (z547.toNatClampNeg :: (z528.toNatClampNeg :: (z483.toNatClampNeg :: (s343.toNatClampNeg :: []))))) := hR617
            show am_E _ _ _ _ [some (.ref 39)] [] _ _
            refine am_e35 hi_178_8 ?_
            show am_E _ _ _ _ [some (.ref 39), some (.int on), some (.int tw), some (.int th), some (.int z512), some (.int r539), some (.int r570), some (.int i588)] [] _ _
            refine am_e35 hi_257_145 ?_
            show am_E _ _ _ _ [some (.ref 39), some (.int 14), some (.int on), some (.int tw), some (.int th)] [] _ _
            refine am_e18 hi_180_270 ?_
            refine am_e35 hi_180_371 ?_
            have q1 : mg_p1 (((1 : Int), (0 : Int), (0 : Int), (0 : Int), []) :: (((15 : Int), r570.toInt, r539.toInt, z512.toInt, []) :: gs)) = 0 + (0 + (mg_p1 gs)) := rfl
            have q2 : mg_p2 (((1 : Int), (0 : Int), (0 : Int), (0 : Int), []) :: (((15 : Int), r570.toInt, r539.toInt, z512.toInt, []) :: gs)) = 0 + (0 + (mg_p2 gs)) := rfl
            have q3 : mg_p3 (((1 : Int), (0 : Int), (0 : Int), (0 : Int), []) :: (((15 : Int), r570.toInt, r539.toInt, z512.toInt, []) :: gs)) = 1 + (1 + (mg_p3 gs)) := rfl
            have q4 : mg_p4 (((1 : Int), (0 : Int), (0 : Int), (0 : Int), []) :: (((15 : Int), r570.toInt, r539.toInt, z512.toInt, []) :: gs)) = 0 + (0 + (mg_p4 gs)) := rfl
            refine ⟨_, _, _, ([] :: bc), rfl, hS614, Or.inl ⟨⟨(RJ.fewer (pj' := []) hR617_ (fun _ h => nomatch h)), ?_, ?_⟩, rfl, ?_⟩⟩
            · exact (⟨⟨(show mg_k 1 from by decide), (show (0 : Int) ≤ z0.toInt from by omega), (show 0 ≤ (f 20).toInt from by omega), (show 1 ≤ z580.toInt from by omega), (show 0 ≤ (f 32).toInt from by omega), (show (f 32).toInt ≤ y495.toInt from by omega), (show y495.toInt ≤ 48 from by omega), (show z580.toInt ≤ 2 * (y495.toInt) + 1 from by omega), trivial⟩, ⟨⟨(show mg_k 15 from by decide), (show (0 : Int) ≤ z0.toInt + 0 from by omega), (show 0 ≤ (f 20).toInt from by omega), (show 1 ≤ z580.toInt + 0 from by omega), (show 0 ≤ (f 32).toInt + 0 from by omega), (show (f 32).toInt + 0 ≤ y495.toInt + 0 from by omega), (show y495.toInt + 0 ≤ 48 from by omega), (show z580.toInt + 0 ≤ 2 * (y495.toInt + 0) + 0 from by omega), (mg_pa13 (l1 := l517) hR (by show g'612 34 = g 34; rw [show g'612 34 = g'603 34 from h616_ 34 (by decide), show g'603 34 = gx596 34 from h607_ 34 (by decide), show gx596 34 = g'581 34 from hg597 34 (by decide), show g'581 34 = g'571 34 from h585_ 34 (by decide), show g'571 34 = g'560 34 from h576_ 34 (by decide), show g'560 34 = g'549 34 from h565_ 34 (by decide), show g'549 34 = g'530 34 from h554_ 34 (by decide), show g'530 34 = g'519 34 from h535_ 34 (by decide), show g'519 34 = g'485 34 from h523_ 34 (by decide), show g'485 34 = g'344 34 from h490_ 34 (by decide), show g'344 34 = g'327 34 from h349_ 34 (by decide), show g'327 34 = g 34 from h335_ 34 (by decide)]) (by show g'612 38 = upd (g 38) (f 37).toNatClampNeg l517; rw [show g'612 38 = g'603 38 from h616_ 38 (by decide), show g'603 38 = gx596 38 from h607_ 38 (by decide), show gx596 38 = g'581 38 from hg597 38 (by decide), h586_, show g'571 38 = g'560 38 from h576_ 38 (by decide), show g'560 38 = g'549 38 from h565_ 38 (by decide), show g'549 38 = g'530 38 from h554_ 38 (by decide), show g'530 38 = g'519 38 from h535_ 38 (by decide), show g'519 38 = g'485 38 from h523_ 38 (by decide), show g'485 38 = g'344 38 from h490_ 38 (by decide), show g'344 38 = g'327 38 from h349_ 38 (by decide), show g'327 38 = g 38 from h335_ 38 (by decide)]) (by show (f 32).toInt + 0 = (f 32).toInt; omega) (by omega) (by show z580.toInt + 0 = (f 37).toInt + 1; omega) (by show z512.toInt = (f 24).toInt - (g 34 (f 32).toNatClampNeg).toInt; omega) (by omega) (by show (f 24).toInt ≤ l517.toInt; omega))⟩, mg_cast (mg_good_ext _ _ _ _ _ _ (fun i _ => by show g'612 34 i = g 34 i; rw [show g'612 34 = g'603 34 from h616_ 34 (by decide), show g'603 34 = gx596 34 from h607_ 34 (by decide), show gx596 34 = g'581 34 from hg597 34 (by decide), show g'581 34 = g'571 34 from h585_ 34 (by decide), show g'571 34 = g'560 34 from h576_ 34 (by decide), show g'560 34 = g'549 34 from h565_ 34 (by decide), show g'549 34 = g'530 34 from h554_ 34 (by decide), show g'530 34 = g'519 34 from h535_ 34 (by decide), show g'519 34 = g'485 34 from h523_ 34 (by decide), show g'485 34 = g'344 34 from h490_ 34 (by decide), show g'344 34 = g'327 34 from h349_ 34 (by decide), show g'327 34 = g 34 from h335_ 34 (by decide)]) (fun i hi => by show g'612 38 i = g 38 i; rw [show g'612 38 = g'603 38 from h616_ 38 (by decide), show g'603 38 = gx596 38 from h607_ 38 (by decide), show gx596 38 = g'581 38 from hg597 38 (by decide), h586_, show g'571 38 = g'560 38 from h576_ 38 (by decide), show g'560 38 = g'549 38 from h565_ 38 (by decide), show g'549 38 = g'530 38 from h554_ 38 (by decide), show g'530 38 = g'519 38 from h535_ 38 (by decide), show g'519 38 = g'485 38 from h523_ 38 (by decide), show g'485 38 = g'344 38 from h490_ 38 (by decide), show g'344 38 = g'327 38 from h349_ 38 (by decide), show g'327 38 = g 38 from h335_ 38 (by decide)]; exact upd_ne (by rw [cl_toNat]; omega)) (fun i _ => by show g'612 23 i = g 23 i; rw [show g'612 23 = g'603 23 from h616_ 23 (by decide), show g'603 23 = gx596 23 from h607_ 23 (by decide), show gx596 23 = g'581 23 from hg597 23 (by decide), show g'581 23 = g'571 23 from h585_ 23 (by decide), show g'571 23 = g'560 23 from h576_ 23 (by decide), show g'560 23 = g'549 23 from h565_ 23 (by decide), show g'549 23 = g'530 23 from h554_ 23 (by decide), show g'530 23 = g'519 23 from h535_ 23 (by decide), show g'519 23 = g'485 23 from h523_ 23 (by decide), show g'485 23 = g'344 23 from h490_ 23 (by decide), show g'344 23 = g'327 23 from h349_ 23 (by decide), show g'327 23 = g 23 from h335_ 23 (by decide)]) hrest) (by show (f 15).toInt + -1 = z0.toInt + 0 + 0; omega) (by show (f 20).toInt = (f 20).toInt; omega) (by show (f 37).toInt + 0 = z580.toInt + 0 + -1; omega) (by show (f 32).toInt + 0 = (f 32).toInt + 0 + 0; omega) (by show (f 5).toInt + 0 = y495.toInt + 0 + -1; omega)⟩⟩ : mg_good (g'612 34) (g'612 38) (g'612 23) (((1 : Int), (0 : Int), (0 : Int), (0 : Int), []) :: (((15 : Int), r570.toInt, r539.toInt, z512.toInt, []) :: gs)) (z0.toInt) ((f 20).toInt) (z580.toInt) ((f 32).toInt) (y495.toInt))
            · exact ⟨(by show 0 ≤ z494.toInt; omega), (by show z494.toInt ≤ (f 0).toInt; omega), (by show (f 0).toInt ≤ 512; omega), (by show 0 ≤ l591.toInt; omega), (by show l591.toInt + (f 20).toInt + mg_p1 (((1 : Int), (0 : Int), (0 : Int), (0 : Int), []) :: (((15 : Int), r570.toInt, r539.toInt, z512.toInt, []) :: gs)) ≤ 4 * z494.toInt; omega), (by show (f 20).toInt ≤ z494.toInt; omega), (by show z0.toInt + mg_p2 (((1 : Int), (0 : Int), (0 : Int), (0 : Int), []) :: (((15 : Int), r570.toInt, r539.toInt, z512.toInt, []) :: gs)) ≤ z494.toInt; omega), (by show mg_p3 (((1 : Int), (0 : Int), (0 : Int), (0 : Int), []) :: (((15 : Int), r570.toInt, r539.toInt, z512.toInt, []) :: gs)) ≤ 20 * z494.toInt + 20; omega), (by show 0 ≤ z569.toInt; omega), (by show z569.toInt + 3 * (f 20).toInt + mg_p4 (((1 : Int), (0 : Int), (0 : Int), (0 : Int), []) :: (((15 : Int), r570.toInt, r539.toInt, z512.toInt, []) :: gs)) ≤ 60 * z494.toInt + 60; omega), (by show 0 ≤ o324.toInt; omega), (by show o324.toInt + 64 * mj_n (g'612 16) z0.toNatClampNeg 3 ≤ 64 * z494.toInt; rw [show g'612 16 = g'603 16 from h616_ 16 (by decide), show g'603 16 = gx596 16 from h607_ 16 (by decide), show gx596 16 = g'581 16 from hg597 16 (by decide), show g'581 16 = g'571 16 from h585_ 16 (by decide), show g'571 16 = g'560 16 from h576_ 16 (by decide), show g'560 16 = g'549 16 from h565_ 16 (by decide), show g'549 16 = g'530 16 from h554_ 16 (by decide), show g'530 16 = g'519 16 from h535_ 16 (by decide), show g'519 16 = g'485 16 from h523_ 16 (by decide), show g'485 16 = g'344 16 from h490_ 16 (by decide), show g'344 16 = g'327 16 from h349_ 16 (by decide)]; omega), (by show 0 ≤ (f 44).toInt; omega), (by show (f 44).toInt ≤ z494.toInt; omega), (by show 0 ≤ (f 48).toInt; omega), (by show (f 48).toInt ≤ z494.toInt; omega), (by show 1 ≤ (f 53).toInt; omega), (by show (f 53).toInt ≤ z494.toInt + 1; omega), (by show 0 ≤ (f 19).toInt; omega), (by show (f 19).toInt ≤ 600; omega), (by show 0 ≤ (f 6).toInt; omega), (by show 0 ≤ a589.toInt; omega)⟩
            · show 100 * ((f 0).toInt - z494.toInt) + mg_p3 (((1 : Int), (0 : Int), (0 : Int), (0 : Int), []) :: (((15 : Int), r570.toInt, r539.toInt, z512.toInt, []) :: gs)) < 100 * ((f 0).toInt - (f 4).toInt) + (1 + mg_p3 gs); omega
        · subst hv505
          have h507_ : (0 : Int) ≤ a503.toInt := h507
          replace hS506 : MS S0 S493 (upd (upd (upd (upd (upd (upd (upd f 6 a503) 7 b504) 10 0) 15 z0) 62 o324) 68 z483) 75 m326) g'485 := hS506
          have hR618 := rj_clear0 hR491_
          have hR619 : RJ (upd (upd (upd (upd (upd (upd (upd f 6 a503) 7 b504) 10 0) 15 z0) 62 o324) 68 z483) 75 m326) g'485 [] bc [] 0 [] := hR618
          show am_E _ _ _ _ [some (.ref 39), some (.int on), some (.int tw), some (.int th), none, none, none, none] [.int 0] _ _
          refine am_e12f hi_257_15 (by decide) ?_
          refine am_e35 hi_257_18 ?_
          show am_E _ _ _ _ [some (.ref 39), some (.int 14), some (.int on), some (.int tw), some (.int th)] [] _ _
          refine am_e18 hi_180_270 ?_
          refine am_e35 hi_180_371 ?_
          have hRc := rj_clear0 hR619
          refine ⟨_, _, [], _, rfl, hS506, Or.inr ⟨hRc, rfl, (by show 0 ≤ (f 4).toInt; omega), (by show (f 4).toInt ≤ (f 0).toInt; omega), (by show 0 ≤ (f 32).toInt; omega), (by show (f 32).toInt ≤ 63; omega), (by show 1 ≤ (f 53).toInt; omega), (by show (f 53).toInt ≤ 600; omega), (by show 0 ≤ z483.toInt; omega), (by show z483.toInt ≤ 60000; omega), (by show 0 ≤ (f 48).toInt; omega), (by show (f 48).toInt ≤ 8000; omega), (by show 0 ≤ (f 37).toInt; omega), (by show (f 37).toInt ≤ 128; omega), (by show 0 ≤ o324.toInt; omega), (by show o324.toInt ≤ 65000; omega), (by show 0 ≤ (f 19).toInt; omega), (by show (f 19).toInt ≤ 600; omega), (by show 0 ≤ a503.toInt; omega), (by show 0 ≤ (f 8).toInt; omega)⟩⟩
    · refine am_e13f hi_216_27 (am_cF (m := (g 16 z0.toNatClampNeg).toInt) (n := (2 : Int)) rfl (by decide) c321) ?_
      refine am_e0 hi_216_30 ?_
      refine am_e18 hi_216_31 ?_
      refine am_e36 hi_216_35 (by decide) ?_
      show am_E _ _ _ _ [some (.ref 39), some (.int 4), some (.int (f 19))] [.int 1] _ _
      refine am_e12f hi_258_4 (by decide) ?_
      refine am_e1 (v := f 19) hi_258_7 rfl ?_
      refine am_e1 (v := 4) hi_258_8 rfl ?_
      by_cases c620 : (4 : Int) < (f 19).toInt
      · refine am_e13t hi_258_9 (am_cT (m := (f 19).toInt) (n := (4 : Int)) rfl (by decide) c620) ?_
        refine am_e2 (v := 39) hi_258_31 rfl ?_
        refine am_e32w (as := [.ref 39]) (la := [some (.ref 39)]) (rest := []) hi_258_32 (am_hd0 (M := 258) (by decide) 32) (Nat.le_of_ble_eq_true rfl) (Nat.le_of_ble_eq_true rfl) (show 1 ≤ am_P0.2.2.1 209 from by decide +kernel) rfl (am_recv_ok hS.fs) rfl rfl ?_
        refine am_e2 (v := 39) hi_209_0 rfl ?_
        refine am_e32n (as := [.ref 39]) (la := [some (.ref 39), none, none, none]) (rest := []) hi_209_1 (am_hd0 (M := 209) (by decide) 1) (Nat.le_of_ble_eq_true rfl) (Nat.le_of_ble_eq_true rfl) (show 1 ≤ am_P0.2.2.1 204 from by decide +kernel) rfl (am_recv_ok hS.fs) rfl rfl (ct_load (d := (d + 2)) hS hR  (by show (0 : Int) ≤ (f 32).toInt; omega) (by show (f 32).toInt ≤ (63 : Int); omega) (by show (f 53).toInt ≤ (4096 : Int); omega) (by show (0 : Int) ≤ (f 68).toInt; omega) (by show (f 68).toInt ≤ (65534 : Int); omega) (by show (1 : Int) ≤ (f 15).toInt; omega) (by show (f 15).toInt ≤ (32767 : Int); omega) (by show (0 : Int) ≤ (f 24).toInt; omega) (by show (f 24).toInt ≤ (16384 : Int); omega) (by show (0 : Int) ≤ (f 62).toInt; omega) (by show (f 62).toInt ≤ (65000 : Int); omega)) ?_
        rintro v621 S622 (⟨o623, s624, m625, g'626, hv627, hS628, hR635, h629, h630, h631, h632, h633, h634⟩)
        subst hv627
        have h629_ : (f 62).toInt ≤ o623.toInt := h629
        have h630_ : o623.toInt ≤ (f 62).toInt + 64 := h630
        have h631_ : (f 68).toInt ≤ s624.toInt := h631
        have h632_ : s624.toInt ≤ (f 68).toInt + 1 := h632
        have h633_ : o623.toInt + 64 * mj_n (g'626 16) (f 15).toNatClampNeg 3 ≤ (f 62).toInt + 64 * mj_n (g 16) (f 15).toNatClampNeg 3 := h633
        have h634_ : ∀ j, j ∉ [16, 60, 63, 64, 65, 66, 67, 69, 70, 71, 72, 73] → g'626 j = g j := h634
        have hR635_ : RJ (upd (upd (upd f 62 o623) 68 s624) 75 m625) g'626 gs bc [] 0 [] := hR635
        show am_E _ _ _ _ [some (.ref 39)] [] _ _
        refine am_e2 (v := 39) hi_209_4 rfl ?_
        refine am_e7 hi_209_5 ?_
        refine mm_20 (v := .int (f 15)) hS628 hi_209_6 rfl ?_
        refine am_e0 hi_209_9 ?_
        refine am_e10 (z := z0) hi_209_10 hz0 ?_
        refine mm_21 (v := z0) hS628 hi_209_11 rfl (Nat.le_of_ble_eq_true rfl) ms_15 ?_
        intro S636 hS637
        replace hS637 : MS S0 S636 (upd (upd (upd (upd f 15 z0) 62 o623) 68 s624) 75 m625) g'626 := hS637
        have hp638 : mj_n (g'626 16) (f 15).toNatClampNeg 3 = mj_n (g'626 16) z0.toNatClampNeg 3 + if (g'626 16 z0.toNatClampNeg).toInt = 3 then 1 else 0 := mj_pop (by rw [cl_toNat, cl_toNat]; omega)
        have hp6381 : mj_n (g'626 16) z0.toNatClampNeg 3 ≤ mj_n (g'626 16) (f 15).toNatClampNeg 3 := by rw [hp638]; split <;> omega
        have hp6382 : (g'626 16 z0.toNatClampNeg).toInt = 3 → mj_n (g'626 16) z0.toNatClampNeg 3 + 1 ≤ mj_n (g'626 16) (f 15).toNatClampNeg 3 := fun q => by rw [hp638, if_pos q]; exact Int.le_refl _
        refine am_e35 hi_209_14 ?_
        show am_E _ _ _ _ [some (.ref 39), some (.int 4), some (.int (f 19))] [] _ _
        refine am_e2 (v := 39) hi_258_35 rfl ?_
        refine am_e1 (v := 4) hi_258_36 rfl ?_
        refine am_e1 (v := f 19) hi_258_37 rfl ?_
        obtain ⟨z639, hz639, tz639⟩ := am_subI (x := 4) (y := f 19) (m := (4 : Int)) (n := (f 19).toInt) (by decide) rfl (by omega) (by omega)
        refine am_e10 (z := z639) hi_258_38 hz639 ?_
        refine am_e32n (as := [.ref 39, .int z639]) (la := [some (.ref 39), some (.int z639), none]) (rest := []) hi_258_39 (am_hd0 (M := 258) (by decide) 39) (Nat.le_of_ble_eq_true rfl) (Nat.le_of_ble_eq_true rfl) (show 2 ≤ am_P0.2.2.1 240 from by decide +kernel) rfl (am_recv_ok hS637.fs) rfl rfl (ct_nils (d := (d + 4)) hS637 hR635_  (by show (0 : Int) ≤ (f 32).toInt; omega) (by show (f 32).toInt ≤ (63 : Int); omega) (by show (f 53).toInt ≤ (4096 : Int); omega) (by show (0 : Int) ≤ s624.toInt; omega) (by show s624.toInt ≤ (65534 : Int); omega) (by show s624.toInt + z639.toInt ≤ 65534; omega)) ?_
        rintro v640 S641 (⟨s642, g'643, hv644, hS645, hR649, h646, h647, h648⟩)
        subst hv644
        have h646_ : s624.toInt ≤ s642.toInt := h646
        have h647_ : s642.toInt ≤ s624.toInt + z639.toInt ∨ s642.toInt ≤ s624.toInt := h647
        have h648_ : ∀ j, j ∉ [60, 69, 70, 71, 72, 73] → g'643 j = g'626 j := h648
        replace hS645 : MS S0 S641 (upd (upd (upd (upd f 15 z0) 62 o623) 68 s642) 75 m625) g'643 := hS645
        have hR649_ : RJ (upd (upd (upd (upd f 15 z0) 62 o623) 68 s642) 75 m625) g'643 gs bc [] 0 [] := hR649
        show am_E _ _ _ _ [some (.ref 39), some (.int 4), some (.int (f 19))] [] _ _
        refine am_e1 (v := f 19) hi_258_42 rfl ?_
        refine am_e1 (v := 4) hi_258_43 rfl ?_
        refine am_e13f hi_258_44 (am_cF (m := (f 19).toInt) (n := (4 : Int)) rfl (by decide) (by simp only [am_cI]; omega)) ?_
        refine am_e2 (v := 39) hi_258_47 rfl ?_
        refine am_e0 hi_258_48 ?_
        refine am_e1 (v := f 19) hi_258_50 rfl ?_
        refine am_e1 (v := 4) hi_258_51 rfl ?_
        obtain ⟨z650, hz650, tz650⟩ := am_subI (x := f 19) (y := 4) (m := (f 19).toInt) (n := (4 : Int)) rfl (by decide) (by omega) (by omega)
        refine am_e10 (z := z650) hi_258_52 hz650 ?_
        refine am_e0 hi_258_53 ?_
        refine am_e0 hi_258_54 ?_
        refine am_e32n (as := [.ref 39, .int 26, .int z650, .int 0, .int 0]) (la := [some (.ref 39), some (.int 26), some (.int z650), some (.int 0), some (.int 0)]) (rest := []) hi_258_55 (am_hd0 (M := 258) (by decide) 55) (Nat.le_of_ble_eq_true rfl) (Nat.le_of_ble_eq_true rfl) (show 5 ≤ am_P0.2.2.1 189 from by decide +kernel) rfl (am_recv_ok hS645.fs) rfl rfl (ct_put (d := (d + 5)) hS645 hR649_  (by show (0 : Int) ≤ (f 32).toInt; omega) (by show (f 32).toInt ≤ (63 : Int); omega) (by show (f 53).toInt ≤ (4096 : Int); omega) (by show (0 : Int) ≤ s642.toInt; omega) (by show s642.toInt ≤ (65534 : Int); omega)) ?_
        rintro v651 S652 (⟨z653, r654, g'655, hv656, hS657, hR661, h658, h659, h660⟩)
        subst hv656
        have h658_ : z653.toInt = s642.toInt + 1 := h658
        have h659_ : r654.toInt = s642.toInt := h659
        have h660_ : ∀ j, j ∉ [60, 69, 70, 71, 72, 73] → g'655 j = g'643 j := h660
        replace hS657 : MS S0 S652 (upd (upd (upd (upd f 15 z0) 62 o623) 68 z653) 75 m625) g'655 := hS657
        have hR661_ : RJ (upd (upd (upd (upd f 15 z0) 62 o623) 68 z653) 75 m625) g'655 gs bc [] 0 (s642.toNatClampNeg :: []) := hR661
        show am_E _ _ _ _ [some (.ref 39), some (.int 4), some (.int (f 19))] [.int r654] _ _
        refine am_e6i hi_258_58 ?_
        refine am_e35 hi_258_59 ?_
        show am_E _ _ _ _ [some (.ref 39), some (.int on), some (.int tw), some (.int th), none, none, none, none] [] _ _
        refine am_e2 (v := 39) hi_257_9 rfl ?_
        refine am_e0 hi_257_10 ?_
        refine am_e32n (as := [.ref 39, .int 12]) (la := [some (.ref 39), some (.int 12)]) (rest := []) hi_257_12 (am_hd0 (M := 257) (by decide) 12) (Nat.le_of_ble_eq_true rfl) (Nat.le_of_ble_eq_true rfl) (show 2 ≤ am_P0.2.2.1 193 from by decide +kernel) rfl (am_recv_ok hS657.fs) rfl rfl (ct_enter (d := (d + 4)) hS657   (by show (0 : Int) ≤ (f 4).toInt; omega) (by show (f 0).toInt ≤ (16384 : Int); omega) (by show (0 : Int) ≤ (12 : Int); omega) (by show (0 : Int) ≤ (f 5).toInt; omega) (by show (f 5).toInt ≤ (48 : Int); omega) (by show (0 : Int) ≤ (f 6).toInt; omega)) ?_
        rintro v662 S663 (⟨z664, y665, hv666, hS667, h668, h669, h670, h671⟩ | ⟨a673, b674, hv675, hS676, h677⟩)
        · subst hv666
          have h668_ : z664.toInt = (f 4).toInt + 1 := h668
          have h669_ : (f 4).toInt < (f 0).toInt := h669
          have h670_ : y665.toInt = (f 5).toInt + 1 := h670
          have h671_ : y665.toInt ≤ (48 : Int) := h671
          replace hS667 : MS S0 S663 (upd (upd (upd (upd (upd (upd f 4 z664) 5 y665) 15 z0) 62 o623) 68 z653) 75 m625) g'655 := hS667
          have hR679 : RJ (upd (upd (upd (upd (upd (upd f 4 z664) 5 y665) 15 z0) 62 o623) 68 z653) 75 m625) g'655 gs bc [] 0 (s642.toNatClampNeg :: []) := RJ.at hR661_ (by show (f 4).toInt ≤ z664.toInt; omega)
          show am_E _ _ _ _ [some (.ref 39), some (.int on), some (.int tw), some (.int th), none, none, none, none] [.int 1] _ _
          refine am_e12t hi_257_15 (by decide) ?_
          refine am_e2 (v := 39) hi_257_19 rfl ?_
          refine am_e32w (as := [.ref 39]) (la := [some (.ref 39)]) (rest := []) hi_257_20 (am_hd0 (M := 257) (by decide) 20) (Nat.le_of_ble_eq_true rfl) (Nat.le_of_ble_eq_true rfl) (show 1 ≤ am_P0.2.2.1 197 from by decide +kernel) rfl (am_recv_ok hS667.fs) rfl rfl ?_
          refine am_e2 (v := 39) hi_197_0 rfl ?_
          refine mm_20 (v := .int (f 24)) hS667 hi_197_1 rfl ?_
          refine am_e2 (v := 39) hi_197_4 rfl ?_
          refine mm_20 (v := .ref 59) hS667 hi_197_5 rfl ?_
          refine am_e2 (v := 39) hi_197_8 rfl ?_
          refine mm_20 (v := .int (f 32)) hS667 hi_197_9 rfl ?_
          refine mm_25 hS667 ma_34 hi_197_12 (by decide) (by omega) (by omega) ?_
          show am_E _ _ _ _ _ (.int (g'655 34 (f 32).toNatClampNeg) :: _) _ _
          rw [show g'655 34 = g'643 34 from h660_ 34 (by decide), show g'643 34 = g'626 34 from h648_ 34 (by decide), show g'626 34 = g 34 from h634_ 34 (by decide)]
          show am_E _ _ _ _ [some (.ref 39)] [.int (g 34 (f 32).toNatClampNeg), .int (f 24)] _ _
          have r680 : 0 ≤ (g 34 (f 32).toNatClampNeg).toInt := by
            have h := RJ.ba hR679 (f 32).toNatClampNeg
            rw [show g'655 34 = g'643 34 from h660_ 34 (by decide), show g'643 34 = g'626 34 from h648_ 34 (by decide), show g'626 34 = g 34 from h634_ 34 (by decide)] at h
            exact h
          have r681 : (g 34 (f 32).toNatClampNeg).toInt ≤ 2147483647 := i32_le _
          obtain ⟨z682, hz682, tz682⟩ := am_subI (x := f 24) (y := g 34 (f 32).toNatClampNeg) (m := (f 24).toInt) (n := (g 34 (f 32).toNatClampNeg).toInt) rfl rfl (by omega) (by omega)
          refine am_e10 (z := z682) hi_197_13 hz682 ?_
          refine am_e33 hi_197_14 ?_
          show am_E _ _ _ _ [some (.ref 39), some (.int on), some (.int tw), some (.int th), none, none, none, none] [.int z682] _ _
          refine am_e3 (ls' := [some (.ref 39), some (.int on), some (.int tw), some (.int th), some (.int z682), none, none, none]) hi_257_23 (Nat.le_of_ble_eq_true rfl) rfl ?_
          refine am_e2 (v := 39) hi_257_25 rfl ?_
          refine am_e0 hi_257_26 ?_
          refine am_e0 hi_257_27 ?_
          refine am_e1 (v := on) hi_257_28 rfl ?_
          refine am_e32n (as := [.ref 39, .int 4, .int 1, .int on]) (la := [some (.ref 39), some (.int 4), some (.int 1), some (.int on), none]) (rest := []) hi_257_29 (am_hd0 (M := 257) (by decide) 29) (Nat.le_of_ble_eq_true rfl) (Nat.le_of_ble_eq_true rfl) (show 4 ≤ am_P0.2.2.1 254 from by decide +kernel) rfl (am_recv_ok hS667.fs) rfl rfl (ct_hide (d := (d + 4)) hS667 hR679 (by decide)  (by show (0 : Int) ≤ (f 32).toInt; omega) (by show (f 32).toInt ≤ (63 : Int); omega) (by show (f 53).toInt ≤ (4096 : Int); omega) (by show (0 : Int) ≤ (f 24).toInt; omega) (by show (f 24).toInt ≤ (16000 : Int); omega) (by show (0 : Int) ≤ (4 : Int); omega) (by show (4 : Int) ≤ (16 : Int); omega) (by show (0 : Int) ≤ (f 8).toInt; omega)) ?_
          rintro v683 S684 (⟨a685, b686, l687, y688, g'689, hv690, hS691, hR695, h692, h693, h694⟩)
          subst hv690
          have h692_ : l687.toInt = (f 24).toInt + (4 : Int) := h692
          have h693_ : ∀ j, j ∉ [25, 26, 27, 28, 29, 30, 58] → g'689 j = g'655 j := h693
          have h694_ : (0 : Int) ≤ a685.toInt := h694
          replace hS691 : MS S0 S684 (upd (upd (upd (upd (upd (upd (upd (upd (upd (upd f 4 z664) 5 y665) 8 a685) 9 b686) 15 z0) 24 l687) 31 y688) 62 o623) 68 z653) 75 m625) g'689 := hS691
          have hR695_ : RJ (upd (upd (upd (upd (upd (upd (upd (upd (upd (upd f 4 z664) 5 y665) 8 a685) 9 b686) 15 z0) 24 l687) 31 y688) 62 o623) 68 z653) 75 m625) g'689 gs bc [] 0 (s642.toNatClampNeg :: []) := hR695
          show am_E _ _ _ _ [some (.ref 39), some (.int on), some (.int tw), some (.int th), some (.int z682), none, none, none] [] _ _
          refine am_e2 (v := 39) hi_257_32 rfl ?_
          refine am_e0 hi_257_33 ?_
          refine am_e1 (v := z682) hi_257_35 rfl ?_
          refine am_e0 hi_257_37 ?_
          refine am_e1 (v := on) hi_257_38 rfl ?_
          refine am_e32n (as := [.ref 39, .int 42, .int z682, .int 0, .int on]) (la := [some (.ref 39), some (.int 42), some (.int z682), some (.int 0), some (.int on)]) (rest := []) hi_257_39 (am_hd0 (M := 257) (by decide) 39) (Nat.le_of_ble_eq_true rfl) (Nat.le_of_ble_eq_true rfl) (show 5 ≤ am_P0.2.2.1 189 from by decide +kernel) rfl (am_recv_ok hS691.fs) rfl rfl (ct_put (d := (d + 6)) hS691 hR695_  (by show (0 : Int) ≤ (f 32).toInt; omega) (by show (f 32).toInt ≤ (63 : Int); omega) (by show (f 53).toInt ≤ (4096 : Int); omega) (by show (0 : Int) ≤ z653.toInt; omega) (by show z653.toInt ≤ (65534 : Int); omega)) ?_
          rintro v696 S697 (⟨z698, r699, g'700, hv701, hS702, hR706, h703, h704, h705⟩)
          subst hv701
          have h703_ : z698.toInt = z653.toInt + 1 := h703
          have h704_ : r699.toInt = z653.toInt := h704
          have h705_ : ∀ j, j ∉ [60, 69, 70, 71, 72, 73] → g'700 j = g'689 j := h705
          replace hS702 : MS S0 S697 (upd (upd (upd (upd (upd (upd (upd (upd (upd (upd f 4 z664) 5 y665) 8 a685) 9 b686) 15 z0) 24 l687) 31 y688) 62 o623) 68 z698) 75 m625) g'700 := hS702
          have hR706_ : RJ (upd (upd (upd (upd (upd (upd (upd (upd (upd (upd f 4 z664) 5 y665) 8 a685) 9 b686) 15 z0) 24 l687) 31 y688) 62 o623) 68 z698) 75 m625) g'700 gs bc [] 0 (z653.toNatClampNeg :: (s642.toNatClampNeg :: [])) := hR706
          show am_E _ _ _ _ [some (.ref 39), some (.int on), some (.int tw), some (.int th), some (.int z682), none, none, none] [.int r699] _ _
          refine am_e6i hi_257_42 ?_
          refine am_e2 (v := 39) hi_257_43 rfl ?_
          refine am_e32n (as := [.ref 39]) (la := [some (.ref 39)]) (rest := []) hi_257_44 (am_hd0 (M := 257) (by decide) 44) (Nat.le_of_ble_eq_true rfl) (Nat.le_of_ble_eq_true rfl) (show 1 ≤ am_P0.2.2.1 210 from by decide +kernel) rfl (am_recv_ok hS702.fs) rfl rfl (ct_here (d := (d + 6)) hS702 hR706_  (by show (0 : Int) ≤ (f 32).toInt; omega) (by show (f 32).toInt ≤ (63 : Int); omega) (by show (f 53).toInt ≤ (4096 : Int); omega) (by show (0 : Int) ≤ z698.toInt; omega) (by show z698.toInt ≤ (65534 : Int); omega)) ?_
          rintro v707 S708 (⟨r709, hv710, hS711, h712, h713⟩)
          subst hv710
          have h712_ : (0 : Int) ≤ r709.toInt := h712
          have h713_ : r709.toInt ≤ z698.toInt := h713
          show am_E _ _ _ _ [some (.ref 39), some (.int on), some (.int tw), some (.int th), some (.int z682), none, none, none] [.int r709] _ _
          refine am_e3 (ls' := [some (.ref 39), some (.int on), some (.int tw), some (.int th), some (.int z682), some (.int r709), none, none]) hi_257_47 (Nat.le_of_ble_eq_true rfl) rfl ?_
          refine am_e2 (v := 39) hi_257_49 rfl ?_
          refine am_e0 hi_257_50 ?_
          refine am_e0 hi_257_52 ?_
          refine am_e0 hi_257_53 ?_
          refine am_e1 (v := on) hi_257_54 rfl ?_
          refine am_e32n (as := [.ref 39, .int 34, .int 0, .int 0, .int on]) (la := [some (.ref 39), some (.int 34), some (.int 0), some (.int 0), some (.int on)]) (rest := []) hi_257_55 (am_hd0 (M := 257) (by decide) 55) (Nat.le_of_ble_eq_true rfl) (Nat.le_of_ble_eq_true rfl) (show 5 ≤ am_P0.2.2.1 189 from by decide +kernel) rfl (am_recv_ok hS711.fs) rfl rfl (ct_put (d := (d + 6)) hS711 hR706_  (by show (0 : Int) ≤ (f 32).toInt; omega) (by show (f 32).toInt ≤ (63 : Int); omega) (by show (f 53).toInt ≤ (4096 : Int); omega) (by show (0 : Int) ≤ z698.toInt; omega) (by show z698.toInt ≤ (65534 : Int); omega)) ?_
          rintro v715 S716 (⟨z717, r718, g'719, hv720, hS721, hR725, h722, h723, h724⟩)
          subst hv720
          have h722_ : z717.toInt = z698.toInt + 1 := h722
          have h723_ : r718.toInt = z698.toInt := h723
          have h724_ : ∀ j, j ∉ [60, 69, 70, 71, 72, 73] → g'719 j = g'700 j := h724
          replace hS721 : MS S0 S716 (upd (upd (upd (upd (upd (upd (upd (upd (upd (upd f 4 z664) 5 y665) 8 a685) 9 b686) 15 z0) 24 l687) 31 y688) 62 o623) 68 z717) 75 m625) g'719 := hS721
          have hR725_ : RJ (upd (upd (upd (upd (upd (upd (upd (upd (upd (upd f 4 z664) 5 y665) 8 a685) 9 b686) 15 z0) 24 l687) 31 y688) 62 o623) 68 z717) 75 m625) g'719 gs bc [] 0 (z698.toNatClampNeg :: (z653.toNatClampNeg :: (s642.toNatClampNeg :: []))) := hR725
          show am_E _ _ _ _ [some (.ref 39), some (.int on), some (.int tw), some (.int th), some (.int z682), some (.int r709), none, none] [.int r718] _ _
          refine am_e6i hi_257_58 ?_
          refine am_e2 (v := 39) hi_257_59 rfl ?_
          refine am_e0 hi_257_60 ?_
          refine am_e1 (v := z682) hi_257_62 rfl ?_
          refine am_e1 (v := tw) hi_257_64 rfl ?_
          refine am_e1 (v := th) hi_257_65 rfl ?_
          refine am_e32n (as := [.ref 39, .int 43, .int z682, .int tw, .int th]) (la := [some (.ref 39), some (.int 43), some (.int z682), some (.int tw), some (.int th)]) (rest := []) hi_257_66 (am_hd0 (M := 257) (by decide) 66) (Nat.le_of_ble_eq_true rfl) (Nat.le_of_ble_eq_true rfl) (show 5 ≤ am_P0.2.2.1 189 from by decide +kernel) rfl (am_recv_ok hS721.fs) rfl rfl (ct_put (d := (d + 6)) hS721 hR725_  (by show (0 : Int) ≤ (f 32).toInt; omega) (by show (f 32).toInt ≤ (63 : Int); omega) (by show (f 53).toInt ≤ (4096 : Int); omega) (by show (0 : Int) ≤ z717.toInt; omega) (by show z717.toInt ≤ (65534 : Int); omega)) ?_
          rintro v726 S727 (⟨z728, r729, g'730, hv731, hS732, hR736, h733, h734, h735⟩)
          subst hv731
          have h733_ : z728.toInt = z717.toInt + 1 := h733
          have h734_ : r729.toInt = z717.toInt := h734
          have h735_ : ∀ j, j ∉ [60, 69, 70, 71, 72, 73] → g'730 j = g'719 j := h735
          replace hS732 : MS S0 S727 (upd (upd (upd (upd (upd (upd (upd (upd (upd (upd f 4 z664) 5 y665) 8 a685) 9 b686) 15 z0) 24 l687) 31 y688) 62 o623) 68 z728) 75 m625) g'730 := hS732
          have hR736_ : RJ (upd (upd (upd (upd (upd (upd (upd (upd (upd (upd f 4 z664) 5 y665) 8 a685) 9 b686) 15 z0) 24 l687) 31 y688) 62 o623) 68 z728) 75 m625) g'730 gs bc [] 0 (z717.toNatClampNeg :: (z698.toNatClampNeg :: (z653.toNatClampNeg :: (s642.toNatClampNeg :: [])))) := hR736
          show am_E _ _ _ _ [some (.ref 39), some (.int on), some (.int tw), some (.int th), some (.int z682), some (.int r709), none, none] [.int r729] _ _
          refine am_e6i hi_257_69 ?_
          refine am_e2 (v := 39) hi_257_70 rfl ?_
          refine am_e0 hi_257_71 ?_
          refine am_e1 (v := z682) hi_257_73 rfl ?_
          refine am_e0 hi_257_75 ?_
          refine am_e0 hi_257_76 ?_
          refine am_e32n (as := [.ref 39, .int 44, .int z682, .int 0, .int 0]) (la := [some (.ref 39), some (.int 44), some (.int z682), some (.int 0), some (.int 0)]) (rest := []) hi_257_77 (am_hd0 (M := 257) (by decide) 77) (Nat.le_of_ble_eq_true rfl) (Nat.le_of_ble_eq_true rfl) (show 5 ≤ am_P0.2.2.1 189 from by decide +kernel) rfl (am_recv_ok hS732.fs) rfl rfl (ct_put (d := (d + 6)) hS732 hR736_  (by show (0 : Int) ≤ (f 32).toInt; omega) (by show (f 32).toInt ≤ (63 : Int); omega) (by show (f 53).toInt ≤ (4096 : Int); omega) (by show (0 : Int) ≤ z728.toInt; omega) (by show z728.toInt ≤ (65534 : Int); omega)) ?_
          rintro v737 S738 (⟨z739, r740, g'741, hv742, hS743, hR747, h744, h745, h746⟩)
          subst hv742
          have h744_ : z739.toInt = z728.toInt + 1 := h744
          have h745_ : r740.toInt = z728.toInt := h745
          have h746_ : ∀ j, j ∉ [60, 69, 70, 71, 72, 73] → g'741 j = g'730 j := h746
          replace hS743 : MS S0 S738 (upd (upd (upd (upd (upd (upd (upd (upd (upd (upd f 4 z664) 5 y665) 8 a685) 9 b686) 15 z0) 24 l687) 31 y688) 62 o623) 68 z739) 75 m625) g'741 := hS743
          have hR747_ : RJ (upd (upd (upd (upd (upd (upd (upd (upd (upd (upd f 4 z664) 5 y665) 8 a685) 9 b686) 15 z0) 24 l687) 31 y688) 62 o623) 68 z739) 75 m625) g'741 gs bc [] 0 (z728.toNatClampNeg :: (z717.toNatClampNeg :: (z698.toNatClampNeg :: (z653.toNatClampNeg :: (s642.toNatClampNeg :: []))))) := hR747
          show am_E _ _ _ _ [some (.ref 39), some (.int on), some (.int tw), some (.int th), some (.int z682), some (.int r709), none, none] [.int r740] _ _
          refine am_e3 (ls' := [some (.ref 39), some (.int on), some (.int tw), some (.int th), some (.int z682), some (.int r709), some (.int r740), none]) hi_257_80 (Nat.le_of_ble_eq_true rfl) rfl ?_
          refine am_e2 (v := 39) hi_257_82 rfl ?_
          refine am_e0 hi_257_83 ?_
          refine am_e32n (as := [.ref 39, .int 1]) (la := [some (.ref 39), some (.int 1)]) (rest := []) hi_257_84 (am_hd0 (M := 257) (by decide) 84) (Nat.le_of_ble_eq_true rfl) (Nat.le_of_ble_eq_true rfl) (show 2 ≤ am_P0.2.2.1 177 from by decide +kernel) rfl (am_recv_ok hS743.fs) rfl rfl (ct_beginBlock2 (d := (d + 6)) hS743 hR747_ (by decide)  (by show (0 : Int) ≤ (f 37).toInt; omega) (by show (f 37).toInt ≤ (127 : Int); omega) (by show (0 : Int) ≤ l687.toInt; omega) (by show (0 : Int) ≤ (f 44).toInt; omega) (by show (f 44).toInt ≤ z664.toInt; omega) (by show (0 : Int) ≤ (f 48).toInt; omega)) ?_
          rintro v748 S749 (⟨z750, g'751, hv752, hS753, hR757, h754, h755, h756⟩)
          subst hv752
          have h754_ : z750.toInt = (f 37).toInt + 1 := h754
          have h755_ : ∀ j, j ∉ [38, 39, 40, 41, 42, 43] → g'751 j = g'741 j := h755
          have h756_ : g'751 38 = upd (g'741 38) (f 37).toNatClampNeg l687 := h756
          replace hS753 : MS S0 S749 (upd (upd (upd (upd (upd (upd (upd (upd (upd (upd (upd f 4 z664) 5 y665) 8 a685) 9 b686) 15 z0) 24 l687) 31 y688) 37 z750) 62 o623) 68 z739) 75 m625) g'751 := hS753
          have hR757_ : RJ (upd (upd (upd (upd (upd (upd (upd (upd (upd (upd (upd f 4 z664) 5 y665) 8 a685) 9 b686) 15 z0) 24 l687) 31 y688) 37 z750) 62 o623) 68 z739) 75 m625) g'751 gs ([] :: bc) [] 0 (z728.toNatClampNeg :: (z717.toNatClampNeg :: (z698.toNatClampNeg :: (z653.toNatClampNeg :: (s642.toNatClampNeg :: []))))) := hR757
          show am_E _ _ _ _ [some (.ref 39), some (.int on), some (.int tw), some (.int th), some (.int z682), some (.int r709), some (.int r740), none] [] _ _
          refine am_e0 hi_257_87 ?_
          refine am_e3 (ls' := [some (.ref 39), some (.int on), some (.int tw), some (.int th), some (.int z682), some (.int r709), some (.int r740), some (.int 0)]) hi_257_88 (Nat.le_of_ble_eq_true rfl) rfl ?_
          refine fr_each (d := (d + 2)) (f := (upd (upd (upd (upd (upd (upd (upd (upd (upd (upd (upd f 4 z664) 5 y665) 8 a685) 9 b686) 15 z0) 24 l687) 31 y688) 37 z750) 62 o623) 68 z739) 75 m625)) (g := g'751) (w := on) (m := tw) (x3 := th) (c4 := z682) (h5 := r709) (q6 := r740)  (by show (0 : Int) ≤ (f 32).toInt; omega) (by show (f 32).toInt ≤ (63 : Int); omega) (by show (f 53).toInt ≤ (4096 : Int); omega) (by show (0 : Int) ≤ l687.toInt; omega) (by show l687.toInt + tw.toInt ≤ 16383; omega) (by show (0 : Int) ≤ on.toInt; omega) (by show on.toInt + 2 * tw.toInt ≤ 16000; omega) (by show (0 : Int) ≤ a685.toInt; omega) ?_ ((tw.toInt - (0 : Int)).toNat + 1) _ 0 a685 b686 l687 y688 _ hS753 hR757_ (fun _ _ => rfl) (by show (0 : Int) ≤ (0 : Int); omega) (by show (0 : Int) ≤ tw.toInt; omega) (by show l687.toInt = l687.toInt + (0 : Int); omega) (by show (0 : Int) ≤ a685.toInt; omega) (by show tw.toInt - (0 : Int) < _; omega)
          · intro S763 i758 a759 b760 l761 y762 gx766 hS764 hR765 hg767 h768 h769
            replace hS764 : MS S0 S763 (upd (upd (upd (upd (upd (upd (upd (upd (upd (upd (upd f 4 z664) 5 y665) 8 a759) 9 b760) 15 z0) 24 l761) 31 y762) 37 z750) 62 o623) 68 z739) 75 m625) gx766 := hS764
            have h768_ : l761.toInt = l687.toInt + tw.toInt := h768
            have h769_ : (0 : Int) ≤ a759.toInt := h769
            have hR765_ : RJ (upd (upd (upd (upd (upd (upd (upd (upd (upd (upd (upd f 4 z664) 5 y665) 8 a759) 9 b760) 15 z0) 24 l761) 31 y762) 37 z750) 62 o623) 68 z739) 75 m625) gx766 gs ([] :: bc) [] 0 (z728.toNatClampNeg :: (z717.toNatClampNeg :: (z698.toNatClampNeg :: (z653.toNatClampNeg :: (s642.toNatClampNeg :: []))))) := hR765
            show am_E _ _ _ _ [some (.ref 39), some (.int on), some (.int tw), some (.int th), some (.int z682), some (.int r709), some (.int r740), some (.int i758)] [] _ _
            refine am_e2 (v := 39) hi_257_129 rfl ?_
            refine am_e0 hi_257_130 ?_
            refine am_e1 (v := r740) hi_257_132 rfl ?_
            refine am_e1 (v := r709) hi_257_134 rfl ?_
            refine am_e1 (v := z682) hi_257_136 rfl ?_
            refine am_e32n (as := [.ref 39, .int 15, .int r740, .int r709, .int z682]) (la := [some (.ref 39), some (.int 15), some (.int r740), some (.int r709), some (.int z682)]) (rest := []) hi_257_138 (am_hd0 (M := 257) (by decide) 138) (Nat.le_of_ble_eq_true rfl) (Nat.le_of_ble_eq_true rfl) (show 5 ≤ am_P0.2.2.1 179 from by decide +kernel) rfl (am_recv_ok hS764.fs) rfl rfl (ct_pile (d := (d + 6)) hS764 hR765_ (mj_e_b (by decide) (by omega) (by show r740.toInt < z739.toInt; omega)) (by show (0 : Int) ≤ (f 10).toInt; omega) (by show (f 10).toInt ≤ (65535 : Int); omega)) ?_
            rintro v770 S771 (⟨z772, g'773, hv774, hS775, hR778, h776, h777⟩)
            subst hv774
            have h776_ : z772.toInt = (f 10).toInt + 1 := h776
            have h777_ : ∀ j, j ∉ [11, 12, 13, 14] → g'773 j = gx766 j := h777
            replace hS775 : MS S0 S771 (upd (upd (upd (upd (upd (upd (upd (upd (upd (upd (upd (upd f 4 z664) 5 y665) 8 a759) 9 b760) 10 z772) 15 z0) 24 l761) 31 y762) 37 z750) 62 o623) 68 z739) 75 m625) g'773 := hS775
            have hR778_ : RJ (upd (upd (upd (upd (upd (upd (upd (upd (upd (upd (upd (upd f 4 z664) 5 y665) 8 a759) 9 b760) 10 z772) 15 z0) 24 l761) 31 y762) 37 z750) 62 o623) 68 z739) 75 m625) g'773 (((15 : Int), r740.toInt, r709.toInt, z682.toInt, []) :: gs) ([] :: bc) [] 0 (z728.toNatClampNeg :: (z717.toNatClampNeg :: (z698.toNatClampNeg :: (z653.toNatClampNeg :: (s642.toNatClampNeg :: []))))) := hR778
            show am_E _ _ _ _ [some (.ref 39), some (.int on), some (.int tw), some (.int th), some (.int z682), some (.int r709), some (.int r740), some (.int i758)] [] _ _
            refine am_e2 (v := 39) hi_257_141 rfl ?_
            refine am_e32w (as := [.ref 39]) (la := [some (.ref 39)]) (rest := []) hi_257_142 (am_hd0 (M := 257) (by decide) 142) (Nat.le_of_ble_eq_true rfl) (Nat.le_of_ble_eq_true rfl) (show 1 ≤ am_P0.2.2.1 178 from by decide +kernel) rfl (am_recv_ok hS775.fs) rfl rfl ?_
            refine am_e2 (v := 39) hi_178_0 rfl ?_
            refine am_e0 hi_178_1 ?_
            refine am_e0 hi_178_2 ?_
            refine am_e0 hi_178_3 ?_
            refine am_e0 hi_178_4 ?_
            refine am_e32n (as := [.ref 39, .int 1, .int 0, .int 0, .int 0]) (la := [some (.ref 39), some (.int 1), some (.int 0), some (.int 0), some (.int 0)]) (rest := []) hi_178_5 (am_hd0 (M := 178) (by decide) 5) (Nat.le_of_ble_eq_true rfl) (Nat.le_of_ble_eq_true rfl) (show 5 ≤ am_P0.2.2.1 179 from by decide +kernel) rfl (am_recv_ok hS775.fs) rfl rfl (ct_pile (d := (d + 5)) hS775 hR778_ (mj_e_plain (by decide)) (by show (0 : Int) ≤ z772.toInt; omega) (by show z772.toInt ≤ (65535 : Int); omega)) ?_
            rintro v779 S780 (⟨z781, g'782, hv783, hS784, hR787, h785, h786⟩)
            subst hv783
            have h785_ : z781.toInt = z772.toInt + 1 := h785
            have h786_ : ∀ j, j ∉ [11, 12, 13, 14] → g'782 j = g'773 j := h786
            replace hS784 : MS S0 S780 (upd (upd (upd (upd (upd (upd (upd (upd (upd (upd (upd (upd f 4 z664) 5 y665) 8 a759) 9 b760) 10 z781) 15 z0) 24 l761) 31 y762) 37 z750) 62 o623) 68 z739) 75 m625) g'782 := hS784
            have hR787_ : RJ (upd (upd (upd (upd (upd (upd (upd (upd (upd (upd (upd (upd f 4 z664) 5 y665) 8 a759) 9 b760) 10 z781) 15 z0) 24 l761) 31 y762) 37 z750) 62 o623) 68 z739) 75 m625) g'782 (((1 : Int), (0 : Int), (0 : Int), (0 : Int), []) :: (((15 : Int), r740.toInt, r709.toInt, z682.toInt, []) :: gs)) ([] :: bc) [] 0 (z728.toNatClampNeg :: (z717.toNatClampNeg :: (z698.toNatClampNeg :: (z653.toNatClampNeg :: (s642.toNatClampNeg :: []))))) := hR787
            show am_E _ _ _ _ [some (.ref 39)] [] _ _
            refine am_e35 hi_178_8 ?_
            show am_E _ _ _ _ [some (.ref 39), some (.int on), some (.int tw), some (.int th), some (.int z682), some (.int r709), some (.int r740), some (.int i758)] [] _ _
            refine am_e35 hi_257_145 ?_
            show am_E _ _ _ _ [some (.ref 39), some (.int 14), some (.int on), some (.int tw), some (.int th)] [] _ _
            refine am_e18 hi_180_270 ?_
            refine am_e35 hi_180_371 ?_
            have q1 : mg_p1 (((1 : Int), (0 : Int), (0 : Int), (0 : Int), []) :: (((15 : Int), r740.toInt, r709.toInt, z682.toInt, []) :: gs)) = 0 + (0 + (mg_p1 gs)) := rfl
            have q2 : mg_p2 (((1 : Int), (0 : Int), (0 : Int), (0 : Int), []) :: (((15 : Int), r740.toInt, r709.toInt, z682.toInt, []) :: gs)) = 0 + (0 + (mg_p2 gs)) := rfl
            have q3 : mg_p3 (((1 : Int), (0 : Int), (0 : Int), (0 : Int), []) :: (((15 : Int), r740.toInt, r709.toInt, z682.toInt, []) :: gs)) = 1 + (1 + (mg_p3 gs)) := rfl
            have q4 : mg_p4 (((1 : Int), (0 : Int), (0 : Int), (0 : Int), []) :: (((15 : Int), r740.toInt, r709.toInt, z682.toInt, []) :: gs)) = 0 + (0 + (mg_p4 gs)) := rfl
            refine ⟨_, _, _, ([] :: bc), rfl, hS784, Or.inl ⟨⟨(RJ.fewer (pj' := []) hR787_ (fun _ h => nomatch h)), ?_, ?_⟩, rfl, ?_⟩⟩
            · exact (⟨⟨(show mg_k 1 from by decide), (show (0 : Int) ≤ z0.toInt from by omega), (show 0 ≤ (f 20).toInt from by omega), (show 1 ≤ z750.toInt from by omega), (show 0 ≤ (f 32).toInt from by omega), (show (f 32).toInt ≤ y665.toInt from by omega), (show y665.toInt ≤ 48 from by omega), (show z750.toInt ≤ 2 * (y665.toInt) + 1 from by omega), trivial⟩, ⟨⟨(show mg_k 15 from by decide), (show (0 : Int) ≤ z0.toInt + 0 from by omega), (show 0 ≤ (f 20).toInt from by omega), (show 1 ≤ z750.toInt + 0 from by omega), (show 0 ≤ (f 32).toInt + 0 from by omega), (show (f 32).toInt + 0 ≤ y665.toInt + 0 from by omega), (show y665.toInt + 0 ≤ 48 from by omega), (show z750.toInt + 0 ≤ 2 * (y665.toInt + 0) + 0 from by omega), (mg_pa13 (l1 := l687) hR (by show g'782 34 = g 34; rw [show g'782 34 = g'773 34 from h786_ 34 (by decide), show g'773 34 = gx766 34 from h777_ 34 (by decide), show gx766 34 = g'751 34 from hg767 34 (by decide), show g'751 34 = g'741 34 from h755_ 34 (by decide), show g'741 34 = g'730 34 from h746_ 34 (by decide), show g'730 34 = g'719 34 from h735_ 34 (by decide), show g'719 34 = g'700 34 from h724_ 34 (by decide), show g'700 34 = g'689 34 from h705_ 34 (by decide), show g'689 34 = g'655 34 from h693_ 34 (by decide), show g'655 34 = g'643 34 from h660_ 34 (by decide), show g'643 34 = g'626 34 from h648_ 34 (by decide), show g'626 34 = g 34 from h634_ 34 (by decide)]) (by show g'782 38 = upd (g 38) (f 37).toNatClampNeg l687; rw [show g'782 38 = g'773 38 from h786_ 38 (by decide), show g'773 38 = gx766 38 from h777_ 38 (by decide), show gx766 38 = g'751 38 from hg767 38 (by decide), h756_, show g'741 38 = g'730 38 from h746_ 38 (by decide), show g'730 38 = g'719 38 from h735_ 38 (by decide), show g'719 38 = g'700 38 from h724_ 38 (by decide), show g'700 38 = g'689 38 from h705_ 38 (by decide), show g'689 38 = g'655 38 from h693_ 38 (by decide), show g'655 38 = g'643 38 from h660_ 38 (by decide), show g'643 38 = g'626 38 from h648_ 38 (by decide), show g'626 38 = g 38 from h634_ 38 (by decide)]) (by show (f 32).toInt + 0 = (f 32).toInt; omega) (by omega) (by show z750.toInt + 0 = (f 37).toInt + 1; omega) (by show z682.toInt = (f 24).toInt - (g 34 (f 32).toNatClampNeg).toInt; omega) (by omega) (by show (f 24).toInt ≤ l687.toInt; omega))⟩, mg_cast (mg_good_ext _ _ _ _ _ _ (fun i _ => by show g'782 34 i = g 34 i; rw [show g'782 34 = g'773 34 from h786_ 34 (by decide), show g'773 34 = gx766 34 from h777_ 34 (by decide), show gx766 34 = g'751 34 from hg767 34 (by decide), show g'751 34 = g'741 34 from h755_ 34 (by decide), show g'741 34 = g'730 34 from h746_ 34 (by decide), show g'730 34 = g'719 34 from h735_ 34 (by decide), show g'719 34 = g'700 34 from h724_ 34 (by decide), show g'700 34 = g'689 34 from h705_ 34 (by decide), show g'689 34 = g'655 34 from h693_ 34 (by decide), show g'655 34 = g'643 34 from h660_ 34 (by decide), show g'643 34 = g'626 34 from h648_ 34 (by decide), show g'626 34 = g 34 from h634_ 34 (by decide)]) (fun i hi => by show g'782 38 i = g 38 i; rw [show g'782 38 = g'773 38 from h786_ 38 (by decide), show g'773 38 = gx766 38 from h777_ 38 (by decide), show gx766 38 = g'751 38 from hg767 38 (by decide), h756_, show g'741 38 = g'730 38 from h746_ 38 (by decide), show g'730 38 = g'719 38 from h735_ 38 (by decide), show g'719 38 = g'700 38 from h724_ 38 (by decide), show g'700 38 = g'689 38 from h705_ 38 (by decide), show g'689 38 = g'655 38 from h693_ 38 (by decide), show g'655 38 = g'643 38 from h660_ 38 (by decide), show g'643 38 = g'626 38 from h648_ 38 (by decide), show g'626 38 = g 38 from h634_ 38 (by decide)]; exact upd_ne (by rw [cl_toNat]; omega)) (fun i _ => by show g'782 23 i = g 23 i; rw [show g'782 23 = g'773 23 from h786_ 23 (by decide), show g'773 23 = gx766 23 from h777_ 23 (by decide), show gx766 23 = g'751 23 from hg767 23 (by decide), show g'751 23 = g'741 23 from h755_ 23 (by decide), show g'741 23 = g'730 23 from h746_ 23 (by decide), show g'730 23 = g'719 23 from h735_ 23 (by decide), show g'719 23 = g'700 23 from h724_ 23 (by decide), show g'700 23 = g'689 23 from h705_ 23 (by decide), show g'689 23 = g'655 23 from h693_ 23 (by decide), show g'655 23 = g'643 23 from h660_ 23 (by decide), show g'643 23 = g'626 23 from h648_ 23 (by decide), show g'626 23 = g 23 from h634_ 23 (by decide)]) hrest) (by show (f 15).toInt + -1 = z0.toInt + 0 + 0; omega) (by show (f 20).toInt = (f 20).toInt; omega) (by show (f 37).toInt + 0 = z750.toInt + 0 + -1; omega) (by show (f 32).toInt + 0 = (f 32).toInt + 0 + 0; omega) (by show (f 5).toInt + 0 = y665.toInt + 0 + -1; omega)⟩⟩ : mg_good (g'782 34) (g'782 38) (g'782 23) (((1 : Int), (0 : Int), (0 : Int), (0 : Int), []) :: (((15 : Int), r740.toInt, r709.toInt, z682.toInt, []) :: gs)) (z0.toInt) ((f 20).toInt) (z750.toInt) ((f 32).toInt) (y665.toInt))
            · exact ⟨(by show 0 ≤ z664.toInt; omega), (by show z664.toInt ≤ (f 0).toInt; omega), (by show (f 0).toInt ≤ 512; omega), (by show 0 ≤ l761.toInt; omega), (by show l761.toInt + (f 20).toInt + mg_p1 (((1 : Int), (0 : Int), (0 : Int), (0 : Int), []) :: (((15 : Int), r740.toInt, r709.toInt, z682.toInt, []) :: gs)) ≤ 4 * z664.toInt; omega), (by show (f 20).toInt ≤ z664.toInt; omega), (by show z0.toInt + mg_p2 (((1 : Int), (0 : Int), (0 : Int), (0 : Int), []) :: (((15 : Int), r740.toInt, r709.toInt, z682.toInt, []) :: gs)) ≤ z664.toInt; omega), (by show mg_p3 (((1 : Int), (0 : Int), (0 : Int), (0 : Int), []) :: (((15 : Int), r740.toInt, r709.toInt, z682.toInt, []) :: gs)) ≤ 20 * z664.toInt + 20; omega), (by show 0 ≤ z739.toInt; omega), (by show z739.toInt + 3 * (f 20).toInt + mg_p4 (((1 : Int), (0 : Int), (0 : Int), (0 : Int), []) :: (((15 : Int), r740.toInt, r709.toInt, z682.toInt, []) :: gs)) ≤ 60 * z664.toInt + 60; omega), (by show 0 ≤ o623.toInt; omega), (by show o623.toInt + 64 * mj_n (g'782 16) z0.toNatClampNeg 3 ≤ 64 * z664.toInt; rw [show g'782 16 = g'773 16 from h786_ 16 (by decide), show g'773 16 = gx766 16 from h777_ 16 (by decide), show gx766 16 = g'751 16 from hg767 16 (by decide), show g'751 16 = g'741 16 from h755_ 16 (by decide), show g'741 16 = g'730 16 from h746_ 16 (by decide), show g'730 16 = g'719 16 from h735_ 16 (by decide), show g'719 16 = g'700 16 from h724_ 16 (by decide), show g'700 16 = g'689 16 from h705_ 16 (by decide), show g'689 16 = g'655 16 from h693_ 16 (by decide), show g'655 16 = g'643 16 from h660_ 16 (by decide), show g'643 16 = g'626 16 from h648_ 16 (by decide)]; omega), (by show 0 ≤ (f 44).toInt; omega), (by show (f 44).toInt ≤ z664.toInt; omega), (by show 0 ≤ (f 48).toInt; omega), (by show (f 48).toInt ≤ z664.toInt; omega), (by show 1 ≤ (f 53).toInt; omega), (by show (f 53).toInt ≤ z664.toInt + 1; omega), (by show 0 ≤ (f 19).toInt; omega), (by show (f 19).toInt ≤ 600; omega), (by show 0 ≤ (f 6).toInt; omega), (by show 0 ≤ a759.toInt; omega)⟩
            · show 100 * ((f 0).toInt - z664.toInt) + mg_p3 (((1 : Int), (0 : Int), (0 : Int), (0 : Int), []) :: (((15 : Int), r740.toInt, r709.toInt, z682.toInt, []) :: gs)) < 100 * ((f 0).toInt - (f 4).toInt) + (1 + mg_p3 gs); omega
        · subst hv675
          have h677_ : (0 : Int) ≤ a673.toInt := h677
          replace hS676 : MS S0 S663 (upd (upd (upd (upd (upd (upd (upd f 6 a673) 7 b674) 10 0) 15 z0) 62 o623) 68 z653) 75 m625) g'655 := hS676
          have hR788 := rj_clear0 hR661_
          have hR789 : RJ (upd (upd (upd (upd (upd (upd (upd f 6 a673) 7 b674) 10 0) 15 z0) 62 o623) 68 z653) 75 m625) g'655 [] bc [] 0 [] := hR788
          show am_E _ _ _ _ [some (.ref 39), some (.int on), some (.int tw), some (.int th), none, none, none, none] [.int 0] _ _
          refine am_e12f hi_257_15 (by decide) ?_
          refine am_e35 hi_257_18 ?_
          show am_E _ _ _ _ [some (.ref 39), some (.int 14), some (.int on), some (.int tw), some (.int th)] [] _ _
          refine am_e18 hi_180_270 ?_
          refine am_e35 hi_180_371 ?_
          have hRc := rj_clear0 hR789
          refine ⟨_, _, [], _, rfl, hS676, Or.inr ⟨hRc, rfl, (by show 0 ≤ (f 4).toInt; omega), (by show (f 4).toInt ≤ (f 0).toInt; omega), (by show 0 ≤ (f 32).toInt; omega), (by show (f 32).toInt ≤ 63; omega), (by show 1 ≤ (f 53).toInt; omega), (by show (f 53).toInt ≤ 600; omega), (by show 0 ≤ z653.toInt; omega), (by show z653.toInt ≤ 60000; omega), (by show 0 ≤ (f 48).toInt; omega), (by show (f 48).toInt ≤ 8000; omega), (by show 0 ≤ (f 37).toInt; omega), (by show (f 37).toInt ≤ 128; omega), (by show 0 ≤ o623.toInt; omega), (by show o623.toInt ≤ 65000; omega), (by show 0 ≤ (f 19).toInt; omega), (by show (f 19).toInt ≤ 600; omega), (by show 0 ≤ a673.toInt; omega), (by show 0 ≤ (f 8).toInt; omega)⟩⟩
      · refine am_e13f hi_258_9 (am_cF (m := (f 19).toInt) (n := (4 : Int)) rfl (by decide) c620) ?_
        refine am_e2 (v := 39) hi_258_12 rfl ?_
        refine am_e32w (as := [.ref 39]) (la := [some (.ref 39), none]) (rest := []) hi_258_13 (am_hd0 (M := 258) (by decide) 13) (Nat.le_of_ble_eq_true rfl) (Nat.le_of_ble_eq_true rfl) (show 1 ≤ am_P0.2.2.1 217 from by decide +kernel) rfl (am_recv_ok hS.fs) rfl rfl ?_
        refine am_e2 (v := 39) hi_217_0 rfl ?_
        refine mm_20 (v := .ref 47) hS hi_217_1 rfl ?_
        refine am_e2 (v := 39) hi_217_4 rfl ?_
        refine mm_20 (v := .int (f 15)) hS hi_217_5 rfl ?_
        refine am_e0 hi_217_8 ?_
        refine am_e10 (z := z0) hi_217_9 hz0 ?_
        refine mm_25 hS ma_17 hi_217_10 (by decide) (by omega) (by omega) ?_
        show am_E _ _ _ _ [some (.ref 39), none] [.int (g 17 z0.toNatClampNeg)] _ _
        have r790 : (g 16 z0.toNatClampNeg).toInt = 1 ∨ (g 16 z0.toNatClampNeg).toInt = 2 → 0 ≤ (g 17 z0.toNatClampNeg).toInt ∧ (g 17 z0.toNatClampNeg).toInt < 65536 := RJ.vc hR z0.toNatClampNeg
        refine am_e3 (ls' := [some (.ref 39), some (.int (g 17 z0.toNatClampNeg))]) hi_217_11 (Nat.le_of_ble_eq_true rfl) rfl ?_
        refine am_e2 (v := 39) hi_217_12 rfl ?_
        refine mm_20 (v := .ref 91) hS hi_217_13 rfl ?_
        refine am_e1 (v := g 17 z0.toNatClampNeg) hi_217_16 rfl ?_
        refine am_e2 (v := 39) hi_217_17 rfl ?_
        refine mm_20 (v := .ref 46) hS hi_217_18 rfl ?_
        refine am_e2 (v := 39) hi_217_21 rfl ?_
        refine mm_20 (v := .int (f 15)) hS hi_217_22 rfl ?_
        refine am_e0 hi_217_25 ?_
        refine am_e10 (z := z0) hi_217_26 hz0 ?_
        refine mm_25 hS ma_16 hi_217_27 (by decide) (by omega) (by omega) ?_
        show am_E _ _ _ _ [some (.ref 39), some (.int (g 17 z0.toNatClampNeg))] [.int (g 16 z0.toNatClampNeg), .int (g 17 z0.toNatClampNeg), .ref 91] _ _
        refine am_e0 hi_217_28 ?_
        refine am_e13t hi_217_29 (am_cT (m := (g 16 z0.toNatClampNeg).toInt) (n := (1 : Int)) rfl (by decide) (by simp only [am_cI]; omega)) ?_
        refine am_e0 hi_217_45 ?_
        refine mm_26 hS ma_72 hi_217_46 (by decide) (by omega) (by omega) (fun h => nomatch h) ?_
        intro S791 hS792
        refine am_e2 (v := 39) hi_217_47 rfl ?_
        refine am_e7 hi_217_48 ?_
        refine mm_20 (v := .int (f 15)) hS792 hi_217_49 rfl ?_
        refine am_e0 hi_217_52 ?_
        refine am_e10 (z := z0) hi_217_53 hz0 ?_
        refine mm_21 (v := z0) hS792 hi_217_54 rfl (Nat.le_of_ble_eq_true rfl) ms_15 ?_
        intro S793 hS794
        have hp795 : mj_n (g 16) (f 15).toNatClampNeg 3 = mj_n (g 16) z0.toNatClampNeg 3 + if (g 16 z0.toNatClampNeg).toInt = 3 then 1 else 0 := mj_pop (by rw [cl_toNat, cl_toNat]; omega)
        have hp7951 : mj_n (g 16) z0.toNatClampNeg 3 ≤ mj_n (g 16) (f 15).toNatClampNeg 3 := by rw [hp795]; split <;> omega
        have hp7952 : (g 16 z0.toNatClampNeg).toInt = 3 → mj_n (g 16) z0.toNatClampNeg 3 + 1 ≤ mj_n (g 16) (f 15).toNatClampNeg 3 := fun q => by rw [hp795, if_pos q]; exact Int.le_refl _
        refine am_e35 hi_217_57 ?_
        show am_E _ _ _ _ [some (.ref 39), some (.int 4), some (.int (f 19))] [] _ _
        refine am_e2 (v := 39) hi_258_16 rfl ?_
        refine am_e0 hi_258_17 ?_
        refine am_e1 (v := 4) hi_258_19 rfl ?_
        refine am_e1 (v := f 19) hi_258_20 rfl ?_
        obtain ⟨z796, hz796, tz796⟩ := am_subI (x := 4) (y := f 19) (m := (4 : Int)) (n := (f 19).toInt) (by decide) rfl (by omega) (by omega)
        refine am_e10 (z := z796) hi_258_21 hz796 ?_
        refine am_e0 hi_258_22 ?_
        obtain ⟨z797, hz797, tz797⟩ := am_addI (x := z796) (y := 1) (m := z796.toInt) (n := (1 : Int)) rfl (by decide) (by omega) (by omega)
        refine am_e10 (z := z797) hi_258_23 hz797 ?_
        refine am_e0 hi_258_24 ?_
        refine am_e0 hi_258_25 ?_
        refine am_e32n (as := [.ref 39, .int 25, .int z797, .int 0, .int 0]) (la := [some (.ref 39), some (.int 25), some (.int z797), some (.int 0), some (.int 0)]) (rest := []) hi_258_26 (am_hd0 (M := 258) (by decide) 26) (Nat.le_of_ble_eq_true rfl) (Nat.le_of_ble_eq_true rfl) (show 5 ≤ am_P0.2.2.1 189 from by decide +kernel) rfl (am_recv_ok hS794.fs) rfl rfl (ct_put (d := (d + 5)) hS794 hR  (by show (0 : Int) ≤ (f 32).toInt; omega) (by show (f 32).toInt ≤ (63 : Int); omega) (by show (f 53).toInt ≤ (4096 : Int); omega) (by show (0 : Int) ≤ (f 68).toInt; omega) (by show (f 68).toInt ≤ (65534 : Int); omega)) ?_
        rintro v798 S799 (⟨z800, r801, g'802, hv803, hS804, hR808, h805, h806, h807⟩)
        subst hv803
        have h805_ : z800.toInt = (f 68).toInt + 1 := h805
        have h806_ : r801.toInt = (f 68).toInt := h806
        have h807_ : ∀ j, j ∉ [60, 69, 70, 71, 72, 73] → g'802 j = (upg g 72 (g 17 z0.toNatClampNeg).toNatClampNeg 0) j := h807
        have hR808_ : RJ (upd (upd f 15 z0) 68 z800) g'802 gs bc [] 0 ((f 68).toNatClampNeg :: []) := hR808
        show am_E _ _ _ _ [some (.ref 39), some (.int 4), some (.int (f 19))] [.int r801] _ _
        refine am_e6i hi_258_29 ?_
        refine am_e35 hi_258_30 ?_
        show am_E _ _ _ _ [some (.ref 39), some (.int on), some (.int tw), some (.int th), none, none, none, none] [] _ _
        refine am_e2 (v := 39) hi_257_9 rfl ?_
        refine am_e0 hi_257_10 ?_
        refine am_e32n (as := [.ref 39, .int 12]) (la := [some (.ref 39), some (.int 12)]) (rest := []) hi_257_12 (am_hd0 (M := 257) (by decide) 12) (Nat.le_of_ble_eq_true rfl) (Nat.le_of_ble_eq_true rfl) (show 2 ≤ am_P0.2.2.1 193 from by decide +kernel) rfl (am_recv_ok hS804.fs) rfl rfl (ct_enter (d := (d + 4)) hS804   (by show (0 : Int) ≤ (f 4).toInt; omega) (by show (f 0).toInt ≤ (16384 : Int); omega) (by show (0 : Int) ≤ (12 : Int); omega) (by show (0 : Int) ≤ (f 5).toInt; omega) (by show (f 5).toInt ≤ (48 : Int); omega) (by show (0 : Int) ≤ (f 6).toInt; omega)) ?_
        rintro v809 S810 (⟨z811, y812, hv813, hS814, h815, h816, h817, h818⟩ | ⟨a820, b821, hv822, hS823, h824⟩)
        · subst hv813
          have h815_ : z811.toInt = (f 4).toInt + 1 := h815
          have h816_ : (f 4).toInt < (f 0).toInt := h816
          have h817_ : y812.toInt = (f 5).toInt + 1 := h817
          have h818_ : y812.toInt ≤ (48 : Int) := h818
          replace hS814 : MS S0 S810 (upd (upd (upd (upd f 4 z811) 5 y812) 15 z0) 68 z800) g'802 := hS814
          have hR826 : RJ (upd (upd (upd (upd f 4 z811) 5 y812) 15 z0) 68 z800) g'802 gs bc [] 0 ((f 68).toNatClampNeg :: []) := RJ.at hR808_ (by show (f 4).toInt ≤ z811.toInt; omega)
          show am_E _ _ _ _ [some (.ref 39), some (.int on), some (.int tw), some (.int th), none, none, none, none] [.int 1] _ _
          refine am_e12t hi_257_15 (by decide) ?_
          refine am_e2 (v := 39) hi_257_19 rfl ?_
          refine am_e32w (as := [.ref 39]) (la := [some (.ref 39)]) (rest := []) hi_257_20 (am_hd0 (M := 257) (by decide) 20) (Nat.le_of_ble_eq_true rfl) (Nat.le_of_ble_eq_true rfl) (show 1 ≤ am_P0.2.2.1 197 from by decide +kernel) rfl (am_recv_ok hS814.fs) rfl rfl ?_
          refine am_e2 (v := 39) hi_197_0 rfl ?_
          refine mm_20 (v := .int (f 24)) hS814 hi_197_1 rfl ?_
          refine am_e2 (v := 39) hi_197_4 rfl ?_
          refine mm_20 (v := .ref 59) hS814 hi_197_5 rfl ?_
          refine am_e2 (v := 39) hi_197_8 rfl ?_
          refine mm_20 (v := .int (f 32)) hS814 hi_197_9 rfl ?_
          refine mm_25 hS814 ma_34 hi_197_12 (by decide) (by omega) (by omega) ?_
          show am_E _ _ _ _ _ (.int (g'802 34 (f 32).toNatClampNeg) :: _) _ _
          rw [show g'802 34 = g 34 from h807_ 34 (by decide)]
          show am_E _ _ _ _ [some (.ref 39)] [.int (g 34 (f 32).toNatClampNeg), .int (f 24)] _ _
          have r827 : 0 ≤ (g 34 (f 32).toNatClampNeg).toInt := by
            have h := RJ.ba hR826 (f 32).toNatClampNeg
            rw [show g'802 34 = g 34 from h807_ 34 (by decide)] at h
            exact h
          have r828 : (g 34 (f 32).toNatClampNeg).toInt ≤ 2147483647 := i32_le _
          obtain ⟨z829, hz829, tz829⟩ := am_subI (x := f 24) (y := g 34 (f 32).toNatClampNeg) (m := (f 24).toInt) (n := (g 34 (f 32).toNatClampNeg).toInt) rfl rfl (by omega) (by omega)
          refine am_e10 (z := z829) hi_197_13 hz829 ?_
          refine am_e33 hi_197_14 ?_
          show am_E _ _ _ _ [some (.ref 39), some (.int on), some (.int tw), some (.int th), none, none, none, none] [.int z829] _ _
          refine am_e3 (ls' := [some (.ref 39), some (.int on), some (.int tw), some (.int th), some (.int z829), none, none, none]) hi_257_23 (Nat.le_of_ble_eq_true rfl) rfl ?_
          refine am_e2 (v := 39) hi_257_25 rfl ?_
          refine am_e0 hi_257_26 ?_
          refine am_e0 hi_257_27 ?_
          refine am_e1 (v := on) hi_257_28 rfl ?_
          refine am_e32n (as := [.ref 39, .int 4, .int 1, .int on]) (la := [some (.ref 39), some (.int 4), some (.int 1), some (.int on), none]) (rest := []) hi_257_29 (am_hd0 (M := 257) (by decide) 29) (Nat.le_of_ble_eq_true rfl) (Nat.le_of_ble_eq_true rfl) (show 4 ≤ am_P0.2.2.1 254 from by decide +kernel) rfl (am_recv_ok hS814.fs) rfl rfl (ct_hide (d := (d + 4)) hS814 hR826 (by decide)  (by show (0 : Int) ≤ (f 32).toInt; omega) (by show (f 32).toInt ≤ (63 : Int); omega) (by show (f 53).toInt ≤ (4096 : Int); omega) (by show (0 : Int) ≤ (f 24).toInt; omega) (by show (f 24).toInt ≤ (16000 : Int); omega) (by show (0 : Int) ≤ (4 : Int); omega) (by show (4 : Int) ≤ (16 : Int); omega) (by show (0 : Int) ≤ (f 8).toInt; omega)) ?_
          rintro v830 S831 (⟨a832, b833, l834, y835, g'836, hv837, hS838, hR842, h839, h840, h841⟩)
          subst hv837
          have h839_ : l834.toInt = (f 24).toInt + (4 : Int) := h839
          have h840_ : ∀ j, j ∉ [25, 26, 27, 28, 29, 30, 58] → g'836 j = g'802 j := h840
          have h841_ : (0 : Int) ≤ a832.toInt := h841
          replace hS838 : MS S0 S831 (upd (upd (upd (upd (upd (upd (upd (upd f 4 z811) 5 y812) 8 a832) 9 b833) 15 z0) 24 l834) 31 y835) 68 z800) g'836 := hS838
          have hR842_ : RJ (upd (upd (upd (upd (upd (upd (upd (upd f 4 z811) 5 y812) 8 a832) 9 b833) 15 z0) 24 l834) 31 y835) 68 z800) g'836 gs bc [] 0 ((f 68).toNatClampNeg :: []) := hR842
          show am_E _ _ _ _ [some (.ref 39), some (.int on), some (.int tw), some (.int th), some (.int z829), none, none, none] [] _ _
          refine am_e2 (v := 39) hi_257_32 rfl ?_
          refine am_e0 hi_257_33 ?_
          refine am_e1 (v := z829) hi_257_35 rfl ?_
          refine am_e0 hi_257_37 ?_
          refine am_e1 (v := on) hi_257_38 rfl ?_
          refine am_e32n (as := [.ref 39, .int 42, .int z829, .int 0, .int on]) (la := [some (.ref 39), some (.int 42), some (.int z829), some (.int 0), some (.int on)]) (rest := []) hi_257_39 (am_hd0 (M := 257) (by decide) 39) (Nat.le_of_ble_eq_true rfl) (Nat.le_of_ble_eq_true rfl) (show 5 ≤ am_P0.2.2.1 189 from by decide +kernel) rfl (am_recv_ok hS838.fs) rfl rfl (ct_put (d := (d + 6)) hS838 hR842_  (by show (0 : Int) ≤ (f 32).toInt; omega) (by show (f 32).toInt ≤ (63 : Int); omega) (by show (f 53).toInt ≤ (4096 : Int); omega) (by show (0 : Int) ≤ z800.toInt; omega) (by show z800.toInt ≤ (65534 : Int); omega)) ?_
          rintro v843 S844 (⟨z845, r846, g'847, hv848, hS849, hR853, h850, h851, h852⟩)
          subst hv848
          have h850_ : z845.toInt = z800.toInt + 1 := h850
          have h851_ : r846.toInt = z800.toInt := h851
          have h852_ : ∀ j, j ∉ [60, 69, 70, 71, 72, 73] → g'847 j = g'836 j := h852
          replace hS849 : MS S0 S844 (upd (upd (upd (upd (upd (upd (upd (upd f 4 z811) 5 y812) 8 a832) 9 b833) 15 z0) 24 l834) 31 y835) 68 z845) g'847 := hS849
          have hR853_ : RJ (upd (upd (upd (upd (upd (upd (upd (upd f 4 z811) 5 y812) 8 a832) 9 b833) 15 z0) 24 l834) 31 y835) 68 z845) g'847 gs bc [] 0 (z800.toNatClampNeg :: ((f 68).toNatClampNeg :: [])) := hR853
          show am_E _ _ _ _ [some (.ref 39), some (.int on), some (.int tw), some (.int th), some (.int z829), none, none, none] [.int r846] _ _
          refine am_e6i hi_257_42 ?_
          refine am_e2 (v := 39) hi_257_43 rfl ?_
          refine am_e32n (as := [.ref 39]) (la := [some (.ref 39)]) (rest := []) hi_257_44 (am_hd0 (M := 257) (by decide) 44) (Nat.le_of_ble_eq_true rfl) (Nat.le_of_ble_eq_true rfl) (show 1 ≤ am_P0.2.2.1 210 from by decide +kernel) rfl (am_recv_ok hS849.fs) rfl rfl (ct_here (d := (d + 6)) hS849 hR853_  (by show (0 : Int) ≤ (f 32).toInt; omega) (by show (f 32).toInt ≤ (63 : Int); omega) (by show (f 53).toInt ≤ (4096 : Int); omega) (by show (0 : Int) ≤ z845.toInt; omega) (by show z845.toInt ≤ (65534 : Int); omega)) ?_
          rintro v854 S855 (⟨r856, hv857, hS858, h859, h860⟩)
          subst hv857
          have h859_ : (0 : Int) ≤ r856.toInt := h859
          have h860_ : r856.toInt ≤ z845.toInt := h860
          show am_E _ _ _ _ [some (.ref 39), some (.int on), some (.int tw), some (.int th), some (.int z829), none, none, none] [.int r856] _ _
          refine am_e3 (ls' := [some (.ref 39), some (.int on), some (.int tw), some (.int th), some (.int z829), some (.int r856), none, none]) hi_257_47 (Nat.le_of_ble_eq_true rfl) rfl ?_
          refine am_e2 (v := 39) hi_257_49 rfl ?_
          refine am_e0 hi_257_50 ?_
          refine am_e0 hi_257_52 ?_
          refine am_e0 hi_257_53 ?_
          refine am_e1 (v := on) hi_257_54 rfl ?_
          refine am_e32n (as := [.ref 39, .int 34, .int 0, .int 0, .int on]) (la := [some (.ref 39), some (.int 34), some (.int 0), some (.int 0), some (.int on)]) (rest := []) hi_257_55 (am_hd0 (M := 257) (by decide) 55) (Nat.le_of_ble_eq_true rfl) (Nat.le_of_ble_eq_true rfl) (show 5 ≤ am_P0.2.2.1 189 from by decide +kernel) rfl (am_recv_ok hS858.fs) rfl rfl (ct_put (d := (d + 6)) hS858 hR853_  (by show (0 : Int) ≤ (f 32).toInt; omega) (by show (f 32).toInt ≤ (63 : Int); omega) (by show (f 53).toInt ≤ (4096 : Int); omega) (by show (0 : Int) ≤ z845.toInt; omega) (by show z845.toInt ≤ (65534 : Int); omega)) ?_
          rintro v862 S863 (⟨z864, r865, g'866, hv867, hS868, hR872, h869, h870, h871⟩)
          subst hv867
          have h869_ : z864.toInt = z845.toInt + 1 := h869
          have h870_ : r865.toInt = z845.toInt := h870
          have h871_ : ∀ j, j ∉ [60, 69, 70, 71, 72, 73] → g'866 j = g'847 j := h871
          replace hS868 : MS S0 S863 (upd (upd (upd (upd (upd (upd (upd (upd f 4 z811) 5 y812) 8 a832) 9 b833) 15 z0) 24 l834) 31 y835) 68 z864) g'866 := hS868
          have hR872_ : RJ (upd (upd (upd (upd (upd (upd (upd (upd f 4 z811) 5 y812) 8 a832) 9 b833) 15 z0) 24 l834) 31 y835) 68 z864) g'866 gs bc [] 0 (z845.toNatClampNeg :: (z800.toNatClampNeg :: ((f 68).toNatClampNeg :: []))) := hR872
          show am_E _ _ _ _ [some (.ref 39), some (.int on), some (.int tw), some (.int th), some (.int z829), some (.int r856), none, none] [.int r865] _ _
          refine am_e6i hi_257_58 ?_
          refine am_e2 (v := 39) hi_257_59 rfl ?_
          refine am_e0 hi_257_60 ?_
          refine am_e1 (v := z829) hi_257_62 rfl ?_
          refine am_e1 (v := tw) hi_257_64 rfl ?_
          refine am_e1 (v := th) hi_257_65 rfl ?_
          refine am_e32n (as := [.ref 39, .int 43, .int z829, .int tw, .int th]) (la := [some (.ref 39), some (.int 43), some (.int z829), some (.int tw), some (.int th)]) (rest := []) hi_257_66 (am_hd0 (M := 257) (by decide) 66) (Nat.le_of_ble_eq_true rfl) (Nat.le_of_ble_eq_true rfl) (show 5 ≤ am_P0.2.2.1 189 from by decide +kernel) rfl (am_recv_ok hS868.fs) rfl rfl (ct_put (d := (d + 6)) hS868 hR872_  (by show (0 : Int) ≤ (f 32).toInt; omega) (by show (f 32).toInt ≤ (63 : Int); omega) (by show (f 53).toInt ≤ (4096 : Int); omega) (by show (0 : Int) ≤ z864.toInt; omega) (by show z864.toInt ≤ (65534 : Int); omega)) ?_
          rintro v873 S874 (⟨z875, r876, g'877, hv878, hS879, hR883, h880, h881, h882⟩)
          subst hv878
          have h880_ : z875.toInt = z864.toInt + 1 := h880
          have h881_ : r876.toInt = z864.toInt := h881
          have h882_ : ∀ j, j ∉ [60, 69, 70, 71, 72, 73] → g'877 j = g'866 j := h882
          replace hS879 : MS S0 S874 (upd (upd (upd (upd (upd (upd (upd (upd f 4 z811) 5 y812) 8 a832) 9 b833) 15 z0) 24 l834) 31 y835) 68 z875) g'877 := hS879
          have hR883_ : RJ (upd (upd (upd (upd (upd (upd (upd (upd f 4 z811) 5 y812) 8 a832) 9 b833) 15 z0) 24 l834) 31 y835) 68 z875) g'877 gs bc [] 0 (z864.toNatClampNeg :: (z845.toNatClampNeg :: (z800.toNatClampNeg :: ((f 68).toNatClampNeg :: [])))) := hR883
          show am_E _ _ _ _ [some (.ref 39), some (.int on), some (.int tw), some (.int th), some (.int z829), some (.int r856), none, none] [.int r876] _ _
          refine am_e6i hi_257_69 ?_
          refine am_e2 (v := 39) hi_257_70 rfl ?_
          refine am_e0 hi_257_71 ?_
          refine am_e1 (v := z829) hi_257_73 rfl ?_
          refine am_e0 hi_257_75 ?_
          refine am_e0 hi_257_76 ?_
          refine am_e32n (as := [.ref 39, .int 44, .int z829, .int 0, .int 0]) (la := [some (.ref 39), some (.int 44), some (.int z829), some (.int 0), some (.int 0)]) (rest := []) hi_257_77 (am_hd0 (M := 257) (by decide) 77) (Nat.le_of_ble_eq_true rfl) (Nat.le_of_ble_eq_true rfl) (show 5 ≤ am_P0.2.2.1 189 from by decide +kernel) rfl (am_recv_ok hS879.fs) rfl rfl (ct_put (d := (d + 6)) hS879 hR883_  (by show (0 : Int) ≤ (f 32).toInt; omega) (by show (f 32).toInt ≤ (63 : Int); omega) (by show (f 53).toInt ≤ (4096 : Int); omega) (by show (0 : Int) ≤ z875.toInt; omega) (by show z875.toInt ≤ (65534 : Int); omega)) ?_
          rintro v884 S885 (⟨z886, r887, g'888, hv889, hS890, hR894, h891, h892, h893⟩)
          subst hv889
          have h891_ : z886.toInt = z875.toInt + 1 := h891
          have h892_ : r887.toInt = z875.toInt := h892
          have h893_ : ∀ j, j ∉ [60, 69, 70, 71, 72, 73] → g'888 j = g'877 j := h893
          replace hS890 : MS S0 S885 (upd (upd (upd (upd (upd (upd (upd (upd f 4 z811) 5 y812) 8 a832) 9 b833) 15 z0) 24 l834) 31 y835) 68 z886) g'888 := hS890
          have hR894_ : RJ (upd (upd (upd (upd (upd (upd (upd (upd f 4 z811) 5 y812) 8 a832) 9 b833) 15 z0) 24 l834) 31 y835) 68 z886) g'888 gs bc [] 0 (z875.toNatClampNeg :: (z864.toNatClampNeg :: (z845.toNatClampNeg :: (z800.toNatClampNeg :: ((f 68).toNatClampNeg :: []))))) := hR894
          show am_E _ _ _ _ [some (.ref 39), some (.int on), some (.int tw), some (.int th), some (.int z829), some (.int r856), none, none] [.int r887] _ _
          refine am_e3 (ls' := [some (.ref 39), some (.int on), some (.int tw), some (.int th), some (.int z829), some (.int r856), some (.int r887), none]) hi_257_80 (Nat.le_of_ble_eq_true rfl) rfl ?_
          refine am_e2 (v := 39) hi_257_82 rfl ?_
          refine am_e0 hi_257_83 ?_
          refine am_e32n (as := [.ref 39, .int 1]) (la := [some (.ref 39), some (.int 1)]) (rest := []) hi_257_84 (am_hd0 (M := 257) (by decide) 84) (Nat.le_of_ble_eq_true rfl) (Nat.le_of_ble_eq_true rfl) (show 2 ≤ am_P0.2.2.1 177 from by decide +kernel) rfl (am_recv_ok hS890.fs) rfl rfl (ct_beginBlock2 (d := (d + 6)) hS890 hR894_ (by decide)  (by show (0 : Int) ≤ (f 37).toInt; omega) (by show (f 37).toInt ≤ (127 : Int); omega) (by show (0 : Int) ≤ l834.toInt; omega) (by show (0 : Int) ≤ (f 44).toInt; omega) (by show (f 44).toInt ≤ z811.toInt; omega) (by show (0 : Int) ≤ (f 48).toInt; omega)) ?_
          rintro v895 S896 (⟨z897, g'898, hv899, hS900, hR904, h901, h902, h903⟩)
          subst hv899
          have h901_ : z897.toInt = (f 37).toInt + 1 := h901
          have h902_ : ∀ j, j ∉ [38, 39, 40, 41, 42, 43] → g'898 j = g'888 j := h902
          have h903_ : g'898 38 = upd (g'888 38) (f 37).toNatClampNeg l834 := h903
          replace hS900 : MS S0 S896 (upd (upd (upd (upd (upd (upd (upd (upd (upd f 4 z811) 5 y812) 8 a832) 9 b833) 15 z0) 24 l834) 31 y835) 37 z897) 68 z886) g'898 := hS900
          have hR904_ : RJ (upd (upd (upd (upd (upd (upd (upd (upd (upd f 4 z811) 5 y812) 8 a832) 9 b833) 15 z0) 24 l834) 31 y835) 37 z897) 68 z886) g'898 gs ([] :: bc) [] 0 (z875.toNatClampNeg :: (z864.toNatClampNeg :: (z845.toNatClampNeg :: (z800.toNatClampNeg :: ((f 68).toNatClampNeg :: []))))) := hR904
          show am_E _ _ _ _ [some (.ref 39), some (.int on), some (.int tw), some (.int th), some (.int z829), some (.int r856), some (.int r887), none] [] _ _
          refine am_e0 hi_257_87 ?_
          refine am_e3 (ls' := [some (.ref 39), some (.int on), some (.int tw), some (.int th), some (.int z829), some (.int r856), some (.int r887), some (.int 0)]) hi_257_88 (Nat.le_of_ble_eq_true rfl) rfl ?_
          refine fr_each (d := (d + 2)) (f := (upd (upd (upd (upd (upd (upd (upd (upd (upd f 4 z811) 5 y812) 8 a832) 9 b833) 15 z0) 24 l834) 31 y835) 37 z897) 68 z886)) (g := g'898) (w := on) (m := tw) (x3 := th) (c4 := z829) (h5 := r856) (q6 := r887)  (by show (0 : Int) ≤ (f 32).toInt; omega) (by show (f 32).toInt ≤ (63 : Int); omega) (by show (f 53).toInt ≤ (4096 : Int); omega) (by show (0 : Int) ≤ l834.toInt; omega) (by show l834.toInt + tw.toInt ≤ 16383; omega) (by show (0 : Int) ≤ on.toInt; omega) (by show on.toInt + 2 * tw.toInt ≤ 16000; omega) (by show (0 : Int) ≤ a832.toInt; omega) ?_ ((tw.toInt - (0 : Int)).toNat + 1) _ 0 a832 b833 l834 y835 _ hS900 hR904_ (fun _ _ => rfl) (by show (0 : Int) ≤ (0 : Int); omega) (by show (0 : Int) ≤ tw.toInt; omega) (by show l834.toInt = l834.toInt + (0 : Int); omega) (by show (0 : Int) ≤ a832.toInt; omega) (by show tw.toInt - (0 : Int) < _; omega)
          · intro S910 i905 a906 b907 l908 y909 gx913 hS911 hR912 hg914 h915 h916
            replace hS911 : MS S0 S910 (upd (upd (upd (upd (upd (upd (upd (upd (upd f 4 z811) 5 y812) 8 a906) 9 b907) 15 z0) 24 l908) 31 y909) 37 z897) 68 z886) gx913 := hS911
            have h915_ : l908.toInt = l834.toInt + tw.toInt := h915
            have h916_ : (0 : Int) ≤ a906.toInt := h916
            have hR912_ : RJ (upd (upd (upd (upd (upd (upd (upd (upd (upd f 4 z811) 5 y812) 8 a906) 9 b907) 15 z0) 24 l908) 31 y909) 37 z897) 68 z886) gx913 gs ([] :: bc) [] 0 (z875.toNatClampNeg :: (z864.toNatClampNeg :: (z845.toNatClampNeg :: (z800.toNatClampNeg :: ((f 68).toNatClampNeg :: []))))) := hR912
            show am_E _ _ _ _ [some (.ref 39), some (.int on), some (.int tw), some (.int th), some (.int z829), some (.int r856), some (.int r887), some (.int i905)] [] _ _
            refine am_e2 (v := 39) hi_257_129 rfl ?_
            refine am_e0 hi_257_130 ?_
            refine am_e1 (v := r887) hi_257_132 rfl ?_
            refine am_e1 (v := r856) hi_257_134 rfl ?_
            refine am_e1 (v := z829) hi_257_136 rfl ?_
            refine am_e32n (as := [.ref 39, .int 15, .int r887, .int r856, .int z829]) (la := [some (.ref 39), some (.int 15), some (.int r887), some (.int r856), some (.int z829)]) (rest := []) hi_257_138 (am_hd0 (M := 257) (by decide) 138) (Nat.le_of_ble_eq_true rfl) (Nat.le_of_ble_eq_true rfl) (show 5 ≤ am_P0.2.2.1 179 from by decide +kernel) rfl (am_recv_ok hS911.fs) rfl rfl (ct_pile (d := (d + 6)) hS911 hR912_ (mj_e_b (by decide) (by omega) (by show r887.toInt < z886.toInt; omega)) (by show (0 : Int) ≤ (f 10).toInt; omega) (by show (f 10).toInt ≤ (65535 : Int); omega)) ?_
            rintro v917 S918 (⟨z919, g'920, hv921, hS922, hR925, h923, h924⟩)
            subst hv921
            have h923_ : z919.toInt = (f 10).toInt + 1 := h923
            have h924_ : ∀ j, j ∉ [11, 12, 13, 14] → g'920 j = gx913 j := h924
            replace hS922 : MS S0 S918 (upd (upd (upd (upd (upd (upd (upd (upd (upd (upd f 4 z811) 5 y812) 8 a906) 9 b907) 10 z919) 15 z0) 24 l908) 31 y909) 37 z897) 68 z886) g'920 := hS922
            have hR925_ : RJ (upd (upd (upd (upd (upd (upd (upd (upd (upd (upd f 4 z811) 5 y812) 8 a906) 9 b907) 10 z919) 15 z0) 24 l908) 31 y909) 37 z897) 68 z886) g'920 (((15 : Int), r887.toInt, r856.toInt, z829.toInt, []) :: gs) ([] :: bc) [] 0 (z875.toNatClampNeg :: (z864.toNatClampNeg :: (z845.toNatClampNeg :: (z800.toNatClampNeg :: ((f 68).toNatClampNeg :: []))))) := hR925
            show am_E _ _ _ _ [some (.ref 39), some (.int on), some (.int tw), some (.int th), some (.int z829), some (.int r856), some (.int r887), some (.int i905)] [] _ _
            refine am_e2 (v := 39) hi_257_141 rfl ?_
            refine am_e32w (as := [.ref 39]) (la := [some (.ref 39)]) (rest := []) hi_257_142 (am_hd0 (M := 257) (by decide) 142) (Nat.le_of_ble_eq_true rfl) (Nat.le_of_ble_eq_true rfl) (show 1 ≤ am_P0.2.2.1 178 from by decide +kernel) rfl (am_recv_ok hS922.fs) rfl rfl ?_
            refine am_e2 (v := 39) hi_178_0 rfl ?_
            refine am_e0 hi_178_1 ?_
            refine am_e0 hi_178_2 ?_
            refine am_e0 hi_178_3 ?_
            refine am_e0 hi_178_4 ?_
            refine am_e32n (as := [.ref 39, .int 1, .int 0, .int 0, .int 0]) (la := [some (.ref 39), some (.int 1), some (.int 0), some (.int 0), some (.int 0)]) (rest := []) hi_178_5 (am_hd0 (M := 178) (by decide) 5) (Nat.le_of_ble_eq_true rfl) (Nat.le_of_ble_eq_true rfl) (show 5 ≤ am_P0.2.2.1 179 from by decide +kernel) rfl (am_recv_ok hS922.fs) rfl rfl (ct_pile (d := (d + 5)) hS922 hR925_ (mj_e_plain (by decide)) (by show (0 : Int) ≤ z919.toInt; omega) (by show z919.toInt ≤ (65535 : Int); omega)) ?_
            rintro v926 S927 (⟨z928, g'929, hv930, hS931, hR934, h932, h933⟩)
            subst hv930
            have h932_ : z928.toInt = z919.toInt + 1 := h932
            have h933_ : ∀ j, j ∉ [11, 12, 13, 14] → g'929 j = g'920 j := h933
            replace hS931 : MS S0 S927 (upd (upd (upd (upd (upd (upd (upd (upd (upd (upd f 4 z811) 5 y812) 8 a906) 9 b907) 10 z928) 15 z0) 24 l908) 31 y909) 37 z897) 68 z886) g'929 := hS931
            have hR934_ : RJ (upd (upd (upd (upd (upd (upd (upd (upd (upd (upd f 4 z811) 5 y812) 8 a906) 9 b907) 10 z928) 15 z0) 24 l908) 31 y909) 37 z897) 68 z886) g'929 (((1 : Int), (0 : Int), (0 : Int), (0 : Int), []) :: (((15 : Int), r887.toInt, r856.toInt, z829.toInt, []) :: gs)) ([] :: bc) [] 0 (z875.toNatClampNeg :: (z864.toNatClampNeg :: (z845.toNatClampNeg :: (z800.toNatClampNeg :: ((f 68).toNatClampNeg :: []))))) := hR934
            show am_E _ _ _ _ [some (.ref 39)] [] _ _
            refine am_e35 hi_178_8 ?_
            show am_E _ _ _ _ [some (.ref 39), some (.int on), some (.int tw), some (.int th), some (.int z829), some (.int r856), some (.int r887), some (.int i905)] [] _ _
            refine am_e35 hi_257_145 ?_
            show am_E _ _ _ _ [some (.ref 39), some (.int 14), some (.int on), some (.int tw), some (.int th)] [] _ _
            refine am_e18 hi_180_270 ?_
            refine am_e35 hi_180_371 ?_
            have q1 : mg_p1 (((1 : Int), (0 : Int), (0 : Int), (0 : Int), []) :: (((15 : Int), r887.toInt, r856.toInt, z829.toInt, []) :: gs)) = 0 + (0 + (mg_p1 gs)) := rfl
            have q2 : mg_p2 (((1 : Int), (0 : Int), (0 : Int), (0 : Int), []) :: (((15 : Int), r887.toInt, r856.toInt, z829.toInt, []) :: gs)) = 0 + (0 + (mg_p2 gs)) := rfl
            have q3 : mg_p3 (((1 : Int), (0 : Int), (0 : Int), (0 : Int), []) :: (((15 : Int), r887.toInt, r856.toInt, z829.toInt, []) :: gs)) = 1 + (1 + (mg_p3 gs)) := rfl
            have q4 : mg_p4 (((1 : Int), (0 : Int), (0 : Int), (0 : Int), []) :: (((15 : Int), r887.toInt, r856.toInt, z829.toInt, []) :: gs)) = 0 + (0 + (mg_p4 gs)) := rfl
            refine ⟨_, _, _, ([] :: bc), rfl, hS931, Or.inl ⟨⟨(RJ.fewer (pj' := []) hR934_ (fun _ h => nomatch h)), ?_, ?_⟩, rfl, ?_⟩⟩
            · exact (⟨⟨(show mg_k 1 from by decide), (show (0 : Int) ≤ z0.toInt from by omega), (show 0 ≤ (f 20).toInt from by omega), (show 1 ≤ z897.toInt from by omega), (show 0 ≤ (f 32).toInt from by omega), (show (f 32).toInt ≤ y812.toInt from by omega), (show y812.toInt ≤ 48 from by omega), (show z897.toInt ≤ 2 * (y812.toInt) + 1 from by omega), trivial⟩, ⟨⟨(show mg_k 15 from by decide), (show (0 : Int) ≤ z0.toInt + 0 from by omega), (show 0 ≤ (f 20).toInt from by omega), (show 1 ≤ z897.toInt + 0 from by omega), (show 0 ≤ (f 32).toInt + 0 from by omega), (show (f 32).toInt + 0 ≤ y812.toInt + 0 from by omega), (show y812.toInt + 0 ≤ 48 from by omega), (show z897.toInt + 0 ≤ 2 * (y812.toInt + 0) + 0 from by omega), (mg_pa13 (l1 := l834) hR (by show g'929 34 = g 34; rw [show g'929 34 = g'920 34 from h933_ 34 (by decide), show g'920 34 = gx913 34 from h924_ 34 (by decide), show gx913 34 = g'898 34 from hg914 34 (by decide), show g'898 34 = g'888 34 from h902_ 34 (by decide), show g'888 34 = g'877 34 from h893_ 34 (by decide), show g'877 34 = g'866 34 from h882_ 34 (by decide), show g'866 34 = g'847 34 from h871_ 34 (by decide), show g'847 34 = g'836 34 from h852_ 34 (by decide), show g'836 34 = g'802 34 from h840_ 34 (by decide), show g'802 34 = g 34 from h807_ 34 (by decide)]) (by show g'929 38 = upd (g 38) (f 37).toNatClampNeg l834; rw [show g'929 38 = g'920 38 from h933_ 38 (by decide), show g'920 38 = gx913 38 from h924_ 38 (by decide), show gx913 38 = g'898 38 from hg914 38 (by decide), h903_, show g'888 38 = g'877 38 from h893_ 38 (by decide), show g'877 38 = g'866 38 from h882_ 38 (by decide), show g'866 38 = g'847 38 from h871_ 38 (by decide), show g'847 38 = g'836 38 from h852_ 38 (by decide), show g'836 38 = g'802 38 from h840_ 38 (by decide), show g'802 38 = g 38 from h807_ 38 (by decide)]) (by show (f 32).toInt + 0 = (f 32).toInt; omega) (by omega) (by show z897.toInt + 0 = (f 37).toInt + 1; omega) (by show z829.toInt = (f 24).toInt - (g 34 (f 32).toNatClampNeg).toInt; omega) (by omega) (by show (f 24).toInt ≤ l834.toInt; omega))⟩, mg_cast (mg_good_ext _ _ _ _ _ _ (fun i _ => by show g'929 34 i = g 34 i; rw [show g'929 34 = g'920 34 from h933_ 34 (by decide), show g'920 34 = gx913 34 from h924_ 34 (by decide), show gx913 34 = g'898 34 from hg914 34 (by decide), show g'898 34 = g'888 34 from h902_ 34 (by decide), show g'888 34 = g'877 34 from h893_ 34 (by decide), show g'877 34 = g'866 34 from h882_ 34 (by decide), show g'866 34 = g'847 34 from h871_ 34 (by decide), show g'847 34 = g'836 34 from h852_ 34 (by decide), show g'836 34 = g'802 34 from h840_ 34 (by decide), show g'802 34 = g 34 from h807_ 34 (by decide)]) (fun i hi => by show g'929 38 i = g 38 i; rw [show g'929 38 = g'920 38 from h933_ 38 (by decide), show g'920 38 = gx913 38 from h924_ 38 (by decide), show gx913 38 = g'898 38 from hg914 38 (by decide), h903_, show g'888 38 = g'877 38 from h893_ 38 (by decide), show g'877 38 = g'866 38 from h882_ 38 (by decide), show g'866 38 = g'847 38 from h871_ 38 (by decide), show g'847 38 = g'836 38 from h852_ 38 (by decide), show g'836 38 = g'802 38 from h840_ 38 (by decide), show g'802 38 = g 38 from h807_ 38 (by decide)]; exact upd_ne (by rw [cl_toNat]; omega)) (fun i _ => by show g'929 23 i = g 23 i; rw [show g'929 23 = g'920 23 from h933_ 23 (by decide), show g'920 23 = gx913 23 from h924_ 23 (by decide), show gx913 23 = g'898 23 from hg914 23 (by decide), show g'898 23 = g'888 23 from h902_ 23 (by decide), show g'888 23 = g'877 23 from h893_ 23 (by decide), show g'877 23 = g'866 23 from h882_ 23 (by decide), show g'866 23 = g'847 23 from h871_ 23 (by decide), show g'847 23 = g'836 23 from h852_ 23 (by decide), show g'836 23 = g'802 23 from h840_ 23 (by decide), show g'802 23 = g 23 from h807_ 23 (by decide)]) hrest) (by show (f 15).toInt + -1 = z0.toInt + 0 + 0; omega) (by show (f 20).toInt = (f 20).toInt; omega) (by show (f 37).toInt + 0 = z897.toInt + 0 + -1; omega) (by show (f 32).toInt + 0 = (f 32).toInt + 0 + 0; omega) (by show (f 5).toInt + 0 = y812.toInt + 0 + -1; omega)⟩⟩ : mg_good (g'929 34) (g'929 38) (g'929 23) (((1 : Int), (0 : Int), (0 : Int), (0 : Int), []) :: (((15 : Int), r887.toInt, r856.toInt, z829.toInt, []) :: gs)) (z0.toInt) ((f 20).toInt) (z897.toInt) ((f 32).toInt) (y812.toInt))
            · exact ⟨(by show 0 ≤ z811.toInt; omega), (by show z811.toInt ≤ (f 0).toInt; omega), (by show (f 0).toInt ≤ 512; omega), (by show 0 ≤ l908.toInt; omega), (by show l908.toInt + (f 20).toInt + mg_p1 (((1 : Int), (0 : Int), (0 : Int), (0 : Int), []) :: (((15 : Int), r887.toInt, r856.toInt, z829.toInt, []) :: gs)) ≤ 4 * z811.toInt; omega), (by show (f 20).toInt ≤ z811.toInt; omega), (by show z0.toInt + mg_p2 (((1 : Int), (0 : Int), (0 : Int), (0 : Int), []) :: (((15 : Int), r887.toInt, r856.toInt, z829.toInt, []) :: gs)) ≤ z811.toInt; omega), (by show mg_p3 (((1 : Int), (0 : Int), (0 : Int), (0 : Int), []) :: (((15 : Int), r887.toInt, r856.toInt, z829.toInt, []) :: gs)) ≤ 20 * z811.toInt + 20; omega), (by show 0 ≤ z886.toInt; omega), (by show z886.toInt + 3 * (f 20).toInt + mg_p4 (((1 : Int), (0 : Int), (0 : Int), (0 : Int), []) :: (((15 : Int), r887.toInt, r856.toInt, z829.toInt, []) :: gs)) ≤ 60 * z811.toInt + 60; omega), (by show 0 ≤ (f 62).toInt; omega), (by show (f 62).toInt + 64 * mj_n (g'929 16) z0.toNatClampNeg 3 ≤ 64 * z811.toInt; rw [show g'929 16 = g'920 16 from h933_ 16 (by decide), show g'920 16 = gx913 16 from h924_ 16 (by decide), show gx913 16 = g'898 16 from hg914 16 (by decide), show g'898 16 = g'888 16 from h902_ 16 (by decide), show g'888 16 = g'877 16 from h893_ 16 (by decide), show g'877 16 = g'866 16 from h882_ 16 (by decide), show g'866 16 = g'847 16 from h871_ 16 (by decide), show g'847 16 = g'836 16 from h852_ 16 (by decide), show g'836 16 = g'802 16 from h840_ 16 (by decide), show g'802 16 = g 16 from h807_ 16 (by decide)]; omega), (by show 0 ≤ (f 44).toInt; omega), (by show (f 44).toInt ≤ z811.toInt; omega), (by show 0 ≤ (f 48).toInt; omega), (by show (f 48).toInt ≤ z811.toInt; omega), (by show 1 ≤ (f 53).toInt; omega), (by show (f 53).toInt ≤ z811.toInt + 1; omega), (by show 0 ≤ (f 19).toInt; omega), (by show (f 19).toInt ≤ 600; omega), (by show 0 ≤ (f 6).toInt; omega), (by show 0 ≤ a906.toInt; omega)⟩
            · show 100 * ((f 0).toInt - z811.toInt) + mg_p3 (((1 : Int), (0 : Int), (0 : Int), (0 : Int), []) :: (((15 : Int), r887.toInt, r856.toInt, z829.toInt, []) :: gs)) < 100 * ((f 0).toInt - (f 4).toInt) + (1 + mg_p3 gs); omega
        · subst hv822
          have h824_ : (0 : Int) ≤ a820.toInt := h824
          replace hS823 : MS S0 S810 (upd (upd (upd (upd (upd f 6 a820) 7 b821) 10 0) 15 z0) 68 z800) g'802 := hS823
          have hR935 := rj_clear0 hR808_
          have hR936 : RJ (upd (upd (upd (upd (upd f 6 a820) 7 b821) 10 0) 15 z0) 68 z800) g'802 [] bc [] 0 [] := hR935
          show am_E _ _ _ _ [some (.ref 39), some (.int on), some (.int tw), some (.int th), none, none, none, none] [.int 0] _ _
          refine am_e12f hi_257_15 (by decide) ?_
          refine am_e35 hi_257_18 ?_
          show am_E _ _ _ _ [some (.ref 39), some (.int 14), some (.int on), some (.int tw), some (.int th)] [] _ _
          refine am_e18 hi_180_270 ?_
          refine am_e35 hi_180_371 ?_
          have hRc := rj_clear0 hR936
          refine ⟨_, _, [], _, rfl, hS823, Or.inr ⟨hRc, rfl, (by show 0 ≤ (f 4).toInt; omega), (by show (f 4).toInt ≤ (f 0).toInt; omega), (by show 0 ≤ (f 32).toInt; omega), (by show (f 32).toInt ≤ 63; omega), (by show 1 ≤ (f 53).toInt; omega), (by show (f 53).toInt ≤ 600; omega), (by show 0 ≤ z800.toInt; omega), (by show z800.toInt ≤ 60000; omega), (by show 0 ≤ (f 48).toInt; omega), (by show (f 48).toInt ≤ 8000; omega), (by show 0 ≤ (f 37).toInt; omega), (by show (f 37).toInt ≤ 128; omega), (by show 0 ≤ (f 62).toInt; omega), (by show (f 62).toInt ≤ 65000; omega), (by show 0 ≤ (f 19).toInt; omega), (by show (f 19).toInt ≤ 600; omega), (by show 0 ≤ a820.toInt; omega), (by show 0 ≤ (f 8).toInt; omega)⟩⟩
