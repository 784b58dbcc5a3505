/-! STEPS: loops over lists begun (printed by wip/p2/st2.py) -/
set_option maxHeartbeats 16000000 in
theorem st_14 {sc : Nat × (Nat → Int32)} {d : Nat} {S0 S : am_S} {f : Nat → Int32} {g : Nat → Nat → Int32} {on : Int32} {tw : Int32} {th : Int32} {gs : List mg_E} {bc : List (List Nat)} (hS : MS S0 S f g) (hR : RJ f g gs bc [] 0 []) (hrest : mg_good (g 34) (g 38) (g 23) gs ((f 15).toInt + -1) ((f 20).toInt) ((f 37).toInt + 0) ((f 32).toInt + 0) ((f 5).toInt + 0)) (p0 : 0 ≤ (f 4).toInt) (p1 : (f 4).toInt ≤ (f 0).toInt) (p2 : (f 0).toInt ≤ 512) (p3 : 0 ≤ (f 24).toInt) (p4 : (f 24).toInt + (f 20).toInt + tw.toInt + mg_p1 gs ≤ 4 * (f 4).toInt) (p5 : (f 20).toInt ≤ (f 4).toInt) (p6 : (f 15).toInt + 0 + mg_p2 gs ≤ (f 4).toInt) (p7 : 1 + mg_p3 gs ≤ 20 * (f 4).toInt + 20) (p8 : 0 ≤ (f 68).toInt) (p9 : (f 68).toInt + 3 * (f 20).toInt + 0 + mg_p4 gs ≤ 60 * (f 4).toInt + 60) (p10 : 0 ≤ (f 62).toInt) (p11 : (f 62).toInt + 64 * mj_n (g 16) (f 15).toNatClampNeg 3 ≤ 64 * (f 4).toInt) (p12 : 0 ≤ (f 44).toInt) (p13 : (f 44).toInt ≤ (f 4).toInt) (p14 : 0 ≤ (f 48).toInt) (p15 : (f 48).toInt ≤ (f 4).toInt) (p16 : 1 ≤ (f 53).toInt) (p17 : (f 53).toInt ≤ (f 4).toInt + 1) (p18 : 0 ≤ (f 19).toInt) (p19 : (f 19).toInt ≤ 600) (p20 : 0 ≤ mg_p1 gs) (p21 : 0 ≤ mg_p2 gs) (p22 : 0 ≤ mg_p4 gs) (p23 : 0 ≤ (f 10).toInt) (p24 : (f 10).toInt ≤ mg_p3 gs) (p25 : 0 ≤ mj_n (g 16) (f 15).toNatClampNeg 3) (p26 : 1 ≤ (f 15).toInt) (p27 : 0 ≤ (f 20).toInt) (p28 : 1 ≤ (f 37).toInt) (p29 : 0 ≤ (f 32).toInt) (p30 : (f 32).toInt ≤ (f 5).toInt) (p31 : (f 5).toInt ≤ 48) (p32 : (f 37).toInt ≤ 2 * (f 5).toInt + 1) (p33 : 0 ≤ on.toInt) (p34 : 1 ≤ tw.toInt) (p35 : on.toInt + 2 * tw.toInt ≤ 16000) : am_E (am_PP sc) (d + 8) 180 0 [some (.ref 39), some (.int 14), some (.int on), some (.int tw), some (.int th)] [] S (am_N fun v S1 => ∃ (f' : Nat → Int32) (g' : Nat → Nat → Int32) (gs' : List mg_E) (bc' : List (List Nat)), v = none ∧ MS S0 S1 f' g' ∧ (mg_on f (100 * ((f 0).toInt - (f 4).toInt) + (1 + mg_p3 gs)) f' g' gs' bc' ∨ mg_off f f' g' bc')) := by
  have hbs := mg_basic hrest
  refine am_e1 (v := 14) hi_180_0 rfl ?_
  refine am_e0 hi_180_1 ?_
  refine am_e13t hi_180_3 (by decide) ?_
  refine am_e1 (v := 14) hi_180_14 rfl ?_
  refine am_e19 (t := 262) hi_180_15 (by decide) ?_
  refine am_e2 (v := 39) hi_180_262 rfl ?_
  refine am_e1 (v := on) hi_180_263 rfl ?_
  refine am_e1 (v := tw) hi_180_264 rfl ?_
  refine am_e1 (v := th) hi_180_265 rfl ?_
  refine am_e32w (as := [.ref 39, .int on, .int tw, .int th]) (la := [some (.ref 39), some (.int on), some (.int tw), some (.int th), none, none, none, none]) (rest := []) hi_180_267 (am_hd0 (M := 180) (by decide) 267) (Nat.le_of_ble_eq_true rfl) (Nat.le_of_ble_eq_true rfl) (show 4 ≤ am_P0.2.2.1 257 from by decide +kernel) rfl (am_recv_ok hS.fs) rfl rfl ?_
  refine am_e2 (v := 39) hi_257_0 rfl ?_
  refine am_e0 hi_257_1 ?_
  refine am_e2 (v := 39) hi_257_2 rfl ?_
  refine mm_20 (v := .int (f 19)) hS hi_257_3 rfl ?_
  refine am_e32w (as := [.ref 39, .int 4, .int (f 19)]) (la := [some (.ref 39), some (.int 4), some (.int (f 19))]) (rest := []) hi_257_6 (am_hd0 (M := 257) (by decide) 6) (Nat.le_of_ble_eq_true rfl) (Nat.le_of_ble_eq_true rfl) (show 3 ≤ am_P0.2.2.1 258 from by decide +kernel) rfl (am_recv_ok hS.fs) rfl rfl ?_
  refine am_e2 (v := 39) hi_258_0 rfl ?_
  refine am_e32w (as := [.ref 39]) (la := [some (.ref 39)]) (rest := []) hi_258_1 (am_hd0 (M := 258) (by decide) 1) (Nat.le_of_ble_eq_true rfl) (Nat.le_of_ble_eq_true rfl) (show 1 ≤ am_P0.2.2.1 216 from by decide +kernel) rfl (am_recv_ok hS.fs) rfl rfl ?_
  refine am_e2 (v := 39) hi_216_0 rfl ?_
  refine mm_20 (v := .ref 46) hS hi_216_1 rfl ?_
  refine am_e2 (v := 39) hi_216_4 rfl ?_
  refine mm_20 (v := .int (f 15)) hS hi_216_5 rfl ?_
  refine am_e0 hi_216_8 ?_
  obtain ⟨z0, hz0, tz0⟩ := am_subI (x := f 15) (y := 1) (m := (f 15).toInt) (n := (1 : Int)) rfl (by decide) (by omega) (by omega)
  refine am_e10 (z := z0) hi_216_9 hz0 ?_
  refine mm_25 hS ma_16 hi_216_10 (by decide) (by omega) (by omega) ?_
  show am_E _ _ _ _ [some (.ref 39)] [.int (g 16 z0.toNatClampNeg)] _ _
  refine am_e0 hi_216_11 ?_
  by_cases c1 : (g 16 z0.toNatClampNeg).toInt = (1 : Int)
  · refine am_e13t hi_216_12 (am_cT (m := (g 16 z0.toNatClampNeg).toInt) (n := (1 : Int)) rfl (by decide) c1) ?_
    refine am_e0 hi_216_30 ?_
    refine am_e18 hi_216_31 ?_
    refine am_e36 hi_216_35 (by decide) ?_
    show am_E _ _ _ _ [some (.ref 39), some (.int 4), some (.int (f 19))] [.int 1] _ _
    refine am_e12f hi_258_4 (by decide) ?_
    refine am_e1 (v := f 19) hi_258_7 rfl ?_
    refine am_e1 (v := 4) hi_258_8 rfl ?_
    by_cases c2 : (4 : Int) < (f 19).toInt
    · refine am_e13t hi_258_9 (am_cT (m := (f 19).toInt) (n := (4 : Int)) rfl (by decide) c2) ?_
      refine am_e2 (v := 39) hi_258_31 rfl ?_
      refine am_e32w (as := [.ref 39]) (la := [some (.ref 39)]) (rest := []) hi_258_32 (am_hd0 (M := 258) (by decide) 32) (Nat.le_of_ble_eq_true rfl) (Nat.le_of_ble_eq_true rfl) (show 1 ≤ am_P0.2.2.1 209 from by decide +kernel) rfl (am_recv_ok hS.fs) rfl rfl ?_
      refine am_e2 (v := 39) hi_209_0 rfl ?_
      refine am_e32n (as := [.ref 39]) (la := [some (.ref 39), none, none, none]) (rest := []) hi_209_1 (am_hd0 (M := 209) (by decide) 1) (Nat.le_of_ble_eq_true rfl) (Nat.le_of_ble_eq_true rfl) (show 1 ≤ am_P0.2.2.1 204 from by decide +kernel) rfl (am_recv_ok hS.fs) rfl rfl (ct_load (d := (d + 2)) hS hR  (by show (0 : Int) ≤ (f 32).toInt; omega) (by show (f 32).toInt ≤ (63 : Int); omega) (by show (f 53).toInt ≤ (4096 : Int); omega) (by show (0 : Int) ≤ (f 68).toInt; omega) (by show (f 68).toInt ≤ (65534 : Int); omega) (by show (1 : Int) ≤ (f 15).toInt; omega) (by show (f 15).toInt ≤ (32767 : Int); omega) (by show (0 : Int) ≤ (f 24).toInt; omega) (by show (f 24).toInt ≤ (16384 : Int); omega) (by show (0 : Int) ≤ (f 62).toInt; omega) (by show (f 62).toInt ≤ (65000 : Int); omega)) ?_
      rintro v3 S4 (⟨o5, s6, m7, g'8, hv9, hS10, hR17, h11, h12, h13, h14, h15, h16⟩)
      subst hv9
      have h11_ : (f 62).toInt ≤ o5.toInt := h11
      have h12_ : o5.toInt ≤ (f 62).toInt + 64 := h12
      have h13_ : (f 68).toInt ≤ s6.toInt := h13
      have h14_ : s6.toInt ≤ (f 68).toInt + 1 := h14
      have h15_ : o5.toInt + 64 * mj_n (g'8 16) (f 15).toNatClampNeg 3 ≤ (f 62).toInt + 64 * mj_n (g 16) (f 15).toNatClampNeg 3 := h15
      have h16_ : ∀ j, j ∉ [16, 60, 63, 64, 65, 66, 67, 69, 70, 71, 72, 73] → g'8 j = g j := h16
      have hR17_ : RJ (upd (upd (upd f 62 o5) 68 s6) 75 m7) g'8 gs bc [] 0 [] := hR17
      show am_E _ _ _ _ [some (.ref 39)] [] _ _
      refine am_e2 (v := 39) hi_209_4 rfl ?_
      refine am_e7 hi_209_5 ?_
      refine mm_20 (v := .int (f 15)) hS10 hi_209_6 rfl ?_
      refine am_e0 hi_209_9 ?_
      refine am_e10 (z := z0) hi_209_10 hz0 ?_
      refine mm_21 (v := z0) hS10 hi_209_11 rfl (Nat.le_of_ble_eq_true rfl) ms_15 ?_
      intro S18 hS19
      replace hS19 : MS S0 S18 (upd (upd (upd (upd f 15 z0) 62 o5) 68 s6) 75 m7) g'8 := hS19
      have hp20 : mj_n (g'8 16) (f 15).toNatClampNeg 3 = mj_n (g'8 16) z0.toNatClampNeg 3 + if (g'8 16 z0.toNatClampNeg).toInt = 3 then 1 else 0 := mj_pop (by rw [cl_toNat, cl_toNat]; omega)
      have hp201 : mj_n (g'8 16) z0.toNatClampNeg 3 ≤ mj_n (g'8 16) (f 15).toNatClampNeg 3 := by rw [hp20]; split <;> omega
      have hp202 : (g'8 16 z0.toNatClampNeg).toInt = 3 → mj_n (g'8 16) z0.toNatClampNeg 3 + 1 ≤ mj_n (g'8 16) (f 15).toNatClampNeg 3 := fun q => by rw [hp20, if_pos q]; exact Int.le_refl _
      refine am_e35 hi_209_14 ?_
      show am_E _ _ _ _ [some (.ref 39), some (.int 4), some (.int (f 19))] [] _ _
      refine am_e2 (v := 39) hi_258_35 rfl ?_
      refine am_e1 (v := 4) hi_258_36 rfl ?_
      refine am_e1 (v := f 19) hi_258_37 rfl ?_
      obtain ⟨z21, hz21, tz21⟩ := am_subI (x := 4) (y := f 19) (m := (4 : Int)) (n := (f 19).toInt) (by decide) rfl (by omega) (by omega)
      refine am_e10 (z := z21) hi_258_38 hz21 ?_
      refine am_e32n (as := [.ref 39, .int z21]) (la := [some (.ref 39), some (.int z21), none]) (rest := []) hi_258_39 (am_hd0 (M := 258) (by decide) 39) (Nat.le_of_ble_eq_true rfl) (Nat.le_of_ble_eq_true rfl) (show 2 ≤ am_P0.2.2.1 240 from by decide +kernel) rfl (am_recv_ok hS19.fs) rfl rfl (ct_nils (d := (d + 4)) hS19 hR17_  (by show (0 : Int) ≤ (f 32).toInt; omega) (by show (f 32).toInt ≤ (63 : Int); omega) (by show (f 53).toInt ≤ (4096 : Int); omega) (by show (0 : Int) ≤ s6.toInt; omega) (by show s6.toInt ≤ (65534 : Int); omega) (by show s6.toInt + z21.toInt ≤ 65534; omega)) ?_
      rintro v22 S23 (⟨s24, g'25, hv26, hS27, hR31, h28, h29, h30⟩)
      subst hv26
      have h28_ : s6.toInt ≤ s24.toInt := h28
      have h29_ : s24.toInt ≤ s6.toInt + z21.toInt ∨ s24.toInt ≤ s6.toInt := h29
      have h30_ : ∀ j, j ∉ [60, 69, 70, 71, 72, 73] → g'25 j = g'8 j := h30
      replace hS27 : MS S0 S23 (upd (upd (upd (upd f 15 z0) 62 o5) 68 s24) 75 m7) g'25 := hS27
      have hR31_ : RJ (upd (upd (upd (upd f 15 z0) 62 o5) 68 s24) 75 m7) g'25 gs bc [] 0 [] := hR31
      show am_E _ _ _ _ [some (.ref 39), some (.int 4), some (.int (f 19))] [] _ _
      refine am_e1 (v := f 19) hi_258_42 rfl ?_
      refine am_e1 (v := 4) hi_258_43 rfl ?_
      refine am_e13f hi_258_44 (am_cF (m := (f 19).toInt) (n := (4 : Int)) rfl (by decide) (by simp only [am_cI]; omega)) ?_
      refine am_e2 (v := 39) hi_258_47 rfl ?_
      refine am_e0 hi_258_48 ?_
      refine am_e1 (v := f 19) hi_258_50 rfl ?_
      refine am_e1 (v := 4) hi_258_51 rfl ?_
      obtain ⟨z32, hz32, tz32⟩ := am_subI (x := f 19) (y := 4) (m := (f 19).toInt) (n := (4 : Int)) rfl (by decide) (by omega) (by omega)
      refine am_e10 (z := z32) hi_258_52 hz32 ?_
      refine am_e0 hi_258_53 ?_
      refine am_e0 hi_258_54 ?_
      refine am_e32n (as := [.ref 39, .int 26, .int z32, .int 0, .int 0]) (la := [some (.ref 39), some (.int 26), some (.int z32), some (.int 0), some (.int 0)]) (rest := []) hi_258_55 (am_hd0 (M := 258) (by decide) 55) (Nat.le_of_ble_eq_true rfl) (Nat.le_of_ble_eq_true rfl) (show 5 ≤ am_P0.2.2.1 189 from by decide +kernel) rfl (am_recv_ok hS27.fs) rfl rfl (ct_put (d := (d + 5)) hS27 hR31_  (by show (0 : Int) ≤ (f 32).toInt; omega) (by show (f 32).toInt ≤ (63 : Int); omega) (by show (f 53).toInt ≤ (4096 : Int); omega) (by show (0 : Int) ≤ s24.toInt; omega) (by show s24.toInt ≤ (65534 : Int); omega)) ?_
      rintro v33 S34 (⟨z35, r36, g'37, hv38, hS39, hR43, h40, h41, h42⟩)
      subst hv38
      have h40_ : z35.toInt = s24.toInt + 1 := h40
      have h41_ : r36.toInt = s24.toInt := h41
      have h42_ : ∀ j, j ∉ [60, 69, 70, 71, 72, 73] → g'37 j = g'25 j := h42
      replace hS39 : MS S0 S34 (upd (upd (upd (upd f 15 z0) 62 o5) 68 z35) 75 m7) g'37 := hS39
      have hR43_ : RJ (upd (upd (upd (upd f 15 z0) 62 o5) 68 z35) 75 m7) g'37 gs bc [] 0 (s24.toNatClampNeg :: []) := hR43
      show am_E _ _ _ _ [some (.ref 39), some (.int 4), some (.int (f 19))] [.int r36] _ _
      refine am_e6i hi_258_58 ?_
      refine am_e35 hi_258_59 ?_
      show am_E _ _ _ _ [some (.ref 39), some (.int on), some (.int tw), some (.int th), none, none, none, none] [] _ _
      refine am_e2 (v := 39) hi_257_9 rfl ?_
      refine am_e0 hi_257_10 ?_
      refine am_e32n (as := [.ref 39, .int 12]) (la := [some (.ref 39), some (.int 12)]) (rest := []) hi_257_12 (am_hd0 (M := 257) (by decide) 12) (Nat.le_of_ble_eq_true rfl) (Nat.le_of_ble_eq_true rfl) (show 2 ≤ am_P0.2.2.1 193 from by decide +kernel) rfl (am_recv_ok hS39.fs) rfl rfl (ct_enter (d := (d + 4)) hS39   (by show (0 : Int) ≤ (f 4).toInt; omega) (by show (f 0).toInt ≤ (16384 : Int); omega) (by show (0 : Int) ≤ (12 : Int); omega) (by show (0 : Int) ≤ (f 5).toInt; omega) (by show (f 5).toInt ≤ (48 : Int); omega)) ?_
      rintro v44 S45 (⟨z46, y47, hv48, hS49, h50, h51, h52, h53⟩ | ⟨a55, b56, hv57, hS58⟩)
      · subst hv48
        have h50_ : z46.toInt = (f 4).toInt + 1 := h50
        have h51_ : (f 4).toInt < (f 0).toInt := h51
        have h52_ : y47.toInt = (f 5).toInt + 1 := h52
        have h53_ : y47.toInt ≤ (48 : Int) := h53
        replace hS49 : MS S0 S45 (upd (upd (upd (upd (upd (upd f 4 z46) 5 y47) 15 z0) 62 o5) 68 z35) 75 m7) g'37 := hS49
        have hR60 : RJ (upd (upd (upd (upd (upd (upd f 4 z46) 5 y47) 15 z0) 62 o5) 68 z35) 75 m7) g'37 gs bc [] 0 (s24.toNatClampNeg :: []) := RJ.at hR43_ (by show (f 4).toInt ≤ z46.toInt; omega)
        show am_E _ _ _ _ [some (.ref 39), some (.int on), some (.int tw), some (.int th), none, none, none, none] [.int 1] _ _
        refine am_e12t hi_257_15 (by decide) ?_
        refine am_e2 (v := 39) hi_257_19 rfl ?_
        refine am_e32w (as := [.ref 39]) (la := [some (.ref 39)]) (rest := []) hi_257_20 (am_hd0 (M := 257) (by decide) 20) (Nat.le_of_ble_eq_true rfl) (Nat.le_of_ble_eq_true rfl) (show 1 ≤ am_P0.2.2.1 197 from by decide +kernel) rfl (am_recv_ok hS49.fs) rfl rfl ?_
        refine am_e2 (v := 39) hi_197_0 rfl ?_
        refine mm_20 (v := .int (f 24)) hS49 hi_197_1 rfl ?_
        refine am_e2 (v := 39) hi_197_4 rfl ?_
        refine mm_20 (v := .ref 59) hS49 hi_197_5 rfl ?_
        refine am_e2 (v := 39) hi_197_8 rfl ?_
        refine mm_20 (v := .int (f 32)) hS49 hi_197_9 rfl ?_
        refine mm_25 hS49 ma_34 hi_197_12 (by decide) (by omega) (by omega) ?_
        show am_E _ _ _ _ _ (.int (g'37 34 (f 32).toNatClampNeg) :: _) _ _
        rw [show g'37 34 = g'25 34 from h42_ 34 (by decide), show g'25 34 = g'8 34 from h30_ 34 (by decide), show g'8 34 = g 34 from h16_ 34 (by decide)]
        show am_E _ _ _ _ [some (.ref 39)] [.int (g 34 (f 32).toNatClampNeg), .int (f 24)] _ _
        have r61 : 0 ≤ (g 34 (f 32).toNatClampNeg).toInt := by
          have h := RJ.ba hR60 (f 32).toNatClampNeg
          rw [show g'37 34 = g'25 34 from h42_ 34 (by decide), show g'25 34 = g'8 34 from h30_ 34 (by decide), show g'8 34 = g 34 from h16_ 34 (by decide)] at h
          exact h
        have r62 : (g 34 (f 32).toNatClampNeg).toInt ≤ 2147483647 := i32_le _
        obtain ⟨z63, hz63, tz63⟩ := am_subI (x := f 24) (y := g 34 (f 32).toNatClampNeg) (m := (f 24).toInt) (n := (g 34 (f 32).toNatClampNeg).toInt) rfl rfl (by omega) (by omega)
        refine am_e10 (z := z63) hi_197_13 hz63 ?_
        refine am_e33 hi_197_14 ?_
        show am_E _ _ _ _ [some (.ref 39), some (.int on), some (.int tw), some (.int th), none, none, none, none] [.int z63] _ _
        refine am_e3 (ls' := [some (.ref 39), some (.int on), some (.int tw), some (.int th), some (.int z63), none, none, none]) hi_257_23 (Nat.le_of_ble_eq_true rfl) rfl ?_
        refine am_e2 (v := 39) hi_257_25 rfl ?_
        refine am_e0 hi_257_26 ?_
        refine am_e0 hi_257_27 ?_
        refine am_e1 (v := on) hi_257_28 rfl ?_
        refine am_e32n (as := [.ref 39, .int 4, .int 1, .int on]) (la := [some (.ref 39), some (.int 4), some (.int 1), some (.int on), none]) (rest := []) hi_257_29 (am_hd0 (M := 257) (by decide) 29) (Nat.le_of_ble_eq_true rfl) (Nat.le_of_ble_eq_true rfl) (show 4 ≤ am_P0.2.2.1 254 from by decide +kernel) rfl (am_recv_ok hS49.fs) rfl rfl (ct_hide (d := (d + 4)) hS49 hR60 (by decide)  (by show (0 : Int) ≤ (f 32).toInt; omega) (by show (f 32).toInt ≤ (63 : Int); omega) (by show (f 53).toInt ≤ (4096 : Int); omega) (by show (0 : Int) ≤ (f 24).toInt; omega) (by show (f 24).toInt ≤ (16000 : Int); omega) (by show (0 : Int) ≤ (4 : Int); omega) (by show (4 : Int) ≤ (16 : Int); omega)) ?_
        rintro v64 S65 (⟨a66, b67, l68, y69, g'70, hv71, hS72, hR75, h73, h74⟩)
        subst hv71
        have h73_ : l68.toInt = (f 24).toInt + (4 : Int) := h73
        have h74_ : ∀ j, j ∉ [25, 26, 27, 28, 29, 30, 58] → g'70 j = g'37 j := h74
        replace hS72 : MS S0 S65 (upd (upd (upd (upd (upd (upd (upd (upd (upd (upd f 4 z46) 5 y47) 8 a66) 9 b67) 15 z0) 24 l68) 31 y69) 62 o5) 68 z35) 75 m7) g'70 := hS72
        have hR75_ : RJ (upd (upd (upd (upd (upd (upd (upd (upd (upd (upd f 4 z46) 5 y47) 8 a66) 9 b67) 15 z0) 24 l68) 31 y69) 62 o5) 68 z35) 75 m7) g'70 gs bc [] 0 (s24.toNatClampNeg :: []) := hR75
        show am_E _ _ _ _ [some (.ref 39), some (.int on), some (.int tw), some (.int th), some (.int z63), none, none, none] [] _ _
        refine am_e2 (v := 39) hi_257_32 rfl ?_
        refine am_e0 hi_257_33 ?_
        refine am_e1 (v := z63) hi_257_35 rfl ?_
        refine am_e0 hi_257_37 ?_
        refine am_e1 (v := on) hi_257_38 rfl ?_
        refine am_e32n (as := [.ref 39, .int 42, .int z63, .int 0, .int on]) (la := [some (.ref 39), some (.int 42), some (.int z63), some (.int 0), some (.int on)]) (rest := []) hi_257_39 (am_hd0 (M := 257) (by decide) 39) (Nat.le_of_ble_eq_true rfl) (Nat.le_of_ble_eq_true rfl) (show 5 ≤ am_P0.2.2.1 189 from by decide +kernel) rfl (am_recv_ok hS72.fs) rfl rfl (ct_put (d := (d + 6)) hS72 hR75_  (by show (0 : Int) ≤ (f 32).toInt; omega) (by show (f 32).toInt ≤ (63 : Int); omega) (by show (f 53).toInt ≤ (4096 : Int); omega) (by show (0 : Int) ≤ z35.toInt; omega) (by show z35.toInt ≤ (65534 : Int); omega)) ?_
        rintro v76 S77 (⟨z78, r79, g'80, hv81, hS82, hR86, h83, h84, h85⟩)
        subst hv81
        have h83_ : z78.toInt = z35.toInt + 1 := h83
        have h84_ : r79.toInt = z35.toInt := h84
        have h85_ : ∀ j, j ∉ [60, 69, 70, 71, 72, 73] → g'80 j = g'70 j := h85
        replace hS82 : MS S0 S77 (upd (upd (upd (upd (upd (upd (upd (upd (upd (upd f 4 z46) 5 y47) 8 a66) 9 b67) 15 z0) 24 l68) 31 y69) 62 o5) 68 z78) 75 m7) g'80 := hS82
        have hR86_ : RJ (upd (upd (upd (upd (upd (upd (upd (upd (upd (upd f 4 z46) 5 y47) 8 a66) 9 b67) 15 z0) 24 l68) 31 y69) 62 o5) 68 z78) 75 m7) g'80 gs bc [] 0 (z35.toNatClampNeg :: (s24.toNatClampNeg :: [])) := hR86
        show am_E _ _ _ _ [some (.ref 39), some (.int on), some (.int tw), some (.int th), some (.int z63), none, none, none] [.int r79] _ _
        refine am_e6i hi_257_42 ?_
        refine am_e2 (v := 39) hi_257_43 rfl ?_
        refine am_e32n (as := [.ref 39]) (la := [some (.ref 39)]) (rest := []) hi_257_44 (am_hd0 (M := 257) (by decide) 44) (Nat.le_of_ble_eq_true rfl) (Nat.le_of_ble_eq_true rfl) (show 1 ≤ am_P0.2.2.1 210 from by decide +kernel) rfl (am_recv_ok hS82.fs) rfl rfl (ct_here (d := (d + 6)) hS82 hR86_  (by show (0 : Int) ≤ (f 32).toInt; omega) (by show (f 32).toInt ≤ (63 : Int); omega) (by show (f 53).toInt ≤ (4096 : Int); omega) (by show (0 : Int) ≤ z78.toInt; omega) (by show z78.toInt ≤ (65534 : Int); omega)) ?_
        rintro v87 S88 (⟨r89, hv90, hS91, h92, h93⟩)
        subst hv90
        have h92_ : (0 : Int) ≤ r89.toInt := h92
        have h93_ : r89.toInt ≤ z78.toInt := h93
        show am_E _ _ _ _ [some (.ref 39), some (.int on), some (.int tw), some (.int th), some (.int z63), none, none, none] [.int r89] _ _
        refine am_e3 (ls' := [some (.ref 39), some (.int on), some (.int tw), some (.int th), some (.int z63), some (.int r89), none, none]) hi_257_47 (Nat.le_of_ble_eq_true rfl) rfl ?_
        refine am_e2 (v := 39) hi_257_49 rfl ?_
        refine am_e0 hi_257_50 ?_
        refine am_e0 hi_257_52 ?_
        refine am_e0 hi_257_53 ?_
        refine am_e1 (v := on) hi_257_54 rfl ?_
        refine am_e32n (as := [.ref 39, .int 34, .int 0, .int 0, .int on]) (la := [some (.ref 39), some (.int 34), some (.int 0), some (.int 0), some (.int on)]) (rest := []) hi_257_55 (am_hd0 (M := 257) (by decide) 55) (Nat.le_of_ble_eq_true rfl) (Nat.le_of_ble_eq_true rfl) (show 5 ≤ am_P0.2.2.1 189 from by decide +kernel) rfl (am_recv_ok hS91.fs) rfl rfl (ct_put (d := (d + 6)) hS91 hR86_  (by show (0 : Int) ≤ (f 32).toInt; omega) (by show (f 32).toInt ≤ (63 : Int); omega) (by show (f 53).toInt ≤ (4096 : Int); omega) (by show (0 : Int) ≤ z78.toInt; omega) (by show z78.toInt ≤ (65534 : Int); omega)) ?_
        rintro v95 S96 (⟨z97, r98, g'99, hv100, hS101, hR105, h102, h103, h104⟩)
        subst hv100
        have h102_ : z97.toInt = z78.toInt + 1 := h102
        have h103_ : r98.toInt = z78.toInt := h103
        have h104_ : ∀ j, j ∉ [60, 69, 70, 71, 72, 73] → g'99 j = g'80 j := h104
        replace hS101 : MS S0 S96 (upd (upd (upd (upd (upd (upd (upd (upd (upd (upd f 4 z46) 5 y47) 8 a66) 9 b67) 15 z0) 24 l68) 31 y69) 62 o5) 68 z97) 75 m7) g'99 := hS101
        have hR105_ : RJ (upd (upd (upd (upd (upd (upd (upd (upd (upd (upd f 4 z46) 5 y47) 8 a66) 9 b67) 15 z0) 24 l68) 31 y69) 62 o5) 68 z97) 75 m7) g'99 gs bc [] 0 (z78.toNatClampNeg :: (z35.toNatClampNeg :: (s24.toNatClampNeg :: []))) := hR105
        show am_E _ _ _ _ [some (.ref 39), some (.int on), some (.int tw), some (.int th), some (.int z63), some (.int r89), none, none] [.int r98] _ _
        refine am_e6i hi_257_58 ?_
        refine am_e2 (v := 39) hi_257_59 rfl ?_
        refine am_e0 hi_257_60 ?_
        refine am_e1 (v := z63) hi_257_62 rfl ?_
        refine am_e1 (v := tw) hi_257_64 rfl ?_
        refine am_e1 (v := th) hi_257_65 rfl ?_
        refine am_e32n (as := [.ref 39, .int 43, .int z63, .int tw, .int th]) (la := [some (.ref 39), some (.int 43), some (.int z63), some (.int tw), some (.int th)]) (rest := []) hi_257_66 (am_hd0 (M := 257) (by decide) 66) (Nat.le_of_ble_eq_true rfl) (Nat.le_of_ble_eq_true rfl) (show 5 ≤ am_P0.2.2.1 189 from by decide +kernel) rfl (am_recv_ok hS101.fs) rfl rfl (ct_put (d := (d + 6)) hS101 hR105_  (by show (0 : Int) ≤ (f 32).toInt; omega) (by show (f 32).toInt ≤ (63 : Int); omega) (by show (f 53).toInt ≤ (4096 : Int); omega) (by show (0 : Int) ≤ z97.toInt; omega) (by show z97.toInt ≤ (65534 : Int); omega)) ?_
        rintro v106 S107 (⟨z108, r109, g'110, hv111, hS112, hR116, h113, h114, h115⟩)
        subst hv111
        have h113_ : z108.toInt = z97.toInt + 1 := h113
        have h114_ : r109.toInt = z97.toInt := h114
        have h115_ : ∀ j, j ∉ [60, 69, 70, 71, 72, 73] → g'110 j = g'99 j := h115
        replace hS112 : MS S0 S107 (upd (upd (upd (upd (upd (upd (upd (upd (upd (upd f 4 z46) 5 y47) 8 a66) 9 b67) 15 z0) 24 l68) 31 y69) 62 o5) 68 z108) 75 m7) g'110 := hS112
        have hR116_ : RJ (upd (upd (upd (upd (upd (upd (upd (upd (upd (upd f 4 z46) 5 y47) 8 a66) 9 b67) 15 z0) 24 l68) 31 y69) 62 o5) 68 z108) 75 m7) g'110 gs bc [] 0 (z97.toNatClampNeg :: (z78.toNatClampNeg :: (z35.toNatClampNeg :: (s24.toNatClampNeg :: [])))) := hR116
        show am_E _ _ _ _ [some (.ref 39), some (.int on), some (.int tw), some (.int th), some (.int z63), some (.int r89), none, none] [.int r109] _ _
        refine am_e6i hi_257_69 ?_
        refine am_e2 (v := 39) hi_257_70 rfl ?_
        refine am_e0 hi_257_71 ?_
        refine am_e1 (v := z63) hi_257_73 rfl ?_
        refine am_e0 hi_257_75 ?_
        refine am_e0 hi_257_76 ?_
        refine am_e32n (as := [.ref 39, .int 44, .int z63, .int 0, .int 0]) (la := [some (.ref 39), some (.int 44), some (.int z63), some (.int 0), some (.int 0)]) (rest := []) hi_257_77 (am_hd0 (M := 257) (by decide) 77) (Nat.le_of_ble_eq_true rfl) (Nat.le_of_ble_eq_true rfl) (show 5 ≤ am_P0.2.2.1 189 from by decide +kernel) rfl (am_recv_ok hS112.fs) rfl rfl (ct_put (d := (d + 6)) hS112 hR116_  (by show (0 : Int) ≤ (f 32).toInt; omega) (by show (f 32).toInt ≤ (63 : Int); omega) (by show (f 53).toInt ≤ (4096 : Int); omega) (by show (0 : Int) ≤ z108.toInt; omega) (by show z108.toInt ≤ (65534 : Int); omega)) ?_
        rintro v117 S118 (⟨z119, r120, g'121, hv122, hS123, hR127, h124, h125, h126⟩)
        subst hv122
        have h124_ : z119.toInt = z108.toInt + 1 := h124
        have h125_ : r120.toInt = z108.toInt := h125
        have h126_ : ∀ j, j ∉ [60, 69, 70, 71, 72, 73] → g'121 j = g'110 j := h126
        replace hS123 : MS S0 S118 (upd (upd (upd (upd (upd (upd (upd (upd (upd (upd f 4 z46) 5 y47) 8 a66) 9 b67) 15 z0) 24 l68) 31 y69) 62 o5) 68 z119) 75 m7) g'121 := hS123
        have hR127_ : RJ (upd (upd (upd (upd (upd (upd (upd (upd (upd (upd f 4 z46) 5 y47) 8 a66) 9 b67) 15 z0) 24 l68) 31 y69) 62 o5) 68 z119) 75 m7) g'121 gs bc [] 0 (z108.toNatClampNeg :: (z97.toNatClampNeg :: (z78.toNatClampNeg :: (z35.toNatClampNeg :: (s24.toNatClampNeg :: []))))) := hR127
        show am_E _ _ _ _ [some (.ref 39), some (.int on), some (.int tw), some (.int th), some (.int z63), some (.int r89), none, none] [.int r120] _ _
        refine am_e3 (ls' := [some (.ref 39), some (.int on), some (.int tw), some (.int th), some (.int z63), some (.int r89), some (.int r120), none]) hi_257_80 (Nat.le_of_ble_eq_true rfl) rfl ?_
        refine am_e2 (v := 39) hi_257_82 rfl ?_
        refine am_e0 hi_257_83 ?_
        refine am_e32n (as := [.ref 39, .int 1]) (la := [some (.ref 39), some (.int 1)]) (rest := []) hi_257_84 (am_hd0 (M := 257) (by decide) 84) (Nat.le_of_ble_eq_true rfl) (Nat.le_of_ble_eq_true rfl) (show 2 ≤ am_P0.2.2.1 177 from by decide +kernel) rfl (am_recv_ok hS123.fs) rfl rfl (ct_beginBlock2 (d := (d + 6)) hS123 hR127_ (by decide)  (by show (0 : Int) ≤ (f 37).toInt; omega) (by show (f 37).toInt ≤ (127 : Int); omega) (by show (0 : Int) ≤ l68.toInt; omega) (by show (0 : Int) ≤ (f 44).toInt; omega) (by show (f 44).toInt ≤ z46.toInt; omega) (by show (0 : Int) ≤ (f 48).toInt; omega)) ?_
        rintro v128 S129 (⟨z130, g'131, hv132, hS133, hR137, h134, h135, h136⟩)
        subst hv132
        have h134_ : z130.toInt = (f 37).toInt + 1 := h134
        have h135_ : ∀ j, j ∉ [38, 39, 40, 41, 42, 43] → g'131 j = g'121 j := h135
        have h136_ : g'131 38 = upd (g'121 38) (f 37).toNatClampNeg l68 := h136
        replace hS133 : MS S0 S129 (upd (upd (upd (upd (upd (upd (upd (upd (upd (upd (upd f 4 z46) 5 y47) 8 a66) 9 b67) 15 z0) 24 l68) 31 y69) 37 z130) 62 o5) 68 z119) 75 m7) g'131 := hS133
        have hR137_ : RJ (upd (upd (upd (upd (upd (upd (upd (upd (upd (upd (upd f 4 z46) 5 y47) 8 a66) 9 b67) 15 z0) 24 l68) 31 y69) 37 z130) 62 o5) 68 z119) 75 m7) g'131 gs ([] :: bc) [] 0 (z108.toNatClampNeg :: (z97.toNatClampNeg :: (z78.toNatClampNeg :: (z35.toNatClampNeg :: (s24.toNatClampNeg :: []))))) := hR137
        show am_E _ _ _ _ [some (.ref 39), some (.int on), some (.int tw), some (.int th), some (.int z63), some (.int r89), some (.int r120), none] [] _ _
        refine am_e0 hi_257_87 ?_
        refine am_e3 (ls' := [some (.ref 39), some (.int on), some (.int tw), some (.int th), some (.int z63), some (.int r89), some (.int r120), some (.int 0)]) hi_257_88 (Nat.le_of_ble_eq_true rfl) rfl ?_
        refine fr_each (d := (d + 2)) (f := (upd (upd (upd (upd (upd (upd (upd (upd (upd (upd (upd f 4 z46) 5 y47) 8 a66) 9 b67) 15 z0) 24 l68) 31 y69) 37 z130) 62 o5) 68 z119) 75 m7)) (g := g'131) (w := on) (m := tw) (x3 := th) (c4 := z63) (h5 := r89) (q6 := r120)  (by show (0 : Int) ≤ (f 32).toInt; omega) (by show (f 32).toInt ≤ (63 : Int); omega) (by show (f 53).toInt ≤ (4096 : Int); omega) (by show (0 : Int) ≤ l68.toInt; omega) (by show l68.toInt + tw.toInt ≤ 16383; omega) (by show (0 : Int) ≤ on.toInt; omega) (by show on.toInt + 2 * tw.toInt ≤ 16000; omega) ?_ ((tw.toInt - (0 : Int)).toNat + 1) _ 0 a66 b67 l68 y69 _ hS133 hR137_ (fun _ _ => rfl) (by show (0 : Int) ≤ (0 : Int); omega) (by show (0 : Int) ≤ tw.toInt; omega) (by show l68.toInt = l68.toInt + (0 : Int); omega) (by show tw.toInt - (0 : Int) < _; omega)
        · intro S143 i138 a139 b140 l141 y142 gx146 hS144 hR145 hg147 h148
          replace hS144 : MS S0 S143 (upd (upd (upd (upd (upd (upd (upd (upd (upd (upd (upd f 4 z46) 5 y47) 8 a139) 9 b140) 15 z0) 24 l141) 31 y142) 37 z130) 62 o5) 68 z119) 75 m7) gx146 := hS144
          have h148_ : l141.toInt = l68.toInt + tw.toInt := h148
          have hR145_ : RJ (upd (upd (upd (upd (upd (upd (upd (upd (upd (upd (upd f 4 z46) 5 y47) 8 a139) 9 b140) 15 z0) 24 l141) 31 y142) 37 z130) 62 o5) 68 z119) 75 m7) gx146 gs ([] :: bc) [] 0 (z108.toNatClampNeg :: (z97.toNatClampNeg :: (z78.toNatClampNeg :: (z35.toNatClampNeg :: (s24.toNatClampNeg :: []))))) := hR145
          show am_E _ _ _ _ [some (.ref 39), some (.int on), some (.int tw), some (.int th), some (.int z63), some (.int r89), some (.int r120), some (.int i138)] [] _ _
          refine am_e2 (v := 39) hi_257_129 rfl ?_
          refine am_e0 hi_257_130 ?_
          refine am_e1 (v := r120) hi_257_132 rfl ?_
          refine am_e1 (v := r89) hi_257_134 rfl ?_
          refine am_e1 (v := z63) hi_257_136 rfl ?_
          refine am_e32n (as := [.ref 39, .int 15, .int r120, .int r89, .int z63]) (la := [some (.ref 39), some (.int 15), some (.int r120), some (.int r89), some (.int z63)]) (rest := []) hi_257_138 (am_hd0 (M := 257) (by decide) 138) (Nat.le_of_ble_eq_true rfl) (Nat.le_of_ble_eq_true rfl) (show 5 ≤ am_P0.2.2.1 179 from by decide +kernel) rfl (am_recv_ok hS144.fs) rfl rfl (ct_pile (d := (d + 6)) hS144 hR145_ (mj_e_b (by decide) (by omega) (by show r120.toInt < z119.toInt; omega)) (by show (0 : Int) ≤ (f 10).toInt; omega) (by show (f 10).toInt ≤ (65535 : Int); omega)) ?_
          rintro v149 S150 (⟨z151, g'152, hv153, hS154, hR157, h155, h156⟩)
          subst hv153
          have h155_ : z151.toInt = (f 10).toInt + 1 := h155
          have h156_ : ∀ j, j ∉ [11, 12, 13, 14] → g'152 j = gx146 j := h156
          replace hS154 : MS S0 S150 (upd (upd (upd (upd (upd (upd (upd (upd (upd (upd (upd (upd f 4 z46) 5 y47) 8 a139) 9 b140) 10 z151) 15 z0) 24 l141) 31 y142) 37 z130) 62 o5) 68 z119) 75 m7) g'152 := hS154
          have hR157_ : RJ (upd (upd (upd (upd (upd (upd (upd (upd (upd (upd (upd (upd f 4 z46) 5 y47) 8 a139) 9 b140) 10 z151) 15 z0) 24 l141) 31 y142) 37 z130) 62 o5) 68 z119) 75 m7) g'152 (((15 : Int), r120.toInt, r89.toInt, z63.toInt, []) :: gs) ([] :: bc) [] 0 (z108.toNatClampNeg :: (z97.toNatClampNeg :: (z78.toNatClampNeg :: (z35.toNatClampNeg :: (s24.toNatClampNeg :: []))))) := hR157
          show am_E _ _ _ _ [some (.ref 39), some (.int on), some (.int tw), some (.int th), some (.int z63), some (.int r89), some (.int r120), some (.int i138)] [] _ _
          refine am_e2 (v := 39) hi_257_141 rfl ?_
          refine am_e32w (as := [.ref 39]) (la := [some (.ref 39)]) (rest := []) hi_257_142 (am_hd0 (M := 257) (by decide) 142) (Nat.le_of_ble_eq_true rfl) (Nat.le_of_ble_eq_true rfl) (show 1 ≤ am_P0.2.2.1 178 from by decide +kernel) rfl (am_recv_ok hS154.fs) rfl rfl ?_
          refine am_e2 (v := 39) hi_178_0 rfl ?_
          refine am_e0 hi_178_1 ?_
          refine am_e0 hi_178_2 ?_
          refine am_e0 hi_178_3 ?_
          refine am_e0 hi_178_4 ?_
          refine am_e32n (as := [.ref 39, .int 1, .int 0, .int 0, .int 0]) (la := [some (.ref 39), some (.int 1), some (.int 0), some (.int 0), some (.int 0)]) (rest := []) hi_178_5 (am_hd0 (M := 178) (by decide) 5) (Nat.le_of_ble_eq_true rfl) (Nat.le_of_ble_eq_true rfl) (show 5 ≤ am_P0.2.2.1 179 from by decide +kernel) rfl (am_recv_ok hS154.fs) rfl rfl (ct_pile (d := (d + 5)) hS154 hR157_ (mj_e_plain (by decide)) (by show (0 : Int) ≤ z151.toInt; omega) (by show z151.toInt ≤ (65535 : Int); omega)) ?_
          rintro v158 S159 (⟨z160, g'161, hv162, hS163, hR166, h164, h165⟩)
          subst hv162
          have h164_ : z160.toInt = z151.toInt + 1 := h164
          have h165_ : ∀ j, j ∉ [11, 12, 13, 14] → g'161 j = g'152 j := h165
          replace hS163 : MS S0 S159 (upd (upd (upd (upd (upd (upd (upd (upd (upd (upd (upd (upd f 4 z46) 5 y47) 8 a139) 9 b140) 10 z160) 15 z0) 24 l141) 31 y142) 37 z130) 62 o5) 68 z119) 75 m7) g'161 := hS163
          have hR166_ : RJ (upd (upd (upd (upd (upd (upd (upd (upd (upd (upd (upd (upd f 4 z46) 5 y47) 8 a139) 9 b140) 10 z160) 15 z0) 24 l141) 31 y142) 37 z130) 62 o5) 68 z119) 75 m7) g'161 (((1 : Int), (0 : Int), (0 : Int), (0 : Int), []) :: (((15 : Int), r120.toInt, r89.toInt, z63.toInt, []) :: gs)) ([] :: bc) [] 0 (z108.toNatClampNeg :: (z97.toNatClampNeg :: (z78.toNatClampNeg :: (z35.toNatClampNeg :: (s24.toNatClampNeg :: []))))) := hR166
          show am_E _ _ _ _ [some (.ref 39)] [] _ _
          refine am_e35 hi_178_8 ?_
          show am_E _ _ _ _ [some (.ref 39), some (.int on), some (.int tw), some (.int th), some (.int z63), some (.int r89), some (.int r120), some (.int i138)] [] _ _
          refine am_e35 hi_257_145 ?_
          show am_E _ _ _ _ [some (.ref 39), some (.int 14), some (.int on), some (.int tw), some (.int th)] [] _ _
          refine am_e18 hi_180_270 ?_
          refine am_e35 hi_180_371 ?_
          have q1 : mg_p1 (((1 : Int), (0 : Int), (0 : Int), (0 : Int), []) :: (((15 : Int), r120.toInt, r89.toInt, z63.toInt, []) :: gs)) = 0 + (0 + (mg_p1 gs)) := rfl
          have q2 : mg_p2 (((1 : Int), (0 : Int), (0 : Int), (0 : Int), []) :: (((15 : Int), r120.toInt, r89.toInt, z63.toInt, []) :: gs)) = 0 + (0 + (mg_p2 gs)) := rfl
          have q3 : mg_p3 (((1 : Int), (0 : Int), (0 : Int), (0 : Int), []) :: (((15 : Int), r120.toInt, r89.toInt, z63.toInt, []) :: gs)) = 1 + (1 + (mg_p3 gs)) := rfl
          have q4 : mg_p4 (((1 : Int), (0 : Int), (0 : Int), (0 : Int), []) :: (((15 : Int), r120.toInt, r89.toInt, z63.toInt, []) :: gs)) = 0 + (0 + (mg_p4 gs)) := rfl
          refine ⟨_, _, _, ([] :: bc), rfl, hS163, Or.inl ⟨⟨(RJ.fewer (pj' := []) hR166_ (fun _ h => nomatch h)), ?_, ?_⟩, rfl, ?_⟩⟩
          · exact (⟨⟨(show mg_k 1 from by decide), (show (0 : Int) ≤ z0.toInt from by omega), (show 0 ≤ (f 20).toInt from by omega), (show 1 ≤ z130.toInt from by omega), (show 0 ≤ (f 32).toInt from by omega), (show (f 32).toInt ≤ y47.toInt from by omega), (show y47.toInt ≤ 48 from by omega), (show z130.toInt ≤ 2 * (y47.toInt) + 1 from by omega), trivial⟩, ⟨⟨(show mg_k 15 from by decide), (show (0 : Int) ≤ z0.toInt + 0 from by omega), (show 0 ≤ (f 20).toInt from by omega), (show 1 ≤ z130.toInt + 0 from by omega), (show 0 ≤ (f 32).toInt + 0 from by omega), (show (f 32).toInt + 0 ≤ y47.toInt + 0 from by omega), (show y47.toInt + 0 ≤ 48 from by omega), (show z130.toInt + 0 ≤ 2 * (y47.toInt + 0) + 0 from by omega), (mg_pa13 (l1 := l68) hR (by show g'161 34 = g 34; rw [show g'161 34 = g'152 34 from h165_ 34 (by decide), show g'152 34 = gx146 34 from h156_ 34 (by decide), show gx146 34 = g'131 34 from hg147 34 (by decide), show g'131 34 = g'121 34 from h135_ 34 (by decide), show g'121 34 = g'110 34 from h126_ 34 (by decide), show g'110 34 = g'99 34 from h115_ 34 (by decide), show g'99 34 = g'80 34 from h104_ 34 (by decide), show g'80 34 = g'70 34 from h85_ 34 (by decide), show g'70 34 = g'37 34 from h74_ 34 (by decide), show g'37 34 = g'25 34 from h42_ 34 (by decide), show g'25 34 = g'8 34 from h30_ 34 (by decide), show g'8 34 = g 34 from h16_ 34 (by decide)]) (by show g'161 38 = upd (g 38) (f 37).toNatClampNeg l68; rw [show g'161 38 = g'152 38 from h165_ 38 (by decide), show g'152 38 = gx146 38 from h156_ 38 (by decide), show gx146 38 = g'131 38 from hg147 38 (by decide), h136_, show g'121 38 = g'110 38 from h126_ 38 (by decide), show g'110 38 = g'99 38 from h115_ 38 (by decide), show g'99 38 = g'80 38 from h104_ 38 (by decide), show g'80 38 = g'70 38 from h85_ 38 (by decide), show g'70 38 = g'37 38 from h74_ 38 (by decide), show g'37 38 = g'25 38 from h42_ 38 (by decide), show g'25 38 = g'8 38 from h30_ 38 (by decide), show g'8 38 = g 38 from h16_ 38 (by decide)]) (by show (f 32).toInt + 0 = (f 32).toInt; omega) (by omega) (by show z130.toInt + 0 = (f 37).toInt + 1; omega) (by show z63.toInt = (f 24).toInt - (g 34 (f 32).toNatClampNeg).toInt; omega) (by omega) (by show (f 24).toInt ≤ l68.toInt; omega))⟩, mg_cast (mg_good_ext _ _ _ _ _ _ (fun i _ => by show g'161 34 i = g 34 i; rw [show g'161 34 = g'152 34 from h165_ 34 (by decide), show g'152 34 = gx146 34 from h156_ 34 (by decide), show gx146 34 = g'131 34 from hg147 34 (by decide), show g'131 34 = g'121 34 from h135_ 34 (by decide), show g'121 34 = g'110 34 from h126_ 34 (by decide), show g'110 34 = g'99 34 from h115_ 34 (by decide), show g'99 34 = g'80 34 from h104_ 34 (by decide), show g'80 34 = g'70 34 from h85_ 34 (by decide), show g'70 34 = g'37 34 from h74_ 34 (by decide), show g'37 34 = g'25 34 from h42_ 34 (by decide), show g'25 34 = g'8 34 from h30_ 34 (by decide), show g'8 34 = g 34 from h16_ 34 (by decide)]) (fun i hi => by show g'161 38 i = g 38 i; rw [show g'161 38 = g'152 38 from h165_ 38 (by decide), show g'152 38 = gx146 38 from h156_ 38 (by decide), show gx146 38 = g'131 38 from hg147 38 (by decide), h136_, show g'121 38 = g'110 38 from h126_ 38 (by decide), show g'110 38 = g'99 38 from h115_ 38 (by decide), show g'99 38 = g'80 38 from h104_ 38 (by decide), show g'80 38 = g'70 38 from h85_ 38 (by decide), show g'70 38 = g'37 38 from h74_ 38 (by decide), show g'37 38 = g'25 38 from h42_ 38 (by decide), show g'25 38 = g'8 38 from h30_ 38 (by decide), show g'8 38 = g 38 from h16_ 38 (by decide)]; exact upd_ne (by rw [cl_toNat]; omega)) (fun i _ => by show g'161 23 i = g 23 i; rw [show g'161 23 = g'152 23 from h165_ 23 (by decide), show g'152 23 = gx146 23 from h156_ 23 (by decide), show gx146 23 = g'131 23 from hg147 23 (by decide), show g'131 23 = g'121 23 from h135_ 23 (by decide), show g'121 23 = g'110 23 from h126_ 23 (by decide), show g'110 23 = g'99 23 from h115_ 23 (by decide), show g'99 23 = g'80 23 from h104_ 23 (by decide), show g'80 23 = g'70 23 from h85_ 23 (by decide), show g'70 23 = g'37 23 from h74_ 23 (by decide), show g'37 23 = g'25 23 from h42_ 23 (by decide), show g'25 23 = g'8 23 from h30_ 23 (by decide), show g'8 23 = g 23 from h16_ 23 (by decide)]) hrest) (by show (f 15).toInt + -1 = z0.toInt + 0 + 0; omega) (by show (f 20).toInt = (f 20).toInt; omega) (by show (f 37).toInt + 0 = z130.toInt + 0 + -1; omega) (by show (f 32).toInt + 0 = (f 32).toInt + 0 + 0; omega) (by show (f 5).toInt + 0 = y47.toInt + 0 + -1; omega)⟩⟩ : mg_good (g'161 34) (g'161 38) (g'161 23) (((1 : Int), (0 : Int), (0 : Int), (0 : Int), []) :: (((15 : Int), r120.toInt, r89.toInt, z63.toInt, []) :: gs)) (z0.toInt) ((f 20).toInt) (z130.toInt) ((f 32).toInt) (y47.toInt))
          · exact ⟨(by show 0 ≤ z46.toInt; omega), (by show z46.toInt ≤ (f 0).toInt; omega), (by show (f 0).toInt ≤ 512; omega), (by show 0 ≤ l141.toInt; omega), (by show l141.toInt + (f 20).toInt + mg_p1 (((1 : Int), (0 : Int), (0 : Int), (0 : Int), []) :: (((15 : Int), r120.toInt, r89.toInt, z63.toInt, []) :: gs)) ≤ 4 * z46.toInt; omega), (by show (f 20).toInt ≤ z46.toInt; omega), (by show z0.toInt + mg_p2 (((1 : Int), (0 : Int), (0 : Int), (0 : Int), []) :: (((15 : Int), r120.toInt, r89.toInt, z63.toInt, []) :: gs)) ≤ z46.toInt; omega), (by show mg_p3 (((1 : Int), (0 : Int), (0 : Int), (0 : Int), []) :: (((15 : Int), r120.toInt, r89.toInt, z63.toInt, []) :: gs)) ≤ 20 * z46.toInt + 20; omega), (by show 0 ≤ z119.toInt; omega), (by show z119.toInt + 3 * (f 20).toInt + mg_p4 (((1 : Int), (0 : Int), (0 : Int), (0 : Int), []) :: (((15 : Int), r120.toInt, r89.toInt, z63.toInt, []) :: gs)) ≤ 60 * z46.toInt + 60; omega), (by show 0 ≤ o5.toInt; omega), (by show o5.toInt + 64 * mj_n (g'161 16) z0.toNatClampNeg 3 ≤ 64 * z46.toInt; rw [show g'161 16 = g'152 16 from h165_ 16 (by decide), show g'152 16 = gx146 16 from h156_ 16 (by decide), show gx146 16 = g'131 16 from hg147 16 (by decide), show g'131 16 = g'121 16 from h135_ 16 (by decide), show g'121 16 = g'110 16 from h126_ 16 (by decide), show g'110 16 = g'99 16 from h115_ 16 (by decide), show g'99 16 = g'80 16 from h104_ 16 (by decide), show g'80 16 = g'70 16 from h85_ 16 (by decide), show g'70 16 = g'37 16 from h74_ 16 (by decide), show g'37 16 = g'25 16 from h42_ 16 (by decide), show g'25 16 = g'8 16 from h30_ 16 (by decide)]; omega), (by show 0 ≤ (f 44).toInt; omega), (by show (f 44).toInt ≤ z46.toInt; omega), (by show 0 ≤ (f 48).toInt; omega), (by show (f 48).toInt ≤ z46.toInt; omega), (by show 1 ≤ (f 53).toInt; omega), (by show (f 53).toInt ≤ z46.toInt + 1; omega), (by show 0 ≤ (f 19).toInt; omega), (by show (f 19).toInt ≤ 600; omega)⟩
          · show 100 * ((f 0).toInt - z46.toInt) + mg_p3 (((1 : Int), (0 : Int), (0 : Int), (0 : Int), []) :: (((15 : Int), r120.toInt, r89.toInt, z63.toInt, []) :: gs)) < 100 * ((f 0).toInt - (f 4).toInt) + (1 + mg_p3 gs); omega
      · subst hv57
        replace hS58 : MS S0 S45 (upd (upd (upd (upd (upd (upd (upd f 6 a55) 7 b56) 10 0) 15 z0) 62 o5) 68 z35) 75 m7) g'37 := hS58
        have hR167 := rj_clear0 hR43_
        have hR168 : RJ (upd (upd (upd (upd (upd (upd (upd f 6 a55) 7 b56) 10 0) 15 z0) 62 o5) 68 z35) 75 m7) g'37 [] bc [] 0 [] := hR167
        show am_E _ _ _ _ [some (.ref 39), some (.int on), some (.int tw), some (.int th), none, none, none, none] [.int 0] _ _
        refine am_e12f hi_257_15 (by decide) ?_
        refine am_e35 hi_257_18 ?_
        show am_E _ _ _ _ [some (.ref 39), some (.int 14), some (.int on), some (.int tw), some (.int th)] [] _ _
        refine am_e18 hi_180_270 ?_
        refine am_e35 hi_180_371 ?_
        have hRc := rj_clear0 hR168
        refine ⟨_, _, [], _, rfl, hS58, Or.inr ⟨hRc, rfl, (by show 0 ≤ (f 4).toInt; omega), (by show (f 4).toInt ≤ (f 0).toInt; omega), (by show 0 ≤ (f 32).toInt; omega), (by show (f 32).toInt ≤ 63; omega), (by show 1 ≤ (f 53).toInt; omega), (by show (f 53).toInt ≤ 600; omega), (by show 0 ≤ z35.toInt; omega), (by show z35.toInt ≤ 60000; omega), (by show 0 ≤ (f 48).toInt; omega), (by show (f 48).toInt ≤ 8000; omega), (by show 0 ≤ (f 37).toInt; omega), (by show (f 37).toInt ≤ 128; omega), (by show 0 ≤ o5.toInt; omega), (by show o5.toInt ≤ 65000; omega), (by show 0 ≤ (f 19).toInt; omega), (by show (f 19).toInt ≤ 600; omega)⟩⟩
    · refine am_e13f hi_258_9 (am_cF (m := (f 19).toInt) (n := (4 : Int)) rfl (by decide) c2) ?_
      refine am_e2 (v := 39) hi_258_12 rfl ?_
      refine am_e32w (as := [.ref 39]) (la := [some (.ref 39), none]) (rest := []) hi_258_13 (am_hd0 (M := 258) (by decide) 13) (Nat.le_of_ble_eq_true rfl) (Nat.le_of_ble_eq_true rfl) (show 1 ≤ am_P0.2.2.1 217 from by decide +kernel) rfl (am_recv_ok hS.fs) rfl rfl ?_
      refine am_e2 (v := 39) hi_217_0 rfl ?_
      refine mm_20 (v := .ref 47) hS hi_217_1 rfl ?_
      refine am_e2 (v := 39) hi_217_4 rfl ?_
      refine mm_20 (v := .int (f 15)) hS hi_217_5 rfl ?_
      refine am_e0 hi_217_8 ?_
      refine am_e10 (z := z0) hi_217_9 hz0 ?_
      refine mm_25 hS ma_17 hi_217_10 (by decide) (by omega) (by omega) ?_
      show am_E _ _ _ _ [some (.ref 39), none] [.int (g 17 z0.toNatClampNeg)] _ _
      have r169 : (g 16 z0.toNatClampNeg).toInt = 1 ∨ (g 16 z0.toNatClampNeg).toInt = 2 → 0 ≤ (g 17 z0.toNatClampNeg).toInt ∧ (g 17 z0.toNatClampNeg).toInt < 65536 := RJ.vc hR z0.toNatClampNeg
      refine am_e3 (ls' := [some (.ref 39), some (.int (g 17 z0.toNatClampNeg))]) hi_217_11 (Nat.le_of_ble_eq_true rfl) rfl ?_
      refine am_e2 (v := 39) hi_217_12 rfl ?_
      refine mm_20 (v := .ref 91) hS hi_217_13 rfl ?_
      refine am_e1 (v := g 17 z0.toNatClampNeg) hi_217_16 rfl ?_
      refine am_e2 (v := 39) hi_217_17 rfl ?_
      refine mm_20 (v := .ref 46) hS hi_217_18 rfl ?_
      refine am_e2 (v := 39) hi_217_21 rfl ?_
      refine mm_20 (v := .int (f 15)) hS hi_217_22 rfl ?_
      refine am_e0 hi_217_25 ?_
      refine am_e10 (z := z0) hi_217_26 hz0 ?_
      refine mm_25 hS ma_16 hi_217_27 (by decide) (by omega) (by omega) ?_
      show am_E _ _ _ _ [some (.ref 39), some (.int (g 17 z0.toNatClampNeg))] [.int (g 16 z0.toNatClampNeg), .int (g 17 z0.toNatClampNeg), .ref 91] _ _
      refine am_e0 hi_217_28 ?_
      refine am_e13f hi_217_29 (am_cF (m := (g 16 z0.toNatClampNeg).toInt) (n := (1 : Int)) rfl (by decide) (by simp only [am_cI]; omega)) ?_
      refine am_e2 (v := 39) hi_217_32 rfl ?_
      refine mm_20 (v := .ref 91) hS hi_217_33 rfl ?_
      refine am_e1 (v := g 17 z0.toNatClampNeg) hi_217_36 rfl ?_
      refine mm_25 hS ma_72 hi_217_37 (by decide) (by omega) (by omega) ?_
      show am_E _ _ _ _ [some (.ref 39), some (.int (g 17 z0.toNatClampNeg))] [.int (g 72 (g 17 z0.toNatClampNeg).toNatClampNeg), .int (g 17 z0.toNatClampNeg), .ref 91] _ _
      refine am_e0 hi_217_38 ?_
      obtain ⟨z170, hz170⟩ : ∃ q__, am_bin 3 (g 72 (g 17 z0.toNatClampNeg).toNatClampNeg) 1 = q__ := ⟨_, rfl⟩
      refine am_e10 (z := z170) hi_217_39 hz170 ?_
      refine am_e0 hi_217_40 ?_
      obtain ⟨z171, hz171⟩ : ∃ q__, am_bin 4 z170 4 = q__ := ⟨_, rfl⟩
      refine am_e10 (z := z171) hi_217_41 hz171 ?_
      refine am_e18 hi_217_42 ?_
      refine mm_26 hS ma_72 hi_217_46 (by decide) (by omega) (by omega) (fun h => nomatch h) ?_
      intro S172 hS173
      refine am_e2 (v := 39) hi_217_47 rfl ?_
      refine am_e7 hi_217_48 ?_
      refine mm_20 (v := .int (f 15)) hS173 hi_217_49 rfl ?_
      refine am_e0 hi_217_52 ?_
      refine am_e10 (z := z0) hi_217_53 hz0 ?_
      refine mm_21 (v := z0) hS173 hi_217_54 rfl (Nat.le_of_ble_eq_true rfl) ms_15 ?_
      intro S174 hS175
      have hp176 : mj_n (g 16) (f 15).toNatClampNeg 3 = mj_n (g 16) z0.toNatClampNeg 3 + if (g 16 z0.toNatClampNeg).toInt = 3 then 1 else 0 := mj_pop (by rw [cl_toNat, cl_toNat]; omega)
      have hp1761 : mj_n (g 16) z0.toNatClampNeg 3 ≤ mj_n (g 16) (f 15).toNatClampNeg 3 := by rw [hp176]; split <;> omega
      have hp1762 : (g 16 z0.toNatClampNeg).toInt = 3 → mj_n (g 16) z0.toNatClampNeg 3 + 1 ≤ mj_n (g 16) (f 15).toNatClampNeg 3 := fun q => by rw [hp176, if_pos q]; exact Int.le_refl _
      refine am_e35 hi_217_57 ?_
      show am_E _ _ _ _ [some (.ref 39), some (.int 4), some (.int (f 19))] [] _ _
      refine am_e2 (v := 39) hi_258_16 rfl ?_
      refine am_e0 hi_258_17 ?_
      refine am_e1 (v := 4) hi_258_19 rfl ?_
      refine am_e1 (v := f 19) hi_258_20 rfl ?_
      obtain ⟨z177, hz177, tz177⟩ := am_subI (x := 4) (y := f 19) (m := (4 : Int)) (n := (f 19).toInt) (by decide) rfl (by omega) (by omega)
      refine am_e10 (z := z177) hi_258_21 hz177 ?_
      refine am_e0 hi_258_22 ?_
      obtain ⟨z178, hz178, tz178⟩ := am_addI (x := z177) (y := 1) (m := z177.toInt) (n := (1 : Int)) rfl (by decide) (by omega) (by omega)
      refine am_e10 (z := z178) hi_258_23 hz178 ?_
      refine am_e0 hi_258_24 ?_
      refine am_e0 hi_258_25 ?_
      refine am_e32n (as := [.ref 39, .int 25, .int z178, .int 0, .int 0]) (la := [some (.ref 39), some (.int 25), some (.int z178), some (.int 0), some (.int 0)]) (rest := []) hi_258_26 (am_hd0 (M := 258) (by decide) 26) (Nat.le_of_ble_eq_true rfl) (Nat.le_of_ble_eq_true rfl) (show 5 ≤ am_P0.2.2.1 189 from by decide +kernel) rfl (am_recv_ok hS175.fs) rfl rfl (ct_put (d := (d + 5)) hS175 hR  (by show (0 : Int) ≤ (f 32).toInt; omega) (by show (f 32).toInt ≤ (63 : Int); omega) (by show (f 53).toInt ≤ (4096 : Int); omega) (by show (0 : Int) ≤ (f 68).toInt; omega) (by show (f 68).toInt ≤ (65534 : Int); omega)) ?_
      rintro v179 S180 (⟨z181, r182, g'183, hv184, hS185, hR189, h186, h187, h188⟩)
      subst hv184
      have h186_ : z181.toInt = (f 68).toInt + 1 := h186
      have h187_ : r182.toInt = (f 68).toInt := h187
      have h188_ : ∀ j, j ∉ [60, 69, 70, 71, 72, 73] → g'183 j = (upg g 72 (g 17 z0.toNatClampNeg).toNatClampNeg z171) j := h188
      have hR189_ : RJ (upd (upd f 15 z0) 68 z181) g'183 gs bc [] 0 ((f 68).toNatClampNeg :: []) := hR189
      show am_E _ _ _ _ [some (.ref 39), some (.int 4), some (.int (f 19))] [.int r182] _ _
      refine am_e6i hi_258_29 ?_
      refine am_e35 hi_258_30 ?_
      show am_E _ _ _ _ [some (.ref 39), some (.int on), some (.int tw), some (.int th), none, none, none, none] [] _ _
      refine am_e2 (v := 39) hi_257_9 rfl ?_
      refine am_e0 hi_257_10 ?_
      refine am_e32n (as := [.ref 39, .int 12]) (la := [some (.ref 39), some (.int 12)]) (rest := []) hi_257_12 (am_hd0 (M := 257) (by decide) 12) (Nat.le_of_ble_eq_true rfl) (Nat.le_of_ble_eq_true rfl) (show 2 ≤ am_P0.2.2.1 193 from by decide +kernel) rfl (am_recv_ok hS185.fs) rfl rfl (ct_enter (d := (d + 4)) hS185   (by show (0 : Int) ≤ (f 4).toInt; omega) (by show (f 0).toInt ≤ (16384 : Int); omega) (by show (0 : Int) ≤ (12 : Int); omega) (by show (0 : Int) ≤ (f 5).toInt; omega) (by show (f 5).toInt ≤ (48 : Int); omega)) ?_
      rintro v190 S191 (⟨z192, y193, hv194, hS195, h196, h197, h198, h199⟩ | ⟨a201, b202, hv203, hS204⟩)
      · subst hv194
        have h196_ : z192.toInt = (f 4).toInt + 1 := h196
        have h197_ : (f 4).toInt < (f 0).toInt := h197
        have h198_ : y193.toInt = (f 5).toInt + 1 := h198
        have h199_ : y193.toInt ≤ (48 : Int) := h199
        replace hS195 : MS S0 S191 (upd (upd (upd (upd f 4 z192) 5 y193) 15 z0) 68 z181) g'183 := hS195
        have hR206 : RJ (upd (upd (upd (upd f 4 z192) 5 y193) 15 z0) 68 z181) g'183 gs bc [] 0 ((f 68).toNatClampNeg :: []) := RJ.at hR189_ (by show (f 4).toInt ≤ z192.toInt; omega)
        show am_E _ _ _ _ [some (.ref 39), some (.int on), some (.int tw), some (.int th), none, none, none, none] [.int 1] _ _
        refine am_e12t hi_257_15 (by decide) ?_
        refine am_e2 (v := 39) hi_257_19 rfl ?_
        refine am_e32w (as := [.ref 39]) (la := [some (.ref 39)]) (rest := []) hi_257_20 (am_hd0 (M := 257) (by decide) 20) (Nat.le_of_ble_eq_true rfl) (Nat.le_of_ble_eq_true rfl) (show 1 ≤ am_P0.2.2.1 197 from by decide +kernel) rfl (am_recv_ok hS195.fs) rfl rfl ?_
        refine am_e2 (v := 39) hi_197_0 rfl ?_
        refine mm_20 (v := .int (f 24)) hS195 hi_197_1 rfl ?_
        refine am_e2 (v := 39) hi_197_4 rfl ?_
        refine mm_20 (v := .ref 59) hS195 hi_197_5 rfl ?_
        refine am_e2 (v := 39) hi_197_8 rfl ?_
        refine mm_20 (v := .int (f 32)) hS195 hi_197_9 rfl ?_
        refine mm_25 hS195 ma_34 hi_197_12 (by decide) (by omega) (by omega) ?_
        show am_E _ _ _ _ _ (.int (g'183 34 (f 32).toNatClampNeg) :: _) _ _
        rw [show g'183 34 = g 34 from h188_ 34 (by decide)]
        show am_E _ _ _ _ [some (.ref 39)] [.int (g 34 (f 32).toNatClampNeg), .int (f 24)] _ _
        have r207 : 0 ≤ (g 34 (f 32).toNatClampNeg).toInt := by
          have h := RJ.ba hR206 (f 32).toNatClampNeg
          rw [show g'183 34 = g 34 from h188_ 34 (by decide)] at h
          exact h
        have r208 : (g 34 (f 32).toNatClampNeg).toInt ≤ 2147483647 := i32_le _
        obtain ⟨z209, hz209, tz209⟩ := am_subI (x := f 24) (y := g 34 (f 32).toNatClampNeg) (m := (f 24).toInt) (n := (g 34 (f 32).toNatClampNeg).toInt) rfl rfl (by omega) (by omega)
        refine am_e10 (z := z209) hi_197_13 hz209 ?_
        refine am_e33 hi_197_14 ?_
        show am_E _ _ _ _ [some (.ref 39), some (.int on), some (.int tw), some (.int th), none, none, none, none] [.int z209] _ _
        refine am_e3 (ls' := [some (.ref 39), some (.int on), some (.int tw), some (.int th), some (.int z209), none, none, none]) hi_257_23 (Nat.le_of_ble_eq_true rfl) rfl ?_
        refine am_e2 (v := 39) hi_257_25 rfl ?_
        refine am_e0 hi_257_26 ?_
        refine am_e0 hi_257_27 ?_
        refine am_e1 (v := on) hi_257_28 rfl ?_
        refine am_e32n (as := [.ref 39, .int 4, .int 1, .int on]) (la := [some (.ref 39), some (.int 4), some (.int 1), some (.int on), none]) (rest := []) hi_257_29 (am_hd0 (M := 257) (by decide) 29) (Nat.le_of_ble_eq_true rfl) (Nat.le_of_ble_eq_true rfl) (show 4 ≤ am_P0.2.2.1 254 from by decide +kernel) rfl (am_recv_ok hS195.fs) rfl rfl (ct_hide (d := (d + 4)) hS195 hR206 (by decide)  (by show (0 : Int) ≤ (f 32).toInt; omega) (by show (f 32).toInt ≤ (63 : Int); omega) (by show (f 53).toInt ≤ (4096 : Int); omega) (by show (0 : Int) ≤ (f 24).toInt; omega) (by show (f 24).toInt ≤ (16000 : Int); omega) (by show (0 : Int) ≤ (4 : Int); omega) (by show (4 : Int) ≤ (16 : Int); omega)) ?_
        rintro v210 S211 (⟨a212, b213, l214, y215, g'216, hv217, hS218, hR221, h219, h220⟩)
        subst hv217
        have h219_ : l214.toInt = (f 24).toInt + (4 : Int) := h219
        have h220_ : ∀ j, j ∉ [25, 26, 27, 28, 29, 30, 58] → g'216 j = g'183 j := h220
        replace hS218 : MS S0 S211 (upd (upd (upd (upd (upd (upd (upd (upd f 4 z192) 5 y193) 8 a212) 9 b213) 15 z0) 24 l214) 31 y215) 68 z181) g'216 := hS218
        have hR221_ : RJ (upd (upd (upd (upd (upd (upd (upd (upd f 4 z192) 5 y193) 8 a212) 9 b213) 15 z0) 24 l214) 31 y215) 68 z181) g'216 gs bc [] 0 ((f 68).toNatClampNeg :: []) := hR221
        show am_E _ _ _ _ [some (.ref 39), some (.int on), some (.int tw), some (.int th), some (.int z209), none, none, none] [] _ _
        refine am_e2 (v := 39) hi_257_32 rfl ?_
        refine am_e0 hi_257_33 ?_
        refine am_e1 (v := z209) hi_257_35 rfl ?_
        refine am_e0 hi_257_37 ?_
        refine am_e1 (v := on) hi_257_38 rfl ?_
        refine am_e32n (as := [.ref 39, .int 42, .int z209, .int 0, .int on]) (la := [some (.ref 39), some (.int 42), some (.int z209), some (.int 0), some (.int on)]) (rest := []) hi_257_39 (am_hd0 (M := 257) (by decide) 39) (Nat.le_of_ble_eq_true rfl) (Nat.le_of_ble_eq_true rfl) (show 5 ≤ am_P0.2.2.1 189 from by decide +kernel) rfl (am_recv_ok hS218.fs) rfl rfl (ct_put (d := (d + 6)) hS218 hR221_  (by show (0 : Int) ≤ (f 32).toInt; omega) (by show (f 32).toInt ≤ (63 : Int); omega) (by show (f 53).toInt ≤ (4096 : Int); omega) (by show (0 : Int) ≤ z181.toInt; omega) (by show z181.toInt ≤ (65534 : Int); omega)) ?_
        rintro v222 S223 (⟨z224, r225, g'226, hv227, hS228, hR232, h229, h230, h231⟩)
        subst hv227
        have h229_ : z224.toInt = z181.toInt + 1 := h229
        have h230_ : r225.toInt = z181.toInt := h230
        have h231_ : ∀ j, j ∉ [60, 69, 70, 71, 72, 73] → g'226 j = g'216 j := h231
        replace hS228 : MS S0 S223 (upd (upd (upd (upd (upd (upd (upd (upd f 4 z192) 5 y193) 8 a212) 9 b213) 15 z0) 24 l214) 31 y215) 68 z224) g'226 := hS228
        have hR232_ : RJ (upd (upd (upd (upd (upd (upd (upd (upd f 4 z192) 5 y193) 8 a212) 9 b213) 15 z0) 24 l214) 31 y215) 68 z224) g'226 gs bc [] 0 (z181.toNatClampNeg :: ((f 68).toNatClampNeg :: [])) := hR232
        show am_E _ _ _ _ [some (.ref 39), some (.int on), some (.int tw), some (.int th), some (.int z209), none, none, none] [.int r225] _ _
        refine am_e6i hi_257_42 ?_
        refine am_e2 (v := 39) hi_257_43 rfl ?_
        refine am_e32n (as := [.ref 39]) (la := [some (.ref 39)]) (rest := []) hi_257_44 (am_hd0 (M := 257) (by decide) 44) (Nat.le_of_ble_eq_true rfl) (Nat.le_of_ble_eq_true rfl) (show 1 ≤ am_P0.2.2.1 210 from by decide +kernel) rfl (am_recv_ok hS228.fs) rfl rfl (ct_here (d := (d + 6)) hS228 hR232_  (by show (0 : Int) ≤ (f 32).toInt; omega) (by show (f 32).toInt ≤ (63 : Int); omega) (by show (f 53).toInt ≤ (4096 : Int); omega) (by show (0 : Int) ≤ z224.toInt; omega) (by show z224.toInt ≤ (65534 : Int); omega)) ?_
        rintro v233 S234 (⟨r235, hv236, hS237, h238, h239⟩)
        subst hv236
        have h238_ : (0 : Int) ≤ r235.toInt := h238
        have h239_ : r235.toInt ≤ z224.toInt := h239
        show am_E _ _ _ _ [some (.ref 39), some (.int on), some (.int tw), some (.int th), some (.int z209), none, none, none] [.int r235] _ _
        refine am_e3 (ls' := [some (.ref 39), some (.int on), some (.int tw), some (.int th), some (.int z209), some (.int r235), none, none]) hi_257_47 (Nat.le_of_ble_eq_true rfl) rfl ?_
        refine am_e2 (v := 39) hi_257_49 rfl ?_
        refine am_e0 hi_257_50 ?_
        refine am_e0 hi_257_52 ?_
        refine am_e0 hi_257_53 ?_
        refine am_e1 (v := on) hi_257_54 rfl ?_
        refine am_e32n (as := [.ref 39, .int 34, .int 0, .int 0, .int on]) (la := [some (.ref 39), some (.int 34), some (.int 0), some (.int 0), some (.int on)]) (rest := []) hi_257_55 (am_hd0 (M := 257) (by decide) 55) (Nat.le_of_ble_eq_true rfl) (Nat.le_of_ble_eq_true rfl) (show 5 ≤ am_P0.2.2.1 189 from by decide +kernel) rfl (am_recv_ok hS237.fs) rfl rfl (ct_put (d := (d + 6)) hS237 hR232_  (by show (0 : Int) ≤ (f 32).toInt; omega) (by show (f 32).toInt ≤ (63 : Int); omega) (by show (f 53).toInt ≤ (4096 : Int); omega) (by show (0 : Int) ≤ z224.toInt; omega) (by show z224.toInt ≤ (65534 : Int); omega)) ?_
        rintro v241 S242 (⟨z243, r244, g'245, hv246, hS247, hR251, h248, h249, h250⟩)
        subst hv246
        have h248_ : z243.toInt = z224.toInt + 1 := h248
        have h249_ : r244.toInt = z224.toInt := h249
        have h250_ : ∀ j, j ∉ [60, 69, 70, 71, 72, 73] → g'245 j = g'226 j := h250
        replace hS247 : MS S0 S242 (upd (upd (upd (upd (upd (upd (upd (upd f 4 z192) 5 y193) 8 a212) 9 b213) 15 z0) 24 l214) 31 y215) 68 z243) g'245 := hS247
        have hR251_ : RJ (upd (upd (upd (upd (upd (upd (upd (upd f 4 z192) 5 y193) 8 a212) 9 b213) 15 z0) 24 l214) 31 y215) 68 z243) g'245 gs bc [] 0 (z224.toNatClampNeg :: (z181.toNatClampNeg :: ((f 68).toNatClampNeg :: []))) := hR251
        show am_E _ _ _ _ [some (.ref 39), some (.int on), some (.int tw), some (.int th), some (.int z209), some (.int r235), none, none] [.int r244] _ _
        refine am_e6i hi_257_58 ?_
        refine am_e2 (v := 39) hi_257_59 rfl ?_
        refine am_e0 hi_257_60 ?_
        refine am_e1 (v := z209) hi_257_62 rfl ?_
        refine am_e1 (v := tw) hi_257_64 rfl ?_
        refine am_e1 (v := th) hi_257_65 rfl ?_
        refine am_e32n (as := [.ref 39, .int 43, .int z209, .int tw, .int th]) (la := [some (.ref 39), some (.int 43), some (.int z209), some (.int tw), some (.int th)]) (rest := []) hi_257_66 (am_hd0 (M := 257) (by decide) 66) (Nat.le_of_ble_eq_true rfl) (Nat.le_of_ble_eq_true rfl) (show 5 ≤ am_P0.2.2.1 189 from by decide +kernel) rfl (am_recv_ok hS247.fs) rfl rfl (ct_put (d := (d + 6)) hS247 hR251_  (by show (0 : Int) ≤ (f 32).toInt; omega) (by show (f 32).toInt ≤ (63 : Int); omega) (by show (f 53).toInt ≤ (4096 : Int); omega) (by show (0 : Int) ≤ z243.toInt; omega) (by show z243.toInt ≤ (65534 : Int); omega)) ?_
        rintro v252 S253 (⟨z254, r255, g'256, hv257, hS258, hR262, h259, h260, h261⟩)
        subst hv257
        have h259_ : z254.toInt = z243.toInt + 1 := h259
        have h260_ : r255.toInt = z243.toInt := h260
        have h261_ : ∀ j, j ∉ [60, 69, 70, 71, 72, 73] → g'256 j = g'245 j := h261
        replace hS258 : MS S0 S253 (upd (upd (upd (upd (upd (upd (upd (upd f 4 z192) 5 y193) 8 a212) 9 b213) 15 z0) 24 l214) 31 y215) 68 z254) g'256 := hS258
        have hR262_ : RJ (upd (upd (upd (upd (upd (upd (upd (upd f 4 z192) 5 y193) 8 a212) 9 b213) 15 z0) 24 l214) 31 y215) 68 z254) g'256 gs bc [] 0 (z243.toNatClampNeg :: (z224.toNatClampNeg :: (z181.toNatClampNeg :: ((f 68).toNatClampNeg :: [])))) := hR262
        show am_E _ _ _ _ [some (.ref 39), some (.int on), some (.int tw), some (.int th), some (.int z209), some (.int r235), none, none] [.int r255] _ _
        refine am_e6i hi_257_69 ?_
        refine am_e2 (v := 39) hi_257_70 rfl ?_
        refine am_e0 hi_257_71 ?_
        refine am_e1 (v := z209) hi_257_73 rfl ?_
        refine am_e0 hi_257_75 ?_
        refine am_e0 hi_257_76 ?_
        refine am_e32n (as := [.ref 39, .int 44, .int z209, .int 0, .int 0]) (la := [some (.ref 39), some (.int 44), some (.int z209), some (.int 0), some (.int 0)]) (rest := []) hi_257_77 (am_hd0 (M := 257) (by decide) 77) (Nat.le_of_ble_eq_true rfl) (Nat.le_of_ble_eq_true rfl) (show 5 ≤ am_P0.2.2.1 189 from by decide +kernel) rfl (am_recv_ok hS258.fs) rfl rfl (ct_put (d := (d + 6)) hS258 hR262_  (by show (0 : Int) ≤ (f 32).toInt; omega) (by show (f 32).toInt ≤ (63 : Int); omega) (by show (f 53).toInt ≤ (4096 : Int); omega) (by show (0 : Int) ≤ z254.toInt; omega) (by show z254.toInt ≤ (65534 : Int); omega)) ?_
        rintro v263 S264 (⟨z265, r266, g'267, hv268, hS269, hR273, h270, h271, h272⟩)
        subst hv268
        have h270_ : z265.toInt = z254.toInt + 1 := h270
        have h271_ : r266.toInt = z254.toInt := h271
        have h272_ : ∀ j, j ∉ [60, 69, 70, 71, 72, 73] → g'267 j = g'256 j := h272
        replace hS269 : MS S0 S264 (upd (upd (upd (upd (upd (upd (upd (upd f 4 z192) 5 y193) 8 a212) 9 b213) 15 z0) 24 l214) 31 y215) 68 z265) g'267 := hS269
        have hR273_ : RJ (upd (upd (upd (upd (upd (upd (upd (upd f 4 z192) 5 y193) 8 a212) 9 b213) 15 z0) 24 l214) 31 y215) 68 z265) g'267 gs bc [] 0 (z254.toNatClampNeg :: (z243.toNatClampNeg :: (z224.toNatClampNeg :: (z181.toNatClampNeg :: ((f 68).toNatClampNeg :: []))))) := hR273
        show am_E _ _ _ _ [some (.ref 39), some (.int on), some (.int tw), some (.int th), some (.int z209), some (.int r235), none, none] [.int r266] _ _
        refine am_e3 (ls' := [some (.ref 39), some (.int on), some (.int tw), some (.int th), some (.int z209), some (.int r235), some (.int r266), none]) hi_257_80 (Nat.le_of_ble_eq_true rfl) rfl ?_
        refine am_e2 (v := 39) hi_257_82 rfl ?_
        refine am_e0 hi_257_83 ?_
        refine am_e32n (as := [.ref 39, .int 1]) (la := [some (.ref 39), some (.int 1)]) (rest := []) hi_257_84 (am_hd0 (M := 257) (by decide) 84) (Nat.le_of_ble_eq_true rfl) (Nat.le_of_ble_eq_true rfl) (show 2 ≤ am_P0.2.2.1 177 from by decide +kernel) rfl (am_recv_ok hS269.fs) rfl rfl (ct_beginBlock2 (d := (d + 6)) hS269 hR273_ (by decide)  (by show (0 : Int) ≤ (f 37).toInt; omega) (by show (f 37).toInt ≤ (127 : Int); omega) (by show (0 : Int) ≤ l214.toInt; omega) (by show (0 : Int) ≤ (f 44).toInt; omega) (by show (f 44).toInt ≤ z192.toInt; omega) (by show (0 : Int) ≤ (f 48).toInt; omega)) ?_
        rintro v274 S275 (⟨z276, g'277, hv278, hS279, hR283, h280, h281, h282⟩)
        subst hv278
        have h280_ : z276.toInt = (f 37).toInt + 1 := h280
        have h281_ : ∀ j, j ∉ [38, 39, 40, 41, 42, 43] → g'277 j = g'267 j := h281
        have h282_ : g'277 38 = upd (g'267 38) (f 37).toNatClampNeg l214 := h282
        replace hS279 : MS S0 S275 (upd (upd (upd (upd (upd (upd (upd (upd (upd f 4 z192) 5 y193) 8 a212) 9 b213) 15 z0) 24 l214) 31 y215) 37 z276) 68 z265) g'277 := hS279
        have hR283_ : RJ (upd (upd (upd (upd (upd (upd (upd (upd (upd f 4 z192) 5 y193) 8 a212) 9 b213) 15 z0) 24 l214) 31 y215) 37 z276) 68 z265) g'277 gs ([] :: bc) [] 0 (z254.toNatClampNeg :: (z243.toNatClampNeg :: (z224.toNatClampNeg :: (z181.toNatClampNeg :: ((f 68).toNatClampNeg :: []))))) := hR283
        show am_E _ _ _ _ [some (.ref 39), some (.int on), some (.int tw), some (.int th), some (.int z209), some (.int r235), some (.int r266), none] [] _ _
        refine am_e0 hi_257_87 ?_
        refine am_e3 (ls' := [some (.ref 39), some (.int on), some (.int tw), some (.int th), some (.int z209), some (.int r235), some (.int r266), some (.int 0)]) hi_257_88 (Nat.le_of_ble_eq_true rfl) rfl ?_
        refine fr_each (d := (d + 2)) (f := (upd (upd (upd (upd (upd (upd (upd (upd (upd f 4 z192) 5 y193) 8 a212) 9 b213) 15 z0) 24 l214) 31 y215) 37 z276) 68 z265)) (g := g'277) (w := on) (m := tw) (x3 := th) (c4 := z209) (h5 := r235) (q6 := r266)  (by show (0 : Int) ≤ (f 32).toInt; omega) (by show (f 32).toInt ≤ (63 : Int); omega) (by show (f 53).toInt ≤ (4096 : Int); omega) (by show (0 : Int) ≤ l214.toInt; omega) (by show l214.toInt + tw.toInt ≤ 16383; omega) (by show (0 : Int) ≤ on.toInt; omega) (by show on.toInt + 2 * tw.toInt ≤ 16000; omega) ?_ ((tw.toInt - (0 : Int)).toNat + 1) _ 0 a212 b213 l214 y215 _ hS279 hR283_ (fun _ _ => rfl) (by show (0 : Int) ≤ (0 : Int); omega) (by show (0 : Int) ≤ tw.toInt; omega) (by show l214.toInt = l214.toInt + (0 : Int); omega) (by show tw.toInt - (0 : Int) < _; omega)
        · intro S289 i284 a285 b286 l287 y288 gx292 hS290 hR291 hg293 h294
          replace hS290 : MS S0 S289 (upd (upd (upd (upd (upd (upd (upd (upd (upd f 4 z192) 5 y193) 8 a285) 9 b286) 15 z0) 24 l287) 31 y288) 37 z276) 68 z265) gx292 := hS290
          have h294_ : l287.toInt = l214.toInt + tw.toInt := h294
          have hR291_ : RJ (upd (upd (upd (upd (upd (upd (upd (upd (upd f 4 z192) 5 y193) 8 a285) 9 b286) 15 z0) 24 l287) 31 y288) 37 z276) 68 z265) gx292 gs ([] :: bc) [] 0 (z254.toNatClampNeg :: (z243.toNatClampNeg :: (z224.toNatClampNeg :: (z181.toNatClampNeg :: ((f 68).toNatClampNeg :: []))))) := hR291
          show am_E _ _ _ _ [some (.ref 39), some (.int on), some (.int tw), some (.int th), some (.int z209), some (.int r235), some (.int r266), some (.int i284)] [] _ _
          refine am_e2 (v := 39) hi_257_129 rfl ?_
          refine am_e0 hi_257_130 ?_
          refine am_e1 (v := r266) hi_257_132 rfl ?_
          refine am_e1 (v := r235) hi_257_134 rfl ?_
          refine am_e1 (v := z209) hi_257_136 rfl ?_
          refine am_e32n (as := [.ref 39, .int 15, .int r266, .int r235, .int z209]) (la := [some (.ref 39), some (.int 15), some (.int r266), some (.int r235), some (.int z209)]) (rest := []) hi_257_138 (am_hd0 (M := 257) (by decide) 138) (Nat.le_of_ble_eq_true rfl) (Nat.le_of_ble_eq_true rfl) (show 5 ≤ am_P0.2.2.1 179 from by decide +kernel) rfl (am_recv_ok hS290.fs) rfl rfl (ct_pile (d := (d + 6)) hS290 hR291_ (mj_e_b (by decide) (by omega) (by show r266.toInt < z265.toInt; omega)) (by show (0 : Int) ≤ (f 10).toInt; omega) (by show (f 10).toInt ≤ (65535 : Int); omega)) ?_
          rintro v295 S296 (⟨z297, g'298, hv299, hS300, hR303, h301, h302⟩)
          subst hv299
          have h301_ : z297.toInt = (f 10).toInt + 1 := h301
          have h302_ : ∀ j, j ∉ [11, 12, 13, 14] → g'298 j = gx292 j := h302
          replace hS300 : MS S0 S296 (upd (upd (upd (upd (upd (upd (upd (upd (upd (upd f 4 z192) 5 y193) 8 a285) 9 b286) 10 z297) 15 z0) 24 l287) 31 y288) 37 z276) 68 z265) g'298 := hS300
          have hR303_ : RJ (upd (upd (upd (upd (upd (upd (upd (upd (upd (upd f 4 z192) 5 y193) 8 a285) 9 b286) 10 z297) 15 z0) 24 l287) 31 y288) 37 z276) 68 z265) g'298 (((15 : Int), r266.toInt, r235.toInt, z209.toInt, []) :: gs) ([] :: bc) [] 0 (z254.toNatClampNeg :: (z243.toNatClampNeg :: (z224.toNatClampNeg :: (z181.toNatClampNeg :: ((f 68).toNatClampNeg :: []))))) := hR303
          show am_E _ _ _ _ [some (.ref 39), some (.int on), some (.int tw), some (.int th), some (.int z209), some (.int r235), some (.int r266), some (.int i284)] [] _ _
          refine am_e2 (v := 39) hi_257_141 rfl ?_
          refine am_e32w (as := [.ref 39]) (la := [some (.ref 39)]) (rest := []) hi_257_142 (am_hd0 (M := 257) (by decide) 142) (Nat.le_of_ble_eq_true rfl) (Nat.le_of_ble_eq_true rfl) (show 1 ≤ am_P0.2.2.1 178 from by decide +kernel) rfl (am_recv_ok hS300.fs) rfl rfl ?_
          refine am_e2 (v := 39) hi_178_0 rfl ?_
          refine am_e0 hi_178_1 ?_
          refine am_e0 hi_178_2 ?_
          refine am_e0 hi_178_3 ?_
          refine am_e0 hi_178_4 ?_
          refine am_e32n (as := [.ref 39, .int 1, .int 0, .int 0, .int 0]) (la := [some (.ref 39), some (.int 1), some (.int 0), some (.int 0), some (.int 0)]) (rest := []) hi_178_5 (am_hd0 (M := 178) (by decide) 5) (Nat.le_of_ble_eq_true rfl) (Nat.le_of_ble_eq_true rfl) (show 5 ≤ am_P0.2.2.1 179 from by decide +kernel) rfl (am_recv_ok hS300.fs) rfl rfl (ct_pile (d := (d + 5)) hS300 hR303_ (mj_e_plain (by decide)) (by show (0 : Int) ≤ z297.toInt; omega) (by show z297.toInt ≤ (65535 : Int); omega)) ?_
          rintro v304 S305 (⟨z306, g'307, hv308, hS309, hR312, h310, h311⟩)
          subst hv308
          have h310_ : z306.toInt = z297.toInt + 1 := h310
          have h311_ : ∀ j, j ∉ [11, 12, 13, 14] → g'307 j = g'298 j := h311
          replace hS309 : MS S0 S305 (upd (upd (upd (upd (upd (upd (upd (upd (upd (upd f 4 z192) 5 y193) 8 a285) 9 b286) 10 z306) 15 z0) 24 l287) 31 y288) 37 z276) 68 z265) g'307 := hS309
          have hR312_ : RJ (upd (upd (upd (upd (upd (upd (upd (upd (upd (upd f 4 z192) 5 y193) 8 a285) 9 b286) 10 z306) 15 z0) 24 l287) 31 y288) 37 z276) 68 z265) g'307 (((1 : Int), (0 : Int), (0 : Int), (0 : Int), []) :: (((15 : Int), r266.toInt, r235.toInt, z209.toInt, []) :: gs)) ([] :: bc) [] 0 (z254.toNatClampNeg :: (z243.toNatClampNeg :: (z224.toNatClampNeg :: (z181.toNatClampNeg :: ((f 68).toNatClampNeg :: []))))) := hR312
          show am_E _ _ _ _ [some (.ref 39)] [] _ _
          refine am_e35 hi_178_8 ?_
          show am_E _ _ _ _ [some (.ref 39), some (.int on), some (.int tw), some (.int th), some (.int z209), some (.int r235), some (.int r266), some (.int i284)] [] _ _
          refine am_e35 hi_257_145 ?_
          show am_E _ _ _ _ [some (.ref 39), some (.int 14), some (.int on), some (.int tw), some (.int th)] [] _ _
          refine am_e18 hi_180_270 ?_
          refine am_e35 hi_180_371 ?_
          have q1 : mg_p1 (((1 : Int), (0 : Int), (0 : Int), (0 : Int), []) :: (((15 : Int), r266.toInt, r235.toInt, z209.toInt, []) :: gs)) = 0 + (0 + (mg_p1 gs)) := rfl
          have q2 : mg_p2 (((1 : Int), (0 : Int), (0 : Int), (0 : Int), []) :: (((15 : Int), r266.toInt, r235.toInt, z209.toInt, []) :: gs)) = 0 + (0 + (mg_p2 gs)) := rfl
          have q3 : mg_p3 (((1 : Int), (0 : Int), (0 : Int), (0 : Int), []) :: (((15 : Int), r266.toInt, r235.toInt, z209.toInt, []) :: gs)) = 1 + (1 + (mg_p3 gs)) := rfl
          have q4 : mg_p4 (((1 : Int), (0 : Int), (0 : Int), (0 : Int), []) :: (((15 : Int), r266.toInt, r235.toInt, z209.toInt, []) :: gs)) = 0 + (0 + (mg_p4 gs)) := rfl
          refine ⟨_, _, _, ([] :: bc), rfl, hS309, Or.inl ⟨⟨(RJ.fewer (pj' := []) hR312_ (fun _ h => nomatch h)), ?_, ?_⟩, rfl, ?_⟩⟩
          · exact (⟨⟨(show mg_k 1 from by decide), (show (0 : Int) ≤ z0.toInt from by omega), (show 0 ≤ (f 20).toInt from by omega), (show 1 ≤ z276.toInt from by omega), (show 0 ≤ (f 32).toInt from by omega), (show (f 32).toInt ≤ y193.toInt from by omega), (show y193.toInt ≤ 48 from by omega), (show z276.toInt ≤ 2 * (y193.toInt) + 1 from by omega), trivial⟩, ⟨⟨(show mg_k 15 from by decide), (show (0 : Int) ≤ z0.toInt + 0 from by omega), (show 0 ≤ (f 20).toInt from by omega), (show 1 ≤ z276.toInt + 0 from by omega), (show 0 ≤ (f 32).toInt + 0 from by omega), (show (f 32).toInt + 0 ≤ y193.toInt + 0 from by omega), (show y193.toInt + 0 ≤ 48 from by omega), (show z276.toInt + 0 ≤ 2 * (y193.toInt + 0) + 0 from by omega), (mg_pa13 (l1 := l214) hR (by show g'307 34 = g 34; rw [show g'307 34 = g'298 34 from h311_ 34 (by decide), show g'298 34 = gx292 34 from h302_ 34 (by decide), show gx292 34 = g'277 34 from hg293 34 (by decide), show g'277 34 = g'267 34 from h281_ 34 (by decide), show g'267 34 = g'256 34 from h272_ 34 (by decide), show g'256 34 = g'245 34 from h261_ 34 (by decide), show g'245 34 = g'226 34 from h250_ 34 (by decide), show g'226 34 = g'216 34 from h231_ 34 (by decide), show g'216 34 = g'183 34 from h220_ 34 (by decide), show g'183 34 = g 34 from h188_ 34 (by decide)]) (by show g'307 38 = upd (g 38) (f 37).toNatClampNeg l214; rw [show g'307 38 = g'298 38 from h311_ 38 (by decide), show g'298 38 = gx292 38 from h302_ 38 (by decide), show gx292 38 = g'277 38 from hg293 38 (by decide), h282_, show g'267 38 = g'256 38 from h272_ 38 (by decide), show g'256 38 = g'245 38 from h261_ 38 (by decide), show g'245 38 = g'226 38 from h250_ 38 (by decide), show g'226 38 = g'216 38 from h231_ 38 (by decide), show g'216 38 = g'183 38 from h220_ 38 (by decide), show g'183 38 = g 38 from h188_ 38 (by decide)]) (by show (f 32).toInt + 0 = (f 32).toInt; omega) (by omega) (by show z276.toInt + 0 = (f 37).toInt + 1; omega) (by show z209.toInt = (f 24).toInt - (g 34 (f 32).toNatClampNeg).toInt; omega) (by omega) (by show (f 24).toInt ≤ l214.toInt; omega))⟩, mg_cast (mg_good_ext _ _ _ _ _ _ (fun i _ => by show g'307 34 i = g 34 i; rw [show g'307 34 = g'298 34 from h311_ 34 (by decide), show g'298 34 = gx292 34 from h302_ 34 (by decide), show gx292 34 = g'277 34 from hg293 34 (by decide), show g'277 34 = g'267 34 from h281_ 34 (by decide), show g'267 34 = g'256 34 from h272_ 34 (by decide), show g'256 34 = g'245 34 from h261_ 34 (by decide), show g'245 34 = g'226 34 from h250_ 34 (by decide), show g'226 34 = g'216 34 from h231_ 34 (by decide), show g'216 34 = g'183 34 from h220_ 34 (by decide), show g'183 34 = g 34 from h188_ 34 (by decide)]) (fun i hi => by show g'307 38 i = g 38 i; rw [show g'307 38 = g'298 38 from h311_ 38 (by decide), show g'298 38 = gx292 38 from h302_ 38 (by decide), show gx292 38 = g'277 38 from hg293 38 (by decide), h282_, show g'267 38 = g'256 38 from h272_ 38 (by decide), show g'256 38 = g'245 38 from h261_ 38 (by decide), show g'245 38 = g'226 38 from h250_ 38 (by decide), show g'226 38 = g'216 38 from h231_ 38 (by decide), show g'216 38 = g'183 38 from h220_ 38 (by decide), show g'183 38 = g 38 from h188_ 38 (by decide)]; exact upd_ne (by rw [cl_toNat]; omega)) (fun i _ => by show g'307 23 i = g 23 i; rw [show g'307 23 = g'298 23 from h311_ 23 (by decide), show g'298 23 = gx292 23 from h302_ 23 (by decide), show gx292 23 = g'277 23 from hg293 23 (by decide), show g'277 23 = g'267 23 from h281_ 23 (by decide), show g'267 23 = g'256 23 from h272_ 23 (by decide), show g'256 23 = g'245 23 from h261_ 23 (by decide), show g'245 23 = g'226 23 from h250_ 23 (by decide), show g'226 23 = g'216 23 from h231_ 23 (by decide), show g'216 23 = g'183 23 from h220_ 23 (by decide), show g'183 23 = g 23 from h188_ 23 (by decide)]) hrest) (by show (f 15).toInt + -1 = z0.toInt + 0 + 0; omega) (by show (f 20).toInt = (f 20).toInt; omega) (by show (f 37).toInt + 0 = z276.toInt + 0 + -1; omega) (by show (f 32).toInt + 0 = (f 32).toInt + 0 + 0; omega) (by show (f 5).toInt + 0 = y193.toInt + 0 + -1; omega)⟩⟩ : mg_good (g'307 34) (g'307 38) (g'307 23) (((1 : Int), (0 : Int), (0 : Int), (0 : Int), []) :: (((15 : Int), r266.toInt, r235.toInt, z209.toInt, []) :: gs)) (z0.toInt) ((f 20).toInt) (z276.toInt) ((f 32).toInt) (y193.toInt))
          · exact ⟨(by show 0 ≤ z192.toInt; omega), (by show z192.toInt ≤ (f 0).toInt; omega), (by show (f 0).toInt ≤ 512; omega), (by show 0 ≤ l287.toInt; omega), (by show l287.toInt + (f 20).toInt + mg_p1 (((1 : Int), (0 : Int), (0 : Int), (0 : Int), []) :: (((15 : Int), r266.toInt, r235.toInt, z209.toInt, []) :: gs)) ≤ 4 * z192.toInt; omega), (by show (f 20).toInt ≤ z192.toInt; omega), (by show z0.toInt + mg_p2 (((1 : Int), (0 : Int), (0 : Int), (0 : Int), []) :: (((15 : Int), r266.toInt, r235.toInt, z209.toInt, []) :: gs)) ≤ z192.toInt; omega), (by show mg_p3 (((1 : Int), (0 : Int), (0 : Int), (0 : Int), []) :: (((15 : Int), r266.toInt, r235.toInt, z209.toInt, []) :: gs)) ≤ 20 * z192.toInt + 20; omega), (by show 0 ≤ z265.toInt; omega), (by show z265.toInt + 3 * (f 20).toInt + mg_p4 (((1 : Int), (0 : Int), (0 : Int), (0 : Int), []) :: (((15 : Int), r266.toInt, r235.toInt, z209.toInt, []) :: gs)) ≤ 60 * z192.toInt + 60; omega), (by show 0 ≤ (f 62).toInt; omega), (by show (f 62).toInt + 64 * mj_n (g'307 16) z0.toNatClampNeg 3 ≤ 64 * z192.toInt; rw [show g'307 16 = g'298 16 from h311_ 16 (by decide), show g'298 16 = gx292 16 from h302_ 16 (by decide), show gx292 16 = g'277 16 from hg293 16 (by decide), show g'277 16 = g'267 16 from h281_ 16 (by decide), show g'267 16 = g'256 16 from h272_ 16 (by decide), show g'256 16 = g'245 16 from h261_ 16 (by decide), show g'245 16 = g'226 16 from h250_ 16 (by decide), show g'226 16 = g'216 16 from h231_ 16 (by decide), show g'216 16 = g'183 16 from h220_ 16 (by decide), show g'183 16 = g 16 from h188_ 16 (by decide)]; omega), (by show 0 ≤ (f 44).toInt; omega), (by show (f 44).toInt ≤ z192.toInt; omega), (by show 0 ≤ (f 48).toInt; omega), (by show (f 48).toInt ≤ z192.toInt; omega), (by show 1 ≤ (f 53).toInt; omega), (by show (f 53).toInt ≤ z192.toInt + 1; omega), (by show 0 ≤ (f 19).toInt; omega), (by show (f 19).toInt ≤ 600; omega)⟩
          · show 100 * ((f 0).toInt - z192.toInt) + mg_p3 (((1 : Int), (0 : Int), (0 : Int), (0 : Int), []) :: (((15 : Int), r266.toInt, r235.toInt, z209.toInt, []) :: gs)) < 100 * ((f 0).toInt - (f 4).toInt) + (1 + mg_p3 gs); omega
      · subst hv203
        replace hS204 : MS S0 S191 (upd (upd (upd (upd (upd f 6 a201) 7 b202) 10 0) 15 z0) 68 z181) g'183 := hS204
        have hR313 := rj_clear0 hR189_
        have hR314 : RJ (upd (upd (upd (upd (upd f 6 a201) 7 b202) 10 0) 15 z0) 68 z181) g'183 [] bc [] 0 [] := hR313
        show am_E _ _ _ _ [some (.ref 39), some (.int on), some (.int tw), some (.int th), none, none, none, none] [.int 0] _ _
        refine am_e12f hi_257_15 (by decide) ?_
        refine am_e35 hi_257_18 ?_
        show am_E _ _ _ _ [some (.ref 39), some (.int 14), some (.int on), some (.int tw), some (.int th)] [] _ _
        refine am_e18 hi_180_270 ?_
        refine am_e35 hi_180_371 ?_
        have hRc := rj_clear0 hR314
        refine ⟨_, _, [], _, rfl, hS204, Or.inr ⟨hRc, rfl, (by show 0 ≤ (f 4).toInt; omega), (by show (f 4).toInt ≤ (f 0).toInt; omega), (by show 0 ≤ (f 32).toInt; omega), (by show (f 32).toInt ≤ 63; omega), (by show 1 ≤ (f 53).toInt; omega), (by show (f 53).toInt ≤ 600; omega), (by show 0 ≤ z181.toInt; omega), (by show z181.toInt ≤ 60000; omega), (by show 0 ≤ (f 48).toInt; omega), (by show (f 48).toInt ≤ 8000; omega), (by show 0 ≤ (f 37).toInt; omega), (by show (f 37).toInt ≤ 128; omega), (by show 0 ≤ (f 62).toInt; omega), (by show (f 62).toInt ≤ 65000; omega), (by show 0 ≤ (f 19).toInt; omega), (by show (f 19).toInt ≤ 600; omega)⟩⟩
  · refine am_e13f hi_216_12 (am_cF (m := (g 16 z0.toNatClampNeg).toInt) (n := (1 : Int)) rfl (by decide) c1) ?_
    refine am_e2 (v := 39) hi_216_15 rfl ?_
    refine mm_20 (v := .ref 46) hS hi_216_16 rfl ?_
    refine am_e2 (v := 39) hi_216_19 rfl ?_
    refine mm_20 (v := .int (f 15)) hS hi_216_20 rfl ?_
    refine am_e0 hi_216_23 ?_
    refine am_e10 (z := z0) hi_216_24 hz0 ?_
    refine mm_25 hS ma_16 hi_216_25 (by decide) (by omega) (by omega) ?_
    show am_E _ _ _ _ [some (.ref 39)] [.int (g 16 z0.toNatClampNeg)] _ _
    refine am_e0 hi_216_26 ?_
    by_cases c315 : ¬ (g 16 z0.toNatClampNeg).toInt = (2 : Int)
    · refine am_e13t hi_216_27 (am_cT (m := (g 16 z0.toNatClampNeg).toInt) (n := (2 : Int)) rfl (by decide) c315) ?_
      refine am_e0 hi_216_34 ?_
      refine am_e36 hi_216_35 (by decide) ?_
      show am_E _ _ _ _ [some (.ref 39), some (.int 4), some (.int (f 19))] [.int 0] _ _
      refine am_e12t hi_258_4 (by decide) ?_
      refine am_e2 (v := 39) hi_258_31 rfl ?_
      refine am_e32w (as := [.ref 39]) (la := [some (.ref 39)]) (rest := []) hi_258_32 (am_hd0 (M := 258) (by decide) 32) (Nat.le_of_ble_eq_true rfl) (Nat.le_of_ble_eq_true rfl) (show 1 ≤ am_P0.2.2.1 209 from by decide +kernel) rfl (am_recv_ok hS.fs) rfl rfl ?_
      refine am_e2 (v := 39) hi_209_0 rfl ?_
      refine am_e32n (as := [.ref 39]) (la := [some (.ref 39), none, none, none]) (rest := []) hi_209_1 (am_hd0 (M := 209) (by decide) 1) (Nat.le_of_ble_eq_true rfl) (Nat.le_of_ble_eq_true rfl) (show 1 ≤ am_P0.2.2.1 204 from by decide +kernel) rfl (am_recv_ok hS.fs) rfl rfl (ct_load (d := (d + 2)) hS hR  (by show (0 : Int) ≤ (f 32).toInt; omega) (by show (f 32).toInt ≤ (63 : Int); omega) (by show (f 53).toInt ≤ (4096 : Int); omega) (by show (0 : Int) ≤ (f 68).toInt; omega) (by show (f 68).toInt ≤ (65534 : Int); omega) (by show (1 : Int) ≤ (f 15).toInt; omega) (by show (f 15).toInt ≤ (32767 : Int); omega) (by show (0 : Int) ≤ (f 24).toInt; omega) (by show (f 24).toInt ≤ (16384 : Int); omega) (by show (0 : Int) ≤ (f 62).toInt; omega) (by show (f 62).toInt ≤ (65000 : Int); omega)) ?_
      rintro v316 S317 (⟨o318, s319, m320, g'321, hv322, hS323, hR330, h324, h325, h326, h327, h328, h329⟩)
      subst hv322
      have h324_ : (f 62).toInt ≤ o318.toInt := h324
      have h325_ : o318.toInt ≤ (f 62).toInt + 64 := h325
      have h326_ : (f 68).toInt ≤ s319.toInt := h326
      have h327_ : s319.toInt ≤ (f 68).toInt + 1 := h327
      have h328_ : o318.toInt + 64 * mj_n (g'321 16) (f 15).toNatClampNeg 3 ≤ (f 62).toInt + 64 * mj_n (g 16) (f 15).toNatClampNeg 3 := h328
      have h329_ : ∀ j, j ∉ [16, 60, 63, 64, 65, 66, 67, 69, 70, 71, 72, 73] → g'321 j = g j := h329
      have hR330_ : RJ (upd (upd (upd f 62 o318) 68 s319) 75 m320) g'321 gs bc [] 0 [] := hR330
      show am_E _ _ _ _ [some (.ref 39)] [] _ _
      refine am_e2 (v := 39) hi_209_4 rfl ?_
      refine am_e7 hi_209_5 ?_
      refine mm_20 (v := .int (f 15)) hS323 hi_209_6 rfl ?_
      refine am_e0 hi_209_9 ?_
      refine am_e10 (z := z0) hi_209_10 hz0 ?_
      refine mm_21 (v := z0) hS323 hi_209_11 rfl (Nat.le_of_ble_eq_true rfl) ms_15 ?_
      intro S331 hS332
      replace hS332 : MS S0 S331 (upd (upd (upd (upd f 15 z0) 62 o318) 68 s319) 75 m320) g'321 := hS332
      have hp333 : mj_n (g'321 16) (f 15).toNatClampNeg 3 = mj_n (g'321 16) z0.toNatClampNeg 3 + if (g'321 16 z0.toNatClampNeg).toInt = 3 then 1 else 0 := mj_pop (by rw [cl_toNat, cl_toNat]; omega)
      have hp3331 : mj_n (g'321 16) z0.toNatClampNeg 3 ≤ mj_n (g'321 16) (f 15).toNatClampNeg 3 := by rw [hp333]; split <;> omega
      have hp3332 : (g'321 16 z0.toNatClampNeg).toInt = 3 → mj_n (g'321 16) z0.toNatClampNeg 3 + 1 ≤ mj_n (g'321 16) (f 15).toNatClampNeg 3 := fun q => by rw [hp333, if_pos q]; exact Int.le_refl _
      refine am_e35 hi_209_14 ?_
      show am_E _ _ _ _ [some (.ref 39), some (.int 4), some (.int (f 19))] [] _ _
      refine am_e2 (v := 39) hi_258_35 rfl ?_
      refine am_e1 (v := 4) hi_258_36 rfl ?_
      refine am_e1 (v := f 19) hi_258_37 rfl ?_
      obtain ⟨z334, hz334, tz334⟩ := am_subI (x := 4) (y := f 19) (m := (4 : Int)) (n := (f 19).toInt) (by decide) rfl (by omega) (by omega)
      refine am_e10 (z := z334) hi_258_38 hz334 ?_
      refine am_e32n (as := [.ref 39, .int z334]) (la := [some (.ref 39), some (.int z334), none]) (rest := []) hi_258_39 (am_hd0 (M := 258) (by decide) 39) (Nat.le_of_ble_eq_true rfl) (Nat.le_of_ble_eq_true rfl) (show 2 ≤ am_P0.2.2.1 240 from by decide +kernel) rfl (am_recv_ok hS332.fs) rfl rfl (ct_nils (d := (d + 4)) hS332 hR330_  (by show (0 : Int) ≤ (f 32).toInt; omega) (by show (f 32).toInt ≤ (63 : Int); omega) (by show (f 53).toInt ≤ (4096 : Int); omega) (by show (0 : Int) ≤ s319.toInt; omega) (by show s319.toInt ≤ (65534 : Int); omega) (by show s319.toInt + z334.toInt ≤ 65534; omega)) ?_
      rintro v335 S336 (⟨s337, g'338, hv339, hS340, hR344, h341, h342, h343⟩)
      subst hv339
      have h341_ : s319.toInt ≤ s337.toInt := h341
      have h342_ : s337.toInt ≤ s319.toInt + z334.toInt ∨ s337.toInt ≤ s319.toInt := h342
      have h343_ : ∀ j, j ∉ [60, 69, 70, 71, 72, 73] → g'338 j = g'321 j := h343
      replace hS340 : MS S0 S336 (upd (upd (upd (upd f 15 z0) 62 o318) 68 s337) 75 m320) g'338 := hS340
      have hR344_ : RJ (upd (upd (upd (upd f 15 z0) 62 o318) 68 s337) 75 m320) g'338 gs bc [] 0 [] := hR344
      show am_E _ _ _ _ [some (.ref 39), some (.int 4), some (.int (f 19))] [] _ _
      refine am_e1 (v := f 19) hi_258_42 rfl ?_
      refine am_e1 (v := 4) hi_258_43 rfl ?_
      by_cases c345 : (f 19).toInt ≤ (4 : Int)
      · refine am_e13t hi_258_44 (am_cT (m := (f 19).toInt) (n := (4 : Int)) rfl (by decide) c345) ?_
        refine am_e35 hi_258_59 ?_
        show am_E _ _ _ _ [some (.ref 39), some (.int on), some (.int tw), some (.int th), none, none, none, none] [] _ _
        refine am_e2 (v := 39) hi_257_9 rfl ?_
        refine am_e0 hi_257_10 ?_
        refine am_e32n (as := [.ref 39, .int 12]) (la := [some (.ref 39), some (.int 12)]) (rest := []) hi_257_12 (am_hd0 (M := 257) (by decide) 12) (Nat.le_of_ble_eq_true rfl) (Nat.le_of_ble_eq_true rfl) (show 2 ≤ am_P0.2.2.1 193 from by decide +kernel) rfl (am_recv_ok hS340.fs) rfl rfl (ct_enter (d := (d + 4)) hS340   (by show (0 : Int) ≤ (f 4).toInt; omega) (by show (f 0).toInt ≤ (16384 : Int); omega) (by show (0 : Int) ≤ (12 : Int); omega) (by show (0 : Int) ≤ (f 5).toInt; omega) (by show (f 5).toInt ≤ (48 : Int); omega)) ?_
        rintro v346 S347 (⟨z348, y349, hv350, hS351, h352, h353, h354, h355⟩ | ⟨a357, b358, hv359, hS360⟩)
        · subst hv350
          have h352_ : z348.toInt = (f 4).toInt + 1 := h352
          have h353_ : (f 4).toInt < (f 0).toInt := h353
          have h354_ : y349.toInt = (f 5).toInt + 1 := h354
          have h355_ : y349.toInt ≤ (48 : Int) := h355
          replace hS351 : MS S0 S347 (upd (upd (upd (upd (upd (upd f 4 z348) 5 y349) 15 z0) 62 o318) 68 s337) 75 m320) g'338 := hS351
          have hR362 : RJ (upd (upd (upd (upd (upd (upd f 4 z348) 5 y349) 15 z0) 62 o318) 68 s337) 75 m320) g'338 gs bc [] 0 [] := RJ.at hR344_ (by show (f 4).toInt ≤ z348.toInt; omega)
          show am_E _ _ _ _ [some (.ref 39), some (.int on), some (.int tw), some (.int th), none, none, none, none] [.int 1] _ _
          refine am_e12t hi_257_15 (by decide) ?_
          refine am_e2 (v := 39) hi_257_19 rfl ?_
          refine am_e32w (as := [.ref 39]) (la := [some (.ref 39)]) (rest := []) hi_257_20 (am_hd0 (M := 257) (by decide) 20) (Nat.le_of_ble_eq_true rfl) (Nat.le_of_ble_eq_true rfl) (show 1 ≤ am_P0.2.2.1 197 from by decide +kernel) rfl (am_recv_ok hS351.fs) rfl rfl ?_
          refine am_e2 (v := 39) hi_197_0 rfl ?_
          refine mm_20 (v := .int (f 24)) hS351 hi_197_1 rfl ?_
          refine am_e2 (v := 39) hi_197_4 rfl ?_
          refine mm_20 (v := .ref 59) hS351 hi_197_5 rfl ?_
          refine am_e2 (v := 39) hi_197_8 rfl ?_
          refine mm_20 (v := .int (f 32)) hS351 hi_197_9 rfl ?_
          refine mm_25 hS351 ma_34 hi_197_12 (by decide) (by omega) (by omega) ?_
          show am_E _ _ _ _ _ (.int (g'338 34 (f 32).toNatClampNeg) :: _) _ _
          rw [show g'338 34 = g'321 34 from h343_ 34 (by decide), show g'321 34 = g 34 from h329_ 34 (by decide)]
          show am_E _ _ _ _ [some (.ref 39)] [.int (g 34 (f 32).toNatClampNeg), .int (f 24)] _ _
          have r363 : 0 ≤ (g 34 (f 32).toNatClampNeg).toInt := by
            have h := RJ.ba hR362 (f 32).toNatClampNeg
            rw [show g'338 34 = g'321 34 from h343_ 34 (by decide), show g'321 34 = g 34 from h329_ 34 (by decide)] at h
            exact h
          have r364 : (g 34 (f 32).toNatClampNeg).toInt ≤ 2147483647 := i32_le _
          obtain ⟨z365, hz365, tz365⟩ := am_subI (x := f 24) (y := g 34 (f 32).toNatClampNeg) (m := (f 24).toInt) (n := (g 34 (f 32).toNatClampNeg).toInt) rfl rfl (by omega) (by omega)
          refine am_e10 (z := z365) hi_197_13 hz365 ?_
          refine am_e33 hi_197_14 ?_
          show am_E _ _ _ _ [some (.ref 39), some (.int on), some (.int tw), some (.int th), none, none, none, none] [.int z365] _ _
          refine am_e3 (ls' := [some (.ref 39), some (.int on), some (.int tw), some (.int th), some (.int z365), none, none, none]) hi_257_23 (Nat.le_of_ble_eq_true rfl) rfl ?_
          refine am_e2 (v := 39) hi_257_25 rfl ?_
          refine am_e0 hi_257_26 ?_
          refine am_e0 hi_257_27 ?_
          refine am_e1 (v := on) hi_257_28 rfl ?_
          refine am_e32n (as := [.ref 39, .int 4, .int 1, .int on]) (la := [some (.ref 39), some (.int 4), some (.int 1), some (.int on), none]) (rest := []) hi_257_29 (am_hd0 (M := 257) (by decide) 29) (Nat.le_of_ble_eq_true rfl) (Nat.le_of_ble_eq_true rfl) (show 4 ≤ am_P0.2.2.1 254 from by decide +kernel) rfl (am_recv_ok hS351.fs) rfl rfl (ct_hide (d := (d + 4)) hS351 hR362 (by decide)  (by show (0 : Int) ≤ (f 32).toInt; omega) (by show (f 32).toInt ≤ (63 : Int); omega) (by show (f 53).toInt ≤ (4096 : Int); omega) (by show (0 : Int) ≤ (f 24).toInt; omega) (by show (f 24).toInt ≤ (16000 : Int); omega) (by show (0 : Int) ≤ (4 : Int); omega) (by show (4 : Int) ≤ (16 : Int); omega)) ?_
          rintro v366 S367 (⟨a368, b369, l370, y371, g'372, hv373, hS374, hR377, h375, h376⟩)
          subst hv373
          have h375_ : l370.toInt = (f 24).toInt + (4 : Int) := h375
          have h376_ : ∀ j, j ∉ [25, 26, 27, 28, 29, 30, 58] → g'372 j = g'338 j := h376
          replace hS374 : MS S0 S367 (upd (upd (upd (upd (upd (upd (upd (upd (upd (upd f 4 z348) 5 y349) 8 a368) 9 b369) 15 z0) 24 l370) 31 y371) 62 o318) 68 s337) 75 m320) g'372 := hS374
          have hR377_ : RJ (upd (upd (upd (upd (upd (upd (upd (upd (upd (upd f 4 z348) 5 y349) 8 a368) 9 b369) 15 z0) 24 l370) 31 y371) 62 o318) 68 s337) 75 m320) g'372 gs bc [] 0 [] := hR377
          show am_E _ _ _ _ [some (.ref 39), some (.int on), some (.int tw), some (.int th), some (.int z365), none, none, none] [] _ _
          refine am_e2 (v := 39) hi_257_32 rfl ?_
          refine am_e0 hi_257_33 ?_
          refine am_e1 (v := z365) hi_257_35 rfl ?_
          refine am_e0 hi_257_37 ?_
          refine am_e1 (v := on) hi_257_38 rfl ?_
          refine am_e32n (as := [.ref 39, .int 42, .int z365, .int 0, .int on]) (la := [some (.ref 39), some (.int 42), some (.int z365), some (.int 0), some (.int on)]) (rest := []) hi_257_39 (am_hd0 (M := 257) (by decide) 39) (Nat.le_of_ble_eq_true rfl) (Nat.le_of_ble_eq_true rfl) (show 5 ≤ am_P0.2.2.1 189 from by decide +kernel) rfl (am_recv_ok hS374.fs) rfl rfl (ct_put (d := (d + 6)) hS374 hR377_  (by show (0 : Int) ≤ (f 32).toInt; omega) (by show (f 32).toInt ≤ (63 : Int); omega) (by show (f 53).toInt ≤ (4096 : Int); omega) (by show (0 : Int) ≤ s337.toInt; omega) (by show s337.toInt ≤ (65534 : Int); omega)) ?_
          rintro v378 S379 (⟨z380, r381, g'382, hv383, hS384, hR388, h385, h386, h387⟩)
          subst hv383
          have h385_ : z380.toInt = s337.toInt + 1 := h385
          have h386_ : r381.toInt = s337.toInt := h386
          have h387_ : ∀ j, j ∉ [60, 69, 70, 71, 72, 73] → g'382 j = g'372 j := h387
          replace hS384 : MS S0 S379 (upd (upd (upd (upd (upd (upd (upd (upd (upd (upd f 4 z348) 5 y349) 8 a368) 9 b369) 15 z0) 24 l370) 31 y371) 62 o318) 68 z380) 75 m320) g'382 := hS384
          have hR388_ : RJ (upd (upd (upd (upd (upd (upd (upd (upd (upd (upd f 4 z348) 5 y349) 8 a368) 9 b369) 15 z0) 24 l370) 31 y371) 62 o318) 68 z380) 75 m320) g'382 gs bc [] 0 (s337.toNatClampNeg :: []) := hR388
          show am_E _ _ _ _ [some (.ref 39), some (.int on), some (.int tw), some (.int th), some (.int z365), none, none, none] [.int r381] _ _
          refine am_e6i hi_257_42 ?_
          refine am_e2 (v := 39) hi_257_43 rfl ?_
          refine am_e32n (as := [.ref 39]) (la := [some (.ref 39)]) (rest := []) hi_257_44 (am_hd0 (M := 257) (by decide) 44) (Nat.le_of_ble_eq_true rfl) (Nat.le_of_ble_eq_true rfl) (show 1 ≤ am_P0.2.2.1 210 from by decide +kernel) rfl (am_recv_ok hS384.fs) rfl rfl (ct_here (d := (d + 6)) hS384 hR388_  (by show (0 : Int) ≤ (f 32).toInt; omega) (by show (f 32).toInt ≤ (63 : Int); omega) (by show (f 53).toInt ≤ (4096 : Int); omega) (by show (0 : Int) ≤ z380.toInt; omega) (by show z380.toInt ≤ (65534 : Int); omega)) ?_
          rintro v389 S390 (⟨r391, hv392, hS393, h394, h395⟩)
          subst hv392
          have h394_ : (0 : Int) ≤ r391.toInt := h394
          have h395_ : r391.toInt ≤ z380.toInt := h395
          show am_E _ _ _ _ [some (.ref 39), some (.int on), some (.int tw), some (.int th), some (.int z365), none, none, none] [.int r391] _ _
          refine am_e3 (ls' := [some (.ref 39), some (.int on), some (.int tw), some (.int th), some (.int z365), some (.int r391), none, none]) hi_257_47 (Nat.le_of_ble_eq_true rfl) rfl ?_
          refine am_e2 (v := 39) hi_257_49 rfl ?_
          refine am_e0 hi_257_50 ?_
          refine am_e0 hi_257_52 ?_
          refine am_e0 hi_257_53 ?_
          refine am_e1 (v := on) hi_257_54 rfl ?_
          refine am_e32n (as := [.ref 39, .int 34, .int 0, .int 0, .int on]) (la := [some (.ref 39), some (.int 34), some (.int 0), some (.int 0), some (.int on)]) (rest := []) hi_257_55 (am_hd0 (M := 257) (by decide) 55) (Nat.le_of_ble_eq_true rfl) (Nat.le_of_ble_eq_true rfl) (show 5 ≤ am_P0.2.2.1 189 from by decide +kernel) rfl (am_recv_ok hS393.fs) rfl rfl (ct_put (d := (d + 6)) hS393 hR388_  (by show (0 : Int) ≤ (f 32).toInt; omega) (by show (f 32).toInt ≤ (63 : Int); omega) (by show (f 53).toInt ≤ (4096 : Int); omega) (by show (0 : Int) ≤ z380.toInt; omega) (by show z380.toInt ≤ (65534 : Int); omega)) ?_
          rintro v397 S398 (⟨z399, r400, g'401, hv402, hS403, hR407, h404, h405, h406⟩)
          subst hv402
          have h404_ : z399.toInt = z380.toInt + 1 := h404
          have h405_ : r400.toInt = z380.toInt := h405
          have h406_ : ∀ j, j ∉ [60, 69, 70, 71, 72, 73] → g'401 j = g'382 j := h406
          replace hS403 : MS S0 S398 (upd (upd (upd (upd (upd (upd (upd (upd (upd (upd f 4 z348) 5 y349) 8 a368) 9 b369) 15 z0) 24 l370) 31 y371) 62 o318) 68 z399) 75 m320) g'401 := hS403
          have hR407_ : RJ (upd (upd (upd (upd (upd (upd (upd (upd (upd (upd f 4 z348) 5 y349) 8 a368) 9 b369) 15 z0) 24 l370) 31 y371) 62 o318) 68 z399) 75 m320) g'401 gs bc [] 0 (z380.toNatClampNeg :: (s337.toNatClampNeg :: [])) := hR407
          show am_E _ _ _ _ [some (.ref 39), some (.int on), some (.int tw), some (.int th), some (.int z365), some (.int r391), none, none] [.int r400] _ _
          refine am_e6i hi_257_58 ?_
          refine am_e2 (v := 39) hi_257_59 rfl ?_
          refine am_e0 hi_257_60 ?_
          refine am_e1 (v := z365) hi_257_62 rfl ?_
          refine am_e1 (v := tw) hi_257_64 rfl ?_
          refine am_e1 (v := th) hi_257_65 rfl ?_
          refine am_e32n (as := [.ref 39, .int 43, .int z365, .int tw, .int th]) (la := [some (.ref 39), some (.int 43), some (.int z365), some (.int tw), some (.int th)]) (rest := []) hi_257_66 (am_hd0 (M := 257) (by decide) 66) (Nat.le_of_ble_eq_true rfl) (Nat.le_of_ble_eq_true rfl) (show 5 ≤ am_P0.2.2.1 189 from by decide +kernel) rfl (am_recv_ok hS403.fs) rfl rfl (ct_put (d := (d + 6)) hS403 hR407_  (by show (0 : Int) ≤ (f 32).toInt; omega) (by show (f 32).toInt ≤ (63 : Int); omega) (by show (f 53).toInt ≤ (4096 : Int); omega) (by show (0 : Int) ≤ z399.toInt; omega) (by show z399.toInt ≤ (65534 : Int); omega)) ?_
          rintro v408 S409 (⟨z410, r411, g'412, hv413, hS414, hR418, h415, h416, h417⟩)
          subst hv413
          have h415_ : z410.toInt = z399.toInt + 1 := h415
          have h416_ : r411.toInt = z399.toInt := h416
          have h417_ : ∀ j, j ∉ [60, 69, 70, 71, 72, 73] → g'412 j = g'401 j := h417
          replace hS414 : MS S0 S409 (upd (upd (upd (upd (upd (upd (upd (upd (upd (upd f 4 z348) 5 y349) 8 a368) 9 b369) 15 z0) 24 l370) 31 y371) 62 o318) 68 z410) 75 m320) g'412 := hS414
          have hR418_ : RJ (upd (upd (upd (upd (upd (upd (upd (upd (upd (upd f 4 z348) 5 y349) 8 a368) 9 b369) 15 z0) 24 l370) 31 y371) 62 o318) 68 z410) 75 m320) g'412 gs bc [] 0 (z399.toNatClampNeg :: (z380.toNatClampNeg :: (s337.toNatClampNeg :: []))) := hR418
          show am_E _ _ _ _ [some (.ref 39), some (.int on), some (.int tw), some (.int th), some (.int z365), some (.int r391), none, none] [.int r411] _ _
          refine am_e6i hi_257_69 ?_
          refine am_e2 (v := 39) hi_257_70 rfl ?_
          refine am_e0 hi_257_71 ?_
          refine am_e1 (v := z365) hi_257_73 rfl ?_
          refine am_e0 hi_257_75 ?_
          refine am_e0 hi_257_76 ?_
          refine am_e32n (as := [.ref 39, .int 44, .int z365, .int 0, .int 0]) (la := [some (.ref 39), some (.int 44), some (.int z365), some (.int 0), some (.int 0)]) (rest := []) hi_257_77 (am_hd0 (M := 257) (by decide) 77) (Nat.le_of_ble_eq_true rfl) (Nat.le_of_ble_eq_true rfl) (show 5 ≤ am_P0.2.2.1 189 from by decide +kernel) rfl (am_recv_ok hS414.fs) rfl rfl (ct_put (d := (d + 6)) hS414 hR418_  (by show (0 : Int) ≤ (f 32).toInt; omega) (by show (f 32).toInt ≤ (63 : Int); omega) (by show (f 53).toInt ≤ (4096 : Int); omega) (by show (0 : Int) ≤ z410.toInt; omega) (by show z410.toInt ≤ (65534 : Int); omega)) ?_
          rintro v419 S420 (⟨z421, r422, g'423, hv424, hS425, hR429, h426, h427, h428⟩)
          subst hv424
          have h426_ : z421.toInt = z410.toInt + 1 := h426
          have h427_ : r422.toInt = z410.toInt := h427
          have h428_ : ∀ j, j ∉ [60, 69, 70, 71, 72, 73] → g'423 j = g'412 j := h428
          replace hS425 : MS S0 S420 (upd (upd (upd (upd (upd (upd (upd (upd (upd (upd f 4 z348) 5 y349) 8 a368) 9 b369) 15 z0) 24 l370) 31 y371) 62 o318) 68 z421) 75 m320) g'423 := hS425
          have hR429_ : RJ (upd (upd (upd (upd (upd (upd (upd (upd (upd (upd f 4 z348) 5 y349) 8 a368) 9 b369) 15 z0) 24 l370) 31 y371) 62 o318) 68 z421) 75 m320) g'423 gs bc [] 0 (z410.toNatClampNeg :: (z399.toNatClampNeg :: (z380.toNatClampNeg :: (s337.toNatClampNeg :: [])))) := hR429
          show am_E _ _ _ _ [some (.ref 39), some (.int on), some (.int tw), some (.int th), some (.int z365), some (.int r391), none, none] [.int r422] _ _
          refine am_e3 (ls' := [some (.ref 39), some (.int on), some (.int tw), some (.int th), some (.int z365), some (.int r391), some (.int r422), none]) hi_257_80 (Nat.le_of_ble_eq_true rfl) rfl ?_
          refine am_e2 (v := 39) hi_257_82 rfl ?_
          refine am_e0 hi_257_83 ?_
          refine am_e32n (as := [.ref 39, .int 1]) (la := [some (.ref 39), some (.int 1)]) (rest := []) hi_257_84 (am_hd0 (M := 257) (by decide) 84) (Nat.le_of_ble_eq_true rfl) (Nat.le_of_ble_eq_true rfl) (show 2 ≤ am_P0.2.2.1 177 from by decide +kernel) rfl (am_recv_ok hS425.fs) rfl rfl (ct_beginBlock2 (d := (d + 6)) hS425 hR429_ (by decide)  (by show (0 : Int) ≤ (f 37).toInt; omega) (by show (f 37).toInt ≤ (127 : Int); omega) (by show (0 : Int) ≤ l370.toInt; omega) (by show (0 : Int) ≤ (f 44).toInt; omega) (by show (f 44).toInt ≤ z348.toInt; omega) (by show (0 : Int) ≤ (f 48).toInt; omega)) ?_
          rintro v430 S431 (⟨z432, g'433, hv434, hS435, hR439, h436, h437, h438⟩)
          subst hv434
          have h436_ : z432.toInt = (f 37).toInt + 1 := h436
          have h437_ : ∀ j, j ∉ [38, 39, 40, 41, 42, 43] → g'433 j = g'423 j := h437
          have h438_ : g'433 38 = upd (g'423 38) (f 37).toNatClampNeg l370 := h438
          replace hS435 : MS S0 S431 (upd (upd (upd (upd (upd (upd (upd (upd (upd (upd (upd f 4 z348) 5 y349) 8 a368) 9 b369) 15 z0) 24 l370) 31 y371) 37 z432) 62 o318) 68 z421) 75 m320) g'433 := hS435
          have hR439_ : RJ (upd (upd (upd (upd (upd (upd (upd (upd (upd (upd (upd f 4 z348) 5 y349) 8 a368) 9 b369) 15 z0) 24 l370) 31 y371) 37 z432) 62 o318) 68 z421) 75 m320) g'433 gs ([] :: bc) [] 0 (z410.toNatClampNeg :: (z399.toNatClampNeg :: (z380.toNatClampNeg :: (s337.toNatClampNeg :: [])))) := hR439
          show am_E _ _ _ _ [some (.ref 39), some (.int on), some (.int tw), some (.int th), some (.int z365), some (.int r391), some (.int r422), none] [] _ _
          refine am_e0 hi_257_87 ?_
          refine am_e3 (ls' := [some (.ref 39), some (.int on), some (.int tw), some (.int th), some (.int z365), some (.int r391), some (.int r422), some (.int 0)]) hi_257_88 (Nat.le_of_ble_eq_true rfl) rfl ?_
          refine fr_each (d := (d + 2)) (f := (upd (upd (upd (upd (upd (upd (upd (upd (upd (upd (upd f 4 z348) 5 y349) 8 a368) 9 b369) 15 z0) 24 l370) 31 y371) 37 z432) 62 o318) 68 z421) 75 m320)) (g := g'433) (w := on) (m := tw) (x3 := th) (c4 := z365) (h5 := r391) (q6 := r422)  (by show (0 : Int) ≤ (f 32).toInt; omega) (by show (f 32).toInt ≤ (63 : Int); omega) (by show (f 53).toInt ≤ (4096 : Int); omega) (by show (0 : Int) ≤ l370.toInt; omega) (by show l370.toInt + tw.toInt ≤ 16383; omega) (by show (0 : Int) ≤ on.toInt; omega) (by show on.toInt + 2 * tw.toInt ≤ 16000; omega) ?_ ((tw.toInt - (0 : Int)).toNat + 1) _ 0 a368 b369 l370 y371 _ hS435 hR439_ (fun _ _ => rfl) (by show (0 : Int) ≤ (0 : Int); omega) (by show (0 : Int) ≤ tw.toInt; omega) (by show l370.toInt = l370.toInt + (0 : Int); omega) (by show tw.toInt - (0 : Int) < _; omega)
          · intro S445 i440 a441 b442 l443 y444 gx448 hS446 hR447 hg449 h450
            replace hS446 : MS S0 S445 (upd (upd (upd (upd (upd (upd (upd (upd (upd (upd (upd f 4 z348) 5 y349) 8 a441) 9 b442) 15 z0) 24 l443) 31 y444) 37 z432) 62 o318) 68 z421) 75 m320) gx448 := hS446
            have h450_ : l443.toInt = l370.toInt + tw.toInt := h450
            have hR447_ : RJ (upd (upd (upd (upd (upd (upd (upd (upd (upd (upd (upd f 4 z348) 5 y349) 8 a441) 9 b442) 15 z0) 24 l443) 31 y444) 37 z432) 62 o318) 68 z421) 75 m320) gx448 gs ([] :: bc) [] 0 (z410.toNatClampNeg :: (z399.toNatClampNeg :: (z380.toNatClampNeg :: (s337.toNatClampNeg :: [])))) := hR447
            show am_E _ _ _ _ [some (.ref 39), some (.int on), some (.int tw), some (.int th), some (.int z365), some (.int r391), some (.int r422), some (.int i440)] [] _ _
            refine am_e2 (v := 39) hi_257_129 rfl ?_
            refine am_e0 hi_257_130 ?_
            refine am_e1 (v := r422) hi_257_132 rfl ?_
            refine am_e1 (v := r391) hi_257_134 rfl ?_
            refine am_e1 (v := z365) hi_257_136 rfl ?_
            refine am_e32n (as := [.ref 39, .int 15, .int r422, .int r391, .int z365]) (la := [some (.ref 39), some (.int 15), some (.int r422), some (.int r391), some (.int z365)]) (rest := []) hi_257_138 (am_hd0 (M := 257) (by decide) 138) (Nat.le_of_ble_eq_true rfl) (Nat.le_of_ble_eq_true rfl) (show 5 ≤ am_P0.2.2.1 179 from by decide +kernel) rfl (am_recv_ok hS446.fs) rfl rfl (ct_pile (d := (d + 6)) hS446 hR447_ (mj_e_b (by decide) (by omega) (by show r422.toInt < z421.toInt; omega)) (by show (0 : Int) ≤ (f 10).toInt; omega) (by show (f 10).toInt ≤ (65535 : Int); omega)) ?_
            rintro v451 S452 (⟨z453, g'454, hv455, hS456, hR459, h457, h458⟩)
            subst hv455
            have h457_ : z453.toInt = (f 10).toInt + 1 := h457
            have h458_ : ∀ j, j ∉ [11, 12, 13, 14] → g'454 j = gx448 j := h458
            replace hS456 : MS S0 S452 (upd (upd (upd (upd (upd (upd (upd (upd (upd (upd (upd (upd f 4 z348) 5 y349) 8 a441) 9 b442) 10 z453) 15 z0) 24 l443) 31 y444) 37 z432) 62 o318) 68 z421) 75 m320) g'454 := hS456
            have hR459_ : RJ (upd (upd (upd (upd (upd (upd (upd (upd (upd (upd (upd (upd f 4 z348) 5 y349) 8 a441) 9 b442) 10 z453) 15 z0) 24 l443) 31 y444) 37 z432) 62 o318) 68 z421) 75 m320) g'454 (((15 : Int), r422.toInt, r391.toInt, z365.toInt, []) :: gs) ([] :: bc) [] 0 (z410.toNatClampNeg :: (z399.toNatClampNeg :: (z380.toNatClampNeg :: (s337.toNatClampNeg :: [])))) := hR459
            show am_E _ _ _ _ [some (.ref 39), some (.int on), some (.int tw), some (.int th), some (.int z365), some (.int r391), some (.int r422), some (.int i440)] [] _ _
            refine am_e2 (v := 39) hi_257_141 rfl ?_
            refine am_e32w (as := [.ref 39]) (la := [some (.ref 39)]) (rest := []) hi_257_142 (am_hd0 (M := 257) (by decide) 142) (Nat.le_of_ble_eq_true rfl) (Nat.le_of_ble_eq_true rfl) (show 1 ≤ am_P0.2.2.1 178 from by decide +kernel) rfl (am_recv_ok hS456.fs) rfl rfl ?_
            refine am_e2 (v := 39) hi_178_0 rfl ?_
            refine am_e0 hi_178_1 ?_
            refine am_e0 hi_178_2 ?_
            refine am_e0 hi_178_3 ?_
            refine am_e0 hi_178_4 ?_
            refine am_e32n (as := [.ref 39, .int 1, .int 0, .int 0, .int 0]) (la := [some (.ref 39), some (.int 1), some (.int 0), some (.int 0), some (.int 0)]) (rest := []) hi_178_5 (am_hd0 (M := 178) (by decide) 5) (Nat.le_of_ble_eq_true rfl) (Nat.le_of_ble_eq_true rfl) (show 5 ≤ am_P0.2.2.1 179 from by decide +kernel) rfl (am_recv_ok hS456.fs) rfl rfl (ct_pile (d := (d + 5)) hS456 hR459_ (mj_e_plain (by decide)) (by show (0 : Int) ≤ z453.toInt; omega) (by show z453.toInt ≤ (65535 : Int); omega)) ?_
            rintro v460 S461 (⟨z462, g'463, hv464, hS465, hR468, h466, h467⟩)
            subst hv464
            have h466_ : z462.toInt = z453.toInt + 1 := h466
            have h467_ : ∀ j, j ∉ [11, 12, 13, 14] → g'463 j = g'454 j := h467
            replace hS465 : MS S0 S461 (upd (upd (upd (upd (upd (upd (upd (upd (upd (upd (upd (upd f 4 z348) 5 y349) 8 a441) 9 b442) 10 z462) 15 z0) 24 l443) 31 y444) 37 z432) 62 o318) 68 z421) 75 m320) g'463 := hS465
            have hR468_ : RJ (upd (upd (upd (upd (upd (upd (upd (upd (upd (upd (upd (upd f 4 z348) 5 y349) 8 a441) 9 b442) 10 z462) 15 z0) 24 l443) 31 y444) 37 z432) 62 o318) 68 z421) 75 m320) g'463 (((1 : Int), (0 : Int), (0 : Int), (0 : Int), []) :: (((15 : Int), r422.toInt, r391.toInt, z365.toInt, []) :: gs)) ([] :: bc) [] 0 (z410.toNatClampNeg :: (z399.toNatClampNeg :: (z380.toNatClampNeg :: (s337.toNatClampNeg :: [])))) := hR468
            show am_E _ _ _ _ [some (.ref 39)] [] _ _
            refine am_e35 hi_178_8 ?_
            show am_E _ _ _ _ [some (.ref 39), some (.int on), some (.int tw), some (.int th), some (.int z365), some (.int r391), some (.int r422), some (.int i440)] [] _ _
            refine am_e35 hi_257_145 ?_
            show am_E _ _ _ _ [some (.ref 39), some (.int 14), some (.int on), some (.int tw), some (.int th)] [] _ _
            refine am_e18 hi_180_270 ?_
            refine am_e35 hi_180_371 ?_
            have q1 : mg_p1 (((1 : Int), (0 : Int), (0 : Int), (0 : Int), []) :: (((15 : Int), r422.toInt, r391.toInt, z365.toInt, []) :: gs)) = 0 + (0 + (mg_p1 gs)) := rfl
            have q2 : mg_p2 (((1 : Int), (0 : Int), (0 : Int), (0 : Int), []) :: (((15 : Int), r422.toInt, r391.toInt, z365.toInt, []) :: gs)) = 0 + (0 + (mg_p2 gs)) := rfl
            have q3 : mg_p3 (((1 : Int), (0 : Int), (0 : Int), (0 : Int), []) :: (((15 : Int), r422.toInt, r391.toInt, z365.toInt, []) :: gs)) = 1 + (1 + (mg_p3 gs)) := rfl
            have q4 : mg_p4 (((1 : Int), (0 : Int), (0 : Int), (0 : Int), []) :: (((15 : Int), r422.toInt, r391.toInt, z365.toInt, []) :: gs)) = 0 + (0 + (mg_p4 gs)) := rfl
            refine ⟨_, _, _, ([] :: bc), rfl, hS465, Or.inl ⟨⟨(RJ.fewer (pj' := []) hR468_ (fun _ h => nomatch h)), ?_, ?_⟩, rfl, ?_⟩⟩
            · exact (⟨⟨(show mg_k 1 from by decide), (show (0 : Int) ≤ z0.toInt from by omega), (show 0 ≤ (f 20).toInt from by omega), (show 1 ≤ z432.toInt from by omega), (show 0 ≤ (f 32).toInt from by omega), (show (f 32).toInt ≤ y349.toInt from by omega), (show y349.toInt ≤ 48 from by omega), (show z432.toInt ≤ 2 * (y349.toInt) + 1 from by omega), trivial⟩, ⟨⟨(show mg_k 15 from by decide), (show (0 : Int) ≤ z0.toInt + 0 from by omega), (show 0 ≤ (f 20).toInt from by omega), (show 1 ≤ z432.toInt + 0 from by omega), (show 0 ≤ (f 32).toInt + 0 from by omega), (show (f 32).toInt + 0 ≤ y349.toInt + 0 from by omega), (show y349.toInt + 0 ≤ 48 from by omega), (show z432.toInt + 0 ≤ 2 * (y349.toInt + 0) + 0 from by omega), (mg_pa13 (l1 := l370) hR (by show g'463 34 = g 34; rw [show g'463 34 = g'454 34 from h467_ 34 (by decide), show g'454 34 = gx448 34 from h458_ 34 (by decide), show gx448 34 = g'433 34 from hg449 34 (by decide), show g'433 34 = g'423 34 from h437_ 34 (by decide), show g'423 34 = g'412 34 from h428_ 34 (by decide), show g'412 34 = g'401 34 from h417_ 34 (by decide), show g'401 34 = g'382 34 from h406_ 34 (by decide), show g'382 34 = g'372 34 from h387_ 34 (by decide), show g'372 34 = g'338 34 from h376_ 34 (by decide), show g'338 34 = g'321 34 from h343_ 34 (by decide), show g'321 34 = g 34 from h329_ 34 (by decide)]) (by show g'463 38 = upd (g 38) (f 37).toNatClampNeg l370; rw [show g'463 38 = g'454 38 from h467_ 38 (by decide), show g'454 38 = gx448 38 from h458_ 38 (by decide), show gx448 38 = g'433 38 from hg449 38 (by decide), h438_, show g'423 38 = g'412 38 from h428_ 38 (by decide), show g'412 38 = g'401 38 from h417_ 38 (by decide), show g'401 38 = g'382 38 from h406_ 38 (by decide), show g'382 38 = g'372 38 from h387_ 38 (by decide), show g'372 38 = g'338 38 from h376_ 38 (by decide), show g'338 38 = g'321 38 from h343_ 38 (by decide), show g'321 38 = g 38 from h329_ 38 (by decide)]) (by show (f 32).toInt + 0 = (f 32).toInt; omega) (by omega) (by show z432.toInt + 0 = (f 37).toInt + 1; omega) (by show z365.toInt = (f 24).toInt - (g 34 (f 32).toNatClampNeg).toInt; omega) (by omega) (by show (f 24).toInt ≤ l370.toInt; omega))⟩, mg_cast (mg_good_ext _ _ _ _ _ _ (fun i _ => by show g'463 34 i = g 34 i; rw [show g'463 34 = g'454 34 from h467_ 34 (by decide), show g'454 34 = gx448 34 from h458_ 34 (by decide), show gx448 34 = g'433 34 from hg449 34 (by decide), show g'433 34 = g'423 34 from h437_ 34 (by decide), show g'423 34 = g'412 34 from h428_ 34 (by decide), show g'412 34 = g'401 34 from h417_ 34 (by decide), show g'401 34 = g'382 34 from h406_ 34 (by decide), show g'382 34 = g'372 34 from h387_ 34 (by decide), show g'372 34 = g'338 34 from h376_ 34 (by decide), show g'338 34 = g'321 34 from h343_ 34 (by decide), show g'321 34 = g 34 from h329_ 34 (by decide)]) (fun i hi => by show g'463 38 i = g 38 i; rw [show g'463 38 = g'454 38 from h467_ 38 (by decide), show g'454 38 = gx448 38 from h458_ 38 (by decide), show gx448 38 = g'433 38 from hg449 38 (by decide), h438_, show g'423 38 = g'412 38 from h428_ 38 (by decide), show g'412 38 = g'401 38 from h417_ 38 (by decide), show g'401 38 = g'382 38 from h406_ 38 (by decide), show g'382 38 = g'372 38 from h387_ 38 (by decide), show g'372 38 = g'338 38 from h376_ 38 (by decide), show g'338 38 = g'321 38 from h343_ 38 (by decide), show g'321 38 = g 38 from h329_ 38 (by decide)]; exact upd_ne (by rw [cl_toNat]; omega)) (fun i _ => by show g'463 23 i = g 23 i; rw [show g'463 23 = g'454 23 from h467_ 23 (by decide), show g'454 23 = gx448 23 from h458_ 23 (by decide), show gx448 23 = g'433 23 from hg449 23 (by decide), show g'433 23 = g'423 23 from h437_ 23 (by decide), show g'423 23 = g'412 23 from h428_ 23 (by decide), show g'412 23 = g'401 23 from h417_ 23 (by decide), show g'401 23 = g'382 23 from h406_ 23 (by decide), show g'382 23 = g'372 23 from h387_ 23 (by decide), show g'372 23 = g'338 23 from h376_ 23 (by decide), show g'338 23 = g'321 23 from h343_ 23 (by decide), show g'321 23 = g 23 from h329_ 23 (by decide)]) hrest) (by show (f 15).toInt + -1 = z0.toInt + 0 + 0; omega) (by show (f 20).toInt = (f 20).toInt; omega) (by show (f 37).toInt + 0 = z432.toInt + 0 + -1; omega) (by show (f 32).toInt + 0 = (f 32).toInt + 0 + 0; omega) (by show (f 5).toInt + 0 = y349.toInt + 0 + -1; omega)⟩⟩ : mg_good (g'463 34) (g'463 38) (g'463 23) (((1 : Int), (0 : Int), (0 : Int), (0 : Int), []) :: (((15 : Int), r422.toInt, r391.toInt, z365.toInt, []) :: gs)) (z0.toInt) ((f 20).toInt) (z432.toInt) ((f 32).toInt) (y349.toInt))
            · exact ⟨(by show 0 ≤ z348.toInt; omega), (by show z348.toInt ≤ (f 0).toInt; omega), (by show (f 0).toInt ≤ 512; omega), (by show 0 ≤ l443.toInt; omega), (by show l443.toInt + (f 20).toInt + mg_p1 (((1 : Int), (0 : Int), (0 : Int), (0 : Int), []) :: (((15 : Int), r422.toInt, r391.toInt, z365.toInt, []) :: gs)) ≤ 4 * z348.toInt; omega), (by show (f 20).toInt ≤ z348.toInt; omega), (by show z0.toInt + mg_p2 (((1 : Int), (0 : Int), (0 : Int), (0 : Int), []) :: (((15 : Int), r422.toInt, r391.toInt, z365.toInt, []) :: gs)) ≤ z348.toInt; omega), (by show mg_p3 (((1 : Int), (0 : Int), (0 : Int), (0 : Int), []) :: (((15 : Int), r422.toInt, r391.toInt, z365.toInt, []) :: gs)) ≤ 20 * z348.toInt + 20; omega), (by show 0 ≤ z421.toInt; omega), (by show z421.toInt + 3 * (f 20).toInt + mg_p4 (((1 : Int), (0 : Int), (0 : Int), (0 : Int), []) :: (((15 : Int), r422.toInt, r391.toInt, z365.toInt, []) :: gs)) ≤ 60 * z348.toInt + 60; omega), (by show 0 ≤ o318.toInt; omega), (by show o318.toInt + 64 * mj_n (g'463 16) z0.toNatClampNeg 3 ≤ 64 * z348.toInt; rw [show g'463 16 = g'454 16 from h467_ 16 (by decide), show g'454 16 = gx448 16 from h458_ 16 (by decide), show gx448 16 = g'433 16 from hg449 16 (by decide), show g'433 16 = g'423 16 from h437_ 16 (by decide), show g'423 16 = g'412 16 from h428_ 16 (by decide), show g'412 16 = g'401 16 from h417_ 16 (by decide), show g'401 16 = g'382 16 from h406_ 16 (by decide), show g'382 16 = g'372 16 from h387_ 16 (by decide), show g'372 16 = g'338 16 from h376_ 16 (by decide), show g'338 16 = g'321 16 from h343_ 16 (by decide)]; omega), (by show 0 ≤ (f 44).toInt; omega), (by show (f 44).toInt ≤ z348.toInt; omega), (by show 0 ≤ (f 48).toInt; omega), (by show (f 48).toInt ≤ z348.toInt; omega), (by show 1 ≤ (f 53).toInt; omega), (by show (f 53).toInt ≤ z348.toInt + 1; omega), (by show 0 ≤ (f 19).toInt; omega), (by show (f 19).toInt ≤ 600; omega)⟩
            · show 100 * ((f 0).toInt - z348.toInt) + mg_p3 (((1 : Int), (0 : Int), (0 : Int), (0 : Int), []) :: (((15 : Int), r422.toInt, r391.toInt, z365.toInt, []) :: gs)) < 100 * ((f 0).toInt - (f 4).toInt) + (1 + mg_p3 gs); omega
        · subst hv359
          replace hS360 : MS S0 S347 (upd (upd (upd (upd (upd (upd (upd f 6 a357) 7 b358) 10 0) 15 z0) 62 o318) 68 s337) 75 m320) g'338 := hS360
          have hR469 := rj_clear0 hR344_
          have hR470 : RJ (upd (upd (upd (upd (upd (upd (upd f 6 a357) 7 b358) 10 0) 15 z0) 62 o318) 68 s337) 75 m320) g'338 [] bc [] 0 [] := hR469
          show am_E _ _ _ _ [some (.ref 39), some (.int on), some (.int tw), some (.int th), none, none, none, none] [.int 0] _ _
          refine am_e12f hi_257_15 (by decide) ?_
          refine am_e35 hi_257_18 ?_
          show am_E _ _ _ _ [some (.ref 39), some (.int 14), some (.int on), some (.int tw), some (.int th)] [] _ _
          refine am_e18 hi_180_270 ?_
          refine am_e35 hi_180_371 ?_
          have hRc := rj_clear0 hR470
          refine ⟨_, _, [], _, rfl, hS360, Or.inr ⟨hRc, rfl, (by show 0 ≤ (f 4).toInt; omega), (by show (f 4).toInt ≤ (f 0).toInt; omega), (by show 0 ≤ (f 32).toInt; omega), (by show (f 32).toInt ≤ 63; omega), (by show 1 ≤ (f 53).toInt; omega), (by show (f 53).toInt ≤ 600; omega), (by show 0 ≤ s337.toInt; omega), (by show s337.toInt ≤ 60000; omega), (by show 0 ≤ (f 48).toInt; omega), (by show (f 48).toInt ≤ 8000; omega), (by show 0 ≤ (f 37).toInt; omega), (by show (f 37).toInt ≤ 128; omega), (by show 0 ≤ o318.toInt; omega), (by show o318.toInt ≤ 65000; omega), (by show 0 ≤ (f 19).toInt; omega), (by show (f 19).toInt ≤ 600; omega)⟩⟩
      · refine am_e13f hi_258_44 (am_cF (m := (f 19).toInt) (n := (4 : Int)) rfl (by decide) c345) ?_
        refine am_e2 (v := 39) hi_258_47 rfl ?_
        refine am_e0 hi_258_48 ?_
        refine am_e1 (v := f 19) hi_258_50 rfl ?_
        refine am_e1 (v := 4) hi_258_51 rfl ?_
        obtain ⟨z471, hz471, tz471⟩ := am_subI (x := f 19) (y := 4) (m := (f 19).toInt) (n := (4 : Int)) rfl (by decide) (by omega) (by omega)
        refine am_e10 (z := z471) hi_258_52 hz471 ?_
        refine am_e0 hi_258_53 ?_
        refine am_e0 hi_258_54 ?_
        refine am_e32n (as := [.ref 39, .int 26, .int z471, .int 0, .int 0]) (la := [some (.ref 39), some (.int 26), some (.int z471), some (.int 0), some (.int 0)]) (rest := []) hi_258_55 (am_hd0 (M := 258) (by decide) 55) (Nat.le_of_ble_eq_true rfl) (Nat.le_of_ble_eq_true rfl) (show 5 ≤ am_P0.2.2.1 189 from by decide +kernel) rfl (am_recv_ok hS340.fs) rfl rfl (ct_put (d := (d + 5)) hS340 hR344_  (by show (0 : Int) ≤ (f 32).toInt; omega) (by show (f 32).toInt ≤ (63 : Int); omega) (by show (f 53).toInt ≤ (4096 : Int); omega) (by show (0 : Int) ≤ s337.toInt; omega) (by show s337.toInt ≤ (65534 : Int); omega)) ?_
        rintro v472 S473 (⟨z474, r475, g'476, hv477, hS478, hR482, h479, h480, h481⟩)
        subst hv477
        have h479_ : z474.toInt = s337.toInt + 1 := h479
        have h480_ : r475.toInt = s337.toInt := h480
        have h481_ : ∀ j, j ∉ [60, 69, 70, 71, 72, 73] → g'476 j = g'338 j := h481
        replace hS478 : MS S0 S473 (upd (upd (upd (upd f 15 z0) 62 o318) 68 z474) 75 m320) g'476 := hS478
        have hR482_ : RJ (upd (upd (upd (upd f 15 z0) 62 o318) 68 z474) 75 m320) g'476 gs bc [] 0 (s337.toNatClampNeg :: []) := hR482
        show am_E _ _ _ _ [some (.ref 39), some (.int 4), some (.int (f 19))] [.int r475] _ _
        refine am_e6i hi_258_58 ?_
        refine am_e35 hi_258_59 ?_
        show am_E _ _ _ _ [some (.ref 39), some (.int on), some (.int tw), some (.int th), none, none, none, none] [] _ _
        refine am_e2 (v := 39) hi_257_9 rfl ?_
        refine am_e0 hi_257_10 ?_
        refine am_e32n (as := [.ref 39, .int 12]) (la := [some (.ref 39), some (.int 12)]) (rest := []) hi_257_12 (am_hd0 (M := 257) (by decide) 12) (Nat.le_of_ble_eq_true rfl) (Nat.le_of_ble_eq_true rfl) (show 2 ≤ am_P0.2.2.1 193 from by decide +kernel) rfl (am_recv_ok hS478.fs) rfl rfl (ct_enter (d := (d + 4)) hS478   (by show (0 : Int) ≤ (f 4).toInt; omega) (by show (f 0).toInt ≤ (16384 : Int); omega) (by show (0 : Int) ≤ (12 : Int); omega) (by show (0 : Int) ≤ (f 5).toInt; omega) (by show (f 5).toInt ≤ (48 : Int); omega)) ?_
        rintro v483 S484 (⟨z485, y486, hv487, hS488, h489, h490, h491, h492⟩ | ⟨a494, b495, hv496, hS497⟩)
        · subst hv487
          have h489_ : z485.toInt = (f 4).toInt + 1 := h489
          have h490_ : (f 4).toInt < (f 0).toInt := h490
          have h491_ : y486.toInt = (f 5).toInt + 1 := h491
          have h492_ : y486.toInt ≤ (48 : Int) := h492
          replace hS488 : MS S0 S484 (upd (upd (upd (upd (upd (upd f 4 z485) 5 y486) 15 z0) 62 o318) 68 z474) 75 m320) g'476 := hS488
          have hR499 : RJ (upd (upd (upd (upd (upd (upd f 4 z485) 5 y486) 15 z0) 62 o318) 68 z474) 75 m320) g'476 gs bc [] 0 (s337.toNatClampNeg :: []) := RJ.at hR482_ (by show (f 4).toInt ≤ z485.toInt; omega)
          show am_E _ _ _ _ [some (.ref 39), some (.int on), some (.int tw), some (.int th), none, none, none, none] [.int 1] _ _
          refine am_e12t hi_257_15 (by decide) ?_
          refine am_e2 (v := 39) hi_257_19 rfl ?_
          refine am_e32w (as := [.ref 39]) (la := [some (.ref 39)]) (rest := []) hi_257_20 (am_hd0 (M := 257) (by decide) 20) (Nat.le_of_ble_eq_true rfl) (Nat.le_of_ble_eq_true rfl) (show 1 ≤ am_P0.2.2.1 197 from by decide +kernel) rfl (am_recv_ok hS488.fs) rfl rfl ?_
          refine am_e2 (v := 39) hi_197_0 rfl ?_
          refine mm_20 (v := .int (f 24)) hS488 hi_197_1 rfl ?_
          refine am_e2 (v := 39) hi_197_4 rfl ?_
          refine mm_20 (v := .ref 59) hS488 hi_197_5 rfl ?_
          refine am_e2 (v := 39) hi_197_8 rfl ?_
          refine mm_20 (v := .int (f 32)) hS488 hi_197_9 rfl ?_
          refine mm_25 hS488 ma_34 hi_197_12 (by decide) (by omega) (by omega) ?_
          show am_E _ _ _ _ _ (.int (g'476 34 (f 32).toNatClampNeg) :: _) _ _
          rw [show g'476 34 = g'338 34 from h481_ 34 (by decide), show g'338 34 = g'321 34 from h343_ 34 (by decide), show g'321 34 = g 34 from h329_ 34 (by decide)]
          show am_E _ _ _ _ [some (.ref 39)] [.int (g 34 (f 32).toNatClampNeg), .int (f 24)] _ _
          have r500 : 0 ≤ (g 34 (f 32).toNatClampNeg).toInt := by
            have h := RJ.ba hR499 (f 32).toNatClampNeg
            rw [show g'476 34 = g'338 34 from h481_ 34 (by decide), show g'338 34 = g'321 34 from h343_ 34 (by decide), show g'321 34 = g 34 from h329_ 34 (by decide)] at h
            exact h
          have r501 : (g 34 (f 32).toNatClampNeg).toInt ≤ 2147483647 := i32_le _
          obtain ⟨z502, hz502, tz502⟩ := am_subI (x := f 24) (y := g 34 (f 32).toNatClampNeg) (m := (f 24).toInt) (n := (g 34 (f 32).toNatClampNeg).toInt) rfl rfl (by omega) (by omega)
          refine am_e10 (z := z502) hi_197_13 hz502 ?_
          refine am_e33 hi_197_14 ?_
          show am_E _ _ _ _ [some (.ref 39), some (.int on), some (.int tw), some (.int th), none, none, none, none] [.int z502] _ _
          refine am_e3 (ls' := [some (.ref 39), some (.int on), some (.int tw), some (.int th), some (.int z502), none, none, none]) hi_257_23 (Nat.le_of_ble_eq_true rfl) rfl ?_
          refine am_e2 (v := 39) hi_257_25 rfl ?_
          refine am_e0 hi_257_26 ?_
          refine am_e0 hi_257_27 ?_
          refine am_e1 (v := on) hi_257_28 rfl ?_
          refine am_e32n (as := [.ref 39, .int 4, .int 1, .int on]) (la := [some (.ref 39), some (.int 4), some (.int 1), some (.int on), none]) (rest := []) hi_257_29 (am_hd0 (M := 257) (by decide) 29) (Nat.le_of_ble_eq_true rfl) (Nat.le_of_ble_eq_true rfl) (show 4 ≤ am_P0.2.2.1 254 from by decide +kernel) rfl (am_recv_ok hS488.fs) rfl rfl (ct_hide (d := (d + 4)) hS488 hR499 (by decide)  (by show (0 : Int) ≤ (f 32).toInt; omega) (by show (f 32).toInt ≤ (63 : Int); omega) (by show (f 53).toInt ≤ (4096 : Int); omega) (by show (0 : Int) ≤ (f 24).toInt; omega) (by show (f 24).toInt ≤ (16000 : Int); omega) (by show (0 : Int) ≤ (4 : Int); omega) (by show (4 : Int) ≤ (16 : Int); omega)) ?_
          rintro v503 S504 (⟨a505, b506, l507, y508, g'509, hv510, hS511, hR514, h512, h513⟩)
          subst hv510
          have h512_ : l507.toInt = (f 24).toInt + (4 : Int) := h512
          have h513_ : ∀ j, j ∉ [25, 26, 27, 28, 29, 30, 58] → g'509 j = g'476 j := h513
          replace hS511 : MS S0 S504 (upd (upd (upd (upd (upd (upd (upd (upd (upd (upd f 4 z485) 5 y486) 8 a505) 9 b506) 15 z0) 24 l507) 31 y508) 62 o318) 68 z474) 75 m320) g'509 := hS511
          have hR514_ : RJ (upd (upd (upd (upd (upd (upd (upd (upd (upd (upd f 4 z485) 5 y486) 8 a505) 9 b506) 15 z0) 24 l507) 31 y508) 62 o318) 68 z474) 75 m320) g'509 gs bc [] 0 (s337.toNatClampNeg :: []) := hR514
          show am_E _ _ _ _ [some (.ref 39), some (.int on), some (.int tw), some (.int th), some (.int z502), none, none, none] [] _ _
          refine am_e2 (v := 39) hi_257_32 rfl ?_
          refine am_e0 hi_257_33 ?_
          refine am_e1 (v := z502) hi_257_35 rfl ?_
          refine am_e0 hi_257_37 ?_
          refine am_e1 (v := on) hi_257_38 rfl ?_
          refine am_e32n (as := [.ref 39, .int 42, .int z502, .int 0, .int on]) (la := [some (.ref 39), some (.int 42), some (.int z502), some (.int 0), some (.int on)]) (rest := []) hi_257_39 (am_hd0 (M := 257) (by decide) 39) (Nat.le_of_ble_eq_true rfl) (Nat.le_of_ble_eq_true rfl) (show 5 ≤ am_P0.2.2.1 189 from by decide +kernel) rfl (am_recv_ok hS511.fs) rfl rfl (ct_put (d := (d + 6)) hS511 hR514_  (by show (0 : Int) ≤ (f 32).toInt; omega) (by show (f 32).toInt ≤ (63 : Int); omega) (by show (f 53).toInt ≤ (4096 : Int); omega) (by show (0 : Int) ≤ z474.toInt; omega) (by show z474.toInt ≤ (65534 : Int); omega)) ?_
          rintro v515 S516 (⟨z517, r518, g'519, hv520, hS521, hR525, h522, h523, h524⟩)
          subst hv520
          have h522_ : z517.toInt = z474.toInt + 1 := h522
          have h523_ : r518.toInt = z474.toInt := h523
          have h524_ : ∀ j, j ∉ [60, 69, 70, 71, 72, 73] → g'519 j = g'509 j := h524
          replace hS521 : MS S0 S516 (upd (upd (upd (upd (upd (upd (upd (upd (upd (upd f 4 z485) 5 y486) 8 a505) 9 b506) 15 z0) 24 l507) 31 y508) 62 o318) 68 z517) 75 m320) g'519 := hS521
          have hR525_ : RJ (upd (upd (upd (upd (upd (upd (upd (upd (upd (upd f 4 z485) 5 y486) 8 a505) 9 b506) 15 z0) 24 l507) 31 y508) 62 o318) 68 z517) 75 m320) g'519 gs bc [] 0 (z474.toNatClampNeg :: (s337.toNatClampNeg :: [])) := hR525
          show am_E _ _ _ _ [some (.ref 39), some (.int on), some (.int tw), some (.int th), some (.int z502), none, none, none] [.int r518] _ _
          refine am_e6i hi_257_42 ?_
          refine am_e2 (v := 39) hi_257_43 rfl ?_
          refine am_e32n (as := [.ref 39]) (la := [some (.ref 39)]) (rest := []) hi_257_44 (am_hd0 (M := 257) (by decide) 44) (Nat.le_of_ble_eq_true rfl) (Nat.le_of_ble_eq_true rfl) (show 1 ≤ am_P0.2.2.1 210 from by decide +kernel) rfl (am_recv_ok hS521.fs) rfl rfl (ct_here (d := (d + 6)) hS521 hR525_  (by show (0 : Int) ≤ (f 32).toInt; omega) (by show (f 32).toInt ≤ (63 : Int); omega) (by show (f 53).toInt ≤ (4096 : Int); omega) (by show (0 : Int) ≤ z517.toInt; omega) (by show z517.toInt ≤ (65534 : Int); omega)) ?_
          rintro v526 S527 (⟨r528, hv529, hS530, h531, h532⟩)
          subst hv529
          have h531_ : (0 : Int) ≤ r528.toInt := h531
          have h532_ : r528.toInt ≤ z517.toInt := h532
          show am_E _ _ _ _ [some (.ref 39), some (.int on), some (.int tw), some (.int th), some (.int z502), none, none, none] [.int r528] _ _
          refine am_e3 (ls' := [some (.ref 39), some (.int on), some (.int tw), some (.int th), some (.int z502), some (.int r528), none, none]) hi_257_47 (Nat.le_of_ble_eq_true rfl) rfl ?_
          refine am_e2 (v := 39) hi_257_49 rfl ?_
          refine am_e0 hi_257_50 ?_
          refine am_e0 hi_257_52 ?_
          refine am_e0 hi_257_53 ?_
          refine am_e1 (v := on) hi_257_54 rfl ?_
          refine am_e32n (as := [.ref 39, .int 34, .int 0, .int 0, .int on]) (la := [some (.ref 39), some (.int 34), some (.int 0), some (.int 0), some (.int on)]) (rest := []) hi_257_55 (am_hd0 (M := 257) (by decide) 55) (Nat.le_of_ble_eq_true rfl) (Nat.le_of_ble_eq_true rfl) (show 5 ≤ am_P0.2.2.1 189 from by decide +kernel) rfl (am_recv_ok hS530.fs) rfl rfl (ct_put (d := (d + 6)) hS530 hR525_  (by show (0 : Int) ≤ (f 32).toInt; omega) (by show (f 32).toInt ≤ (63 : Int); omega) (by show (f 53).toInt ≤ (4096 : Int); omega) (by show (0 : Int) ≤ z517.toInt; omega) (by show z517.toInt ≤ (65534 : Int); omega)) ?_
          rintro v534 S535 (⟨z536, r537, g'538, hv539, hS540, hR544, h541, h542, h543⟩)
          subst hv539
          have h541_ : z536.toInt = z517.toInt + 1 := h541
          have h542_ : r537.toInt = z517.toInt := h542
          have h543_ : ∀ j, j ∉ [60, 69, 70, 71, 72, 73] → g'538 j = g'519 j := h543
          replace hS540 : MS S0 S535 (upd (upd (upd (upd (upd (upd (upd (upd (upd (upd f 4 z485) 5 y486) 8 a505) 9 b506) 15 z0) 24 l507) 31 y508) 62 o318) 68 z536) 75 m320) g'538 := hS540
          have hR544_ : RJ (upd (upd (upd (upd (upd (upd (upd (upd (upd (upd f 4 z485) 5 y486) 8 a505) 9 b506) 15 z0) 24 l507) 31 y508) 62 o318) 68 z536) 75 m320) g'538 gs bc [] 0 (z517.toNatClampNeg :: (z474.toNatClampNeg :: (s337.toNatClampNeg :: []))) := hR544
          show am_E _ _ _ _ [some (.ref 39), some (.int on), some (.int tw), some (.int th), some (.int z502), some (.int r528), none, none] [.int r537] _ _
          refine am_e6i hi_257_58 ?_
          refine am_e2 (v := 39) hi_257_59 rfl ?_
          refine am_e0 hi_257_60 ?_
          refine am_e1 (v := z502) hi_257_62 rfl ?_
          refine am_e1 (v := tw) hi_257_64 rfl ?_
          refine am_e1 (v := th) hi_257_65 rfl ?_
          refine am_e32n (as := [.ref 39, .int 43, .int z502, .int tw, .int th]) (la := [some (.ref 39), some (.int 43), some (.int z502), some (.int tw), some (.int th)]) (rest := []) hi_257_66 (am_hd0 (M := 257) (by decide) 66) (Nat.le_of_ble_eq_true rfl) (Nat.le_of_ble_eq_true rfl) (show 5 ≤ am_P0.2.2.1 189 from by decide +kernel) rfl (am_recv_ok hS540.fs) rfl rfl (ct_put (d := (d + 6)) hS540 hR544_  (by show (0 : Int) ≤ (f 32).toInt; omega) (by show (f 32).toInt ≤ (63 : Int); omega) (by show (f 53).toInt ≤ (4096 : Int); omega) (by show (0 : Int) ≤ z536.toInt; omega) (by show z536.toInt ≤ (65534 : Int); omega)) ?_
          rintro v545 S546 (⟨z547, r548, g'549, hv550, hS551, hR555, h552, h553, h554⟩)
          subst hv550
          have h552_ : z547.toInt = z536.toInt + 1 := h552
          have h553_ : r548.toInt = z536.toInt := h553
          have h554_ : ∀ j, j ∉ [60, 69, 70, 71, 72, 73] → g'549 j = g'538 j := h554
          replace hS551 : MS S0 S546 (upd (upd (upd (upd (upd (upd (upd (upd (upd (upd f 4 z485) 5 y486) 8 a505) 9 b506) 15 z0) 24 l507) 31 y508) 62 o318) 68 z547) 75 m320) g'549 := hS551
          have hR555_ : RJ (upd (upd (upd (upd (upd (upd (upd (upd (upd (upd f 4 z485) 5 y486) 8 a505) 9 b506) 15 z0) 24 l507) 31 y508) 62 o318) 68 z547) 75 m320) g'549 gs bc [] 0 (z536.toNatClampNeg :: (z517.toNatClampNeg :: (z474.toNatClampNeg :: (s337.toNatClampNeg :: [])))) := hR555
          show am_E _ _ _ _ [some (.ref 39), some (.int on), some (.int tw), some (.int th), some (.int z502), some (.int r528), none, none] [.int r548] _ _
          refine am_e6i hi_257_69 ?_
          refine am_e2 (v := 39) hi_257_70 rfl ?_
          refine am_e0 hi_257_71 ?_
          refine am_e1 (v := z502) hi_257_73 rfl ?_
          refine am_e0 hi_257_75 ?_
          refine am_e0 hi_257_76 ?_
          refine am_e32n (as := [.ref 39, .int 44, .int z502, .int 0, .int 0]) (la := [some (.ref 39), some (.int 44), some (.int z502), some (.int 0), some (.int 0)]) (rest := []) hi_257_77 (am_hd0 (M := 257) (by decide) 77) (Nat.le_of_ble_eq_true rfl) (Nat.le_of_ble_eq_true rfl) (show 5 ≤ am_P0.2.2.1 189 from by decide +kernel) rfl (am_recv_ok hS551.fs) rfl rfl (ct_put (d := (d + 6)) hS551 hR555_  (by show (0 : Int) ≤ (f 32).toInt; omega) (by show (f 32).toInt ≤ (63 : Int); omega) (by show (f 53).toInt ≤ (4096 : Int); omega) (by show (0 : Int) ≤ z547.toInt; omega) (by show z547.toInt ≤ (65534 : Int); omega)) ?_
          rintro v556 S557 (⟨z558, r559, g'560, hv561, hS562, hR566, h563, h564, h565⟩)
          subst hv561
          have h563_ : z558.toInt = z547.toInt + 1 := h563
          have h564_ : r559.toInt = z547.toInt := h564
          have h565_ : ∀ j, j ∉ [60, 69, 70, 71, 72, 73] → g'560 j = g'549 j := h565
          replace hS562 : MS S0 S557 (upd (upd (upd (upd (upd (upd (upd (upd (upd (upd f 4 z485) 5 y486) 8 a505) 9 b506) 15 z0) 24 l507) 31 y508) 62 o318) 68 z558) 75 m320) g'560 := hS562
          have hR566_ : RJ (upd (upd (upd (upd (upd (upd (upd (upd (upd (upd f 4 z485) 5 y486) 8 a505) 9 b506) 15 z0) 24 l507) 31 y508) 62 o318) 68 z558) 75 m320) g'560 gs bc [] 0 (z547.toNatClampNeg :: (z536.toNatClampNeg :: (z517.toNatClampNeg :: (z474.toNatClampNeg :: (s337.toNatClampNeg :: []))))) := hR566
          show am_E _ _ _ _ [some (.ref 39), some (.int on), some (.int tw), some (.int th), some (.int z502), some (.int r528), none, none] [.int r559] _ _
          refine am_e3 (ls' := [some (.ref 39), some (.int on), some (.int tw), some (.int th), some (.int z502), some (.int r528), some (.int r559), none]) hi_257_80 (Nat.le_of_ble_eq_true rfl) rfl ?_
          refine am_e2 (v := 39) hi_257_82 rfl ?_
          refine am_e0 hi_257_83 ?_
          refine am_e32n (as := [.ref 39, .int 1]) (la := [some (.ref 39), some (.int 1)]) (rest := []) hi_257_84 (am_hd0 (M := 257) (by decide) 84) (Nat.le_of_ble_eq_true rfl) (Nat.le_of_ble_eq_true rfl) (show 2 ≤ am_P0.2.2.1 177 from by decide +kernel) rfl (am_recv_ok hS562.fs) rfl rfl (ct_beginBlock2 (d := (d + 6)) hS562 hR566_ (by decide)  (by show (0 : Int) ≤ (f 37).toInt; omega) (by show (f 37).toInt ≤ (127 : Int); omega) (by show (0 : Int) ≤ l507.toInt; omega) (by show (0 : Int) ≤ (f 44).toInt; omega) (by show (f 44).toInt ≤ z485.toInt; omega) (by show (0 : Int) ≤ (f 48).toInt; omega)) ?_
          rintro v567 S568 (⟨z569, g'570, hv571, hS572, hR576, h573, h574, h575⟩)
          subst hv571
          have h573_ : z569.toInt = (f 37).toInt + 1 := h573
          have h574_ : ∀ j, j ∉ [38, 39, 40, 41, 42, 43] → g'570 j = g'560 j := h574
          have h575_ : g'570 38 = upd (g'560 38) (f 37).toNatClampNeg l507 := h575
          replace hS572 : MS S0 S568 (upd (upd (upd (upd (upd (upd (upd (upd (upd (upd (upd f 4 z485) 5 y486) 8 a505) 9 b506) 15 z0) 24 l507) 31 y508) 37 z569) 62 o318) 68 z558) 75 m320) g'570 := hS572
          have hR576_ : RJ (upd (upd (upd (upd (upd (upd (upd (upd (upd (upd (upd f 4 z485) 5 y486) 8 a505) 9 b506) 15 z0) 24 l507) 31 y508) 37 z569) 62 o318) 68 z558) 75 m320) g'570 gs ([] :: bc) [] 0 (z547.toNatClampNeg :: (z536.toNatClampNeg :: (z517.toNatClampNeg :: (z474.toNatClampNeg :: (s337.toNatClampNeg :: []))))) := hR576
          show am_E _ _ _ _ [some (.ref 39), some (.int on), some (.int tw), some (.int th), some (.int z502), some (.int r528), some (.int r559), none] [] _ _
          refine am_e0 hi_257_87 ?_
          refine am_e3 (ls' := [some (.ref 39), some (.int on), some (.int tw), some (.int th), some (.int z502), some (.int r528), some (.int r559), some (.int 0)]) hi_257_88 (Nat.le_of_ble_eq_true rfl) rfl ?_
          refine fr_each (d := (d + 2)) (f := (upd (upd (upd (upd (upd (upd (upd (upd (upd (upd (upd f 4 z485) 5 y486) 8 a505) 9 b506) 15 z0) 24 l507) 31 y508) 37 z569) 62 o318) 68 z558) 75 m320)) (g := g'570) (w := on) (m := tw) (x3 := th) (c4 := z502) (h5 := r528) (q6 := r559)  (by show (0 : Int) ≤ (f 32).toInt; omega) (by show (f 32).toInt ≤ (63 : Int); omega) (by show (f 53).toInt ≤ (4096 : Int); omega) (by show (0 : Int) ≤ l507.toInt; omega) (by show l507.toInt + tw.toInt ≤ 16383; omega) (by show (0 : Int) ≤ on.toInt; omega) (by show on.toInt + 2 * tw.toInt ≤ 16000; omega) ?_ ((tw.toInt - (0 : Int)).toNat + 1) _ 0 a505 b506 l507 y508 _ hS572 hR576_ (fun _ _ => rfl) (by show (0 : Int) ≤ (0 : Int); omega) (by show (0 : Int) ≤ tw.toInt; omega) (by show l507.toInt = l507.toInt + (0 : Int); omega) (by show tw.toInt - (0 : Int) < _; omega)
          · intro S582 i577 a578 b579 l580 y581 gx585 hS583 hR584 hg586 h587
            replace hS583 : MS S0 S582 (upd (upd (upd (upd (upd (upd (upd (upd (upd (upd (upd f 4 z485) 5 y486) 8 a578) 9 b579) 15 z0) 24 l580) 31 y581) 37 z569) 62 o318) 68 z558) 75 m320) gx585 := hS583
            have h587_ : l580.toInt = l507.toInt + tw.toInt := h587
            have hR584_ : RJ (upd (upd (upd (upd (upd (upd (upd (upd (upd (upd (upd f 4 z485) 5 y486) 8 a578) 9 b579) 15 z0) 24 l580) 31 y581) 37 z569) 62 o318) 68 z558) 75 m320) gx585 gs ([] :: bc) [] 0 (z547.toNatClampNeg :: (z536.toNatClampNeg :: (z517.toNatClampNeg :: (z474.toNatClampNeg :: (s337.toNatClampNeg :: []))))) := hR584
            show am_E _ _ _ _ [some (.ref 39), some (.int on), some (.int tw), some (.int th), some (.int z502), some (.int r528), some (.int r559), some (.int i577)] [] _ _
            refine am_e2 (v := 39) hi_257_129 rfl ?_
            refine am_e0 hi_257_130 ?_
            refine am_e1 (v := r559) hi_257_132 rfl ?_
            refine am_e1 (v := r528) hi_257_134 rfl ?_
            refine am_e1 (v := z502) hi_257_136 rfl ?_
            refine am_e32n (as := [.ref 39, .int 15, .int r559, .int r528, .int z502]) (la := [some (.ref 39), some (.int 15), some (.int r559), some (.int r528), some (.int z502)]) (rest := []) hi_257_138 (am_hd0 (M := 257) (by decide) 138) (Nat.le_of_ble_eq_true rfl) (Nat.le_of_ble_eq_true rfl) (show 5 ≤ am_P0.2.2.1 179 from by decide +kernel) rfl (am_recv_ok hS583.fs) rfl rfl (ct_pile (d := (d + 6)) hS583 hR584_ (mj_e_b (by decide) (by omega) (by show r559.toInt < z558.toInt; omega)) (by show (0 : Int) ≤ (f 10).toInt; omega) (by show (f 10).toInt ≤ (65535 : Int); omega)) ?_
            rintro v588 S589 (⟨z590, g'591, hv592, hS593, hR596, h594, h595⟩)
            subst hv592
            have h594_ : z590.toInt = (f 10).toInt + 1 := h594
            have h595_ : ∀ j, j ∉ [11, 12, 13, 14] → g'591 j = gx585 j := h595
            replace hS593 : MS S0 S589 (upd (upd (upd (upd (upd (upd (upd (upd (upd (upd (upd (upd f 4 z485) 5 y486) 8 a578) 9 b579) 10 z590) 15 z0) 24 l580) 31 y581) 37 z569) 62 o318) 68 z558) 75 m320) g'591 := hS593
            have hR596_ : RJ (upd (upd (upd (upd (upd (upd (upd (upd (upd (upd (upd (upd f 4 z485) 5 y486) 8 a578) 9 b579) 10 z590) 15 z0) 24 l580) 31 y581) 37 z569) 62 o318) 68 z558) 75 m320) g'591 (((15 : Int), r559.toInt, r528.toInt, z502.toInt, []) :: gs) ([] :: bc) [] 0 (z547.toNatClampNeg :: (z536.toNatClampNeg :: (z517.toNatClampNeg :: (z474.toNatClampNeg :: (s337.toNatClampNeg :: []))))) := hR596
            show am_E _ _ _ _ [some (.ref 39), some (.int on), some (.int tw), some (.int th), some (.int z502), some (.int r528), some (.int r559), some (.int i577)] [] _ _
            refine am_e2 (v := 39) hi_257_141 rfl ?_
            refine am_e32w (as := [.ref 39]) (la := [some (.ref 39)]) (rest := []) hi_257_142 (am_hd0 (M := 257) (by decide) 142) (Nat.le_of_ble_eq_true rfl) (Nat.le_of_ble_eq_true rfl) (show 1 ≤ am_P0.2.2.1 178 from by decide +kernel) rfl (am_recv_ok hS593.fs) rfl rfl ?_
            refine am_e2 (v := 39) hi_178_0 rfl ?_
            refine am_e0 hi_178_1 ?_
            refine am_e0 hi_178_2 ?_
            refine am_e0 hi_178_3 ?_
            refine am_e0 hi_178_4 ?_
            refine am_e32n (as := [.ref 39, .int 1, .int 0, .int 0, .int 0]) (la := [some (.ref 39), some (.int 1), some (.int 0), some (.int 0), some (.int 0)]) (rest := []) hi_178_5 (am_hd0 (M := 178) (by decide) 5) (Nat.le_of_ble_eq_true rfl) (Nat.le_of_ble_eq_true rfl) (show 5 ≤ am_P0.2.2.1 179 from by decide +kernel) rfl (am_recv_ok hS593.fs) rfl rfl (ct_pile (d := (d + 5)) hS593 hR596_ (mj_e_plain (by decide)) (by show (0 : Int) ≤ z590.toInt; omega) (by show z590.toInt ≤ (65535 : Int); omega)) ?_
            rintro v597 S598 (⟨z599, g'600, hv601, hS602, hR605, h603, h604⟩)
            subst hv601
            have h603_ : z599.toInt = z590.toInt + 1 := h603
            have h604_ : ∀ j, j ∉ [11, 12, 13, 14] → g'600 j = g'591 j := h604
            replace hS602 : MS S0 S598 (upd (upd (upd (upd (upd (upd (upd (upd (upd (upd (upd (upd f 4 z485) 5 y486) 8 a578) 9 b579) 10 z599) 15 z0) 24 l580) 31 y581) 37 z569) 62 o318) 68 z558) 75 m320) g'600 := hS602
            have hR605_ : RJ (upd (upd (upd (upd (upd (upd (upd (upd (upd (upd (upd (upd f 4 z485) 5 y486) 8 a578) 9 b579) 10 z599) 15 z0) 24 l580) 31 y581) 37 z569) 62 o318) 68 z558) 75 m320) g'600 (((1 : Int), (0 : Int), (0 : Int), (0 : Int), []) :: (((15 : Int), r559.toInt, r528.toInt, z502.toInt, []) :: gs)) ([] :: bc) [] 0 (z547.toNatClampNeg :: (z536.toNatClampNeg :: (z517.toNatClampNeg :: (z474.toNatClampNeg :: (s337.toNatClampNeg :: []))))) := hR605
            show am_E _ _ _ _ [some (.ref 39)] [] _ _
            refine am_e35 hi_178_8 ?_
            show am_E _ _ _ _ [some (.ref 39), some (.int on), some (.int tw), some (.int th), some (.int z502), some (.int r528), some (.int r559), some (.int i577)] [] _ _
            refine am_e35 hi_257_145 ?_
            show am_E _ _ _ _ [some (.ref 39), some (.int 14), some (.int on), some (.int tw), some (.int th)] [] _ _
            refine am_e18 hi_180_270 ?_
            refine am_e35 hi_180_371 ?_
            have q1 : mg_p1 (((1 : Int), (0 : Int), (0 : Int), (0 : Int), []) :: (((15 : Int), r559.toInt, r528.toInt, z502.toInt, []) :: gs)) = 0 + (0 + (mg_p1 gs)) := rfl
            have q2 : mg_p2 (((1 : Int), (0 : Int), (0 : Int), (0 : Int), []) :: (((15 : Int), r559.toInt, r528.toInt, z502.toInt, []) :: gs)) = 0 + (0 + (mg_p2 gs)) := rfl
            have q3 : mg_p3 (((1 : Int), (0 : Int), (0 : Int), (0 : Int), []) :: (((15 : Int), r559.toInt, r528.toInt, z502.toInt, []) :: gs)) = 1 + (1 + (mg_p3 gs)) := rfl
            have q4 : mg_p4 (((1 : Int), (0 : Int), (0 : Int), (0 : Int), []) :: (((15 : Int), r559.toInt, r528.toInt, z502.toInt, []) :: gs)) = 0 + (0 + (mg_p4 gs)) := rfl
            refine ⟨_, _, _, ([] :: bc), rfl, hS602, Or.inl ⟨⟨(RJ.fewer (pj' := []) hR605_ (fun _ h => nomatch h)), ?_, ?_⟩, rfl, ?_⟩⟩
            · exact (⟨⟨(show mg_k 1 from by decide), (show (0 : Int) ≤ z0.toInt from by omega), (show 0 ≤ (f 20).toInt from by omega), (show 1 ≤ z569.toInt from by omega), (show 0 ≤ (f 32).toInt from by omega), (show (f 32).toInt ≤ y486.toInt from by omega), (show y486.toInt ≤ 48 from by omega), (show z569.toInt ≤ 2 * (y486.toInt) + 1 from by omega), trivial⟩, ⟨⟨(show mg_k 15 from by decide), (show (0 : Int) ≤ z0.toInt + 0 from by omega), (show 0 ≤ (f 20).toInt from by omega), (show 1 ≤ z569.toInt + 0 from by omega), (show 0 ≤ (f 32).toInt + 0 from by omega), (show (f 32).toInt + 0 ≤ y486.toInt + 0 from by omega), (show y486.toInt + 0 ≤ 48 from by omega), (show z569.toInt + 0 ≤ 2 * (y486.toInt + 0) + 0 from by omega), (mg_pa13 (l1 := l507) hR (by show g'600 34 = g 34; rw [show g'600 34 = g'591 34 from h604_ 34 (by decide), show g'591 34 = gx585 34 from h595_ 34 (by decide), show gx585 34 = g'570 34 from hg586 34 (by decide), show g'570 34 = g'560 34 from h574_ 34 (by decide), show g'560 34 = g'549 34 from h565_ 34 (by decide), show g'549 34 = g'538 34 from h554_ 34 (by decide), show g'538 34 = g'519 34 from h543_ 34 (by decide), show g'519 34 = g'509 34 from h524_ 34 (by decide), show g'509 34 = g'476 34 from h513_ 34 (by decide), show g'476 34 = g'338 34 from h481_ 34 (by decide), show g'338 34 = g'321 34 from h343_ 34 (by decide), show g'321 34 = g 34 from h329_ 34 (by decide)]) (by show g'600 38 = upd (g 38) (f 37).toNatClampNeg l507; rw [show g'600 38 = g'591 38 from h604_ 38 (by decide), show g'591 38 = gx585 38 from h595_ 38 (by decide), show gx585 38 = g'570 38 from hg586 38 (by decide), h575_, show g'560 38 = g'549 38 from h565_ 38 (by decide), show g'549 38 = g'538 38 from h554_ 38 (by decide), show g'538 38 = g'519 38 from h543_ 38 (by decide), show g'519 38 = g'509 38 from h524_ 38 (by decide), show g'509 38 = g'476 38 from h513_ 38 (by decide), show g'476 38 = g'338 38 from h481_ 38 (by decide), show g'338 38 = g'321 38 from h343_ 38 (by decide), show g'321 38 = g 38 from h329_ 38 (by decide)]) (by show (f 32).toInt + 0 = (f 32).toInt; omega) (by omega) (by show z569.toInt + 0 = (f 37).toInt + 1; omega) (by show z502.toInt = (f 24).toInt - (g 34 (f 32).toNatClampNeg).toInt; omega) (by omega) (by show (f 24).toInt ≤ l507.toInt; omega))⟩, mg_cast (mg_good_ext _ _ _ _ _ _ (fun i _ => by show g'600 34 i = g 34 i; rw [show g'600 34 = g'591 34 from h604_ 34 (by decide), show g'591 34 = gx585 34 from h595_ 34 (by decide), show gx585 34 = g'570 34 from hg586 34 (by decide), show g'570 34 = g'560 34 from h574_ 34 (by decide), show g'560 34 = g'549 34 from h565_ 34 (by decide), show g'549 34 = g'538 34 from h554_ 34 (by decide), show g'538 34 = g'519 34 from h543_ 34 (by decide), show g'519 34 = g'509 34 from h524_ 34 (by decide), show g'509 34 = g'476 34 from h513_ 34 (by decide), show g'476 34 = g'338 34 from h481_ 34 (by decide), show g'338 34 = g'321 34 from h343_ 34 (by decide), show g'321 34 = g 34 from h329_ 34 (by decide)]) (fun i hi => by show g'600 38 i = g 38 i; rw [show g'600 38 = g'591 38 from h604_ 38 (by decide), show g'591 38 = gx585 38 from h595_ 38 (by decide), show gx585 38 = g'570 38 from hg586 38 (by decide), h575_, show g'560 38 = g'549 38 from h565_ 38 (by decide), show g'549 38 = g'538 38 from h554_ 38 (by decide), show g'538 38 = g'519 38 from h543_ 38 (by decide), show g'519 38 = g'509 38 from h524_ 38 (by decide), show g'509 38 = g'476 38 from h513_ 38 (by decide), show g'476 38 = g'338 38 from h481_ 38 (by decide), show g'338 38 = g'321 38 from h343_ 38 (by decide), show g'321 38 = g 38 from h329_ 38 (by decide)]; exact upd_ne (by rw [cl_toNat]; omega)) (fun i _ => by show g'600 23 i = g 23 i; rw [show g'600 23 = g'591 23 from h604_ 23 (by decide), show g'591 23 = gx585 23 from h595_ 23 (by decide), show gx585 23 = g'570 23 from hg586 23 (by decide), show g'570 23 = g'560 23 from h574_ 23 (by decide), show g'560 23 = g'549 23 from h565_ 23 (by decide), show g'549 23 = g'538 23 from h554_ 23 (by decide), show g'538 23 = g'519 23 from h543_ 23 (by decide), show g'519 23 = g'509 23 from h524_ 23 (by decide), show g'509 23 = g'476 23 from h513_ 23 (by decide), show g'476 23 = g'338 23 from h481_ 23 (by decide), show g'338 23 = g'321 23 from h343_ 23 (by decide), show g'321 23 = g 23 from h329_ 23 (by decide)]) hrest) (by show (f 15).toInt + -1 = z0.toInt + 0 + 0; omega) (by show (f 20).toInt = (f 20).toInt; omega) (by show (f 37).toInt + 0 = z569.toInt + 0 + -1; omega) (by show (f 32).toInt + 0 = (f 32).toInt + 0 + 0; omega) (by show (f 5).toInt + 0 = y486.toInt + 0 + -1; omega)⟩⟩ : mg_good (g'600 34) (g'600 38) (g'600 23) (((1 : Int), (0 : Int), (0 : Int), (0 : Int), []) :: (((15 : Int), r559.toInt, r528.toInt, z502.toInt, []) :: gs)) (z0.toInt) ((f 20).toInt) (z569.toInt) ((f 32).toInt) (y486.toInt))
            · exact ⟨(by show 0 ≤ z485.toInt; omega), (by show z485.toInt ≤ (f 0).toInt; omega), (by show (f 0).toInt ≤ 512; omega), (by show 0 ≤ l580.toInt; omega), (by show l580.toInt + (f 20).toInt + mg_p1 (((1 : Int), (0 : Int), (0 : Int), (0 : Int), []) :: (((15 : Int), r559.toInt, r528.toInt, z502.toInt, []) :: gs)) ≤ 4 * z485.toInt; omega), (by show (f 20).toInt ≤ z485.toInt; omega), (by show z0.toInt + mg_p2 (((1 : Int), (0 : Int), (0 : Int), (0 : Int), []) :: (((15 : Int), r559.toInt, r528.toInt, z502.toInt, []) :: gs)) ≤ z485.toInt; omega), (by show mg_p3 (((1 : Int), (0 : Int), (0 : Int), (0 : Int), []) :: (((15 : Int), r559.toInt, r528.toInt, z502.toInt, []) :: gs)) ≤ 20 * z485.toInt + 20; omega), (by show 0 ≤ z558.toInt; omega), (by show z558.toInt + 3 * (f 20).toInt + mg_p4 (((1 : Int), (0 : Int), (0 : Int), (0 : Int), []) :: (((15 : Int), r559.toInt, r528.toInt, z502.toInt, []) :: gs)) ≤ 60 * z485.toInt + 60; omega), (by show 0 ≤ o318.toInt; omega), (by show o318.toInt + 64 * mj_n (g'600 16) z0.toNatClampNeg 3 ≤ 64 * z485.toInt; rw [show g'600 16 = g'591 16 from h604_ 16 (by decide), show g'591 16 = gx585 16 from h595_ 16 (by decide), show gx585 16 = g'570 16 from hg586 16 (by decide), show g'570 16 = g'560 16 from h574_ 16 (by decide), show g'560 16 = g'549 16 from h565_ 16 (by decide), show g'549 16 = g'538 16 from h554_ 16 (by decide), show g'538 16 = g'519 16 from h543_ 16 (by decide), show g'519 16 = g'509 16 from h524_ 16 (by decide), show g'509 16 = g'476 16 from h513_ 16 (by decide), show g'476 16 = g'338 16 from h481_ 16 (by decide), show g'338 16 = g'321 16 from h343_ 16 (by decide)]; omega), (by show 0 ≤ (f 44).toInt; omega), (by show (f 44).toInt ≤ z485.toInt; omega), (by show 0 ≤ (f 48).toInt; omega), (by show (f 48).toInt ≤ z485.toInt; omega), (by show 1 ≤ (f 53).toInt; omega), (by show (f 53).toInt ≤ z485.toInt + 1; omega), (by show 0 ≤ (f 19).toInt; omega), (by show (f 19).toInt ≤ 600; omega)⟩
            · show 100 * ((f 0).toInt - z485.toInt) + mg_p3 (((1 : Int), (0 : Int), (0 : Int), (0 : Int), []) :: (((15 : Int), r559.toInt, r528.toInt, z502.toInt, []) :: gs)) < 100 * ((f 0).toInt - (f 4).toInt) + (1 + mg_p3 gs); omega
        · subst hv496
          replace hS497 : MS S0 S484 (upd (upd (upd (upd (upd (upd (upd f 6 a494) 7 b495) 10 0) 15 z0) 62 o318) 68 z474) 75 m320) g'476 := hS497
          have hR606 := rj_clear0 hR482_
          have hR607 : RJ (upd (upd (upd (upd (upd (upd (upd f 6 a494) 7 b495) 10 0) 15 z0) 62 o318) 68 z474) 75 m320) g'476 [] bc [] 0 [] := hR606
          show am_E _ _ _ _ [some (.ref 39), some (.int on), some (.int tw), some (.int th), none, none, none, none] [.int 0] _ _
          refine am_e12f hi_257_15 (by decide) ?_
          refine am_e35 hi_257_18 ?_
          show am_E _ _ _ _ [some (.ref 39), some (.int 14), some (.int on), some (.int tw), some (.int th)] [] _ _
          refine am_e18 hi_180_270 ?_
          refine am_e35 hi_180_371 ?_
          have hRc := rj_clear0 hR607
          refine ⟨_, _, [], _, rfl, hS497, Or.inr ⟨hRc, rfl, (by show 0 ≤ (f 4).toInt; omega), (by show (f 4).toInt ≤ (f 0).toInt; omega), (by show 0 ≤ (f 32).toInt; omega), (by show (f 32).toInt ≤ 63; omega), (by show 1 ≤ (f 53).toInt; omega), (by show (f 53).toInt ≤ 600; omega), (by show 0 ≤ z474.toInt; omega), (by show z474.toInt ≤ 60000; omega), (by show 0 ≤ (f 48).toInt; omega), (by show (f 48).toInt ≤ 8000; omega), (by show 0 ≤ (f 37).toInt; omega), (by show (f 37).toInt ≤ 128; omega), (by show 0 ≤ o318.toInt; omega), (by show o318.toInt ≤ 65000; omega), (by show 0 ≤ (f 19).toInt; omega), (by show (f 19).toInt ≤ 600; omega)⟩⟩
    · refine am_e13f hi_216_27 (am_cF (m := (g 16 z0.toNatClampNeg).toInt) (n := (2 : Int)) rfl (by decide) c315) ?_
      refine am_e0 hi_216_30 ?_
      refine am_e18 hi_216_31 ?_
      refine am_e36 hi_216_35 (by decide) ?_
      show am_E _ _ _ _ [some (.ref 39), some (.int 4), some (.int (f 19))] [.int 1] _ _
      refine am_e12f hi_258_4 (by decide) ?_
      refine am_e1 (v := f 19) hi_258_7 rfl ?_
      refine am_e1 (v := 4) hi_258_8 rfl ?_
      by_cases c608 : (4 : Int) < (f 19).toInt
      · refine am_e13t hi_258_9 (am_cT (m := (f 19).toInt) (n := (4 : Int)) rfl (by decide) c608) ?_
        refine am_e2 (v := 39) hi_258_31 rfl ?_
        refine am_e32w (as := [.ref 39]) (la := [some (.ref 39)]) (rest := []) hi_258_32 (am_hd0 (M := 258) (by decide) 32) (Nat.le_of_ble_eq_true rfl) (Nat.le_of_ble_eq_true rfl) (show 1 ≤ am_P0.2.2.1 209 from by decide +kernel) rfl (am_recv_ok hS.fs) rfl rfl ?_
        refine am_e2 (v := 39) hi_209_0 rfl ?_
        refine am_e32n (as := [.ref 39]) (la := [some (.ref 39), none, none, none]) (rest := []) hi_209_1 (am_hd0 (M := 209) (by decide) 1) (Nat.le_of_ble_eq_true rfl) (Nat.le_of_ble_eq_true rfl) (show 1 ≤ am_P0.2.2.1 204 from by decide +kernel) rfl (am_recv_ok hS.fs) rfl rfl (ct_load (d := (d + 2)) hS hR  (by show (0 : Int) ≤ (f 32).toInt; omega) (by show (f 32).toInt ≤ (63 : Int); omega) (by show (f 53).toInt ≤ (4096 : Int); omega) (by show (0 : Int) ≤ (f 68).toInt; omega) (by show (f 68).toInt ≤ (65534 : Int); omega) (by show (1 : Int) ≤ (f 15).toInt; omega) (by show (f 15).toInt ≤ (32767 : Int); omega) (by show (0 : Int) ≤ (f 24).toInt; omega) (by show (f 24).toInt ≤ (16384 : Int); omega) (by show (0 : Int) ≤ (f 62).toInt; omega) (by show (f 62).toInt ≤ (65000 : Int); omega)) ?_
        rintro v609 S610 (⟨o611, s612, m613, g'614, hv615, hS616, hR623, h617, h618, h619, h620, h621, h622⟩)
        subst hv615
        have h617_ : (f 62).toInt ≤ o611.toInt := h617
        have h618_ : o611.toInt ≤ (f 62).toInt + 64 := h618
        have h619_ : (f 68).toInt ≤ s612.toInt := h619
        have h620_ : s612.toInt ≤ (f 68).toInt + 1 := h620
        have h621_ : o611.toInt + 64 * mj_n (g'614 16) (f 15).toNatClampNeg 3 ≤ (f 62).toInt + 64 * mj_n (g 16) (f 15).toNatClampNeg 3 := h621
        have h622_ : ∀ j, j ∉ [16, 60, 63, 64, 65, 66, 67, 69, 70, 71, 72, 73] → g'614 j = g j := h622
        have hR623_ : RJ (upd (upd (upd f 62 o611) 68 s612) 75 m613) g'614 gs bc [] 0 [] := hR623
        show am_E _ _ _ _ [some (.ref 39)] [] _ _
        refine am_e2 (v := 39) hi_209_4 rfl ?_
        refine am_e7 hi_209_5 ?_
        refine mm_20 (v := .int (f 15)) hS616 hi_209_6 rfl ?_
        refine am_e0 hi_209_9 ?_
        refine am_e10 (z := z0) hi_209_10 hz0 ?_
        refine mm_21 (v := z0) hS616 hi_209_11 rfl (Nat.le_of_ble_eq_true rfl) ms_15 ?_
        intro S624 hS625
        replace hS625 : MS S0 S624 (upd (upd (upd (upd f 15 z0) 62 o611) 68 s612) 75 m613) g'614 := hS625
        have hp626 : mj_n (g'614 16) (f 15).toNatClampNeg 3 = mj_n (g'614 16) z0.toNatClampNeg 3 + if (g'614 16 z0.toNatClampNeg).toInt = 3 then 1 else 0 := mj_pop (by rw [cl_toNat, cl_toNat]; omega)
        have hp6261 : mj_n (g'614 16) z0.toNatClampNeg 3 ≤ mj_n (g'614 16) (f 15).toNatClampNeg 3 := by rw [hp626]; split <;> omega
        have hp6262 : (g'614 16 z0.toNatClampNeg).toInt = 3 → mj_n (g'614 16) z0.toNatClampNeg 3 + 1 ≤ mj_n (g'614 16) (f 15).toNatClampNeg 3 := fun q => by rw [hp626, if_pos q]; exact Int.le_refl _
        refine am_e35 hi_209_14 ?_
        show am_E _ _ _ _ [some (.ref 39), some (.int 4), some (.int (f 19))] [] _ _
        refine am_e2 (v := 39) hi_258_35 rfl ?_
        refine am_e1 (v := 4) hi_258_36 rfl ?_
        refine am_e1 (v := f 19) hi_258_37 rfl ?_
        obtain ⟨z627, hz627, tz627⟩ := am_subI (x := 4) (y := f 19) (m := (4 : Int)) (n := (f 19).toInt) (by decide) rfl (by omega) (by omega)
        refine am_e10 (z := z627) hi_258_38 hz627 ?_
        refine am_e32n (as := [.ref 39, .int z627]) (la := [some (.ref 39), some (.int z627), none]) (rest := []) hi_258_39 (am_hd0 (M := 258) (by decide) 39) (Nat.le_of_ble_eq_true rfl) (Nat.le_of_ble_eq_true rfl) (show 2 ≤ am_P0.2.2.1 240 from by decide +kernel) rfl (am_recv_ok hS625.fs) rfl rfl (ct_nils (d := (d + 4)) hS625 hR623_  (by show (0 : Int) ≤ (f 32).toInt; omega) (by show (f 32).toInt ≤ (63 : Int); omega) (by show (f 53).toInt ≤ (4096 : Int); omega) (by show (0 : Int) ≤ s612.toInt; omega) (by show s612.toInt ≤ (65534 : Int); omega) (by show s612.toInt + z627.toInt ≤ 65534; omega)) ?_
        rintro v628 S629 (⟨s630, g'631, hv632, hS633, hR637, h634, h635, h636⟩)
        subst hv632
        have h634_ : s612.toInt ≤ s630.toInt := h634
        have h635_ : s630.toInt ≤ s612.toInt + z627.toInt ∨ s630.toInt ≤ s612.toInt := h635
        have h636_ : ∀ j, j ∉ [60, 69, 70, 71, 72, 73] → g'631 j = g'614 j := h636
        replace hS633 : MS S0 S629 (upd (upd (upd (upd f 15 z0) 62 o611) 68 s630) 75 m613) g'631 := hS633
        have hR637_ : RJ (upd (upd (upd (upd f 15 z0) 62 o611) 68 s630) 75 m613) g'631 gs bc [] 0 [] := hR637
        show am_E _ _ _ _ [some (.ref 39), some (.int 4), some (.int (f 19))] [] _ _
        refine am_e1 (v := f 19) hi_258_42 rfl ?_
        refine am_e1 (v := 4) hi_258_43 rfl ?_
        refine am_e13f hi_258_44 (am_cF (m := (f 19).toInt) (n := (4 : Int)) rfl (by decide) (by simp only [am_cI]; omega)) ?_
        refine am_e2 (v := 39) hi_258_47 rfl ?_
        refine am_e0 hi_258_48 ?_
        refine am_e1 (v := f 19) hi_258_50 rfl ?_
        refine am_e1 (v := 4) hi_258_51 rfl ?_
        obtain ⟨z638, hz638, tz638⟩ := am_subI (x := f 19) (y := 4) (m := (f 19).toInt) (n := (4 : Int)) rfl (by decide) (by omega) (by omega)
        refine am_e10 (z := z638) hi_258_52 hz638 ?_
        refine am_e0 hi_258_53 ?_
        refine am_e0 hi_258_54 ?_
        refine am_e32n (as := [.ref 39, .int 26, .int z638, .int 0, .int 0]) (la := [some (.ref 39), some (.int 26), some (.int z638), some (.int 0), some (.int 0)]) (rest := []) hi_258_55 (am_hd0 (M := 258) (by decide) 55) (Nat.le_of_ble_eq_true rfl) (Nat.le_of_ble_eq_true rfl) (show 5 ≤ am_P0.2.2.1 189 from by decide +kernel) rfl (am_recv_ok hS633.fs) rfl rfl (ct_put (d := (d + 5)) hS633 hR637_  (by show (0 : Int) ≤ (f 32).toInt; omega) (by show (f 32).toInt ≤ (63 : Int); omega) (by show (f 53).toInt ≤ (4096 : Int); omega) (by show (0 : Int) ≤ s630.toInt; omega) (by show s630.toInt ≤ (65534 : Int); omega)) ?_
        rintro v639 S640 (⟨z641, r642, g'643, hv644, hS645, hR649, h646, h647, h648⟩)
        subst hv644
        have h646_ : z641.toInt = s630.toInt + 1 := h646
        have h647_ : r642.toInt = s630.toInt := h647
        have h648_ : ∀ j, j ∉ [60, 69, 70, 71, 72, 73] → g'643 j = g'631 j := h648
        replace hS645 : MS S0 S640 (upd (upd (upd (upd f 15 z0) 62 o611) 68 z641) 75 m613) g'643 := hS645
        have hR649_ : RJ (upd (upd (upd (upd f 15 z0) 62 o611) 68 z641) 75 m613) g'643 gs bc [] 0 (s630.toNatClampNeg :: []) := hR649
        show am_E _ _ _ _ [some (.ref 39), some (.int 4), some (.int (f 19))] [.int r642] _ _
        refine am_e6i hi_258_58 ?_
        refine am_e35 hi_258_59 ?_
        show am_E _ _ _ _ [some (.ref 39), some (.int on), some (.int tw), some (.int th), none, none, none, none] [] _ _
        refine am_e2 (v := 39) hi_257_9 rfl ?_
        refine am_e0 hi_257_10 ?_
        refine am_e32n (as := [.ref 39, .int 12]) (la := [some (.ref 39), some (.int 12)]) (rest := []) hi_257_12 (am_hd0 (M := 257) (by decide) 12) (Nat.le_of_ble_eq_true rfl) (Nat.le_of_ble_eq_true rfl) (show 2 ≤ am_P0.2.2.1 193 from by decide +kernel) rfl (am_recv_ok hS645.fs) rfl rfl (ct_enter (d := (d + 4)) hS645   (by show (0 : Int) ≤ (f 4).toInt; omega) (by show (f 0).toInt ≤ (16384 : Int); omega) (by show (0 : Int) ≤ (12 : Int); omega) (by show (0 : Int) ≤ (f 5).toInt; omega) (by show (f 5).toInt ≤ (48 : Int); omega)) ?_
        rintro v650 S651 (⟨z652, y653, hv654, hS655, h656, h657, h658, h659⟩ | ⟨a661, b662, hv663, hS664⟩)
        · subst hv654
          have h656_ : z652.toInt = (f 4).toInt + 1 := h656
          have h657_ : (f 4).toInt < (f 0).toInt := h657
          have h658_ : y653.toInt = (f 5).toInt + 1 := h658
          have h659_ : y653.toInt ≤ (48 : Int) := h659
          replace hS655 : MS S0 S651 (upd (upd (upd (upd (upd (upd f 4 z652) 5 y653) 15 z0) 62 o611) 68 z641) 75 m613) g'643 := hS655
          have hR666 : RJ (upd (upd (upd (upd (upd (upd f 4 z652) 5 y653) 15 z0) 62 o611) 68 z641) 75 m613) g'643 gs bc [] 0 (s630.toNatClampNeg :: []) := RJ.at hR649_ (by show (f 4).toInt ≤ z652.toInt; omega)
          show am_E _ _ _ _ [some (.ref 39), some (.int on), some (.int tw), some (.int th), none, none, none, none] [.int 1] _ _
          refine am_e12t hi_257_15 (by decide) ?_
          refine am_e2 (v := 39) hi_257_19 rfl ?_
          refine am_e32w (as := [.ref 39]) (la := [some (.ref 39)]) (rest := []) hi_257_20 (am_hd0 (M := 257) (by decide) 20) (Nat.le_of_ble_eq_true rfl) (Nat.le_of_ble_eq_true rfl) (show 1 ≤ am_P0.2.2.1 197 from by decide +kernel) rfl (am_recv_ok hS655.fs) rfl rfl ?_
          refine am_e2 (v := 39) hi_197_0 rfl ?_
          refine mm_20 (v := .int (f 24)) hS655 hi_197_1 rfl ?_
          refine am_e2 (v := 39) hi_197_4 rfl ?_
          refine mm_20 (v := .ref 59) hS655 hi_197_5 rfl ?_
          refine am_e2 (v := 39) hi_197_8 rfl ?_
          refine mm_20 (v := .int (f 32)) hS655 hi_197_9 rfl ?_
          refine mm_25 hS655 ma_34 hi_197_12 (by decide) (by omega) (by omega) ?_
          show am_E _ _ _ _ _ (.int (g'643 34 (f 32).toNatClampNeg) :: _) _ _
          rw [show g'643 34 = g'631 34 from h648_ 34 (by decide), show g'631 34 = g'614 34 from h636_ 34 (by decide), show g'614 34 = g 34 from h622_ 34 (by decide)]
          show am_E _ _ _ _ [some (.ref 39)] [.int (g 34 (f 32).toNatClampNeg), .int (f 24)] _ _
          have r667 : 0 ≤ (g 34 (f 32).toNatClampNeg).toInt := by
            have h := RJ.ba hR666 (f 32).toNatClampNeg
            rw [show g'643 34 = g'631 34 from h648_ 34 (by decide), show g'631 34 = g'614 34 from h636_ 34 (by decide), show g'614 34 = g 34 from h622_ 34 (by decide)] at h
            exact h
          have r668 : (g 34 (f 32).toNatClampNeg).toInt ≤ 2147483647 := i32_le _
          obtain ⟨z669, hz669, tz669⟩ := am_subI (x := f 24) (y := g 34 (f 32).toNatClampNeg) (m := (f 24).toInt) (n := (g 34 (f 32).toNatClampNeg).toInt) rfl rfl (by omega) (by omega)
          refine am_e10 (z := z669) hi_197_13 hz669 ?_
          refine am_e33 hi_197_14 ?_
          show am_E _ _ _ _ [some (.ref 39), some (.int on), some (.int tw), some (.int th), none, none, none, none] [.int z669] _ _
          refine am_e3 (ls' := [some (.ref 39), some (.int on), some (.int tw), some (.int th), some (.int z669), none, none, none]) hi_257_23 (Nat.le_of_ble_eq_true rfl) rfl ?_
          refine am_e2 (v := 39) hi_257_25 rfl ?_
          refine am_e0 hi_257_26 ?_
          refine am_e0 hi_257_27 ?_
          refine am_e1 (v := on) hi_257_28 rfl ?_
          refine am_e32n (as := [.ref 39, .int 4, .int 1, .int on]) (la := [some (.ref 39), some (.int 4), some (.int 1), some (.int on), none]) (rest := []) hi_257_29 (am_hd0 (M := 257) (by decide) 29) (Nat.le_of_ble_eq_true rfl) (Nat.le_of_ble_eq_true rfl) (show 4 ≤ am_P0.2.2.1 254 from by decide +kernel) rfl (am_recv_ok hS655.fs) rfl rfl (ct_hide (d := (d + 4)) hS655 hR666 (by decide)  (by show (0 : Int) ≤ (f 32).toInt; omega) (by show (f 32).toInt ≤ (63 : Int); omega) (by show (f 53).toInt ≤ (4096 : Int); omega) (by show (0 : Int) ≤ (f 24).toInt; omega) (by show (f 24).toInt ≤ (16000 : Int); omega) (by show (0 : Int) ≤ (4 : Int); omega) (by show (4 : Int) ≤ (16 : Int); omega)) ?_
          rintro v670 S671 (⟨a672, b673, l674, y675, g'676, hv677, hS678, hR681, h679, h680⟩)
          subst hv677
          have h679_ : l674.toInt = (f 24).toInt + (4 : Int) := h679
          have h680_ : ∀ j, j ∉ [25, 26, 27, 28, 29, 30, 58] → g'676 j = g'643 j := h680
          replace hS678 : MS S0 S671 (upd (upd (upd (upd (upd (upd (upd (upd (upd (upd f 4 z652) 5 y653) 8 a672) 9 b673) 15 z0) 24 l674) 31 y675) 62 o611) 68 z641) 75 m613) g'676 := hS678
          have hR681_ : RJ (upd (upd (upd (upd (upd (upd (upd (upd (upd (upd f 4 z652) 5 y653) 8 a672) 9 b673) 15 z0) 24 l674) 31 y675) 62 o611) 68 z641) 75 m613) g'676 gs bc [] 0 (s630.toNatClampNeg :: []) := hR681
          show am_E _ _ _ _ [some (.ref 39), some (.int on), some (.int tw), some (.int th), some (.int z669), none, none, none] [] _ _
          refine am_e2 (v := 39) hi_257_32 rfl ?_
          refine am_e0 hi_257_33 ?_
          refine am_e1 (v := z669) hi_257_35 rfl ?_
          refine am_e0 hi_257_37 ?_
          refine am_e1 (v := on) hi_257_38 rfl ?_
          refine am_e32n (as := [.ref 39, .int 42, .int z669, .int 0, .int on]) (la := [some (.ref 39), some (.int 42), some (.int z669), some (.int 0), some (.int on)]) (rest := []) hi_257_39 (am_hd0 (M := 257) (by decide) 39) (Nat.le_of_ble_eq_true rfl) (Nat.le_of_ble_eq_true rfl) (show 5 ≤ am_P0.2.2.1 189 from by decide +kernel) rfl (am_recv_ok hS678.fs) rfl rfl (ct_put (d := (d + 6)) hS678 hR681_  (by show (0 : Int) ≤ (f 32).toInt; omega) (by show (f 32).toInt ≤ (63 : Int); omega) (by show (f 53).toInt ≤ (4096 : Int); omega) (by show (0 : Int) ≤ z641.toInt; omega) (by show z641.toInt ≤ (65534 : Int); omega)) ?_
          rintro v682 S683 (⟨z684, r685, g'686, hv687, hS688, hR692, h689, h690, h691⟩)
          subst hv687
          have h689_ : z684.toInt = z641.toInt + 1 := h689
          have h690_ : r685.toInt = z641.toInt := h690
          have h691_ : ∀ j, j ∉ [60, 69, 70, 71, 72, 73] → g'686 j = g'676 j := h691
          replace hS688 : MS S0 S683 (upd (upd (upd (upd (upd (upd (upd (upd (upd (upd f 4 z652) 5 y653) 8 a672) 9 b673) 15 z0) 24 l674) 31 y675) 62 o611) 68 z684) 75 m613) g'686 := hS688
          have hR692_ : RJ (upd (upd (upd (upd (upd (upd (upd (upd (upd (upd f 4 z652) 5 y653) 8 a672) 9 b673) 15 z0) 24 l674) 31 y675) 62 o611) 68 z684) 75 m613) g'686 gs bc [] 0 (z641.toNatClampNeg :: (s630.toNatClampNeg :: [])) := hR692
          show am_E _ _ _ _ [some (.ref 39), some (.int on), some (.int tw), some (.int th), some (.int z669), none, none, none] [.int r685] _ _
          refine am_e6i hi_257_42 ?_
          refine am_e2 (v := 39) hi_257_43 rfl ?_
          refine am_e32n (as := [.ref 39]) (la := [some (.ref 39)]) (rest := []) hi_257_44 (am_hd0 (M := 257) (by decide) 44) (Nat.le_of_ble_eq_true rfl) (Nat.le_of_ble_eq_true rfl) (show 1 ≤ am_P0.2.2.1 210 from by decide +kernel) rfl (am_recv_ok hS688.fs) rfl rfl (ct_here (d := (d + 6)) hS688 hR692_  (by show (0 : Int) ≤ (f 32).toInt; omega) (by show (f 32).toInt ≤ (63 : Int); omega) (by show (f 53).toInt ≤ (4096 : Int); omega) (by show (0 : Int) ≤ z684.toInt; omega) (by show z684.toInt ≤ (65534 : Int); omega)) ?_
          rintro v693 S694 (⟨r695, hv696, hS697, h698, h699⟩)
          subst hv696
          have h698_ : (0 : Int) ≤ r695.toInt := h698
          have h699_ : r695.toInt ≤ z684.toInt := h699
          show am_E _ _ _ _ [some (.ref 39), some (.int on), some (.int tw), some (.int th), some (.int z669), none, none, none] [.int r695] _ _
          refine am_e3 (ls' := [some (.ref 39), some (.int on), some (.int tw), some (.int th), some (.int z669), some (.int r695), none, none]) hi_257_47 (Nat.le_of_ble_eq_true rfl) rfl ?_
          refine am_e2 (v := 39) hi_257_49 rfl ?_
          refine am_e0 hi_257_50 ?_
          refine am_e0 hi_257_52 ?_
          refine am_e0 hi_257_53 ?_
          refine am_e1 (v := on) hi_257_54 rfl ?_
          refine am_e32n (as := [.ref 39, .int 34, .int 0, .int 0, .int on]) (la := [some (.ref 39), some (.int 34), some (.int 0), some (.int 0), some (.int on)]) (rest := []) hi_257_55 (am_hd0 (M := 257) (by decide) 55) (Nat.le_of_ble_eq_true rfl) (Nat.le_of_ble_eq_true rfl) (show 5 ≤ am_P0.2.2.1 189 from by decide +kernel) rfl (am_recv_ok hS697.fs) rfl rfl (ct_put (d := (d + 6)) hS697 hR692_  (by show (0 : Int) ≤ (f 32).toInt; omega) (by show (f 32).toInt ≤ (63 : Int); omega) (by show (f 53).toInt ≤ (4096 : Int); omega) (by show (0 : Int) ≤ z684.toInt; omega) (by show z684.toInt ≤ (65534 : Int); omega)) ?_
          rintro v701 S702 (⟨z703, r704, g'705, hv706, hS707, hR711, h708, h709, h710⟩)
          subst hv706
          have h708_ : z703.toInt = z684.toInt + 1 := h708
          have h709_ : r704.toInt = z684.toInt := h709
          have h710_ : ∀ j, j ∉ [60, 69, 70, 71, 72, 73] → g'705 j = g'686 j := h710
          replace hS707 : MS S0 S702 (upd (upd (upd (upd (upd (upd (upd (upd (upd (upd f 4 z652) 5 y653) 8 a672) 9 b673) 15 z0) 24 l674) 31 y675) 62 o611) 68 z703) 75 m613) g'705 := hS707
          have hR711_ : RJ (upd (upd (upd (upd (upd (upd (upd (upd (upd (upd f 4 z652) 5 y653) 8 a672) 9 b673) 15 z0) 24 l674) 31 y675) 62 o611) 68 z703) 75 m613) g'705 gs bc [] 0 (z684.toNatClampNeg :: (z641.toNatClampNeg :: (s630.toNatClampNeg :: []))) := hR711
          show am_E _ _ _ _ [some (.ref 39), some (.int on), some (.int tw), some (.int th), some (.int z669), some (.int r695), none, none] [.int r704] _ _
          refine am_e6i hi_257_58 ?_
          refine am_e2 (v := 39) hi_257_59 rfl ?_
          refine am_e0 hi_257_60 ?_
          refine am_e1 (v := z669) hi_257_62 rfl ?_
          refine am_e1 (v := tw) hi_257_64 rfl ?_
          refine am_e1 (v := th) hi_257_65 rfl ?_
          refine am_e32n (as := [.ref 39, .int 43, .int z669, .int tw, .int th]) (la := [some (.ref 39), some (.int 43), some (.int z669), some (.int tw), some (.int th)]) (rest := []) hi_257_66 (am_hd0 (M := 257) (by decide) 66) (Nat.le_of_ble_eq_true rfl) (Nat.le_of_ble_eq_true rfl) (show 5 ≤ am_P0.2.2.1 189 from by decide +kernel) rfl (am_recv_ok hS707.fs) rfl rfl (ct_put (d := (d + 6)) hS707 hR711_  (by show (0 : Int) ≤ (f 32).toInt; omega) (by show (f 32).toInt ≤ (63 : Int); omega) (by show (f 53).toInt ≤ (4096 : Int); omega) (by show (0 : Int) ≤ z703.toInt; omega) (by show z703.toInt ≤ (65534 : Int); omega)) ?_
          rintro v712 S713 (⟨z714, r715, g'716, hv717, hS718, hR722, h719, h720, h721⟩)
          subst hv717
          have h719_ : z714.toInt = z703.toInt + 1 := h719
          have h720_ : r715.toInt = z703.toInt := h720
          have h721_ : ∀ j, j ∉ [60, 69, 70, 71, 72, 73] → g'716 j = g'705 j := h721
          replace hS718 : MS S0 S713 (upd (upd (upd (upd (upd (upd (upd (upd (upd (upd f 4 z652) 5 y653) 8 a672) 9 b673) 15 z0) 24 l674) 31 y675) 62 o611) 68 z714) 75 m613) g'716 := hS718
          have hR722_ : RJ (upd (upd (upd (upd (upd (upd (upd (upd (upd (upd f 4 z652) 5 y653) 8 a672) 9 b673) 15 z0) 24 l674) 31 y675) 62 o611) 68 z714) 75 m613) g'716 gs bc [] 0 (z703.toNatClampNeg :: (z684.toNatClampNeg :: (z641.toNatClampNeg :: (s630.toNatClampNeg :: [])))) := hR722
          show am_E _ _ _ _ [some (.ref 39), some (.int on), some (.int tw), some (.int th), some (.int z669), some (.int r695), none, none] [.int r715] _ _
          refine am_e6i hi_257_69 ?_
          refine am_e2 (v := 39) hi_257_70 rfl ?_
          refine am_e0 hi_257_71 ?_
          refine am_e1 (v := z669) hi_257_73 rfl ?_
          refine am_e0 hi_257_75 ?_
          refine am_e0 hi_257_76 ?_
          refine am_e32n (as := [.ref 39, .int 44, .int z669, .int 0, .int 0]) (la := [some (.ref 39), some (.int 44), some (.int z669), some (.int 0), some (.int 0)]) (rest := []) hi_257_77 (am_hd0 (M := 257) (by decide) 77) (Nat.le_of_ble_eq_true rfl) (Nat.le_of_ble_eq_true rfl) (show 5 ≤ am_P0.2.2.1 189 from by decide +kernel) rfl (am_recv_ok hS718.fs) rfl rfl (ct_put (d := (d + 6)) hS718 hR722_  (by show (0 : Int) ≤ (f 32).toInt; omega) (by show (f 32).toInt ≤ (63 : Int); omega) (by show (f 53).toInt ≤ (4096 : Int); omega) (by show (0 : Int) ≤ z714.toInt; omega) (by show z714.toInt ≤ (65534 : Int); omega)) ?_
          rintro v723 S724 (⟨z725, r726, g'727, hv728, hS729, hR733, h730, h731, h732⟩)
          subst hv728
          have h730_ : z725.toInt = z714.toInt + 1 := h730
          have h731_ : r726.toInt = z714.toInt := h731
          have h732_ : ∀ j, j ∉ [60, 69, 70, 71, 72, 73] → g'727 j = g'716 j := h732
          replace hS729 : MS S0 S724 (upd (upd (upd (upd (upd (upd (upd (upd (upd (upd f 4 z652) 5 y653) 8 a672) 9 b673) 15 z0) 24 l674) 31 y675) 62 o611) 68 z725) 75 m613) g'727 := hS729
          have hR733_ : RJ (upd (upd (upd (upd (upd (upd (upd (upd (upd (upd f 4 z652) 5 y653) 8 a672) 9 b673) 15 z0) 24 l674) 31 y675) 62 o611) 68 z725) 75 m613) g'727 gs bc [] 0 (z714.toNatClampNeg :: (z703.toNatClampNeg :: (z684.toNatClampNeg :: (z641.toNatClampNeg :: (s630.toNatClampNeg :: []))))) := hR733
          show am_E _ _ _ _ [some (.ref 39), some (.int on), some (.int tw), some (.int th), some (.int z669), some (.int r695), none, none] [.int r726] _ _
          refine am_e3 (ls' := [some (.ref 39), some (.int on), some (.int tw), some (.int th), some (.int z669), some (.int r695), some (.int r726), none]) hi_257_80 (Nat.le_of_ble_eq_true rfl) rfl ?_
          refine am_e2 (v := 39) hi_257_82 rfl ?_
          refine am_e0 hi_257_83 ?_
          refine am_e32n (as := [.ref 39, .int 1]) (la := [some (.ref 39), some (.int 1)]) (rest := []) hi_257_84 (am_hd0 (M := 257) (by decide) 84) (Nat.le_of_ble_eq_true rfl) (Nat.le_of_ble_eq_true rfl) (show 2 ≤ am_P0.2.2.1 177 from by decide +kernel) rfl (am_recv_ok hS729.fs) rfl rfl (ct_beginBlock2 (d := (d + 6)) hS729 hR733_ (by decide)  (by show (0 : Int) ≤ (f 37).toInt; omega) (by show (f 37).toInt ≤ (127 : Int); omega) (by show (0 : Int) ≤ l674.toInt; omega) (by show (0 : Int) ≤ (f 44).toInt; omega) (by show (f 44).toInt ≤ z652.toInt; omega) (by show (0 : Int) ≤ (f 48).toInt; omega)) ?_
          rintro v734 S735 (⟨z736, g'737, hv738, hS739, hR743, h740, h741, h742⟩)
          subst hv738
          have h740_ : z736.toInt = (f 37).toInt + 1 := h740
          have h741_ : ∀ j, j ∉ [38, 39, 40, 41, 42, 43] → g'737 j = g'727 j := h741
          have h742_ : g'737 38 = upd (g'727 38) (f 37).toNatClampNeg l674 := h742
          replace hS739 : MS S0 S735 (upd (upd (upd (upd (upd (upd (upd (upd (upd (upd (upd f 4 z652) 5 y653) 8 a672) 9 b673) 15 z0) 24 l674) 31 y675) 37 z736) 62 o611) 68 z725) 75 m613) g'737 := hS739
          have hR743_ : RJ (upd (upd (upd (upd (upd (upd (upd (upd (upd (upd (upd f 4 z652) 5 y653) 8 a672) 9 b673) 15 z0) 24 l674) 31 y675) 37 z736) 62 o611) 68 z725) 75 m613) g'737 gs ([] :: bc) [] 0 (z714.toNatClampNeg :: (z703.toNatClampNeg :: (z684.toNatClampNeg :: (z641.toNatClampNeg :: (s630.toNatClampNeg :: []))))) := hR743
          show am_E _ _ _ _ [some (.ref 39), some (.int on), some (.int tw), some (.int th), some (.int z669), some (.int r695), some (.int r726), none] [] _ _
          refine am_e0 hi_257_87 ?_
          refine am_e3 (ls' := [some (.ref 39), some (.int on), some (.int tw), some (.int th), some (.int z669), some (.int r695), some (.int r726), some (.int 0)]) hi_257_88 (Nat.le_of_ble_eq_true rfl) rfl ?_
          refine fr_each (d := (d + 2)) (f := (upd (upd (upd (upd (upd (upd (upd (upd (upd (upd (upd f 4 z652) 5 y653) 8 a672) 9 b673) 15 z0) 24 l674) 31 y675) 37 z736) 62 o611) 68 z725) 75 m613)) (g := g'737) (w := on) (m := tw) (x3 := th) (c4 := z669) (h5 := r695) (q6 := r726)  (by show (0 : Int) ≤ (f 32).toInt; omega) (by show (f 32).toInt ≤ (63 : Int); omega) (by show (f 53).toInt ≤ (4096 : Int); omega) (by show (0 : Int) ≤ l674.toInt; omega) (by show l674.toInt + tw.toInt ≤ 16383; omega) (by show (0 : Int) ≤ on.toInt; omega) (by show on.toInt + 2 * tw.toInt ≤ 16000; omega) ?_ ((tw.toInt - (0 : Int)).toNat + 1) _ 0 a672 b673 l674 y675 _ hS739 hR743_ (fun _ _ => rfl) (by show (0 : Int) ≤ (0 : Int); omega) (by show (0 : Int) ≤ tw.toInt; omega) (by show l674.toInt = l674.toInt + (0 : Int); omega) (by show tw.toInt - (0 : Int) < _; omega)
          · intro S749 i744 a745 b746 l747 y748 gx752 hS750 hR751 hg753 h754
            replace hS750 : MS S0 S749 (upd (upd (upd (upd (upd (upd (upd (upd (upd (upd (upd f 4 z652) 5 y653) 8 a745) 9 b746) 15 z0) 24 l747) 31 y748) 37 z736) 62 o611) 68 z725) 75 m613) gx752 := hS750
            have h754_ : l747.toInt = l674.toInt + tw.toInt := h754
            have hR751_ : RJ (upd (upd (upd (upd (upd (upd (upd (upd (upd (upd (upd f 4 z652) 5 y653) 8 a745) 9 b746) 15 z0) 24 l747) 31 y748) 37 z736) 62 o611) 68 z725) 75 m613) gx752 gs ([] :: bc) [] 0 (z714.toNatClampNeg :: (z703.toNatClampNeg :: (z684.toNatClampNeg :: (z641.toNatClampNeg :: (s630.toNatClampNeg :: []))))) := hR751
            show am_E _ _ _ _ [some (.ref 39), some (.int on), some (.int tw), some (.int th), some (.int z669), some (.int r695), some (.int r726), some (.int i744)] [] _ _
            refine am_e2 (v := 39) hi_257_129 rfl ?_
            refine am_e0 hi_257_130 ?_
            refine am_e1 (v := r726) hi_257_132 rfl ?_
            refine am_e1 (v := r695) hi_257_134 rfl ?_
            refine am_e1 (v := z669) hi_257_136 rfl ?_
            refine am_e32n (as := [.ref 39, .int 15, .int r726, .int r695, .int z669]) (la := [some (.ref 39), some (.int 15), some (.int r726), some (.int r695), some (.int z669)]) (rest := []) hi_257_138 (am_hd0 (M := 257) (by decide) 138) (Nat.le_of_ble_eq_true rfl) (Nat.le_of_ble_eq_true rfl) (show 5 ≤ am_P0.2.2.1 179 from by decide +kernel) rfl (am_recv_ok hS750.fs) rfl rfl (ct_pile (d := (d + 6)) hS750 hR751_ (mj_e_b (by decide) (by omega) (by show r726.toInt < z725.toInt; omega)) (by show (0 : Int) ≤ (f 10).toInt; omega) (by show (f 10).toInt ≤ (65535 : Int); omega)) ?_
            rintro v755 S756 (⟨z757, g'758, hv759, hS760, hR763, h761, h762⟩)
            subst hv759
            have h761_ : z757.toInt = (f 10).toInt + 1 := h761
            have h762_ : ∀ j, j ∉ [11, 12, 13, 14] → g'758 j = gx752 j := h762
            replace hS760 : MS S0 S756 (upd (upd (upd (upd (upd (upd (upd (upd (upd (upd (upd (upd f 4 z652) 5 y653) 8 a745) 9 b746) 10 z757) 15 z0) 24 l747) 31 y748) 37 z736) 62 o611) 68 z725) 75 m613) g'758 := hS760
            have hR763_ : RJ (upd (upd (upd (upd (upd (upd (upd (upd (upd (upd (upd (upd f 4 z652) 5 y653) 8 a745) 9 b746) 10 z757) 15 z0) 24 l747) 31 y748) 37 z736) 62 o611) 68 z725) 75 m613) g'758 (((15 : Int), r726.toInt, r695.toInt, z669.toInt, []) :: gs) ([] :: bc) [] 0 (z714.toNatClampNeg :: (z703.toNatClampNeg :: (z684.toNatClampNeg :: (z641.toNatClampNeg :: (s630.toNatClampNeg :: []))))) := hR763
            show am_E _ _ _ _ [some (.ref 39), some (.int on), some (.int tw), some (.int th), some (.int z669), some (.int r695), some (.int r726), some (.int i744)] [] _ _
            refine am_e2 (v := 39) hi_257_141 rfl ?_
            refine am_e32w (as := [.ref 39]) (la := [some (.ref 39)]) (rest := []) hi_257_142 (am_hd0 (M := 257) (by decide) 142) (Nat.le_of_ble_eq_true rfl) (Nat.le_of_ble_eq_true rfl) (show 1 ≤ am_P0.2.2.1 178 from by decide +kernel) rfl (am_recv_ok hS760.fs) rfl rfl ?_
            refine am_e2 (v := 39) hi_178_0 rfl ?_
            refine am_e0 hi_178_1 ?_
            refine am_e0 hi_178_2 ?_
            refine am_e0 hi_178_3 ?_
            refine am_e0 hi_178_4 ?_
            refine am_e32n (as := [.ref 39, .int 1, .int 0, .int 0, .int 0]) (la := [some (.ref 39), some (.int 1), some (.int 0), some (.int 0), some (.int 0)]) (rest := []) hi_178_5 (am_hd0 (M := 178) (by decide) 5) (Nat.le_of_ble_eq_true rfl) (Nat.le_of_ble_eq_true rfl) (show 5 ≤ am_P0.2.2.1 179 from by decide +kernel) rfl (am_recv_ok hS760.fs) rfl rfl (ct_pile (d := (d + 5)) hS760 hR763_ (mj_e_plain (by decide)) (by show (0 : Int) ≤ z757.toInt; omega) (by show z757.toInt ≤ (65535 : Int); omega)) ?_
            rintro v764 S765 (⟨z766, g'767, hv768, hS769, hR772, h770, h771⟩)
            subst hv768
            have h770_ : z766.toInt = z757.toInt + 1 := h770
            have h771_ : ∀ j, j ∉ [11, 12, 13, 14] → g'767 j = g'758 j := h771
            replace hS769 : MS S0 S765 (upd (upd (upd (upd (upd (upd (upd (upd (upd (upd (upd (upd f 4 z652) 5 y653) 8 a745) 9 b746) 10 z766) 15 z0) 24 l747) 31 y748) 37 z736) 62 o611) 68 z725) 75 m613) g'767 := hS769
            have hR772_ : RJ (upd (upd (upd (upd (upd (upd (upd (upd (upd (upd (upd (upd f 4 z652) 5 y653) 8 a745) 9 b746) 10 z766) 15 z0) 24 l747) 31 y748) 37 z736) 62 o611) 68 z725) 75 m613) g'767 (((1 : Int), (0 : Int), (0 : Int), (0 : Int), []) :: (((15 : Int), r726.toInt, r695.toInt, z669.toInt, []) :: gs)) ([] :: bc) [] 0 (z714.toNatClampNeg :: (z703.toNatClampNeg :: (z684.toNatClampNeg :: (z641.toNatClampNeg :: (s630.toNatClampNeg :: []))))) := hR772
            show am_E _ _ _ _ [some (.ref 39)] [] _ _
            refine am_e35 hi_178_8 ?_
            show am_E _ _ _ _ [some (.ref 39), some (.int on), some (.int tw), some (.int th), some (.int z669), some (.int r695), some (.int r726), some (.int i744)] [] _ _
            refine am_e35 hi_257_145 ?_
            show am_E _ _ _ _ [some (.ref 39), some (.int 14), some (.int on), some (.int tw), some (.int th)] [] _ _
            refine am_e18 hi_180_270 ?_
            refine am_e35 hi_180_371 ?_
            have q1 : mg_p1 (((1 : Int), (0 : Int), (0 : Int), (0 : Int), []) :: (((15 : Int), r726.toInt, r695.toInt, z669.toInt, []) :: gs)) = 0 + (0 + (mg_p1 gs)) := rfl
            have q2 : mg_p2 (((1 : Int), (0 : Int), (0 : Int), (0 : Int), []) :: (((15 : Int), r726.toInt, r695.toInt, z669.toInt, []) :: gs)) = 0 + (0 + (mg_p2 gs)) := rfl
            have q3 : mg_p3 (((1 : Int), (0 : Int), (0 : Int), (0 : Int), []) :: (((15 : Int), r726.toInt, r695.toInt, z669.toInt, []) :: gs)) = 1 + (1 + (mg_p3 gs)) := rfl
            have q4 : mg_p4 (((1 : Int), (0 : Int), (0 : Int), (0 : Int), []) :: (((15 : Int), r726.toInt, r695.toInt, z669.toInt, []) :: gs)) = 0 + (0 + (mg_p4 gs)) := rfl
            refine ⟨_, _, _, ([] :: bc), rfl, hS769, Or.inl ⟨⟨(RJ.fewer (pj' := []) hR772_ (fun _ h => nomatch h)), ?_, ?_⟩, rfl, ?_⟩⟩
            · exact (⟨⟨(show mg_k 1 from by decide), (show (0 : Int) ≤ z0.toInt from by omega), (show 0 ≤ (f 20).toInt from by omega), (show 1 ≤ z736.toInt from by omega), (show 0 ≤ (f 32).toInt from by omega), (show (f 32).toInt ≤ y653.toInt from by omega), (show y653.toInt ≤ 48 from by omega), (show z736.toInt ≤ 2 * (y653.toInt) + 1 from by omega), trivial⟩, ⟨⟨(show mg_k 15 from by decide), (show (0 : Int) ≤ z0.toInt + 0 from by omega), (show 0 ≤ (f 20).toInt from by omega), (show 1 ≤ z736.toInt + 0 from by omega), (show 0 ≤ (f 32).toInt + 0 from by omega), (show (f 32).toInt + 0 ≤ y653.toInt + 0 from by omega), (show y653.toInt + 0 ≤ 48 from by omega), (show z736.toInt + 0 ≤ 2 * (y653.toInt + 0) + 0 from by omega), (mg_pa13 (l1 := l674) hR (by show g'767 34 = g 34; rw [show g'767 34 = g'758 34 from h771_ 34 (by decide), show g'758 34 = gx752 34 from h762_ 34 (by decide), show gx752 34 = g'737 34 from hg753 34 (by decide), show g'737 34 = g'727 34 from h741_ 34 (by decide), show g'727 34 = g'716 34 from h732_ 34 (by decide), show g'716 34 = g'705 34 from h721_ 34 (by decide), show g'705 34 = g'686 34 from h710_ 34 (by decide), show g'686 34 = g'676 34 from h691_ 34 (by decide), show g'676 34 = g'643 34 from h680_ 34 (by decide), show g'643 34 = g'631 34 from h648_ 34 (by decide), show g'631 34 = g'614 34 from h636_ 34 (by decide), show g'614 34 = g 34 from h622_ 34 (by decide)]) (by show g'767 38 = upd (g 38) (f 37).toNatClampNeg l674; rw [show g'767 38 = g'758 38 from h771_ 38 (by decide), show g'758 38 = gx752 38 from h762_ 38 (by decide), show gx752 38 = g'737 38 from hg753 38 (by decide), h742_, show g'727 38 = g'716 38 from h732_ 38 (by decide), show g'716 38 = g'705 38 from h721_ 38 (by decide), show g'705 38 = g'686 38 from h710_ 38 (by decide), show g'686 38 = g'676 38 from h691_ 38 (by decide), show g'676 38 = g'643 38 from h680_ 38 (by decide), show g'643 38 = g'631 38 from h648_ 38 (by decide), show g'631 38 = g'614 38 from h636_ 38 (by decide), show g'614 38 = g 38 from h622_ 38 (by decide)]) (by show (f 32).toInt + 0 = (f 32).toInt; omega) (by omega) (by show z736.toInt + 0 = (f 37).toInt + 1; omega) (by show z669.toInt = (f 24).toInt - (g 34 (f 32).toNatClampNeg).toInt; omega) (by omega) (by show (f 24).toInt ≤ l674.toInt; omega))⟩, mg_cast (mg_good_ext _ _ _ _ _ _ (fun i _ => by show g'767 34 i = g 34 i; rw [show g'767 34 = g'758 34 from h771_ 34 (by decide), show g'758 34 = gx752 34 from h762_ 34 (by decide), show gx752 34 = g'737 34 from hg753 34 (by decide), show g'737 34 = g'727 34 from h741_ 34 (by decide), show g'727 34 = g'716 34 from h732_ 34 (by decide), show g'716 34 = g'705 34 from h721_ 34 (by decide), show g'705 34 = g'686 34 from h710_ 34 (by decide), show g'686 34 = g'676 34 from h691_ 34 (by decide), show g'676 34 = g'643 34 from h680_ 34 (by decide), show g'643 34 = g'631 34 from h648_ 34 (by decide), show g'631 34 = g'614 34 from h636_ 34 (by decide), show g'614 34 = g 34 from h622_ 34 (by decide)]) (fun i hi => by show g'767 38 i = g 38 i; rw [show g'767 38 = g'758 38 from h771_ 38 (by decide), show g'758 38 = gx752 38 from h762_ 38 (by decide), show gx752 38 = g'737 38 from hg753 38 (by decide), h742_, show g'727 38 = g'716 38 from h732_ 38 (by decide), show g'716 38 = g'705 38 from h721_ 38 (by decide), show g'705 38 = g'686 38 from h710_ 38 (by decide), show g'686 38 = g'676 38 from h691_ 38 (by decide), show g'676 38 = g'643 38 from h680_ 38 (by decide), show g'643 38 = g'631 38 from h648_ 38 (by decide), show g'631 38 = g'614 38 from h636_ 38 (by decide), show g'614 38 = g 38 from h622_ 38 (by decide)]; exact upd_ne (by rw [cl_toNat]; omega)) (fun i _ => by show g'767 23 i = g 23 i; rw [show g'767 23 = g'758 23 from h771_ 23 (by decide), show g'758 23 = gx752 23 from h762_ 23 (by decide), show gx752 23 = g'737 23 from hg753 23 (by decide), show g'737 23 = g'727 23 from h741_ 23 (by decide), show g'727 23 = g'716 23 from h732_ 23 (by decide), show g'716 23 = g'705 23 from h721_ 23 (by decide), show g'705 23 = g'686 23 from h710_ 23 (by decide), show g'686 23 = g'676 23 from h691_ 23 (by decide), show g'676 23 = g'643 23 from h680_ 23 (by decide), show g'643 23 = g'631 23 from h648_ 23 (by decide), show g'631 23 = g'614 23 from h636_ 23 (by decide), show g'614 23 = g 23 from h622_ 23 (by decide)]) hrest) (by show (f 15).toInt + -1 = z0.toInt + 0 + 0; omega) (by show (f 20).toInt = (f 20).toInt; omega) (by show (f 37).toInt + 0 = z736.toInt + 0 + -1; omega) (by show (f 32).toInt + 0 = (f 32).toInt + 0 + 0; omega) (by show (f 5).toInt + 0 = y653.toInt + 0 + -1; omega)⟩⟩ : mg_good (g'767 34) (g'767 38) (g'767 23) (((1 : Int), (0 : Int), (0 : Int), (0 : Int), []) :: (((15 : Int), r726.toInt, r695.toInt, z669.toInt, []) :: gs)) (z0.toInt) ((f 20).toInt) (z736.toInt) ((f 32).toInt) (y653.toInt))
            · exact ⟨(by show 0 ≤ z652.toInt; omega), (by show z652.toInt ≤ (f 0).toInt; omega), (by show (f 0).toInt ≤ 512; omega), (by show 0 ≤ l747.toInt; omega), (by show l747.toInt + (f 20).toInt + mg_p1 (((1 : Int), (0 : Int), (0 : Int), (0 : Int), []) :: (((15 : Int), r726.toInt, r695.toInt, z669.toInt, []) :: gs)) ≤ 4 * z652.toInt; omega), (by show (f 20).toInt ≤ z652.toInt; omega), (by show z0.toInt + mg_p2 (((1 : Int), (0 : Int), (0 : Int), (0 : Int), []) :: (((15 : Int), r726.toInt, r695.toInt, z669.toInt, []) :: gs)) ≤ z652.toInt; omega), (by show mg_p3 (((1 : Int), (0 : Int), (0 : Int), (0 : Int), []) :: (((15 : Int), r726.toInt, r695.toInt, z669.toInt, []) :: gs)) ≤ 20 * z652.toInt + 20; omega), (by show 0 ≤ z725.toInt; omega), (by show z725.toInt + 3 * (f 20).toInt + mg_p4 (((1 : Int), (0 : Int), (0 : Int), (0 : Int), []) :: (((15 : Int), r726.toInt, r695.toInt, z669.toInt, []) :: gs)) ≤ 60 * z652.toInt + 60; omega), (by show 0 ≤ o611.toInt; omega), (by show o611.toInt + 64 * mj_n (g'767 16) z0.toNatClampNeg 3 ≤ 64 * z652.toInt; rw [show g'767 16 = g'758 16 from h771_ 16 (by decide), show g'758 16 = gx752 16 from h762_ 16 (by decide), show gx752 16 = g'737 16 from hg753 16 (by decide), show g'737 16 = g'727 16 from h741_ 16 (by decide), show g'727 16 = g'716 16 from h732_ 16 (by decide), show g'716 16 = g'705 16 from h721_ 16 (by decide), show g'705 16 = g'686 16 from h710_ 16 (by decide), show g'686 16 = g'676 16 from h691_ 16 (by decide), show g'676 16 = g'643 16 from h680_ 16 (by decide), show g'643 16 = g'631 16 from h648_ 16 (by decide), show g'631 16 = g'614 16 from h636_ 16 (by decide)]; omega), (by show 0 ≤ (f 44).toInt; omega), (by show (f 44).toInt ≤ z652.toInt; omega), (by show 0 ≤ (f 48).toInt; omega), (by show (f 48).toInt ≤ z652.toInt; omega), (by show 1 ≤ (f 53).toInt; omega), (by show (f 53).toInt ≤ z652.toInt + 1; omega), (by show 0 ≤ (f 19).toInt; omega), (by show (f 19).toInt ≤ 600; omega)⟩
            · show 100 * ((f 0).toInt - z652.toInt) + mg_p3 (((1 : Int), (0 : Int), (0 : Int), (0 : Int), []) :: (((15 : Int), r726.toInt, r695.toInt, z669.toInt, []) :: gs)) < 100 * ((f 0).toInt - (f 4).toInt) + (1 + mg_p3 gs); omega
        · subst hv663
          replace hS664 : MS S0 S651 (upd (upd (upd (upd (upd (upd (upd f 6 a661) 7 b662) 10 0) 15 z0) 62 o611) 68 z641) 75 m613) g'643 := hS664
          have hR773 := rj_clear0 hR649_
          have hR774 : RJ (upd (upd (upd (upd (upd (upd (upd f 6 a661) 7 b662) 10 0) 15 z0) 62 o611) 68 z641) 75 m613) g'643 [] bc [] 0 [] := hR773
          show am_E _ _ _ _ [some (.ref 39), some (.int on), some (.int tw), some (.int th), none, none, none, none] [.int 0] _ _
          refine am_e12f hi_257_15 (by decide) ?_
          refine am_e35 hi_257_18 ?_
          show am_E _ _ _ _ [some (.ref 39), some (.int 14), some (.int on), some (.int tw), some (.int th)] [] _ _
          refine am_e18 hi_180_270 ?_
          refine am_e35 hi_180_371 ?_
          have hRc := rj_clear0 hR774
          refine ⟨_, _, [], _, rfl, hS664, Or.inr ⟨hRc, rfl, (by show 0 ≤ (f 4).toInt; omega), (by show (f 4).toInt ≤ (f 0).toInt; omega), (by show 0 ≤ (f 32).toInt; omega), (by show (f 32).toInt ≤ 63; omega), (by show 1 ≤ (f 53).toInt; omega), (by show (f 53).toInt ≤ 600; omega), (by show 0 ≤ z641.toInt; omega), (by show z641.toInt ≤ 60000; omega), (by show 0 ≤ (f 48).toInt; omega), (by show (f 48).toInt ≤ 8000; omega), (by show 0 ≤ (f 37).toInt; omega), (by show (f 37).toInt ≤ 128; omega), (by show 0 ≤ o611.toInt; omega), (by show o611.toInt ≤ 65000; omega), (by show 0 ≤ (f 19).toInt; omega), (by show (f 19).toInt ≤ 600; omega)⟩⟩
      · refine am_e13f hi_258_9 (am_cF (m := (f 19).toInt) (n := (4 : Int)) rfl (by decide) c608) ?_
        refine am_e2 (v := 39) hi_258_12 rfl ?_
        refine am_e32w (as := [.ref 39]) (la := [some (.ref 39), none]) (rest := []) hi_258_13 (am_hd0 (M := 258) (by decide) 13) (Nat.le_of_ble_eq_true rfl) (Nat.le_of_ble_eq_true rfl) (show 1 ≤ am_P0.2.2.1 217 from by decide +kernel) rfl (am_recv_ok hS.fs) rfl rfl ?_
        refine am_e2 (v := 39) hi_217_0 rfl ?_
        refine mm_20 (v := .ref 47) hS hi_217_1 rfl ?_
        refine am_e2 (v := 39) hi_217_4 rfl ?_
        refine mm_20 (v := .int (f 15)) hS hi_217_5 rfl ?_
        refine am_e0 hi_217_8 ?_
        refine am_e10 (z := z0) hi_217_9 hz0 ?_
        refine mm_25 hS ma_17 hi_217_10 (by decide) (by omega) (by omega) ?_
        show am_E _ _ _ _ [some (.ref 39), none] [.int (g 17 z0.toNatClampNeg)] _ _
        have r775 : (g 16 z0.toNatClampNeg).toInt = 1 ∨ (g 16 z0.toNatClampNeg).toInt = 2 → 0 ≤ (g 17 z0.toNatClampNeg).toInt ∧ (g 17 z0.toNatClampNeg).toInt < 65536 := RJ.vc hR z0.toNatClampNeg
        refine am_e3 (ls' := [some (.ref 39), some (.int (g 17 z0.toNatClampNeg))]) hi_217_11 (Nat.le_of_ble_eq_true rfl) rfl ?_
        refine am_e2 (v := 39) hi_217_12 rfl ?_
        refine mm_20 (v := .ref 91) hS hi_217_13 rfl ?_
        refine am_e1 (v := g 17 z0.toNatClampNeg) hi_217_16 rfl ?_
        refine am_e2 (v := 39) hi_217_17 rfl ?_
        refine mm_20 (v := .ref 46) hS hi_217_18 rfl ?_
        refine am_e2 (v := 39) hi_217_21 rfl ?_
        refine mm_20 (v := .int (f 15)) hS hi_217_22 rfl ?_
        refine am_e0 hi_217_25 ?_
        refine am_e10 (z := z0) hi_217_26 hz0 ?_
        refine mm_25 hS ma_16 hi_217_27 (by decide) (by omega) (by omega) ?_
        show am_E _ _ _ _ [some (.ref 39), some (.int (g 17 z0.toNatClampNeg))] [.int (g 16 z0.toNatClampNeg), .int (g 17 z0.toNatClampNeg), .ref 91] _ _
        refine am_e0 hi_217_28 ?_
        refine am_e13t hi_217_29 (am_cT (m := (g 16 z0.toNatClampNeg).toInt) (n := (1 : Int)) rfl (by decide) (by simp only [am_cI]; omega)) ?_
        refine am_e0 hi_217_45 ?_
        refine mm_26 hS ma_72 hi_217_46 (by decide) (by omega) (by omega) (fun h => nomatch h) ?_
        intro S776 hS777
        refine am_e2 (v := 39) hi_217_47 rfl ?_
        refine am_e7 hi_217_48 ?_
        refine mm_20 (v := .int (f 15)) hS777 hi_217_49 rfl ?_
        refine am_e0 hi_217_52 ?_
        refine am_e10 (z := z0) hi_217_53 hz0 ?_
        refine mm_21 (v := z0) hS777 hi_217_54 rfl (Nat.le_of_ble_eq_true rfl) ms_15 ?_
        intro S778 hS779
        have hp780 : mj_n (g 16) (f 15).toNatClampNeg 3 = mj_n (g 16) z0.toNatClampNeg 3 + if (g 16 z0.toNatClampNeg).toInt = 3 then 1 else 0 := mj_pop (by rw [cl_toNat, cl_toNat]; omega)
        have hp7801 : mj_n (g 16) z0.toNatClampNeg 3 ≤ mj_n (g 16) (f 15).toNatClampNeg 3 := by rw [hp780]; split <;> omega
        have hp7802 : (g 16 z0.toNatClampNeg).toInt = 3 → mj_n (g 16) z0.toNatClampNeg 3 + 1 ≤ mj_n (g 16) (f 15).toNatClampNeg 3 := fun q => by rw [hp780, if_pos q]; exact Int.le_refl _
        refine am_e35 hi_217_57 ?_
        show am_E _ _ _ _ [some (.ref 39), some (.int 4), some (.int (f 19))] [] _ _
        refine am_e2 (v := 39) hi_258_16 rfl ?_
        refine am_e0 hi_258_17 ?_
        refine am_e1 (v := 4) hi_258_19 rfl ?_
        refine am_e1 (v := f 19) hi_258_20 rfl ?_
        obtain ⟨z781, hz781, tz781⟩ := am_subI (x := 4) (y := f 19) (m := (4 : Int)) (n := (f 19).toInt) (by decide) rfl (by omega) (by omega)
        refine am_e10 (z := z781) hi_258_21 hz781 ?_
        refine am_e0 hi_258_22 ?_
        obtain ⟨z782, hz782, tz782⟩ := am_addI (x := z781) (y := 1) (m := z781.toInt) (n := (1 : Int)) rfl (by decide) (by omega) (by omega)
        refine am_e10 (z := z782) hi_258_23 hz782 ?_
        refine am_e0 hi_258_24 ?_
        refine am_e0 hi_258_25 ?_
        refine am_e32n (as := [.ref 39, .int 25, .int z782, .int 0, .int 0]) (la := [some (.ref 39), some (.int 25), some (.int z782), some (.int 0), some (.int 0)]) (rest := []) hi_258_26 (am_hd0 (M := 258) (by decide) 26) (Nat.le_of_ble_eq_true rfl) (Nat.le_of_ble_eq_true rfl) (show 5 ≤ am_P0.2.2.1 189 from by decide +kernel) rfl (am_recv_ok hS779.fs) rfl rfl (ct_put (d := (d + 5)) hS779 hR  (by show (0 : Int) ≤ (f 32).toInt; omega) (by show (f 32).toInt ≤ (63 : Int); omega) (by show (f 53).toInt ≤ (4096 : Int); omega) (by show (0 : Int) ≤ (f 68).toInt; omega) (by show (f 68).toInt ≤ (65534 : Int); omega)) ?_
        rintro v783 S784 (⟨z785, r786, g'787, hv788, hS789, hR793, h790, h791, h792⟩)
        subst hv788
        have h790_ : z785.toInt = (f 68).toInt + 1 := h790
        have h791_ : r786.toInt = (f 68).toInt := h791
        have h792_ : ∀ j, j ∉ [60, 69, 70, 71, 72, 73] → g'787 j = (upg g 72 (g 17 z0.toNatClampNeg).toNatClampNeg 0) j := h792
        have hR793_ : RJ (upd (upd f 15 z0) 68 z785) g'787 gs bc [] 0 ((f 68).toNatClampNeg :: []) := hR793
        show am_E _ _ _ _ [some (.ref 39), some (.int 4), some (.int (f 19))] [.int r786] _ _
        refine am_e6i hi_258_29 ?_
        refine am_e35 hi_258_30 ?_
        show am_E _ _ _ _ [some (.ref 39), some (.int on), some (.int tw), some (.int th), none, none, none, none] [] _ _
        refine am_e2 (v := 39) hi_257_9 rfl ?_
        refine am_e0 hi_257_10 ?_
        refine am_e32n (as := [.ref 39, .int 12]) (la := [some (.ref 39), some (.int 12)]) (rest := []) hi_257_12 (am_hd0 (M := 257) (by decide) 12) (Nat.le_of_ble_eq_true rfl) (Nat.le_of_ble_eq_true rfl) (show 2 ≤ am_P0.2.2.1 193 from by decide +kernel) rfl (am_recv_ok hS789.fs) rfl rfl (ct_enter (d := (d + 4)) hS789   (by show (0 : Int) ≤ (f 4).toInt; omega) (by show (f 0).toInt ≤ (16384 : Int); omega) (by show (0 : Int) ≤ (12 : Int); omega) (by show (0 : Int) ≤ (f 5).toInt; omega) (by show (f 5).toInt ≤ (48 : Int); omega)) ?_
        rintro v794 S795 (⟨z796, y797, hv798, hS799, h800, h801, h802, h803⟩ | ⟨a805, b806, hv807, hS808⟩)
        · subst hv798
          have h800_ : z796.toInt = (f 4).toInt + 1 := h800
          have h801_ : (f 4).toInt < (f 0).toInt := h801
          have h802_ : y797.toInt = (f 5).toInt + 1 := h802
          have h803_ : y797.toInt ≤ (48 : Int) := h803
          replace hS799 : MS S0 S795 (upd (upd (upd (upd f 4 z796) 5 y797) 15 z0) 68 z785) g'787 := hS799
          have hR810 : RJ (upd (upd (upd (upd f 4 z796) 5 y797) 15 z0) 68 z785) g'787 gs bc [] 0 ((f 68).toNatClampNeg :: []) := RJ.at hR793_ (by show (f 4).toInt ≤ z796.toInt; omega)
          show am_E _ _ _ _ [some (.ref 39), some (.int on), some (.int tw), some (.int th), none, none, none, none] [.int 1] _ _
          refine am_e12t hi_257_15 (by decide) ?_
          refine am_e2 (v := 39) hi_257_19 rfl ?_
          refine am_e32w (as := [.ref 39]) (la := [some (.ref 39)]) (rest := []) hi_257_20 (am_hd0 (M := 257) (by decide) 20) (Nat.le_of_ble_eq_true rfl) (Nat.le_of_ble_eq_true rfl) (show 1 ≤ am_P0.2.2.1 197 from by decide +kernel) rfl (am_recv_ok hS799.fs) rfl rfl ?_
          refine am_e2 (v := 39) hi_197_0 rfl ?_
          refine mm_20 (v := .int (f 24)) hS799 hi_197_1 rfl ?_
          refine am_e2 (v := 39) hi_197_4 rfl ?_
          refine mm_20 (v := .ref 59) hS799 hi_197_5 rfl ?_
          refine am_e2 (v := 39) hi_197_8 rfl ?_
          refine mm_20 (v := .int (f 32)) hS799 hi_197_9 rfl ?_
          refine mm_25 hS799 ma_34 hi_197_12 (by decide) (by omega) (by omega) ?_
          show am_E _ _ _ _ _ (.int (g'787 34 (f 32).toNatClampNeg) :: _) _ _
          rw [show g'787 34 = g 34 from h792_ 34 (by decide)]
          show am_E _ _ _ _ [some (.ref 39)] [.int (g 34 (f 32).toNatClampNeg), .int (f 24)] _ _
          have r811 : 0 ≤ (g 34 (f 32).toNatClampNeg).toInt := by
            have h := RJ.ba hR810 (f 32).toNatClampNeg
            rw [show g'787 34 = g 34 from h792_ 34 (by decide)] at h
            exact h
          have r812 : (g 34 (f 32).toNatClampNeg).toInt ≤ 2147483647 := i32_le _
          obtain ⟨z813, hz813, tz813⟩ := am_subI (x := f 24) (y := g 34 (f 32).toNatClampNeg) (m := (f 24).toInt) (n := (g 34 (f 32).toNatClampNeg).toInt) rfl rfl (by omega) (by omega)
          refine am_e10 (z := z813) hi_197_13 hz813 ?_
          refine am_e33 hi_197_14 ?_
          show am_E _ _ _ _ [some (.ref 39), some (.int on), some (.int tw), some (.int th), none, none, none, none] [.int z813] _ _
          refine am_e3 (ls' := [some (.ref 39), some (.int on), some (.int tw), some (.int th), some (.int z813), none, none, none]) hi_257_23 (Nat.le_of_ble_eq_true rfl) rfl ?_
          refine am_e2 (v := 39) hi_257_25 rfl ?_
          refine am_e0 hi_257_26 ?_
          refine am_e0 hi_257_27 ?_
          refine am_e1 (v := on) hi_257_28 rfl ?_
          refine am_e32n (as := [.ref 39, .int 4, .int 1, .int on]) (la := [some (.ref 39), some (.int 4), some (.int 1), some (.int on), none]) (rest := []) hi_257_29 (am_hd0 (M := 257) (by decide) 29) (Nat.le_of_ble_eq_true rfl) (Nat.le_of_ble_eq_true rfl) (show 4 ≤ am_P0.2.2.1 254 from by decide +kernel) rfl (am_recv_ok hS799.fs) rfl rfl (ct_hide (d := (d + 4)) hS799 hR810 (by decide)  (by show (0 : Int) ≤ (f 32).toInt; omega) (by show (f 32).toInt ≤ (63 : Int); omega) (by show (f 53).toInt ≤ (4096 : Int); omega) (by show (0 : Int) ≤ (f 24).toInt; omega) (by show (f 24).toInt ≤ (16000 : Int); omega) (by show (0 : Int) ≤ (4 : Int); omega) (by show (4 : Int) ≤ (16 : Int); omega)) ?_
          rintro v814 S815 (⟨a816, b817, l818, y819, g'820, hv821, hS822, hR825, h823, h824⟩)
          subst hv821
          have h823_ : l818.toInt = (f 24).toInt + (4 : Int) := h823
          have h824_ : ∀ j, j ∉ [25, 26, 27, 28, 29, 30, 58] → g'820 j = g'787 j := h824
          replace hS822 : MS S0 S815 (upd (upd (upd (upd (upd (upd (upd (upd f 4 z796) 5 y797) 8 a816) 9 b817) 15 z0) 24 l818) 31 y819) 68 z785) g'820 := hS822
          have hR825_ : RJ (upd (upd (upd (upd (upd (upd (upd (upd f 4 z796) 5 y797) 8 a816) 9 b817) 15 z0) 24 l818) 31 y819) 68 z785) g'820 gs bc [] 0 ((f 68).toNatClampNeg :: []) := hR825
          show am_E _ _ _ _ [some (.ref 39), some (.int on), some (.int tw), some (.int th), some (.int z813), none, none, none] [] _ _
          refine am_e2 (v := 39) hi_257_32 rfl ?_
          refine am_e0 hi_257_33 ?_
          refine am_e1 (v := z813) hi_257_35 rfl ?_
          refine am_e0 hi_257_37 ?_
          refine am_e1 (v := on) hi_257_38 rfl ?_
          refine am_e32n (as := [.ref 39, .int 42, .int z813, .int 0, .int on]) (la := [some (.ref 39), some (.int 42), some (.int z813), some (.int 0), some (.int on)]) (rest := []) hi_257_39 (am_hd0 (M := 257) (by decide) 39) (Nat.le_of_ble_eq_true rfl) (Nat.le_of_ble_eq_true rfl) (show 5 ≤ am_P0.2.2.1 189 from by decide +kernel) rfl (am_recv_ok hS822.fs) rfl rfl (ct_put (d := (d + 6)) hS822 hR825_  (by show (0 : Int) ≤ (f 32).toInt; omega) (by show (f 32).toInt ≤ (63 : Int); omega) (by show (f 53).toInt ≤ (4096 : Int); omega) (by show (0 : Int) ≤ z785.toInt; omega) (by show z785.toInt ≤ (65534 : Int); omega)) ?_
          rintro v826 S827 (⟨z828, r829, g'830, hv831, hS832, hR836, h833, h834, h835⟩)
          subst hv831
          have h833_ : z828.toInt = z785.toInt + 1 := h833
          have h834_ : r829.toInt = z785.toInt := h834
          have h835_ : ∀ j, j ∉ [60, 69, 70, 71, 72, 73] → g'830 j = g'820 j := h835
          replace hS832 : MS S0 S827 (upd (upd (upd (upd (upd (upd (upd (upd f 4 z796) 5 y797) 8 a816) 9 b817) 15 z0) 24 l818) 31 y819) 68 z828) g'830 := hS832
          have hR836_ : RJ (upd (upd (upd (upd (upd (upd (upd (upd f 4 z796) 5 y797) 8 a816) 9 b817) 15 z0) 24 l818) 31 y819) 68 z828) g'830 gs bc [] 0 (z785.toNatClampNeg :: ((f 68).toNatClampNeg :: [])) := hR836
          show am_E _ _ _ _ [some (.ref 39), some (.int on), some (.int tw), some (.int th), some (.int z813), none, none, none] [.int r829] _ _
          refine am_e6i hi_257_42 ?_
          refine am_e2 (v := 39) hi_257_43 rfl ?_
          refine am_e32n (as := [.ref 39]) (la := [some (.ref 39)]) (rest := []) hi_257_44 (am_hd0 (M := 257) (by decide) 44) (Nat.le_of_ble_eq_true rfl) (Nat.le_of_ble_eq_true rfl) (show 1 ≤ am_P0.2.2.1 210 from by decide +kernel) rfl (am_recv_ok hS832.fs) rfl rfl (ct_here (d := (d + 6)) hS832 hR836_  (by show (0 : Int) ≤ (f 32).toInt; omega) (by show (f 32).toInt ≤ (63 : Int); omega) (by show (f 53).toInt ≤ (4096 : Int); omega) (by show (0 : Int) ≤ z828.toInt; omega) (by show z828.toInt ≤ (65534 : Int); omega)) ?_
          rintro v837 S838 (⟨r839, hv840, hS841, h842, h843⟩)
          subst hv840
          have h842_ : (0 : Int) ≤ r839.toInt := h842
          have h843_ : r839.toInt ≤ z828.toInt := h843
          show am_E _ _ _ _ [some (.ref 39), some (.int on), some (.int tw), some (.int th), some (.int z813), none, none, none] [.int r839] _ _
          refine am_e3 (ls' := [some (.ref 39), some (.int on), some (.int tw), some (.int th), some (.int z813), some (.int r839), none, none]) hi_257_47 (Nat.le_of_ble_eq_true rfl) rfl ?_
          refine am_e2 (v := 39) hi_257_49 rfl ?_
          refine am_e0 hi_257_50 ?_
          refine am_e0 hi_257_52 ?_
          refine am_e0 hi_257_53 ?_
          refine am_e1 (v := on) hi_257_54 rfl ?_
          refine am_e32n (as := [.ref 39, .int 34, .int 0, .int 0, .int on]) (la := [some (.ref 39), some (.int 34), some (.int 0), some (.int 0), some (.int on)]) (rest := []) hi_257_55 (am_hd0 (M := 257) (by decide) 55) (Nat.le_of_ble_eq_true rfl) (Nat.le_of_ble_eq_true rfl) (show 5 ≤ am_P0.2.2.1 189 from by decide +kernel) rfl (am_recv_ok hS841.fs) rfl rfl (ct_put (d := (d + 6)) hS841 hR836_  (by show (0 : Int) ≤ (f 32).toInt; omega) (by show (f 32).toInt ≤ (63 : Int); omega) (by show (f 53).toInt ≤ (4096 : Int); omega) (by show (0 : Int) ≤ z828.toInt; omega) (by show z828.toInt ≤ (65534 : Int); omega)) ?_
          rintro v845 S846 (⟨z847, r848, g'849, hv850, hS851, hR855, h852, h853, h854⟩)
          subst hv850
          have h852_ : z847.toInt = z828.toInt + 1 := h852
          have h853_ : r848.toInt = z828.toInt := h853
          have h854_ : ∀ j, j ∉ [60, 69, 70, 71, 72, 73] → g'849 j = g'830 j := h854
          replace hS851 : MS S0 S846 (upd (upd (upd (upd (upd (upd (upd (upd f 4 z796) 5 y797) 8 a816) 9 b817) 15 z0) 24 l818) 31 y819) 68 z847) g'849 := hS851
          have hR855_ : RJ (upd (upd (upd (upd (upd (upd (upd (upd f 4 z796) 5 y797) 8 a816) 9 b817) 15 z0) 24 l818) 31 y819) 68 z847) g'849 gs bc [] 0 (z828.toNatClampNeg :: (z785.toNatClampNeg :: ((f 68).toNatClampNeg :: []))) := hR855
          show am_E _ _ _ _ [some (.ref 39), some (.int on), some (.int tw), some (.int th), some (.int z813), some (.int r839), none, none] [.int r848] _ _
          refine am_e6i hi_257_58 ?_
          refine am_e2 (v := 39) hi_257_59 rfl ?_
          refine am_e0 hi_257_60 ?_
          refine am_e1 (v := z813) hi_257_62 rfl ?_
          refine am_e1 (v := tw) hi_257_64 rfl ?_
          refine am_e1 (v := th) hi_257_65 rfl ?_
          refine am_e32n (as := [.ref 39, .int 43, .int z813, .int tw, .int th]) (la := [some (.ref 39), some (.int 43), some (.int z813), some (.int tw), some (.int th)]) (rest := []) hi_257_66 (am_hd0 (M := 257) (by decide) 66) (Nat.le_of_ble_eq_true rfl) (Nat.le_of_ble_eq_true rfl) (show 5 ≤ am_P0.2.2.1 189 from by decide +kernel) rfl (am_recv_ok hS851.fs) rfl rfl (ct_put (d := (d + 6)) hS851 hR855_  (by show (0 : Int) ≤ (f 32).toInt; omega) (by show (f 32).toInt ≤ (63 : Int); omega) (by show (f 53).toInt ≤ (4096 : Int); omega) (by show (0 : Int) ≤ z847.toInt; omega) (by show z847.toInt ≤ (65534 : Int); omega)) ?_
          rintro v856 S857 (⟨z858, r859, g'860, hv861, hS862, hR866, h863, h864, h865⟩)
          subst hv861
          have h863_ : z858.toInt = z847.toInt + 1 := h863
          have h864_ : r859.toInt = z847.toInt := h864
          have h865_ : ∀ j, j ∉ [60, 69, 70, 71, 72, 73] → g'860 j = g'849 j := h865
          replace hS862 : MS S0 S857 (upd (upd (upd (upd (upd (upd (upd (upd f 4 z796) 5 y797) 8 a816) 9 b817) 15 z0) 24 l818) 31 y819) 68 z858) g'860 := hS862
          have hR866_ : RJ (upd (upd (upd (upd (upd (upd (upd (upd f 4 z796) 5 y797) 8 a816) 9 b817) 15 z0) 24 l818) 31 y819) 68 z858) g'860 gs bc [] 0 (z847.toNatClampNeg :: (z828.toNatClampNeg :: (z785.toNatClampNeg :: ((f 68).toNatClampNeg :: [])))) := hR866
          show am_E _ _ _ _ [some (.ref 39), some (.int on), some (.int tw), some (.int th), some (.int z813), some (.int r839), none, none] [.int r859] _ _
          refine am_e6i hi_257_69 ?_
          refine am_e2 (v := 39) hi_257_70 rfl ?_
          refine am_e0 hi_257_71 ?_
          refine am_e1 (v := z813) hi_257_73 rfl ?_
          refine am_e0 hi_257_75 ?_
          refine am_e0 hi_257_76 ?_
          refine am_e32n (as := [.ref 39, .int 44, .int z813, .int 0, .int 0]) (la := [some (.ref 39), some (.int 44), some (.int z813), some (.int 0), some (.int 0)]) (rest := []) hi_257_77 (am_hd0 (M := 257) (by decide) 77) (Nat.le_of_ble_eq_true rfl) (Nat.le_of_ble_eq_true rfl) (show 5 ≤ am_P0.2.2.1 189 from by decide +kernel) rfl (am_recv_ok hS862.fs) rfl rfl (ct_put (d := (d + 6)) hS862 hR866_  (by show (0 : Int) ≤ (f 32).toInt; omega) (by show (f 32).toInt ≤ (63 : Int); omega) (by show (f 53).toInt ≤ (4096 : Int); omega) (by show (0 : Int) ≤ z858.toInt; omega) (by show z858.toInt ≤ (65534 : Int); omega)) ?_
          rintro v867 S868 (⟨z869, r870, g'871, hv872, hS873, hR877, h874, h875, h876⟩)
          subst hv872
          have h874_ : z869.toInt = z858.toInt + 1 := h874
          have h875_ : r870.toInt = z858.toInt := h875
          have h876_ : ∀ j, j ∉ [60, 69, 70, 71, 72, 73] → g'871 j = g'860 j := h876
          replace hS873 : MS S0 S868 (upd (upd (upd (upd (upd (upd (upd (upd f 4 z796) 5 y797) 8 a816) 9 b817) 15 z0) 24 l818) 31 y819) 68 z869) g'871 := hS873
          have hR877_ : RJ (upd (upd (upd (upd (upd (upd (upd (upd f 4 z796) 5 y797) 8 a816) 9 b817) 15 z0) 24 l818) 31 y819) 68 z869) g'871 gs bc [] 0 (z858.toNatClampNeg :: (z847.toNatClampNeg :: (z828.toNatClampNeg :: (z785.toNatClampNeg :: ((f 68).toNatClampNeg :: []))))) := hR877
          show am_E _ _ _ _ [some (.ref 39), some (.int on), some (.int tw), some (.int th), some (.int z813), some (.int r839), none, none] [.int r870] _ _
          refine am_e3 (ls' := [some (.ref 39), some (.int on), some (.int tw), some (.int th), some (.int z813), some (.int r839), some (.int r870), none]) hi_257_80 (Nat.le_of_ble_eq_true rfl) rfl ?_
          refine am_e2 (v := 39) hi_257_82 rfl ?_
          refine am_e0 hi_257_83 ?_
          refine am_e32n (as := [.ref 39, .int 1]) (la := [some (.ref 39), some (.int 1)]) (rest := []) hi_257_84 (am_hd0 (M := 257) (by decide) 84) (Nat.le_of_ble_eq_true rfl) (Nat.le_of_ble_eq_true rfl) (show 2 ≤ am_P0.2.2.1 177 from by decide +kernel) rfl (am_recv_ok hS873.fs) rfl rfl (ct_beginBlock2 (d := (d + 6)) hS873 hR877_ (by decide)  (by show (0 : Int) ≤ (f 37).toInt; omega) (by show (f 37).toInt ≤ (127 : Int); omega) (by show (0 : Int) ≤ l818.toInt; omega) (by show (0 : Int) ≤ (f 44).toInt; omega) (by show (f 44).toInt ≤ z796.toInt; omega) (by show (0 : Int) ≤ (f 48).toInt; omega)) ?_
          rintro v878 S879 (⟨z880, g'881, hv882, hS883, hR887, h884, h885, h886⟩)
          subst hv882
          have h884_ : z880.toInt = (f 37).toInt + 1 := h884
          have h885_ : ∀ j, j ∉ [38, 39, 40, 41, 42, 43] → g'881 j = g'871 j := h885
          have h886_ : g'881 38 = upd (g'871 38) (f 37).toNatClampNeg l818 := h886
          replace hS883 : MS S0 S879 (upd (upd (upd (upd (upd (upd (upd (upd (upd f 4 z796) 5 y797) 8 a816) 9 b817) 15 z0) 24 l818) 31 y819) 37 z880) 68 z869) g'881 := hS883
          have hR887_ : RJ (upd (upd (upd (upd (upd (upd (upd (upd (upd f 4 z796) 5 y797) 8 a816) 9 b817) 15 z0) 24 l818) 31 y819) 37 z880) 68 z869) g'881 gs ([] :: bc) [] 0 (z858.toNatClampNeg :: (z847.toNatClampNeg :: (z828.toNatClampNeg :: (z785.toNatClampNeg :: ((f 68).toNatClampNeg :: []))))) := hR887
          show am_E _ _ _ _ [some (.ref 39), some (.int on), some (.int tw), some (.int th), some (.int z813), some (.int r839), some (.int r870), none] [] _ _
          refine am_e0 hi_257_87 ?_
          refine am_e3 (ls' := [some (.ref 39), some (.int on), some (.int tw), some (.int th), some (.int z813), some (.int r839), some (.int r870), some (.int 0)]) hi_257_88 (Nat.le_of_ble_eq_true rfl) rfl ?_
          refine fr_each (d := (d + 2)) (f := (upd (upd (upd (upd (upd (upd (upd (upd (upd f 4 z796) 5 y797) 8 a816) 9 b817) 15 z0) 24 l818) 31 y819) 37 z880) 68 z869)) (g := g'881) (w := on) (m := tw) (x3 := th) (c4 := z813) (h5 := r839) (q6 := r870)  (by show (0 : Int) ≤ (f 32).toInt; omega) (by show (f 32).toInt ≤ (63 : Int); omega) (by show (f 53).toInt ≤ (4096 : Int); omega) (by show (0 : Int) ≤ l818.toInt; omega) (by show l818.toInt + tw.toInt ≤ 16383; omega) (by show (0 : Int) ≤ on.toInt; omega) (by show on.toInt + 2 * tw.toInt ≤ 16000; omega) ?_ ((tw.toInt - (0 : Int)).toNat + 1) _ 0 a816 b817 l818 y819 _ hS883 hR887_ (fun _ _ => rfl) (by show (0 : Int) ≤ (0 : Int); omega) (by show (0 : Int) ≤ tw.toInt; omega) (by show l818.toInt = l818.toInt + (0 : Int); omega) (by show tw.toInt - (0 : Int) < _; omega)
          · intro S893 i888 a889 b890 l891 y892 gx896 hS894 hR895 hg897 h898
            replace hS894 : MS S0 S893 (upd (upd (upd (upd (upd (upd (upd (upd (upd f 4 z796) 5 y797) 8 a889) 9 b890) 15 z0) 24 l891) 31 y892) 37 z880) 68 z869) gx896 := hS894
            have h898_ : l891.toInt = l818.toInt + tw.toInt := h898
            have hR895_ : RJ (upd (upd (upd (upd (upd (upd (upd (upd (upd f 4 z796) 5 y797) 8 a889) 9 b890) 15 z0) 24 l891) 31 y892) 37 z880) 68 z869) gx896 gs ([] :: bc) [] 0 (z858.toNatClampNeg :: (z847.toNatClampNeg :: (z828.toNatClampNeg :: (z785.toNatClampNeg :: ((f 68).toNatClampNeg :: []))))) := hR895
            show am_E _ _ _ _ [some (.ref 39), some (.int on), some (.int tw), some (.int th), some (.int z813), some (.int r839), some (.int r870), some (.int i888)] [] _ _
            refine am_e2 (v := 39) hi_257_129 rfl ?_
            refine am_e0 hi_257_130 ?_
            refine am_e1 (v := r870) hi_257_132 rfl ?_
            refine am_e1 (v := r839) hi_257_134 rfl ?_
            refine am_e1 (v := z813) hi_257_136 rfl ?_
            refine am_e32n (as := [.ref 39, .int 15, .int r870, .int r839, .int z813]) (la := [some (.ref 39), some (.int 15), some (.int r870), some (.int r839), some (.int z813)]) (rest := []) hi_257_138 (am_hd0 (M := 257) (by decide) 138) (Nat.le_of_ble_eq_true rfl) (Nat.le_of_ble_eq_true rfl) (show 5 ≤ am_P0.2.2.1 179 from by decide +kernel) rfl (am_recv_ok hS894.fs) rfl rfl (ct_pile (d := (d + 6)) hS894 hR895_ (mj_e_b (by decide) (by omega) (by show r870.toInt < z869.toInt; omega)) (by show (0 : Int) ≤ (f 10).toInt; omega) (by show (f 10).toInt ≤ (65535 : Int); omega)) ?_
            rintro v899 S900 (⟨z901, g'902, hv903, hS904, hR907, h905, h906⟩)
            subst hv903
            have h905_ : z901.toInt = (f 10).toInt + 1 := h905
            have h906_ : ∀ j, j ∉ [11, 12, 13, 14] → g'902 j = gx896 j := h906
            replace hS904 : MS S0 S900 (upd (upd (upd (upd (upd (upd (upd (upd (upd (upd f 4 z796) 5 y797) 8 a889) 9 b890) 10 z901) 15 z0) 24 l891) 31 y892) 37 z880) 68 z869) g'902 := hS904
            have hR907_ : RJ (upd (upd (upd (upd (upd (upd (upd (upd (upd (upd f 4 z796) 5 y797) 8 a889) 9 b890) 10 z901) 15 z0) 24 l891) 31 y892) 37 z880) 68 z869) g'902 (((15 : Int), r870.toInt, r839.toInt, z813.toInt, []) :: gs) ([] :: bc) [] 0 (z858.toNatClampNeg :: (z847.toNatClampNeg :: (z828.toNatClampNeg :: (z785.toNatClampNeg :: ((f 68).toNatClampNeg :: []))))) := hR907
            show am_E _ _ _ _ [some (.ref 39), some (.int on), some (.int tw), some (.int th), some (.int z813), some (.int r839), some (.int r870), some (.int i888)] [] _ _
            refine am_e2 (v := 39) hi_257_141 rfl ?_
            refine am_e32w (as := [.ref 39]) (la := [some (.ref 39)]) (rest := []) hi_257_142 (am_hd0 (M := 257) (by decide) 142) (Nat.le_of_ble_eq_true rfl) (Nat.le_of_ble_eq_true rfl) (show 1 ≤ am_P0.2.2.1 178 from by decide +kernel) rfl (am_recv_ok hS904.fs) rfl rfl ?_
            refine am_e2 (v := 39) hi_178_0 rfl ?_
            refine am_e0 hi_178_1 ?_
            refine am_e0 hi_178_2 ?_
            refine am_e0 hi_178_3 ?_
            refine am_e0 hi_178_4 ?_
            refine am_e32n (as := [.ref 39, .int 1, .int 0, .int 0, .int 0]) (la := [some (.ref 39), some (.int 1), some (.int 0), some (.int 0), some (.int 0)]) (rest := []) hi_178_5 (am_hd0 (M := 178) (by decide) 5) (Nat.le_of_ble_eq_true rfl) (Nat.le_of_ble_eq_true rfl) (show 5 ≤ am_P0.2.2.1 179 from by decide +kernel) rfl (am_recv_ok hS904.fs) rfl rfl (ct_pile (d := (d + 5)) hS904 hR907_ (mj_e_plain (by decide)) (by show (0 : Int) ≤ z901.toInt; omega) (by show z901.toInt ≤ (65535 : Int); omega)) ?_
            rintro v908 S909 (⟨z910, g'911, hv912, hS913, hR916, h914, h915⟩)
            subst hv912
            have h914_ : z910.toInt = z901.toInt + 1 := h914
            have h915_ : ∀ j, j ∉ [11, 12, 13, 14] → g'911 j = g'902 j := h915
            replace hS913 : MS S0 S909 (upd (upd (upd (upd (upd (upd (upd (upd (upd (upd f 4 z796) 5 y797) 8 a889) 9 b890) 10 z910) 15 z0) 24 l891) 31 y892) 37 z880) 68 z869) g'911 := hS913
            have hR916_ : RJ (upd (upd (upd (upd (upd (upd (upd (upd (upd (upd f 4 z796) 5 y797) 8 a889) 9 b890) 10 z910) 15 z0) 24 l891) 31 y892) 37 z880) 68 z869) g'911 (((1 : Int), (0 : Int), (0 : Int), (0 : Int), []) :: (((15 : Int), r870.toInt, r839.toInt, z813.toInt, []) :: gs)) ([] :: bc) [] 0 (z858.toNatClampNeg :: (z847.toNatClampNeg :: (z828.toNatClampNeg :: (z785.toNatClampNeg :: ((f 68).toNatClampNeg :: []))))) := hR916
            show am_E _ _ _ _ [some (.ref 39)] [] _ _
            refine am_e35 hi_178_8 ?_
            show am_E _ _ _ _ [some (.ref 39), some (.int on), some (.int tw), some (.int th), some (.int z813), some (.int r839), some (.int r870), some (.int i888)] [] _ _
            refine am_e35 hi_257_145 ?_
            show am_E _ _ _ _ [some (.ref 39), some (.int 14), some (.int on), some (.int tw), some (.int th)] [] _ _
            refine am_e18 hi_180_270 ?_
            refine am_e35 hi_180_371 ?_
            have q1 : mg_p1 (((1 : Int), (0 : Int), (0 : Int), (0 : Int), []) :: (((15 : Int), r870.toInt, r839.toInt, z813.toInt, []) :: gs)) = 0 + (0 + (mg_p1 gs)) := rfl
            have q2 : mg_p2 (((1 : Int), (0 : Int), (0 : Int), (0 : Int), []) :: (((15 : Int), r870.toInt, r839.toInt, z813.toInt, []) :: gs)) = 0 + (0 + (mg_p2 gs)) := rfl
            have q3 : mg_p3 (((1 : Int), (0 : Int), (0 : Int), (0 : Int), []) :: (((15 : Int), r870.toInt, r839.toInt, z813.toInt, []) :: gs)) = 1 + (1 + (mg_p3 gs)) := rfl
            have q4 : mg_p4 (((1 : Int), (0 : Int), (0 : Int), (0 : Int), []) :: (((15 : Int), r870.toInt, r839.toInt, z813.toInt, []) :: gs)) = 0 + (0 + (mg_p4 gs)) := rfl
            refine ⟨_, _, _, ([] :: bc), rfl, hS913, Or.inl ⟨⟨(RJ.fewer (pj' := []) hR916_ (fun _ h => nomatch h)), ?_, ?_⟩, rfl, ?_⟩⟩
            · exact (⟨⟨(show mg_k 1 from by decide), (show (0 : Int) ≤ z0.toInt from by omega), (show 0 ≤ (f 20).toInt from by omega), (show 1 ≤ z880.toInt from by omega), (show 0 ≤ (f 32).toInt from by omega), (show (f 32).toInt ≤ y797.toInt from by omega), (show y797.toInt ≤ 48 from by omega), (show z880.toInt ≤ 2 * (y797.toInt) + 1 from by omega), trivial⟩, ⟨⟨(show mg_k 15 from by decide), (show (0 : Int) ≤ z0.toInt + 0 from by omega), (show 0 ≤ (f 20).toInt from by omega), (show 1 ≤ z880.toInt + 0 from by omega), (show 0 ≤ (f 32).toInt + 0 from by omega), (show (f 32).toInt + 0 ≤ y797.toInt + 0 from by omega), (show y797.toInt + 0 ≤ 48 from by omega), (show z880.toInt + 0 ≤ 2 * (y797.toInt + 0) + 0 from by omega), (mg_pa13 (l1 := l818) hR (by show g'911 34 = g 34; rw [show g'911 34 = g'902 34 from h915_ 34 (by decide), show g'902 34 = gx896 34 from h906_ 34 (by decide), show gx896 34 = g'881 34 from hg897 34 (by decide), show g'881 34 = g'871 34 from h885_ 34 (by decide), show g'871 34 = g'860 34 from h876_ 34 (by decide), show g'860 34 = g'849 34 from h865_ 34 (by decide), show g'849 34 = g'830 34 from h854_ 34 (by decide), show g'830 34 = g'820 34 from h835_ 34 (by decide), show g'820 34 = g'787 34 from h824_ 34 (by decide), show g'787 34 = g 34 from h792_ 34 (by decide)]) (by show g'911 38 = upd (g 38) (f 37).toNatClampNeg l818; rw [show g'911 38 = g'902 38 from h915_ 38 (by decide), show g'902 38 = gx896 38 from h906_ 38 (by decide), show gx896 38 = g'881 38 from hg897 38 (by decide), h886_, show g'871 38 = g'860 38 from h876_ 38 (by decide), show g'860 38 = g'849 38 from h865_ 38 (by decide), show g'849 38 = g'830 38 from h854_ 38 (by decide), show g'830 38 = g'820 38 from h835_ 38 (by decide), show g'820 38 = g'787 38 from h824_ 38 (by decide), show g'787 38 = g 38 from h792_ 38 (by decide)]) (by show (f 32).toInt + 0 = (f 32).toInt; omega) (by omega) (by show z880.toInt + 0 = (f 37).toInt + 1; omega) (by show z813.toInt = (f 24).toInt - (g 34 (f 32).toNatClampNeg).toInt; omega) (by omega) (by show (f 24).toInt ≤ l818.toInt; omega))⟩, mg_cast (mg_good_ext _ _ _ _ _ _ (fun i _ => by show g'911 34 i = g 34 i; rw [show g'911 34 = g'902 34 from h915_ 34 (by decide), show g'902 34 = gx896 34 from h906_ 34 (by decide), show gx896 34 = g'881 34 from hg897 34 (by decide), show g'881 34 = g'871 34 from h885_ 34 (by decide), show g'871 34 = g'860 34 from h876_ 34 (by decide), show g'860 34 = g'849 34 from h865_ 34 (by decide), show g'849 34 = g'830 34 from h854_ 34 (by decide), show g'830 34 = g'820 34 from h835_ 34 (by decide), show g'820 34 = g'787 34 from h824_ 34 (by decide), show g'787 34 = g 34 from h792_ 34 (by decide)]) (fun i hi => by show g'911 38 i = g 38 i; rw [show g'911 38 = g'902 38 from h915_ 38 (by decide), show g'902 38 = gx896 38 from h906_ 38 (by decide), show gx896 38 = g'881 38 from hg897 38 (by decide), h886_, show g'871 38 = g'860 38 from h876_ 38 (by decide), show g'860 38 = g'849 38 from h865_ 38 (by decide), show g'849 38 = g'830 38 from h854_ 38 (by decide), show g'830 38 = g'820 38 from h835_ 38 (by decide), show g'820 38 = g'787 38 from h824_ 38 (by decide), show g'787 38 = g 38 from h792_ 38 (by decide)]; exact upd_ne (by rw [cl_toNat]; omega)) (fun i _ => by show g'911 23 i = g 23 i; rw [show g'911 23 = g'902 23 from h915_ 23 (by decide), show g'902 23 = gx896 23 from h906_ 23 (by decide), show gx896 23 = g'881 23 from hg897 23 (by decide), show g'881 23 = g'871 23 from h885_ 23 (by decide), show g'871 23 = g'860 23 from h876_ 23 (by decide), show g'860 23 = g'849 23 from h865_ 23 (by decide), show g'849 23 = g'830 23 from h854_ 23 (by decide), show g'830 23 = g'820 23 from h835_ 23 (by decide), show g'820 23 = g'787 23 from h824_ 23 (by decide), show g'787 23 = g 23 from h792_ 23 (by decide)]) hrest) (by show (f 15).toInt + -1 = z0.toInt + 0 + 0; omega) (by show (f 20).toInt = (f 20).toInt; omega) (by show (f 37).toInt + 0 = z880.toInt + 0 + -1; omega) (by show (f 32).toInt + 0 = (f 32).toInt + 0 + 0; omega) (by show (f 5).toInt + 0 = y797.toInt + 0 + -1; omega)⟩⟩ : mg_good (g'911 34) (g'911 38) (g'911 23) (((1 : Int), (0 : Int), (0 : Int), (0 : Int), []) :: (((15 : Int), r870.toInt, r839.toInt, z813.toInt, []) :: gs)) (z0.toInt) ((f 20).toInt) (z880.toInt) ((f 32).toInt) (y797.toInt))
            · exact ⟨(by show 0 ≤ z796.toInt; omega), (by show z796.toInt ≤ (f 0).toInt; omega), (by show (f 0).toInt ≤ 512; omega), (by show 0 ≤ l891.toInt; omega), (by show l891.toInt + (f 20).toInt + mg_p1 (((1 : Int), (0 : Int), (0 : Int), (0 : Int), []) :: (((15 : Int), r870.toInt, r839.toInt, z813.toInt, []) :: gs)) ≤ 4 * z796.toInt; omega), (by show (f 20).toInt ≤ z796.toInt; omega), (by show z0.toInt + mg_p2 (((1 : Int), (0 : Int), (0 : Int), (0 : Int), []) :: (((15 : Int), r870.toInt, r839.toInt, z813.toInt, []) :: gs)) ≤ z796.toInt; omega), (by show mg_p3 (((1 : Int), (0 : Int), (0 : Int), (0 : Int), []) :: (((15 : Int), r870.toInt, r839.toInt, z813.toInt, []) :: gs)) ≤ 20 * z796.toInt + 20; omega), (by show 0 ≤ z869.toInt; omega), (by show z869.toInt + 3 * (f 20).toInt + mg_p4 (((1 : Int), (0 : Int), (0 : Int), (0 : Int), []) :: (((15 : Int), r870.toInt, r839.toInt, z813.toInt, []) :: gs)) ≤ 60 * z796.toInt + 60; omega), (by show 0 ≤ (f 62).toInt; omega), (by show (f 62).toInt + 64 * mj_n (g'911 16) z0.toNatClampNeg 3 ≤ 64 * z796.toInt; rw [show g'911 16 = g'902 16 from h915_ 16 (by decide), show g'902 16 = gx896 16 from h906_ 16 (by decide), show gx896 16 = g'881 16 from hg897 16 (by decide), show g'881 16 = g'871 16 from h885_ 16 (by decide), show g'871 16 = g'860 16 from h876_ 16 (by decide), show g'860 16 = g'849 16 from h865_ 16 (by decide), show g'849 16 = g'830 16 from h854_ 16 (by decide), show g'830 16 = g'820 16 from h835_ 16 (by decide), show g'820 16 = g'787 16 from h824_ 16 (by decide), show g'787 16 = g 16 from h792_ 16 (by decide)]; omega), (by show 0 ≤ (f 44).toInt; omega), (by show (f 44).toInt ≤ z796.toInt; omega), (by show 0 ≤ (f 48).toInt; omega), (by show (f 48).toInt ≤ z796.toInt; omega), (by show 1 ≤ (f 53).toInt; omega), (by show (f 53).toInt ≤ z796.toInt + 1; omega), (by show 0 ≤ (f 19).toInt; omega), (by show (f 19).toInt ≤ 600; omega)⟩
            · show 100 * ((f 0).toInt - z796.toInt) + mg_p3 (((1 : Int), (0 : Int), (0 : Int), (0 : Int), []) :: (((15 : Int), r870.toInt, r839.toInt, z813.toInt, []) :: gs)) < 100 * ((f 0).toInt - (f 4).toInt) + (1 + mg_p3 gs); omega
        · subst hv807
          replace hS808 : MS S0 S795 (upd (upd (upd (upd (upd f 6 a805) 7 b806) 10 0) 15 z0) 68 z785) g'787 := hS808
          have hR917 := rj_clear0 hR793_
          have hR918 : RJ (upd (upd (upd (upd (upd f 6 a805) 7 b806) 10 0) 15 z0) 68 z785) g'787 [] bc [] 0 [] := hR917
          show am_E _ _ _ _ [some (.ref 39), some (.int on), some (.int tw), some (.int th), none, none, none, none] [.int 0] _ _
          refine am_e12f hi_257_15 (by decide) ?_
          refine am_e35 hi_257_18 ?_
          show am_E _ _ _ _ [some (.ref 39), some (.int 14), some (.int on), some (.int tw), some (.int th)] [] _ _
          refine am_e18 hi_180_270 ?_
          refine am_e35 hi_180_371 ?_
          have hRc := rj_clear0 hR918
          refine ⟨_, _, [], _, rfl, hS808, Or.inr ⟨hRc, rfl, (by show 0 ≤ (f 4).toInt; omega), (by show (f 4).toInt ≤ (f 0).toInt; omega), (by show 0 ≤ (f 32).toInt; omega), (by show (f 32).toInt ≤ 63; omega), (by show 1 ≤ (f 53).toInt; omega), (by show (f 53).toInt ≤ 600; omega), (by show 0 ≤ z785.toInt; omega), (by show z785.toInt ≤ 60000; omega), (by show 0 ≤ (f 48).toInt; omega), (by show (f 48).toInt ≤ 8000; omega), (by show 0 ≤ (f 37).toInt; omega), (by show (f 37).toInt ≤ 128; omega), (by show 0 ≤ (f 62).toInt; omega), (by show (f 62).toInt ≤ 65000; omega), (by show 0 ≤ (f 19).toInt; omega), (by show (f 19).toInt ≤ 600; omega)⟩⟩
