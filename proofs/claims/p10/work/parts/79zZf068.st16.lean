/-! STEPS: assignments (printed by wip/p2/st2.py) -/
set_option maxHeartbeats 16000000 in
theorem st_22 {sc : Nat × (Nat → Int32)} {d : Nat} {S0 S : am_S} {f : Nat → Int32} {g : Nat → Nat → Int32} {on : Int32} {tw : Int32} {th : Int32} {gs : List mg_E} {bc : List (List Nat)} (hS : MS S0 S f g) (hR : RJ f g gs bc [] 0 []) (hrest : mg_good (g 34) (g 38) (g 23) gs ((f 15).toInt + -1) (tw.toInt) ((f 37).toInt + 0) ((f 32).toInt + 0) ((f 5).toInt + 0)) (p0 : 0 ≤ (f 4).toInt) (p1 : (f 4).toInt ≤ (f 0).toInt) (p2 : (f 0).toInt ≤ 512) (p3 : 0 ≤ (f 24).toInt) (p4 : (f 24).toInt + (f 20).toInt + mg_p1 gs ≤ 4 * (f 4).toInt) (p5 : (f 20).toInt ≤ (f 4).toInt) (p6 : (f 15).toInt + 0 + mg_p2 gs ≤ (f 4).toInt) (p7 : 1 + mg_p3 gs ≤ 20 * (f 4).toInt + 20) (p8 : 0 ≤ (f 68).toInt) (p9 : (f 68).toInt + 3 * (f 20).toInt + 5 + mg_p4 gs ≤ 60 * (f 4).toInt + 60) (p10 : 0 ≤ (f 62).toInt) (p11 : (f 62).toInt + 64 * mj_n (g 16) (f 15).toNatClampNeg 3 ≤ 64 * (f 4).toInt) (p12 : 0 ≤ (f 44).toInt) (p13 : (f 44).toInt ≤ (f 4).toInt) (p14 : 0 ≤ (f 48).toInt) (p15 : (f 48).toInt ≤ (f 4).toInt) (p16 : 1 ≤ (f 53).toInt) (p17 : (f 53).toInt ≤ (f 4).toInt + 1) (p18 : 0 ≤ (f 19).toInt) (p19 : (f 19).toInt ≤ 600) (p20 : 0 ≤ (f 6).toInt) (p21 : 0 ≤ (f 8).toInt) (p22 : 0 ≤ mg_p1 gs) (p23 : 0 ≤ mg_p2 gs) (p24 : 0 ≤ mg_p4 gs) (p25 : 0 ≤ (f 10).toInt) (p26 : (f 10).toInt ≤ mg_p3 gs) (p27 : 0 ≤ mj_n (g 16) (f 15).toNatClampNeg 3) (p28 : 1 ≤ (f 15).toInt) (p29 : 0 ≤ (f 20).toInt) (p30 : 1 ≤ (f 37).toInt) (p31 : 0 ≤ (f 32).toInt) (p32 : (f 32).toInt ≤ (f 5).toInt) (p33 : (f 5).toInt ≤ 48) (p34 : (f 37).toInt ≤ 2 * (f 5).toInt + 1) (p35 : 0 ≤ on.toInt) (p36 : 0 ≤ tw.toInt) (p37 : (f 20).toInt = tw.toInt + on.toInt) : am_E (am_PP sc) (d + 8) 180 0 [some (.ref 39), some (.int 22), some (.int on), some (.int tw), some (.int th)] [] S (am_N fun v S1 => ∃ (f' : Nat → Int32) (g' : Nat → Nat → Int32) (gs' : List mg_E) (bc' : List (List Nat)), v = none ∧ MS S0 S1 f' g' ∧ (mg_on f (100 * ((f 0).toInt - (f 4).toInt) + (1 + mg_p3 gs)) f' g' gs' bc' ∨ mg_off f f' g' bc')) := by
  have hbs := mg_basic hrest
  refine am_e1 (v := 22) hi_180_0 rfl ?_
  refine am_e0 hi_180_1 ?_
  refine am_e13t hi_180_3 (by decide) ?_
  refine am_e1 (v := 22) hi_180_14 rfl ?_
  refine am_e19 (t := 365) hi_180_15 (by decide) ?_
  refine am_e2 (v := 39) hi_180_365 rfl ?_
  refine am_e1 (v := on) hi_180_366 rfl ?_
  refine am_e1 (v := tw) hi_180_367 rfl ?_
  refine am_e32w (as := [.ref 39, .int on, .int tw]) (la := [some (.ref 39), some (.int on), some (.int tw), none, none, none]) (rest := []) hi_180_368 (am_hd0 (M := 180) (by decide) 368) (Nat.le_of_ble_eq_true rfl) (Nat.le_of_ble_eq_true rfl) (show 3 ≤ am_P0.2.2.1 265 from by decide +kernel) rfl (am_recv_ok hS.fs) rfl rfl ?_
  refine am_e2 (v := 39) hi_265_0 rfl ?_
  refine am_e1 (v := on) hi_265_1 rfl ?_
  refine am_e2 (v := 39) hi_265_2 rfl ?_
  refine mm_20 (v := .int (f 19)) hS hi_265_3 rfl ?_
  refine am_e32w (as := [.ref 39, .int on, .int (f 19)]) (la := [some (.ref 39), some (.int on), some (.int (f 19))]) (rest := []) hi_265_6 (am_hd0 (M := 265) (by decide) 6) (Nat.le_of_ble_eq_true rfl) (Nat.le_of_ble_eq_true rfl) (show 3 ≤ am_P0.2.2.1 258 from by decide +kernel) rfl (am_recv_ok hS.fs) rfl rfl ?_
  refine am_e2 (v := 39) hi_258_0 rfl ?_
  refine am_e32w (as := [.ref 39]) (la := [some (.ref 39)]) (rest := []) hi_258_1 (am_hd0 (M := 258) (by decide) 1) (Nat.le_of_ble_eq_true rfl) (Nat.le_of_ble_eq_true rfl) (show 1 ≤ am_P0.2.2.1 216 from by decide +kernel) rfl (am_recv_ok hS.fs) rfl rfl ?_
  refine am_e2 (v := 39) hi_216_0 rfl ?_
  refine mm_20 (v := .ref 46) hS hi_216_1 rfl ?_
  refine am_e2 (v := 39) hi_216_4 rfl ?_
  refine mm_20 (v := .int (f 15)) hS hi_216_5 rfl ?_
  refine am_e0 hi_216_8 ?_
  obtain ⟨z0, hz0, tz0⟩ := am_subI (x := f 15) (y := 1) (m := (f 15).toInt) (n := (1 : Int)) rfl (by decide) (by omega) (by omega)
  refine am_e10 (z := z0) hi_216_9 hz0 ?_
  refine mm_25 hS ma_16 hi_216_10 (by decide) (by omega) (by omega) ?_
  show am_E _ _ _ _ [some (.ref 39)] [.int (g 16 z0.toNatClampNeg)] _ _
  refine am_e0 hi_216_11 ?_
  by_cases c1 : (g 16 z0.toNatClampNeg).toInt = (1 : Int)
  · refine am_e13t hi_216_12 (am_cT (m := (g 16 z0.toNatClampNeg).toInt) (n := (1 : Int)) rfl (by decide) c1) ?_
    refine am_e0 hi_216_30 ?_
    refine am_e18 hi_216_31 ?_
    refine am_e36 hi_216_35 (by decide) ?_
    show am_E _ _ _ _ [some (.ref 39), some (.int on), some (.int (f 19))] [.int 1] _ _
    refine am_e12f hi_258_4 (by decide) ?_
    refine am_e1 (v := f 19) hi_258_7 rfl ?_
    refine am_e1 (v := on) hi_258_8 rfl ?_
    by_cases c2 : on.toInt < (f 19).toInt
    · refine am_e13t hi_258_9 (am_cT (m := (f 19).toInt) (n := on.toInt) rfl rfl c2) ?_
      refine am_e2 (v := 39) hi_258_31 rfl ?_
      refine am_e32w (as := [.ref 39]) (la := [some (.ref 39)]) (rest := []) hi_258_32 (am_hd0 (M := 258) (by decide) 32) (Nat.le_of_ble_eq_true rfl) (Nat.le_of_ble_eq_true rfl) (show 1 ≤ am_P0.2.2.1 209 from by decide +kernel) rfl (am_recv_ok hS.fs) rfl rfl ?_
      refine am_e2 (v := 39) hi_209_0 rfl ?_
      refine am_e32n (as := [.ref 39]) (la := [some (.ref 39), none, none, none]) (rest := []) hi_209_1 (am_hd0 (M := 209) (by decide) 1) (Nat.le_of_ble_eq_true rfl) (Nat.le_of_ble_eq_true rfl) (show 1 ≤ am_P0.2.2.1 204 from by decide +kernel) rfl (am_recv_ok hS.fs) rfl rfl (ct_load (d := (d + 2)) hS hR  (by show (0 : Int) ≤ (f 32).toInt; omega) (by show (f 32).toInt ≤ (63 : Int); omega) (by show (f 53).toInt ≤ (4096 : Int); omega) (by show (0 : Int) ≤ (f 68).toInt; omega) (by show (f 68).toInt ≤ (65534 : Int); omega) (by show (1 : Int) ≤ (f 15).toInt; omega) (by show (f 15).toInt ≤ (32767 : Int); omega) (by show (0 : Int) ≤ (f 24).toInt; omega) (by show (f 24).toInt ≤ (16384 : Int); omega) (by show (0 : Int) ≤ (f 62).toInt; omega) (by show (f 62).toInt ≤ (65000 : Int); omega)) ?_
      rintro v3 S4 (⟨o5, s6, m7, g'8, hv9, hS10, hR17, h11, h12, h13, h14, h15, h16⟩)
      subst hv9
      have h11_ : (f 62).toInt ≤ o5.toInt := h11
      have h12_ : o5.toInt ≤ (f 62).toInt + 64 := h12
      have h13_ : (f 68).toInt ≤ s6.toInt := h13
      have h14_ : s6.toInt ≤ (f 68).toInt + 1 := h14
      have h15_ : o5.toInt + 64 * mj_n (g'8 16) (f 15).toNatClampNeg 3 ≤ (f 62).toInt + 64 * mj_n (g 16) (f 15).toNatClampNeg 3 := h15
      have h16_ : ∀ j, j ∉ [16, 60, 63, 64, 65, 66, 67, 69, 70, 71, 72, 73] → g'8 j = g j := h16
      have hR17_ : RJ (upd (upd (upd f 62 o5) 68 s6) 75 m7) g'8 gs bc [] 0 [] := hR17
      show am_E _ _ _ _ [some (.ref 39)] [] _ _
      refine am_e2 (v := 39) hi_209_4 rfl ?_
      refine am_e7 hi_209_5 ?_
      refine mm_20 (v := .int (f 15)) hS10 hi_209_6 rfl ?_
      refine am_e0 hi_209_9 ?_
      refine am_e10 (z := z0) hi_209_10 hz0 ?_
      refine mm_21 (v := z0) hS10 hi_209_11 rfl (Nat.le_of_ble_eq_true rfl) ms_15 ?_
      intro S18 hS19
      replace hS19 : MS S0 S18 (upd (upd (upd (upd f 15 z0) 62 o5) 68 s6) 75 m7) g'8 := hS19
      have hp20 : mj_n (g'8 16) (f 15).toNatClampNeg 3 = mj_n (g'8 16) z0.toNatClampNeg 3 + if (g'8 16 z0.toNatClampNeg).toInt = 3 then 1 else 0 := mj_pop (by rw [cl_toNat, cl_toNat]; omega)
      have hp201 : mj_n (g'8 16) z0.toNatClampNeg 3 ≤ mj_n (g'8 16) (f 15).toNatClampNeg 3 := by rw [hp20]; split <;> omega
      have hp202 : (g'8 16 z0.toNatClampNeg).toInt = 3 → mj_n (g'8 16) z0.toNatClampNeg 3 + 1 ≤ mj_n (g'8 16) (f 15).toNatClampNeg 3 := fun q => by rw [hp20, if_pos q]; exact Int.le_refl _
      refine am_e35 hi_209_14 ?_
      show am_E _ _ _ _ [some (.ref 39), some (.int on), some (.int (f 19))] [] _ _
      refine am_e2 (v := 39) hi_258_35 rfl ?_
      refine am_e1 (v := on) hi_258_36 rfl ?_
      refine am_e1 (v := f 19) hi_258_37 rfl ?_
      obtain ⟨z21, hz21, tz21⟩ := am_subI (x := on) (y := f 19) (m := on.toInt) (n := (f 19).toInt) rfl rfl (by omega) (by omega)
      refine am_e10 (z := z21) hi_258_38 hz21 ?_
      refine am_e32n (as := [.ref 39, .int z21]) (la := [some (.ref 39), some (.int z21), none]) (rest := []) hi_258_39 (am_hd0 (M := 258) (by decide) 39) (Nat.le_of_ble_eq_true rfl) (Nat.le_of_ble_eq_true rfl) (show 2 ≤ am_P0.2.2.1 240 from by decide +kernel) rfl (am_recv_ok hS19.fs) rfl rfl (ct_nils (d := (d + 4)) hS19 hR17_  (by show (0 : Int) ≤ (f 32).toInt; omega) (by show (f 32).toInt ≤ (63 : Int); omega) (by show (f 53).toInt ≤ (4096 : Int); omega) (by show (0 : Int) ≤ s6.toInt; omega) (by show s6.toInt ≤ (65534 : Int); omega) (by show s6.toInt + z21.toInt ≤ 65534; omega)) ?_
      rintro v22 S23 (⟨s24, g'25, hv26, hS27, hR31, h28, h29, h30⟩)
      subst hv26
      have h28_ : s6.toInt ≤ s24.toInt := h28
      have h29_ : s24.toInt ≤ s6.toInt + z21.toInt ∨ s24.toInt ≤ s6.toInt := h29
      have h30_ : ∀ j, j ∉ [60, 69, 70, 71, 72, 73] → g'25 j = g'8 j := h30
      replace hS27 : MS S0 S23 (upd (upd (upd (upd f 15 z0) 62 o5) 68 s24) 75 m7) g'25 := hS27
      have hR31_ : RJ (upd (upd (upd (upd f 15 z0) 62 o5) 68 s24) 75 m7) g'25 gs bc [] 0 [] := hR31
      show am_E _ _ _ _ [some (.ref 39), some (.int on), some (.int (f 19))] [] _ _
      refine am_e1 (v := f 19) hi_258_42 rfl ?_
      refine am_e1 (v := on) hi_258_43 rfl ?_
      refine am_e13f hi_258_44 (am_cF (m := (f 19).toInt) (n := on.toInt) rfl rfl (by simp only [am_cI]; omega)) ?_
      refine am_e2 (v := 39) hi_258_47 rfl ?_
      refine am_e0 hi_258_48 ?_
      refine am_e1 (v := f 19) hi_258_50 rfl ?_
      refine am_e1 (v := on) hi_258_51 rfl ?_
      obtain ⟨z32, hz32, tz32⟩ := am_subI (x := f 19) (y := on) (m := (f 19).toInt) (n := on.toInt) rfl rfl (by omega) (by omega)
      refine am_e10 (z := z32) hi_258_52 hz32 ?_
      refine am_e0 hi_258_53 ?_
      refine am_e0 hi_258_54 ?_
      refine am_e32n (as := [.ref 39, .int 26, .int z32, .int 0, .int 0]) (la := [some (.ref 39), some (.int 26), some (.int z32), some (.int 0), some (.int 0)]) (rest := []) hi_258_55 (am_hd0 (M := 258) (by decide) 55) (Nat.le_of_ble_eq_true rfl) (Nat.le_of_ble_eq_true rfl) (show 5 ≤ am_P0.2.2.1 189 from by decide +kernel) rfl (am_recv_ok hS27.fs) rfl rfl (ct_put (d := (d + 5)) hS27 hR31_  (by show (0 : Int) ≤ (f 32).toInt; omega) (by show (f 32).toInt ≤ (63 : Int); omega) (by show (f 53).toInt ≤ (4096 : Int); omega) (by show (0 : Int) ≤ s24.toInt; omega) (by show s24.toInt ≤ (65534 : Int); omega)) ?_
      rintro v33 S34 (⟨z35, r36, g'37, hv38, hS39, hR43, h40, h41, h42⟩)
      subst hv38
      have h40_ : z35.toInt = s24.toInt + 1 := h40
      have h41_ : r36.toInt = s24.toInt := h41
      have h42_ : ∀ j, j ∉ [60, 69, 70, 71, 72, 73] → g'37 j = g'25 j := h42
      replace hS39 : MS S0 S34 (upd (upd (upd (upd f 15 z0) 62 o5) 68 z35) 75 m7) g'37 := hS39
      have hR43_ : RJ (upd (upd (upd (upd f 15 z0) 62 o5) 68 z35) 75 m7) g'37 gs bc [] 0 (s24.toNatClampNeg :: []) := hR43
      show am_E _ _ _ _ [some (.ref 39), some (.int on), some (.int (f 19))] [.int r36] _ _
      refine am_e6i hi_258_58 ?_
      refine am_e35 hi_258_59 ?_
      show am_E _ _ _ _ [some (.ref 39), some (.int on), some (.int tw), none, none, none] [] _ _
      refine am_e0 hi_265_9 ?_
      refine am_e3 (ls' := [some (.ref 39), some (.int on), some (.int tw), some (.int 0), none, none]) hi_265_10 (Nat.le_of_ble_eq_true rfl) rfl ?_
      refine am_e1 (v := on) hi_265_11 rfl ?_
      refine am_e0 hi_265_12 ?_
      obtain ⟨z44, hz44, tz44⟩ := am_subI (x := on) (y := 1) (m := on.toInt) (n := (1 : Int)) rfl (by decide) (by omega) (by omega)
      refine am_e10 (z := z44) hi_265_13 hz44 ?_
      refine am_e3 (ls' := [some (.ref 39), some (.int on), some (.int tw), some (.int 0), some (.int z44), none]) hi_265_14 (Nat.le_of_ble_eq_true rfl) rfl ?_
      refine fr_assign (d := (d + 2)) (f := (upd (upd (upd (upd f 15 z0) 62 o5) 68 z35) 75 m7)) (g := g'37) (m := on) (k := tw)  (by show (0 : Int) ≤ (f 32).toInt; omega) (by show (f 32).toInt ≤ (63 : Int); omega) (by show (f 53).toInt ≤ (4096 : Int); omega) (by show (0 : Int) ≤ z35.toInt; omega) (by show z35.toInt + on.toInt ≤ 65534; omega) (by show (0 : Int) ≤ tw.toInt; omega) (by show (0 : Int) ≤ on.toInt; omega) (by show tw.toInt + on.toInt ≤ 16384; omega) ?_ ((z44.toInt + 1).toNat + 1) _ none 0 z44 z35 _ hS39 hR43_ (fun _ _ => rfl) (by show (0 : Int) ≤ (0 : Int); omega) (by show (0 : Int) + z44.toInt + 1 ≤ on.toInt; omega) (by show (-1 : Int) ≤ z44.toInt; omega) (by show z35.toInt ≤ z35.toInt; omega) (by show z35.toInt + z44.toInt + 1 ≤ z35.toInt + on.toInt; omega) (by show z44.toInt + 1 < _; omega)
      · intro S48 x552 c45 j46 s47 gx51 hS49 hR50 hg53 h54 h55 h56 h57
        replace hS49 : MS S0 S48 (upd (upd (upd (upd f 15 z0) 62 o5) 68 s47) 75 m7) gx51 := hS49
        have h54_ : (0 : Int) ≤ c45.toInt := h54
        have h55_ : c45.toInt ≤ on.toInt := h55
        have h56_ : z35.toInt ≤ s47.toInt := h56
        have h57_ : s47.toInt ≤ z35.toInt + on.toInt := h57
        have hR50_ : RJ (upd (upd (upd (upd f 15 z0) 62 o5) 68 s47) 75 m7) gx51 gs bc [] 0 (s24.toNatClampNeg :: []) := hR50
        show am_E _ _ _ _ [some (.ref 39), some (.int on), some (.int tw), some (.int c45), some (.int j46), x552] [] _ _
        refine am_e1 (v := c45) hi_265_102 rfl ?_
        by_cases c58 : c45.toInt ≤ (0 : Int)
        · refine am_e12t hi_265_103 (am_cT (m := c45.toInt) (n := (0 : Int)) rfl (by decide) c58) ?_
          refine am_e2 (v := 39) hi_265_118 rfl ?_
          refine am_e1 (v := tw) hi_265_119 rfl ?_
          refine mm_21 (v := tw) hS49 hi_265_120 rfl (Nat.le_of_ble_eq_true rfl) ms_20 ?_
          intro S59 hS60
          replace hS60 : MS S0 S59 (upd (upd (upd (upd (upd f 15 z0) 20 tw) 62 o5) 68 s47) 75 m7) gx51 := hS60
          refine am_e35 hi_265_123 ?_
          show am_E _ _ _ _ [some (.ref 39), some (.int 22), some (.int on), some (.int tw), some (.int th)] [] _ _
          refine am_e35 hi_180_371 ?_
          have q1 : mg_p1 gs = mg_p1 gs := rfl
          have q2 : mg_p2 gs = mg_p2 gs := rfl
          have q3 : mg_p3 gs = mg_p3 gs := rfl
          have q4 : mg_p4 gs = mg_p4 gs := rfl
          refine ⟨_, _, _, bc, rfl, hS60, Or.inl ⟨⟨(RJ.fewer (pj' := []) hR50_ (fun _ h => nomatch h)), ?_, ?_⟩, rfl, ?_⟩⟩
          · exact (mg_cast (mg_good_ext _ _ _ _ _ _ (fun i _ => by show gx51 34 i = g 34 i; rw [show gx51 34 = g'37 34 from hg53 34 (by decide), show g'37 34 = g'25 34 from h42_ 34 (by decide), show g'25 34 = g'8 34 from h30_ 34 (by decide), show g'8 34 = g 34 from h16_ 34 (by decide)]) (fun i _ => by show gx51 38 i = g 38 i; rw [show gx51 38 = g'37 38 from hg53 38 (by decide), show g'37 38 = g'25 38 from h42_ 38 (by decide), show g'25 38 = g'8 38 from h30_ 38 (by decide), show g'8 38 = g 38 from h16_ 38 (by decide)]) (fun i _ => by show gx51 23 i = g 23 i; rw [show gx51 23 = g'37 23 from hg53 23 (by decide), show g'37 23 = g'25 23 from h42_ 23 (by decide), show g'25 23 = g'8 23 from h30_ 23 (by decide), show g'8 23 = g 23 from h16_ 23 (by decide)]) hrest) (by show (f 15).toInt + -1 = z0.toInt; omega) (by show tw.toInt = tw.toInt; omega) (by show (f 37).toInt + 0 = (f 37).toInt; omega) (by show (f 32).toInt + 0 = (f 32).toInt; omega) (by show (f 5).toInt + 0 = (f 5).toInt; omega) : mg_good (gx51 34) (gx51 38) (gx51 23) gs (z0.toInt) (tw.toInt) ((f 37).toInt) ((f 32).toInt) ((f 5).toInt))
          · exact ⟨(by show 0 ≤ (f 4).toInt; omega), (by show (f 4).toInt ≤ (f 0).toInt; omega), (by show (f 0).toInt ≤ 512; omega), (by show 0 ≤ (f 24).toInt; omega), (by show (f 24).toInt + tw.toInt + mg_p1 gs ≤ 4 * (f 4).toInt; omega), (by show tw.toInt ≤ (f 4).toInt; omega), (by show z0.toInt + mg_p2 gs ≤ (f 4).toInt; omega), (by show mg_p3 gs ≤ 20 * (f 4).toInt + 20; omega), (by show 0 ≤ s47.toInt; omega), (by show s47.toInt + 3 * tw.toInt + mg_p4 gs ≤ 60 * (f 4).toInt + 60; omega), (by show 0 ≤ o5.toInt; omega), (by show o5.toInt + 64 * mj_n (gx51 16) z0.toNatClampNeg 3 ≤ 64 * (f 4).toInt; rw [show gx51 16 = g'37 16 from hg53 16 (by decide), show g'37 16 = g'25 16 from h42_ 16 (by decide), show g'25 16 = g'8 16 from h30_ 16 (by decide)]; omega), (by show 0 ≤ (f 44).toInt; omega), (by show (f 44).toInt ≤ (f 4).toInt; omega), (by show 0 ≤ (f 48).toInt; omega), (by show (f 48).toInt ≤ (f 4).toInt; omega), (by show 1 ≤ (f 53).toInt; omega), (by show (f 53).toInt ≤ (f 4).toInt + 1; omega), (by show 0 ≤ (f 19).toInt; omega), (by show (f 19).toInt ≤ 600; omega), (by show 0 ≤ (f 6).toInt; omega), (by show 0 ≤ (f 8).toInt; omega)⟩
          · show 100 * ((f 0).toInt - (f 4).toInt) + mg_p3 gs < 100 * ((f 0).toInt - (f 4).toInt) + (1 + mg_p3 gs); omega
        · refine am_e12f hi_265_103 (am_cF (m := c45.toInt) (n := (0 : Int)) rfl (by decide) c58) ?_
          refine am_e2 (v := 39) hi_265_106 rfl ?_
          refine am_e0 hi_265_107 ?_
          refine am_e0 hi_265_109 ?_
          refine am_e1 (v := c45) hi_265_110 rfl ?_
          obtain ⟨z61, hz61, tz61⟩ := am_mulI (x := 2) (y := c45) (m := (2 : Int)) (n := c45.toInt) (by decide) rfl (by omega) (by omega)
          refine am_e10 (z := z61) hi_265_111 hz61 ?_
          refine am_e0 hi_265_112 ?_
          refine am_e0 hi_265_113 ?_
          refine am_e32n (as := [.ref 39, .int 26, .int z61, .int 0, .int 0]) (la := [some (.ref 39), some (.int 26), some (.int z61), some (.int 0), some (.int 0)]) (rest := []) hi_265_114 (am_hd0 (M := 265) (by decide) 114) (Nat.le_of_ble_eq_true rfl) (Nat.le_of_ble_eq_true rfl) (show 5 ≤ am_P0.2.2.1 189 from by decide +kernel) rfl (am_recv_ok hS49.fs) rfl rfl (ct_put (d := (d + 6)) hS49 hR50_  (by show (0 : Int) ≤ (f 32).toInt; omega) (by show (f 32).toInt ≤ (63 : Int); omega) (by show (f 53).toInt ≤ (4096 : Int); omega) (by show (0 : Int) ≤ s47.toInt; omega) (by show s47.toInt ≤ (65534 : Int); omega)) ?_
          rintro v62 S63 (⟨z64, r65, g'66, hv67, hS68, hR72, h69, h70, h71⟩)
          subst hv67
          have h69_ : z64.toInt = s47.toInt + 1 := h69
          have h70_ : r65.toInt = s47.toInt := h70
          have h71_ : ∀ j, j ∉ [60, 69, 70, 71, 72, 73] → g'66 j = gx51 j := h71
          replace hS68 : MS S0 S63 (upd (upd (upd (upd f 15 z0) 62 o5) 68 z64) 75 m7) g'66 := hS68
          have hR72_ : RJ (upd (upd (upd (upd f 15 z0) 62 o5) 68 z64) 75 m7) g'66 gs bc [] 0 (s47.toNatClampNeg :: (s24.toNatClampNeg :: [])) := hR72
          show am_E _ _ _ _ [some (.ref 39), some (.int on), some (.int tw), some (.int c45), some (.int j46), x552] [.int r65] _ _
          refine am_e6i hi_265_117 ?_
          refine am_e2 (v := 39) hi_265_118 rfl ?_
          refine am_e1 (v := tw) hi_265_119 rfl ?_
          refine mm_21 (v := tw) hS68 hi_265_120 rfl (Nat.le_of_ble_eq_true rfl) ms_20 ?_
          intro S73 hS74
          replace hS74 : MS S0 S73 (upd (upd (upd (upd (upd f 15 z0) 20 tw) 62 o5) 68 z64) 75 m7) g'66 := hS74
          refine am_e35 hi_265_123 ?_
          show am_E _ _ _ _ [some (.ref 39), some (.int 22), some (.int on), some (.int tw), some (.int th)] [] _ _
          refine am_e35 hi_180_371 ?_
          have q1 : mg_p1 gs = mg_p1 gs := rfl
          have q2 : mg_p2 gs = mg_p2 gs := rfl
          have q3 : mg_p3 gs = mg_p3 gs := rfl
          have q4 : mg_p4 gs = mg_p4 gs := rfl
          refine ⟨_, _, _, bc, rfl, hS74, Or.inl ⟨⟨(RJ.fewer (pj' := []) hR72_ (fun _ h => nomatch h)), ?_, ?_⟩, rfl, ?_⟩⟩
          · exact (mg_cast (mg_good_ext _ _ _ _ _ _ (fun i _ => by show g'66 34 i = g 34 i; rw [show g'66 34 = gx51 34 from h71_ 34 (by decide), show gx51 34 = g'37 34 from hg53 34 (by decide), show g'37 34 = g'25 34 from h42_ 34 (by decide), show g'25 34 = g'8 34 from h30_ 34 (by decide), show g'8 34 = g 34 from h16_ 34 (by decide)]) (fun i _ => by show g'66 38 i = g 38 i; rw [show g'66 38 = gx51 38 from h71_ 38 (by decide), show gx51 38 = g'37 38 from hg53 38 (by decide), show g'37 38 = g'25 38 from h42_ 38 (by decide), show g'25 38 = g'8 38 from h30_ 38 (by decide), show g'8 38 = g 38 from h16_ 38 (by decide)]) (fun i _ => by show g'66 23 i = g 23 i; rw [show g'66 23 = gx51 23 from h71_ 23 (by decide), show gx51 23 = g'37 23 from hg53 23 (by decide), show g'37 23 = g'25 23 from h42_ 23 (by decide), show g'25 23 = g'8 23 from h30_ 23 (by decide), show g'8 23 = g 23 from h16_ 23 (by decide)]) hrest) (by show (f 15).toInt + -1 = z0.toInt; omega) (by show tw.toInt = tw.toInt; omega) (by show (f 37).toInt + 0 = (f 37).toInt; omega) (by show (f 32).toInt + 0 = (f 32).toInt; omega) (by show (f 5).toInt + 0 = (f 5).toInt; omega) : mg_good (g'66 34) (g'66 38) (g'66 23) gs (z0.toInt) (tw.toInt) ((f 37).toInt) ((f 32).toInt) ((f 5).toInt))
          · exact ⟨(by show 0 ≤ (f 4).toInt; omega), (by show (f 4).toInt ≤ (f 0).toInt; omega), (by show (f 0).toInt ≤ 512; omega), (by show 0 ≤ (f 24).toInt; omega), (by show (f 24).toInt + tw.toInt + mg_p1 gs ≤ 4 * (f 4).toInt; omega), (by show tw.toInt ≤ (f 4).toInt; omega), (by show z0.toInt + mg_p2 gs ≤ (f 4).toInt; omega), (by show mg_p3 gs ≤ 20 * (f 4).toInt + 20; omega), (by show 0 ≤ z64.toInt; omega), (by show z64.toInt + 3 * tw.toInt + mg_p4 gs ≤ 60 * (f 4).toInt + 60; omega), (by show 0 ≤ o5.toInt; omega), (by show o5.toInt + 64 * mj_n (g'66 16) z0.toNatClampNeg 3 ≤ 64 * (f 4).toInt; rw [show g'66 16 = gx51 16 from h71_ 16 (by decide), show gx51 16 = g'37 16 from hg53 16 (by decide), show g'37 16 = g'25 16 from h42_ 16 (by decide), show g'25 16 = g'8 16 from h30_ 16 (by decide)]; omega), (by show 0 ≤ (f 44).toInt; omega), (by show (f 44).toInt ≤ (f 4).toInt; omega), (by show 0 ≤ (f 48).toInt; omega), (by show (f 48).toInt ≤ (f 4).toInt; omega), (by show 1 ≤ (f 53).toInt; omega), (by show (f 53).toInt ≤ (f 4).toInt + 1; omega), (by show 0 ≤ (f 19).toInt; omega), (by show (f 19).toInt ≤ 600; omega), (by show 0 ≤ (f 6).toInt; omega), (by show 0 ≤ (f 8).toInt; omega)⟩
          · show 100 * ((f 0).toInt - (f 4).toInt) + mg_p3 gs < 100 * ((f 0).toInt - (f 4).toInt) + (1 + mg_p3 gs); omega
    · refine am_e13f hi_258_9 (am_cF (m := (f 19).toInt) (n := on.toInt) rfl rfl c2) ?_
      refine am_e2 (v := 39) hi_258_12 rfl ?_
      refine am_e32w (as := [.ref 39]) (la := [some (.ref 39), none]) (rest := []) hi_258_13 (am_hd0 (M := 258) (by decide) 13) (Nat.le_of_ble_eq_true rfl) (Nat.le_of_ble_eq_true rfl) (show 1 ≤ am_P0.2.2.1 217 from by decide +kernel) rfl (am_recv_ok hS.fs) rfl rfl ?_
      refine am_e2 (v := 39) hi_217_0 rfl ?_
      refine mm_20 (v := .ref 47) hS hi_217_1 rfl ?_
      refine am_e2 (v := 39) hi_217_4 rfl ?_
      refine mm_20 (v := .int (f 15)) hS hi_217_5 rfl ?_
      refine am_e0 hi_217_8 ?_
      refine am_e10 (z := z0) hi_217_9 hz0 ?_
      refine mm_25 hS ma_17 hi_217_10 (by decide) (by omega) (by omega) ?_
      show am_E _ _ _ _ [some (.ref 39), none] [.int (g 17 z0.toNatClampNeg)] _ _
      have r75 : (g 16 z0.toNatClampNeg).toInt = 1 ∨ (g 16 z0.toNatClampNeg).toInt = 2 → 0 ≤ (g 17 z0.toNatClampNeg).toInt ∧ (g 17 z0.toNatClampNeg).toInt < 65536 := RJ.vc hR z0.toNatClampNeg
      refine am_e3 (ls' := [some (.ref 39), some (.int (g 17 z0.toNatClampNeg))]) hi_217_11 (Nat.le_of_ble_eq_true rfl) rfl ?_
      refine am_e2 (v := 39) hi_217_12 rfl ?_
      refine mm_20 (v := .ref 91) hS hi_217_13 rfl ?_
      refine am_e1 (v := g 17 z0.toNatClampNeg) hi_217_16 rfl ?_
      refine am_e2 (v := 39) hi_217_17 rfl ?_
      refine mm_20 (v := .ref 46) hS hi_217_18 rfl ?_
      refine am_e2 (v := 39) hi_217_21 rfl ?_
      refine mm_20 (v := .int (f 15)) hS hi_217_22 rfl ?_
      refine am_e0 hi_217_25 ?_
      refine am_e10 (z := z0) hi_217_26 hz0 ?_
      refine mm_25 hS ma_16 hi_217_27 (by decide) (by omega) (by omega) ?_
      show am_E _ _ _ _ [some (.ref 39), some (.int (g 17 z0.toNatClampNeg))] [.int (g 16 z0.toNatClampNeg), .int (g 17 z0.toNatClampNeg), .ref 91] _ _
      refine am_e0 hi_217_28 ?_
      refine am_e13f hi_217_29 (am_cF (m := (g 16 z0.toNatClampNeg).toInt) (n := (1 : Int)) rfl (by decide) (by simp only [am_cI]; omega)) ?_
      refine am_e2 (v := 39) hi_217_32 rfl ?_
      refine mm_20 (v := .ref 91) hS hi_217_33 rfl ?_
      refine am_e1 (v := g 17 z0.toNatClampNeg) hi_217_36 rfl ?_
      refine mm_25 hS ma_72 hi_217_37 (by decide) (by omega) (by omega) ?_
      show am_E _ _ _ _ [some (.ref 39), some (.int (g 17 z0.toNatClampNeg))] [.int (g 72 (g 17 z0.toNatClampNeg).toNatClampNeg), .int (g 17 z0.toNatClampNeg), .ref 91] _ _
      refine am_e0 hi_217_38 ?_
      obtain ⟨z76, hz76⟩ : ∃ q__, am_bin 3 (g 72 (g 17 z0.toNatClampNeg).toNatClampNeg) 1 = q__ := ⟨_, rfl⟩
      refine am_e10 (z := z76) hi_217_39 hz76 ?_
      refine am_e0 hi_217_40 ?_
      obtain ⟨z77, hz77⟩ : ∃ q__, am_bin 4 z76 4 = q__ := ⟨_, rfl⟩
      refine am_e10 (z := z77) hi_217_41 hz77 ?_
      refine am_e18 hi_217_42 ?_
      refine mm_26 hS ma_72 hi_217_46 (by decide) (by omega) (by omega) (fun h => nomatch h) ?_
      intro S78 hS79
      refine am_e2 (v := 39) hi_217_47 rfl ?_
      refine am_e7 hi_217_48 ?_
      refine mm_20 (v := .int (f 15)) hS79 hi_217_49 rfl ?_
      refine am_e0 hi_217_52 ?_
      refine am_e10 (z := z0) hi_217_53 hz0 ?_
      refine mm_21 (v := z0) hS79 hi_217_54 rfl (Nat.le_of_ble_eq_true rfl) ms_15 ?_
      intro S80 hS81
      have hp82 : mj_n (g 16) (f 15).toNatClampNeg 3 = mj_n (g 16) z0.toNatClampNeg 3 + if (g 16 z0.toNatClampNeg).toInt = 3 then 1 else 0 := mj_pop (by rw [cl_toNat, cl_toNat]; omega)
      have hp821 : mj_n (g 16) z0.toNatClampNeg 3 ≤ mj_n (g 16) (f 15).toNatClampNeg 3 := by rw [hp82]; split <;> omega
      have hp822 : (g 16 z0.toNatClampNeg).toInt = 3 → mj_n (g 16) z0.toNatClampNeg 3 + 1 ≤ mj_n (g 16) (f 15).toNatClampNeg 3 := fun q => by rw [hp82, if_pos q]; exact Int.le_refl _
      refine am_e35 hi_217_57 ?_
      show am_E _ _ _ _ [some (.ref 39), some (.int on), some (.int (f 19))] [] _ _
      refine am_e2 (v := 39) hi_258_16 rfl ?_
      refine am_e0 hi_258_17 ?_
      refine am_e1 (v := on) hi_258_19 rfl ?_
      refine am_e1 (v := f 19) hi_258_20 rfl ?_
      obtain ⟨z83, hz83, tz83⟩ := am_subI (x := on) (y := f 19) (m := on.toInt) (n := (f 19).toInt) rfl rfl (by omega) (by omega)
      refine am_e10 (z := z83) hi_258_21 hz83 ?_
      refine am_e0 hi_258_22 ?_
      obtain ⟨z84, hz84, tz84⟩ := am_addI (x := z83) (y := 1) (m := z83.toInt) (n := (1 : Int)) rfl (by decide) (by omega) (by omega)
      refine am_e10 (z := z84) hi_258_23 hz84 ?_
      refine am_e0 hi_258_24 ?_
      refine am_e0 hi_258_25 ?_
      refine am_e32n (as := [.ref 39, .int 25, .int z84, .int 0, .int 0]) (la := [some (.ref 39), some (.int 25), some (.int z84), some (.int 0), some (.int 0)]) (rest := []) hi_258_26 (am_hd0 (M := 258) (by decide) 26) (Nat.le_of_ble_eq_true rfl) (Nat.le_of_ble_eq_true rfl) (show 5 ≤ am_P0.2.2.1 189 from by decide +kernel) rfl (am_recv_ok hS81.fs) rfl rfl (ct_put (d := (d + 5)) hS81 hR  (by show (0 : Int) ≤ (f 32).toInt; omega) (by show (f 32).toInt ≤ (63 : Int); omega) (by show (f 53).toInt ≤ (4096 : Int); omega) (by show (0 : Int) ≤ (f 68).toInt; omega) (by show (f 68).toInt ≤ (65534 : Int); omega)) ?_
      rintro v85 S86 (⟨z87, r88, g'89, hv90, hS91, hR95, h92, h93, h94⟩)
      subst hv90
      have h92_ : z87.toInt = (f 68).toInt + 1 := h92
      have h93_ : r88.toInt = (f 68).toInt := h93
      have h94_ : ∀ j, j ∉ [60, 69, 70, 71, 72, 73] → g'89 j = (upg g 72 (g 17 z0.toNatClampNeg).toNatClampNeg z77) j := h94
      have hR95_ : RJ (upd (upd f 15 z0) 68 z87) g'89 gs bc [] 0 ((f 68).toNatClampNeg :: []) := hR95
      show am_E _ _ _ _ [some (.ref 39), some (.int on), some (.int (f 19))] [.int r88] _ _
      refine am_e6i hi_258_29 ?_
      refine am_e35 hi_258_30 ?_
      show am_E _ _ _ _ [some (.ref 39), some (.int on), some (.int tw), none, none, none] [] _ _
      refine am_e0 hi_265_9 ?_
      refine am_e3 (ls' := [some (.ref 39), some (.int on), some (.int tw), some (.int 0), none, none]) hi_265_10 (Nat.le_of_ble_eq_true rfl) rfl ?_
      refine am_e1 (v := on) hi_265_11 rfl ?_
      refine am_e0 hi_265_12 ?_
      obtain ⟨z96, hz96, tz96⟩ := am_subI (x := on) (y := 1) (m := on.toInt) (n := (1 : Int)) rfl (by decide) (by omega) (by omega)
      refine am_e10 (z := z96) hi_265_13 hz96 ?_
      refine am_e3 (ls' := [some (.ref 39), some (.int on), some (.int tw), some (.int 0), some (.int z96), none]) hi_265_14 (Nat.le_of_ble_eq_true rfl) rfl ?_
      refine fr_assign (d := (d + 2)) (f := (upd (upd f 15 z0) 68 z87)) (g := g'89) (m := on) (k := tw)  (by show (0 : Int) ≤ (f 32).toInt; omega) (by show (f 32).toInt ≤ (63 : Int); omega) (by show (f 53).toInt ≤ (4096 : Int); omega) (by show (0 : Int) ≤ z87.toInt; omega) (by show z87.toInt + on.toInt ≤ 65534; omega) (by show (0 : Int) ≤ tw.toInt; omega) (by show (0 : Int) ≤ on.toInt; omega) (by show tw.toInt + on.toInt ≤ 16384; omega) ?_ ((z96.toInt + 1).toNat + 1) _ none 0 z96 z87 _ hS91 hR95_ (fun _ _ => rfl) (by show (0 : Int) ≤ (0 : Int); omega) (by show (0 : Int) + z96.toInt + 1 ≤ on.toInt; omega) (by show (-1 : Int) ≤ z96.toInt; omega) (by show z87.toInt ≤ z87.toInt; omega) (by show z87.toInt + z96.toInt + 1 ≤ z87.toInt + on.toInt; omega) (by show z96.toInt + 1 < _; omega)
      · intro S100 x5104 c97 j98 s99 gx103 hS101 hR102 hg105 h106 h107 h108 h109
        replace hS101 : MS S0 S100 (upd (upd f 15 z0) 68 s99) gx103 := hS101
        have h106_ : (0 : Int) ≤ c97.toInt := h106
        have h107_ : c97.toInt ≤ on.toInt := h107
        have h108_ : z87.toInt ≤ s99.toInt := h108
        have h109_ : s99.toInt ≤ z87.toInt + on.toInt := h109
        have hR102_ : RJ (upd (upd f 15 z0) 68 s99) gx103 gs bc [] 0 ((f 68).toNatClampNeg :: []) := hR102
        show am_E _ _ _ _ [some (.ref 39), some (.int on), some (.int tw), some (.int c97), some (.int j98), x5104] [] _ _
        refine am_e1 (v := c97) hi_265_102 rfl ?_
        by_cases c110 : c97.toInt ≤ (0 : Int)
        · refine am_e12t hi_265_103 (am_cT (m := c97.toInt) (n := (0 : Int)) rfl (by decide) c110) ?_
          refine am_e2 (v := 39) hi_265_118 rfl ?_
          refine am_e1 (v := tw) hi_265_119 rfl ?_
          refine mm_21 (v := tw) hS101 hi_265_120 rfl (Nat.le_of_ble_eq_true rfl) ms_20 ?_
          intro S111 hS112
          replace hS112 : MS S0 S111 (upd (upd (upd f 15 z0) 20 tw) 68 s99) gx103 := hS112
          refine am_e35 hi_265_123 ?_
          show am_E _ _ _ _ [some (.ref 39), some (.int 22), some (.int on), some (.int tw), some (.int th)] [] _ _
          refine am_e35 hi_180_371 ?_
          have q1 : mg_p1 gs = mg_p1 gs := rfl
          have q2 : mg_p2 gs = mg_p2 gs := rfl
          have q3 : mg_p3 gs = mg_p3 gs := rfl
          have q4 : mg_p4 gs = mg_p4 gs := rfl
          refine ⟨_, _, _, bc, rfl, hS112, Or.inl ⟨⟨(RJ.fewer (pj' := []) hR102_ (fun _ h => nomatch h)), ?_, ?_⟩, rfl, ?_⟩⟩
          · exact (mg_cast (mg_good_ext _ _ _ _ _ _ (fun i _ => by show gx103 34 i = g 34 i; rw [show gx103 34 = g'89 34 from hg105 34 (by decide), show g'89 34 = g 34 from h94_ 34 (by decide)]) (fun i _ => by show gx103 38 i = g 38 i; rw [show gx103 38 = g'89 38 from hg105 38 (by decide), show g'89 38 = g 38 from h94_ 38 (by decide)]) (fun i _ => by show gx103 23 i = g 23 i; rw [show gx103 23 = g'89 23 from hg105 23 (by decide), show g'89 23 = g 23 from h94_ 23 (by decide)]) hrest) (by show (f 15).toInt + -1 = z0.toInt; omega) (by show tw.toInt = tw.toInt; omega) (by show (f 37).toInt + 0 = (f 37).toInt; omega) (by show (f 32).toInt + 0 = (f 32).toInt; omega) (by show (f 5).toInt + 0 = (f 5).toInt; omega) : mg_good (gx103 34) (gx103 38) (gx103 23) gs (z0.toInt) (tw.toInt) ((f 37).toInt) ((f 32).toInt) ((f 5).toInt))
          · exact ⟨(by show 0 ≤ (f 4).toInt; omega), (by show (f 4).toInt ≤ (f 0).toInt; omega), (by show (f 0).toInt ≤ 512; omega), (by show 0 ≤ (f 24).toInt; omega), (by show (f 24).toInt + tw.toInt + mg_p1 gs ≤ 4 * (f 4).toInt; omega), (by show tw.toInt ≤ (f 4).toInt; omega), (by show z0.toInt + mg_p2 gs ≤ (f 4).toInt; omega), (by show mg_p3 gs ≤ 20 * (f 4).toInt + 20; omega), (by show 0 ≤ s99.toInt; omega), (by show s99.toInt + 3 * tw.toInt + mg_p4 gs ≤ 60 * (f 4).toInt + 60; omega), (by show 0 ≤ (f 62).toInt; omega), (by show (f 62).toInt + 64 * mj_n (gx103 16) z0.toNatClampNeg 3 ≤ 64 * (f 4).toInt; rw [show gx103 16 = g'89 16 from hg105 16 (by decide), show g'89 16 = g 16 from h94_ 16 (by decide)]; omega), (by show 0 ≤ (f 44).toInt; omega), (by show (f 44).toInt ≤ (f 4).toInt; omega), (by show 0 ≤ (f 48).toInt; omega), (by show (f 48).toInt ≤ (f 4).toInt; omega), (by show 1 ≤ (f 53).toInt; omega), (by show (f 53).toInt ≤ (f 4).toInt + 1; omega), (by show 0 ≤ (f 19).toInt; omega), (by show (f 19).toInt ≤ 600; omega), (by show 0 ≤ (f 6).toInt; omega), (by show 0 ≤ (f 8).toInt; omega)⟩
          · show 100 * ((f 0).toInt - (f 4).toInt) + mg_p3 gs < 100 * ((f 0).toInt - (f 4).toInt) + (1 + mg_p3 gs); omega
        · refine am_e12f hi_265_103 (am_cF (m := c97.toInt) (n := (0 : Int)) rfl (by decide) c110) ?_
          refine am_e2 (v := 39) hi_265_106 rfl ?_
          refine am_e0 hi_265_107 ?_
          refine am_e0 hi_265_109 ?_
          refine am_e1 (v := c97) hi_265_110 rfl ?_
          obtain ⟨z113, hz113, tz113⟩ := am_mulI (x := 2) (y := c97) (m := (2 : Int)) (n := c97.toInt) (by decide) rfl (by omega) (by omega)
          refine am_e10 (z := z113) hi_265_111 hz113 ?_
          refine am_e0 hi_265_112 ?_
          refine am_e0 hi_265_113 ?_
          refine am_e32n (as := [.ref 39, .int 26, .int z113, .int 0, .int 0]) (la := [some (.ref 39), some (.int 26), some (.int z113), some (.int 0), some (.int 0)]) (rest := []) hi_265_114 (am_hd0 (M := 265) (by decide) 114) (Nat.le_of_ble_eq_true rfl) (Nat.le_of_ble_eq_true rfl) (show 5 ≤ am_P0.2.2.1 189 from by decide +kernel) rfl (am_recv_ok hS101.fs) rfl rfl (ct_put (d := (d + 6)) hS101 hR102_  (by show (0 : Int) ≤ (f 32).toInt; omega) (by show (f 32).toInt ≤ (63 : Int); omega) (by show (f 53).toInt ≤ (4096 : Int); omega) (by show (0 : Int) ≤ s99.toInt; omega) (by show s99.toInt ≤ (65534 : Int); omega)) ?_
          rintro v114 S115 (⟨z116, r117, g'118, hv119, hS120, hR124, h121, h122, h123⟩)
          subst hv119
          have h121_ : z116.toInt = s99.toInt + 1 := h121
          have h122_ : r117.toInt = s99.toInt := h122
          have h123_ : ∀ j, j ∉ [60, 69, 70, 71, 72, 73] → g'118 j = gx103 j := h123
          replace hS120 : MS S0 S115 (upd (upd f 15 z0) 68 z116) g'118 := hS120
          have hR124_ : RJ (upd (upd f 15 z0) 68 z116) g'118 gs bc [] 0 (s99.toNatClampNeg :: ((f 68).toNatClampNeg :: [])) := hR124
          show am_E _ _ _ _ [some (.ref 39), some (.int on), some (.int tw), some (.int c97), some (.int j98), x5104] [.int r117] _ _
          refine am_e6i hi_265_117 ?_
          refine am_e2 (v := 39) hi_265_118 rfl ?_
          refine am_e1 (v := tw) hi_265_119 rfl ?_
          refine mm_21 (v := tw) hS120 hi_265_120 rfl (Nat.le_of_ble_eq_true rfl) ms_20 ?_
          intro S125 hS126
          replace hS126 : MS S0 S125 (upd (upd (upd f 15 z0) 20 tw) 68 z116) g'118 := hS126
          refine am_e35 hi_265_123 ?_
          show am_E _ _ _ _ [some (.ref 39), some (.int 22), some (.int on), some (.int tw), some (.int th)] [] _ _
          refine am_e35 hi_180_371 ?_
          have q1 : mg_p1 gs = mg_p1 gs := rfl
          have q2 : mg_p2 gs = mg_p2 gs := rfl
          have q3 : mg_p3 gs = mg_p3 gs := rfl
          have q4 : mg_p4 gs = mg_p4 gs := rfl
          refine ⟨_, _, _, bc, rfl, hS126, Or.inl ⟨⟨(RJ.fewer (pj' := []) hR124_ (fun _ h => nomatch h)), ?_, ?_⟩, rfl, ?_⟩⟩
          · exact (mg_cast (mg_good_ext _ _ _ _ _ _ (fun i _ => by show g'118 34 i = g 34 i; rw [show g'118 34 = gx103 34 from h123_ 34 (by decide), show gx103 34 = g'89 34 from hg105 34 (by decide), show g'89 34 = g 34 from h94_ 34 (by decide)]) (fun i _ => by show g'118 38 i = g 38 i; rw [show g'118 38 = gx103 38 from h123_ 38 (by decide), show gx103 38 = g'89 38 from hg105 38 (by decide), show g'89 38 = g 38 from h94_ 38 (by decide)]) (fun i _ => by show g'118 23 i = g 23 i; rw [show g'118 23 = gx103 23 from h123_ 23 (by decide), show gx103 23 = g'89 23 from hg105 23 (by decide), show g'89 23 = g 23 from h94_ 23 (by decide)]) hrest) (by show (f 15).toInt + -1 = z0.toInt; omega) (by show tw.toInt = tw.toInt; omega) (by show (f 37).toInt + 0 = (f 37).toInt; omega) (by show (f 32).toInt + 0 = (f 32).toInt; omega) (by show (f 5).toInt + 0 = (f 5).toInt; omega) : mg_good (g'118 34) (g'118 38) (g'118 23) gs (z0.toInt) (tw.toInt) ((f 37).toInt) ((f 32).toInt) ((f 5).toInt))
          · exact ⟨(by show 0 ≤ (f 4).toInt; omega), (by show (f 4).toInt ≤ (f 0).toInt; omega), (by show (f 0).toInt ≤ 512; omega), (by show 0 ≤ (f 24).toInt; omega), (by show (f 24).toInt + tw.toInt + mg_p1 gs ≤ 4 * (f 4).toInt; omega), (by show tw.toInt ≤ (f 4).toInt; omega), (by show z0.toInt + mg_p2 gs ≤ (f 4).toInt; omega), (by show mg_p3 gs ≤ 20 * (f 4).toInt + 20; omega), (by show 0 ≤ z116.toInt; omega), (by show z116.toInt + 3 * tw.toInt + mg_p4 gs ≤ 60 * (f 4).toInt + 60; omega), (by show 0 ≤ (f 62).toInt; omega), (by show (f 62).toInt + 64 * mj_n (g'118 16) z0.toNatClampNeg 3 ≤ 64 * (f 4).toInt; rw [show g'118 16 = gx103 16 from h123_ 16 (by decide), show gx103 16 = g'89 16 from hg105 16 (by decide), show g'89 16 = g 16 from h94_ 16 (by decide)]; omega), (by show 0 ≤ (f 44).toInt; omega), (by show (f 44).toInt ≤ (f 4).toInt; omega), (by show 0 ≤ (f 48).toInt; omega), (by show (f 48).toInt ≤ (f 4).toInt; omega), (by show 1 ≤ (f 53).toInt; omega), (by show (f 53).toInt ≤ (f 4).toInt + 1; omega), (by show 0 ≤ (f 19).toInt; omega), (by show (f 19).toInt ≤ 600; omega), (by show 0 ≤ (f 6).toInt; omega), (by show 0 ≤ (f 8).toInt; omega)⟩
          · show 100 * ((f 0).toInt - (f 4).toInt) + mg_p3 gs < 100 * ((f 0).toInt - (f 4).toInt) + (1 + mg_p3 gs); omega
  · refine am_e13f hi_216_12 (am_cF (m := (g 16 z0.toNatClampNeg).toInt) (n := (1 : Int)) rfl (by decide) c1) ?_
    refine am_e2 (v := 39) hi_216_15 rfl ?_
    refine mm_20 (v := .ref 46) hS hi_216_16 rfl ?_
    refine am_e2 (v := 39) hi_216_19 rfl ?_
    refine mm_20 (v := .int (f 15)) hS hi_216_20 rfl ?_
    refine am_e0 hi_216_23 ?_
    refine am_e10 (z := z0) hi_216_24 hz0 ?_
    refine mm_25 hS ma_16 hi_216_25 (by decide) (by omega) (by omega) ?_
    show am_E _ _ _ _ [some (.ref 39)] [.int (g 16 z0.toNatClampNeg)] _ _
    refine am_e0 hi_216_26 ?_
    by_cases c127 : ¬ (g 16 z0.toNatClampNeg).toInt = (2 : Int)
    · refine am_e13t hi_216_27 (am_cT (m := (g 16 z0.toNatClampNeg).toInt) (n := (2 : Int)) rfl (by decide) c127) ?_
      refine am_e0 hi_216_34 ?_
      refine am_e36 hi_216_35 (by decide) ?_
      show am_E _ _ _ _ [some (.ref 39), some (.int on), some (.int (f 19))] [.int 0] _ _
      refine am_e12t hi_258_4 (by decide) ?_
      refine am_e2 (v := 39) hi_258_31 rfl ?_
      refine am_e32w (as := [.ref 39]) (la := [some (.ref 39)]) (rest := []) hi_258_32 (am_hd0 (M := 258) (by decide) 32) (Nat.le_of_ble_eq_true rfl) (Nat.le_of_ble_eq_true rfl) (show 1 ≤ am_P0.2.2.1 209 from by decide +kernel) rfl (am_recv_ok hS.fs) rfl rfl ?_
      refine am_e2 (v := 39) hi_209_0 rfl ?_
      refine am_e32n (as := [.ref 39]) (la := [some (.ref 39), none, none, none]) (rest := []) hi_209_1 (am_hd0 (M := 209) (by decide) 1) (Nat.le_of_ble_eq_true rfl) (Nat.le_of_ble_eq_true rfl) (show 1 ≤ am_P0.2.2.1 204 from by decide +kernel) rfl (am_recv_ok hS.fs) rfl rfl (ct_load (d := (d + 2)) hS hR  (by show (0 : Int) ≤ (f 32).toInt; omega) (by show (f 32).toInt ≤ (63 : Int); omega) (by show (f 53).toInt ≤ (4096 : Int); omega) (by show (0 : Int) ≤ (f 68).toInt; omega) (by show (f 68).toInt ≤ (65534 : Int); omega) (by show (1 : Int) ≤ (f 15).toInt; omega) (by show (f 15).toInt ≤ (32767 : Int); omega) (by show (0 : Int) ≤ (f 24).toInt; omega) (by show (f 24).toInt ≤ (16384 : Int); omega) (by show (0 : Int) ≤ (f 62).toInt; omega) (by show (f 62).toInt ≤ (65000 : Int); omega)) ?_
      rintro v128 S129 (⟨o130, s131, m132, g'133, hv134, hS135, hR142, h136, h137, h138, h139, h140, h141⟩)
      subst hv134
      have h136_ : (f 62).toInt ≤ o130.toInt := h136
      have h137_ : o130.toInt ≤ (f 62).toInt + 64 := h137
      have h138_ : (f 68).toInt ≤ s131.toInt := h138
      have h139_ : s131.toInt ≤ (f 68).toInt + 1 := h139
      have h140_ : o130.toInt + 64 * mj_n (g'133 16) (f 15).toNatClampNeg 3 ≤ (f 62).toInt + 64 * mj_n (g 16) (f 15).toNatClampNeg 3 := h140
      have h141_ : ∀ j, j ∉ [16, 60, 63, 64, 65, 66, 67, 69, 70, 71, 72, 73] → g'133 j = g j := h141
      have hR142_ : RJ (upd (upd (upd f 62 o130) 68 s131) 75 m132) g'133 gs bc [] 0 [] := hR142
      show am_E _ _ _ _ [some (.ref 39)] [] _ _
      refine am_e2 (v := 39) hi_209_4 rfl ?_
      refine am_e7 hi_209_5 ?_
      refine mm_20 (v := .int (f 15)) hS135 hi_209_6 rfl ?_
      refine am_e0 hi_209_9 ?_
      refine am_e10 (z := z0) hi_209_10 hz0 ?_
      refine mm_21 (v := z0) hS135 hi_209_11 rfl (Nat.le_of_ble_eq_true rfl) ms_15 ?_
      intro S143 hS144
      replace hS144 : MS S0 S143 (upd (upd (upd (upd f 15 z0) 62 o130) 68 s131) 75 m132) g'133 := hS144
      have hp145 : mj_n (g'133 16) (f 15).toNatClampNeg 3 = mj_n (g'133 16) z0.toNatClampNeg 3 + if (g'133 16 z0.toNatClampNeg).toInt = 3 then 1 else 0 := mj_pop (by rw [cl_toNat, cl_toNat]; omega)
      have hp1451 : mj_n (g'133 16) z0.toNatClampNeg 3 ≤ mj_n (g'133 16) (f 15).toNatClampNeg 3 := by rw [hp145]; split <;> omega
      have hp1452 : (g'133 16 z0.toNatClampNeg).toInt = 3 → mj_n (g'133 16) z0.toNatClampNeg 3 + 1 ≤ mj_n (g'133 16) (f 15).toNatClampNeg 3 := fun q => by rw [hp145, if_pos q]; exact Int.le_refl _
      refine am_e35 hi_209_14 ?_
      show am_E _ _ _ _ [some (.ref 39), some (.int on), some (.int (f 19))] [] _ _
      refine am_e2 (v := 39) hi_258_35 rfl ?_
      refine am_e1 (v := on) hi_258_36 rfl ?_
      refine am_e1 (v := f 19) hi_258_37 rfl ?_
      obtain ⟨z146, hz146, tz146⟩ := am_subI (x := on) (y := f 19) (m := on.toInt) (n := (f 19).toInt) rfl rfl (by omega) (by omega)
      refine am_e10 (z := z146) hi_258_38 hz146 ?_
      refine am_e32n (as := [.ref 39, .int z146]) (la := [some (.ref 39), some (.int z146), none]) (rest := []) hi_258_39 (am_hd0 (M := 258) (by decide) 39) (Nat.le_of_ble_eq_true rfl) (Nat.le_of_ble_eq_true rfl) (show 2 ≤ am_P0.2.2.1 240 from by decide +kernel) rfl (am_recv_ok hS144.fs) rfl rfl (ct_nils (d := (d + 4)) hS144 hR142_  (by show (0 : Int) ≤ (f 32).toInt; omega) (by show (f 32).toInt ≤ (63 : Int); omega) (by show (f 53).toInt ≤ (4096 : Int); omega) (by show (0 : Int) ≤ s131.toInt; omega) (by show s131.toInt ≤ (65534 : Int); omega) (by show s131.toInt + z146.toInt ≤ 65534; omega)) ?_
      rintro v147 S148 (⟨s149, g'150, hv151, hS152, hR156, h153, h154, h155⟩)
      subst hv151
      have h153_ : s131.toInt ≤ s149.toInt := h153
      have h154_ : s149.toInt ≤ s131.toInt + z146.toInt ∨ s149.toInt ≤ s131.toInt := h154
      have h155_ : ∀ j, j ∉ [60, 69, 70, 71, 72, 73] → g'150 j = g'133 j := h155
      replace hS152 : MS S0 S148 (upd (upd (upd (upd f 15 z0) 62 o130) 68 s149) 75 m132) g'150 := hS152
      have hR156_ : RJ (upd (upd (upd (upd f 15 z0) 62 o130) 68 s149) 75 m132) g'150 gs bc [] 0 [] := hR156
      show am_E _ _ _ _ [some (.ref 39), some (.int on), some (.int (f 19))] [] _ _
      refine am_e1 (v := f 19) hi_258_42 rfl ?_
      refine am_e1 (v := on) hi_258_43 rfl ?_
      by_cases c157 : (f 19).toInt ≤ on.toInt
      · refine am_e13t hi_258_44 (am_cT (m := (f 19).toInt) (n := on.toInt) rfl rfl c157) ?_
        refine am_e35 hi_258_59 ?_
        show am_E _ _ _ _ [some (.ref 39), some (.int on), some (.int tw), none, none, none] [] _ _
        refine am_e0 hi_265_9 ?_
        refine am_e3 (ls' := [some (.ref 39), some (.int on), some (.int tw), some (.int 0), none, none]) hi_265_10 (Nat.le_of_ble_eq_true rfl) rfl ?_
        refine am_e1 (v := on) hi_265_11 rfl ?_
        refine am_e0 hi_265_12 ?_
        obtain ⟨z158, hz158, tz158⟩ := am_subI (x := on) (y := 1) (m := on.toInt) (n := (1 : Int)) rfl (by decide) (by omega) (by omega)
        refine am_e10 (z := z158) hi_265_13 hz158 ?_
        refine am_e3 (ls' := [some (.ref 39), some (.int on), some (.int tw), some (.int 0), some (.int z158), none]) hi_265_14 (Nat.le_of_ble_eq_true rfl) rfl ?_
        refine fr_assign (d := (d + 2)) (f := (upd (upd (upd (upd f 15 z0) 62 o130) 68 s149) 75 m132)) (g := g'150) (m := on) (k := tw)  (by show (0 : Int) ≤ (f 32).toInt; omega) (by show (f 32).toInt ≤ (63 : Int); omega) (by show (f 53).toInt ≤ (4096 : Int); omega) (by show (0 : Int) ≤ s149.toInt; omega) (by show s149.toInt + on.toInt ≤ 65534; omega) (by show (0 : Int) ≤ tw.toInt; omega) (by show (0 : Int) ≤ on.toInt; omega) (by show tw.toInt + on.toInt ≤ 16384; omega) ?_ ((z158.toInt + 1).toNat + 1) _ none 0 z158 s149 _ hS152 hR156_ (fun _ _ => rfl) (by show (0 : Int) ≤ (0 : Int); omega) (by show (0 : Int) + z158.toInt + 1 ≤ on.toInt; omega) (by show (-1 : Int) ≤ z158.toInt; omega) (by show s149.toInt ≤ s149.toInt; omega) (by show s149.toInt + z158.toInt + 1 ≤ s149.toInt + on.toInt; omega) (by show z158.toInt + 1 < _; omega)
        · intro S162 x5166 c159 j160 s161 gx165 hS163 hR164 hg167 h168 h169 h170 h171
          replace hS163 : MS S0 S162 (upd (upd (upd (upd f 15 z0) 62 o130) 68 s161) 75 m132) gx165 := hS163
          have h168_ : (0 : Int) ≤ c159.toInt := h168
          have h169_ : c159.toInt ≤ on.toInt := h169
          have h170_ : s149.toInt ≤ s161.toInt := h170
          have h171_ : s161.toInt ≤ s149.toInt + on.toInt := h171
          have hR164_ : RJ (upd (upd (upd (upd f 15 z0) 62 o130) 68 s161) 75 m132) gx165 gs bc [] 0 [] := hR164
          show am_E _ _ _ _ [some (.ref 39), some (.int on), some (.int tw), some (.int c159), some (.int j160), x5166] [] _ _
          refine am_e1 (v := c159) hi_265_102 rfl ?_
          by_cases c172 : c159.toInt ≤ (0 : Int)
          · refine am_e12t hi_265_103 (am_cT (m := c159.toInt) (n := (0 : Int)) rfl (by decide) c172) ?_
            refine am_e2 (v := 39) hi_265_118 rfl ?_
            refine am_e1 (v := tw) hi_265_119 rfl ?_
            refine mm_21 (v := tw) hS163 hi_265_120 rfl (Nat.le_of_ble_eq_true rfl) ms_20 ?_
            intro S173 hS174
            replace hS174 : MS S0 S173 (upd (upd (upd (upd (upd f 15 z0) 20 tw) 62 o130) 68 s161) 75 m132) gx165 := hS174
            refine am_e35 hi_265_123 ?_
            show am_E _ _ _ _ [some (.ref 39), some (.int 22), some (.int on), some (.int tw), some (.int th)] [] _ _
            refine am_e35 hi_180_371 ?_
            have q1 : mg_p1 gs = mg_p1 gs := rfl
            have q2 : mg_p2 gs = mg_p2 gs := rfl
            have q3 : mg_p3 gs = mg_p3 gs := rfl
            have q4 : mg_p4 gs = mg_p4 gs := rfl
            refine ⟨_, _, _, bc, rfl, hS174, Or.inl ⟨⟨hR164_, ?_, ?_⟩, rfl, ?_⟩⟩
            · exact (mg_cast (mg_good_ext _ _ _ _ _ _ (fun i _ => by show gx165 34 i = g 34 i; rw [show gx165 34 = g'150 34 from hg167 34 (by decide), show g'150 34 = g'133 34 from h155_ 34 (by decide), show g'133 34 = g 34 from h141_ 34 (by decide)]) (fun i _ => by show gx165 38 i = g 38 i; rw [show gx165 38 = g'150 38 from hg167 38 (by decide), show g'150 38 = g'133 38 from h155_ 38 (by decide), show g'133 38 = g 38 from h141_ 38 (by decide)]) (fun i _ => by show gx165 23 i = g 23 i; rw [show gx165 23 = g'150 23 from hg167 23 (by decide), show g'150 23 = g'133 23 from h155_ 23 (by decide), show g'133 23 = g 23 from h141_ 23 (by decide)]) hrest) (by show (f 15).toInt + -1 = z0.toInt; omega) (by show tw.toInt = tw.toInt; omega) (by show (f 37).toInt + 0 = (f 37).toInt; omega) (by show (f 32).toInt + 0 = (f 32).toInt; omega) (by show (f 5).toInt + 0 = (f 5).toInt; omega) : mg_good (gx165 34) (gx165 38) (gx165 23) gs (z0.toInt) (tw.toInt) ((f 37).toInt) ((f 32).toInt) ((f 5).toInt))
            · exact ⟨(by show 0 ≤ (f 4).toInt; omega), (by show (f 4).toInt ≤ (f 0).toInt; omega), (by show (f 0).toInt ≤ 512; omega), (by show 0 ≤ (f 24).toInt; omega), (by show (f 24).toInt + tw.toInt + mg_p1 gs ≤ 4 * (f 4).toInt; omega), (by show tw.toInt ≤ (f 4).toInt; omega), (by show z0.toInt + mg_p2 gs ≤ (f 4).toInt; omega), (by show mg_p3 gs ≤ 20 * (f 4).toInt + 20; omega), (by show 0 ≤ s161.toInt; omega), (by show s161.toInt + 3 * tw.toInt + mg_p4 gs ≤ 60 * (f 4).toInt + 60; omega), (by show 0 ≤ o130.toInt; omega), (by show o130.toInt + 64 * mj_n (gx165 16) z0.toNatClampNeg 3 ≤ 64 * (f 4).toInt; rw [show gx165 16 = g'150 16 from hg167 16 (by decide), show g'150 16 = g'133 16 from h155_ 16 (by decide)]; omega), (by show 0 ≤ (f 44).toInt; omega), (by show (f 44).toInt ≤ (f 4).toInt; omega), (by show 0 ≤ (f 48).toInt; omega), (by show (f 48).toInt ≤ (f 4).toInt; omega), (by show 1 ≤ (f 53).toInt; omega), (by show (f 53).toInt ≤ (f 4).toInt + 1; omega), (by show 0 ≤ (f 19).toInt; omega), (by show (f 19).toInt ≤ 600; omega), (by show 0 ≤ (f 6).toInt; omega), (by show 0 ≤ (f 8).toInt; omega)⟩
            · show 100 * ((f 0).toInt - (f 4).toInt) + mg_p3 gs < 100 * ((f 0).toInt - (f 4).toInt) + (1 + mg_p3 gs); omega
          · refine am_e12f hi_265_103 (am_cF (m := c159.toInt) (n := (0 : Int)) rfl (by decide) c172) ?_
            refine am_e2 (v := 39) hi_265_106 rfl ?_
            refine am_e0 hi_265_107 ?_
            refine am_e0 hi_265_109 ?_
            refine am_e1 (v := c159) hi_265_110 rfl ?_
            obtain ⟨z175, hz175, tz175⟩ := am_mulI (x := 2) (y := c159) (m := (2 : Int)) (n := c159.toInt) (by decide) rfl (by omega) (by omega)
            refine am_e10 (z := z175) hi_265_111 hz175 ?_
            refine am_e0 hi_265_112 ?_
            refine am_e0 hi_265_113 ?_
            refine am_e32n (as := [.ref 39, .int 26, .int z175, .int 0, .int 0]) (la := [some (.ref 39), some (.int 26), some (.int z175), some (.int 0), some (.int 0)]) (rest := []) hi_265_114 (am_hd0 (M := 265) (by decide) 114) (Nat.le_of_ble_eq_true rfl) (Nat.le_of_ble_eq_true rfl) (show 5 ≤ am_P0.2.2.1 189 from by decide +kernel) rfl (am_recv_ok hS163.fs) rfl rfl (ct_put (d := (d + 6)) hS163 hR164_  (by show (0 : Int) ≤ (f 32).toInt; omega) (by show (f 32).toInt ≤ (63 : Int); omega) (by show (f 53).toInt ≤ (4096 : Int); omega) (by show (0 : Int) ≤ s161.toInt; omega) (by show s161.toInt ≤ (65534 : Int); omega)) ?_
            rintro v176 S177 (⟨z178, r179, g'180, hv181, hS182, hR186, h183, h184, h185⟩)
            subst hv181
            have h183_ : z178.toInt = s161.toInt + 1 := h183
            have h184_ : r179.toInt = s161.toInt := h184
            have h185_ : ∀ j, j ∉ [60, 69, 70, 71, 72, 73] → g'180 j = gx165 j := h185
            replace hS182 : MS S0 S177 (upd (upd (upd (upd f 15 z0) 62 o130) 68 z178) 75 m132) g'180 := hS182
            have hR186_ : RJ (upd (upd (upd (upd f 15 z0) 62 o130) 68 z178) 75 m132) g'180 gs bc [] 0 (s161.toNatClampNeg :: []) := hR186
            show am_E _ _ _ _ [some (.ref 39), some (.int on), some (.int tw), some (.int c159), some (.int j160), x5166] [.int r179] _ _
            refine am_e6i hi_265_117 ?_
            refine am_e2 (v := 39) hi_265_118 rfl ?_
            refine am_e1 (v := tw) hi_265_119 rfl ?_
            refine mm_21 (v := tw) hS182 hi_265_120 rfl (Nat.le_of_ble_eq_true rfl) ms_20 ?_
            intro S187 hS188
            replace hS188 : MS S0 S187 (upd (upd (upd (upd (upd f 15 z0) 20 tw) 62 o130) 68 z178) 75 m132) g'180 := hS188
            refine am_e35 hi_265_123 ?_
            show am_E _ _ _ _ [some (.ref 39), some (.int 22), some (.int on), some (.int tw), some (.int th)] [] _ _
            refine am_e35 hi_180_371 ?_
            have q1 : mg_p1 gs = mg_p1 gs := rfl
            have q2 : mg_p2 gs = mg_p2 gs := rfl
            have q3 : mg_p3 gs = mg_p3 gs := rfl
            have q4 : mg_p4 gs = mg_p4 gs := rfl
            refine ⟨_, _, _, bc, rfl, hS188, Or.inl ⟨⟨(RJ.fewer (pj' := []) hR186_ (fun _ h => nomatch h)), ?_, ?_⟩, rfl, ?_⟩⟩
            · exact (mg_cast (mg_good_ext _ _ _ _ _ _ (fun i _ => by show g'180 34 i = g 34 i; rw [show g'180 34 = gx165 34 from h185_ 34 (by decide), show gx165 34 = g'150 34 from hg167 34 (by decide), show g'150 34 = g'133 34 from h155_ 34 (by decide), show g'133 34 = g 34 from h141_ 34 (by decide)]) (fun i _ => by show g'180 38 i = g 38 i; rw [show g'180 38 = gx165 38 from h185_ 38 (by decide), show gx165 38 = g'150 38 from hg167 38 (by decide), show g'150 38 = g'133 38 from h155_ 38 (by decide), show g'133 38 = g 38 from h141_ 38 (by decide)]) (fun i _ => by show g'180 23 i = g 23 i; rw [show g'180 23 = gx165 23 from h185_ 23 (by decide), show gx165 23 = g'150 23 from hg167 23 (by decide), show g'150 23 = g'133 23 from h155_ 23 (by decide), show g'133 23 = g 23 from h141_ 23 (by decide)]) hrest) (by show (f 15).toInt + -1 = z0.toInt; omega) (by show tw.toInt = tw.toInt; omega) (by show (f 37).toInt + 0 = (f 37).toInt; omega) (by show (f 32).toInt + 0 = (f 32).toInt; omega) (by show (f 5).toInt + 0 = (f 5).toInt; omega) : mg_good (g'180 34) (g'180 38) (g'180 23) gs (z0.toInt) (tw.toInt) ((f 37).toInt) ((f 32).toInt) ((f 5).toInt))
            · exact ⟨(by show 0 ≤ (f 4).toInt; omega), (by show (f 4).toInt ≤ (f 0).toInt; omega), (by show (f 0).toInt ≤ 512; omega), (by show 0 ≤ (f 24).toInt; omega), (by show (f 24).toInt + tw.toInt + mg_p1 gs ≤ 4 * (f 4).toInt; omega), (by show tw.toInt ≤ (f 4).toInt; omega), (by show z0.toInt + mg_p2 gs ≤ (f 4).toInt; omega), (by show mg_p3 gs ≤ 20 * (f 4).toInt + 20; omega), (by show 0 ≤ z178.toInt; omega), (by show z178.toInt + 3 * tw.toInt + mg_p4 gs ≤ 60 * (f 4).toInt + 60; omega), (by show 0 ≤ o130.toInt; omega), (by show o130.toInt + 64 * mj_n (g'180 16) z0.toNatClampNeg 3 ≤ 64 * (f 4).toInt; rw [show g'180 16 = gx165 16 from h185_ 16 (by decide), show gx165 16 = g'150 16 from hg167 16 (by decide), show g'150 16 = g'133 16 from h155_ 16 (by decide)]; omega), (by show 0 ≤ (f 44).toInt; omega), (by show (f 44).toInt ≤ (f 4).toInt; omega), (by show 0 ≤ (f 48).toInt; omega), (by show (f 48).toInt ≤ (f 4).toInt; omega), (by show 1 ≤ (f 53).toInt; omega), (by show (f 53).toInt ≤ (f 4).toInt + 1; omega), (by show 0 ≤ (f 19).toInt; omega), (by show (f 19).toInt ≤ 600; omega), (by show 0 ≤ (f 6).toInt; omega), (by show 0 ≤ (f 8).toInt; omega)⟩
            · show 100 * ((f 0).toInt - (f 4).toInt) + mg_p3 gs < 100 * ((f 0).toInt - (f 4).toInt) + (1 + mg_p3 gs); omega
      · refine am_e13f hi_258_44 (am_cF (m := (f 19).toInt) (n := on.toInt) rfl rfl c157) ?_
        refine am_e2 (v := 39) hi_258_47 rfl ?_
        refine am_e0 hi_258_48 ?_
        refine am_e1 (v := f 19) hi_258_50 rfl ?_
        refine am_e1 (v := on) hi_258_51 rfl ?_
        obtain ⟨z189, hz189, tz189⟩ := am_subI (x := f 19) (y := on) (m := (f 19).toInt) (n := on.toInt) rfl rfl (by omega) (by omega)
        refine am_e10 (z := z189) hi_258_52 hz189 ?_
        refine am_e0 hi_258_53 ?_
        refine am_e0 hi_258_54 ?_
        refine am_e32n (as := [.ref 39, .int 26, .int z189, .int 0, .int 0]) (la := [some (.ref 39), some (.int 26), some (.int z189), some (.int 0), some (.int 0)]) (rest := []) hi_258_55 (am_hd0 (M := 258) (by decide) 55) (Nat.le_of_ble_eq_true rfl) (Nat.le_of_ble_eq_true rfl) (show 5 ≤ am_P0.2.2.1 189 from by decide +kernel) rfl (am_recv_ok hS152.fs) rfl rfl (ct_put (d := (d + 5)) hS152 hR156_  (by show (0 : Int) ≤ (f 32).toInt; omega) (by show (f 32).toInt ≤ (63 : Int); omega) (by show (f 53).toInt ≤ (4096 : Int); omega) (by show (0 : Int) ≤ s149.toInt; omega) (by show s149.toInt ≤ (65534 : Int); omega)) ?_
        rintro v190 S191 (⟨z192, r193, g'194, hv195, hS196, hR200, h197, h198, h199⟩)
        subst hv195
        have h197_ : z192.toInt = s149.toInt + 1 := h197
        have h198_ : r193.toInt = s149.toInt := h198
        have h199_ : ∀ j, j ∉ [60, 69, 70, 71, 72, 73] → g'194 j = g'150 j := h199
        replace hS196 : MS S0 S191 (upd (upd (upd (upd f 15 z0) 62 o130) 68 z192) 75 m132) g'194 := hS196
        have hR200_ : RJ (upd (upd (upd (upd f 15 z0) 62 o130) 68 z192) 75 m132) g'194 gs bc [] 0 (s149.toNatClampNeg :: []) := hR200
        show am_E _ _ _ _ [some (.ref 39), some (.int on), some (.int (f 19))] [.int r193] _ _
        refine am_e6i hi_258_58 ?_
        refine am_e35 hi_258_59 ?_
        show am_E _ _ _ _ [some (.ref 39), some (.int on), some (.int tw), none, none, none] [] _ _
        refine am_e0 hi_265_9 ?_
        refine am_e3 (ls' := [some (.ref 39), some (.int on), some (.int tw), some (.int 0), none, none]) hi_265_10 (Nat.le_of_ble_eq_true rfl) rfl ?_
        refine am_e1 (v := on) hi_265_11 rfl ?_
        refine am_e0 hi_265_12 ?_
        obtain ⟨z201, hz201, tz201⟩ := am_subI (x := on) (y := 1) (m := on.toInt) (n := (1 : Int)) rfl (by decide) (by omega) (by omega)
        refine am_e10 (z := z201) hi_265_13 hz201 ?_
        refine am_e3 (ls' := [some (.ref 39), some (.int on), some (.int tw), some (.int 0), some (.int z201), none]) hi_265_14 (Nat.le_of_ble_eq_true rfl) rfl ?_
        refine fr_assign (d := (d + 2)) (f := (upd (upd (upd (upd f 15 z0) 62 o130) 68 z192) 75 m132)) (g := g'194) (m := on) (k := tw)  (by show (0 : Int) ≤ (f 32).toInt; omega) (by show (f 32).toInt ≤ (63 : Int); omega) (by show (f 53).toInt ≤ (4096 : Int); omega) (by show (0 : Int) ≤ z192.toInt; omega) (by show z192.toInt + on.toInt ≤ 65534; omega) (by show (0 : Int) ≤ tw.toInt; omega) (by show (0 : Int) ≤ on.toInt; omega) (by show tw.toInt + on.toInt ≤ 16384; omega) ?_ ((z201.toInt + 1).toNat + 1) _ none 0 z201 z192 _ hS196 hR200_ (fun _ _ => rfl) (by show (0 : Int) ≤ (0 : Int); omega) (by show (0 : Int) + z201.toInt + 1 ≤ on.toInt; omega) (by show (-1 : Int) ≤ z201.toInt; omega) (by show z192.toInt ≤ z192.toInt; omega) (by show z192.toInt + z201.toInt + 1 ≤ z192.toInt + on.toInt; omega) (by show z201.toInt + 1 < _; omega)
        · intro S205 x5209 c202 j203 s204 gx208 hS206 hR207 hg210 h211 h212 h213 h214
          replace hS206 : MS S0 S205 (upd (upd (upd (upd f 15 z0) 62 o130) 68 s204) 75 m132) gx208 := hS206
          have h211_ : (0 : Int) ≤ c202.toInt := h211
          have h212_ : c202.toInt ≤ on.toInt := h212
          have h213_ : z192.toInt ≤ s204.toInt := h213
          have h214_ : s204.toInt ≤ z192.toInt + on.toInt := h214
          have hR207_ : RJ (upd (upd (upd (upd f 15 z0) 62 o130) 68 s204) 75 m132) gx208 gs bc [] 0 (s149.toNatClampNeg :: []) := hR207
          show am_E _ _ _ _ [some (.ref 39), some (.int on), some (.int tw), some (.int c202), some (.int j203), x5209] [] _ _
          refine am_e1 (v := c202) hi_265_102 rfl ?_
          by_cases c215 : c202.toInt ≤ (0 : Int)
          · refine am_e12t hi_265_103 (am_cT (m := c202.toInt) (n := (0 : Int)) rfl (by decide) c215) ?_
            refine am_e2 (v := 39) hi_265_118 rfl ?_
            refine am_e1 (v := tw) hi_265_119 rfl ?_
            refine mm_21 (v := tw) hS206 hi_265_120 rfl (Nat.le_of_ble_eq_true rfl) ms_20 ?_
            intro S216 hS217
            replace hS217 : MS S0 S216 (upd (upd (upd (upd (upd f 15 z0) 20 tw) 62 o130) 68 s204) 75 m132) gx208 := hS217
            refine am_e35 hi_265_123 ?_
            show am_E _ _ _ _ [some (.ref 39), some (.int 22), some (.int on), some (.int tw), some (.int th)] [] _ _
            refine am_e35 hi_180_371 ?_
            have q1 : mg_p1 gs = mg_p1 gs := rfl
            have q2 : mg_p2 gs = mg_p2 gs := rfl
            have q3 : mg_p3 gs = mg_p3 gs := rfl
            have q4 : mg_p4 gs = mg_p4 gs := rfl
            refine ⟨_, _, _, bc, rfl, hS217, Or.inl ⟨⟨(RJ.fewer (pj' := []) hR207_ (fun _ h => nomatch h)), ?_, ?_⟩, rfl, ?_⟩⟩
            · exact (mg_cast (mg_good_ext _ _ _ _ _ _ (fun i _ => by show gx208 34 i = g 34 i; rw [show gx208 34 = g'194 34 from hg210 34 (by decide), show g'194 34 = g'150 34 from h199_ 34 (by decide), show g'150 34 = g'133 34 from h155_ 34 (by decide), show g'133 34 = g 34 from h141_ 34 (by decide)]) (fun i _ => by show gx208 38 i = g 38 i; rw [show gx208 38 = g'194 38 from hg210 38 (by decide), show g'194 38 = g'150 38 from h199_ 38 (by decide), show g'150 38 = g'133 38 from h155_ 38 (by decide), show g'133 38 = g 38 from h141_ 38 (by decide)]) (fun i _ => by show gx208 23 i = g 23 i; rw [show gx208 23 = g'194 23 from hg210 23 (by decide), show g'194 23 = g'150 23 from h199_ 23 (by decide), show g'150 23 = g'133 23 from h155_ 23 (by decide), show g'133 23 = g 23 from h141_ 23 (by decide)]) hrest) (by show (f 15).toInt + -1 = z0.toInt; omega) (by show tw.toInt = tw.toInt; omega) (by show (f 37).toInt + 0 = (f 37).toInt; omega) (by show (f 32).toInt + 0 = (f 32).toInt; omega) (by show (f 5).toInt + 0 = (f 5).toInt; omega) : mg_good (gx208 34) (gx208 38) (gx208 23) gs (z0.toInt) (tw.toInt) ((f 37).toInt) ((f 32).toInt) ((f 5).toInt))
            · exact ⟨(by show 0 ≤ (f 4).toInt; omega), (by show (f 4).toInt ≤ (f 0).toInt; omega), (by show (f 0).toInt ≤ 512; omega), (by show 0 ≤ (f 24).toInt; omega), (by show (f 24).toInt + tw.toInt + mg_p1 gs ≤ 4 * (f 4).toInt; omega), (by show tw.toInt ≤ (f 4).toInt; omega), (by show z0.toInt + mg_p2 gs ≤ (f 4).toInt; omega), (by show mg_p3 gs ≤ 20 * (f 4).toInt + 20; omega), (by show 0 ≤ s204.toInt; omega), (by show s204.toInt + 3 * tw.toInt + mg_p4 gs ≤ 60 * (f 4).toInt + 60; omega), (by show 0 ≤ o130.toInt; omega), (by show o130.toInt + 64 * mj_n (gx208 16) z0.toNatClampNeg 3 ≤ 64 * (f 4).toInt; rw [show gx208 16 = g'194 16 from hg210 16 (by decide), show g'194 16 = g'150 16 from h199_ 16 (by decide), show g'150 16 = g'133 16 from h155_ 16 (by decide)]; omega), (by show 0 ≤ (f 44).toInt; omega), (by show (f 44).toInt ≤ (f 4).toInt; omega), (by show 0 ≤ (f 48).toInt; omega), (by show (f 48).toInt ≤ (f 4).toInt; omega), (by show 1 ≤ (f 53).toInt; omega), (by show (f 53).toInt ≤ (f 4).toInt + 1; omega), (by show 0 ≤ (f 19).toInt; omega), (by show (f 19).toInt ≤ 600; omega), (by show 0 ≤ (f 6).toInt; omega), (by show 0 ≤ (f 8).toInt; omega)⟩
            · show 100 * ((f 0).toInt - (f 4).toInt) + mg_p3 gs < 100 * ((f 0).toInt - (f 4).toInt) + (1 + mg_p3 gs); omega
          · refine am_e12f hi_265_103 (am_cF (m := c202.toInt) (n := (0 : Int)) rfl (by decide) c215) ?_
            refine am_e2 (v := 39) hi_265_106 rfl ?_
            refine am_e0 hi_265_107 ?_
            refine am_e0 hi_265_109 ?_
            refine am_e1 (v := c202) hi_265_110 rfl ?_
            obtain ⟨z218, hz218, tz218⟩ := am_mulI (x := 2) (y := c202) (m := (2 : Int)) (n := c202.toInt) (by decide) rfl (by omega) (by omega)
            refine am_e10 (z := z218) hi_265_111 hz218 ?_
            refine am_e0 hi_265_112 ?_
            refine am_e0 hi_265_113 ?_
            refine am_e32n (as := [.ref 39, .int 26, .int z218, .int 0, .int 0]) (la := [some (.ref 39), some (.int 26), some (.int z218), some (.int 0), some (.int 0)]) (rest := []) hi_265_114 (am_hd0 (M := 265) (by decide) 114) (Nat.le_of_ble_eq_true rfl) (Nat.le_of_ble_eq_true rfl) (show 5 ≤ am_P0.2.2.1 189 from by decide +kernel) rfl (am_recv_ok hS206.fs) rfl rfl (ct_put (d := (d + 6)) hS206 hR207_  (by show (0 : Int) ≤ (f 32).toInt; omega) (by show (f 32).toInt ≤ (63 : Int); omega) (by show (f 53).toInt ≤ (4096 : Int); omega) (by show (0 : Int) ≤ s204.toInt; omega) (by show s204.toInt ≤ (65534 : Int); omega)) ?_
            rintro v219 S220 (⟨z221, r222, g'223, hv224, hS225, hR229, h226, h227, h228⟩)
            subst hv224
            have h226_ : z221.toInt = s204.toInt + 1 := h226
            have h227_ : r222.toInt = s204.toInt := h227
            have h228_ : ∀ j, j ∉ [60, 69, 70, 71, 72, 73] → g'223 j = gx208 j := h228
            replace hS225 : MS S0 S220 (upd (upd (upd (upd f 15 z0) 62 o130) 68 z221) 75 m132) g'223 := hS225
            have hR229_ : RJ (upd (upd (upd (upd f 15 z0) 62 o130) 68 z221) 75 m132) g'223 gs bc [] 0 (s204.toNatClampNeg :: (s149.toNatClampNeg :: [])) := hR229
            show am_E _ _ _ _ [some (.ref 39), some (.int on), some (.int tw), some (.int c202), some (.int j203), x5209] [.int r222] _ _
            refine am_e6i hi_265_117 ?_
            refine am_e2 (v := 39) hi_265_118 rfl ?_
            refine am_e1 (v := tw) hi_265_119 rfl ?_
            refine mm_21 (v := tw) hS225 hi_265_120 rfl (Nat.le_of_ble_eq_true rfl) ms_20 ?_
            intro S230 hS231
            replace hS231 : MS S0 S230 (upd (upd (upd (upd (upd f 15 z0) 20 tw) 62 o130) 68 z221) 75 m132) g'223 := hS231
            refine am_e35 hi_265_123 ?_
            show am_E _ _ _ _ [some (.ref 39), some (.int 22), some (.int on), some (.int tw), some (.int th)] [] _ _
            refine am_e35 hi_180_371 ?_
            have q1 : mg_p1 gs = mg_p1 gs := rfl
            have q2 : mg_p2 gs = mg_p2 gs := rfl
            have q3 : mg_p3 gs = mg_p3 gs := rfl
            have q4 : mg_p4 gs = mg_p4 gs := rfl
            refine ⟨_, _, _, bc, rfl, hS231, Or.inl ⟨⟨(RJ.fewer (pj' := []) hR229_ (fun _ h => nomatch h)), ?_, ?_⟩, rfl, ?_⟩⟩
            · exact (mg_cast (mg_good_ext _ _ _ _ _ _ (fun i _ => by show g'223 34 i = g 34 i; rw [show g'223 34 = gx208 34 from h228_ 34 (by decide), show gx208 34 = g'194 34 from hg210 34 (by decide), show g'194 34 = g'150 34 from h199_ 34 (by decide), show g'150 34 = g'133 34 from h155_ 34 (by decide), show g'133 34 = g 34 from h141_ 34 (by decide)]) (fun i _ => by show g'223 38 i = g 38 i; rw [show g'223 38 = gx208 38 from h228_ 38 (by decide), show gx208 38 = g'194 38 from hg210 38 (by decide), show g'194 38 = g'150 38 from h199_ 38 (by decide), show g'150 38 = g'133 38 from h155_ 38 (by decide), show g'133 38 = g 38 from h141_ 38 (by decide)]) (fun i _ => by show g'223 23 i = g 23 i; rw [show g'223 23 = gx208 23 from h228_ 23 (by decide), show gx208 23 = g'194 23 from hg210 23 (by decide), show g'194 23 = g'150 23 from h199_ 23 (by decide), show g'150 23 = g'133 23 from h155_ 23 (by decide), show g'133 23 = g 23 from h141_ 23 (by decide)]) hrest) (by show (f 15).toInt + -1 = z0.toInt; omega) (by show tw.toInt = tw.toInt; omega) (by show (f 37).toInt + 0 = (f 37).toInt; omega) (by show (f 32).toInt + 0 = (f 32).toInt; omega) (by show (f 5).toInt + 0 = (f 5).toInt; omega) : mg_good (g'223 34) (g'223 38) (g'223 23) gs (z0.toInt) (tw.toInt) ((f 37).toInt) ((f 32).toInt) ((f 5).toInt))
            · exact ⟨(by show 0 ≤ (f 4).toInt; omega), (by show (f 4).toInt ≤ (f 0).toInt; omega), (by show (f 0).toInt ≤ 512; omega), (by show 0 ≤ (f 24).toInt; omega), (by show (f 24).toInt + tw.toInt + mg_p1 gs ≤ 4 * (f 4).toInt; omega), (by show tw.toInt ≤ (f 4).toInt; omega), (by show z0.toInt + mg_p2 gs ≤ (f 4).toInt; omega), (by show mg_p3 gs ≤ 20 * (f 4).toInt + 20; omega), (by show 0 ≤ z221.toInt; omega), (by show z221.toInt + 3 * tw.toInt + mg_p4 gs ≤ 60 * (f 4).toInt + 60; omega), (by show 0 ≤ o130.toInt; omega), (by show o130.toInt + 64 * mj_n (g'223 16) z0.toNatClampNeg 3 ≤ 64 * (f 4).toInt; rw [show g'223 16 = gx208 16 from h228_ 16 (by decide), show gx208 16 = g'194 16 from hg210 16 (by decide), show g'194 16 = g'150 16 from h199_ 16 (by decide), show g'150 16 = g'133 16 from h155_ 16 (by decide)]; omega), (by show 0 ≤ (f 44).toInt; omega), (by show (f 44).toInt ≤ (f 4).toInt; omega), (by show 0 ≤ (f 48).toInt; omega), (by show (f 48).toInt ≤ (f 4).toInt; omega), (by show 1 ≤ (f 53).toInt; omega), (by show (f 53).toInt ≤ (f 4).toInt + 1; omega), (by show 0 ≤ (f 19).toInt; omega), (by show (f 19).toInt ≤ 600; omega), (by show 0 ≤ (f 6).toInt; omega), (by show 0 ≤ (f 8).toInt; omega)⟩
            · show 100 * ((f 0).toInt - (f 4).toInt) + mg_p3 gs < 100 * ((f 0).toInt - (f 4).toInt) + (1 + mg_p3 gs); omega
    · refine am_e13f hi_216_27 (am_cF (m := (g 16 z0.toNatClampNeg).toInt) (n := (2 : Int)) rfl (by decide) c127) ?_
      refine am_e0 hi_216_30 ?_
      refine am_e18 hi_216_31 ?_
      refine am_e36 hi_216_35 (by decide) ?_
      show am_E _ _ _ _ [some (.ref 39), some (.int on), some (.int (f 19))] [.int 1] _ _
      refine am_e12f hi_258_4 (by decide) ?_
      refine am_e1 (v := f 19) hi_258_7 rfl ?_
      refine am_e1 (v := on) hi_258_8 rfl ?_
      by_cases c232 : on.toInt < (f 19).toInt
      · refine am_e13t hi_258_9 (am_cT (m := (f 19).toInt) (n := on.toInt) rfl rfl c232) ?_
        refine am_e2 (v := 39) hi_258_31 rfl ?_
        refine am_e32w (as := [.ref 39]) (la := [some (.ref 39)]) (rest := []) hi_258_32 (am_hd0 (M := 258) (by decide) 32) (Nat.le_of_ble_eq_true rfl) (Nat.le_of_ble_eq_true rfl) (show 1 ≤ am_P0.2.2.1 209 from by decide +kernel) rfl (am_recv_ok hS.fs) rfl rfl ?_
        refine am_e2 (v := 39) hi_209_0 rfl ?_
        refine am_e32n (as := [.ref 39]) (la := [some (.ref 39), none, none, none]) (rest := []) hi_209_1 (am_hd0 (M := 209) (by decide) 1) (Nat.le_of_ble_eq_true rfl) (Nat.le_of_ble_eq_true rfl) (show 1 ≤ am_P0.2.2.1 204 from by decide +kernel) rfl (am_recv_ok hS.fs) rfl rfl (ct_load (d := (d + 2)) hS hR  (by show (0 : Int) ≤ (f 32).toInt; omega) (by show (f 32).toInt ≤ (63 : Int); omega) (by show (f 53).toInt ≤ (4096 : Int); omega) (by show (0 : Int) ≤ (f 68).toInt; omega) (by show (f 68).toInt ≤ (65534 : Int); omega) (by show (1 : Int) ≤ (f 15).toInt; omega) (by show (f 15).toInt ≤ (32767 : Int); omega) (by show (0 : Int) ≤ (f 24).toInt; omega) (by show (f 24).toInt ≤ (16384 : Int); omega) (by show (0 : Int) ≤ (f 62).toInt; omega) (by show (f 62).toInt ≤ (65000 : Int); omega)) ?_
        rintro v233 S234 (⟨o235, s236, m237, g'238, hv239, hS240, hR247, h241, h242, h243, h244, h245, h246⟩)
        subst hv239
        have h241_ : (f 62).toInt ≤ o235.toInt := h241
        have h242_ : o235.toInt ≤ (f 62).toInt + 64 := h242
        have h243_ : (f 68).toInt ≤ s236.toInt := h243
        have h244_ : s236.toInt ≤ (f 68).toInt + 1 := h244
        have h245_ : o235.toInt + 64 * mj_n (g'238 16) (f 15).toNatClampNeg 3 ≤ (f 62).toInt + 64 * mj_n (g 16) (f 15).toNatClampNeg 3 := h245
        have h246_ : ∀ j, j ∉ [16, 60, 63, 64, 65, 66, 67, 69, 70, 71, 72, 73] → g'238 j = g j := h246
        have hR247_ : RJ (upd (upd (upd f 62 o235) 68 s236) 75 m237) g'238 gs bc [] 0 [] := hR247
        show am_E _ _ _ _ [some (.ref 39)] [] _ _
        refine am_e2 (v := 39) hi_209_4 rfl ?_
        refine am_e7 hi_209_5 ?_
        refine mm_20 (v := .int (f 15)) hS240 hi_209_6 rfl ?_
        refine am_e0 hi_209_9 ?_
        refine am_e10 (z := z0) hi_209_10 hz0 ?_
        refine mm_21 (v := z0) hS240 hi_209_11 rfl (Nat.le_of_ble_eq_true rfl) ms_15 ?_
        intro S248 hS249
        replace hS249 : MS S0 S248 (upd (upd (upd (upd f 15 z0) 62 o235) 68 s236) 75 m237) g'238 := hS249
        have hp250 : mj_n (g'238 16) (f 15).toNatClampNeg 3 = mj_n (g'238 16) z0.toNatClampNeg 3 + if (g'238 16 z0.toNatClampNeg).toInt = 3 then 1 else 0 := mj_pop (by rw [cl_toNat, cl_toNat]; omega)
        have hp2501 : mj_n (g'238 16) z0.toNatClampNeg 3 ≤ mj_n (g'238 16) (f 15).toNatClampNeg 3 := by rw [hp250]; split <;> omega
        have hp2502 : (g'238 16 z0.toNatClampNeg).toInt = 3 → mj_n (g'238 16) z0.toNatClampNeg 3 + 1 ≤ mj_n (g'238 16) (f 15).toNatClampNeg 3 := fun q => by rw [hp250, if_pos q]; exact Int.le_refl _
        refine am_e35 hi_209_14 ?_
        show am_E _ _ _ _ [some (.ref 39), some (.int on), some (.int (f 19))] [] _ _
        refine am_e2 (v := 39) hi_258_35 rfl ?_
        refine am_e1 (v := on) hi_258_36 rfl ?_
        refine am_e1 (v := f 19) hi_258_37 rfl ?_
        obtain ⟨z251, hz251, tz251⟩ := am_subI (x := on) (y := f 19) (m := on.toInt) (n := (f 19).toInt) rfl rfl (by omega) (by omega)
        refine am_e10 (z := z251) hi_258_38 hz251 ?_
        refine am_e32n (as := [.ref 39, .int z251]) (la := [some (.ref 39), some (.int z251), none]) (rest := []) hi_258_39 (am_hd0 (M := 258) (by decide) 39) (Nat.le_of_ble_eq_true rfl) (Nat.le_of_ble_eq_true rfl) (show 2 ≤ am_P0.2.2.1 240 from by decide +kernel) rfl (am_recv_ok hS249.fs) rfl rfl (ct_nils (d := (d + 4)) hS249 hR247_  (by show (0 : Int) ≤ (f 32).toInt; omega) (by show (f 32).toInt ≤ (63 : Int); omega) (by show (f 53).toInt ≤ (4096 : Int); omega) (by show (0 : Int) ≤ s236.toInt; omega) (by show s236.toInt ≤ (65534 : Int); omega) (by show s236.toInt + z251.toInt ≤ 65534; omega)) ?_
        rintro v252 S253 (⟨s254, g'255, hv256, hS257, hR261, h258, h259, h260⟩)
        subst hv256
        have h258_ : s236.toInt ≤ s254.toInt := h258
        have h259_ : s254.toInt ≤ s236.toInt + z251.toInt ∨ s254.toInt ≤ s236.toInt := h259
        have h260_ : ∀ j, j ∉ [60, 69, 70, 71, 72, 73] → g'255 j = g'238 j := h260
        replace hS257 : MS S0 S253 (upd (upd (upd (upd f 15 z0) 62 o235) 68 s254) 75 m237) g'255 := hS257
        have hR261_ : RJ (upd (upd (upd (upd f 15 z0) 62 o235) 68 s254) 75 m237) g'255 gs bc [] 0 [] := hR261
        show am_E _ _ _ _ [some (.ref 39), some (.int on), some (.int (f 19))] [] _ _
        refine am_e1 (v := f 19) hi_258_42 rfl ?_
        refine am_e1 (v := on) hi_258_43 rfl ?_
        refine am_e13f hi_258_44 (am_cF (m := (f 19).toInt) (n := on.toInt) rfl rfl (by simp only [am_cI]; omega)) ?_
        refine am_e2 (v := 39) hi_258_47 rfl ?_
        refine am_e0 hi_258_48 ?_
        refine am_e1 (v := f 19) hi_258_50 rfl ?_
        refine am_e1 (v := on) hi_258_51 rfl ?_
        obtain ⟨z262, hz262, tz262⟩ := am_subI (x := f 19) (y := on) (m := (f 19).toInt) (n := on.toInt) rfl rfl (by omega) (by omega)
        refine am_e10 (z := z262) hi_258_52 hz262 ?_
        refine am_e0 hi_258_53 ?_
        refine am_e0 hi_258_54 ?_
        refine am_e32n (as := [.ref 39, .int 26, .int z262, .int 0, .int 0]) (la := [some (.ref 39), some (.int 26), some (.int z262), some (.int 0), some (.int 0)]) (rest := []) hi_258_55 (am_hd0 (M := 258) (by decide) 55) (Nat.le_of_ble_eq_true rfl) (Nat.le_of_ble_eq_true rfl) (show 5 ≤ am_P0.2.2.1 189 from by decide +kernel) rfl (am_recv_ok hS257.fs) rfl rfl (ct_put (d := (d + 5)) hS257 hR261_  (by show (0 : Int) ≤ (f 32).toInt; omega) (by show (f 32).toInt ≤ (63 : Int); omega) (by show (f 53).toInt ≤ (4096 : Int); omega) (by show (0 : Int) ≤ s254.toInt; omega) (by show s254.toInt ≤ (65534 : Int); omega)) ?_
        rintro v263 S264 (⟨z265, r266, g'267, hv268, hS269, hR273, h270, h271, h272⟩)
        subst hv268
        have h270_ : z265.toInt = s254.toInt + 1 := h270
        have h271_ : r266.toInt = s254.toInt := h271
        have h272_ : ∀ j, j ∉ [60, 69, 70, 71, 72, 73] → g'267 j = g'255 j := h272
        replace hS269 : MS S0 S264 (upd (upd (upd (upd f 15 z0) 62 o235) 68 z265) 75 m237) g'267 := hS269
        have hR273_ : RJ (upd (upd (upd (upd f 15 z0) 62 o235) 68 z265) 75 m237) g'267 gs bc [] 0 (s254.toNatClampNeg :: []) := hR273
        show am_E _ _ _ _ [some (.ref 39), some (.int on), some (.int (f 19))] [.int r266] _ _
        refine am_e6i hi_258_58 ?_
        refine am_e35 hi_258_59 ?_
        show am_E _ _ _ _ [some (.ref 39), some (.int on), some (.int tw), none, none, none] [] _ _
        refine am_e0 hi_265_9 ?_
        refine am_e3 (ls' := [some (.ref 39), some (.int on), some (.int tw), some (.int 0), none, none]) hi_265_10 (Nat.le_of_ble_eq_true rfl) rfl ?_
        refine am_e1 (v := on) hi_265_11 rfl ?_
        refine am_e0 hi_265_12 ?_
        obtain ⟨z274, hz274, tz274⟩ := am_subI (x := on) (y := 1) (m := on.toInt) (n := (1 : Int)) rfl (by decide) (by omega) (by omega)
        refine am_e10 (z := z274) hi_265_13 hz274 ?_
        refine am_e3 (ls' := [some (.ref 39), some (.int on), some (.int tw), some (.int 0), some (.int z274), none]) hi_265_14 (Nat.le_of_ble_eq_true rfl) rfl ?_
        refine fr_assign (d := (d + 2)) (f := (upd (upd (upd (upd f 15 z0) 62 o235) 68 z265) 75 m237)) (g := g'267) (m := on) (k := tw)  (by show (0 : Int) ≤ (f 32).toInt; omega) (by show (f 32).toInt ≤ (63 : Int); omega) (by show (f 53).toInt ≤ (4096 : Int); omega) (by show (0 : Int) ≤ z265.toInt; omega) (by show z265.toInt + on.toInt ≤ 65534; omega) (by show (0 : Int) ≤ tw.toInt; omega) (by show (0 : Int) ≤ on.toInt; omega) (by show tw.toInt + on.toInt ≤ 16384; omega) ?_ ((z274.toInt + 1).toNat + 1) _ none 0 z274 z265 _ hS269 hR273_ (fun _ _ => rfl) (by show (0 : Int) ≤ (0 : Int); omega) (by show (0 : Int) + z274.toInt + 1 ≤ on.toInt; omega) (by show (-1 : Int) ≤ z274.toInt; omega) (by show z265.toInt ≤ z265.toInt; omega) (by show z265.toInt + z274.toInt + 1 ≤ z265.toInt + on.toInt; omega) (by show z274.toInt + 1 < _; omega)
        · intro S278 x5282 c275 j276 s277 gx281 hS279 hR280 hg283 h284 h285 h286 h287
          replace hS279 : MS S0 S278 (upd (upd (upd (upd f 15 z0) 62 o235) 68 s277) 75 m237) gx281 := hS279
          have h284_ : (0 : Int) ≤ c275.toInt := h284
          have h285_ : c275.toInt ≤ on.toInt := h285
          have h286_ : z265.toInt ≤ s277.toInt := h286
          have h287_ : s277.toInt ≤ z265.toInt + on.toInt := h287
          have hR280_ : RJ (upd (upd (upd (upd f 15 z0) 62 o235) 68 s277) 75 m237) gx281 gs bc [] 0 (s254.toNatClampNeg :: []) := hR280
          show am_E _ _ _ _ [some (.ref 39), some (.int on), some (.int tw), some (.int c275), some (.int j276), x5282] [] _ _
          refine am_e1 (v := c275) hi_265_102 rfl ?_
          by_cases c288 : c275.toInt ≤ (0 : Int)
          · refine am_e12t hi_265_103 (am_cT (m := c275.toInt) (n := (0 : Int)) rfl (by decide) c288) ?_
            refine am_e2 (v := 39) hi_265_118 rfl ?_
            refine am_e1 (v := tw) hi_265_119 rfl ?_
            refine mm_21 (v := tw) hS279 hi_265_120 rfl (Nat.le_of_ble_eq_true rfl) ms_20 ?_
            intro S289 hS290
            replace hS290 : MS S0 S289 (upd (upd (upd (upd (upd f 15 z0) 20 tw) 62 o235) 68 s277) 75 m237) gx281 := hS290
            refine am_e35 hi_265_123 ?_
            show am_E _ _ _ _ [some (.ref 39), some (.int 22), some (.int on), some (.int tw), some (.int th)] [] _ _
            refine am_e35 hi_180_371 ?_
            have q1 : mg_p1 gs = mg_p1 gs := rfl
            have q2 : mg_p2 gs = mg_p2 gs := rfl
            have q3 : mg_p3 gs = mg_p3 gs := rfl
            have q4 : mg_p4 gs = mg_p4 gs := rfl
            refine ⟨_, _, _, bc, rfl, hS290, Or.inl ⟨⟨(RJ.fewer (pj' := []) hR280_ (fun _ h => nomatch h)), ?_, ?_⟩, rfl, ?_⟩⟩
            · exact (mg_cast (mg_good_ext _ _ _ _ _ _ (fun i _ => by show gx281 34 i = g 34 i; rw [show gx281 34 = g'267 34 from hg283 34 (by decide), show g'267 34 = g'255 34 from h272_ 34 (by decide), show g'255 34 = g'238 34 from h260_ 34 (by decide), show g'238 34 = g 34 from h246_ 34 (by decide)]) (fun i _ => by show gx281 38 i = g 38 i; rw [show gx281 38 = g'267 38 from hg283 38 (by decide), show g'267 38 = g'255 38 from h272_ 38 (by decide), show g'255 38 = g'238 38 from h260_ 38 (by decide), show g'238 38 = g 38 from h246_ 38 (by decide)]) (fun i _ => by show gx281 23 i = g 23 i; rw [show gx281 23 = g'267 23 from hg283 23 (by decide), show g'267 23 = g'255 23 from h272_ 23 (by decide), show g'255 23 = g'238 23 from h260_ 23 (by decide), show g'238 23 = g 23 from h246_ 23 (by decide)]) hrest) (by show (f 15).toInt + -1 = z0.toInt; omega) (by show tw.toInt = tw.toInt; omega) (by show (f 37).toInt + 0 = (f 37).toInt; omega) (by show (f 32).toInt + 0 = (f 32).toInt; omega) (by show (f 5).toInt + 0 = (f 5).toInt; omega) : mg_good (gx281 34) (gx281 38) (gx281 23) gs (z0.toInt) (tw.toInt) ((f 37).toInt) ((f 32).toInt) ((f 5).toInt))
            · exact ⟨(by show 0 ≤ (f 4).toInt; omega), (by show (f 4).toInt ≤ (f 0).toInt; omega), (by show (f 0).toInt ≤ 512; omega), (by show 0 ≤ (f 24).toInt; omega), (by show (f 24).toInt + tw.toInt + mg_p1 gs ≤ 4 * (f 4).toInt; omega), (by show tw.toInt ≤ (f 4).toInt; omega), (by show z0.toInt + mg_p2 gs ≤ (f 4).toInt; omega), (by show mg_p3 gs ≤ 20 * (f 4).toInt + 20; omega), (by show 0 ≤ s277.toInt; omega), (by show s277.toInt + 3 * tw.toInt + mg_p4 gs ≤ 60 * (f 4).toInt + 60; omega), (by show 0 ≤ o235.toInt; omega), (by show o235.toInt + 64 * mj_n (gx281 16) z0.toNatClampNeg 3 ≤ 64 * (f 4).toInt; rw [show gx281 16 = g'267 16 from hg283 16 (by decide), show g'267 16 = g'255 16 from h272_ 16 (by decide), show g'255 16 = g'238 16 from h260_ 16 (by decide)]; omega), (by show 0 ≤ (f 44).toInt; omega), (by show (f 44).toInt ≤ (f 4).toInt; omega), (by show 0 ≤ (f 48).toInt; omega), (by show (f 48).toInt ≤ (f 4).toInt; omega), (by show 1 ≤ (f 53).toInt; omega), (by show (f 53).toInt ≤ (f 4).toInt + 1; omega), (by show 0 ≤ (f 19).toInt; omega), (by show (f 19).toInt ≤ 600; omega), (by show 0 ≤ (f 6).toInt; omega), (by show 0 ≤ (f 8).toInt; omega)⟩
            · show 100 * ((f 0).toInt - (f 4).toInt) + mg_p3 gs < 100 * ((f 0).toInt - (f 4).toInt) + (1 + mg_p3 gs); omega
          · refine am_e12f hi_265_103 (am_cF (m := c275.toInt) (n := (0 : Int)) rfl (by decide) c288) ?_
            refine am_e2 (v := 39) hi_265_106 rfl ?_
            refine am_e0 hi_265_107 ?_
            refine am_e0 hi_265_109 ?_
            refine am_e1 (v := c275) hi_265_110 rfl ?_
            obtain ⟨z291, hz291, tz291⟩ := am_mulI (x := 2) (y := c275) (m := (2 : Int)) (n := c275.toInt) (by decide) rfl (by omega) (by omega)
            refine am_e10 (z := z291) hi_265_111 hz291 ?_
            refine am_e0 hi_265_112 ?_
            refine am_e0 hi_265_113 ?_
            refine am_e32n (as := [.ref 39, .int 26, .int z291, .int 0, .int 0]) (la := [some (.ref 39), some (.int 26), some (.int z291), some (.int 0), some (.int 0)]) (rest := []) hi_265_114 (am_hd0 (M := 265) (by decide) 114) (Nat.le_of_ble_eq_true rfl) (Nat.le_of_ble_eq_true rfl) (show 5 ≤ am_P0.2.2.1 189 from by decide +kernel) rfl (am_recv_ok hS279.fs) rfl rfl (ct_put (d := (d + 6)) hS279 hR280_  (by show (0 : Int) ≤ (f 32).toInt; omega) (by show (f 32).toInt ≤ (63 : Int); omega) (by show (f 53).toInt ≤ (4096 : Int); omega) (by show (0 : Int) ≤ s277.toInt; omega) (by show s277.toInt ≤ (65534 : Int); omega)) ?_
            rintro v292 S293 (⟨z294, r295, g'296, hv297, hS298, hR302, h299, h300, h301⟩)
            subst hv297
            have h299_ : z294.toInt = s277.toInt + 1 := h299
            have h300_ : r295.toInt = s277.toInt := h300
            have h301_ : ∀ j, j ∉ [60, 69, 70, 71, 72, 73] → g'296 j = gx281 j := h301
            replace hS298 : MS S0 S293 (upd (upd (upd (upd f 15 z0) 62 o235) 68 z294) 75 m237) g'296 := hS298
            have hR302_ : RJ (upd (upd (upd (upd f 15 z0) 62 o235) 68 z294) 75 m237) g'296 gs bc [] 0 (s277.toNatClampNeg :: (s254.toNatClampNeg :: [])) := hR302
            show am_E _ _ _ _ [some (.ref 39), some (.int on), some (.int tw), some (.int c275), some (.int j276), x5282] [.int r295] _ _
            refine am_e6i hi_265_117 ?_
            refine am_e2 (v := 39) hi_265_118 rfl ?_
            refine am_e1 (v := tw) hi_265_119 rfl ?_
            refine mm_21 (v := tw) hS298 hi_265_120 rfl (Nat.le_of_ble_eq_true rfl) ms_20 ?_
            intro S303 hS304
            replace hS304 : MS S0 S303 (upd (upd (upd (upd (upd f 15 z0) 20 tw) 62 o235) 68 z294) 75 m237) g'296 := hS304
            refine am_e35 hi_265_123 ?_
            show am_E _ _ _ _ [some (.ref 39), some (.int 22), some (.int on), some (.int tw), some (.int th)] [] _ _
            refine am_e35 hi_180_371 ?_
            have q1 : mg_p1 gs = mg_p1 gs := rfl
            have q2 : mg_p2 gs = mg_p2 gs := rfl
            have q3 : mg_p3 gs = mg_p3 gs := rfl
            have q4 : mg_p4 gs = mg_p4 gs := rfl
            refine ⟨_, _, _, bc, rfl, hS304, Or.inl ⟨⟨(RJ.fewer (pj' := []) hR302_ (fun _ h => nomatch h)), ?_, ?_⟩, rfl, ?_⟩⟩
            · exact (mg_cast (mg_good_ext _ _ _ _ _ _ (fun i _ => by show g'296 34 i = g 34 i; rw [show g'296 34 = gx281 34 from h301_ 34 (by decide), show gx281 34 = g'267 34 from hg283 34 (by decide), show g'267 34 = g'255 34 from h272_ 34 (by decide), show g'255 34 = g'238 34 from h260_ 34 (by decide), show g'238 34 = g 34 from h246_ 34 (by decide)]) (fun i _ => by show g'296 38 i = g 38 i; rw [show g'296 38 = gx281 38 from h301_ 38 (by decide), show gx281 38 = g'267 38 from hg283 38 (by decide), show g'267 38 = g'255 38 from h272_ 38 (by decide), show g'255 38 = g'238 38 from h260_ 38 (by decide), show g'238 38 = g 38 from h246_ 38 (by decide)]) (fun i _ => by show g'296 23 i = g 23 i; rw [show g'296 23 = gx281 23 from h301_ 23 (by decide), show gx281 23 = g'267 23 from hg283 23 (by decide), show g'267 23 = g'255 23 from h272_ 23 (by decide), show g'255 23 = g'238 23 from h260_ 23 (by decide), show g'238 23 = g 23 from h246_ 23 (by decide)]) hrest) (by show (f 15).toInt + -1 = z0.toInt; omega) (by show tw.toInt = tw.toInt; omega) (by show (f 37).toInt + 0 = (f 37).toInt; omega) (by show (f 32).toInt + 0 = (f 32).toInt; omega) (by show (f 5).toInt + 0 = (f 5).toInt; omega) : mg_good (g'296 34) (g'296 38) (g'296 23) gs (z0.toInt) (tw.toInt) ((f 37).toInt) ((f 32).toInt) ((f 5).toInt))
            · exact ⟨(by show 0 ≤ (f 4).toInt; omega), (by show (f 4).toInt ≤ (f 0).toInt; omega), (by show (f 0).toInt ≤ 512; omega), (by show 0 ≤ (f 24).toInt; omega), (by show (f 24).toInt + tw.toInt + mg_p1 gs ≤ 4 * (f 4).toInt; omega), (by show tw.toInt ≤ (f 4).toInt; omega), (by show z0.toInt + mg_p2 gs ≤ (f 4).toInt; omega), (by show mg_p3 gs ≤ 20 * (f 4).toInt + 20; omega), (by show 0 ≤ z294.toInt; omega), (by show z294.toInt + 3 * tw.toInt + mg_p4 gs ≤ 60 * (f 4).toInt + 60; omega), (by show 0 ≤ o235.toInt; omega), (by show o235.toInt + 64 * mj_n (g'296 16) z0.toNatClampNeg 3 ≤ 64 * (f 4).toInt; rw [show g'296 16 = gx281 16 from h301_ 16 (by decide), show gx281 16 = g'267 16 from hg283 16 (by decide), show g'267 16 = g'255 16 from h272_ 16 (by decide), show g'255 16 = g'238 16 from h260_ 16 (by decide)]; omega), (by show 0 ≤ (f 44).toInt; omega), (by show (f 44).toInt ≤ (f 4).toInt; omega), (by show 0 ≤ (f 48).toInt; omega), (by show (f 48).toInt ≤ (f 4).toInt; omega), (by show 1 ≤ (f 53).toInt; omega), (by show (f 53).toInt ≤ (f 4).toInt + 1; omega), (by show 0 ≤ (f 19).toInt; omega), (by show (f 19).toInt ≤ 600; omega), (by show 0 ≤ (f 6).toInt; omega), (by show 0 ≤ (f 8).toInt; omega)⟩
            · show 100 * ((f 0).toInt - (f 4).toInt) + mg_p3 gs < 100 * ((f 0).toInt - (f 4).toInt) + (1 + mg_p3 gs); omega
      · refine am_e13f hi_258_9 (am_cF (m := (f 19).toInt) (n := on.toInt) rfl rfl c232) ?_
        refine am_e2 (v := 39) hi_258_12 rfl ?_
        refine am_e32w (as := [.ref 39]) (la := [some (.ref 39), none]) (rest := []) hi_258_13 (am_hd0 (M := 258) (by decide) 13) (Nat.le_of_ble_eq_true rfl) (Nat.le_of_ble_eq_true rfl) (show 1 ≤ am_P0.2.2.1 217 from by decide +kernel) rfl (am_recv_ok hS.fs) rfl rfl ?_
        refine am_e2 (v := 39) hi_217_0 rfl ?_
        refine mm_20 (v := .ref 47) hS hi_217_1 rfl ?_
        refine am_e2 (v := 39) hi_217_4 rfl ?_
        refine mm_20 (v := .int (f 15)) hS hi_217_5 rfl ?_
        refine am_e0 hi_217_8 ?_
        refine am_e10 (z := z0) hi_217_9 hz0 ?_
        refine mm_25 hS ma_17 hi_217_10 (by decide) (by omega) (by omega) ?_
        show am_E _ _ _ _ [some (.ref 39), none] [.int (g 17 z0.toNatClampNeg)] _ _
        have r305 : (g 16 z0.toNatClampNeg).toInt = 1 ∨ (g 16 z0.toNatClampNeg).toInt = 2 → 0 ≤ (g 17 z0.toNatClampNeg).toInt ∧ (g 17 z0.toNatClampNeg).toInt < 65536 := RJ.vc hR z0.toNatClampNeg
        refine am_e3 (ls' := [some (.ref 39), some (.int (g 17 z0.toNatClampNeg))]) hi_217_11 (Nat.le_of_ble_eq_true rfl) rfl ?_
        refine am_e2 (v := 39) hi_217_12 rfl ?_
        refine mm_20 (v := .ref 91) hS hi_217_13 rfl ?_
        refine am_e1 (v := g 17 z0.toNatClampNeg) hi_217_16 rfl ?_
        refine am_e2 (v := 39) hi_217_17 rfl ?_
        refine mm_20 (v := .ref 46) hS hi_217_18 rfl ?_
        refine am_e2 (v := 39) hi_217_21 rfl ?_
        refine mm_20 (v := .int (f 15)) hS hi_217_22 rfl ?_
        refine am_e0 hi_217_25 ?_
        refine am_e10 (z := z0) hi_217_26 hz0 ?_
        refine mm_25 hS ma_16 hi_217_27 (by decide) (by omega) (by omega) ?_
        show am_E _ _ _ _ [some (.ref 39), some (.int (g 17 z0.toNatClampNeg))] [.int (g 16 z0.toNatClampNeg), .int (g 17 z0.toNatClampNeg), .ref 91] _ _
        refine am_e0 hi_217_28 ?_
        refine am_e13t hi_217_29 (am_cT (m := (g 16 z0.toNatClampNeg).toInt) (n := (1 : Int)) rfl (by decide) (by simp only [am_cI]; omega)) ?_
        refine am_e0 hi_217_45 ?_
        refine mm_26 hS ma_72 hi_217_46 (by decide) (by omega) (by omega) (fun h => nomatch h) ?_
        intro S306 hS307
        refine am_e2 (v := 39) hi_217_47 rfl ?_
        refine am_e7 hi_217_48 ?_
        refine mm_20 (v := .int (f 15)) hS307 hi_217_49 rfl ?_
        refine am_e0 hi_217_52 ?_
        refine am_e10 (z := z0) hi_217_53 hz0 ?_
        refine mm_21 (v := z0) hS307 hi_217_54 rfl (Nat.le_of_ble_eq_true rfl) ms_15 ?_
        intro S308 hS309
        have hp310 : mj_n (g 16) (f 15).toNatClampNeg 3 = mj_n (g 16) z0.toNatClampNeg 3 + if (g 16 z0.toNatClampNeg).toInt = 3 then 1 else 0 := mj_pop (by rw [cl_toNat, cl_toNat]; omega)
        have hp3101 : mj_n (g 16) z0.toNatClampNeg 3 ≤ mj_n (g 16) (f 15).toNatClampNeg 3 := by rw [hp310]; split <;> omega
        have hp3102 : (g 16 z0.toNatClampNeg).toInt = 3 → mj_n (g 16) z0.toNatClampNeg 3 + 1 ≤ mj_n (g 16) (f 15).toNatClampNeg 3 := fun q => by rw [hp310, if_pos q]; exact Int.le_refl _
        refine am_e35 hi_217_57 ?_
        show am_E _ _ _ _ [some (.ref 39), some (.int on), some (.int (f 19))] [] _ _
        refine am_e2 (v := 39) hi_258_16 rfl ?_
        refine am_e0 hi_258_17 ?_
        refine am_e1 (v := on) hi_258_19 rfl ?_
        refine am_e1 (v := f 19) hi_258_20 rfl ?_
        obtain ⟨z311, hz311, tz311⟩ := am_subI (x := on) (y := f 19) (m := on.toInt) (n := (f 19).toInt) rfl rfl (by omega) (by omega)
        refine am_e10 (z := z311) hi_258_21 hz311 ?_
        refine am_e0 hi_258_22 ?_
        obtain ⟨z312, hz312, tz312⟩ := am_addI (x := z311) (y := 1) (m := z311.toInt) (n := (1 : Int)) rfl (by decide) (by omega) (by omega)
        refine am_e10 (z := z312) hi_258_23 hz312 ?_
        refine am_e0 hi_258_24 ?_
        refine am_e0 hi_258_25 ?_
        refine am_e32n (as := [.ref 39, .int 25, .int z312, .int 0, .int 0]) (la := [some (.ref 39), some (.int 25), some (.int z312), some (.int 0), some (.int 0)]) (rest := []) hi_258_26 (am_hd0 (M := 258) (by decide) 26) (Nat.le_of_ble_eq_true rfl) (Nat.le_of_ble_eq_true rfl) (show 5 ≤ am_P0.2.2.1 189 from by decide +kernel) rfl (am_recv_ok hS309.fs) rfl rfl (ct_put (d := (d + 5)) hS309 hR  (by show (0 : Int) ≤ (f 32).toInt; omega) (by show (f 32).toInt ≤ (63 : Int); omega) (by show (f 53).toInt ≤ (4096 : Int); omega) (by show (0 : Int) ≤ (f 68).toInt; omega) (by show (f 68).toInt ≤ (65534 : Int); omega)) ?_
        rintro v313 S314 (⟨z315, r316, g'317, hv318, hS319, hR323, h320, h321, h322⟩)
        subst hv318
        have h320_ : z315.toInt = (f 68).toInt + 1 := h320
        have h321_ : r316.toInt = (f 68).toInt := h321
        have h322_ : ∀ j, j ∉ [60, 69, 70, 71, 72, 73] → g'317 j = (upg g 72 (g 17 z0.toNatClampNeg).toNatClampNeg 0) j := h322
        have hR323_ : RJ (upd (upd f 15 z0) 68 z315) g'317 gs bc [] 0 ((f 68).toNatClampNeg :: []) := hR323
        show am_E _ _ _ _ [some (.ref 39), some (.int on), some (.int (f 19))] [.int r316] _ _
        refine am_e6i hi_258_29 ?_
        refine am_e35 hi_258_30 ?_
        show am_E _ _ _ _ [some (.ref 39), some (.int on), some (.int tw), none, none, none] [] _ _
        refine am_e0 hi_265_9 ?_
        refine am_e3 (ls' := [some (.ref 39), some (.int on), some (.int tw), some (.int 0), none, none]) hi_265_10 (Nat.le_of_ble_eq_true rfl) rfl ?_
        refine am_e1 (v := on) hi_265_11 rfl ?_
        refine am_e0 hi_265_12 ?_
        obtain ⟨z324, hz324, tz324⟩ := am_subI (x := on) (y := 1) (m := on.toInt) (n := (1 : Int)) rfl (by decide) (by omega) (by omega)
        refine am_e10 (z := z324) hi_265_13 hz324 ?_
        refine am_e3 (ls' := [some (.ref 39), some (.int on), some (.int tw), some (.int 0), some (.int z324), none]) hi_265_14 (Nat.le_of_ble_eq_true rfl) rfl ?_
        refine fr_assign (d := (d + 2)) (f := (upd (upd f 15 z0) 68 z315)) (g := g'317) (m := on) (k := tw)  (by show (0 : Int) ≤ (f 32).toInt; omega) (by show (f 32).toInt ≤ (63 : Int); omega) (by show (f 53).toInt ≤ (4096 : Int); omega) (by show (0 : Int) ≤ z315.toInt; omega) (by show z315.toInt + on.toInt ≤ 65534; omega) (by show (0 : Int) ≤ tw.toInt; omega) (by show (0 : Int) ≤ on.toInt; omega) (by show tw.toInt + on.toInt ≤ 16384; omega) ?_ ((z324.toInt + 1).toNat + 1) _ none 0 z324 z315 _ hS319 hR323_ (fun _ _ => rfl) (by show (0 : Int) ≤ (0 : Int); omega) (by show (0 : Int) + z324.toInt + 1 ≤ on.toInt; omega) (by show (-1 : Int) ≤ z324.toInt; omega) (by show z315.toInt ≤ z315.toInt; omega) (by show z315.toInt + z324.toInt + 1 ≤ z315.toInt + on.toInt; omega) (by show z324.toInt + 1 < _; omega)
        · intro S328 x5332 c325 j326 s327 gx331 hS329 hR330 hg333 h334 h335 h336 h337
          replace hS329 : MS S0 S328 (upd (upd f 15 z0) 68 s327) gx331 := hS329
          have h334_ : (0 : Int) ≤ c325.toInt := h334
          have h335_ : c325.toInt ≤ on.toInt := h335
          have h336_ : z315.toInt ≤ s327.toInt := h336
          have h337_ : s327.toInt ≤ z315.toInt + on.toInt := h337
          have hR330_ : RJ (upd (upd f 15 z0) 68 s327) gx331 gs bc [] 0 ((f 68).toNatClampNeg :: []) := hR330
          show am_E _ _ _ _ [some (.ref 39), some (.int on), some (.int tw), some (.int c325), some (.int j326), x5332] [] _ _
          refine am_e1 (v := c325) hi_265_102 rfl ?_
          by_cases c338 : c325.toInt ≤ (0 : Int)
          · refine am_e12t hi_265_103 (am_cT (m := c325.toInt) (n := (0 : Int)) rfl (by decide) c338) ?_
            refine am_e2 (v := 39) hi_265_118 rfl ?_
            refine am_e1 (v := tw) hi_265_119 rfl ?_
            refine mm_21 (v := tw) hS329 hi_265_120 rfl (Nat.le_of_ble_eq_true rfl) ms_20 ?_
            intro S339 hS340
            replace hS340 : MS S0 S339 (upd (upd (upd f 15 z0) 20 tw) 68 s327) gx331 := hS340
            refine am_e35 hi_265_123 ?_
            show am_E _ _ _ _ [some (.ref 39), some (.int 22), some (.int on), some (.int tw), some (.int th)] [] _ _
            refine am_e35 hi_180_371 ?_
            have q1 : mg_p1 gs = mg_p1 gs := rfl
            have q2 : mg_p2 gs = mg_p2 gs := rfl
            have q3 : mg_p3 gs = mg_p3 gs := rfl
            have q4 : mg_p4 gs = mg_p4 gs := rfl
            refine ⟨_, _, _, bc, rfl, hS340, Or.inl ⟨⟨(RJ.fewer (pj' := []) hR330_ (fun _ h => nomatch h)), ?_, ?_⟩, rfl, ?_⟩⟩
            · exact (mg_cast (mg_good_ext _ _ _ _ _ _ (fun i _ => by show gx331 34 i = g 34 i; rw [show gx331 34 = g'317 34 from hg333 34 (by decide), show g'317 34 = g 34 from h322_ 34 (by decide)]) (fun i _ => by show gx331 38 i = g 38 i; rw [show gx331 38 = g'317 38 from hg333 38 (by decide), show g'317 38 = g 38 from h322_ 38 (by decide)]) (fun i _ => by show gx331 23 i = g 23 i; rw [show gx331 23 = g'317 23 from hg333 23 (by decide), show g'317 23 = g 23 from h322_ 23 (by decide)]) hrest) (by show (f 15).toInt + -1 = z0.toInt; omega) (by show tw.toInt = tw.toInt; omega) (by show (f 37).toInt + 0 = (f 37).toInt; omega) (by show (f 32).toInt + 0 = (f 32).toInt; omega) (by show (f 5).toInt + 0 = (f 5).toInt; omega) : mg_good (gx331 34) (gx331 38) (gx331 23) gs (z0.toInt) (tw.toInt) ((f 37).toInt) ((f 32).toInt) ((f 5).toInt))
            · exact ⟨(by show 0 ≤ (f 4).toInt; omega), (by show (f 4).toInt ≤ (f 0).toInt; omega), (by show (f 0).toInt ≤ 512; omega), (by show 0 ≤ (f 24).toInt; omega), (by show (f 24).toInt + tw.toInt + mg_p1 gs ≤ 4 * (f 4).toInt; omega), (by show tw.toInt ≤ (f 4).toInt; omega), (by show z0.toInt + mg_p2 gs ≤ (f 4).toInt; omega), (by show mg_p3 gs ≤ 20 * (f 4).toInt + 20; omega), (by show 0 ≤ s327.toInt; omega), (by show s327.toInt + 3 * tw.toInt + mg_p4 gs ≤ 60 * (f 4).toInt + 60; omega), (by show 0 ≤ (f 62).toInt; omega), (by show (f 62).toInt + 64 * mj_n (gx331 16) z0.toNatClampNeg 3 ≤ 64 * (f 4).toInt; rw [show gx331 16 = g'317 16 from hg333 16 (by decide), show g'317 16 = g 16 from h322_ 16 (by decide)]; omega), (by show 0 ≤ (f 44).toInt; omega), (by show (f 44).toInt ≤ (f 4).toInt; omega), (by show 0 ≤ (f 48).toInt; omega), (by show (f 48).toInt ≤ (f 4).toInt; omega), (by show 1 ≤ (f 53).toInt; omega), (by show (f 53).toInt ≤ (f 4).toInt + 1; omega), (by show 0 ≤ (f 19).toInt; omega), (by show (f 19).toInt ≤ 600; omega), (by show 0 ≤ (f 6).toInt; omega), (by show 0 ≤ (f 8).toInt; omega)⟩
            · show 100 * ((f 0).toInt - (f 4).toInt) + mg_p3 gs < 100 * ((f 0).toInt - (f 4).toInt) + (1 + mg_p3 gs); omega
          · refine am_e12f hi_265_103 (am_cF (m := c325.toInt) (n := (0 : Int)) rfl (by decide) c338) ?_
            refine am_e2 (v := 39) hi_265_106 rfl ?_
            refine am_e0 hi_265_107 ?_
            refine am_e0 hi_265_109 ?_
            refine am_e1 (v := c325) hi_265_110 rfl ?_
            obtain ⟨z341, hz341, tz341⟩ := am_mulI (x := 2) (y := c325) (m := (2 : Int)) (n := c325.toInt) (by decide) rfl (by omega) (by omega)
            refine am_e10 (z := z341) hi_265_111 hz341 ?_
            refine am_e0 hi_265_112 ?_
            refine am_e0 hi_265_113 ?_
            refine am_e32n (as := [.ref 39, .int 26, .int z341, .int 0, .int 0]) (la := [some (.ref 39), some (.int 26), some (.int z341), some (.int 0), some (.int 0)]) (rest := []) hi_265_114 (am_hd0 (M := 265) (by decide) 114) (Nat.le_of_ble_eq_true rfl) (Nat.le_of_ble_eq_true rfl) (show 5 ≤ am_P0.2.2.1 189 from by decide +kernel) rfl (am_recv_ok hS329.fs) rfl rfl (ct_put (d := (d + 6)) hS329 hR330_  (by show (0 : Int) ≤ (f 32).toInt; omega) (by show (f 32).toInt ≤ (63 : Int); omega) (by show (f 53).toInt ≤ (4096 : Int); omega) (by show (0 : Int) ≤ s327.toInt; omega) (by show s327.toInt ≤ (65534 : Int); omega)) ?_
            rintro v342 S343 (⟨z344, r345, g'346, hv347, hS348, hR352, h349, h350, h351⟩)
            subst hv347
            have h349_ : z344.toInt = s327.toInt + 1 := h349
            have h350_ : r345.toInt = s327.toInt := h350
            have h351_ : ∀ j, j ∉ [60, 69, 70, 71, 72, 73] → g'346 j = gx331 j := h351
            replace hS348 : MS S0 S343 (upd (upd f 15 z0) 68 z344) g'346 := hS348
            have hR352_ : RJ (upd (upd f 15 z0) 68 z344) g'346 gs bc [] 0 (s327.toNatClampNeg :: ((f 68).toNatClampNeg :: [])) := hR352
            show am_E _ _ _ _ [some (.ref 39), some (.int on), some (.int tw), some (.int c325), some (.int j326), x5332] [.int r345] _ _
            refine am_e6i hi_265_117 ?_
            refine am_e2 (v := 39) hi_265_118 rfl ?_
            refine am_e1 (v := tw) hi_265_119 rfl ?_
            refine mm_21 (v := tw) hS348 hi_265_120 rfl (Nat.le_of_ble_eq_true rfl) ms_20 ?_
            intro S353 hS354
            replace hS354 : MS S0 S353 (upd (upd (upd f 15 z0) 20 tw) 68 z344) g'346 := hS354
            refine am_e35 hi_265_123 ?_
            show am_E _ _ _ _ [some (.ref 39), some (.int 22), some (.int on), some (.int tw), some (.int th)] [] _ _
            refine am_e35 hi_180_371 ?_
            have q1 : mg_p1 gs = mg_p1 gs := rfl
            have q2 : mg_p2 gs = mg_p2 gs := rfl
            have q3 : mg_p3 gs = mg_p3 gs := rfl
            have q4 : mg_p4 gs = mg_p4 gs := rfl
            refine ⟨_, _, _, bc, rfl, hS354, Or.inl ⟨⟨(RJ.fewer (pj' := []) hR352_ (fun _ h => nomatch h)), ?_, ?_⟩, rfl, ?_⟩⟩
            · exact (mg_cast (mg_good_ext _ _ _ _ _ _ (fun i _ => by show g'346 34 i = g 34 i; rw [show g'346 34 = gx331 34 from h351_ 34 (by decide), show gx331 34 = g'317 34 from hg333 34 (by decide), show g'317 34 = g 34 from h322_ 34 (by decide)]) (fun i _ => by show g'346 38 i = g 38 i; rw [show g'346 38 = gx331 38 from h351_ 38 (by decide), show gx331 38 = g'317 38 from hg333 38 (by decide), show g'317 38 = g 38 from h322_ 38 (by decide)]) (fun i _ => by show g'346 23 i = g 23 i; rw [show g'346 23 = gx331 23 from h351_ 23 (by decide), show gx331 23 = g'317 23 from hg333 23 (by decide), show g'317 23 = g 23 from h322_ 23 (by decide)]) hrest) (by show (f 15).toInt + -1 = z0.toInt; omega) (by show tw.toInt = tw.toInt; omega) (by show (f 37).toInt + 0 = (f 37).toInt; omega) (by show (f 32).toInt + 0 = (f 32).toInt; omega) (by show (f 5).toInt + 0 = (f 5).toInt; omega) : mg_good (g'346 34) (g'346 38) (g'346 23) gs (z0.toInt) (tw.toInt) ((f 37).toInt) ((f 32).toInt) ((f 5).toInt))
            · exact ⟨(by show 0 ≤ (f 4).toInt; omega), (by show (f 4).toInt ≤ (f 0).toInt; omega), (by show (f 0).toInt ≤ 512; omega), (by show 0 ≤ (f 24).toInt; omega), (by show (f 24).toInt + tw.toInt + mg_p1 gs ≤ 4 * (f 4).toInt; omega), (by show tw.toInt ≤ (f 4).toInt; omega), (by show z0.toInt + mg_p2 gs ≤ (f 4).toInt; omega), (by show mg_p3 gs ≤ 20 * (f 4).toInt + 20; omega), (by show 0 ≤ z344.toInt; omega), (by show z344.toInt + 3 * tw.toInt + mg_p4 gs ≤ 60 * (f 4).toInt + 60; omega), (by show 0 ≤ (f 62).toInt; omega), (by show (f 62).toInt + 64 * mj_n (g'346 16) z0.toNatClampNeg 3 ≤ 64 * (f 4).toInt; rw [show g'346 16 = gx331 16 from h351_ 16 (by decide), show gx331 16 = g'317 16 from hg333 16 (by decide), show g'317 16 = g 16 from h322_ 16 (by decide)]; omega), (by show 0 ≤ (f 44).toInt; omega), (by show (f 44).toInt ≤ (f 4).toInt; omega), (by show 0 ≤ (f 48).toInt; omega), (by show (f 48).toInt ≤ (f 4).toInt; omega), (by show 1 ≤ (f 53).toInt; omega), (by show (f 53).toInt ≤ (f 4).toInt + 1; omega), (by show 0 ≤ (f 19).toInt; omega), (by show (f 19).toInt ≤ 600; omega), (by show 0 ≤ (f 6).toInt; omega), (by show 0 ≤ (f 8).toInt; omega)⟩
            · show 100 * ((f 0).toInt - (f 4).toInt) + mg_p3 gs < 100 * ((f 0).toInt - (f 4).toInt) + (1 + mg_p3 gs); omega
