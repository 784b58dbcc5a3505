/-! STEPS: targets (printed by wip/p2/st2.py) -/
set_option maxHeartbeats 16000000 in
theorem st_21 {sc : Nat × (Nat → Int32)} {d : Nat} {S0 S : am_S} {f : Nat → Int32} {g : Nat → Nat → Int32} {on : Int32} {tw : Int32} {th : Int32} {gs : List mg_E} {bc : List (List Nat)} (hS : MS S0 S f g) (hR : RJ f g gs bc [] 0 []) (hrest : mg_good (g 34) (g 38) (g 23) gs ((f 15).toInt + -1) (tw.toInt) ((f 37).toInt + 0) ((f 32).toInt + 0) ((f 5).toInt + 0)) (p0 : 0 ≤ (f 4).toInt) (p1 : (f 4).toInt ≤ (f 0).toInt) (p2 : (f 0).toInt ≤ 512) (p3 : 0 ≤ (f 24).toInt) (p4 : (f 24).toInt + (f 20).toInt + mg_p1 gs ≤ 4 * (f 4).toInt) (p5 : (f 20).toInt ≤ (f 4).toInt) (p6 : (f 15).toInt + 0 + mg_p2 gs ≤ (f 4).toInt) (p7 : 1 + mg_p3 gs ≤ 20 * (f 4).toInt + 20) (p8 : 0 ≤ (f 68).toInt) (p9 : (f 68).toInt + 3 * (f 20).toInt + 0 + mg_p4 gs ≤ 60 * (f 4).toInt + 60) (p10 : 0 ≤ (f 62).toInt) (p11 : (f 62).toInt + 64 * mj_n (g 16) (f 15).toNatClampNeg 3 ≤ 64 * (f 4).toInt) (p12 : 0 ≤ (f 44).toInt) (p13 : (f 44).toInt ≤ (f 4).toInt) (p14 : 0 ≤ (f 48).toInt) (p15 : (f 48).toInt ≤ (f 4).toInt) (p16 : 1 ≤ (f 53).toInt) (p17 : (f 53).toInt ≤ (f 4).toInt + 1) (p18 : 0 ≤ (f 19).toInt) (p19 : (f 19).toInt ≤ 600) (p20 : 0 ≤ (f 6).toInt) (p21 : 0 ≤ (f 8).toInt) (p22 : 0 ≤ mg_p1 gs) (p23 : 0 ≤ mg_p2 gs) (p24 : 0 ≤ mg_p4 gs) (p25 : 0 ≤ (f 10).toInt) (p26 : (f 10).toInt ≤ mg_p3 gs) (p27 : 0 ≤ mj_n (g 16) (f 15).toNatClampNeg 3) (p28 : 1 ≤ (f 15).toInt) (p29 : 0 ≤ (f 20).toInt) (p30 : 1 ≤ (f 37).toInt) (p31 : 0 ≤ (f 32).toInt) (p32 : (f 32).toInt ≤ (f 5).toInt) (p33 : (f 5).toInt ≤ 48) (p34 : (f 37).toInt ≤ 2 * (f 5).toInt + 1) (p35 : 0 ≤ on.toInt) (p36 : 0 ≤ tw.toInt) (p37 : (f 20).toInt = tw.toInt + on.toInt) : am_E (am_PP sc) (d + 8) 180 0 [some (.ref 39), some (.int 21), some (.int on), some (.int tw), some (.int th)] [] S (am_N fun v S1 => ∃ (f' : Nat → Int32) (g' : Nat → Nat → Int32) (gs' : List mg_E) (bc' : List (List Nat)), v = none ∧ MS S0 S1 f' g' ∧ (mg_on f (100 * ((f 0).toInt - (f 4).toInt) + (1 + mg_p3 gs)) f' g' gs' bc' ∨ mg_off f f' g' bc')) := by
  have hbs := mg_basic hrest
  refine am_e1 (v := 21) hi_180_0 rfl ?_
  refine am_e0 hi_180_1 ?_
  refine am_e13t hi_180_3 (by decide) ?_
  refine am_e1 (v := 21) hi_180_14 rfl ?_
  refine am_e19 (t := 356) hi_180_15 (by decide) ?_
  refine am_e2 (v := 39) hi_180_356 rfl ?_
  refine am_e1 (v := on) hi_180_357 rfl ?_
  refine am_e1 (v := tw) hi_180_358 rfl ?_
  refine am_e32w (as := [.ref 39, .int on, .int tw]) (la := [some (.ref 39), some (.int on), some (.int tw), none, none, none, none, none]) (rest := []) hi_180_359 (am_hd0 (M := 180) (by decide) 359) (Nat.le_of_ble_eq_true rfl) (Nat.le_of_ble_eq_true rfl) (show 3 ≤ am_P0.2.2.1 264 from by decide +kernel) rfl (am_recv_ok hS.fs) rfl rfl ?_
  refine am_e2 (v := 39) hi_264_0 rfl ?_
  refine mm_20 (v := .ref 46) hS hi_264_1 rfl ?_
  refine am_e2 (v := 39) hi_264_4 rfl ?_
  refine mm_20 (v := .int (f 15)) hS hi_264_5 rfl ?_
  refine am_e0 hi_264_8 ?_
  obtain ⟨z0, hz0, tz0⟩ := am_subI (x := f 15) (y := 1) (m := (f 15).toInt) (n := (1 : Int)) rfl (by decide) (by omega) (by omega)
  refine am_e10 (z := z0) hi_264_9 hz0 ?_
  refine mm_25 hS ma_16 hi_264_10 (by decide) (by omega) (by omega) ?_
  show am_E _ _ _ _ [some (.ref 39), some (.int on), some (.int tw), none, none, none, none, none] [.int (g 16 z0.toNatClampNeg)] _ _
  refine am_e3 (ls' := [some (.ref 39), some (.int on), some (.int tw), some (.int (g 16 z0.toNatClampNeg)), none, none, none, none]) hi_264_11 (Nat.le_of_ble_eq_true rfl) rfl ?_
  refine am_e2 (v := 39) hi_264_12 rfl ?_
  refine am_e32n (as := [.ref 39]) (la := [some (.ref 39)]) (rest := []) hi_264_13 (am_hd0 (M := 264) (by decide) 13) (Nat.le_of_ble_eq_true rfl) (Nat.le_of_ble_eq_true rfl) (show 1 ≤ am_P0.2.2.1 183 from by decide +kernel) rfl (am_recv_ok hS.fs) rfl rfl (ct_next (d := (d + 5)) hS   (by show (0 : Int) ≤ (f 4).toInt; omega) (by show (f 0).toInt ≤ (16384 : Int); omega)) ?_
  rintro v1 S2 (⟨r3, hv4, hS5, h6⟩)
  subst hv4
  have h6_ : (f 4).toInt < (f 0).toInt ∨ r3.toInt = (-1 : Int) := h6
  show am_E _ _ _ _ [some (.ref 39), some (.int on), some (.int tw), some (.int (g 16 z0.toNatClampNeg)), none, none, none, none] [.int r3] _ _
  refine am_e3 (ls' := [some (.ref 39), some (.int on), some (.int tw), some (.int (g 16 z0.toNatClampNeg)), some (.int r3), none, none, none]) hi_264_16 (Nat.le_of_ble_eq_true rfl) rfl ?_
  refine am_e1 (v := r3) hi_264_18 rfl ?_
  refine am_e0 hi_264_20 ?_
  by_cases c8 : r3.toInt = (59 : Int)
  · refine am_e13t hi_264_22 (am_cT (m := r3.toInt) (n := (59 : Int)) rfl (by decide) c8) ?_
    refine am_e0 hi_264_32 ?_
    refine am_e18 hi_264_33 ?_
    refine am_e3 (ls' := [some (.ref 39), some (.int on), some (.int tw), some (.int (g 16 z0.toNatClampNeg)), some (.int r3), some (.int 1), none, none]) hi_264_37 (Nat.le_of_ble_eq_true rfl) rfl ?_
    refine am_e1 (v := g 16 z0.toNatClampNeg) hi_264_39 rfl ?_
    refine am_e0 hi_264_40 ?_
    by_cases c9 : ¬ (g 16 z0.toNatClampNeg).toInt = (1 : Int)
    · refine am_e13t hi_264_41 (am_cT (m := (g 16 z0.toNatClampNeg).toInt) (n := (1 : Int)) rfl (by decide) c9) ?_
      refine am_e1 (v := g 16 z0.toNatClampNeg) hi_264_84 rfl ?_
      refine am_e0 hi_264_85 ?_
      by_cases c10 : (g 16 z0.toNatClampNeg).toInt < (3 : Int)
      · refine am_e13t hi_264_86 (am_cT (m := (g 16 z0.toNatClampNeg).toInt) (n := (3 : Int)) rfl (by decide) c10) ?_
        refine am_e2 (v := 39) hi_264_94 rfl ?_
        refine am_e0 hi_264_95 ?_
        refine am_e32n (as := [.ref 39, .int 7]) (la := [some (.ref 39), some (.int 7)]) (rest := []) hi_264_97 (am_hd0 (M := 264) (by decide) 97) (Nat.le_of_ble_eq_true rfl) (Nat.le_of_ble_eq_true rfl) (show 2 ≤ am_P0.2.2.1 194 from by decide +kernel) rfl (am_recv_ok hS5.fs) rfl rfl (ct_fail (d := (d + 6)) hS5   (by show (0 : Int) ≤ (7 : Int); omega) (by show (0 : Int) ≤ (f 6).toInt; omega)) ?_
        rintro v11 S12 (⟨a13, b14, hv15, hS16, h17⟩)
        subst hv15
        have h17_ : (0 : Int) ≤ a13.toInt := h17
        have hR19 := rj_clear0 hR
        have hR20 : RJ (upd (upd (upd f 6 a13) 7 b14) 10 0) g [] bc [] 0 [] := hR19
        show am_E _ _ _ _ [some (.ref 39), some (.int on), some (.int tw), some (.int (g 16 z0.toNatClampNeg)), some (.int r3), some (.int 1), none, none] [.int 0] _ _
        refine am_e6i hi_264_100 ?_
        refine am_e35 hi_264_101 ?_
        show am_E _ _ _ _ [some (.ref 39), some (.int 21), some (.int on), some (.int tw), some (.int th)] [] _ _
        refine am_e18 hi_180_362 ?_
        refine am_e35 hi_180_371 ?_
        have hRc := rj_clear0 hR20
        refine ⟨_, _, [], _, rfl, hS16, Or.inr ⟨hRc, rfl, (by show 0 ≤ (f 4).toInt; omega), (by show (f 4).toInt ≤ (f 0).toInt; omega), (by show 0 ≤ (f 32).toInt; omega), (by show (f 32).toInt ≤ 63; omega), (by show 1 ≤ (f 53).toInt; omega), (by show (f 53).toInt ≤ 600; omega), (by show 0 ≤ (f 68).toInt; omega), (by show (f 68).toInt ≤ 60000; omega), (by show 0 ≤ (f 48).toInt; omega), (by show (f 48).toInt ≤ 8000; omega), (by show 0 ≤ (f 37).toInt; omega), (by show (f 37).toInt ≤ 128; omega), (by show 0 ≤ (f 62).toInt; omega), (by show (f 62).toInt ≤ 65000; omega), (by show 0 ≤ (f 19).toInt; omega), (by show (f 19).toInt ≤ 600; omega), (by show 0 ≤ a13.toInt; omega), (by show 0 ≤ (f 8).toInt; omega)⟩⟩
      · refine am_e13f hi_264_86 (am_cF (m := (g 16 z0.toNatClampNeg).toInt) (n := (3 : Int)) rfl (by decide) c10) ?_
        refine am_e1 (v := 1) hi_264_89 rfl ?_
        refine am_e12t hi_264_91 (by decide) ?_
        refine am_e2 (v := 39) hi_264_102 rfl ?_
        refine mm_20 (v := .ref 48) hS5 hi_264_103 rfl ?_
        refine am_e2 (v := 39) hi_264_106 rfl ?_
        refine mm_20 (v := .int (f 15)) hS5 hi_264_107 rfl ?_
        refine am_e0 hi_264_110 ?_
        refine am_e10 (z := z0) hi_264_111 hz0 ?_
        refine mm_25 hS5 ma_18 hi_264_112 (by decide) (by omega) (by omega) ?_
        show am_E _ _ _ _ [some (.ref 39), some (.int on), some (.int tw), some (.int (g 16 z0.toNatClampNeg)), some (.int r3), some (.int 1), none, none] [.int (g 18 z0.toNatClampNeg)] _ _
        have r21 : (g 16 z0.toNatClampNeg).toInt = 3 → 0 ≤ (g 18 z0.toNatClampNeg).toInt ∧ (g 18 z0.toNatClampNeg).toInt < 16384 := RJ.vw hR z0.toNatClampNeg
        refine am_e3 (ls' := [some (.ref 39), some (.int on), some (.int tw), some (.int (g 16 z0.toNatClampNeg)), some (.int r3), some (.int 1), some (.int (g 18 z0.toNatClampNeg)), none]) hi_264_113 (Nat.le_of_ble_eq_true rfl) rfl ?_
        refine am_e1 (v := g 16 z0.toNatClampNeg) hi_264_115 rfl ?_
        refine am_e0 hi_264_116 ?_
        by_cases c22 : ¬ (g 16 z0.toNatClampNeg).toInt = (3 : Int)
        · refine am_e13t hi_264_117 (am_cT (m := (g 16 z0.toNatClampNeg).toInt) (n := (3 : Int)) rfl (by decide) c22) ?_
          refine am_e1 (v := g 16 z0.toNatClampNeg) hi_264_143 rfl ?_
          refine am_e0 hi_264_144 ?_
          by_cases c23 : ¬ (g 16 z0.toNatClampNeg).toInt = (5 : Int)
          · refine am_e13t hi_264_145 (am_cT (m := (g 16 z0.toNatClampNeg).toInt) (n := (5 : Int)) rfl (by decide) c23) ?_
            refine am_e2 (v := 39) hi_264_167 rfl ?_
            refine am_e0 hi_264_168 ?_
            refine am_e0 hi_264_169 ?_
            refine am_e1 (v := g 18 z0.toNatClampNeg) hi_264_170 rfl ?_
            refine am_e32n (as := [.ref 39, .int 3, .int 0, .int (g 18 z0.toNatClampNeg)]) (la := [some (.ref 39), some (.int 3), some (.int 0), some (.int (g 18 z0.toNatClampNeg))]) (rest := []) hi_264_172 (am_hd0 (M := 264) (by decide) 172) (Nat.le_of_ble_eq_true rfl) (Nat.le_of_ble_eq_true rfl) (show 4 ≤ am_P0.2.2.1 239 from by decide +kernel) rfl (am_recv_ok hS5.fs) rfl rfl (ct_keep2 (d := (d + 6)) hS5 hR  (by show (0 : Int) ≤ (f 20).toInt; omega) (by show (f 20).toInt ≤ (16383 : Int); omega)) ?_
            rintro v24 S25 (⟨z26, g'27, hv28, hS29, hR33, h30, h31, h32⟩)
            subst hv28
            have h30_ : z26.toInt = (f 20).toInt + 1 := h30
            have h31_ : ∀ j, j ∉ [21, 22, 23] → g'27 j = g j := h31
            have h32_ : g'27 23 = upd (g 23) (f 20).toNatClampNeg (g 18 z0.toNatClampNeg) := h32
            have hR33_ : RJ (upd f 20 z26) g'27 gs bc [] 0 [] := hR33
            show am_E _ _ _ _ [some (.ref 39), some (.int on), some (.int tw), some (.int (g 16 z0.toNatClampNeg)), some (.int r3), some (.int 1), some (.int (g 18 z0.toNatClampNeg)), none] [] _ _
            refine am_e2 (v := 39) hi_264_175 rfl ?_
            refine am_e7 hi_264_176 ?_
            refine mm_20 (v := .int (f 15)) hS29 hi_264_177 rfl ?_
            refine am_e0 hi_264_180 ?_
            refine am_e10 (z := z0) hi_264_181 hz0 ?_
            refine mm_21 (v := z0) hS29 hi_264_182 rfl (Nat.le_of_ble_eq_true rfl) ms_15 ?_
            intro S34 hS35
            replace hS35 : MS S0 S34 (upd (upd f 15 z0) 20 z26) g'27 := hS35
            have hp36 : mj_n (g 16) (f 15).toNatClampNeg 3 = mj_n (g 16) z0.toNatClampNeg 3 + if (g 16 z0.toNatClampNeg).toInt = 3 then 1 else 0 := mj_pop (by rw [cl_toNat, cl_toNat]; omega)
            have hp361 : mj_n (g 16) z0.toNatClampNeg 3 ≤ mj_n (g 16) (f 15).toNatClampNeg 3 := by rw [hp36]; split <;> omega
            have hp362 : (g 16 z0.toNatClampNeg).toInt = 3 → mj_n (g 16) z0.toNatClampNeg 3 + 1 ≤ mj_n (g 16) (f 15).toNatClampNeg 3 := fun q => by rw [hp36, if_pos q]; exact Int.le_refl _
            refine am_e2 (v := 39) hi_264_185 rfl ?_
            refine am_e7 hi_264_186 ?_
            refine mm_20 (v := .int (f 4)) hS35 hi_264_187 rfl ?_
            refine am_e0 hi_264_190 ?_
            obtain ⟨z37, hz37, tz37⟩ := am_addI (x := f 4) (y := 1) (m := (f 4).toInt) (n := (1 : Int)) rfl (by decide) (by omega) (by omega)
            refine am_e10 (z := z37) hi_264_191 hz37 ?_
            refine mm_21 (v := z37) hS35 hi_264_192 rfl (Nat.le_of_ble_eq_true rfl) ms_4 ?_
            intro S38 hS39
            replace hS39 : MS S0 S38 (upd (upd (upd f 4 z37) 15 z0) 20 z26) g'27 := hS39
            have hR40 : RJ (upd (upd (upd f 4 z37) 15 z0) 20 z26) g'27 gs bc [] 0 [] := RJ.at hR33_ (by show (f 4).toInt ≤ z37.toInt; omega)
            refine am_e1 (v := r3) hi_264_195 rfl ?_
            refine am_e0 hi_264_197 ?_
            refine am_e13t hi_264_199 (am_cT (m := r3.toInt) (n := (69 : Int)) rfl (by decide) (by simp only [am_cI]; omega)) ?_
            refine am_e2 (v := 39) hi_264_229 rfl ?_
            refine am_e0 hi_264_230 ?_
            refine am_e1 (v := on) hi_264_232 rfl ?_
            refine am_e0 hi_264_233 ?_
            obtain ⟨z41, hz41, tz41⟩ := am_addI (x := on) (y := 1) (m := on.toInt) (n := (1 : Int)) rfl (by decide) (by omega) (by omega)
            refine am_e10 (z := z41) hi_264_234 hz41 ?_
            refine am_e1 (v := tw) hi_264_235 rfl ?_
            refine am_e0 hi_264_236 ?_
            refine am_e32n (as := [.ref 39, .int 22, .int z41, .int tw, .int 0]) (la := [some (.ref 39), some (.int 22), some (.int z41), some (.int tw), some (.int 0)]) (rest := []) hi_264_237 (am_hd0 (M := 264) (by decide) 237) (Nat.le_of_ble_eq_true rfl) (Nat.le_of_ble_eq_true rfl) (show 5 ≤ am_P0.2.2.1 179 from by decide +kernel) rfl (am_recv_ok hS39.fs) rfl rfl (ct_pile (d := (d + 6)) hS39 hR40 (mj_e_plain (by decide)) (by show (0 : Int) ≤ (f 10).toInt; omega) (by show (f 10).toInt ≤ (65535 : Int); omega)) ?_
            rintro v42 S43 (⟨z44, g'45, hv46, hS47, hR50, h48, h49⟩)
            subst hv46
            have h48_ : z44.toInt = (f 10).toInt + 1 := h48
            have h49_ : ∀ j, j ∉ [11, 12, 13, 14] → g'45 j = g'27 j := h49
            replace hS47 : MS S0 S43 (upd (upd (upd (upd f 4 z37) 10 z44) 15 z0) 20 z26) g'45 := hS47
            have hR50_ : RJ (upd (upd (upd (upd f 4 z37) 10 z44) 15 z0) 20 z26) g'45 (((22 : Int), z41.toInt, tw.toInt, (0 : Int), []) :: gs) bc [] 0 [] := hR50
            show am_E _ _ _ _ [some (.ref 39), some (.int on), some (.int tw), some (.int (g 16 z0.toNatClampNeg)), some (.int r3), some (.int 1), some (.int (g 18 z0.toNatClampNeg)), none] [] _ _
            refine am_e2 (v := 39) hi_264_240 rfl ?_
            refine am_e32w (as := [.ref 39]) (la := [some (.ref 39)]) (rest := []) hi_264_241 (am_hd0 (M := 264) (by decide) 241) (Nat.le_of_ble_eq_true rfl) (Nat.le_of_ble_eq_true rfl) (show 1 ≤ am_P0.2.2.1 214 from by decide +kernel) rfl (am_recv_ok hS47.fs) rfl rfl ?_
            refine am_e2 (v := 39) hi_214_0 rfl ?_
            refine am_e0 hi_214_1 ?_
            refine am_e0 hi_214_3 ?_
            refine am_e0 hi_214_4 ?_
            refine am_e0 hi_214_5 ?_
            refine am_e32n (as := [.ref 39, .int 34, .int 1, .int 0, .int 0]) (la := [some (.ref 39), some (.int 34), some (.int 1), some (.int 0), some (.int 0)]) (rest := []) hi_214_6 (am_hd0 (M := 214) (by decide) 6) (Nat.le_of_ble_eq_true rfl) (Nat.le_of_ble_eq_true rfl) (show 5 ≤ am_P0.2.2.1 179 from by decide +kernel) rfl (am_recv_ok hS47.fs) rfl rfl (ct_pile (d := (d + 5)) hS47 hR50_ (mj_e_plain (by decide)) (by show (0 : Int) ≤ z44.toInt; omega) (by show z44.toInt ≤ (65535 : Int); omega)) ?_
            rintro v51 S52 (⟨z53, g'54, hv55, hS56, hR59, h57, h58⟩)
            subst hv55
            have h57_ : z53.toInt = z44.toInt + 1 := h57
            have h58_ : ∀ j, j ∉ [11, 12, 13, 14] → g'54 j = g'45 j := h58
            replace hS56 : MS S0 S52 (upd (upd (upd (upd f 4 z37) 10 z53) 15 z0) 20 z26) g'54 := hS56
            have hR59_ : RJ (upd (upd (upd (upd f 4 z37) 10 z53) 15 z0) 20 z26) g'54 (((34 : Int), (1 : Int), (0 : Int), (0 : Int), []) :: (((22 : Int), z41.toInt, tw.toInt, (0 : Int), []) :: gs)) bc [] 0 [] := hR59
            show am_E _ _ _ _ [some (.ref 39)] [] _ _
            refine am_e2 (v := 39) hi_214_9 rfl ?_
            refine am_e0 hi_214_10 ?_
            refine am_e32w (as := [.ref 39, .int 0]) (la := [some (.ref 39), some (.int 0)]) (rest := []) hi_214_11 (am_hd0 (M := 214) (by decide) 11) (Nat.le_of_ble_eq_true rfl) (Nat.le_of_ble_eq_true rfl) (show 2 ≤ am_P0.2.2.1 186 from by decide +kernel) rfl (am_recv_ok hS56.fs) rfl rfl ?_
            refine am_e2 (v := 39) hi_186_0 rfl ?_
            refine am_e0 hi_186_1 ?_
            refine am_e1 (v := 0) hi_186_3 rfl ?_
            refine am_e0 hi_186_4 ?_
            refine am_e0 hi_186_5 ?_
            refine am_e32n (as := [.ref 39, .int 23, .int 0, .int 0, .int 0]) (la := [some (.ref 39), some (.int 23), some (.int 0), some (.int 0), some (.int 0)]) (rest := []) hi_186_6 (am_hd0 (M := 186) (by decide) 6) (Nat.le_of_ble_eq_true rfl) (Nat.le_of_ble_eq_true rfl) (show 5 ≤ am_P0.2.2.1 179 from by decide +kernel) rfl (am_recv_ok hS56.fs) rfl rfl (ct_pile (d := (d + 4)) hS56 hR59_ (mj_e_plain (by decide)) (by show (0 : Int) ≤ z53.toInt; omega) (by show z53.toInt ≤ (65535 : Int); omega)) ?_
            rintro v60 S61 (⟨z62, g'63, hv64, hS65, hR68, h66, h67⟩)
            subst hv64
            have h66_ : z62.toInt = z53.toInt + 1 := h66
            have h67_ : ∀ j, j ∉ [11, 12, 13, 14] → g'63 j = g'54 j := h67
            replace hS65 : MS S0 S61 (upd (upd (upd (upd f 4 z37) 10 z62) 15 z0) 20 z26) g'63 := hS65
            have hR68_ : RJ (upd (upd (upd (upd f 4 z37) 10 z62) 15 z0) 20 z26) g'63 (((23 : Int), (0 : Int), (0 : Int), (0 : Int), []) :: (((34 : Int), (1 : Int), (0 : Int), (0 : Int), []) :: (((22 : Int), z41.toInt, tw.toInt, (0 : Int), []) :: gs))) bc [] 0 [] := hR68
            show am_E _ _ _ _ [some (.ref 39), some (.int 0)] [] _ _
            refine am_e35 hi_186_9 ?_
            show am_E _ _ _ _ [some (.ref 39)] [] _ _
            refine am_e35 hi_214_14 ?_
            show am_E _ _ _ _ [some (.ref 39), some (.int on), some (.int tw), some (.int (g 16 z0.toNatClampNeg)), some (.int r3), some (.int 1), some (.int (g 18 z0.toNatClampNeg)), none] [] _ _
            refine am_e35 hi_264_244 ?_
            show am_E _ _ _ _ [some (.ref 39), some (.int 21), some (.int on), some (.int tw), some (.int th)] [] _ _
            refine am_e18 hi_180_362 ?_
            refine am_e35 hi_180_371 ?_
            have q1 : mg_p1 (((23 : Int), (0 : Int), (0 : Int), (0 : Int), []) :: (((34 : Int), (1 : Int), (0 : Int), (0 : Int), []) :: (((22 : Int), z41.toInt, tw.toInt, (0 : Int), []) :: gs))) = 0 + (0 + (0 + (mg_p1 gs))) := rfl
            have q2 : mg_p2 (((23 : Int), (0 : Int), (0 : Int), (0 : Int), []) :: (((34 : Int), (1 : Int), (0 : Int), (0 : Int), []) :: (((22 : Int), z41.toInt, tw.toInt, (0 : Int), []) :: gs))) = 0 + (((1 : Int) - 1) + (0 + (mg_p2 gs))) := rfl
            have q3 : mg_p3 (((23 : Int), (0 : Int), (0 : Int), (0 : Int), []) :: (((34 : Int), (1 : Int), (0 : Int), (0 : Int), []) :: (((22 : Int), z41.toInt, tw.toInt, (0 : Int), []) :: gs))) = 1 + (1 + (1 + (mg_p3 gs))) := rfl
            have q4 : mg_p4 (((23 : Int), (0 : Int), (0 : Int), (0 : Int), []) :: (((34 : Int), (1 : Int), (0 : Int), (0 : Int), []) :: (((22 : Int), z41.toInt, tw.toInt, (0 : Int), []) :: gs))) = 0 + (0 + (5 + (mg_p4 gs))) := rfl
            refine ⟨_, _, _, bc, rfl, hS65, Or.inl ⟨⟨hR68_, ?_, ?_⟩, rfl, ?_⟩⟩
            · exact (⟨⟨(show mg_k 23 from by decide), (show (0 : Int) ≤ z0.toInt from by omega), (show 0 ≤ z26.toInt from by omega), (show 1 ≤ (f 37).toInt from by omega), (show 0 ≤ (f 32).toInt from by omega), (show (f 32).toInt ≤ (f 5).toInt from by omega), (show (f 5).toInt ≤ 48 from by omega), (show (f 37).toInt ≤ 2 * ((f 5).toInt) + 2 from by omega), (show 0 ≤ (0 : Int) from by omega)⟩, ⟨⟨(show mg_k 34 from by decide), (show (1 : Int) ≤ z0.toInt + 1 from by omega), (show 0 ≤ z26.toInt from by omega), (show 1 ≤ (f 37).toInt + 0 from by omega), (show 0 ≤ (f 32).toInt + 0 from by omega), (show (f 32).toInt + 0 ≤ (f 5).toInt + 0 from by omega), (show (f 5).toInt + 0 ≤ 48 from by omega), (show (f 37).toInt + 0 ≤ 2 * ((f 5).toInt + 0) + 2 from by omega), (show 1 ≤ (1 : Int) from by omega)⟩, ⟨⟨(show mg_k 22 from by decide), (show (1 : Int) ≤ z0.toInt + 1 + 0 from by omega), (show 0 ≤ z26.toInt from by omega), (show 1 ≤ (f 37).toInt + 0 + 0 from by omega), (show 0 ≤ (f 32).toInt + 0 + 0 from by omega), (show (f 32).toInt + 0 + 0 ≤ (f 5).toInt + 0 + 0 from by omega), (show (f 5).toInt + 0 + 0 ≤ 48 from by omega), (show (f 37).toInt + 0 + 0 ≤ 2 * ((f 5).toInt + 0 + 0) + 1 from by omega), ⟨(show 0 ≤ z41.toInt from by omega), (show 0 ≤ tw.toInt from by omega), (show z26.toInt = tw.toInt + z41.toInt from by omega)⟩⟩, mg_cast (mg_good_ext _ _ _ _ _ _ (fun i _ => by show g'63 34 i = g 34 i; rw [show g'63 34 = g'54 34 from h67_ 34 (by decide), show g'54 34 = g'45 34 from h58_ 34 (by decide), show g'45 34 = g'27 34 from h49_ 34 (by decide), show g'27 34 = g 34 from h31_ 34 (by decide)]) (fun i _ => by show g'63 38 i = g 38 i; rw [show g'63 38 = g'54 38 from h67_ 38 (by decide), show g'54 38 = g'45 38 from h58_ 38 (by decide), show g'45 38 = g'27 38 from h49_ 38 (by decide), show g'27 38 = g 38 from h31_ 38 (by decide)]) (fun i hi => by show g'63 23 i = g 23 i; rw [show g'63 23 = g'54 23 from h67_ 23 (by decide), show g'54 23 = g'45 23 from h58_ 23 (by decide), show g'45 23 = g'27 23 from h49_ 23 (by decide), h32_]; exact upd_ne (by rw [cl_toNat]; omega)) hrest) (by show (f 15).toInt + -1 = z0.toInt + 1 + 0 + -1; omega) (by show tw.toInt = tw.toInt; omega) (by show (f 37).toInt + 0 = (f 37).toInt + 0 + 0 + 0; omega) (by show (f 32).toInt + 0 = (f 32).toInt + 0 + 0 + 0; omega) (by show (f 5).toInt + 0 = (f 5).toInt + 0 + 0 + 0; omega)⟩⟩⟩ : mg_good (g'63 34) (g'63 38) (g'63 23) (((23 : Int), (0 : Int), (0 : Int), (0 : Int), []) :: (((34 : Int), (1 : Int), (0 : Int), (0 : Int), []) :: (((22 : Int), z41.toInt, tw.toInt, (0 : Int), []) :: gs))) (z0.toInt) (z26.toInt) ((f 37).toInt) ((f 32).toInt) ((f 5).toInt))
            · exact ⟨(by show 0 ≤ z37.toInt; omega), (by show z37.toInt ≤ (f 0).toInt; omega), (by show (f 0).toInt ≤ 512; omega), (by show 0 ≤ (f 24).toInt; omega), (by show (f 24).toInt + z26.toInt + mg_p1 (((23 : Int), (0 : Int), (0 : Int), (0 : Int), []) :: (((34 : Int), (1 : Int), (0 : Int), (0 : Int), []) :: (((22 : Int), z41.toInt, tw.toInt, (0 : Int), []) :: gs))) ≤ 4 * z37.toInt; omega), (by show z26.toInt ≤ z37.toInt; omega), (by show z0.toInt + mg_p2 (((23 : Int), (0 : Int), (0 : Int), (0 : Int), []) :: (((34 : Int), (1 : Int), (0 : Int), (0 : Int), []) :: (((22 : Int), z41.toInt, tw.toInt, (0 : Int), []) :: gs))) ≤ z37.toInt; omega), (by show mg_p3 (((23 : Int), (0 : Int), (0 : Int), (0 : Int), []) :: (((34 : Int), (1 : Int), (0 : Int), (0 : Int), []) :: (((22 : Int), z41.toInt, tw.toInt, (0 : Int), []) :: gs))) ≤ 20 * z37.toInt + 20; omega), (by show 0 ≤ (f 68).toInt; omega), (by show (f 68).toInt + 3 * z26.toInt + mg_p4 (((23 : Int), (0 : Int), (0 : Int), (0 : Int), []) :: (((34 : Int), (1 : Int), (0 : Int), (0 : Int), []) :: (((22 : Int), z41.toInt, tw.toInt, (0 : Int), []) :: gs))) ≤ 60 * z37.toInt + 60; omega), (by show 0 ≤ (f 62).toInt; omega), (by show (f 62).toInt + 64 * mj_n (g'63 16) z0.toNatClampNeg 3 ≤ 64 * z37.toInt; rw [show g'63 16 = g'54 16 from h67_ 16 (by decide), show g'54 16 = g'45 16 from h58_ 16 (by decide), show g'45 16 = g'27 16 from h49_ 16 (by decide), show g'27 16 = g 16 from h31_ 16 (by decide)]; omega), (by show 0 ≤ (f 44).toInt; omega), (by show (f 44).toInt ≤ z37.toInt; omega), (by show 0 ≤ (f 48).toInt; omega), (by show (f 48).toInt ≤ z37.toInt; omega), (by show 1 ≤ (f 53).toInt; omega), (by show (f 53).toInt ≤ z37.toInt + 1; omega), (by show 0 ≤ (f 19).toInt; omega), (by show (f 19).toInt ≤ 600; omega), (by show 0 ≤ (f 6).toInt; omega), (by show 0 ≤ (f 8).toInt; omega)⟩
            · show 100 * ((f 0).toInt - z37.toInt) + mg_p3 (((23 : Int), (0 : Int), (0 : Int), (0 : Int), []) :: (((34 : Int), (1 : Int), (0 : Int), (0 : Int), []) :: (((22 : Int), z41.toInt, tw.toInt, (0 : Int), []) :: gs))) < 100 * ((f 0).toInt - (f 4).toInt) + (1 + mg_p3 gs); omega
          · refine am_e13f hi_264_145 (am_cF (m := (g 16 z0.toNatClampNeg).toInt) (n := (5 : Int)) rfl (by decide) c23) ?_
            refine am_e2 (v := 39) hi_264_148 rfl ?_
            refine am_e0 hi_264_149 ?_
            refine am_e2 (v := 39) hi_264_150 rfl ?_
            refine mm_20 (v := .ref 47) hS5 hi_264_151 rfl ?_
            refine am_e2 (v := 39) hi_264_154 rfl ?_
            refine mm_20 (v := .int (f 15)) hS5 hi_264_155 rfl ?_
            refine am_e0 hi_264_158 ?_
            refine am_e10 (z := z0) hi_264_159 hz0 ?_
            refine mm_25 hS5 ma_17 hi_264_160 (by decide) (by omega) (by omega) ?_
            show am_E _ _ _ _ [some (.ref 39), some (.int on), some (.int tw), some (.int (g 16 z0.toNatClampNeg)), some (.int r3), some (.int 1), some (.int (g 18 z0.toNatClampNeg)), none] [.int (g 17 z0.toNatClampNeg), .int 5, .ref 39] _ _
            have r69 : (g 16 z0.toNatClampNeg).toInt = 1 ∨ (g 16 z0.toNatClampNeg).toInt = 2 → 0 ≤ (g 17 z0.toNatClampNeg).toInt ∧ (g 17 z0.toNatClampNeg).toInt < 65536 := RJ.vc hR z0.toNatClampNeg
            refine am_e0 hi_264_161 ?_
            refine am_e0 hi_264_162 ?_
            refine am_e32n (as := [.ref 39, .int 5, .int (g 17 z0.toNatClampNeg), .int 0, .int 0]) (la := [some (.ref 39), some (.int 5), some (.int (g 17 z0.toNatClampNeg)), some (.int 0), some (.int 0)]) (rest := []) hi_264_163 (am_hd0 (M := 264) (by decide) 163) (Nat.le_of_ble_eq_true rfl) (Nat.le_of_ble_eq_true rfl) (show 5 ≤ am_P0.2.2.1 189 from by decide +kernel) rfl (am_recv_ok hS5.fs) rfl rfl (ct_put (d := (d + 6)) hS5 hR  (by show (0 : Int) ≤ (f 32).toInt; omega) (by show (f 32).toInt ≤ (63 : Int); omega) (by show (f 53).toInt ≤ (4096 : Int); omega) (by show (0 : Int) ≤ (f 68).toInt; omega) (by show (f 68).toInt ≤ (65534 : Int); omega)) ?_
            rintro v70 S71 (⟨z72, r73, g'74, hv75, hS76, hR80, h77, h78, h79⟩)
            subst hv75
            have h77_ : z72.toInt = (f 68).toInt + 1 := h77
            have h78_ : r73.toInt = (f 68).toInt := h78
            have h79_ : ∀ j, j ∉ [60, 69, 70, 71, 72, 73] → g'74 j = g j := h79
            have hR80_ : RJ (upd f 68 z72) g'74 gs bc [] 0 ((f 68).toNatClampNeg :: []) := hR80
            show am_E _ _ _ _ [some (.ref 39), some (.int on), some (.int tw), some (.int (g 16 z0.toNatClampNeg)), some (.int r3), some (.int 1), some (.int (g 18 z0.toNatClampNeg)), none] [.int r73] _ _
            refine am_e6i hi_264_166 ?_
            refine am_e2 (v := 39) hi_264_167 rfl ?_
            refine am_e0 hi_264_168 ?_
            refine am_e0 hi_264_169 ?_
            refine am_e1 (v := g 18 z0.toNatClampNeg) hi_264_170 rfl ?_
            refine am_e32n (as := [.ref 39, .int 3, .int 0, .int (g 18 z0.toNatClampNeg)]) (la := [some (.ref 39), some (.int 3), some (.int 0), some (.int (g 18 z0.toNatClampNeg))]) (rest := []) hi_264_172 (am_hd0 (M := 264) (by decide) 172) (Nat.le_of_ble_eq_true rfl) (Nat.le_of_ble_eq_true rfl) (show 4 ≤ am_P0.2.2.1 239 from by decide +kernel) rfl (am_recv_ok hS76.fs) rfl rfl (ct_keep2 (d := (d + 6)) hS76 hR80_  (by show (0 : Int) ≤ (f 20).toInt; omega) (by show (f 20).toInt ≤ (16383 : Int); omega)) ?_
            rintro v81 S82 (⟨z83, g'84, hv85, hS86, hR90, h87, h88, h89⟩)
            subst hv85
            have h87_ : z83.toInt = (f 20).toInt + 1 := h87
            have h88_ : ∀ j, j ∉ [21, 22, 23] → g'84 j = g'74 j := h88
            have h89_ : g'84 23 = upd (g'74 23) (f 20).toNatClampNeg (g 18 z0.toNatClampNeg) := h89
            replace hS86 : MS S0 S82 (upd (upd f 20 z83) 68 z72) g'84 := hS86
            have hR90_ : RJ (upd (upd f 20 z83) 68 z72) g'84 gs bc [] 0 ((f 68).toNatClampNeg :: []) := hR90
            show am_E _ _ _ _ [some (.ref 39), some (.int on), some (.int tw), some (.int (g 16 z0.toNatClampNeg)), some (.int r3), some (.int 1), some (.int (g 18 z0.toNatClampNeg)), none] [] _ _
            refine am_e2 (v := 39) hi_264_175 rfl ?_
            refine am_e7 hi_264_176 ?_
            refine mm_20 (v := .int (f 15)) hS86 hi_264_177 rfl ?_
            refine am_e0 hi_264_180 ?_
            refine am_e10 (z := z0) hi_264_181 hz0 ?_
            refine mm_21 (v := z0) hS86 hi_264_182 rfl (Nat.le_of_ble_eq_true rfl) ms_15 ?_
            intro S91 hS92
            replace hS92 : MS S0 S91 (upd (upd (upd f 15 z0) 20 z83) 68 z72) g'84 := hS92
            have hp93 : mj_n (g 16) (f 15).toNatClampNeg 3 = mj_n (g 16) z0.toNatClampNeg 3 + if (g 16 z0.toNatClampNeg).toInt = 3 then 1 else 0 := mj_pop (by rw [cl_toNat, cl_toNat]; omega)
            have hp931 : mj_n (g 16) z0.toNatClampNeg 3 ≤ mj_n (g 16) (f 15).toNatClampNeg 3 := by rw [hp93]; split <;> omega
            have hp932 : (g 16 z0.toNatClampNeg).toInt = 3 → mj_n (g 16) z0.toNatClampNeg 3 + 1 ≤ mj_n (g 16) (f 15).toNatClampNeg 3 := fun q => by rw [hp93, if_pos q]; exact Int.le_refl _
            refine am_e2 (v := 39) hi_264_185 rfl ?_
            refine am_e7 hi_264_186 ?_
            refine mm_20 (v := .int (f 4)) hS92 hi_264_187 rfl ?_
            refine am_e0 hi_264_190 ?_
            obtain ⟨z94, hz94, tz94⟩ := am_addI (x := f 4) (y := 1) (m := (f 4).toInt) (n := (1 : Int)) rfl (by decide) (by omega) (by omega)
            refine am_e10 (z := z94) hi_264_191 hz94 ?_
            refine mm_21 (v := z94) hS92 hi_264_192 rfl (Nat.le_of_ble_eq_true rfl) ms_4 ?_
            intro S95 hS96
            replace hS96 : MS S0 S95 (upd (upd (upd (upd f 4 z94) 15 z0) 20 z83) 68 z72) g'84 := hS96
            have hR97 : RJ (upd (upd (upd (upd f 4 z94) 15 z0) 20 z83) 68 z72) g'84 gs bc [] 0 ((f 68).toNatClampNeg :: []) := RJ.at hR90_ (by show (f 4).toInt ≤ z94.toInt; omega)
            refine am_e1 (v := r3) hi_264_195 rfl ?_
            refine am_e0 hi_264_197 ?_
            refine am_e13t hi_264_199 (am_cT (m := r3.toInt) (n := (69 : Int)) rfl (by decide) (by simp only [am_cI]; omega)) ?_
            refine am_e2 (v := 39) hi_264_229 rfl ?_
            refine am_e0 hi_264_230 ?_
            refine am_e1 (v := on) hi_264_232 rfl ?_
            refine am_e0 hi_264_233 ?_
            obtain ⟨z98, hz98, tz98⟩ := am_addI (x := on) (y := 1) (m := on.toInt) (n := (1 : Int)) rfl (by decide) (by omega) (by omega)
            refine am_e10 (z := z98) hi_264_234 hz98 ?_
            refine am_e1 (v := tw) hi_264_235 rfl ?_
            refine am_e0 hi_264_236 ?_
            refine am_e32n (as := [.ref 39, .int 22, .int z98, .int tw, .int 0]) (la := [some (.ref 39), some (.int 22), some (.int z98), some (.int tw), some (.int 0)]) (rest := []) hi_264_237 (am_hd0 (M := 264) (by decide) 237) (Nat.le_of_ble_eq_true rfl) (Nat.le_of_ble_eq_true rfl) (show 5 ≤ am_P0.2.2.1 179 from by decide +kernel) rfl (am_recv_ok hS96.fs) rfl rfl (ct_pile (d := (d + 6)) hS96 hR97 (mj_e_plain (by decide)) (by show (0 : Int) ≤ (f 10).toInt; omega) (by show (f 10).toInt ≤ (65535 : Int); omega)) ?_
            rintro v99 S100 (⟨z101, g'102, hv103, hS104, hR107, h105, h106⟩)
            subst hv103
            have h105_ : z101.toInt = (f 10).toInt + 1 := h105
            have h106_ : ∀ j, j ∉ [11, 12, 13, 14] → g'102 j = g'84 j := h106
            replace hS104 : MS S0 S100 (upd (upd (upd (upd (upd f 4 z94) 10 z101) 15 z0) 20 z83) 68 z72) g'102 := hS104
            have hR107_ : RJ (upd (upd (upd (upd (upd f 4 z94) 10 z101) 15 z0) 20 z83) 68 z72) g'102 (((22 : Int), z98.toInt, tw.toInt, (0 : Int), []) :: gs) bc [] 0 ((f 68).toNatClampNeg :: []) := hR107
            show am_E _ _ _ _ [some (.ref 39), some (.int on), some (.int tw), some (.int (g 16 z0.toNatClampNeg)), some (.int r3), some (.int 1), some (.int (g 18 z0.toNatClampNeg)), none] [] _ _
            refine am_e2 (v := 39) hi_264_240 rfl ?_
            refine am_e32w (as := [.ref 39]) (la := [some (.ref 39)]) (rest := []) hi_264_241 (am_hd0 (M := 264) (by decide) 241) (Nat.le_of_ble_eq_true rfl) (Nat.le_of_ble_eq_true rfl) (show 1 ≤ am_P0.2.2.1 214 from by decide +kernel) rfl (am_recv_ok hS104.fs) rfl rfl ?_
            refine am_e2 (v := 39) hi_214_0 rfl ?_
            refine am_e0 hi_214_1 ?_
            refine am_e0 hi_214_3 ?_
            refine am_e0 hi_214_4 ?_
            refine am_e0 hi_214_5 ?_
            refine am_e32n (as := [.ref 39, .int 34, .int 1, .int 0, .int 0]) (la := [some (.ref 39), some (.int 34), some (.int 1), some (.int 0), some (.int 0)]) (rest := []) hi_214_6 (am_hd0 (M := 214) (by decide) 6) (Nat.le_of_ble_eq_true rfl) (Nat.le_of_ble_eq_true rfl) (show 5 ≤ am_P0.2.2.1 179 from by decide +kernel) rfl (am_recv_ok hS104.fs) rfl rfl (ct_pile (d := (d + 5)) hS104 hR107_ (mj_e_plain (by decide)) (by show (0 : Int) ≤ z101.toInt; omega) (by show z101.toInt ≤ (65535 : Int); omega)) ?_
            rintro v108 S109 (⟨z110, g'111, hv112, hS113, hR116, h114, h115⟩)
            subst hv112
            have h114_ : z110.toInt = z101.toInt + 1 := h114
            have h115_ : ∀ j, j ∉ [11, 12, 13, 14] → g'111 j = g'102 j := h115
            replace hS113 : MS S0 S109 (upd (upd (upd (upd (upd f 4 z94) 10 z110) 15 z0) 20 z83) 68 z72) g'111 := hS113
            have hR116_ : RJ (upd (upd (upd (upd (upd f 4 z94) 10 z110) 15 z0) 20 z83) 68 z72) g'111 (((34 : Int), (1 : Int), (0 : Int), (0 : Int), []) :: (((22 : Int), z98.toInt, tw.toInt, (0 : Int), []) :: gs)) bc [] 0 ((f 68).toNatClampNeg :: []) := hR116
            show am_E _ _ _ _ [some (.ref 39)] [] _ _
            refine am_e2 (v := 39) hi_214_9 rfl ?_
            refine am_e0 hi_214_10 ?_
            refine am_e32w (as := [.ref 39, .int 0]) (la := [some (.ref 39), some (.int 0)]) (rest := []) hi_214_11 (am_hd0 (M := 214) (by decide) 11) (Nat.le_of_ble_eq_true rfl) (Nat.le_of_ble_eq_true rfl) (show 2 ≤ am_P0.2.2.1 186 from by decide +kernel) rfl (am_recv_ok hS113.fs) rfl rfl ?_
            refine am_e2 (v := 39) hi_186_0 rfl ?_
            refine am_e0 hi_186_1 ?_
            refine am_e1 (v := 0) hi_186_3 rfl ?_
            refine am_e0 hi_186_4 ?_
            refine am_e0 hi_186_5 ?_
            refine am_e32n (as := [.ref 39, .int 23, .int 0, .int 0, .int 0]) (la := [some (.ref 39), some (.int 23), some (.int 0), some (.int 0), some (.int 0)]) (rest := []) hi_186_6 (am_hd0 (M := 186) (by decide) 6) (Nat.le_of_ble_eq_true rfl) (Nat.le_of_ble_eq_true rfl) (show 5 ≤ am_P0.2.2.1 179 from by decide +kernel) rfl (am_recv_ok hS113.fs) rfl rfl (ct_pile (d := (d + 4)) hS113 hR116_ (mj_e_plain (by decide)) (by show (0 : Int) ≤ z110.toInt; omega) (by show z110.toInt ≤ (65535 : Int); omega)) ?_
            rintro v117 S118 (⟨z119, g'120, hv121, hS122, hR125, h123, h124⟩)
            subst hv121
            have h123_ : z119.toInt = z110.toInt + 1 := h123
            have h124_ : ∀ j, j ∉ [11, 12, 13, 14] → g'120 j = g'111 j := h124
            replace hS122 : MS S0 S118 (upd (upd (upd (upd (upd f 4 z94) 10 z119) 15 z0) 20 z83) 68 z72) g'120 := hS122
            have hR125_ : RJ (upd (upd (upd (upd (upd f 4 z94) 10 z119) 15 z0) 20 z83) 68 z72) g'120 (((23 : Int), (0 : Int), (0 : Int), (0 : Int), []) :: (((34 : Int), (1 : Int), (0 : Int), (0 : Int), []) :: (((22 : Int), z98.toInt, tw.toInt, (0 : Int), []) :: gs))) bc [] 0 ((f 68).toNatClampNeg :: []) := hR125
            show am_E _ _ _ _ [some (.ref 39), some (.int 0)] [] _ _
            refine am_e35 hi_186_9 ?_
            show am_E _ _ _ _ [some (.ref 39)] [] _ _
            refine am_e35 hi_214_14 ?_
            show am_E _ _ _ _ [some (.ref 39), some (.int on), some (.int tw), some (.int (g 16 z0.toNatClampNeg)), some (.int r3), some (.int 1), some (.int (g 18 z0.toNatClampNeg)), none] [] _ _
            refine am_e35 hi_264_244 ?_
            show am_E _ _ _ _ [some (.ref 39), some (.int 21), some (.int on), some (.int tw), some (.int th)] [] _ _
            refine am_e18 hi_180_362 ?_
            refine am_e35 hi_180_371 ?_
            have q1 : mg_p1 (((23 : Int), (0 : Int), (0 : Int), (0 : Int), []) :: (((34 : Int), (1 : Int), (0 : Int), (0 : Int), []) :: (((22 : Int), z98.toInt, tw.toInt, (0 : Int), []) :: gs))) = 0 + (0 + (0 + (mg_p1 gs))) := rfl
            have q2 : mg_p2 (((23 : Int), (0 : Int), (0 : Int), (0 : Int), []) :: (((34 : Int), (1 : Int), (0 : Int), (0 : Int), []) :: (((22 : Int), z98.toInt, tw.toInt, (0 : Int), []) :: gs))) = 0 + (((1 : Int) - 1) + (0 + (mg_p2 gs))) := rfl
            have q3 : mg_p3 (((23 : Int), (0 : Int), (0 : Int), (0 : Int), []) :: (((34 : Int), (1 : Int), (0 : Int), (0 : Int), []) :: (((22 : Int), z98.toInt, tw.toInt, (0 : Int), []) :: gs))) = 1 + (1 + (1 + (mg_p3 gs))) := rfl
            have q4 : mg_p4 (((23 : Int), (0 : Int), (0 : Int), (0 : Int), []) :: (((34 : Int), (1 : Int), (0 : Int), (0 : Int), []) :: (((22 : Int), z98.toInt, tw.toInt, (0 : Int), []) :: gs))) = 0 + (0 + (5 + (mg_p4 gs))) := rfl
            refine ⟨_, _, _, bc, rfl, hS122, Or.inl ⟨⟨(RJ.fewer (pj' := []) hR125_ (fun _ h => nomatch h)), ?_, ?_⟩, rfl, ?_⟩⟩
            · exact (⟨⟨(show mg_k 23 from by decide), (show (0 : Int) ≤ z0.toInt from by omega), (show 0 ≤ z83.toInt from by omega), (show 1 ≤ (f 37).toInt from by omega), (show 0 ≤ (f 32).toInt from by omega), (show (f 32).toInt ≤ (f 5).toInt from by omega), (show (f 5).toInt ≤ 48 from by omega), (show (f 37).toInt ≤ 2 * ((f 5).toInt) + 2 from by omega), (show 0 ≤ (0 : Int) from by omega)⟩, ⟨⟨(show mg_k 34 from by decide), (show (1 : Int) ≤ z0.toInt + 1 from by omega), (show 0 ≤ z83.toInt from by omega), (show 1 ≤ (f 37).toInt + 0 from by omega), (show 0 ≤ (f 32).toInt + 0 from by omega), (show (f 32).toInt + 0 ≤ (f 5).toInt + 0 from by omega), (show (f 5).toInt + 0 ≤ 48 from by omega), (show (f 37).toInt + 0 ≤ 2 * ((f 5).toInt + 0) + 2 from by omega), (show 1 ≤ (1 : Int) from by omega)⟩, ⟨⟨(show mg_k 22 from by decide), (show (1 : Int) ≤ z0.toInt + 1 + 0 from by omega), (show 0 ≤ z83.toInt from by omega), (show 1 ≤ (f 37).toInt + 0 + 0 from by omega), (show 0 ≤ (f 32).toInt + 0 + 0 from by omega), (show (f 32).toInt + 0 + 0 ≤ (f 5).toInt + 0 + 0 from by omega), (show (f 5).toInt + 0 + 0 ≤ 48 from by omega), (show (f 37).toInt + 0 + 0 ≤ 2 * ((f 5).toInt + 0 + 0) + 1 from by omega), ⟨(show 0 ≤ z98.toInt from by omega), (show 0 ≤ tw.toInt from by omega), (show z83.toInt = tw.toInt + z98.toInt from by omega)⟩⟩, mg_cast (mg_good_ext _ _ _ _ _ _ (fun i _ => by show g'120 34 i = g 34 i; rw [show g'120 34 = g'111 34 from h124_ 34 (by decide), show g'111 34 = g'102 34 from h115_ 34 (by decide), show g'102 34 = g'84 34 from h106_ 34 (by decide), show g'84 34 = g'74 34 from h88_ 34 (by decide), show g'74 34 = g 34 from h79_ 34 (by decide)]) (fun i _ => by show g'120 38 i = g 38 i; rw [show g'120 38 = g'111 38 from h124_ 38 (by decide), show g'111 38 = g'102 38 from h115_ 38 (by decide), show g'102 38 = g'84 38 from h106_ 38 (by decide), show g'84 38 = g'74 38 from h88_ 38 (by decide), show g'74 38 = g 38 from h79_ 38 (by decide)]) (fun i hi => by show g'120 23 i = g 23 i; rw [show g'120 23 = g'111 23 from h124_ 23 (by decide), show g'111 23 = g'102 23 from h115_ 23 (by decide), show g'102 23 = g'84 23 from h106_ 23 (by decide), h89_, show g'74 23 = g 23 from h79_ 23 (by decide)]; exact upd_ne (by rw [cl_toNat]; omega)) hrest) (by show (f 15).toInt + -1 = z0.toInt + 1 + 0 + -1; omega) (by show tw.toInt = tw.toInt; omega) (by show (f 37).toInt + 0 = (f 37).toInt + 0 + 0 + 0; omega) (by show (f 32).toInt + 0 = (f 32).toInt + 0 + 0 + 0; omega) (by show (f 5).toInt + 0 = (f 5).toInt + 0 + 0 + 0; omega)⟩⟩⟩ : mg_good (g'120 34) (g'120 38) (g'120 23) (((23 : Int), (0 : Int), (0 : Int), (0 : Int), []) :: (((34 : Int), (1 : Int), (0 : Int), (0 : Int), []) :: (((22 : Int), z98.toInt, tw.toInt, (0 : Int), []) :: gs))) (z0.toInt) (z83.toInt) ((f 37).toInt) ((f 32).toInt) ((f 5).toInt))
            · exact ⟨(by show 0 ≤ z94.toInt; omega), (by show z94.toInt ≤ (f 0).toInt; omega), (by show (f 0).toInt ≤ 512; omega), (by show 0 ≤ (f 24).toInt; omega), (by show (f 24).toInt + z83.toInt + mg_p1 (((23 : Int), (0 : Int), (0 : Int), (0 : Int), []) :: (((34 : Int), (1 : Int), (0 : Int), (0 : Int), []) :: (((22 : Int), z98.toInt, tw.toInt, (0 : Int), []) :: gs))) ≤ 4 * z94.toInt; omega), (by show z83.toInt ≤ z94.toInt; omega), (by show z0.toInt + mg_p2 (((23 : Int), (0 : Int), (0 : Int), (0 : Int), []) :: (((34 : Int), (1 : Int), (0 : Int), (0 : Int), []) :: (((22 : Int), z98.toInt, tw.toInt, (0 : Int), []) :: gs))) ≤ z94.toInt; omega), (by show mg_p3 (((23 : Int), (0 : Int), (0 : Int), (0 : Int), []) :: (((34 : Int), (1 : Int), (0 : Int), (0 : Int), []) :: (((22 : Int), z98.toInt, tw.toInt, (0 : Int), []) :: gs))) ≤ 20 * z94.toInt + 20; omega), (by show 0 ≤ z72.toInt; omega), (by show z72.toInt + 3 * z83.toInt + mg_p4 (((23 : Int), (0 : Int), (0 : Int), (0 : Int), []) :: (((34 : Int), (1 : Int), (0 : Int), (0 : Int), []) :: (((22 : Int), z98.toInt, tw.toInt, (0 : Int), []) :: gs))) ≤ 60 * z94.toInt + 60; omega), (by show 0 ≤ (f 62).toInt; omega), (by show (f 62).toInt + 64 * mj_n (g'120 16) z0.toNatClampNeg 3 ≤ 64 * z94.toInt; rw [show g'120 16 = g'111 16 from h124_ 16 (by decide), show g'111 16 = g'102 16 from h115_ 16 (by decide), show g'102 16 = g'84 16 from h106_ 16 (by decide), show g'84 16 = g'74 16 from h88_ 16 (by decide), show g'74 16 = g 16 from h79_ 16 (by decide)]; omega), (by show 0 ≤ (f 44).toInt; omega), (by show (f 44).toInt ≤ z94.toInt; omega), (by show 0 ≤ (f 48).toInt; omega), (by show (f 48).toInt ≤ z94.toInt; omega), (by show 1 ≤ (f 53).toInt; omega), (by show (f 53).toInt ≤ z94.toInt + 1; omega), (by show 0 ≤ (f 19).toInt; omega), (by show (f 19).toInt ≤ 600; omega), (by show 0 ≤ (f 6).toInt; omega), (by show 0 ≤ (f 8).toInt; omega)⟩
            · show 100 * ((f 0).toInt - z94.toInt) + mg_p3 (((23 : Int), (0 : Int), (0 : Int), (0 : Int), []) :: (((34 : Int), (1 : Int), (0 : Int), (0 : Int), []) :: (((22 : Int), z98.toInt, tw.toInt, (0 : Int), []) :: gs))) < 100 * ((f 0).toInt - (f 4).toInt) + (1 + mg_p3 gs); omega
        · refine am_e13f hi_264_117 (am_cF (m := (g 16 z0.toNatClampNeg).toInt) (n := (3 : Int)) rfl (by decide) c22) ?_
          refine am_e2 (v := 39) hi_264_120 rfl ?_
          refine am_e1 (v := g 18 z0.toNatClampNeg) hi_264_121 rfl ?_
          refine am_e32w (as := [.ref 39, .int (g 18 z0.toNatClampNeg)]) (la := [some (.ref 39), some (.int (g 18 z0.toNatClampNeg)), none]) (rest := []) hi_264_123 (am_hd0 (M := 264) (by decide) 123) (Nat.le_of_ble_eq_true rfl) (Nat.le_of_ble_eq_true rfl) (show 2 ≤ am_P0.2.2.1 237 from by decide +kernel) rfl (am_recv_ok hS5.fs) rfl rfl ?_
          refine am_e2 (v := 39) hi_237_0 rfl ?_
          refine am_e2 (v := 39) hi_237_1 rfl ?_
          refine mm_20 (v := .ref 41) hS5 hi_237_2 rfl ?_
          refine am_e1 (v := g 18 z0.toNatClampNeg) hi_237_5 rfl ?_
          refine mm_25 hS5 ma_2 hi_237_6 (by decide) (by omega) (by omega) ?_
          show am_E _ _ _ _ [some (.ref 39), some (.int (g 18 z0.toNatClampNeg)), none] [.int (g 2 (g 18 z0.toNatClampNeg).toNatClampNeg), .ref 39] _ _
          refine am_e32n (as := [.ref 39, .int (g 2 (g 18 z0.toNatClampNeg).toNatClampNeg)]) (la := [some (.ref 39), some (.int (g 2 (g 18 z0.toNatClampNeg).toNatClampNeg)), none]) (rest := []) hi_237_7 (am_hd0 (M := 237) (by decide) 7) (Nat.le_of_ble_eq_true rfl) (Nat.le_of_ble_eq_true rfl) (show 2 ≤ am_P0.2.2.1 206 from by decide +kernel) rfl (am_recv_ok hS5.fs) rfl rfl (ct_find (d := (d + 5)) hS5   (by show (0 : Int) ≤ (f 24).toInt; omega) (by show (f 24).toInt ≤ (16384 : Int); omega)) ?_
          rintro v126 S127 (⟨r128, hv129, hS130, h131, h132⟩)
          subst hv129
          have h131_ : (-1 : Int) ≤ r128.toInt := h131
          have h132_ : r128.toInt < (f 24).toInt := h132
          show am_E _ _ _ _ [some (.ref 39), some (.int (g 18 z0.toNatClampNeg)), none] [.int r128] _ _
          refine am_e3 (ls' := [some (.ref 39), some (.int (g 18 z0.toNatClampNeg)), some (.int r128)]) hi_237_10 (Nat.le_of_ble_eq_true rfl) rfl ?_
          refine am_e1 (v := r128) hi_237_11 rfl ?_
          by_cases c134 : r128.toInt < (0 : Int)
          · refine am_e12t hi_237_12 (am_cT (m := r128.toInt) (n := (0 : Int)) rfl (by decide) c134) ?_
            refine am_e2 (v := 39) hi_237_31 rfl ?_
            refine am_e1 (v := g 18 z0.toNatClampNeg) hi_237_32 rfl ?_
            refine am_e32n (as := [.ref 39, .int (g 18 z0.toNatClampNeg)]) (la := [some (.ref 39), some (.int (g 18 z0.toNatClampNeg)), none, none, none]) (rest := []) hi_237_33 (am_hd0 (M := 237) (by decide) 33) (Nat.le_of_ble_eq_true rfl) (Nat.le_of_ble_eq_true rfl) (show 2 ≤ am_P0.2.2.1 205 from by decide +kernel) rfl (am_recv_ok hS130.fs) rfl rfl (ct_resolve (d := (d + 4)) hS130 hR  (by show (0 : Int) ≤ (f 32).toInt; omega) (by show (f 32).toInt ≤ (63 : Int); omega) (by show (f 53).toInt ≤ (4096 : Int); omega) (by show (0 : Int) ≤ (f 24).toInt; omega) (by show (f 24).toInt ≤ (16384 : Int); omega) (by show (0 : Int) ≤ (f 62).toInt; omega) (by show (f 62).toInt ≤ (65000 : Int); omega) (by show (0 : Int) ≤ (g 18 z0.toNatClampNeg).toInt; omega) (by show (g 18 z0.toNatClampNeg).toInt ≤ (16383 : Int); omega)) ?_
            rintro v135 S136 (⟨o137, m138, g'139, r140, hv141, hS142, hR148, h143, h144, h145, h146, h147⟩)
            subst hv141
            have h143_ : (f 62).toInt ≤ o137.toInt := h143
            have h144_ : o137.toInt ≤ (f 62).toInt + 64 := h144
            have h145_ : (0 : Int) ≤ r140.toInt := h145
            have h146_ : r140.toInt ≤ (2 : Int) := h146
            have h147_ : ∀ j, j ∉ [63, 64, 65, 66, 67] → g'139 j = g j := h147
            have hR148_ : RJ (upd (upd f 62 o137) 75 m138) g'139 gs bc [] 0 [] := hR148
            show am_E _ _ _ _ [some (.ref 39), some (.int (g 18 z0.toNatClampNeg)), some (.int r128)] [.int r140] _ _
            refine am_e33 hi_237_36 ?_
            show am_E _ _ _ _ [some (.ref 39), some (.int on), some (.int tw), some (.int (g 16 z0.toNatClampNeg)), some (.int r3), some (.int 1), some (.int (g 18 z0.toNatClampNeg)), none] [.int r140] _ _
            refine am_e3 (ls' := [some (.ref 39), some (.int on), some (.int tw), some (.int (g 16 z0.toNatClampNeg)), some (.int r3), some (.int 1), some (.int (g 18 z0.toNatClampNeg)), some (.int r140)]) hi_264_126 (Nat.le_of_ble_eq_true rfl) rfl ?_
            refine am_e2 (v := 39) hi_264_128 rfl ?_
            refine am_e1 (v := r140) hi_264_129 rfl ?_
            refine am_e2 (v := 39) hi_264_131 rfl ?_
            refine mm_20 (v := .int m138) hS142 hi_264_132 rfl ?_
            refine am_e1 (v := g 18 z0.toNatClampNeg) hi_264_135 rfl ?_
            refine am_e32n (as := [.ref 39, .int r140, .int m138, .int (g 18 z0.toNatClampNeg)]) (la := [some (.ref 39), some (.int r140), some (.int m138), some (.int (g 18 z0.toNatClampNeg))]) (rest := []) hi_264_137 (am_hd0 (M := 264) (by decide) 137) (Nat.le_of_ble_eq_true rfl) (Nat.le_of_ble_eq_true rfl) (show 4 ≤ am_P0.2.2.1 239 from by decide +kernel) rfl (am_recv_ok hS142.fs) rfl rfl (ct_keep2 (d := (d + 6)) hS142 hR148_  (by show (0 : Int) ≤ (f 20).toInt; omega) (by show (f 20).toInt ≤ (16383 : Int); omega)) ?_
            rintro v149 S150 (⟨z151, g'152, hv153, hS154, hR158, h155, h156, h157⟩)
            subst hv153
            have h155_ : z151.toInt = (f 20).toInt + 1 := h155
            have h156_ : ∀ j, j ∉ [21, 22, 23] → g'152 j = g'139 j := h156
            have h157_ : g'152 23 = upd (g'139 23) (f 20).toNatClampNeg (g 18 z0.toNatClampNeg) := h157
            replace hS154 : MS S0 S150 (upd (upd (upd f 20 z151) 62 o137) 75 m138) g'152 := hS154
            have hR158_ : RJ (upd (upd (upd f 20 z151) 62 o137) 75 m138) g'152 gs bc [] 0 [] := hR158
            show am_E _ _ _ _ [some (.ref 39), some (.int on), some (.int tw), some (.int (g 16 z0.toNatClampNeg)), some (.int r3), some (.int 1), some (.int (g 18 z0.toNatClampNeg)), some (.int r140)] [] _ _
            refine am_e18 hi_264_140 ?_
            refine am_e2 (v := 39) hi_264_175 rfl ?_
            refine am_e7 hi_264_176 ?_
            refine mm_20 (v := .int (f 15)) hS154 hi_264_177 rfl ?_
            refine am_e0 hi_264_180 ?_
            refine am_e10 (z := z0) hi_264_181 hz0 ?_
            refine mm_21 (v := z0) hS154 hi_264_182 rfl (Nat.le_of_ble_eq_true rfl) ms_15 ?_
            intro S159 hS160
            replace hS160 : MS S0 S159 (upd (upd (upd (upd f 15 z0) 20 z151) 62 o137) 75 m138) g'152 := hS160
            have hp161 : mj_n (g 16) (f 15).toNatClampNeg 3 = mj_n (g 16) z0.toNatClampNeg 3 + if (g 16 z0.toNatClampNeg).toInt = 3 then 1 else 0 := mj_pop (by rw [cl_toNat, cl_toNat]; omega)
            have hp1611 : mj_n (g 16) z0.toNatClampNeg 3 ≤ mj_n (g 16) (f 15).toNatClampNeg 3 := by rw [hp161]; split <;> omega
            have hp1612 : (g 16 z0.toNatClampNeg).toInt = 3 → mj_n (g 16) z0.toNatClampNeg 3 + 1 ≤ mj_n (g 16) (f 15).toNatClampNeg 3 := fun q => by rw [hp161, if_pos q]; exact Int.le_refl _
            refine am_e2 (v := 39) hi_264_185 rfl ?_
            refine am_e7 hi_264_186 ?_
            refine mm_20 (v := .int (f 4)) hS160 hi_264_187 rfl ?_
            refine am_e0 hi_264_190 ?_
            obtain ⟨z162, hz162, tz162⟩ := am_addI (x := f 4) (y := 1) (m := (f 4).toInt) (n := (1 : Int)) rfl (by decide) (by omega) (by omega)
            refine am_e10 (z := z162) hi_264_191 hz162 ?_
            refine mm_21 (v := z162) hS160 hi_264_192 rfl (Nat.le_of_ble_eq_true rfl) ms_4 ?_
            intro S163 hS164
            replace hS164 : MS S0 S163 (upd (upd (upd (upd (upd f 4 z162) 15 z0) 20 z151) 62 o137) 75 m138) g'152 := hS164
            have hR165 : RJ (upd (upd (upd (upd (upd f 4 z162) 15 z0) 20 z151) 62 o137) 75 m138) g'152 gs bc [] 0 [] := RJ.at hR158_ (by show (f 4).toInt ≤ z162.toInt; omega)
            refine am_e1 (v := r3) hi_264_195 rfl ?_
            refine am_e0 hi_264_197 ?_
            refine am_e13t hi_264_199 (am_cT (m := r3.toInt) (n := (69 : Int)) rfl (by decide) (by simp only [am_cI]; omega)) ?_
            refine am_e2 (v := 39) hi_264_229 rfl ?_
            refine am_e0 hi_264_230 ?_
            refine am_e1 (v := on) hi_264_232 rfl ?_
            refine am_e0 hi_264_233 ?_
            obtain ⟨z166, hz166, tz166⟩ := am_addI (x := on) (y := 1) (m := on.toInt) (n := (1 : Int)) rfl (by decide) (by omega) (by omega)
            refine am_e10 (z := z166) hi_264_234 hz166 ?_
            refine am_e1 (v := tw) hi_264_235 rfl ?_
            refine am_e0 hi_264_236 ?_
            refine am_e32n (as := [.ref 39, .int 22, .int z166, .int tw, .int 0]) (la := [some (.ref 39), some (.int 22), some (.int z166), some (.int tw), some (.int 0)]) (rest := []) hi_264_237 (am_hd0 (M := 264) (by decide) 237) (Nat.le_of_ble_eq_true rfl) (Nat.le_of_ble_eq_true rfl) (show 5 ≤ am_P0.2.2.1 179 from by decide +kernel) rfl (am_recv_ok hS164.fs) rfl rfl (ct_pile (d := (d + 6)) hS164 hR165 (mj_e_plain (by decide)) (by show (0 : Int) ≤ (f 10).toInt; omega) (by show (f 10).toInt ≤ (65535 : Int); omega)) ?_
            rintro v167 S168 (⟨z169, g'170, hv171, hS172, hR175, h173, h174⟩)
            subst hv171
            have h173_ : z169.toInt = (f 10).toInt + 1 := h173
            have h174_ : ∀ j, j ∉ [11, 12, 13, 14] → g'170 j = g'152 j := h174
            replace hS172 : MS S0 S168 (upd (upd (upd (upd (upd (upd f 4 z162) 10 z169) 15 z0) 20 z151) 62 o137) 75 m138) g'170 := hS172
            have hR175_ : RJ (upd (upd (upd (upd (upd (upd f 4 z162) 10 z169) 15 z0) 20 z151) 62 o137) 75 m138) g'170 (((22 : Int), z166.toInt, tw.toInt, (0 : Int), []) :: gs) bc [] 0 [] := hR175
            show am_E _ _ _ _ [some (.ref 39), some (.int on), some (.int tw), some (.int (g 16 z0.toNatClampNeg)), some (.int r3), some (.int 1), some (.int (g 18 z0.toNatClampNeg)), some (.int r140)] [] _ _
            refine am_e2 (v := 39) hi_264_240 rfl ?_
            refine am_e32w (as := [.ref 39]) (la := [some (.ref 39)]) (rest := []) hi_264_241 (am_hd0 (M := 264) (by decide) 241) (Nat.le_of_ble_eq_true rfl) (Nat.le_of_ble_eq_true rfl) (show 1 ≤ am_P0.2.2.1 214 from by decide +kernel) rfl (am_recv_ok hS172.fs) rfl rfl ?_
            refine am_e2 (v := 39) hi_214_0 rfl ?_
            refine am_e0 hi_214_1 ?_
            refine am_e0 hi_214_3 ?_
            refine am_e0 hi_214_4 ?_
            refine am_e0 hi_214_5 ?_
            refine am_e32n (as := [.ref 39, .int 34, .int 1, .int 0, .int 0]) (la := [some (.ref 39), some (.int 34), some (.int 1), some (.int 0), some (.int 0)]) (rest := []) hi_214_6 (am_hd0 (M := 214) (by decide) 6) (Nat.le_of_ble_eq_true rfl) (Nat.le_of_ble_eq_true rfl) (show 5 ≤ am_P0.2.2.1 179 from by decide +kernel) rfl (am_recv_ok hS172.fs) rfl rfl (ct_pile (d := (d + 5)) hS172 hR175_ (mj_e_plain (by decide)) (by show (0 : Int) ≤ z169.toInt; omega) (by show z169.toInt ≤ (65535 : Int); omega)) ?_
            rintro v176 S177 (⟨z178, g'179, hv180, hS181, hR184, h182, h183⟩)
            subst hv180
            have h182_ : z178.toInt = z169.toInt + 1 := h182
            have h183_ : ∀ j, j ∉ [11, 12, 13, 14] → g'179 j = g'170 j := h183
            replace hS181 : MS S0 S177 (upd (upd (upd (upd (upd (upd f 4 z162) 10 z178) 15 z0) 20 z151) 62 o137) 75 m138) g'179 := hS181
            have hR184_ : RJ (upd (upd (upd (upd (upd (upd f 4 z162) 10 z178) 15 z0) 20 z151) 62 o137) 75 m138) g'179 (((34 : Int), (1 : Int), (0 : Int), (0 : Int), []) :: (((22 : Int), z166.toInt, tw.toInt, (0 : Int), []) :: gs)) bc [] 0 [] := hR184
            show am_E _ _ _ _ [some (.ref 39)] [] _ _
            refine am_e2 (v := 39) hi_214_9 rfl ?_
            refine am_e0 hi_214_10 ?_
            refine am_e32w (as := [.ref 39, .int 0]) (la := [some (.ref 39), some (.int 0)]) (rest := []) hi_214_11 (am_hd0 (M := 214) (by decide) 11) (Nat.le_of_ble_eq_true rfl) (Nat.le_of_ble_eq_true rfl) (show 2 ≤ am_P0.2.2.1 186 from by decide +kernel) rfl (am_recv_ok hS181.fs) rfl rfl ?_
            refine am_e2 (v := 39) hi_186_0 rfl ?_
            refine am_e0 hi_186_1 ?_
            refine am_e1 (v := 0) hi_186_3 rfl ?_
            refine am_e0 hi_186_4 ?_
            refine am_e0 hi_186_5 ?_
            refine am_e32n (as := [.ref 39, .int 23, .int 0, .int 0, .int 0]) (la := [some (.ref 39), some (.int 23), some (.int 0), some (.int 0), some (.int 0)]) (rest := []) hi_186_6 (am_hd0 (M := 186) (by decide) 6) (Nat.le_of_ble_eq_true rfl) (Nat.le_of_ble_eq_true rfl) (show 5 ≤ am_P0.2.2.1 179 from by decide +kernel) rfl (am_recv_ok hS181.fs) rfl rfl (ct_pile (d := (d + 4)) hS181 hR184_ (mj_e_plain (by decide)) (by show (0 : Int) ≤ z178.toInt; omega) (by show z178.toInt ≤ (65535 : Int); omega)) ?_
            rintro v185 S186 (⟨z187, g'188, hv189, hS190, hR193, h191, h192⟩)
            subst hv189
            have h191_ : z187.toInt = z178.toInt + 1 := h191
            have h192_ : ∀ j, j ∉ [11, 12, 13, 14] → g'188 j = g'179 j := h192
            replace hS190 : MS S0 S186 (upd (upd (upd (upd (upd (upd f 4 z162) 10 z187) 15 z0) 20 z151) 62 o137) 75 m138) g'188 := hS190
            have hR193_ : RJ (upd (upd (upd (upd (upd (upd f 4 z162) 10 z187) 15 z0) 20 z151) 62 o137) 75 m138) g'188 (((23 : Int), (0 : Int), (0 : Int), (0 : Int), []) :: (((34 : Int), (1 : Int), (0 : Int), (0 : Int), []) :: (((22 : Int), z166.toInt, tw.toInt, (0 : Int), []) :: gs))) bc [] 0 [] := hR193
            show am_E _ _ _ _ [some (.ref 39), some (.int 0)] [] _ _
            refine am_e35 hi_186_9 ?_
            show am_E _ _ _ _ [some (.ref 39)] [] _ _
            refine am_e35 hi_214_14 ?_
            show am_E _ _ _ _ [some (.ref 39), some (.int on), some (.int tw), some (.int (g 16 z0.toNatClampNeg)), some (.int r3), some (.int 1), some (.int (g 18 z0.toNatClampNeg)), some (.int r140)] [] _ _
            refine am_e35 hi_264_244 ?_
            show am_E _ _ _ _ [some (.ref 39), some (.int 21), some (.int on), some (.int tw), some (.int th)] [] _ _
            refine am_e18 hi_180_362 ?_
            refine am_e35 hi_180_371 ?_
            have q1 : mg_p1 (((23 : Int), (0 : Int), (0 : Int), (0 : Int), []) :: (((34 : Int), (1 : Int), (0 : Int), (0 : Int), []) :: (((22 : Int), z166.toInt, tw.toInt, (0 : Int), []) :: gs))) = 0 + (0 + (0 + (mg_p1 gs))) := rfl
            have q2 : mg_p2 (((23 : Int), (0 : Int), (0 : Int), (0 : Int), []) :: (((34 : Int), (1 : Int), (0 : Int), (0 : Int), []) :: (((22 : Int), z166.toInt, tw.toInt, (0 : Int), []) :: gs))) = 0 + (((1 : Int) - 1) + (0 + (mg_p2 gs))) := rfl
            have q3 : mg_p3 (((23 : Int), (0 : Int), (0 : Int), (0 : Int), []) :: (((34 : Int), (1 : Int), (0 : Int), (0 : Int), []) :: (((22 : Int), z166.toInt, tw.toInt, (0 : Int), []) :: gs))) = 1 + (1 + (1 + (mg_p3 gs))) := rfl
            have q4 : mg_p4 (((23 : Int), (0 : Int), (0 : Int), (0 : Int), []) :: (((34 : Int), (1 : Int), (0 : Int), (0 : Int), []) :: (((22 : Int), z166.toInt, tw.toInt, (0 : Int), []) :: gs))) = 0 + (0 + (5 + (mg_p4 gs))) := rfl
            refine ⟨_, _, _, bc, rfl, hS190, Or.inl ⟨⟨hR193_, ?_, ?_⟩, rfl, ?_⟩⟩
            · exact (⟨⟨(show mg_k 23 from by decide), (show (0 : Int) ≤ z0.toInt from by omega), (show 0 ≤ z151.toInt from by omega), (show 1 ≤ (f 37).toInt from by omega), (show 0 ≤ (f 32).toInt from by omega), (show (f 32).toInt ≤ (f 5).toInt from by omega), (show (f 5).toInt ≤ 48 from by omega), (show (f 37).toInt ≤ 2 * ((f 5).toInt) + 2 from by omega), (show 0 ≤ (0 : Int) from by omega)⟩, ⟨⟨(show mg_k 34 from by decide), (show (1 : Int) ≤ z0.toInt + 1 from by omega), (show 0 ≤ z151.toInt from by omega), (show 1 ≤ (f 37).toInt + 0 from by omega), (show 0 ≤ (f 32).toInt + 0 from by omega), (show (f 32).toInt + 0 ≤ (f 5).toInt + 0 from by omega), (show (f 5).toInt + 0 ≤ 48 from by omega), (show (f 37).toInt + 0 ≤ 2 * ((f 5).toInt + 0) + 2 from by omega), (show 1 ≤ (1 : Int) from by omega)⟩, ⟨⟨(show mg_k 22 from by decide), (show (1 : Int) ≤ z0.toInt + 1 + 0 from by omega), (show 0 ≤ z151.toInt from by omega), (show 1 ≤ (f 37).toInt + 0 + 0 from by omega), (show 0 ≤ (f 32).toInt + 0 + 0 from by omega), (show (f 32).toInt + 0 + 0 ≤ (f 5).toInt + 0 + 0 from by omega), (show (f 5).toInt + 0 + 0 ≤ 48 from by omega), (show (f 37).toInt + 0 + 0 ≤ 2 * ((f 5).toInt + 0 + 0) + 1 from by omega), ⟨(show 0 ≤ z166.toInt from by omega), (show 0 ≤ tw.toInt from by omega), (show z151.toInt = tw.toInt + z166.toInt from by omega)⟩⟩, mg_cast (mg_good_ext _ _ _ _ _ _ (fun i _ => by show g'188 34 i = g 34 i; rw [show g'188 34 = g'179 34 from h192_ 34 (by decide), show g'179 34 = g'170 34 from h183_ 34 (by decide), show g'170 34 = g'152 34 from h174_ 34 (by decide), show g'152 34 = g'139 34 from h156_ 34 (by decide), show g'139 34 = g 34 from h147_ 34 (by decide)]) (fun i _ => by show g'188 38 i = g 38 i; rw [show g'188 38 = g'179 38 from h192_ 38 (by decide), show g'179 38 = g'170 38 from h183_ 38 (by decide), show g'170 38 = g'152 38 from h174_ 38 (by decide), show g'152 38 = g'139 38 from h156_ 38 (by decide), show g'139 38 = g 38 from h147_ 38 (by decide)]) (fun i hi => by show g'188 23 i = g 23 i; rw [show g'188 23 = g'179 23 from h192_ 23 (by decide), show g'179 23 = g'170 23 from h183_ 23 (by decide), show g'170 23 = g'152 23 from h174_ 23 (by decide), h157_, show g'139 23 = g 23 from h147_ 23 (by decide)]; exact upd_ne (by rw [cl_toNat]; omega)) hrest) (by show (f 15).toInt + -1 = z0.toInt + 1 + 0 + -1; omega) (by show tw.toInt = tw.toInt; omega) (by show (f 37).toInt + 0 = (f 37).toInt + 0 + 0 + 0; omega) (by show (f 32).toInt + 0 = (f 32).toInt + 0 + 0 + 0; omega) (by show (f 5).toInt + 0 = (f 5).toInt + 0 + 0 + 0; omega)⟩⟩⟩ : mg_good (g'188 34) (g'188 38) (g'188 23) (((23 : Int), (0 : Int), (0 : Int), (0 : Int), []) :: (((34 : Int), (1 : Int), (0 : Int), (0 : Int), []) :: (((22 : Int), z166.toInt, tw.toInt, (0 : Int), []) :: gs))) (z0.toInt) (z151.toInt) ((f 37).toInt) ((f 32).toInt) ((f 5).toInt))
            · exact ⟨(by show 0 ≤ z162.toInt; omega), (by show z162.toInt ≤ (f 0).toInt; omega), (by show (f 0).toInt ≤ 512; omega), (by show 0 ≤ (f 24).toInt; omega), (by show (f 24).toInt + z151.toInt + mg_p1 (((23 : Int), (0 : Int), (0 : Int), (0 : Int), []) :: (((34 : Int), (1 : Int), (0 : Int), (0 : Int), []) :: (((22 : Int), z166.toInt, tw.toInt, (0 : Int), []) :: gs))) ≤ 4 * z162.toInt; omega), (by show z151.toInt ≤ z162.toInt; omega), (by show z0.toInt + mg_p2 (((23 : Int), (0 : Int), (0 : Int), (0 : Int), []) :: (((34 : Int), (1 : Int), (0 : Int), (0 : Int), []) :: (((22 : Int), z166.toInt, tw.toInt, (0 : Int), []) :: gs))) ≤ z162.toInt; omega), (by show mg_p3 (((23 : Int), (0 : Int), (0 : Int), (0 : Int), []) :: (((34 : Int), (1 : Int), (0 : Int), (0 : Int), []) :: (((22 : Int), z166.toInt, tw.toInt, (0 : Int), []) :: gs))) ≤ 20 * z162.toInt + 20; omega), (by show 0 ≤ (f 68).toInt; omega), (by show (f 68).toInt + 3 * z151.toInt + mg_p4 (((23 : Int), (0 : Int), (0 : Int), (0 : Int), []) :: (((34 : Int), (1 : Int), (0 : Int), (0 : Int), []) :: (((22 : Int), z166.toInt, tw.toInt, (0 : Int), []) :: gs))) ≤ 60 * z162.toInt + 60; omega), (by show 0 ≤ o137.toInt; omega), (by show o137.toInt + 64 * mj_n (g'188 16) z0.toNatClampNeg 3 ≤ 64 * z162.toInt; rw [show g'188 16 = g'179 16 from h192_ 16 (by decide), show g'179 16 = g'170 16 from h183_ 16 (by decide), show g'170 16 = g'152 16 from h174_ 16 (by decide), show g'152 16 = g'139 16 from h156_ 16 (by decide), show g'139 16 = g 16 from h147_ 16 (by decide)]; omega), (by show 0 ≤ (f 44).toInt; omega), (by show (f 44).toInt ≤ z162.toInt; omega), (by show 0 ≤ (f 48).toInt; omega), (by show (f 48).toInt ≤ z162.toInt; omega), (by show 1 ≤ (f 53).toInt; omega), (by show (f 53).toInt ≤ z162.toInt + 1; omega), (by show 0 ≤ (f 19).toInt; omega), (by show (f 19).toInt ≤ 600; omega), (by show 0 ≤ (f 6).toInt; omega), (by show 0 ≤ (f 8).toInt; omega)⟩
            · show 100 * ((f 0).toInt - z162.toInt) + mg_p3 (((23 : Int), (0 : Int), (0 : Int), (0 : Int), []) :: (((34 : Int), (1 : Int), (0 : Int), (0 : Int), []) :: (((22 : Int), z166.toInt, tw.toInt, (0 : Int), []) :: gs))) < 100 * ((f 0).toInt - (f 4).toInt) + (1 + mg_p3 gs); omega
          · refine am_e12f hi_237_12 (am_cF (m := r128.toInt) (n := (0 : Int)) rfl (by decide) c134) ?_
            refine am_e2 (v := 39) hi_237_15 rfl ?_
            refine mm_20 (v := .ref 56) hS130 hi_237_16 rfl ?_
            refine am_e1 (v := r128) hi_237_19 rfl ?_
            refine mm_25 hS130 ma_29 hi_237_20 (by decide) (by omega) (by omega) ?_
            show am_E _ _ _ _ [some (.ref 39), some (.int (g 18 z0.toNatClampNeg)), some (.int r128)] [.int (g 29 r128.toNatClampNeg)] _ _
            by_cases c194 : (g 29 r128.toNatClampNeg).toInt = (0 : Int)
            · refine am_e12t hi_237_21 (am_cT (m := (g 29 r128.toNatClampNeg).toInt) (n := (0 : Int)) rfl (by decide) c194) ?_
              refine am_e2 (v := 39) hi_237_31 rfl ?_
              refine am_e1 (v := g 18 z0.toNatClampNeg) hi_237_32 rfl ?_
              refine am_e32n (as := [.ref 39, .int (g 18 z0.toNatClampNeg)]) (la := [some (.ref 39), some (.int (g 18 z0.toNatClampNeg)), none, none, none]) (rest := []) hi_237_33 (am_hd0 (M := 237) (by decide) 33) (Nat.le_of_ble_eq_true rfl) (Nat.le_of_ble_eq_true rfl) (show 2 ≤ am_P0.2.2.1 205 from by decide +kernel) rfl (am_recv_ok hS130.fs) rfl rfl (ct_resolve (d := (d + 4)) hS130 hR  (by show (0 : Int) ≤ (f 32).toInt; omega) (by show (f 32).toInt ≤ (63 : Int); omega) (by show (f 53).toInt ≤ (4096 : Int); omega) (by show (0 : Int) ≤ (f 24).toInt; omega) (by show (f 24).toInt ≤ (16384 : Int); omega) (by show (0 : Int) ≤ (f 62).toInt; omega) (by show (f 62).toInt ≤ (65000 : Int); omega) (by show (0 : Int) ≤ (g 18 z0.toNatClampNeg).toInt; omega) (by show (g 18 z0.toNatClampNeg).toInt ≤ (16383 : Int); omega)) ?_
              rintro v195 S196 (⟨o197, m198, g'199, r200, hv201, hS202, hR208, h203, h204, h205, h206, h207⟩)
              subst hv201
              have h203_ : (f 62).toInt ≤ o197.toInt := h203
              have h204_ : o197.toInt ≤ (f 62).toInt + 64 := h204
              have h205_ : (0 : Int) ≤ r200.toInt := h205
              have h206_ : r200.toInt ≤ (2 : Int) := h206
              have h207_ : ∀ j, j ∉ [63, 64, 65, 66, 67] → g'199 j = g j := h207
              have hR208_ : RJ (upd (upd f 62 o197) 75 m198) g'199 gs bc [] 0 [] := hR208
              show am_E _ _ _ _ [some (.ref 39), some (.int (g 18 z0.toNatClampNeg)), some (.int r128)] [.int r200] _ _
              refine am_e33 hi_237_36 ?_
              show am_E _ _ _ _ [some (.ref 39), some (.int on), some (.int tw), some (.int (g 16 z0.toNatClampNeg)), some (.int r3), some (.int 1), some (.int (g 18 z0.toNatClampNeg)), none] [.int r200] _ _
              refine am_e3 (ls' := [some (.ref 39), some (.int on), some (.int tw), some (.int (g 16 z0.toNatClampNeg)), some (.int r3), some (.int 1), some (.int (g 18 z0.toNatClampNeg)), some (.int r200)]) hi_264_126 (Nat.le_of_ble_eq_true rfl) rfl ?_
              refine am_e2 (v := 39) hi_264_128 rfl ?_
              refine am_e1 (v := r200) hi_264_129 rfl ?_
              refine am_e2 (v := 39) hi_264_131 rfl ?_
              refine mm_20 (v := .int m198) hS202 hi_264_132 rfl ?_
              refine am_e1 (v := g 18 z0.toNatClampNeg) hi_264_135 rfl ?_
              refine am_e32n (as := [.ref 39, .int r200, .int m198, .int (g 18 z0.toNatClampNeg)]) (la := [some (.ref 39), some (.int r200), some (.int m198), some (.int (g 18 z0.toNatClampNeg))]) (rest := []) hi_264_137 (am_hd0 (M := 264) (by decide) 137) (Nat.le_of_ble_eq_true rfl) (Nat.le_of_ble_eq_true rfl) (show 4 ≤ am_P0.2.2.1 239 from by decide +kernel) rfl (am_recv_ok hS202.fs) rfl rfl (ct_keep2 (d := (d + 6)) hS202 hR208_  (by show (0 : Int) ≤ (f 20).toInt; omega) (by show (f 20).toInt ≤ (16383 : Int); omega)) ?_
              rintro v209 S210 (⟨z211, g'212, hv213, hS214, hR218, h215, h216, h217⟩)
              subst hv213
              have h215_ : z211.toInt = (f 20).toInt + 1 := h215
              have h216_ : ∀ j, j ∉ [21, 22, 23] → g'212 j = g'199 j := h216
              have h217_ : g'212 23 = upd (g'199 23) (f 20).toNatClampNeg (g 18 z0.toNatClampNeg) := h217
              replace hS214 : MS S0 S210 (upd (upd (upd f 20 z211) 62 o197) 75 m198) g'212 := hS214
              have hR218_ : RJ (upd (upd (upd f 20 z211) 62 o197) 75 m198) g'212 gs bc [] 0 [] := hR218
              show am_E _ _ _ _ [some (.ref 39), some (.int on), some (.int tw), some (.int (g 16 z0.toNatClampNeg)), some (.int r3), some (.int 1), some (.int (g 18 z0.toNatClampNeg)), some (.int r200)] [] _ _
              refine am_e18 hi_264_140 ?_
              refine am_e2 (v := 39) hi_264_175 rfl ?_
              refine am_e7 hi_264_176 ?_
              refine mm_20 (v := .int (f 15)) hS214 hi_264_177 rfl ?_
              refine am_e0 hi_264_180 ?_
              refine am_e10 (z := z0) hi_264_181 hz0 ?_
              refine mm_21 (v := z0) hS214 hi_264_182 rfl (Nat.le_of_ble_eq_true rfl) ms_15 ?_
              intro S219 hS220
              replace hS220 : MS S0 S219 (upd (upd (upd (upd f 15 z0) 20 z211) 62 o197) 75 m198) g'212 := hS220
              have hp221 : mj_n (g 16) (f 15).toNatClampNeg 3 = mj_n (g 16) z0.toNatClampNeg 3 + if (g 16 z0.toNatClampNeg).toInt = 3 then 1 else 0 := mj_pop (by rw [cl_toNat, cl_toNat]; omega)
              have hp2211 : mj_n (g 16) z0.toNatClampNeg 3 ≤ mj_n (g 16) (f 15).toNatClampNeg 3 := by rw [hp221]; split <;> omega
              have hp2212 : (g 16 z0.toNatClampNeg).toInt = 3 → mj_n (g 16) z0.toNatClampNeg 3 + 1 ≤ mj_n (g 16) (f 15).toNatClampNeg 3 := fun q => by rw [hp221, if_pos q]; exact Int.le_refl _
              refine am_e2 (v := 39) hi_264_185 rfl ?_
              refine am_e7 hi_264_186 ?_
              refine mm_20 (v := .int (f 4)) hS220 hi_264_187 rfl ?_
              refine am_e0 hi_264_190 ?_
              obtain ⟨z222, hz222, tz222⟩ := am_addI (x := f 4) (y := 1) (m := (f 4).toInt) (n := (1 : Int)) rfl (by decide) (by omega) (by omega)
              refine am_e10 (z := z222) hi_264_191 hz222 ?_
              refine mm_21 (v := z222) hS220 hi_264_192 rfl (Nat.le_of_ble_eq_true rfl) ms_4 ?_
              intro S223 hS224
              replace hS224 : MS S0 S223 (upd (upd (upd (upd (upd f 4 z222) 15 z0) 20 z211) 62 o197) 75 m198) g'212 := hS224
              have hR225 : RJ (upd (upd (upd (upd (upd f 4 z222) 15 z0) 20 z211) 62 o197) 75 m198) g'212 gs bc [] 0 [] := RJ.at hR218_ (by show (f 4).toInt ≤ z222.toInt; omega)
              refine am_e1 (v := r3) hi_264_195 rfl ?_
              refine am_e0 hi_264_197 ?_
              refine am_e13t hi_264_199 (am_cT (m := r3.toInt) (n := (69 : Int)) rfl (by decide) (by simp only [am_cI]; omega)) ?_
              refine am_e2 (v := 39) hi_264_229 rfl ?_
              refine am_e0 hi_264_230 ?_
              refine am_e1 (v := on) hi_264_232 rfl ?_
              refine am_e0 hi_264_233 ?_
              obtain ⟨z226, hz226, tz226⟩ := am_addI (x := on) (y := 1) (m := on.toInt) (n := (1 : Int)) rfl (by decide) (by omega) (by omega)
              refine am_e10 (z := z226) hi_264_234 hz226 ?_
              refine am_e1 (v := tw) hi_264_235 rfl ?_
              refine am_e0 hi_264_236 ?_
              refine am_e32n (as := [.ref 39, .int 22, .int z226, .int tw, .int 0]) (la := [some (.ref 39), some (.int 22), some (.int z226), some (.int tw), some (.int 0)]) (rest := []) hi_264_237 (am_hd0 (M := 264) (by decide) 237) (Nat.le_of_ble_eq_true rfl) (Nat.le_of_ble_eq_true rfl) (show 5 ≤ am_P0.2.2.1 179 from by decide +kernel) rfl (am_recv_ok hS224.fs) rfl rfl (ct_pile (d := (d + 6)) hS224 hR225 (mj_e_plain (by decide)) (by show (0 : Int) ≤ (f 10).toInt; omega) (by show (f 10).toInt ≤ (65535 : Int); omega)) ?_
              rintro v227 S228 (⟨z229, g'230, hv231, hS232, hR235, h233, h234⟩)
              subst hv231
              have h233_ : z229.toInt = (f 10).toInt + 1 := h233
              have h234_ : ∀ j, j ∉ [11, 12, 13, 14] → g'230 j = g'212 j := h234
              replace hS232 : MS S0 S228 (upd (upd (upd (upd (upd (upd f 4 z222) 10 z229) 15 z0) 20 z211) 62 o197) 75 m198) g'230 := hS232
              have hR235_ : RJ (upd (upd (upd (upd (upd (upd f 4 z222) 10 z229) 15 z0) 20 z211) 62 o197) 75 m198) g'230 (((22 : Int), z226.toInt, tw.toInt, (0 : Int), []) :: gs) bc [] 0 [] := hR235
              show am_E _ _ _ _ [some (.ref 39), some (.int on), some (.int tw), some (.int (g 16 z0.toNatClampNeg)), some (.int r3), some (.int 1), some (.int (g 18 z0.toNatClampNeg)), some (.int r200)] [] _ _
              refine am_e2 (v := 39) hi_264_240 rfl ?_
              refine am_e32w (as := [.ref 39]) (la := [some (.ref 39)]) (rest := []) hi_264_241 (am_hd0 (M := 264) (by decide) 241) (Nat.le_of_ble_eq_true rfl) (Nat.le_of_ble_eq_true rfl) (show 1 ≤ am_P0.2.2.1 214 from by decide +kernel) rfl (am_recv_ok hS232.fs) rfl rfl ?_
              refine am_e2 (v := 39) hi_214_0 rfl ?_
              refine am_e0 hi_214_1 ?_
              refine am_e0 hi_214_3 ?_
              refine am_e0 hi_214_4 ?_
              refine am_e0 hi_214_5 ?_
              refine am_e32n (as := [.ref 39, .int 34, .int 1, .int 0, .int 0]) (la := [some (.ref 39), some (.int 34), some (.int 1), some (.int 0), some (.int 0)]) (rest := []) hi_214_6 (am_hd0 (M := 214) (by decide) 6) (Nat.le_of_ble_eq_true rfl) (Nat.le_of_ble_eq_true rfl) (show 5 ≤ am_P0.2.2.1 179 from by decide +kernel) rfl (am_recv_ok hS232.fs) rfl rfl (ct_pile (d := (d + 5)) hS232 hR235_ (mj_e_plain (by decide)) (by show (0 : Int) ≤ z229.toInt; omega) (by show z229.toInt ≤ (65535 : Int); omega)) ?_
              rintro v236 S237 (⟨z238, g'239, hv240, hS241, hR244, h242, h243⟩)
              subst hv240
              have h242_ : z238.toInt = z229.toInt + 1 := h242
              have h243_ : ∀ j, j ∉ [11, 12, 13, 14] → g'239 j = g'230 j := h243
              replace hS241 : MS S0 S237 (upd (upd (upd (upd (upd (upd f 4 z222) 10 z238) 15 z0) 20 z211) 62 o197) 75 m198) g'239 := hS241
              have hR244_ : RJ (upd (upd (upd (upd (upd (upd f 4 z222) 10 z238) 15 z0) 20 z211) 62 o197) 75 m198) g'239 (((34 : Int), (1 : Int), (0 : Int), (0 : Int), []) :: (((22 : Int), z226.toInt, tw.toInt, (0 : Int), []) :: gs)) bc [] 0 [] := hR244
              show am_E _ _ _ _ [some (.ref 39)] [] _ _
              refine am_e2 (v := 39) hi_214_9 rfl ?_
              refine am_e0 hi_214_10 ?_
              refine am_e32w (as := [.ref 39, .int 0]) (la := [some (.ref 39), some (.int 0)]) (rest := []) hi_214_11 (am_hd0 (M := 214) (by decide) 11) (Nat.le_of_ble_eq_true rfl) (Nat.le_of_ble_eq_true rfl) (show 2 ≤ am_P0.2.2.1 186 from by decide +kernel) rfl (am_recv_ok hS241.fs) rfl rfl ?_
              refine am_e2 (v := 39) hi_186_0 rfl ?_
              refine am_e0 hi_186_1 ?_
              refine am_e1 (v := 0) hi_186_3 rfl ?_
              refine am_e0 hi_186_4 ?_
              refine am_e0 hi_186_5 ?_
              refine am_e32n (as := [.ref 39, .int 23, .int 0, .int 0, .int 0]) (la := [some (.ref 39), some (.int 23), some (.int 0), some (.int 0), some (.int 0)]) (rest := []) hi_186_6 (am_hd0 (M := 186) (by decide) 6) (Nat.le_of_ble_eq_true rfl) (Nat.le_of_ble_eq_true rfl) (show 5 ≤ am_P0.2.2.1 179 from by decide +kernel) rfl (am_recv_ok hS241.fs) rfl rfl (ct_pile (d := (d + 4)) hS241 hR244_ (mj_e_plain (by decide)) (by show (0 : Int) ≤ z238.toInt; omega) (by show z238.toInt ≤ (65535 : Int); omega)) ?_
              rintro v245 S246 (⟨z247, g'248, hv249, hS250, hR253, h251, h252⟩)
              subst hv249
              have h251_ : z247.toInt = z238.toInt + 1 := h251
              have h252_ : ∀ j, j ∉ [11, 12, 13, 14] → g'248 j = g'239 j := h252
              replace hS250 : MS S0 S246 (upd (upd (upd (upd (upd (upd f 4 z222) 10 z247) 15 z0) 20 z211) 62 o197) 75 m198) g'248 := hS250
              have hR253_ : RJ (upd (upd (upd (upd (upd (upd f 4 z222) 10 z247) 15 z0) 20 z211) 62 o197) 75 m198) g'248 (((23 : Int), (0 : Int), (0 : Int), (0 : Int), []) :: (((34 : Int), (1 : Int), (0 : Int), (0 : Int), []) :: (((22 : Int), z226.toInt, tw.toInt, (0 : Int), []) :: gs))) bc [] 0 [] := hR253
              show am_E _ _ _ _ [some (.ref 39), some (.int 0)] [] _ _
              refine am_e35 hi_186_9 ?_
              show am_E _ _ _ _ [some (.ref 39)] [] _ _
              refine am_e35 hi_214_14 ?_
              show am_E _ _ _ _ [some (.ref 39), some (.int on), some (.int tw), some (.int (g 16 z0.toNatClampNeg)), some (.int r3), some (.int 1), some (.int (g 18 z0.toNatClampNeg)), some (.int r200)] [] _ _
              refine am_e35 hi_264_244 ?_
              show am_E _ _ _ _ [some (.ref 39), some (.int 21), some (.int on), some (.int tw), some (.int th)] [] _ _
              refine am_e18 hi_180_362 ?_
              refine am_e35 hi_180_371 ?_
              have q1 : mg_p1 (((23 : Int), (0 : Int), (0 : Int), (0 : Int), []) :: (((34 : Int), (1 : Int), (0 : Int), (0 : Int), []) :: (((22 : Int), z226.toInt, tw.toInt, (0 : Int), []) :: gs))) = 0 + (0 + (0 + (mg_p1 gs))) := rfl
              have q2 : mg_p2 (((23 : Int), (0 : Int), (0 : Int), (0 : Int), []) :: (((34 : Int), (1 : Int), (0 : Int), (0 : Int), []) :: (((22 : Int), z226.toInt, tw.toInt, (0 : Int), []) :: gs))) = 0 + (((1 : Int) - 1) + (0 + (mg_p2 gs))) := rfl
              have q3 : mg_p3 (((23 : Int), (0 : Int), (0 : Int), (0 : Int), []) :: (((34 : Int), (1 : Int), (0 : Int), (0 : Int), []) :: (((22 : Int), z226.toInt, tw.toInt, (0 : Int), []) :: gs))) = 1 + (1 + (1 + (mg_p3 gs))) := rfl
              have q4 : mg_p4 (((23 : Int), (0 : Int), (0 : Int), (0 : Int), []) :: (((34 : Int), (1 : Int), (0 : Int), (0 : Int), []) :: (((22 : Int), z226.toInt, tw.toInt, (0 : Int), []) :: gs))) = 0 + (0 + (5 + (mg_p4 gs))) := rfl
              refine ⟨_, _, _, bc, rfl, hS250, Or.inl ⟨⟨hR253_, ?_, ?_⟩, rfl, ?_⟩⟩
              · exact (⟨⟨(show mg_k 23 from by decide), (show (0 : Int) ≤ z0.toInt from by omega), (show 0 ≤ z211.toInt from by omega), (show 1 ≤ (f 37).toInt from by omega), (show 0 ≤ (f 32).toInt from by omega), (show (f 32).toInt ≤ (f 5).toInt from by omega), (show (f 5).toInt ≤ 48 from by omega), (show (f 37).toInt ≤ 2 * ((f 5).toInt) + 2 from by omega), (show 0 ≤ (0 : Int) from by omega)⟩, ⟨⟨(show mg_k 34 from by decide), (show (1 : Int) ≤ z0.toInt + 1 from by omega), (show 0 ≤ z211.toInt from by omega), (show 1 ≤ (f 37).toInt + 0 from by omega), (show 0 ≤ (f 32).toInt + 0 from by omega), (show (f 32).toInt + 0 ≤ (f 5).toInt + 0 from by omega), (show (f 5).toInt + 0 ≤ 48 from by omega), (show (f 37).toInt + 0 ≤ 2 * ((f 5).toInt + 0) + 2 from by omega), (show 1 ≤ (1 : Int) from by omega)⟩, ⟨⟨(show mg_k 22 from by decide), (show (1 : Int) ≤ z0.toInt + 1 + 0 from by omega), (show 0 ≤ z211.toInt from by omega), (show 1 ≤ (f 37).toInt + 0 + 0 from by omega), (show 0 ≤ (f 32).toInt + 0 + 0 from by omega), (show (f 32).toInt + 0 + 0 ≤ (f 5).toInt + 0 + 0 from by omega), (show (f 5).toInt + 0 + 0 ≤ 48 from by omega), (show (f 37).toInt + 0 + 0 ≤ 2 * ((f 5).toInt + 0 + 0) + 1 from by omega), ⟨(show 0 ≤ z226.toInt from by omega), (show 0 ≤ tw.toInt from by omega), (show z211.toInt = tw.toInt + z226.toInt from by omega)⟩⟩, mg_cast (mg_good_ext _ _ _ _ _ _ (fun i _ => by show g'248 34 i = g 34 i; rw [show g'248 34 = g'239 34 from h252_ 34 (by decide), show g'239 34 = g'230 34 from h243_ 34 (by decide), show g'230 34 = g'212 34 from h234_ 34 (by decide), show g'212 34 = g'199 34 from h216_ 34 (by decide), show g'199 34 = g 34 from h207_ 34 (by decide)]) (fun i _ => by show g'248 38 i = g 38 i; rw [show g'248 38 = g'239 38 from h252_ 38 (by decide), show g'239 38 = g'230 38 from h243_ 38 (by decide), show g'230 38 = g'212 38 from h234_ 38 (by decide), show g'212 38 = g'199 38 from h216_ 38 (by decide), show g'199 38 = g 38 from h207_ 38 (by decide)]) (fun i hi => by show g'248 23 i = g 23 i; rw [show g'248 23 = g'239 23 from h252_ 23 (by decide), show g'239 23 = g'230 23 from h243_ 23 (by decide), show g'230 23 = g'212 23 from h234_ 23 (by decide), h217_, show g'199 23 = g 23 from h207_ 23 (by decide)]; exact upd_ne (by rw [cl_toNat]; omega)) hrest) (by show (f 15).toInt + -1 = z0.toInt + 1 + 0 + -1; omega) (by show tw.toInt = tw.toInt; omega) (by show (f 37).toInt + 0 = (f 37).toInt + 0 + 0 + 0; omega) (by show (f 32).toInt + 0 = (f 32).toInt + 0 + 0 + 0; omega) (by show (f 5).toInt + 0 = (f 5).toInt + 0 + 0 + 0; omega)⟩⟩⟩ : mg_good (g'248 34) (g'248 38) (g'248 23) (((23 : Int), (0 : Int), (0 : Int), (0 : Int), []) :: (((34 : Int), (1 : Int), (0 : Int), (0 : Int), []) :: (((22 : Int), z226.toInt, tw.toInt, (0 : Int), []) :: gs))) (z0.toInt) (z211.toInt) ((f 37).toInt) ((f 32).toInt) ((f 5).toInt))
              · exact ⟨(by show 0 ≤ z222.toInt; omega), (by show z222.toInt ≤ (f 0).toInt; omega), (by show (f 0).toInt ≤ 512; omega), (by show 0 ≤ (f 24).toInt; omega), (by show (f 24).toInt + z211.toInt + mg_p1 (((23 : Int), (0 : Int), (0 : Int), (0 : Int), []) :: (((34 : Int), (1 : Int), (0 : Int), (0 : Int), []) :: (((22 : Int), z226.toInt, tw.toInt, (0 : Int), []) :: gs))) ≤ 4 * z222.toInt; omega), (by show z211.toInt ≤ z222.toInt; omega), (by show z0.toInt + mg_p2 (((23 : Int), (0 : Int), (0 : Int), (0 : Int), []) :: (((34 : Int), (1 : Int), (0 : Int), (0 : Int), []) :: (((22 : Int), z226.toInt, tw.toInt, (0 : Int), []) :: gs))) ≤ z222.toInt; omega), (by show mg_p3 (((23 : Int), (0 : Int), (0 : Int), (0 : Int), []) :: (((34 : Int), (1 : Int), (0 : Int), (0 : Int), []) :: (((22 : Int), z226.toInt, tw.toInt, (0 : Int), []) :: gs))) ≤ 20 * z222.toInt + 20; omega), (by show 0 ≤ (f 68).toInt; omega), (by show (f 68).toInt + 3 * z211.toInt + mg_p4 (((23 : Int), (0 : Int), (0 : Int), (0 : Int), []) :: (((34 : Int), (1 : Int), (0 : Int), (0 : Int), []) :: (((22 : Int), z226.toInt, tw.toInt, (0 : Int), []) :: gs))) ≤ 60 * z222.toInt + 60; omega), (by show 0 ≤ o197.toInt; omega), (by show o197.toInt + 64 * mj_n (g'248 16) z0.toNatClampNeg 3 ≤ 64 * z222.toInt; rw [show g'248 16 = g'239 16 from h252_ 16 (by decide), show g'239 16 = g'230 16 from h243_ 16 (by decide), show g'230 16 = g'212 16 from h234_ 16 (by decide), show g'212 16 = g'199 16 from h216_ 16 (by decide), show g'199 16 = g 16 from h207_ 16 (by decide)]; omega), (by show 0 ≤ (f 44).toInt; omega), (by show (f 44).toInt ≤ z222.toInt; omega), (by show 0 ≤ (f 48).toInt; omega), (by show (f 48).toInt ≤ z222.toInt; omega), (by show 1 ≤ (f 53).toInt; omega), (by show (f 53).toInt ≤ z222.toInt + 1; omega), (by show 0 ≤ (f 19).toInt; omega), (by show (f 19).toInt ≤ 600; omega), (by show 0 ≤ (f 6).toInt; omega), (by show 0 ≤ (f 8).toInt; omega)⟩
              · show 100 * ((f 0).toInt - z222.toInt) + mg_p3 (((23 : Int), (0 : Int), (0 : Int), (0 : Int), []) :: (((34 : Int), (1 : Int), (0 : Int), (0 : Int), []) :: (((22 : Int), z226.toInt, tw.toInt, (0 : Int), []) :: gs))) < 100 * ((f 0).toInt - (f 4).toInt) + (1 + mg_p3 gs); omega
            · refine am_e12f hi_237_21 (am_cF (m := (g 29 r128.toNatClampNeg).toInt) (n := (0 : Int)) rfl (by decide) c194) ?_
              refine am_e2 (v := 39) hi_237_24 rfl ?_
              refine am_e0 hi_237_25 ?_
              refine am_e1 (v := g 18 z0.toNatClampNeg) hi_237_27 rfl ?_
              refine am_e32n (as := [.ref 39, .int 10, .int (g 18 z0.toNatClampNeg)]) (la := [some (.ref 39), some (.int 10), some (.int (g 18 z0.toNatClampNeg))]) (rest := []) hi_237_28 (am_hd0 (M := 237) (by decide) 28) (Nat.le_of_ble_eq_true rfl) (Nat.le_of_ble_eq_true rfl) (show 3 ≤ am_P0.2.2.1 191 from by decide +kernel) rfl (am_recv_ok hS130.fs) rfl rfl (ct_failName (d := (d + 5)) hS130   (by show (0 : Int) ≤ (10 : Int); omega) (by show (0 : Int) ≤ (f 8).toInt; omega)) ?_
              rintro v254 S255 (⟨a256, b257, hv258, hS259, h260⟩)
              subst hv258
              have h260_ : (0 : Int) ≤ a256.toInt := h260
              show am_E _ _ _ _ [some (.ref 39), some (.int (g 18 z0.toNatClampNeg)), some (.int r128)] [] _ _
              refine am_e2 (v := 39) hi_237_31 rfl ?_
              refine am_e1 (v := g 18 z0.toNatClampNeg) hi_237_32 rfl ?_
              refine am_e32n (as := [.ref 39, .int (g 18 z0.toNatClampNeg)]) (la := [some (.ref 39), some (.int (g 18 z0.toNatClampNeg)), none, none, none]) (rest := []) hi_237_33 (am_hd0 (M := 237) (by decide) 33) (Nat.le_of_ble_eq_true rfl) (Nat.le_of_ble_eq_true rfl) (show 2 ≤ am_P0.2.2.1 205 from by decide +kernel) rfl (am_recv_ok hS259.fs) rfl rfl (ct_resolve (d := (d + 4)) hS259 hR  (by show (0 : Int) ≤ (f 32).toInt; omega) (by show (f 32).toInt ≤ (63 : Int); omega) (by show (f 53).toInt ≤ (4096 : Int); omega) (by show (0 : Int) ≤ (f 24).toInt; omega) (by show (f 24).toInt ≤ (16384 : Int); omega) (by show (0 : Int) ≤ (f 62).toInt; omega) (by show (f 62).toInt ≤ (65000 : Int); omega) (by show (0 : Int) ≤ (g 18 z0.toNatClampNeg).toInt; omega) (by show (g 18 z0.toNatClampNeg).toInt ≤ (16383 : Int); omega)) ?_
              rintro v262 S263 (⟨o264, m265, g'266, r267, hv268, hS269, hR275, h270, h271, h272, h273, h274⟩)
              subst hv268
              have h270_ : (f 62).toInt ≤ o264.toInt := h270
              have h271_ : o264.toInt ≤ (f 62).toInt + 64 := h271
              have h272_ : (0 : Int) ≤ r267.toInt := h272
              have h273_ : r267.toInt ≤ (2 : Int) := h273
              have h274_ : ∀ j, j ∉ [63, 64, 65, 66, 67] → g'266 j = g j := h274
              have hR275_ : RJ (upd (upd (upd (upd f 8 a256) 9 b257) 62 o264) 75 m265) g'266 gs bc [] 0 [] := hR275
              show am_E _ _ _ _ [some (.ref 39), some (.int (g 18 z0.toNatClampNeg)), some (.int r128)] [.int r267] _ _
              refine am_e33 hi_237_36 ?_
              show am_E _ _ _ _ [some (.ref 39), some (.int on), some (.int tw), some (.int (g 16 z0.toNatClampNeg)), some (.int r3), some (.int 1), some (.int (g 18 z0.toNatClampNeg)), none] [.int r267] _ _
              refine am_e3 (ls' := [some (.ref 39), some (.int on), some (.int tw), some (.int (g 16 z0.toNatClampNeg)), some (.int r3), some (.int 1), some (.int (g 18 z0.toNatClampNeg)), some (.int r267)]) hi_264_126 (Nat.le_of_ble_eq_true rfl) rfl ?_
              refine am_e2 (v := 39) hi_264_128 rfl ?_
              refine am_e1 (v := r267) hi_264_129 rfl ?_
              refine am_e2 (v := 39) hi_264_131 rfl ?_
              refine mm_20 (v := .int m265) hS269 hi_264_132 rfl ?_
              refine am_e1 (v := g 18 z0.toNatClampNeg) hi_264_135 rfl ?_
              refine am_e32n (as := [.ref 39, .int r267, .int m265, .int (g 18 z0.toNatClampNeg)]) (la := [some (.ref 39), some (.int r267), some (.int m265), some (.int (g 18 z0.toNatClampNeg))]) (rest := []) hi_264_137 (am_hd0 (M := 264) (by decide) 137) (Nat.le_of_ble_eq_true rfl) (Nat.le_of_ble_eq_true rfl) (show 4 ≤ am_P0.2.2.1 239 from by decide +kernel) rfl (am_recv_ok hS269.fs) rfl rfl (ct_keep2 (d := (d + 6)) hS269 hR275_  (by show (0 : Int) ≤ (f 20).toInt; omega) (by show (f 20).toInt ≤ (16383 : Int); omega)) ?_
              rintro v276 S277 (⟨z278, g'279, hv280, hS281, hR285, h282, h283, h284⟩)
              subst hv280
              have h282_ : z278.toInt = (f 20).toInt + 1 := h282
              have h283_ : ∀ j, j ∉ [21, 22, 23] → g'279 j = g'266 j := h283
              have h284_ : g'279 23 = upd (g'266 23) (f 20).toNatClampNeg (g 18 z0.toNatClampNeg) := h284
              replace hS281 : MS S0 S277 (upd (upd (upd (upd (upd f 8 a256) 9 b257) 20 z278) 62 o264) 75 m265) g'279 := hS281
              have hR285_ : RJ (upd (upd (upd (upd (upd f 8 a256) 9 b257) 20 z278) 62 o264) 75 m265) g'279 gs bc [] 0 [] := hR285
              show am_E _ _ _ _ [some (.ref 39), some (.int on), some (.int tw), some (.int (g 16 z0.toNatClampNeg)), some (.int r3), some (.int 1), some (.int (g 18 z0.toNatClampNeg)), some (.int r267)] [] _ _
              refine am_e18 hi_264_140 ?_
              refine am_e2 (v := 39) hi_264_175 rfl ?_
              refine am_e7 hi_264_176 ?_
              refine mm_20 (v := .int (f 15)) hS281 hi_264_177 rfl ?_
              refine am_e0 hi_264_180 ?_
              refine am_e10 (z := z0) hi_264_181 hz0 ?_
              refine mm_21 (v := z0) hS281 hi_264_182 rfl (Nat.le_of_ble_eq_true rfl) ms_15 ?_
              intro S286 hS287
              replace hS287 : MS S0 S286 (upd (upd (upd (upd (upd (upd f 8 a256) 9 b257) 15 z0) 20 z278) 62 o264) 75 m265) g'279 := hS287
              have hp288 : mj_n (g 16) (f 15).toNatClampNeg 3 = mj_n (g 16) z0.toNatClampNeg 3 + if (g 16 z0.toNatClampNeg).toInt = 3 then 1 else 0 := mj_pop (by rw [cl_toNat, cl_toNat]; omega)
              have hp2881 : mj_n (g 16) z0.toNatClampNeg 3 ≤ mj_n (g 16) (f 15).toNatClampNeg 3 := by rw [hp288]; split <;> omega
              have hp2882 : (g 16 z0.toNatClampNeg).toInt = 3 → mj_n (g 16) z0.toNatClampNeg 3 + 1 ≤ mj_n (g 16) (f 15).toNatClampNeg 3 := fun q => by rw [hp288, if_pos q]; exact Int.le_refl _
              refine am_e2 (v := 39) hi_264_185 rfl ?_
              refine am_e7 hi_264_186 ?_
              refine mm_20 (v := .int (f 4)) hS287 hi_264_187 rfl ?_
              refine am_e0 hi_264_190 ?_
              obtain ⟨z289, hz289, tz289⟩ := am_addI (x := f 4) (y := 1) (m := (f 4).toInt) (n := (1 : Int)) rfl (by decide) (by omega) (by omega)
              refine am_e10 (z := z289) hi_264_191 hz289 ?_
              refine mm_21 (v := z289) hS287 hi_264_192 rfl (Nat.le_of_ble_eq_true rfl) ms_4 ?_
              intro S290 hS291
              replace hS291 : MS S0 S290 (upd (upd (upd (upd (upd (upd (upd f 4 z289) 8 a256) 9 b257) 15 z0) 20 z278) 62 o264) 75 m265) g'279 := hS291
              have hR292 : RJ (upd (upd (upd (upd (upd (upd (upd f 4 z289) 8 a256) 9 b257) 15 z0) 20 z278) 62 o264) 75 m265) g'279 gs bc [] 0 [] := RJ.at hR285_ (by show (f 4).toInt ≤ z289.toInt; omega)
              refine am_e1 (v := r3) hi_264_195 rfl ?_
              refine am_e0 hi_264_197 ?_
              refine am_e13t hi_264_199 (am_cT (m := r3.toInt) (n := (69 : Int)) rfl (by decide) (by simp only [am_cI]; omega)) ?_
              refine am_e2 (v := 39) hi_264_229 rfl ?_
              refine am_e0 hi_264_230 ?_
              refine am_e1 (v := on) hi_264_232 rfl ?_
              refine am_e0 hi_264_233 ?_
              obtain ⟨z293, hz293, tz293⟩ := am_addI (x := on) (y := 1) (m := on.toInt) (n := (1 : Int)) rfl (by decide) (by omega) (by omega)
              refine am_e10 (z := z293) hi_264_234 hz293 ?_
              refine am_e1 (v := tw) hi_264_235 rfl ?_
              refine am_e0 hi_264_236 ?_
              refine am_e32n (as := [.ref 39, .int 22, .int z293, .int tw, .int 0]) (la := [some (.ref 39), some (.int 22), some (.int z293), some (.int tw), some (.int 0)]) (rest := []) hi_264_237 (am_hd0 (M := 264) (by decide) 237) (Nat.le_of_ble_eq_true rfl) (Nat.le_of_ble_eq_true rfl) (show 5 ≤ am_P0.2.2.1 179 from by decide +kernel) rfl (am_recv_ok hS291.fs) rfl rfl (ct_pile (d := (d + 6)) hS291 hR292 (mj_e_plain (by decide)) (by show (0 : Int) ≤ (f 10).toInt; omega) (by show (f 10).toInt ≤ (65535 : Int); omega)) ?_
              rintro v294 S295 (⟨z296, g'297, hv298, hS299, hR302, h300, h301⟩)
              subst hv298
              have h300_ : z296.toInt = (f 10).toInt + 1 := h300
              have h301_ : ∀ j, j ∉ [11, 12, 13, 14] → g'297 j = g'279 j := h301
              replace hS299 : MS S0 S295 (upd (upd (upd (upd (upd (upd (upd (upd f 4 z289) 8 a256) 9 b257) 10 z296) 15 z0) 20 z278) 62 o264) 75 m265) g'297 := hS299
              have hR302_ : RJ (upd (upd (upd (upd (upd (upd (upd (upd f 4 z289) 8 a256) 9 b257) 10 z296) 15 z0) 20 z278) 62 o264) 75 m265) g'297 (((22 : Int), z293.toInt, tw.toInt, (0 : Int), []) :: gs) bc [] 0 [] := hR302
              show am_E _ _ _ _ [some (.ref 39), some (.int on), some (.int tw), some (.int (g 16 z0.toNatClampNeg)), some (.int r3), some (.int 1), some (.int (g 18 z0.toNatClampNeg)), some (.int r267)] [] _ _
              refine am_e2 (v := 39) hi_264_240 rfl ?_
              refine am_e32w (as := [.ref 39]) (la := [some (.ref 39)]) (rest := []) hi_264_241 (am_hd0 (M := 264) (by decide) 241) (Nat.le_of_ble_eq_true rfl) (Nat.le_of_ble_eq_true rfl) (show 1 ≤ am_P0.2.2.1 214 from by decide +kernel) rfl (am_recv_ok hS299.fs) rfl rfl ?_
              refine am_e2 (v := 39) hi_214_0 rfl ?_
              refine am_e0 hi_214_1 ?_
              refine am_e0 hi_214_3 ?_
              refine am_e0 hi_214_4 ?_
              refine am_e0 hi_214_5 ?_
              refine am_e32n (as := [.ref 39, .int 34, .int 1, .int 0, .int 0]) (la := [some (.ref 39), some (.int 34), some (.int 1), some (.int 0), some (.int 0)]) (rest := []) hi_214_6 (am_hd0 (M := 214) (by decide) 6) (Nat.le_of_ble_eq_true rfl) (Nat.le_of_ble_eq_true rfl) (show 5 ≤ am_P0.2.2.1 179 from by decide +kernel) rfl (am_recv_ok hS299.fs) rfl rfl (ct_pile (d := (d + 5)) hS299 hR302_ (mj_e_plain (by decide)) (by show (0 : Int) ≤ z296.toInt; omega) (by show z296.toInt ≤ (65535 : Int); omega)) ?_
              rintro v303 S304 (⟨z305, g'306, hv307, hS308, hR311, h309, h310⟩)
              subst hv307
              have h309_ : z305.toInt = z296.toInt + 1 := h309
              have h310_ : ∀ j, j ∉ [11, 12, 13, 14] → g'306 j = g'297 j := h310
              replace hS308 : MS S0 S304 (upd (upd (upd (upd (upd (upd (upd (upd f 4 z289) 8 a256) 9 b257) 10 z305) 15 z0) 20 z278) 62 o264) 75 m265) g'306 := hS308
              have hR311_ : RJ (upd (upd (upd (upd (upd (upd (upd (upd f 4 z289) 8 a256) 9 b257) 10 z305) 15 z0) 20 z278) 62 o264) 75 m265) g'306 (((34 : Int), (1 : Int), (0 : Int), (0 : Int), []) :: (((22 : Int), z293.toInt, tw.toInt, (0 : Int), []) :: gs)) bc [] 0 [] := hR311
              show am_E _ _ _ _ [some (.ref 39)] [] _ _
              refine am_e2 (v := 39) hi_214_9 rfl ?_
              refine am_e0 hi_214_10 ?_
              refine am_e32w (as := [.ref 39, .int 0]) (la := [some (.ref 39), some (.int 0)]) (rest := []) hi_214_11 (am_hd0 (M := 214) (by decide) 11) (Nat.le_of_ble_eq_true rfl) (Nat.le_of_ble_eq_true rfl) (show 2 ≤ am_P0.2.2.1 186 from by decide +kernel) rfl (am_recv_ok hS308.fs) rfl rfl ?_
              refine am_e2 (v := 39) hi_186_0 rfl ?_
              refine am_e0 hi_186_1 ?_
              refine am_e1 (v := 0) hi_186_3 rfl ?_
              refine am_e0 hi_186_4 ?_
              refine am_e0 hi_186_5 ?_
              refine am_e32n (as := [.ref 39, .int 23, .int 0, .int 0, .int 0]) (la := [some (.ref 39), some (.int 23), some (.int 0), some (.int 0), some (.int 0)]) (rest := []) hi_186_6 (am_hd0 (M := 186) (by decide) 6) (Nat.le_of_ble_eq_true rfl) (Nat.le_of_ble_eq_true rfl) (show 5 ≤ am_P0.2.2.1 179 from by decide +kernel) rfl (am_recv_ok hS308.fs) rfl rfl (ct_pile (d := (d + 4)) hS308 hR311_ (mj_e_plain (by decide)) (by show (0 : Int) ≤ z305.toInt; omega) (by show z305.toInt ≤ (65535 : Int); omega)) ?_
              rintro v312 S313 (⟨z314, g'315, hv316, hS317, hR320, h318, h319⟩)
              subst hv316
              have h318_ : z314.toInt = z305.toInt + 1 := h318
              have h319_ : ∀ j, j ∉ [11, 12, 13, 14] → g'315 j = g'306 j := h319
              replace hS317 : MS S0 S313 (upd (upd (upd (upd (upd (upd (upd (upd f 4 z289) 8 a256) 9 b257) 10 z314) 15 z0) 20 z278) 62 o264) 75 m265) g'315 := hS317
              have hR320_ : RJ (upd (upd (upd (upd (upd (upd (upd (upd f 4 z289) 8 a256) 9 b257) 10 z314) 15 z0) 20 z278) 62 o264) 75 m265) g'315 (((23 : Int), (0 : Int), (0 : Int), (0 : Int), []) :: (((34 : Int), (1 : Int), (0 : Int), (0 : Int), []) :: (((22 : Int), z293.toInt, tw.toInt, (0 : Int), []) :: gs))) bc [] 0 [] := hR320
              show am_E _ _ _ _ [some (.ref 39), some (.int 0)] [] _ _
              refine am_e35 hi_186_9 ?_
              show am_E _ _ _ _ [some (.ref 39)] [] _ _
              refine am_e35 hi_214_14 ?_
              show am_E _ _ _ _ [some (.ref 39), some (.int on), some (.int tw), some (.int (g 16 z0.toNatClampNeg)), some (.int r3), some (.int 1), some (.int (g 18 z0.toNatClampNeg)), some (.int r267)] [] _ _
              refine am_e35 hi_264_244 ?_
              show am_E _ _ _ _ [some (.ref 39), some (.int 21), some (.int on), some (.int tw), some (.int th)] [] _ _
              refine am_e18 hi_180_362 ?_
              refine am_e35 hi_180_371 ?_
              have q1 : mg_p1 (((23 : Int), (0 : Int), (0 : Int), (0 : Int), []) :: (((34 : Int), (1 : Int), (0 : Int), (0 : Int), []) :: (((22 : Int), z293.toInt, tw.toInt, (0 : Int), []) :: gs))) = 0 + (0 + (0 + (mg_p1 gs))) := rfl
              have q2 : mg_p2 (((23 : Int), (0 : Int), (0 : Int), (0 : Int), []) :: (((34 : Int), (1 : Int), (0 : Int), (0 : Int), []) :: (((22 : Int), z293.toInt, tw.toInt, (0 : Int), []) :: gs))) = 0 + (((1 : Int) - 1) + (0 + (mg_p2 gs))) := rfl
              have q3 : mg_p3 (((23 : Int), (0 : Int), (0 : Int), (0 : Int), []) :: (((34 : Int), (1 : Int), (0 : Int), (0 : Int), []) :: (((22 : Int), z293.toInt, tw.toInt, (0 : Int), []) :: gs))) = 1 + (1 + (1 + (mg_p3 gs))) := rfl
              have q4 : mg_p4 (((23 : Int), (0 : Int), (0 : Int), (0 : Int), []) :: (((34 : Int), (1 : Int), (0 : Int), (0 : Int), []) :: (((22 : Int), z293.toInt, tw.toInt, (0 : Int), []) :: gs))) = 0 + (0 + (5 + (mg_p4 gs))) := rfl
              refine ⟨_, _, _, bc, rfl, hS317, Or.inl ⟨⟨hR320_, ?_, ?_⟩, rfl, ?_⟩⟩
              · exact (⟨⟨(show mg_k 23 from by decide), (show (0 : Int) ≤ z0.toInt from by omega), (show 0 ≤ z278.toInt from by omega), (show 1 ≤ (f 37).toInt from by omega), (show 0 ≤ (f 32).toInt from by omega), (show (f 32).toInt ≤ (f 5).toInt from by omega), (show (f 5).toInt ≤ 48 from by omega), (show (f 37).toInt ≤ 2 * ((f 5).toInt) + 2 from by omega), (show 0 ≤ (0 : Int) from by omega)⟩, ⟨⟨(show mg_k 34 from by decide), (show (1 : Int) ≤ z0.toInt + 1 from by omega), (show 0 ≤ z278.toInt from by omega), (show 1 ≤ (f 37).toInt + 0 from by omega), (show 0 ≤ (f 32).toInt + 0 from by omega), (show (f 32).toInt + 0 ≤ (f 5).toInt + 0 from by omega), (show (f 5).toInt + 0 ≤ 48 from by omega), (show (f 37).toInt + 0 ≤ 2 * ((f 5).toInt + 0) + 2 from by omega), (show 1 ≤ (1 : Int) from by omega)⟩, ⟨⟨(show mg_k 22 from by decide), (show (1 : Int) ≤ z0.toInt + 1 + 0 from by omega), (show 0 ≤ z278.toInt from by omega), (show 1 ≤ (f 37).toInt + 0 + 0 from by omega), (show 0 ≤ (f 32).toInt + 0 + 0 from by omega), (show (f 32).toInt + 0 + 0 ≤ (f 5).toInt + 0 + 0 from by omega), (show (f 5).toInt + 0 + 0 ≤ 48 from by omega), (show (f 37).toInt + 0 + 0 ≤ 2 * ((f 5).toInt + 0 + 0) + 1 from by omega), ⟨(show 0 ≤ z293.toInt from by omega), (show 0 ≤ tw.toInt from by omega), (show z278.toInt = tw.toInt + z293.toInt from by omega)⟩⟩, mg_cast (mg_good_ext _ _ _ _ _ _ (fun i _ => by show g'315 34 i = g 34 i; rw [show g'315 34 = g'306 34 from h319_ 34 (by decide), show g'306 34 = g'297 34 from h310_ 34 (by decide), show g'297 34 = g'279 34 from h301_ 34 (by decide), show g'279 34 = g'266 34 from h283_ 34 (by decide), show g'266 34 = g 34 from h274_ 34 (by decide)]) (fun i _ => by show g'315 38 i = g 38 i; rw [show g'315 38 = g'306 38 from h319_ 38 (by decide), show g'306 38 = g'297 38 from h310_ 38 (by decide), show g'297 38 = g'279 38 from h301_ 38 (by decide), show g'279 38 = g'266 38 from h283_ 38 (by decide), show g'266 38 = g 38 from h274_ 38 (by decide)]) (fun i hi => by show g'315 23 i = g 23 i; rw [show g'315 23 = g'306 23 from h319_ 23 (by decide), show g'306 23 = g'297 23 from h310_ 23 (by decide), show g'297 23 = g'279 23 from h301_ 23 (by decide), h284_, show g'266 23 = g 23 from h274_ 23 (by decide)]; exact upd_ne (by rw [cl_toNat]; omega)) hrest) (by show (f 15).toInt + -1 = z0.toInt + 1 + 0 + -1; omega) (by show tw.toInt = tw.toInt; omega) (by show (f 37).toInt + 0 = (f 37).toInt + 0 + 0 + 0; omega) (by show (f 32).toInt + 0 = (f 32).toInt + 0 + 0 + 0; omega) (by show (f 5).toInt + 0 = (f 5).toInt + 0 + 0 + 0; omega)⟩⟩⟩ : mg_good (g'315 34) (g'315 38) (g'315 23) (((23 : Int), (0 : Int), (0 : Int), (0 : Int), []) :: (((34 : Int), (1 : Int), (0 : Int), (0 : Int), []) :: (((22 : Int), z293.toInt, tw.toInt, (0 : Int), []) :: gs))) (z0.toInt) (z278.toInt) ((f 37).toInt) ((f 32).toInt) ((f 5).toInt))
              · exact ⟨(by show 0 ≤ z289.toInt; omega), (by show z289.toInt ≤ (f 0).toInt; omega), (by show (f 0).toInt ≤ 512; omega), (by show 0 ≤ (f 24).toInt; omega), (by show (f 24).toInt + z278.toInt + mg_p1 (((23 : Int), (0 : Int), (0 : Int), (0 : Int), []) :: (((34 : Int), (1 : Int), (0 : Int), (0 : Int), []) :: (((22 : Int), z293.toInt, tw.toInt, (0 : Int), []) :: gs))) ≤ 4 * z289.toInt; omega), (by show z278.toInt ≤ z289.toInt; omega), (by show z0.toInt + mg_p2 (((23 : Int), (0 : Int), (0 : Int), (0 : Int), []) :: (((34 : Int), (1 : Int), (0 : Int), (0 : Int), []) :: (((22 : Int), z293.toInt, tw.toInt, (0 : Int), []) :: gs))) ≤ z289.toInt; omega), (by show mg_p3 (((23 : Int), (0 : Int), (0 : Int), (0 : Int), []) :: (((34 : Int), (1 : Int), (0 : Int), (0 : Int), []) :: (((22 : Int), z293.toInt, tw.toInt, (0 : Int), []) :: gs))) ≤ 20 * z289.toInt + 20; omega), (by show 0 ≤ (f 68).toInt; omega), (by show (f 68).toInt + 3 * z278.toInt + mg_p4 (((23 : Int), (0 : Int), (0 : Int), (0 : Int), []) :: (((34 : Int), (1 : Int), (0 : Int), (0 : Int), []) :: (((22 : Int), z293.toInt, tw.toInt, (0 : Int), []) :: gs))) ≤ 60 * z289.toInt + 60; omega), (by show 0 ≤ o264.toInt; omega), (by show o264.toInt + 64 * mj_n (g'315 16) z0.toNatClampNeg 3 ≤ 64 * z289.toInt; rw [show g'315 16 = g'306 16 from h319_ 16 (by decide), show g'306 16 = g'297 16 from h310_ 16 (by decide), show g'297 16 = g'279 16 from h301_ 16 (by decide), show g'279 16 = g'266 16 from h283_ 16 (by decide), show g'266 16 = g 16 from h274_ 16 (by decide)]; omega), (by show 0 ≤ (f 44).toInt; omega), (by show (f 44).toInt ≤ z289.toInt; omega), (by show 0 ≤ (f 48).toInt; omega), (by show (f 48).toInt ≤ z289.toInt; omega), (by show 1 ≤ (f 53).toInt; omega), (by show (f 53).toInt ≤ z289.toInt + 1; omega), (by show 0 ≤ (f 19).toInt; omega), (by show (f 19).toInt ≤ 600; omega), (by show 0 ≤ (f 6).toInt; omega), (by show 0 ≤ a256.toInt; omega)⟩
              · show 100 * ((f 0).toInt - z289.toInt) + mg_p3 (((23 : Int), (0 : Int), (0 : Int), (0 : Int), []) :: (((34 : Int), (1 : Int), (0 : Int), (0 : Int), []) :: (((22 : Int), z293.toInt, tw.toInt, (0 : Int), []) :: gs))) < 100 * ((f 0).toInt - (f 4).toInt) + (1 + mg_p3 gs); omega
    · refine am_e13f hi_264_41 (am_cF (m := (g 16 z0.toNatClampNeg).toInt) (n := (1 : Int)) rfl (by decide) c9) ?_
      refine am_e1 (v := on) hi_264_44 rfl ?_
      by_cases c321 : ¬ on.toInt = (0 : Int)
      · refine am_e12t hi_264_45 (am_cT (m := on.toInt) (n := (0 : Int)) rfl (by decide) c321) ?_
        refine am_e1 (v := g 16 z0.toNatClampNeg) hi_264_84 rfl ?_
        refine am_e0 hi_264_85 ?_
        refine am_e13t hi_264_86 (am_cT (m := (g 16 z0.toNatClampNeg).toInt) (n := (3 : Int)) rfl (by decide) (by simp only [am_cI]; omega)) ?_
        refine am_e2 (v := 39) hi_264_94 rfl ?_
        refine am_e0 hi_264_95 ?_
        refine am_e32n (as := [.ref 39, .int 7]) (la := [some (.ref 39), some (.int 7)]) (rest := []) hi_264_97 (am_hd0 (M := 264) (by decide) 97) (Nat.le_of_ble_eq_true rfl) (Nat.le_of_ble_eq_true rfl) (show 2 ≤ am_P0.2.2.1 194 from by decide +kernel) rfl (am_recv_ok hS5.fs) rfl rfl (ct_fail (d := (d + 6)) hS5   (by show (0 : Int) ≤ (7 : Int); omega) (by show (0 : Int) ≤ (f 6).toInt; omega)) ?_
        rintro v322 S323 (⟨a324, b325, hv326, hS327, h328⟩)
        subst hv326
        have h328_ : (0 : Int) ≤ a324.toInt := h328
        have hR330 := rj_clear0 hR
        have hR331 : RJ (upd (upd (upd f 6 a324) 7 b325) 10 0) g [] bc [] 0 [] := hR330
        show am_E _ _ _ _ [some (.ref 39), some (.int on), some (.int tw), some (.int (g 16 z0.toNatClampNeg)), some (.int r3), some (.int 1), none, none] [.int 0] _ _
        refine am_e6i hi_264_100 ?_
        refine am_e35 hi_264_101 ?_
        show am_E _ _ _ _ [some (.ref 39), some (.int 21), some (.int on), some (.int tw), some (.int th)] [] _ _
        refine am_e18 hi_180_362 ?_
        refine am_e35 hi_180_371 ?_
        have hRc := rj_clear0 hR331
        refine ⟨_, _, [], _, rfl, hS327, Or.inr ⟨hRc, rfl, (by show 0 ≤ (f 4).toInt; omega), (by show (f 4).toInt ≤ (f 0).toInt; omega), (by show 0 ≤ (f 32).toInt; omega), (by show (f 32).toInt ≤ 63; omega), (by show 1 ≤ (f 53).toInt; omega), (by show (f 53).toInt ≤ 600; omega), (by show 0 ≤ (f 68).toInt; omega), (by show (f 68).toInt ≤ 60000; omega), (by show 0 ≤ (f 48).toInt; omega), (by show (f 48).toInt ≤ 8000; omega), (by show 0 ≤ (f 37).toInt; omega), (by show (f 37).toInt ≤ 128; omega), (by show 0 ≤ (f 62).toInt; omega), (by show (f 62).toInt ≤ 65000; omega), (by show 0 ≤ (f 19).toInt; omega), (by show (f 19).toInt ≤ 600; omega), (by show 0 ≤ a324.toInt; omega), (by show 0 ≤ (f 8).toInt; omega)⟩⟩
      · refine am_e12f hi_264_45 (am_cF (m := on.toInt) (n := (0 : Int)) rfl (by decide) c321) ?_
        refine am_e1 (v := 1) hi_264_48 rfl ?_
        refine am_e12t hi_264_50 (by decide) ?_
        refine am_e1 (v := g 16 z0.toNatClampNeg) hi_264_84 rfl ?_
        refine am_e0 hi_264_85 ?_
        refine am_e13t hi_264_86 (am_cT (m := (g 16 z0.toNatClampNeg).toInt) (n := (3 : Int)) rfl (by decide) (by simp only [am_cI]; omega)) ?_
        refine am_e2 (v := 39) hi_264_94 rfl ?_
        refine am_e0 hi_264_95 ?_
        refine am_e32n (as := [.ref 39, .int 7]) (la := [some (.ref 39), some (.int 7)]) (rest := []) hi_264_97 (am_hd0 (M := 264) (by decide) 97) (Nat.le_of_ble_eq_true rfl) (Nat.le_of_ble_eq_true rfl) (show 2 ≤ am_P0.2.2.1 194 from by decide +kernel) rfl (am_recv_ok hS5.fs) rfl rfl (ct_fail (d := (d + 6)) hS5   (by show (0 : Int) ≤ (7 : Int); omega) (by show (0 : Int) ≤ (f 6).toInt; omega)) ?_
        rintro v332 S333 (⟨a334, b335, hv336, hS337, h338⟩)
        subst hv336
        have h338_ : (0 : Int) ≤ a334.toInt := h338
        have hR340 := rj_clear0 hR
        have hR341 : RJ (upd (upd (upd f 6 a334) 7 b335) 10 0) g [] bc [] 0 [] := hR340
        show am_E _ _ _ _ [some (.ref 39), some (.int on), some (.int tw), some (.int (g 16 z0.toNatClampNeg)), some (.int r3), some (.int 1), none, none] [.int 0] _ _
        refine am_e6i hi_264_100 ?_
        refine am_e35 hi_264_101 ?_
        show am_E _ _ _ _ [some (.ref 39), some (.int 21), some (.int on), some (.int tw), some (.int th)] [] _ _
        refine am_e18 hi_180_362 ?_
        refine am_e35 hi_180_371 ?_
        have hRc := rj_clear0 hR341
        refine ⟨_, _, [], _, rfl, hS337, Or.inr ⟨hRc, rfl, (by show 0 ≤ (f 4).toInt; omega), (by show (f 4).toInt ≤ (f 0).toInt; omega), (by show 0 ≤ (f 32).toInt; omega), (by show (f 32).toInt ≤ 63; omega), (by show 1 ≤ (f 53).toInt; omega), (by show (f 53).toInt ≤ 600; omega), (by show 0 ≤ (f 68).toInt; omega), (by show (f 68).toInt ≤ 60000; omega), (by show 0 ≤ (f 48).toInt; omega), (by show (f 48).toInt ≤ 8000; omega), (by show 0 ≤ (f 37).toInt; omega), (by show (f 37).toInt ≤ 128; omega), (by show 0 ≤ (f 62).toInt; omega), (by show (f 62).toInt ≤ 65000; omega), (by show 0 ≤ (f 19).toInt; omega), (by show (f 19).toInt ≤ 600; omega), (by show 0 ≤ a334.toInt; omega), (by show 0 ≤ (f 8).toInt; omega)⟩⟩
  · refine am_e13f hi_264_22 (am_cF (m := r3.toInt) (n := (59 : Int)) rfl (by decide) c8) ?_
    refine am_e1 (v := r3) hi_264_25 rfl ?_
    refine am_e0 hi_264_27 ?_
    by_cases c342 : ¬ r3.toInt = (69 : Int)
    · refine am_e13t hi_264_29 (am_cT (m := r3.toInt) (n := (69 : Int)) rfl (by decide) c342) ?_
      refine am_e0 hi_264_36 ?_
      refine am_e3 (ls' := [some (.ref 39), some (.int on), some (.int tw), some (.int (g 16 z0.toNatClampNeg)), some (.int r3), some (.int 0), none, none]) hi_264_37 (Nat.le_of_ble_eq_true rfl) rfl ?_
      refine am_e1 (v := g 16 z0.toNatClampNeg) hi_264_39 rfl ?_
      refine am_e0 hi_264_40 ?_
      by_cases c343 : ¬ (g 16 z0.toNatClampNeg).toInt = (1 : Int)
      · refine am_e13t hi_264_41 (am_cT (m := (g 16 z0.toNatClampNeg).toInt) (n := (1 : Int)) rfl (by decide) c343) ?_
        refine am_e1 (v := g 16 z0.toNatClampNeg) hi_264_84 rfl ?_
        refine am_e0 hi_264_85 ?_
        by_cases c344 : (g 16 z0.toNatClampNeg).toInt < (3 : Int)
        · refine am_e13t hi_264_86 (am_cT (m := (g 16 z0.toNatClampNeg).toInt) (n := (3 : Int)) rfl (by decide) c344) ?_
          refine am_e2 (v := 39) hi_264_94 rfl ?_
          refine am_e0 hi_264_95 ?_
          refine am_e32n (as := [.ref 39, .int 7]) (la := [some (.ref 39), some (.int 7)]) (rest := []) hi_264_97 (am_hd0 (M := 264) (by decide) 97) (Nat.le_of_ble_eq_true rfl) (Nat.le_of_ble_eq_true rfl) (show 2 ≤ am_P0.2.2.1 194 from by decide +kernel) rfl (am_recv_ok hS5.fs) rfl rfl (ct_fail (d := (d + 6)) hS5   (by show (0 : Int) ≤ (7 : Int); omega) (by show (0 : Int) ≤ (f 6).toInt; omega)) ?_
          rintro v345 S346 (⟨a347, b348, hv349, hS350, h351⟩)
          subst hv349
          have h351_ : (0 : Int) ≤ a347.toInt := h351
          have hR353 := rj_clear0 hR
          have hR354 : RJ (upd (upd (upd f 6 a347) 7 b348) 10 0) g [] bc [] 0 [] := hR353
          show am_E _ _ _ _ [some (.ref 39), some (.int on), some (.int tw), some (.int (g 16 z0.toNatClampNeg)), some (.int r3), some (.int 0), none, none] [.int 0] _ _
          refine am_e6i hi_264_100 ?_
          refine am_e35 hi_264_101 ?_
          show am_E _ _ _ _ [some (.ref 39), some (.int 21), some (.int on), some (.int tw), some (.int th)] [] _ _
          refine am_e18 hi_180_362 ?_
          refine am_e35 hi_180_371 ?_
          have hRc := rj_clear0 hR354
          refine ⟨_, _, [], _, rfl, hS350, Or.inr ⟨hRc, rfl, (by show 0 ≤ (f 4).toInt; omega), (by show (f 4).toInt ≤ (f 0).toInt; omega), (by show 0 ≤ (f 32).toInt; omega), (by show (f 32).toInt ≤ 63; omega), (by show 1 ≤ (f 53).toInt; omega), (by show (f 53).toInt ≤ 600; omega), (by show 0 ≤ (f 68).toInt; omega), (by show (f 68).toInt ≤ 60000; omega), (by show 0 ≤ (f 48).toInt; omega), (by show (f 48).toInt ≤ 8000; omega), (by show 0 ≤ (f 37).toInt; omega), (by show (f 37).toInt ≤ 128; omega), (by show 0 ≤ (f 62).toInt; omega), (by show (f 62).toInt ≤ 65000; omega), (by show 0 ≤ (f 19).toInt; omega), (by show (f 19).toInt ≤ 600; omega), (by show 0 ≤ a347.toInt; omega), (by show 0 ≤ (f 8).toInt; omega)⟩⟩
        · refine am_e13f hi_264_86 (am_cF (m := (g 16 z0.toNatClampNeg).toInt) (n := (3 : Int)) rfl (by decide) c344) ?_
          refine am_e1 (v := 0) hi_264_89 rfl ?_
          refine am_e12f hi_264_91 (by decide) ?_
          refine am_e2 (v := 39) hi_264_94 rfl ?_
          refine am_e0 hi_264_95 ?_
          refine am_e32n (as := [.ref 39, .int 7]) (la := [some (.ref 39), some (.int 7)]) (rest := []) hi_264_97 (am_hd0 (M := 264) (by decide) 97) (Nat.le_of_ble_eq_true rfl) (Nat.le_of_ble_eq_true rfl) (show 2 ≤ am_P0.2.2.1 194 from by decide +kernel) rfl (am_recv_ok hS5.fs) rfl rfl (ct_fail (d := (d + 6)) hS5   (by show (0 : Int) ≤ (7 : Int); omega) (by show (0 : Int) ≤ (f 6).toInt; omega)) ?_
          rintro v355 S356 (⟨a357, b358, hv359, hS360, h361⟩)
          subst hv359
          have h361_ : (0 : Int) ≤ a357.toInt := h361
          have hR363 := rj_clear0 hR
          have hR364 : RJ (upd (upd (upd f 6 a357) 7 b358) 10 0) g [] bc [] 0 [] := hR363
          show am_E _ _ _ _ [some (.ref 39), some (.int on), some (.int tw), some (.int (g 16 z0.toNatClampNeg)), some (.int r3), some (.int 0), none, none] [.int 0] _ _
          refine am_e6i hi_264_100 ?_
          refine am_e35 hi_264_101 ?_
          show am_E _ _ _ _ [some (.ref 39), some (.int 21), some (.int on), some (.int tw), some (.int th)] [] _ _
          refine am_e18 hi_180_362 ?_
          refine am_e35 hi_180_371 ?_
          have hRc := rj_clear0 hR364
          refine ⟨_, _, [], _, rfl, hS360, Or.inr ⟨hRc, rfl, (by show 0 ≤ (f 4).toInt; omega), (by show (f 4).toInt ≤ (f 0).toInt; omega), (by show 0 ≤ (f 32).toInt; omega), (by show (f 32).toInt ≤ 63; omega), (by show 1 ≤ (f 53).toInt; omega), (by show (f 53).toInt ≤ 600; omega), (by show 0 ≤ (f 68).toInt; omega), (by show (f 68).toInt ≤ 60000; omega), (by show 0 ≤ (f 48).toInt; omega), (by show (f 48).toInt ≤ 8000; omega), (by show 0 ≤ (f 37).toInt; omega), (by show (f 37).toInt ≤ 128; omega), (by show 0 ≤ (f 62).toInt; omega), (by show (f 62).toInt ≤ 65000; omega), (by show 0 ≤ (f 19).toInt; omega), (by show (f 19).toInt ≤ 600; omega), (by show 0 ≤ a357.toInt; omega), (by show 0 ≤ (f 8).toInt; omega)⟩⟩
      · refine am_e13f hi_264_41 (am_cF (m := (g 16 z0.toNatClampNeg).toInt) (n := (1 : Int)) rfl (by decide) c343) ?_
        refine am_e1 (v := on) hi_264_44 rfl ?_
        by_cases c365 : ¬ on.toInt = (0 : Int)
        · refine am_e12t hi_264_45 (am_cT (m := on.toInt) (n := (0 : Int)) rfl (by decide) c365) ?_
          refine am_e1 (v := g 16 z0.toNatClampNeg) hi_264_84 rfl ?_
          refine am_e0 hi_264_85 ?_
          refine am_e13t hi_264_86 (am_cT (m := (g 16 z0.toNatClampNeg).toInt) (n := (3 : Int)) rfl (by decide) (by simp only [am_cI]; omega)) ?_
          refine am_e2 (v := 39) hi_264_94 rfl ?_
          refine am_e0 hi_264_95 ?_
          refine am_e32n (as := [.ref 39, .int 7]) (la := [some (.ref 39), some (.int 7)]) (rest := []) hi_264_97 (am_hd0 (M := 264) (by decide) 97) (Nat.le_of_ble_eq_true rfl) (Nat.le_of_ble_eq_true rfl) (show 2 ≤ am_P0.2.2.1 194 from by decide +kernel) rfl (am_recv_ok hS5.fs) rfl rfl (ct_fail (d := (d + 6)) hS5   (by show (0 : Int) ≤ (7 : Int); omega) (by show (0 : Int) ≤ (f 6).toInt; omega)) ?_
          rintro v366 S367 (⟨a368, b369, hv370, hS371, h372⟩)
          subst hv370
          have h372_ : (0 : Int) ≤ a368.toInt := h372
          have hR374 := rj_clear0 hR
          have hR375 : RJ (upd (upd (upd f 6 a368) 7 b369) 10 0) g [] bc [] 0 [] := hR374
          show am_E _ _ _ _ [some (.ref 39), some (.int on), some (.int tw), some (.int (g 16 z0.toNatClampNeg)), some (.int r3), some (.int 0), none, none] [.int 0] _ _
          refine am_e6i hi_264_100 ?_
          refine am_e35 hi_264_101 ?_
          show am_E _ _ _ _ [some (.ref 39), some (.int 21), some (.int on), some (.int tw), some (.int th)] [] _ _
          refine am_e18 hi_180_362 ?_
          refine am_e35 hi_180_371 ?_
          have hRc := rj_clear0 hR375
          refine ⟨_, _, [], _, rfl, hS371, Or.inr ⟨hRc, rfl, (by show 0 ≤ (f 4).toInt; omega), (by show (f 4).toInt ≤ (f 0).toInt; omega), (by show 0 ≤ (f 32).toInt; omega), (by show (f 32).toInt ≤ 63; omega), (by show 1 ≤ (f 53).toInt; omega), (by show (f 53).toInt ≤ 600; omega), (by show 0 ≤ (f 68).toInt; omega), (by show (f 68).toInt ≤ 60000; omega), (by show 0 ≤ (f 48).toInt; omega), (by show (f 48).toInt ≤ 8000; omega), (by show 0 ≤ (f 37).toInt; omega), (by show (f 37).toInt ≤ 128; omega), (by show 0 ≤ (f 62).toInt; omega), (by show (f 62).toInt ≤ 65000; omega), (by show 0 ≤ (f 19).toInt; omega), (by show (f 19).toInt ≤ 600; omega), (by show 0 ≤ a368.toInt; omega), (by show 0 ≤ (f 8).toInt; omega)⟩⟩
        · refine am_e12f hi_264_45 (am_cF (m := on.toInt) (n := (0 : Int)) rfl (by decide) c365) ?_
          refine am_e1 (v := 0) hi_264_48 rfl ?_
          refine am_e12f hi_264_50 (by decide) ?_
          refine am_e2 (v := 39) hi_264_53 rfl ?_
          refine mm_20 (v := .ref 91) hS5 hi_264_54 rfl ?_
          refine am_e2 (v := 39) hi_264_57 rfl ?_
          refine mm_20 (v := .ref 47) hS5 hi_264_58 rfl ?_
          refine am_e2 (v := 39) hi_264_61 rfl ?_
          refine mm_20 (v := .int (f 15)) hS5 hi_264_62 rfl ?_
          refine am_e0 hi_264_65 ?_
          refine am_e10 (z := z0) hi_264_66 hz0 ?_
          refine mm_25 hS5 ma_17 hi_264_67 (by decide) (by omega) (by omega) ?_
          show am_E _ _ _ _ [some (.ref 39), some (.int on), some (.int tw), some (.int (g 16 z0.toNatClampNeg)), some (.int r3), some (.int 0), none, none] [.int (g 17 z0.toNatClampNeg), .ref 91] _ _
          have r376 : (g 16 z0.toNatClampNeg).toInt = 1 ∨ (g 16 z0.toNatClampNeg).toInt = 2 → 0 ≤ (g 17 z0.toNatClampNeg).toInt ∧ (g 17 z0.toNatClampNeg).toInt < 65536 := RJ.vc hR z0.toNatClampNeg
          refine am_e8 hi_264_68 ?_
          refine mm_25 hS5 ma_72 hi_264_69 (by decide) (by omega) (by omega) ?_
          show am_E _ _ _ _ [some (.ref 39), some (.int on), some (.int tw), some (.int (g 16 z0.toNatClampNeg)), some (.int r3), some (.int 0), none, none] [.int (g 72 (g 17 z0.toNatClampNeg).toNatClampNeg), .int (g 17 z0.toNatClampNeg), .ref 91] _ _
          refine am_e0 hi_264_70 ?_
          obtain ⟨z377, hz377⟩ : ∃ q__, am_bin 3 (g 72 (g 17 z0.toNatClampNeg).toNatClampNeg) 1 = q__ := ⟨_, rfl⟩
          refine am_e10 (z := z377) hi_264_71 hz377 ?_
          refine mm_26 hS5 ma_72 hi_264_72 (by decide) (by omega) (by omega) (fun h => nomatch h) ?_
          intro S378 hS379
          refine am_e2 (v := 39) hi_264_73 rfl ?_
          refine am_e7 hi_264_74 ?_
          refine mm_20 (v := .int (f 15)) hS379 hi_264_75 rfl ?_
          refine am_e0 hi_264_78 ?_
          refine am_e10 (z := z0) hi_264_79 hz0 ?_
          refine mm_21 (v := z0) hS379 hi_264_80 rfl (Nat.le_of_ble_eq_true rfl) ms_15 ?_
          intro S380 hS381
          have hp382 : mj_n (g 16) (f 15).toNatClampNeg 3 = mj_n (g 16) z0.toNatClampNeg 3 + if (g 16 z0.toNatClampNeg).toInt = 3 then 1 else 0 := mj_pop (by rw [cl_toNat, cl_toNat]; omega)
          have hp3821 : mj_n (g 16) z0.toNatClampNeg 3 ≤ mj_n (g 16) (f 15).toNatClampNeg 3 := by rw [hp382]; split <;> omega
          have hp3822 : (g 16 z0.toNatClampNeg).toInt = 3 → mj_n (g 16) z0.toNatClampNeg 3 + 1 ≤ mj_n (g 16) (f 15).toNatClampNeg 3 := fun q => by rw [hp382, if_pos q]; exact Int.le_refl _
          refine am_e35 hi_264_83 ?_
          show am_E _ _ _ _ [some (.ref 39), some (.int 21), some (.int on), some (.int tw), some (.int th)] [] _ _
          refine am_e18 hi_180_362 ?_
          refine am_e35 hi_180_371 ?_
          have q1 : mg_p1 gs = mg_p1 gs := rfl
          have q2 : mg_p2 gs = mg_p2 gs := rfl
          have q3 : mg_p3 gs = mg_p3 gs := rfl
          have q4 : mg_p4 gs = mg_p4 gs := rfl
          refine ⟨_, _, _, bc, rfl, hS381, Or.inl ⟨⟨hR, ?_, ?_⟩, rfl, ?_⟩⟩
          · exact (mg_cast (mg_good_ext _ _ _ _ _ _ (fun _ _ => rfl) (fun _ _ => rfl) (fun _ _ => rfl) hrest) (by show (f 15).toInt + -1 = z0.toInt; omega) (by show tw.toInt = (f 20).toInt; omega) (by show (f 37).toInt + 0 = (f 37).toInt; omega) (by show (f 32).toInt + 0 = (f 32).toInt; omega) (by show (f 5).toInt + 0 = (f 5).toInt; omega) : mg_good ((upg g 72 (g 17 z0.toNatClampNeg).toNatClampNeg z377) 34) ((upg g 72 (g 17 z0.toNatClampNeg).toNatClampNeg z377) 38) ((upg g 72 (g 17 z0.toNatClampNeg).toNatClampNeg z377) 23) gs (z0.toInt) ((f 20).toInt) ((f 37).toInt) ((f 32).toInt) ((f 5).toInt))
          · exact ⟨(by show 0 ≤ (f 4).toInt; omega), (by show (f 4).toInt ≤ (f 0).toInt; omega), (by show (f 0).toInt ≤ 512; omega), (by show 0 ≤ (f 24).toInt; omega), (by show (f 24).toInt + (f 20).toInt + mg_p1 gs ≤ 4 * (f 4).toInt; omega), (by show (f 20).toInt ≤ (f 4).toInt; omega), (by show z0.toInt + mg_p2 gs ≤ (f 4).toInt; omega), (by show mg_p3 gs ≤ 20 * (f 4).toInt + 20; omega), (by show 0 ≤ (f 68).toInt; omega), (by show (f 68).toInt + 3 * (f 20).toInt + mg_p4 gs ≤ 60 * (f 4).toInt + 60; omega), (by show 0 ≤ (f 62).toInt; omega), (by show (f 62).toInt + 64 * mj_n (g 16) z0.toNatClampNeg 3 ≤ 64 * (f 4).toInt; omega), (by show 0 ≤ (f 44).toInt; omega), (by show (f 44).toInt ≤ (f 4).toInt; omega), (by show 0 ≤ (f 48).toInt; omega), (by show (f 48).toInt ≤ (f 4).toInt; omega), (by show 1 ≤ (f 53).toInt; omega), (by show (f 53).toInt ≤ (f 4).toInt + 1; omega), (by show 0 ≤ (f 19).toInt; omega), (by show (f 19).toInt ≤ 600; omega), (by show 0 ≤ (f 6).toInt; omega), (by show 0 ≤ (f 8).toInt; omega)⟩
          · show 100 * ((f 0).toInt - (f 4).toInt) + mg_p3 gs < 100 * ((f 0).toInt - (f 4).toInt) + (1 + mg_p3 gs); omega
    · refine am_e13f hi_264_29 (am_cF (m := r3.toInt) (n := (69 : Int)) rfl (by decide) c342) ?_
      refine am_e0 hi_264_32 ?_
      refine am_e18 hi_264_33 ?_
      refine am_e3 (ls' := [some (.ref 39), some (.int on), some (.int tw), some (.int (g 16 z0.toNatClampNeg)), some (.int r3), some (.int 1), none, none]) hi_264_37 (Nat.le_of_ble_eq_true rfl) rfl ?_
      refine am_e1 (v := g 16 z0.toNatClampNeg) hi_264_39 rfl ?_
      refine am_e0 hi_264_40 ?_
      by_cases c383 : ¬ (g 16 z0.toNatClampNeg).toInt = (1 : Int)
      · refine am_e13t hi_264_41 (am_cT (m := (g 16 z0.toNatClampNeg).toInt) (n := (1 : Int)) rfl (by decide) c383) ?_
        refine am_e1 (v := g 16 z0.toNatClampNeg) hi_264_84 rfl ?_
        refine am_e0 hi_264_85 ?_
        by_cases c384 : (g 16 z0.toNatClampNeg).toInt < (3 : Int)
        · refine am_e13t hi_264_86 (am_cT (m := (g 16 z0.toNatClampNeg).toInt) (n := (3 : Int)) rfl (by decide) c384) ?_
          refine am_e2 (v := 39) hi_264_94 rfl ?_
          refine am_e0 hi_264_95 ?_
          refine am_e32n (as := [.ref 39, .int 7]) (la := [some (.ref 39), some (.int 7)]) (rest := []) hi_264_97 (am_hd0 (M := 264) (by decide) 97) (Nat.le_of_ble_eq_true rfl) (Nat.le_of_ble_eq_true rfl) (show 2 ≤ am_P0.2.2.1 194 from by decide +kernel) rfl (am_recv_ok hS5.fs) rfl rfl (ct_fail (d := (d + 6)) hS5   (by show (0 : Int) ≤ (7 : Int); omega) (by show (0 : Int) ≤ (f 6).toInt; omega)) ?_
          rintro v385 S386 (⟨a387, b388, hv389, hS390, h391⟩)
          subst hv389
          have h391_ : (0 : Int) ≤ a387.toInt := h391
          have hR393 := rj_clear0 hR
          have hR394 : RJ (upd (upd (upd f 6 a387) 7 b388) 10 0) g [] bc [] 0 [] := hR393
          show am_E _ _ _ _ [some (.ref 39), some (.int on), some (.int tw), some (.int (g 16 z0.toNatClampNeg)), some (.int r3), some (.int 1), none, none] [.int 0] _ _
          refine am_e6i hi_264_100 ?_
          refine am_e35 hi_264_101 ?_
          show am_E _ _ _ _ [some (.ref 39), some (.int 21), some (.int on), some (.int tw), some (.int th)] [] _ _
          refine am_e18 hi_180_362 ?_
          refine am_e35 hi_180_371 ?_
          have hRc := rj_clear0 hR394
          refine ⟨_, _, [], _, rfl, hS390, Or.inr ⟨hRc, rfl, (by show 0 ≤ (f 4).toInt; omega), (by show (f 4).toInt ≤ (f 0).toInt; omega), (by show 0 ≤ (f 32).toInt; omega), (by show (f 32).toInt ≤ 63; omega), (by show 1 ≤ (f 53).toInt; omega), (by show (f 53).toInt ≤ 600; omega), (by show 0 ≤ (f 68).toInt; omega), (by show (f 68).toInt ≤ 60000; omega), (by show 0 ≤ (f 48).toInt; omega), (by show (f 48).toInt ≤ 8000; omega), (by show 0 ≤ (f 37).toInt; omega), (by show (f 37).toInt ≤ 128; omega), (by show 0 ≤ (f 62).toInt; omega), (by show (f 62).toInt ≤ 65000; omega), (by show 0 ≤ (f 19).toInt; omega), (by show (f 19).toInt ≤ 600; omega), (by show 0 ≤ a387.toInt; omega), (by show 0 ≤ (f 8).toInt; omega)⟩⟩
        · refine am_e13f hi_264_86 (am_cF (m := (g 16 z0.toNatClampNeg).toInt) (n := (3 : Int)) rfl (by decide) c384) ?_
          refine am_e1 (v := 1) hi_264_89 rfl ?_
          refine am_e12t hi_264_91 (by decide) ?_
          refine am_e2 (v := 39) hi_264_102 rfl ?_
          refine mm_20 (v := .ref 48) hS5 hi_264_103 rfl ?_
          refine am_e2 (v := 39) hi_264_106 rfl ?_
          refine mm_20 (v := .int (f 15)) hS5 hi_264_107 rfl ?_
          refine am_e0 hi_264_110 ?_
          refine am_e10 (z := z0) hi_264_111 hz0 ?_
          refine mm_25 hS5 ma_18 hi_264_112 (by decide) (by omega) (by omega) ?_
          show am_E _ _ _ _ [some (.ref 39), some (.int on), some (.int tw), some (.int (g 16 z0.toNatClampNeg)), some (.int r3), some (.int 1), none, none] [.int (g 18 z0.toNatClampNeg)] _ _
          have r395 : (g 16 z0.toNatClampNeg).toInt = 3 → 0 ≤ (g 18 z0.toNatClampNeg).toInt ∧ (g 18 z0.toNatClampNeg).toInt < 16384 := RJ.vw hR z0.toNatClampNeg
          refine am_e3 (ls' := [some (.ref 39), some (.int on), some (.int tw), some (.int (g 16 z0.toNatClampNeg)), some (.int r3), some (.int 1), some (.int (g 18 z0.toNatClampNeg)), none]) hi_264_113 (Nat.le_of_ble_eq_true rfl) rfl ?_
          refine am_e1 (v := g 16 z0.toNatClampNeg) hi_264_115 rfl ?_
          refine am_e0 hi_264_116 ?_
          by_cases c396 : ¬ (g 16 z0.toNatClampNeg).toInt = (3 : Int)
          · refine am_e13t hi_264_117 (am_cT (m := (g 16 z0.toNatClampNeg).toInt) (n := (3 : Int)) rfl (by decide) c396) ?_
            refine am_e1 (v := g 16 z0.toNatClampNeg) hi_264_143 rfl ?_
            refine am_e0 hi_264_144 ?_
            by_cases c397 : ¬ (g 16 z0.toNatClampNeg).toInt = (5 : Int)
            · refine am_e13t hi_264_145 (am_cT (m := (g 16 z0.toNatClampNeg).toInt) (n := (5 : Int)) rfl (by decide) c397) ?_
              refine am_e2 (v := 39) hi_264_167 rfl ?_
              refine am_e0 hi_264_168 ?_
              refine am_e0 hi_264_169 ?_
              refine am_e1 (v := g 18 z0.toNatClampNeg) hi_264_170 rfl ?_
              refine am_e32n (as := [.ref 39, .int 3, .int 0, .int (g 18 z0.toNatClampNeg)]) (la := [some (.ref 39), some (.int 3), some (.int 0), some (.int (g 18 z0.toNatClampNeg))]) (rest := []) hi_264_172 (am_hd0 (M := 264) (by decide) 172) (Nat.le_of_ble_eq_true rfl) (Nat.le_of_ble_eq_true rfl) (show 4 ≤ am_P0.2.2.1 239 from by decide +kernel) rfl (am_recv_ok hS5.fs) rfl rfl (ct_keep2 (d := (d + 6)) hS5 hR  (by show (0 : Int) ≤ (f 20).toInt; omega) (by show (f 20).toInt ≤ (16383 : Int); omega)) ?_
              rintro v398 S399 (⟨z400, g'401, hv402, hS403, hR407, h404, h405, h406⟩)
              subst hv402
              have h404_ : z400.toInt = (f 20).toInt + 1 := h404
              have h405_ : ∀ j, j ∉ [21, 22, 23] → g'401 j = g j := h405
              have h406_ : g'401 23 = upd (g 23) (f 20).toNatClampNeg (g 18 z0.toNatClampNeg) := h406
              have hR407_ : RJ (upd f 20 z400) g'401 gs bc [] 0 [] := hR407
              show am_E _ _ _ _ [some (.ref 39), some (.int on), some (.int tw), some (.int (g 16 z0.toNatClampNeg)), some (.int r3), some (.int 1), some (.int (g 18 z0.toNatClampNeg)), none] [] _ _
              refine am_e2 (v := 39) hi_264_175 rfl ?_
              refine am_e7 hi_264_176 ?_
              refine mm_20 (v := .int (f 15)) hS403 hi_264_177 rfl ?_
              refine am_e0 hi_264_180 ?_
              refine am_e10 (z := z0) hi_264_181 hz0 ?_
              refine mm_21 (v := z0) hS403 hi_264_182 rfl (Nat.le_of_ble_eq_true rfl) ms_15 ?_
              intro S408 hS409
              replace hS409 : MS S0 S408 (upd (upd f 15 z0) 20 z400) g'401 := hS409
              have hp410 : mj_n (g 16) (f 15).toNatClampNeg 3 = mj_n (g 16) z0.toNatClampNeg 3 + if (g 16 z0.toNatClampNeg).toInt = 3 then 1 else 0 := mj_pop (by rw [cl_toNat, cl_toNat]; omega)
              have hp4101 : mj_n (g 16) z0.toNatClampNeg 3 ≤ mj_n (g 16) (f 15).toNatClampNeg 3 := by rw [hp410]; split <;> omega
              have hp4102 : (g 16 z0.toNatClampNeg).toInt = 3 → mj_n (g 16) z0.toNatClampNeg 3 + 1 ≤ mj_n (g 16) (f 15).toNatClampNeg 3 := fun q => by rw [hp410, if_pos q]; exact Int.le_refl _
              refine am_e2 (v := 39) hi_264_185 rfl ?_
              refine am_e7 hi_264_186 ?_
              refine mm_20 (v := .int (f 4)) hS409 hi_264_187 rfl ?_
              refine am_e0 hi_264_190 ?_
              obtain ⟨z411, hz411, tz411⟩ := am_addI (x := f 4) (y := 1) (m := (f 4).toInt) (n := (1 : Int)) rfl (by decide) (by omega) (by omega)
              refine am_e10 (z := z411) hi_264_191 hz411 ?_
              refine mm_21 (v := z411) hS409 hi_264_192 rfl (Nat.le_of_ble_eq_true rfl) ms_4 ?_
              intro S412 hS413
              replace hS413 : MS S0 S412 (upd (upd (upd f 4 z411) 15 z0) 20 z400) g'401 := hS413
              have hR414 : RJ (upd (upd (upd f 4 z411) 15 z0) 20 z400) g'401 gs bc [] 0 [] := RJ.at hR407_ (by show (f 4).toInt ≤ z411.toInt; omega)
              refine am_e1 (v := r3) hi_264_195 rfl ?_
              refine am_e0 hi_264_197 ?_
              refine am_e13f hi_264_199 (am_cF (m := r3.toInt) (n := (69 : Int)) rfl (by decide) (by simp only [am_cI]; omega)) ?_
              refine am_e2 (v := 39) hi_264_202 rfl ?_
              refine am_e0 hi_264_203 ?_
              refine am_e1 (v := on) hi_264_205 rfl ?_
              refine am_e0 hi_264_206 ?_
              obtain ⟨z415, hz415, tz415⟩ := am_addI (x := on) (y := 1) (m := on.toInt) (n := (1 : Int)) rfl (by decide) (by omega) (by omega)
              refine am_e10 (z := z415) hi_264_207 hz415 ?_
              refine am_e1 (v := tw) hi_264_208 rfl ?_
              refine am_e0 hi_264_209 ?_
              refine am_e32n (as := [.ref 39, .int 21, .int z415, .int tw, .int 0]) (la := [some (.ref 39), some (.int 21), some (.int z415), some (.int tw), some (.int 0)]) (rest := []) hi_264_210 (am_hd0 (M := 264) (by decide) 210) (Nat.le_of_ble_eq_true rfl) (Nat.le_of_ble_eq_true rfl) (show 5 ≤ am_P0.2.2.1 179 from by decide +kernel) rfl (am_recv_ok hS413.fs) rfl rfl (ct_pile (d := (d + 6)) hS413 hR414 (mj_e_plain (by decide)) (by show (0 : Int) ≤ (f 10).toInt; omega) (by show (f 10).toInt ≤ (65535 : Int); omega)) ?_
              rintro v416 S417 (⟨z418, g'419, hv420, hS421, hR424, h422, h423⟩)
              subst hv420
              have h422_ : z418.toInt = (f 10).toInt + 1 := h422
              have h423_ : ∀ j, j ∉ [11, 12, 13, 14] → g'419 j = g'401 j := h423
              replace hS421 : MS S0 S417 (upd (upd (upd (upd f 4 z411) 10 z418) 15 z0) 20 z400) g'419 := hS421
              have hR424_ : RJ (upd (upd (upd (upd f 4 z411) 10 z418) 15 z0) 20 z400) g'419 (((21 : Int), z415.toInt, tw.toInt, (0 : Int), []) :: gs) bc [] 0 [] := hR424
              show am_E _ _ _ _ [some (.ref 39), some (.int on), some (.int tw), some (.int (g 16 z0.toNatClampNeg)), some (.int r3), some (.int 1), some (.int (g 18 z0.toNatClampNeg)), none] [] _ _
              refine am_e2 (v := 39) hi_264_213 rfl ?_
              refine am_e0 hi_264_214 ?_
              refine am_e0 hi_264_216 ?_
              refine am_e0 hi_264_217 ?_
              refine am_e0 hi_264_218 ?_
              refine am_e32n (as := [.ref 39, .int 28, .int 0, .int 0, .int 0]) (la := [some (.ref 39), some (.int 28), some (.int 0), some (.int 0), some (.int 0)]) (rest := []) hi_264_219 (am_hd0 (M := 264) (by decide) 219) (Nat.le_of_ble_eq_true rfl) (Nat.le_of_ble_eq_true rfl) (show 5 ≤ am_P0.2.2.1 179 from by decide +kernel) rfl (am_recv_ok hS421.fs) rfl rfl (ct_pile (d := (d + 6)) hS421 hR424_ (mj_e_plain (by decide)) (by show (0 : Int) ≤ z418.toInt; omega) (by show z418.toInt ≤ (65535 : Int); omega)) ?_
              rintro v425 S426 (⟨z427, g'428, hv429, hS430, hR433, h431, h432⟩)
              subst hv429
              have h431_ : z427.toInt = z418.toInt + 1 := h431
              have h432_ : ∀ j, j ∉ [11, 12, 13, 14] → g'428 j = g'419 j := h432
              replace hS430 : MS S0 S426 (upd (upd (upd (upd f 4 z411) 10 z427) 15 z0) 20 z400) g'428 := hS430
              have hR433_ : RJ (upd (upd (upd (upd f 4 z411) 10 z427) 15 z0) 20 z400) g'428 (((28 : Int), (0 : Int), (0 : Int), (0 : Int), []) :: (((21 : Int), z415.toInt, tw.toInt, (0 : Int), []) :: gs)) bc [] 0 [] := hR433
              show am_E _ _ _ _ [some (.ref 39), some (.int on), some (.int tw), some (.int (g 16 z0.toNatClampNeg)), some (.int r3), some (.int 1), some (.int (g 18 z0.toNatClampNeg)), none] [] _ _
              refine am_e2 (v := 39) hi_264_222 rfl ?_
              refine am_e32w (as := [.ref 39]) (la := [some (.ref 39)]) (rest := []) hi_264_223 (am_hd0 (M := 264) (by decide) 223) (Nat.le_of_ble_eq_true rfl) (Nat.le_of_ble_eq_true rfl) (show 1 ≤ am_P0.2.2.1 201 from by decide +kernel) rfl (am_recv_ok hS430.fs) rfl rfl ?_
              refine am_e2 (v := 39) hi_201_0 rfl ?_
              refine am_e32n (as := [.ref 39]) (la := [some (.ref 39)]) (rest := []) hi_201_1 (am_hd0 (M := 201) (by decide) 1) (Nat.le_of_ble_eq_true rfl) (Nat.le_of_ble_eq_true rfl) (show 1 ≤ am_P0.2.2.1 183 from by decide +kernel) rfl (am_recv_ok hS430.fs) rfl rfl (ct_next (d := (d + 4)) hS430   (by show (0 : Int) ≤ z411.toInt; omega) (by show (f 0).toInt ≤ (16384 : Int); omega)) ?_
              rintro v434 S435 (⟨r436, hv437, hS438, h439⟩)
              subst hv437
              have h439_ : z411.toInt < (f 0).toInt ∨ r436.toInt = (-1 : Int) := h439
              show am_E _ _ _ _ [some (.ref 39)] [.int r436] _ _
              refine am_e0 hi_201_4 ?_
              by_cases c441 : ¬ r436.toInt = (1 : Int)
              · refine am_e13t hi_201_5 (am_cT (m := r436.toInt) (n := (1 : Int)) rfl (by decide) c441) ?_
                refine am_e2 (v := 39) hi_201_31 rfl ?_
                refine am_e0 hi_201_32 ?_
                refine am_e32n (as := [.ref 39, .int 60]) (la := [some (.ref 39), some (.int 60)]) (rest := []) hi_201_34 (am_hd0 (M := 201) (by decide) 34) (Nat.le_of_ble_eq_true rfl) (Nat.le_of_ble_eq_true rfl) (show 2 ≤ am_P0.2.2.1 193 from by decide +kernel) rfl (am_recv_ok hS438.fs) rfl rfl (ct_enter (d := (d + 3)) hS438   (by show (0 : Int) ≤ z411.toInt; omega) (by show (f 0).toInt ≤ (16384 : Int); omega) (by show (0 : Int) ≤ (60 : Int); omega) (by show (0 : Int) ≤ (f 5).toInt; omega) (by show (f 5).toInt ≤ (48 : Int); omega) (by show (0 : Int) ≤ (f 6).toInt; omega)) ?_
                rintro v442 S443 (⟨z444, y445, hv446, hS447, h448, h449, h450, h451⟩ | ⟨a453, b454, hv455, hS456, h457⟩)
                · subst hv446
                  have h448_ : z444.toInt = z411.toInt + 1 := h448
                  have h449_ : z411.toInt < (f 0).toInt := h449
                  have h450_ : y445.toInt = (f 5).toInt + 1 := h450
                  have h451_ : y445.toInt ≤ (48 : Int) := h451
                  replace hS447 : MS S0 S443 (upd (upd (upd (upd (upd f 4 z444) 5 y445) 10 z427) 15 z0) 20 z400) g'428 := hS447
                  have hR459 : RJ (upd (upd (upd (upd (upd f 4 z444) 5 y445) 10 z427) 15 z0) 20 z400) g'428 (((28 : Int), (0 : Int), (0 : Int), (0 : Int), []) :: (((21 : Int), z415.toInt, tw.toInt, (0 : Int), []) :: gs)) bc [] 0 [] := RJ.at hR433_ (by show z411.toInt ≤ z444.toInt; omega)
                  show am_E _ _ _ _ [some (.ref 39)] [.int 1] _ _
                  refine am_e12f hi_201_37 (by decide) ?_
                  refine am_e2 (v := 39) hi_201_40 rfl ?_
                  refine am_e0 hi_201_41 ?_
                  refine am_e0 hi_201_43 ?_
                  refine am_e0 hi_201_44 ?_
                  refine am_e0 hi_201_45 ?_
                  refine am_e32n (as := [.ref 39, .int 29, .int 0, .int 0, .int 0]) (la := [some (.ref 39), some (.int 29), some (.int 0), some (.int 0), some (.int 0)]) (rest := []) hi_201_46 (am_hd0 (M := 201) (by decide) 46) (Nat.le_of_ble_eq_true rfl) (Nat.le_of_ble_eq_true rfl) (show 5 ≤ am_P0.2.2.1 179 from by decide +kernel) rfl (am_recv_ok hS447.fs) rfl rfl (ct_pile (d := (d + 5)) hS447 hR459 (mj_e_plain (by decide)) (by show (0 : Int) ≤ z427.toInt; omega) (by show z427.toInt ≤ (65535 : Int); omega)) ?_
                  rintro v460 S461 (⟨z462, g'463, hv464, hS465, hR468, h466, h467⟩)
                  subst hv464
                  have h466_ : z462.toInt = z427.toInt + 1 := h466
                  have h467_ : ∀ j, j ∉ [11, 12, 13, 14] → g'463 j = g'428 j := h467
                  replace hS465 : MS S0 S461 (upd (upd (upd (upd (upd f 4 z444) 5 y445) 10 z462) 15 z0) 20 z400) g'463 := hS465
                  have hR468_ : RJ (upd (upd (upd (upd (upd f 4 z444) 5 y445) 10 z462) 15 z0) 20 z400) g'463 (((29 : Int), (0 : Int), (0 : Int), (0 : Int), []) :: (((28 : Int), (0 : Int), (0 : Int), (0 : Int), []) :: (((21 : Int), z415.toInt, tw.toInt, (0 : Int), []) :: gs))) bc [] 0 [] := hR468
                  show am_E _ _ _ _ [some (.ref 39)] [] _ _
                  refine am_e2 (v := 39) hi_201_49 rfl ?_
                  refine am_e0 hi_201_50 ?_
                  refine am_e32w (as := [.ref 39, .int 0]) (la := [some (.ref 39), some (.int 0)]) (rest := []) hi_201_51 (am_hd0 (M := 201) (by decide) 51) (Nat.le_of_ble_eq_true rfl) (Nat.le_of_ble_eq_true rfl) (show 2 ≤ am_P0.2.2.1 186 from by decide +kernel) rfl (am_recv_ok hS465.fs) rfl rfl ?_
                  refine am_e2 (v := 39) hi_186_0 rfl ?_
                  refine am_e0 hi_186_1 ?_
                  refine am_e1 (v := 0) hi_186_3 rfl ?_
                  refine am_e0 hi_186_4 ?_
                  refine am_e0 hi_186_5 ?_
                  refine am_e32n (as := [.ref 39, .int 23, .int 0, .int 0, .int 0]) (la := [some (.ref 39), some (.int 23), some (.int 0), some (.int 0), some (.int 0)]) (rest := []) hi_186_6 (am_hd0 (M := 186) (by decide) 6) (Nat.le_of_ble_eq_true rfl) (Nat.le_of_ble_eq_true rfl) (show 5 ≤ am_P0.2.2.1 179 from by decide +kernel) rfl (am_recv_ok hS465.fs) rfl rfl (ct_pile (d := (d + 4)) hS465 hR468_ (mj_e_plain (by decide)) (by show (0 : Int) ≤ z462.toInt; omega) (by show z462.toInt ≤ (65535 : Int); omega)) ?_
                  rintro v469 S470 (⟨z471, g'472, hv473, hS474, hR477, h475, h476⟩)
                  subst hv473
                  have h475_ : z471.toInt = z462.toInt + 1 := h475
                  have h476_ : ∀ j, j ∉ [11, 12, 13, 14] → g'472 j = g'463 j := h476
                  replace hS474 : MS S0 S470 (upd (upd (upd (upd (upd f 4 z444) 5 y445) 10 z471) 15 z0) 20 z400) g'472 := hS474
                  have hR477_ : RJ (upd (upd (upd (upd (upd f 4 z444) 5 y445) 10 z471) 15 z0) 20 z400) g'472 (((23 : Int), (0 : Int), (0 : Int), (0 : Int), []) :: (((29 : Int), (0 : Int), (0 : Int), (0 : Int), []) :: (((28 : Int), (0 : Int), (0 : Int), (0 : Int), []) :: (((21 : Int), z415.toInt, tw.toInt, (0 : Int), []) :: gs)))) bc [] 0 [] := hR477
                  show am_E _ _ _ _ [some (.ref 39), some (.int 0)] [] _ _
                  refine am_e35 hi_186_9 ?_
                  show am_E _ _ _ _ [some (.ref 39)] [] _ _
                  refine am_e35 hi_201_54 ?_
                  show am_E _ _ _ _ [some (.ref 39), some (.int on), some (.int tw), some (.int (g 16 z0.toNatClampNeg)), some (.int r3), some (.int 1), some (.int (g 18 z0.toNatClampNeg)), none] [] _ _
                  refine am_e18 hi_264_226 ?_
                  refine am_e35 hi_264_244 ?_
                  show am_E _ _ _ _ [some (.ref 39), some (.int 21), some (.int on), some (.int tw), some (.int th)] [] _ _
                  refine am_e18 hi_180_362 ?_
                  refine am_e35 hi_180_371 ?_
                  have q1 : mg_p1 (((23 : Int), (0 : Int), (0 : Int), (0 : Int), []) :: (((29 : Int), (0 : Int), (0 : Int), (0 : Int), []) :: (((28 : Int), (0 : Int), (0 : Int), (0 : Int), []) :: (((21 : Int), z415.toInt, tw.toInt, (0 : Int), []) :: gs)))) = 0 + (0 + (0 + (0 + (mg_p1 gs)))) := rfl
                  have q2 : mg_p2 (((23 : Int), (0 : Int), (0 : Int), (0 : Int), []) :: (((29 : Int), (0 : Int), (0 : Int), (0 : Int), []) :: (((28 : Int), (0 : Int), (0 : Int), (0 : Int), []) :: (((21 : Int), z415.toInt, tw.toInt, (0 : Int), []) :: gs)))) = 0 + (0 + (0 + (0 + (mg_p2 gs)))) := rfl
                  have q3 : mg_p3 (((23 : Int), (0 : Int), (0 : Int), (0 : Int), []) :: (((29 : Int), (0 : Int), (0 : Int), (0 : Int), []) :: (((28 : Int), (0 : Int), (0 : Int), (0 : Int), []) :: (((21 : Int), z415.toInt, tw.toInt, (0 : Int), []) :: gs)))) = 1 + (1 + (1 + (1 + (mg_p3 gs)))) := rfl
                  have q4 : mg_p4 (((23 : Int), (0 : Int), (0 : Int), (0 : Int), []) :: (((29 : Int), (0 : Int), (0 : Int), (0 : Int), []) :: (((28 : Int), (0 : Int), (0 : Int), (0 : Int), []) :: (((21 : Int), z415.toInt, tw.toInt, (0 : Int), []) :: gs)))) = 0 + (0 + (0 + (0 + (mg_p4 gs)))) := rfl
                  refine ⟨_, _, _, bc, rfl, hS474, Or.inl ⟨⟨hR477_, ?_, ?_⟩, rfl, ?_⟩⟩
                  · exact (⟨⟨(show mg_k 23 from by decide), (show (0 : Int) ≤ z0.toInt from by omega), (show 0 ≤ z400.toInt from by omega), (show 1 ≤ (f 37).toInt from by omega), (show 0 ≤ (f 32).toInt from by omega), (show (f 32).toInt ≤ y445.toInt from by omega), (show y445.toInt ≤ 48 from by omega), (show (f 37).toInt ≤ 2 * (y445.toInt) + 2 from by omega), (show 0 ≤ (0 : Int) from by omega)⟩, ⟨⟨(show mg_k 29 from by decide), (show (1 : Int) ≤ z0.toInt + 1 from by omega), (show 0 ≤ z400.toInt from by omega), (show 1 ≤ (f 37).toInt + 0 from by omega), (show 0 ≤ (f 32).toInt + 0 from by omega), (show (f 32).toInt + 0 ≤ y445.toInt + 0 from by omega), (show y445.toInt + 0 ≤ 48 from by omega), (show (f 37).toInt + 0 ≤ 2 * (y445.toInt + 0) + 2 from by omega), trivial⟩, ⟨⟨(show mg_k 28 from by decide), (show (1 : Int) ≤ z0.toInt + 1 + 0 from by omega), (show 0 ≤ z400.toInt from by omega), (show 1 ≤ (f 37).toInt + 0 + 0 from by omega), (show 0 ≤ (f 32).toInt + 0 + 0 from by omega), (show (f 32).toInt + 0 + 0 ≤ y445.toInt + 0 + -1 from by omega), (show y445.toInt + 0 + -1 ≤ 48 from by omega), (show (f 37).toInt + 0 + 0 ≤ 2 * (y445.toInt + 0 + -1) + 2 from by omega), trivial⟩, ⟨⟨(show mg_k 21 from by decide), (show (1 : Int) ≤ z0.toInt + 1 + 0 + 0 from by omega), (show 0 ≤ z400.toInt from by omega), (show 1 ≤ (f 37).toInt + 0 + 0 + 0 from by omega), (show 0 ≤ (f 32).toInt + 0 + 0 + 0 from by omega), (show (f 32).toInt + 0 + 0 + 0 ≤ y445.toInt + 0 + -1 + 0 from by omega), (show y445.toInt + 0 + -1 + 0 ≤ 48 from by omega), (show (f 37).toInt + 0 + 0 + 0 ≤ 2 * (y445.toInt + 0 + -1 + 0) + 1 from by omega), ⟨(show 0 ≤ z415.toInt from by omega), (show 0 ≤ tw.toInt from by omega), (show z400.toInt = tw.toInt + z415.toInt from by omega)⟩⟩, mg_cast (mg_good_ext _ _ _ _ _ _ (fun i _ => by show g'472 34 i = g 34 i; rw [show g'472 34 = g'463 34 from h476_ 34 (by decide), show g'463 34 = g'428 34 from h467_ 34 (by decide), show g'428 34 = g'419 34 from h432_ 34 (by decide), show g'419 34 = g'401 34 from h423_ 34 (by decide), show g'401 34 = g 34 from h405_ 34 (by decide)]) (fun i _ => by show g'472 38 i = g 38 i; rw [show g'472 38 = g'463 38 from h476_ 38 (by decide), show g'463 38 = g'428 38 from h467_ 38 (by decide), show g'428 38 = g'419 38 from h432_ 38 (by decide), show g'419 38 = g'401 38 from h423_ 38 (by decide), show g'401 38 = g 38 from h405_ 38 (by decide)]) (fun i hi => by show g'472 23 i = g 23 i; rw [show g'472 23 = g'463 23 from h476_ 23 (by decide), show g'463 23 = g'428 23 from h467_ 23 (by decide), show g'428 23 = g'419 23 from h432_ 23 (by decide), show g'419 23 = g'401 23 from h423_ 23 (by decide), h406_]; exact upd_ne (by rw [cl_toNat]; omega)) hrest) (by show (f 15).toInt + -1 = z0.toInt + 1 + 0 + 0 + -1; omega) (by show tw.toInt = tw.toInt; omega) (by show (f 37).toInt + 0 = (f 37).toInt + 0 + 0 + 0 + 0; omega) (by show (f 32).toInt + 0 = (f 32).toInt + 0 + 0 + 0 + 0; omega) (by show (f 5).toInt + 0 = y445.toInt + 0 + -1 + 0 + 0; omega)⟩⟩⟩⟩ : mg_good (g'472 34) (g'472 38) (g'472 23) (((23 : Int), (0 : Int), (0 : Int), (0 : Int), []) :: (((29 : Int), (0 : Int), (0 : Int), (0 : Int), []) :: (((28 : Int), (0 : Int), (0 : Int), (0 : Int), []) :: (((21 : Int), z415.toInt, tw.toInt, (0 : Int), []) :: gs)))) (z0.toInt) (z400.toInt) ((f 37).toInt) ((f 32).toInt) (y445.toInt))
                  · exact ⟨(by show 0 ≤ z444.toInt; omega), (by show z444.toInt ≤ (f 0).toInt; omega), (by show (f 0).toInt ≤ 512; omega), (by show 0 ≤ (f 24).toInt; omega), (by show (f 24).toInt + z400.toInt + mg_p1 (((23 : Int), (0 : Int), (0 : Int), (0 : Int), []) :: (((29 : Int), (0 : Int), (0 : Int), (0 : Int), []) :: (((28 : Int), (0 : Int), (0 : Int), (0 : Int), []) :: (((21 : Int), z415.toInt, tw.toInt, (0 : Int), []) :: gs)))) ≤ 4 * z444.toInt; omega), (by show z400.toInt ≤ z444.toInt; omega), (by show z0.toInt + mg_p2 (((23 : Int), (0 : Int), (0 : Int), (0 : Int), []) :: (((29 : Int), (0 : Int), (0 : Int), (0 : Int), []) :: (((28 : Int), (0 : Int), (0 : Int), (0 : Int), []) :: (((21 : Int), z415.toInt, tw.toInt, (0 : Int), []) :: gs)))) ≤ z444.toInt; omega), (by show mg_p3 (((23 : Int), (0 : Int), (0 : Int), (0 : Int), []) :: (((29 : Int), (0 : Int), (0 : Int), (0 : Int), []) :: (((28 : Int), (0 : Int), (0 : Int), (0 : Int), []) :: (((21 : Int), z415.toInt, tw.toInt, (0 : Int), []) :: gs)))) ≤ 20 * z444.toInt + 20; omega), (by show 0 ≤ (f 68).toInt; omega), (by show (f 68).toInt + 3 * z400.toInt + mg_p4 (((23 : Int), (0 : Int), (0 : Int), (0 : Int), []) :: (((29 : Int), (0 : Int), (0 : Int), (0 : Int), []) :: (((28 : Int), (0 : Int), (0 : Int), (0 : Int), []) :: (((21 : Int), z415.toInt, tw.toInt, (0 : Int), []) :: gs)))) ≤ 60 * z444.toInt + 60; omega), (by show 0 ≤ (f 62).toInt; omega), (by show (f 62).toInt + 64 * mj_n (g'472 16) z0.toNatClampNeg 3 ≤ 64 * z444.toInt; rw [show g'472 16 = g'463 16 from h476_ 16 (by decide), show g'463 16 = g'428 16 from h467_ 16 (by decide), show g'428 16 = g'419 16 from h432_ 16 (by decide), show g'419 16 = g'401 16 from h423_ 16 (by decide), show g'401 16 = g 16 from h405_ 16 (by decide)]; omega), (by show 0 ≤ (f 44).toInt; omega), (by show (f 44).toInt ≤ z444.toInt; omega), (by show 0 ≤ (f 48).toInt; omega), (by show (f 48).toInt ≤ z444.toInt; omega), (by show 1 ≤ (f 53).toInt; omega), (by show (f 53).toInt ≤ z444.toInt + 1; omega), (by show 0 ≤ (f 19).toInt; omega), (by show (f 19).toInt ≤ 600; omega), (by show 0 ≤ (f 6).toInt; omega), (by show 0 ≤ (f 8).toInt; omega)⟩
                  · show 100 * ((f 0).toInt - z444.toInt) + mg_p3 (((23 : Int), (0 : Int), (0 : Int), (0 : Int), []) :: (((29 : Int), (0 : Int), (0 : Int), (0 : Int), []) :: (((28 : Int), (0 : Int), (0 : Int), (0 : Int), []) :: (((21 : Int), z415.toInt, tw.toInt, (0 : Int), []) :: gs)))) < 100 * ((f 0).toInt - (f 4).toInt) + (1 + mg_p3 gs); omega
                · subst hv455
                  have h457_ : (0 : Int) ≤ a453.toInt := h457
                  replace hS456 : MS S0 S443 (upd (upd (upd (upd (upd (upd f 4 z411) 6 a453) 7 b454) 10 0) 15 z0) 20 z400) g'428 := hS456
                  have hR478 := rj_clear0 hR433_
                  have hR479 : RJ (upd (upd (upd (upd (upd (upd f 4 z411) 6 a453) 7 b454) 10 0) 15 z0) 20 z400) g'428 [] bc [] 0 [] := hR478
                  show am_E _ _ _ _ [some (.ref 39)] [.int 0] _ _
                  refine am_e12t hi_201_37 (by decide) ?_
                  refine am_e35 hi_201_54 ?_
                  show am_E _ _ _ _ [some (.ref 39), some (.int on), some (.int tw), some (.int (g 16 z0.toNatClampNeg)), some (.int r3), some (.int 1), some (.int (g 18 z0.toNatClampNeg)), none] [] _ _
                  refine am_e18 hi_264_226 ?_
                  refine am_e35 hi_264_244 ?_
                  show am_E _ _ _ _ [some (.ref 39), some (.int 21), some (.int on), some (.int tw), some (.int th)] [] _ _
                  refine am_e18 hi_180_362 ?_
                  refine am_e35 hi_180_371 ?_
                  have hRc := rj_clear0 hR479
                  refine ⟨_, _, [], _, rfl, hS456, Or.inr ⟨hRc, rfl, (by show 0 ≤ z411.toInt; omega), (by show z411.toInt ≤ (f 0).toInt; omega), (by show 0 ≤ (f 32).toInt; omega), (by show (f 32).toInt ≤ 63; omega), (by show 1 ≤ (f 53).toInt; omega), (by show (f 53).toInt ≤ 600; omega), (by show 0 ≤ (f 68).toInt; omega), (by show (f 68).toInt ≤ 60000; omega), (by show 0 ≤ (f 48).toInt; omega), (by show (f 48).toInt ≤ 8000; omega), (by show 0 ≤ (f 37).toInt; omega), (by show (f 37).toInt ≤ 128; omega), (by show 0 ≤ (f 62).toInt; omega), (by show (f 62).toInt ≤ 65000; omega), (by show 0 ≤ (f 19).toInt; omega), (by show (f 19).toInt ≤ 600; omega), (by show 0 ≤ a453.toInt; omega), (by show 0 ≤ (f 8).toInt; omega)⟩⟩
              · refine am_e13f hi_201_5 (am_cF (m := r436.toInt) (n := (1 : Int)) rfl (by decide) c441) ?_
                refine am_e2 (v := 39) hi_201_8 rfl ?_
                refine am_e0 hi_201_9 ?_
                refine am_e0 hi_201_10 ?_
                refine am_e2 (v := 39) hi_201_11 rfl ?_
                refine mm_20 (v := .int z411) hS438 hi_201_12 rfl ?_
                refine am_e32n (as := [.ref 39, .int 3, .int 0, .int z411]) (la := [some (.ref 39), some (.int 3), some (.int 0), some (.int z411)]) (rest := []) hi_201_15 (am_hd0 (M := 201) (by decide) 15) (Nat.le_of_ble_eq_true rfl) (Nat.le_of_ble_eq_true rfl) (show 4 ≤ am_P0.2.2.1 190 from by decide +kernel) rfl (am_recv_ok hS438.fs) rfl rfl (ct_value (d := (d + 5)) hS438 hR433_ (fun _ => ⟨by omega, by omega⟩) (fun h => absurd h (by decide)) (by show (0 : Int) ≤ z0.toInt; omega) (by show z0.toInt ≤ (32767 : Int); omega)) ?_
                rintro v480 S481 (⟨z482, g'483, hv484, hS485, hR490, h486, h487, h488, h489⟩)
                subst hv484
                have h486_ : z482.toInt = z0.toInt + 1 := h486
                have h487_ : ∀ j, j ∉ [16, 17, 18] → g'483 j = g'428 j := h487
                have h488_ : mj_n (g'483 16) z482.toNatClampNeg 3 ≤ mj_n (g 16) z0.toNatClampNeg 3 + 1 := by rw [show g'428 16 = g'419 16 from h432_ 16 (by decide), show g'419 16 = g'401 16 from h423_ 16 (by decide), show g'401 16 = g 16 from h405_ 16 (by decide)] at h488; exact h488
                have h489_ : (3 : Int) = 3 ∨ mj_n (g'483 16) z482.toNatClampNeg 3 ≤ mj_n (g 16) z0.toNatClampNeg 3 := by rw [show g'428 16 = g'419 16 from h432_ 16 (by decide), show g'419 16 = g'401 16 from h423_ 16 (by decide), show g'401 16 = g 16 from h405_ 16 (by decide)] at h489; exact h489
                replace hS485 : MS S0 S481 (upd (upd (upd (upd f 4 z411) 10 z427) 15 z482) 20 z400) g'483 := hS485
                have hR490_ : RJ (upd (upd (upd (upd f 4 z411) 10 z427) 15 z482) 20 z400) g'483 (((28 : Int), (0 : Int), (0 : Int), (0 : Int), []) :: (((21 : Int), z415.toInt, tw.toInt, (0 : Int), []) :: gs)) bc [] 0 [] := hR490
                show am_E _ _ _ _ [some (.ref 39)] [] _ _
                refine am_e2 (v := 39) hi_201_18 rfl ?_
                refine am_e7 hi_201_19 ?_
                refine mm_20 (v := .int z411) hS485 hi_201_20 rfl ?_
                refine am_e0 hi_201_23 ?_
                obtain ⟨z491, hz491, tz491⟩ := am_addI (x := z411) (y := 1) (m := z411.toInt) (n := (1 : Int)) rfl (by decide) (by omega) (by omega)
                refine am_e10 (z := z491) hi_201_24 hz491 ?_
                refine mm_21 (v := z491) hS485 hi_201_25 rfl (Nat.le_of_ble_eq_true rfl) ms_4 ?_
                intro S492 hS493
                replace hS493 : MS S0 S492 (upd (upd (upd (upd f 4 z491) 10 z427) 15 z482) 20 z400) g'483 := hS493
                have hR494 : RJ (upd (upd (upd (upd f 4 z491) 10 z427) 15 z482) 20 z400) g'483 (((28 : Int), (0 : Int), (0 : Int), (0 : Int), []) :: (((21 : Int), z415.toInt, tw.toInt, (0 : Int), []) :: gs)) bc [] 0 [] := RJ.at hR490_ (by show z411.toInt ≤ z491.toInt; omega)
                refine am_e18 hi_201_28 ?_
                refine am_e35 hi_201_54 ?_
                show am_E _ _ _ _ [some (.ref 39), some (.int on), some (.int tw), some (.int (g 16 z0.toNatClampNeg)), some (.int r3), some (.int 1), some (.int (g 18 z0.toNatClampNeg)), none] [] _ _
                refine am_e18 hi_264_226 ?_
                refine am_e35 hi_264_244 ?_
                show am_E _ _ _ _ [some (.ref 39), some (.int 21), some (.int on), some (.int tw), some (.int th)] [] _ _
                refine am_e18 hi_180_362 ?_
                refine am_e35 hi_180_371 ?_
                have q1 : mg_p1 (((28 : Int), (0 : Int), (0 : Int), (0 : Int), []) :: (((21 : Int), z415.toInt, tw.toInt, (0 : Int), []) :: gs)) = 0 + (0 + (mg_p1 gs)) := rfl
                have q2 : mg_p2 (((28 : Int), (0 : Int), (0 : Int), (0 : Int), []) :: (((21 : Int), z415.toInt, tw.toInt, (0 : Int), []) :: gs)) = 0 + (0 + (mg_p2 gs)) := rfl
                have q3 : mg_p3 (((28 : Int), (0 : Int), (0 : Int), (0 : Int), []) :: (((21 : Int), z415.toInt, tw.toInt, (0 : Int), []) :: gs)) = 1 + (1 + (mg_p3 gs)) := rfl
                have q4 : mg_p4 (((28 : Int), (0 : Int), (0 : Int), (0 : Int), []) :: (((21 : Int), z415.toInt, tw.toInt, (0 : Int), []) :: gs)) = 0 + (0 + (mg_p4 gs)) := rfl
                refine ⟨_, _, _, bc, rfl, hS493, Or.inl ⟨⟨hR494, ?_, ?_⟩, rfl, ?_⟩⟩
                · exact (⟨⟨(show mg_k 28 from by decide), (show (1 : Int) ≤ z482.toInt from by omega), (show 0 ≤ z400.toInt from by omega), (show 1 ≤ (f 37).toInt from by omega), (show 0 ≤ (f 32).toInt from by omega), (show (f 32).toInt ≤ (f 5).toInt from by omega), (show (f 5).toInt ≤ 48 from by omega), (show (f 37).toInt ≤ 2 * ((f 5).toInt) + 2 from by omega), trivial⟩, ⟨⟨(show mg_k 21 from by decide), (show (1 : Int) ≤ z482.toInt + 0 from by omega), (show 0 ≤ z400.toInt from by omega), (show 1 ≤ (f 37).toInt + 0 from by omega), (show 0 ≤ (f 32).toInt + 0 from by omega), (show (f 32).toInt + 0 ≤ (f 5).toInt + 0 from by omega), (show (f 5).toInt + 0 ≤ 48 from by omega), (show (f 37).toInt + 0 ≤ 2 * ((f 5).toInt + 0) + 1 from by omega), ⟨(show 0 ≤ z415.toInt from by omega), (show 0 ≤ tw.toInt from by omega), (show z400.toInt = tw.toInt + z415.toInt from by omega)⟩⟩, mg_cast (mg_good_ext _ _ _ _ _ _ (fun i _ => by show g'483 34 i = g 34 i; rw [show g'483 34 = g'428 34 from h487_ 34 (by decide), show g'428 34 = g'419 34 from h432_ 34 (by decide), show g'419 34 = g'401 34 from h423_ 34 (by decide), show g'401 34 = g 34 from h405_ 34 (by decide)]) (fun i _ => by show g'483 38 i = g 38 i; rw [show g'483 38 = g'428 38 from h487_ 38 (by decide), show g'428 38 = g'419 38 from h432_ 38 (by decide), show g'419 38 = g'401 38 from h423_ 38 (by decide), show g'401 38 = g 38 from h405_ 38 (by decide)]) (fun i hi => by show g'483 23 i = g 23 i; rw [show g'483 23 = g'428 23 from h487_ 23 (by decide), show g'428 23 = g'419 23 from h432_ 23 (by decide), show g'419 23 = g'401 23 from h423_ 23 (by decide), h406_]; exact upd_ne (by rw [cl_toNat]; omega)) hrest) (by show (f 15).toInt + -1 = z482.toInt + 0 + -1; omega) (by show tw.toInt = tw.toInt; omega) (by show (f 37).toInt + 0 = (f 37).toInt + 0 + 0; omega) (by show (f 32).toInt + 0 = (f 32).toInt + 0 + 0; omega) (by show (f 5).toInt + 0 = (f 5).toInt + 0 + 0; omega)⟩⟩ : mg_good (g'483 34) (g'483 38) (g'483 23) (((28 : Int), (0 : Int), (0 : Int), (0 : Int), []) :: (((21 : Int), z415.toInt, tw.toInt, (0 : Int), []) :: gs)) (z482.toInt) (z400.toInt) ((f 37).toInt) ((f 32).toInt) ((f 5).toInt))
                · exact ⟨(by show 0 ≤ z491.toInt; omega), (by show z491.toInt ≤ (f 0).toInt; omega), (by show (f 0).toInt ≤ 512; omega), (by show 0 ≤ (f 24).toInt; omega), (by show (f 24).toInt + z400.toInt + mg_p1 (((28 : Int), (0 : Int), (0 : Int), (0 : Int), []) :: (((21 : Int), z415.toInt, tw.toInt, (0 : Int), []) :: gs)) ≤ 4 * z491.toInt; omega), (by show z400.toInt ≤ z491.toInt; omega), (by show z482.toInt + mg_p2 (((28 : Int), (0 : Int), (0 : Int), (0 : Int), []) :: (((21 : Int), z415.toInt, tw.toInt, (0 : Int), []) :: gs)) ≤ z491.toInt; omega), (by show mg_p3 (((28 : Int), (0 : Int), (0 : Int), (0 : Int), []) :: (((21 : Int), z415.toInt, tw.toInt, (0 : Int), []) :: gs)) ≤ 20 * z491.toInt + 20; omega), (by show 0 ≤ (f 68).toInt; omega), (by show (f 68).toInt + 3 * z400.toInt + mg_p4 (((28 : Int), (0 : Int), (0 : Int), (0 : Int), []) :: (((21 : Int), z415.toInt, tw.toInt, (0 : Int), []) :: gs)) ≤ 60 * z491.toInt + 60; omega), (by show 0 ≤ (f 62).toInt; omega), (by show (f 62).toInt + 64 * mj_n (g'483 16) z482.toNatClampNeg 3 ≤ 64 * z491.toInt; omega), (by show 0 ≤ (f 44).toInt; omega), (by show (f 44).toInt ≤ z491.toInt; omega), (by show 0 ≤ (f 48).toInt; omega), (by show (f 48).toInt ≤ z491.toInt; omega), (by show 1 ≤ (f 53).toInt; omega), (by show (f 53).toInt ≤ z491.toInt + 1; omega), (by show 0 ≤ (f 19).toInt; omega), (by show (f 19).toInt ≤ 600; omega), (by show 0 ≤ (f 6).toInt; omega), (by show 0 ≤ (f 8).toInt; omega)⟩
                · show 100 * ((f 0).toInt - z491.toInt) + mg_p3 (((28 : Int), (0 : Int), (0 : Int), (0 : Int), []) :: (((21 : Int), z415.toInt, tw.toInt, (0 : Int), []) :: gs)) < 100 * ((f 0).toInt - (f 4).toInt) + (1 + mg_p3 gs); omega
            · refine am_e13f hi_264_145 (am_cF (m := (g 16 z0.toNatClampNeg).toInt) (n := (5 : Int)) rfl (by decide) c397) ?_
              refine am_e2 (v := 39) hi_264_148 rfl ?_
              refine am_e0 hi_264_149 ?_
              refine am_e2 (v := 39) hi_264_150 rfl ?_
              refine mm_20 (v := .ref 47) hS5 hi_264_151 rfl ?_
              refine am_e2 (v := 39) hi_264_154 rfl ?_
              refine mm_20 (v := .int (f 15)) hS5 hi_264_155 rfl ?_
              refine am_e0 hi_264_158 ?_
              refine am_e10 (z := z0) hi_264_159 hz0 ?_
              refine mm_25 hS5 ma_17 hi_264_160 (by decide) (by omega) (by omega) ?_
              show am_E _ _ _ _ [some (.ref 39), some (.int on), some (.int tw), some (.int (g 16 z0.toNatClampNeg)), some (.int r3), some (.int 1), some (.int (g 18 z0.toNatClampNeg)), none] [.int (g 17 z0.toNatClampNeg), .int 5, .ref 39] _ _
              have r495 : (g 16 z0.toNatClampNeg).toInt = 1 ∨ (g 16 z0.toNatClampNeg).toInt = 2 → 0 ≤ (g 17 z0.toNatClampNeg).toInt ∧ (g 17 z0.toNatClampNeg).toInt < 65536 := RJ.vc hR z0.toNatClampNeg
              refine am_e0 hi_264_161 ?_
              refine am_e0 hi_264_162 ?_
              refine am_e32n (as := [.ref 39, .int 5, .int (g 17 z0.toNatClampNeg), .int 0, .int 0]) (la := [some (.ref 39), some (.int 5), some (.int (g 17 z0.toNatClampNeg)), some (.int 0), some (.int 0)]) (rest := []) hi_264_163 (am_hd0 (M := 264) (by decide) 163) (Nat.le_of_ble_eq_true rfl) (Nat.le_of_ble_eq_true rfl) (show 5 ≤ am_P0.2.2.1 189 from by decide +kernel) rfl (am_recv_ok hS5.fs) rfl rfl (ct_put (d := (d + 6)) hS5 hR  (by show (0 : Int) ≤ (f 32).toInt; omega) (by show (f 32).toInt ≤ (63 : Int); omega) (by show (f 53).toInt ≤ (4096 : Int); omega) (by show (0 : Int) ≤ (f 68).toInt; omega) (by show (f 68).toInt ≤ (65534 : Int); omega)) ?_
              rintro v496 S497 (⟨z498, r499, g'500, hv501, hS502, hR506, h503, h504, h505⟩)
              subst hv501
              have h503_ : z498.toInt = (f 68).toInt + 1 := h503
              have h504_ : r499.toInt = (f 68).toInt := h504
              have h505_ : ∀ j, j ∉ [60, 69, 70, 71, 72, 73] → g'500 j = g j := h505
              have hR506_ : RJ (upd f 68 z498) g'500 gs bc [] 0 ((f 68).toNatClampNeg :: []) := hR506
              show am_E _ _ _ _ [some (.ref 39), some (.int on), some (.int tw), some (.int (g 16 z0.toNatClampNeg)), some (.int r3), some (.int 1), some (.int (g 18 z0.toNatClampNeg)), none] [.int r499] _ _
              refine am_e6i hi_264_166 ?_
              refine am_e2 (v := 39) hi_264_167 rfl ?_
              refine am_e0 hi_264_168 ?_
              refine am_e0 hi_264_169 ?_
              refine am_e1 (v := g 18 z0.toNatClampNeg) hi_264_170 rfl ?_
              refine am_e32n (as := [.ref 39, .int 3, .int 0, .int (g 18 z0.toNatClampNeg)]) (la := [some (.ref 39), some (.int 3), some (.int 0), some (.int (g 18 z0.toNatClampNeg))]) (rest := []) hi_264_172 (am_hd0 (M := 264) (by decide) 172) (Nat.le_of_ble_eq_true rfl) (Nat.le_of_ble_eq_true rfl) (show 4 ≤ am_P0.2.2.1 239 from by decide +kernel) rfl (am_recv_ok hS502.fs) rfl rfl (ct_keep2 (d := (d + 6)) hS502 hR506_  (by show (0 : Int) ≤ (f 20).toInt; omega) (by show (f 20).toInt ≤ (16383 : Int); omega)) ?_
              rintro v507 S508 (⟨z509, g'510, hv511, hS512, hR516, h513, h514, h515⟩)
              subst hv511
              have h513_ : z509.toInt = (f 20).toInt + 1 := h513
              have h514_ : ∀ j, j ∉ [21, 22, 23] → g'510 j = g'500 j := h514
              have h515_ : g'510 23 = upd (g'500 23) (f 20).toNatClampNeg (g 18 z0.toNatClampNeg) := h515
              replace hS512 : MS S0 S508 (upd (upd f 20 z509) 68 z498) g'510 := hS512
              have hR516_ : RJ (upd (upd f 20 z509) 68 z498) g'510 gs bc [] 0 ((f 68).toNatClampNeg :: []) := hR516
              show am_E _ _ _ _ [some (.ref 39), some (.int on), some (.int tw), some (.int (g 16 z0.toNatClampNeg)), some (.int r3), some (.int 1), some (.int (g 18 z0.toNatClampNeg)), none] [] _ _
              refine am_e2 (v := 39) hi_264_175 rfl ?_
              refine am_e7 hi_264_176 ?_
              refine mm_20 (v := .int (f 15)) hS512 hi_264_177 rfl ?_
              refine am_e0 hi_264_180 ?_
              refine am_e10 (z := z0) hi_264_181 hz0 ?_
              refine mm_21 (v := z0) hS512 hi_264_182 rfl (Nat.le_of_ble_eq_true rfl) ms_15 ?_
              intro S517 hS518
              replace hS518 : MS S0 S517 (upd (upd (upd f 15 z0) 20 z509) 68 z498) g'510 := hS518
              have hp519 : mj_n (g 16) (f 15).toNatClampNeg 3 = mj_n (g 16) z0.toNatClampNeg 3 + if (g 16 z0.toNatClampNeg).toInt = 3 then 1 else 0 := mj_pop (by rw [cl_toNat, cl_toNat]; omega)
              have hp5191 : mj_n (g 16) z0.toNatClampNeg 3 ≤ mj_n (g 16) (f 15).toNatClampNeg 3 := by rw [hp519]; split <;> omega
              have hp5192 : (g 16 z0.toNatClampNeg).toInt = 3 → mj_n (g 16) z0.toNatClampNeg 3 + 1 ≤ mj_n (g 16) (f 15).toNatClampNeg 3 := fun q => by rw [hp519, if_pos q]; exact Int.le_refl _
              refine am_e2 (v := 39) hi_264_185 rfl ?_
              refine am_e7 hi_264_186 ?_
              refine mm_20 (v := .int (f 4)) hS518 hi_264_187 rfl ?_
              refine am_e0 hi_264_190 ?_
              obtain ⟨z520, hz520, tz520⟩ := am_addI (x := f 4) (y := 1) (m := (f 4).toInt) (n := (1 : Int)) rfl (by decide) (by omega) (by omega)
              refine am_e10 (z := z520) hi_264_191 hz520 ?_
              refine mm_21 (v := z520) hS518 hi_264_192 rfl (Nat.le_of_ble_eq_true rfl) ms_4 ?_
              intro S521 hS522
              replace hS522 : MS S0 S521 (upd (upd (upd (upd f 4 z520) 15 z0) 20 z509) 68 z498) g'510 := hS522
              have hR523 : RJ (upd (upd (upd (upd f 4 z520) 15 z0) 20 z509) 68 z498) g'510 gs bc [] 0 ((f 68).toNatClampNeg :: []) := RJ.at hR516_ (by show (f 4).toInt ≤ z520.toInt; omega)
              refine am_e1 (v := r3) hi_264_195 rfl ?_
              refine am_e0 hi_264_197 ?_
              refine am_e13f hi_264_199 (am_cF (m := r3.toInt) (n := (69 : Int)) rfl (by decide) (by simp only [am_cI]; omega)) ?_
              refine am_e2 (v := 39) hi_264_202 rfl ?_
              refine am_e0 hi_264_203 ?_
              refine am_e1 (v := on) hi_264_205 rfl ?_
              refine am_e0 hi_264_206 ?_
              obtain ⟨z524, hz524, tz524⟩ := am_addI (x := on) (y := 1) (m := on.toInt) (n := (1 : Int)) rfl (by decide) (by omega) (by omega)
              refine am_e10 (z := z524) hi_264_207 hz524 ?_
              refine am_e1 (v := tw) hi_264_208 rfl ?_
              refine am_e0 hi_264_209 ?_
              refine am_e32n (as := [.ref 39, .int 21, .int z524, .int tw, .int 0]) (la := [some (.ref 39), some (.int 21), some (.int z524), some (.int tw), some (.int 0)]) (rest := []) hi_264_210 (am_hd0 (M := 264) (by decide) 210) (Nat.le_of_ble_eq_true rfl) (Nat.le_of_ble_eq_true rfl) (show 5 ≤ am_P0.2.2.1 179 from by decide +kernel) rfl (am_recv_ok hS522.fs) rfl rfl (ct_pile (d := (d + 6)) hS522 hR523 (mj_e_plain (by decide)) (by show (0 : Int) ≤ (f 10).toInt; omega) (by show (f 10).toInt ≤ (65535 : Int); omega)) ?_
              rintro v525 S526 (⟨z527, g'528, hv529, hS530, hR533, h531, h532⟩)
              subst hv529
              have h531_ : z527.toInt = (f 10).toInt + 1 := h531
              have h532_ : ∀ j, j ∉ [11, 12, 13, 14] → g'528 j = g'510 j := h532
              replace hS530 : MS S0 S526 (upd (upd (upd (upd (upd f 4 z520) 10 z527) 15 z0) 20 z509) 68 z498) g'528 := hS530
              have hR533_ : RJ (upd (upd (upd (upd (upd f 4 z520) 10 z527) 15 z0) 20 z509) 68 z498) g'528 (((21 : Int), z524.toInt, tw.toInt, (0 : Int), []) :: gs) bc [] 0 ((f 68).toNatClampNeg :: []) := hR533
              show am_E _ _ _ _ [some (.ref 39), some (.int on), some (.int tw), some (.int (g 16 z0.toNatClampNeg)), some (.int r3), some (.int 1), some (.int (g 18 z0.toNatClampNeg)), none] [] _ _
              refine am_e2 (v := 39) hi_264_213 rfl ?_
              refine am_e0 hi_264_214 ?_
              refine am_e0 hi_264_216 ?_
              refine am_e0 hi_264_217 ?_
              refine am_e0 hi_264_218 ?_
              refine am_e32n (as := [.ref 39, .int 28, .int 0, .int 0, .int 0]) (la := [some (.ref 39), some (.int 28), some (.int 0), some (.int 0), some (.int 0)]) (rest := []) hi_264_219 (am_hd0 (M := 264) (by decide) 219) (Nat.le_of_ble_eq_true rfl) (Nat.le_of_ble_eq_true rfl) (show 5 ≤ am_P0.2.2.1 179 from by decide +kernel) rfl (am_recv_ok hS530.fs) rfl rfl (ct_pile (d := (d + 6)) hS530 hR533_ (mj_e_plain (by decide)) (by show (0 : Int) ≤ z527.toInt; omega) (by show z527.toInt ≤ (65535 : Int); omega)) ?_
              rintro v534 S535 (⟨z536, g'537, hv538, hS539, hR542, h540, h541⟩)
              subst hv538
              have h540_ : z536.toInt = z527.toInt + 1 := h540
              have h541_ : ∀ j, j ∉ [11, 12, 13, 14] → g'537 j = g'528 j := h541
              replace hS539 : MS S0 S535 (upd (upd (upd (upd (upd f 4 z520) 10 z536) 15 z0) 20 z509) 68 z498) g'537 := hS539
              have hR542_ : RJ (upd (upd (upd (upd (upd f 4 z520) 10 z536) 15 z0) 20 z509) 68 z498) g'537 (((28 : Int), (0 : Int), (0 : Int), (0 : Int), []) :: (((21 : Int), z524.toInt, tw.toInt, (0 : Int), []) :: gs)) bc [] 0 ((f 68).toNatClampNeg :: []) := hR542
              show am_E _ _ _ _ [some (.ref 39), some (.int on), some (.int tw), some (.int (g 16 z0.toNatClampNeg)), some (.int r3), some (.int 1), some (.int (g 18 z0.toNatClampNeg)), none] [] _ _
              refine am_e2 (v := 39) hi_264_222 rfl ?_
              refine am_e32w (as := [.ref 39]) (la := [some (.ref 39)]) (rest := []) hi_264_223 (am_hd0 (M := 264) (by decide) 223) (Nat.le_of_ble_eq_true rfl) (Nat.le_of_ble_eq_true rfl) (show 1 ≤ am_P0.2.2.1 201 from by decide +kernel) rfl (am_recv_ok hS539.fs) rfl rfl ?_
              refine am_e2 (v := 39) hi_201_0 rfl ?_
              refine am_e32n (as := [.ref 39]) (la := [some (.ref 39)]) (rest := []) hi_201_1 (am_hd0 (M := 201) (by decide) 1) (Nat.le_of_ble_eq_true rfl) (Nat.le_of_ble_eq_true rfl) (show 1 ≤ am_P0.2.2.1 183 from by decide +kernel) rfl (am_recv_ok hS539.fs) rfl rfl (ct_next (d := (d + 4)) hS539   (by show (0 : Int) ≤ z520.toInt; omega) (by show (f 0).toInt ≤ (16384 : Int); omega)) ?_
              rintro v543 S544 (⟨r545, hv546, hS547, h548⟩)
              subst hv546
              have h548_ : z520.toInt < (f 0).toInt ∨ r545.toInt = (-1 : Int) := h548
              show am_E _ _ _ _ [some (.ref 39)] [.int r545] _ _
              refine am_e0 hi_201_4 ?_
              by_cases c550 : ¬ r545.toInt = (1 : Int)
              · refine am_e13t hi_201_5 (am_cT (m := r545.toInt) (n := (1 : Int)) rfl (by decide) c550) ?_
                refine am_e2 (v := 39) hi_201_31 rfl ?_
                refine am_e0 hi_201_32 ?_
                refine am_e32n (as := [.ref 39, .int 60]) (la := [some (.ref 39), some (.int 60)]) (rest := []) hi_201_34 (am_hd0 (M := 201) (by decide) 34) (Nat.le_of_ble_eq_true rfl) (Nat.le_of_ble_eq_true rfl) (show 2 ≤ am_P0.2.2.1 193 from by decide +kernel) rfl (am_recv_ok hS547.fs) rfl rfl (ct_enter (d := (d + 3)) hS547   (by show (0 : Int) ≤ z520.toInt; omega) (by show (f 0).toInt ≤ (16384 : Int); omega) (by show (0 : Int) ≤ (60 : Int); omega) (by show (0 : Int) ≤ (f 5).toInt; omega) (by show (f 5).toInt ≤ (48 : Int); omega) (by show (0 : Int) ≤ (f 6).toInt; omega)) ?_
                rintro v551 S552 (⟨z553, y554, hv555, hS556, h557, h558, h559, h560⟩ | ⟨a562, b563, hv564, hS565, h566⟩)
                · subst hv555
                  have h557_ : z553.toInt = z520.toInt + 1 := h557
                  have h558_ : z520.toInt < (f 0).toInt := h558
                  have h559_ : y554.toInt = (f 5).toInt + 1 := h559
                  have h560_ : y554.toInt ≤ (48 : Int) := h560
                  replace hS556 : MS S0 S552 (upd (upd (upd (upd (upd (upd f 4 z553) 5 y554) 10 z536) 15 z0) 20 z509) 68 z498) g'537 := hS556
                  have hR568 : RJ (upd (upd (upd (upd (upd (upd f 4 z553) 5 y554) 10 z536) 15 z0) 20 z509) 68 z498) g'537 (((28 : Int), (0 : Int), (0 : Int), (0 : Int), []) :: (((21 : Int), z524.toInt, tw.toInt, (0 : Int), []) :: gs)) bc [] 0 ((f 68).toNatClampNeg :: []) := RJ.at hR542_ (by show z520.toInt ≤ z553.toInt; omega)
                  show am_E _ _ _ _ [some (.ref 39)] [.int 1] _ _
                  refine am_e12f hi_201_37 (by decide) ?_
                  refine am_e2 (v := 39) hi_201_40 rfl ?_
                  refine am_e0 hi_201_41 ?_
                  refine am_e0 hi_201_43 ?_
                  refine am_e0 hi_201_44 ?_
                  refine am_e0 hi_201_45 ?_
                  refine am_e32n (as := [.ref 39, .int 29, .int 0, .int 0, .int 0]) (la := [some (.ref 39), some (.int 29), some (.int 0), some (.int 0), some (.int 0)]) (rest := []) hi_201_46 (am_hd0 (M := 201) (by decide) 46) (Nat.le_of_ble_eq_true rfl) (Nat.le_of_ble_eq_true rfl) (show 5 ≤ am_P0.2.2.1 179 from by decide +kernel) rfl (am_recv_ok hS556.fs) rfl rfl (ct_pile (d := (d + 5)) hS556 hR568 (mj_e_plain (by decide)) (by show (0 : Int) ≤ z536.toInt; omega) (by show z536.toInt ≤ (65535 : Int); omega)) ?_
                  rintro v569 S570 (⟨z571, g'572, hv573, hS574, hR577, h575, h576⟩)
                  subst hv573
                  have h575_ : z571.toInt = z536.toInt + 1 := h575
                  have h576_ : ∀ j, j ∉ [11, 12, 13, 14] → g'572 j = g'537 j := h576
                  replace hS574 : MS S0 S570 (upd (upd (upd (upd (upd (upd f 4 z553) 5 y554) 10 z571) 15 z0) 20 z509) 68 z498) g'572 := hS574
                  have hR577_ : RJ (upd (upd (upd (upd (upd (upd f 4 z553) 5 y554) 10 z571) 15 z0) 20 z509) 68 z498) g'572 (((29 : Int), (0 : Int), (0 : Int), (0 : Int), []) :: (((28 : Int), (0 : Int), (0 : Int), (0 : Int), []) :: (((21 : Int), z524.toInt, tw.toInt, (0 : Int), []) :: gs))) bc [] 0 ((f 68).toNatClampNeg :: []) := hR577
                  show am_E _ _ _ _ [some (.ref 39)] [] _ _
                  refine am_e2 (v := 39) hi_201_49 rfl ?_
                  refine am_e0 hi_201_50 ?_
                  refine am_e32w (as := [.ref 39, .int 0]) (la := [some (.ref 39), some (.int 0)]) (rest := []) hi_201_51 (am_hd0 (M := 201) (by decide) 51) (Nat.le_of_ble_eq_true rfl) (Nat.le_of_ble_eq_true rfl) (show 2 ≤ am_P0.2.2.1 186 from by decide +kernel) rfl (am_recv_ok hS574.fs) rfl rfl ?_
                  refine am_e2 (v := 39) hi_186_0 rfl ?_
                  refine am_e0 hi_186_1 ?_
                  refine am_e1 (v := 0) hi_186_3 rfl ?_
                  refine am_e0 hi_186_4 ?_
                  refine am_e0 hi_186_5 ?_
                  refine am_e32n (as := [.ref 39, .int 23, .int 0, .int 0, .int 0]) (la := [some (.ref 39), some (.int 23), some (.int 0), some (.int 0), some (.int 0)]) (rest := []) hi_186_6 (am_hd0 (M := 186) (by decide) 6) (Nat.le_of_ble_eq_true rfl) (Nat.le_of_ble_eq_true rfl) (show 5 ≤ am_P0.2.2.1 179 from by decide +kernel) rfl (am_recv_ok hS574.fs) rfl rfl (ct_pile (d := (d + 4)) hS574 hR577_ (mj_e_plain (by decide)) (by show (0 : Int) ≤ z571.toInt; omega) (by show z571.toInt ≤ (65535 : Int); omega)) ?_
                  rintro v578 S579 (⟨z580, g'581, hv582, hS583, hR586, h584, h585⟩)
                  subst hv582
                  have h584_ : z580.toInt = z571.toInt + 1 := h584
                  have h585_ : ∀ j, j ∉ [11, 12, 13, 14] → g'581 j = g'572 j := h585
                  replace hS583 : MS S0 S579 (upd (upd (upd (upd (upd (upd f 4 z553) 5 y554) 10 z580) 15 z0) 20 z509) 68 z498) g'581 := hS583
                  have hR586_ : RJ (upd (upd (upd (upd (upd (upd f 4 z553) 5 y554) 10 z580) 15 z0) 20 z509) 68 z498) g'581 (((23 : Int), (0 : Int), (0 : Int), (0 : Int), []) :: (((29 : Int), (0 : Int), (0 : Int), (0 : Int), []) :: (((28 : Int), (0 : Int), (0 : Int), (0 : Int), []) :: (((21 : Int), z524.toInt, tw.toInt, (0 : Int), []) :: gs)))) bc [] 0 ((f 68).toNatClampNeg :: []) := hR586
                  show am_E _ _ _ _ [some (.ref 39), some (.int 0)] [] _ _
                  refine am_e35 hi_186_9 ?_
                  show am_E _ _ _ _ [some (.ref 39)] [] _ _
                  refine am_e35 hi_201_54 ?_
                  show am_E _ _ _ _ [some (.ref 39), some (.int on), some (.int tw), some (.int (g 16 z0.toNatClampNeg)), some (.int r3), some (.int 1), some (.int (g 18 z0.toNatClampNeg)), none] [] _ _
                  refine am_e18 hi_264_226 ?_
                  refine am_e35 hi_264_244 ?_
                  show am_E _ _ _ _ [some (.ref 39), some (.int 21), some (.int on), some (.int tw), some (.int th)] [] _ _
                  refine am_e18 hi_180_362 ?_
                  refine am_e35 hi_180_371 ?_
                  have q1 : mg_p1 (((23 : Int), (0 : Int), (0 : Int), (0 : Int), []) :: (((29 : Int), (0 : Int), (0 : Int), (0 : Int), []) :: (((28 : Int), (0 : Int), (0 : Int), (0 : Int), []) :: (((21 : Int), z524.toInt, tw.toInt, (0 : Int), []) :: gs)))) = 0 + (0 + (0 + (0 + (mg_p1 gs)))) := rfl
                  have q2 : mg_p2 (((23 : Int), (0 : Int), (0 : Int), (0 : Int), []) :: (((29 : Int), (0 : Int), (0 : Int), (0 : Int), []) :: (((28 : Int), (0 : Int), (0 : Int), (0 : Int), []) :: (((21 : Int), z524.toInt, tw.toInt, (0 : Int), []) :: gs)))) = 0 + (0 + (0 + (0 + (mg_p2 gs)))) := rfl
                  have q3 : mg_p3 (((23 : Int), (0 : Int), (0 : Int), (0 : Int), []) :: (((29 : Int), (0 : Int), (0 : Int), (0 : Int), []) :: (((28 : Int), (0 : Int), (0 : Int), (0 : Int), []) :: (((21 : Int), z524.toInt, tw.toInt, (0 : Int), []) :: gs)))) = 1 + (1 + (1 + (1 + (mg_p3 gs)))) := rfl
                  have q4 : mg_p4 (((23 : Int), (0 : Int), (0 : Int), (0 : Int), []) :: (((29 : Int), (0 : Int), (0 : Int), (0 : Int), []) :: (((28 : Int), (0 : Int), (0 : Int), (0 : Int), []) :: (((21 : Int), z524.toInt, tw.toInt, (0 : Int), []) :: gs)))) = 0 + (0 + (0 + (0 + (mg_p4 gs)))) := rfl
                  refine ⟨_, _, _, bc, rfl, hS583, Or.inl ⟨⟨(RJ.fewer (pj' := []) hR586_ (fun _ h => nomatch h)), ?_, ?_⟩, rfl, ?_⟩⟩
                  · exact (⟨⟨(show mg_k 23 from by decide), (show (0 : Int) ≤ z0.toInt from by omega), (show 0 ≤ z509.toInt from by omega), (show 1 ≤ (f 37).toInt from by omega), (show 0 ≤ (f 32).toInt from by omega), (show (f 32).toInt ≤ y554.toInt from by omega), (show y554.toInt ≤ 48 from by omega), (show (f 37).toInt ≤ 2 * (y554.toInt) + 2 from by omega), (show 0 ≤ (0 : Int) from by omega)⟩, ⟨⟨(show mg_k 29 from by decide), (show (1 : Int) ≤ z0.toInt + 1 from by omega), (show 0 ≤ z509.toInt from by omega), (show 1 ≤ (f 37).toInt + 0 from by omega), (show 0 ≤ (f 32).toInt + 0 from by omega), (show (f 32).toInt + 0 ≤ y554.toInt + 0 from by omega), (show y554.toInt + 0 ≤ 48 from by omega), (show (f 37).toInt + 0 ≤ 2 * (y554.toInt + 0) + 2 from by omega), trivial⟩, ⟨⟨(show mg_k 28 from by decide), (show (1 : Int) ≤ z0.toInt + 1 + 0 from by omega), (show 0 ≤ z509.toInt from by omega), (show 1 ≤ (f 37).toInt + 0 + 0 from by omega), (show 0 ≤ (f 32).toInt + 0 + 0 from by omega), (show (f 32).toInt + 0 + 0 ≤ y554.toInt + 0 + -1 from by omega), (show y554.toInt + 0 + -1 ≤ 48 from by omega), (show (f 37).toInt + 0 + 0 ≤ 2 * (y554.toInt + 0 + -1) + 2 from by omega), trivial⟩, ⟨⟨(show mg_k 21 from by decide), (show (1 : Int) ≤ z0.toInt + 1 + 0 + 0 from by omega), (show 0 ≤ z509.toInt from by omega), (show 1 ≤ (f 37).toInt + 0 + 0 + 0 from by omega), (show 0 ≤ (f 32).toInt + 0 + 0 + 0 from by omega), (show (f 32).toInt + 0 + 0 + 0 ≤ y554.toInt + 0 + -1 + 0 from by omega), (show y554.toInt + 0 + -1 + 0 ≤ 48 from by omega), (show (f 37).toInt + 0 + 0 + 0 ≤ 2 * (y554.toInt + 0 + -1 + 0) + 1 from by omega), ⟨(show 0 ≤ z524.toInt from by omega), (show 0 ≤ tw.toInt from by omega), (show z509.toInt = tw.toInt + z524.toInt from by omega)⟩⟩, mg_cast (mg_good_ext _ _ _ _ _ _ (fun i _ => by show g'581 34 i = g 34 i; rw [show g'581 34 = g'572 34 from h585_ 34 (by decide), show g'572 34 = g'537 34 from h576_ 34 (by decide), show g'537 34 = g'528 34 from h541_ 34 (by decide), show g'528 34 = g'510 34 from h532_ 34 (by decide), show g'510 34 = g'500 34 from h514_ 34 (by decide), show g'500 34 = g 34 from h505_ 34 (by decide)]) (fun i _ => by show g'581 38 i = g 38 i; rw [show g'581 38 = g'572 38 from h585_ 38 (by decide), show g'572 38 = g'537 38 from h576_ 38 (by decide), show g'537 38 = g'528 38 from h541_ 38 (by decide), show g'528 38 = g'510 38 from h532_ 38 (by decide), show g'510 38 = g'500 38 from h514_ 38 (by decide), show g'500 38 = g 38 from h505_ 38 (by decide)]) (fun i hi => by show g'581 23 i = g 23 i; rw [show g'581 23 = g'572 23 from h585_ 23 (by decide), show g'572 23 = g'537 23 from h576_ 23 (by decide), show g'537 23 = g'528 23 from h541_ 23 (by decide), show g'528 23 = g'510 23 from h532_ 23 (by decide), h515_, show g'500 23 = g 23 from h505_ 23 (by decide)]; exact upd_ne (by rw [cl_toNat]; omega)) hrest) (by show (f 15).toInt + -1 = z0.toInt + 1 + 0 + 0 + -1; omega) (by show tw.toInt = tw.toInt; omega) (by show (f 37).toInt + 0 = (f 37).toInt + 0 + 0 + 0 + 0; omega) (by show (f 32).toInt + 0 = (f 32).toInt + 0 + 0 + 0 + 0; omega) (by show (f 5).toInt + 0 = y554.toInt + 0 + -1 + 0 + 0; omega)⟩⟩⟩⟩ : mg_good (g'581 34) (g'581 38) (g'581 23) (((23 : Int), (0 : Int), (0 : Int), (0 : Int), []) :: (((29 : Int), (0 : Int), (0 : Int), (0 : Int), []) :: (((28 : Int), (0 : Int), (0 : Int), (0 : Int), []) :: (((21 : Int), z524.toInt, tw.toInt, (0 : Int), []) :: gs)))) (z0.toInt) (z509.toInt) ((f 37).toInt) ((f 32).toInt) (y554.toInt))
                  · exact ⟨(by show 0 ≤ z553.toInt; omega), (by show z553.toInt ≤ (f 0).toInt; omega), (by show (f 0).toInt ≤ 512; omega), (by show 0 ≤ (f 24).toInt; omega), (by show (f 24).toInt + z509.toInt + mg_p1 (((23 : Int), (0 : Int), (0 : Int), (0 : Int), []) :: (((29 : Int), (0 : Int), (0 : Int), (0 : Int), []) :: (((28 : Int), (0 : Int), (0 : Int), (0 : Int), []) :: (((21 : Int), z524.toInt, tw.toInt, (0 : Int), []) :: gs)))) ≤ 4 * z553.toInt; omega), (by show z509.toInt ≤ z553.toInt; omega), (by show z0.toInt + mg_p2 (((23 : Int), (0 : Int), (0 : Int), (0 : Int), []) :: (((29 : Int), (0 : Int), (0 : Int), (0 : Int), []) :: (((28 : Int), (0 : Int), (0 : Int), (0 : Int), []) :: (((21 : Int), z524.toInt, tw.toInt, (0 : Int), []) :: gs)))) ≤ z553.toInt; omega), (by show mg_p3 (((23 : Int), (0 : Int), (0 : Int), (0 : Int), []) :: (((29 : Int), (0 : Int), (0 : Int), (0 : Int), []) :: (((28 : Int), (0 : Int), (0 : Int), (0 : Int), []) :: (((21 : Int), z524.toInt, tw.toInt, (0 : Int), []) :: gs)))) ≤ 20 * z553.toInt + 20; omega), (by show 0 ≤ z498.toInt; omega), (by show z498.toInt + 3 * z509.toInt + mg_p4 (((23 : Int), (0 : Int), (0 : Int), (0 : Int), []) :: (((29 : Int), (0 : Int), (0 : Int), (0 : Int), []) :: (((28 : Int), (0 : Int), (0 : Int), (0 : Int), []) :: (((21 : Int), z524.toInt, tw.toInt, (0 : Int), []) :: gs)))) ≤ 60 * z553.toInt + 60; omega), (by show 0 ≤ (f 62).toInt; omega), (by show (f 62).toInt + 64 * mj_n (g'581 16) z0.toNatClampNeg 3 ≤ 64 * z553.toInt; rw [show g'581 16 = g'572 16 from h585_ 16 (by decide), show g'572 16 = g'537 16 from h576_ 16 (by decide), show g'537 16 = g'528 16 from h541_ 16 (by decide), show g'528 16 = g'510 16 from h532_ 16 (by decide), show g'510 16 = g'500 16 from h514_ 16 (by decide), show g'500 16 = g 16 from h505_ 16 (by decide)]; omega), (by show 0 ≤ (f 44).toInt; omega), (by show (f 44).toInt ≤ z553.toInt; omega), (by show 0 ≤ (f 48).toInt; omega), (by show (f 48).toInt ≤ z553.toInt; omega), (by show 1 ≤ (f 53).toInt; omega), (by show (f 53).toInt ≤ z553.toInt + 1; omega), (by show 0 ≤ (f 19).toInt; omega), (by show (f 19).toInt ≤ 600; omega), (by show 0 ≤ (f 6).toInt; omega), (by show 0 ≤ (f 8).toInt; omega)⟩
                  · show 100 * ((f 0).toInt - z553.toInt) + mg_p3 (((23 : Int), (0 : Int), (0 : Int), (0 : Int), []) :: (((29 : Int), (0 : Int), (0 : Int), (0 : Int), []) :: (((28 : Int), (0 : Int), (0 : Int), (0 : Int), []) :: (((21 : Int), z524.toInt, tw.toInt, (0 : Int), []) :: gs)))) < 100 * ((f 0).toInt - (f 4).toInt) + (1 + mg_p3 gs); omega
                · subst hv564
                  have h566_ : (0 : Int) ≤ a562.toInt := h566
                  replace hS565 : MS S0 S552 (upd (upd (upd (upd (upd (upd (upd f 4 z520) 6 a562) 7 b563) 10 0) 15 z0) 20 z509) 68 z498) g'537 := hS565
                  have hR587 := rj_clear0 hR542_
                  have hR588 : RJ (upd (upd (upd (upd (upd (upd (upd f 4 z520) 6 a562) 7 b563) 10 0) 15 z0) 20 z509) 68 z498) g'537 [] bc [] 0 [] := hR587
                  show am_E _ _ _ _ [some (.ref 39)] [.int 0] _ _
                  refine am_e12t hi_201_37 (by decide) ?_
                  refine am_e35 hi_201_54 ?_
                  show am_E _ _ _ _ [some (.ref 39), some (.int on), some (.int tw), some (.int (g 16 z0.toNatClampNeg)), some (.int r3), some (.int 1), some (.int (g 18 z0.toNatClampNeg)), none] [] _ _
                  refine am_e18 hi_264_226 ?_
                  refine am_e35 hi_264_244 ?_
                  show am_E _ _ _ _ [some (.ref 39), some (.int 21), some (.int on), some (.int tw), some (.int th)] [] _ _
                  refine am_e18 hi_180_362 ?_
                  refine am_e35 hi_180_371 ?_
                  have hRc := rj_clear0 hR588
                  refine ⟨_, _, [], _, rfl, hS565, Or.inr ⟨hRc, rfl, (by show 0 ≤ z520.toInt; omega), (by show z520.toInt ≤ (f 0).toInt; omega), (by show 0 ≤ (f 32).toInt; omega), (by show (f 32).toInt ≤ 63; omega), (by show 1 ≤ (f 53).toInt; omega), (by show (f 53).toInt ≤ 600; omega), (by show 0 ≤ z498.toInt; omega), (by show z498.toInt ≤ 60000; omega), (by show 0 ≤ (f 48).toInt; omega), (by show (f 48).toInt ≤ 8000; omega), (by show 0 ≤ (f 37).toInt; omega), (by show (f 37).toInt ≤ 128; omega), (by show 0 ≤ (f 62).toInt; omega), (by show (f 62).toInt ≤ 65000; omega), (by show 0 ≤ (f 19).toInt; omega), (by show (f 19).toInt ≤ 600; omega), (by show 0 ≤ a562.toInt; omega), (by show 0 ≤ (f 8).toInt; omega)⟩⟩
              · refine am_e13f hi_201_5 (am_cF (m := r545.toInt) (n := (1 : Int)) rfl (by decide) c550) ?_
                refine am_e2 (v := 39) hi_201_8 rfl ?_
                refine am_e0 hi_201_9 ?_
                refine am_e0 hi_201_10 ?_
                refine am_e2 (v := 39) hi_201_11 rfl ?_
                refine mm_20 (v := .int z520) hS547 hi_201_12 rfl ?_
                refine am_e32n (as := [.ref 39, .int 3, .int 0, .int z520]) (la := [some (.ref 39), some (.int 3), some (.int 0), some (.int z520)]) (rest := []) hi_201_15 (am_hd0 (M := 201) (by decide) 15) (Nat.le_of_ble_eq_true rfl) (Nat.le_of_ble_eq_true rfl) (show 4 ≤ am_P0.2.2.1 190 from by decide +kernel) rfl (am_recv_ok hS547.fs) rfl rfl (ct_value (d := (d + 5)) hS547 hR542_ (fun _ => ⟨by omega, by omega⟩) (fun h => absurd h (by decide)) (by show (0 : Int) ≤ z0.toInt; omega) (by show z0.toInt ≤ (32767 : Int); omega)) ?_
                rintro v589 S590 (⟨z591, g'592, hv593, hS594, hR599, h595, h596, h597, h598⟩)
                subst hv593
                have h595_ : z591.toInt = z0.toInt + 1 := h595
                have h596_ : ∀ j, j ∉ [16, 17, 18] → g'592 j = g'537 j := h596
                have h597_ : mj_n (g'592 16) z591.toNatClampNeg 3 ≤ mj_n (g 16) z0.toNatClampNeg 3 + 1 := by rw [show g'537 16 = g'528 16 from h541_ 16 (by decide), show g'528 16 = g'510 16 from h532_ 16 (by decide), show g'510 16 = g'500 16 from h514_ 16 (by decide), show g'500 16 = g 16 from h505_ 16 (by decide)] at h597; exact h597
                have h598_ : (3 : Int) = 3 ∨ mj_n (g'592 16) z591.toNatClampNeg 3 ≤ mj_n (g 16) z0.toNatClampNeg 3 := by rw [show g'537 16 = g'528 16 from h541_ 16 (by decide), show g'528 16 = g'510 16 from h532_ 16 (by decide), show g'510 16 = g'500 16 from h514_ 16 (by decide), show g'500 16 = g 16 from h505_ 16 (by decide)] at h598; exact h598
                replace hS594 : MS S0 S590 (upd (upd (upd (upd (upd f 4 z520) 10 z536) 15 z591) 20 z509) 68 z498) g'592 := hS594
                have hR599_ : RJ (upd (upd (upd (upd (upd f 4 z520) 10 z536) 15 z591) 20 z509) 68 z498) g'592 (((28 : Int), (0 : Int), (0 : Int), (0 : Int), []) :: (((21 : Int), z524.toInt, tw.toInt, (0 : Int), []) :: gs)) bc [] 0 ((f 68).toNatClampNeg :: []) := hR599
                show am_E _ _ _ _ [some (.ref 39)] [] _ _
                refine am_e2 (v := 39) hi_201_18 rfl ?_
                refine am_e7 hi_201_19 ?_
                refine mm_20 (v := .int z520) hS594 hi_201_20 rfl ?_
                refine am_e0 hi_201_23 ?_
                obtain ⟨z600, hz600, tz600⟩ := am_addI (x := z520) (y := 1) (m := z520.toInt) (n := (1 : Int)) rfl (by decide) (by omega) (by omega)
                refine am_e10 (z := z600) hi_201_24 hz600 ?_
                refine mm_21 (v := z600) hS594 hi_201_25 rfl (Nat.le_of_ble_eq_true rfl) ms_4 ?_
                intro S601 hS602
                replace hS602 : MS S0 S601 (upd (upd (upd (upd (upd f 4 z600) 10 z536) 15 z591) 20 z509) 68 z498) g'592 := hS602
                have hR603 : RJ (upd (upd (upd (upd (upd f 4 z600) 10 z536) 15 z591) 20 z509) 68 z498) g'592 (((28 : Int), (0 : Int), (0 : Int), (0 : Int), []) :: (((21 : Int), z524.toInt, tw.toInt, (0 : Int), []) :: gs)) bc [] 0 ((f 68).toNatClampNeg :: []) := RJ.at hR599_ (by show z520.toInt ≤ z600.toInt; omega)
                refine am_e18 hi_201_28 ?_
                refine am_e35 hi_201_54 ?_
                show am_E _ _ _ _ [some (.ref 39), some (.int on), some (.int tw), some (.int (g 16 z0.toNatClampNeg)), some (.int r3), some (.int 1), some (.int (g 18 z0.toNatClampNeg)), none] [] _ _
                refine am_e18 hi_264_226 ?_
                refine am_e35 hi_264_244 ?_
                show am_E _ _ _ _ [some (.ref 39), some (.int 21), some (.int on), some (.int tw), some (.int th)] [] _ _
                refine am_e18 hi_180_362 ?_
                refine am_e35 hi_180_371 ?_
                have q1 : mg_p1 (((28 : Int), (0 : Int), (0 : Int), (0 : Int), []) :: (((21 : Int), z524.toInt, tw.toInt, (0 : Int), []) :: gs)) = 0 + (0 + (mg_p1 gs)) := rfl
                have q2 : mg_p2 (((28 : Int), (0 : Int), (0 : Int), (0 : Int), []) :: (((21 : Int), z524.toInt, tw.toInt, (0 : Int), []) :: gs)) = 0 + (0 + (mg_p2 gs)) := rfl
                have q3 : mg_p3 (((28 : Int), (0 : Int), (0 : Int), (0 : Int), []) :: (((21 : Int), z524.toInt, tw.toInt, (0 : Int), []) :: gs)) = 1 + (1 + (mg_p3 gs)) := rfl
                have q4 : mg_p4 (((28 : Int), (0 : Int), (0 : Int), (0 : Int), []) :: (((21 : Int), z524.toInt, tw.toInt, (0 : Int), []) :: gs)) = 0 + (0 + (mg_p4 gs)) := rfl
                refine ⟨_, _, _, bc, rfl, hS602, Or.inl ⟨⟨(RJ.fewer (pj' := []) hR603 (fun _ h => nomatch h)), ?_, ?_⟩, rfl, ?_⟩⟩
                · exact (⟨⟨(show mg_k 28 from by decide), (show (1 : Int) ≤ z591.toInt from by omega), (show 0 ≤ z509.toInt from by omega), (show 1 ≤ (f 37).toInt from by omega), (show 0 ≤ (f 32).toInt from by omega), (show (f 32).toInt ≤ (f 5).toInt from by omega), (show (f 5).toInt ≤ 48 from by omega), (show (f 37).toInt ≤ 2 * ((f 5).toInt) + 2 from by omega), trivial⟩, ⟨⟨(show mg_k 21 from by decide), (show (1 : Int) ≤ z591.toInt + 0 from by omega), (show 0 ≤ z509.toInt from by omega), (show 1 ≤ (f 37).toInt + 0 from by omega), (show 0 ≤ (f 32).toInt + 0 from by omega), (show (f 32).toInt + 0 ≤ (f 5).toInt + 0 from by omega), (show (f 5).toInt + 0 ≤ 48 from by omega), (show (f 37).toInt + 0 ≤ 2 * ((f 5).toInt + 0) + 1 from by omega), ⟨(show 0 ≤ z524.toInt from by omega), (show 0 ≤ tw.toInt from by omega), (show z509.toInt = tw.toInt + z524.toInt from by omega)⟩⟩, mg_cast (mg_good_ext _ _ _ _ _ _ (fun i _ => by show g'592 34 i = g 34 i; rw [show g'592 34 = g'537 34 from h596_ 34 (by decide), show g'537 34 = g'528 34 from h541_ 34 (by decide), show g'528 34 = g'510 34 from h532_ 34 (by decide), show g'510 34 = g'500 34 from h514_ 34 (by decide), show g'500 34 = g 34 from h505_ 34 (by decide)]) (fun i _ => by show g'592 38 i = g 38 i; rw [show g'592 38 = g'537 38 from h596_ 38 (by decide), show g'537 38 = g'528 38 from h541_ 38 (by decide), show g'528 38 = g'510 38 from h532_ 38 (by decide), show g'510 38 = g'500 38 from h514_ 38 (by decide), show g'500 38 = g 38 from h505_ 38 (by decide)]) (fun i hi => by show g'592 23 i = g 23 i; rw [show g'592 23 = g'537 23 from h596_ 23 (by decide), show g'537 23 = g'528 23 from h541_ 23 (by decide), show g'528 23 = g'510 23 from h532_ 23 (by decide), h515_, show g'500 23 = g 23 from h505_ 23 (by decide)]; exact upd_ne (by rw [cl_toNat]; omega)) hrest) (by show (f 15).toInt + -1 = z591.toInt + 0 + -1; omega) (by show tw.toInt = tw.toInt; omega) (by show (f 37).toInt + 0 = (f 37).toInt + 0 + 0; omega) (by show (f 32).toInt + 0 = (f 32).toInt + 0 + 0; omega) (by show (f 5).toInt + 0 = (f 5).toInt + 0 + 0; omega)⟩⟩ : mg_good (g'592 34) (g'592 38) (g'592 23) (((28 : Int), (0 : Int), (0 : Int), (0 : Int), []) :: (((21 : Int), z524.toInt, tw.toInt, (0 : Int), []) :: gs)) (z591.toInt) (z509.toInt) ((f 37).toInt) ((f 32).toInt) ((f 5).toInt))
                · exact ⟨(by show 0 ≤ z600.toInt; omega), (by show z600.toInt ≤ (f 0).toInt; omega), (by show (f 0).toInt ≤ 512; omega), (by show 0 ≤ (f 24).toInt; omega), (by show (f 24).toInt + z509.toInt + mg_p1 (((28 : Int), (0 : Int), (0 : Int), (0 : Int), []) :: (((21 : Int), z524.toInt, tw.toInt, (0 : Int), []) :: gs)) ≤ 4 * z600.toInt; omega), (by show z509.toInt ≤ z600.toInt; omega), (by show z591.toInt + mg_p2 (((28 : Int), (0 : Int), (0 : Int), (0 : Int), []) :: (((21 : Int), z524.toInt, tw.toInt, (0 : Int), []) :: gs)) ≤ z600.toInt; omega), (by show mg_p3 (((28 : Int), (0 : Int), (0 : Int), (0 : Int), []) :: (((21 : Int), z524.toInt, tw.toInt, (0 : Int), []) :: gs)) ≤ 20 * z600.toInt + 20; omega), (by show 0 ≤ z498.toInt; omega), (by show z498.toInt + 3 * z509.toInt + mg_p4 (((28 : Int), (0 : Int), (0 : Int), (0 : Int), []) :: (((21 : Int), z524.toInt, tw.toInt, (0 : Int), []) :: gs)) ≤ 60 * z600.toInt + 60; omega), (by show 0 ≤ (f 62).toInt; omega), (by show (f 62).toInt + 64 * mj_n (g'592 16) z591.toNatClampNeg 3 ≤ 64 * z600.toInt; omega), (by show 0 ≤ (f 44).toInt; omega), (by show (f 44).toInt ≤ z600.toInt; omega), (by show 0 ≤ (f 48).toInt; omega), (by show (f 48).toInt ≤ z600.toInt; omega), (by show 1 ≤ (f 53).toInt; omega), (by show (f 53).toInt ≤ z600.toInt + 1; omega), (by show 0 ≤ (f 19).toInt; omega), (by show (f 19).toInt ≤ 600; omega), (by show 0 ≤ (f 6).toInt; omega), (by show 0 ≤ (f 8).toInt; omega)⟩
                · show 100 * ((f 0).toInt - z600.toInt) + mg_p3 (((28 : Int), (0 : Int), (0 : Int), (0 : Int), []) :: (((21 : Int), z524.toInt, tw.toInt, (0 : Int), []) :: gs)) < 100 * ((f 0).toInt - (f 4).toInt) + (1 + mg_p3 gs); omega
          · refine am_e13f hi_264_117 (am_cF (m := (g 16 z0.toNatClampNeg).toInt) (n := (3 : Int)) rfl (by decide) c396) ?_
            refine am_e2 (v := 39) hi_264_120 rfl ?_
            refine am_e1 (v := g 18 z0.toNatClampNeg) hi_264_121 rfl ?_
            refine am_e32w (as := [.ref 39, .int (g 18 z0.toNatClampNeg)]) (la := [some (.ref 39), some (.int (g 18 z0.toNatClampNeg)), none]) (rest := []) hi_264_123 (am_hd0 (M := 264) (by decide) 123) (Nat.le_of_ble_eq_true rfl) (Nat.le_of_ble_eq_true rfl) (show 2 ≤ am_P0.2.2.1 237 from by decide +kernel) rfl (am_recv_ok hS5.fs) rfl rfl ?_
            refine am_e2 (v := 39) hi_237_0 rfl ?_
            refine am_e2 (v := 39) hi_237_1 rfl ?_
            refine mm_20 (v := .ref 41) hS5 hi_237_2 rfl ?_
            refine am_e1 (v := g 18 z0.toNatClampNeg) hi_237_5 rfl ?_
            refine mm_25 hS5 ma_2 hi_237_6 (by decide) (by omega) (by omega) ?_
            show am_E _ _ _ _ [some (.ref 39), some (.int (g 18 z0.toNatClampNeg)), none] [.int (g 2 (g 18 z0.toNatClampNeg).toNatClampNeg), .ref 39] _ _
            refine am_e32n (as := [.ref 39, .int (g 2 (g 18 z0.toNatClampNeg).toNatClampNeg)]) (la := [some (.ref 39), some (.int (g 2 (g 18 z0.toNatClampNeg).toNatClampNeg)), none]) (rest := []) hi_237_7 (am_hd0 (M := 237) (by decide) 7) (Nat.le_of_ble_eq_true rfl) (Nat.le_of_ble_eq_true rfl) (show 2 ≤ am_P0.2.2.1 206 from by decide +kernel) rfl (am_recv_ok hS5.fs) rfl rfl (ct_find (d := (d + 5)) hS5   (by show (0 : Int) ≤ (f 24).toInt; omega) (by show (f 24).toInt ≤ (16384 : Int); omega)) ?_
            rintro v604 S605 (⟨r606, hv607, hS608, h609, h610⟩)
            subst hv607
            have h609_ : (-1 : Int) ≤ r606.toInt := h609
            have h610_ : r606.toInt < (f 24).toInt := h610
            show am_E _ _ _ _ [some (.ref 39), some (.int (g 18 z0.toNatClampNeg)), none] [.int r606] _ _
            refine am_e3 (ls' := [some (.ref 39), some (.int (g 18 z0.toNatClampNeg)), some (.int r606)]) hi_237_10 (Nat.le_of_ble_eq_true rfl) rfl ?_
            refine am_e1 (v := r606) hi_237_11 rfl ?_
            by_cases c612 : r606.toInt < (0 : Int)
            · refine am_e12t hi_237_12 (am_cT (m := r606.toInt) (n := (0 : Int)) rfl (by decide) c612) ?_
              refine am_e2 (v := 39) hi_237_31 rfl ?_
              refine am_e1 (v := g 18 z0.toNatClampNeg) hi_237_32 rfl ?_
              refine am_e32n (as := [.ref 39, .int (g 18 z0.toNatClampNeg)]) (la := [some (.ref 39), some (.int (g 18 z0.toNatClampNeg)), none, none, none]) (rest := []) hi_237_33 (am_hd0 (M := 237) (by decide) 33) (Nat.le_of_ble_eq_true rfl) (Nat.le_of_ble_eq_true rfl) (show 2 ≤ am_P0.2.2.1 205 from by decide +kernel) rfl (am_recv_ok hS608.fs) rfl rfl (ct_resolve (d := (d + 4)) hS608 hR  (by show (0 : Int) ≤ (f 32).toInt; omega) (by show (f 32).toInt ≤ (63 : Int); omega) (by show (f 53).toInt ≤ (4096 : Int); omega) (by show (0 : Int) ≤ (f 24).toInt; omega) (by show (f 24).toInt ≤ (16384 : Int); omega) (by show (0 : Int) ≤ (f 62).toInt; omega) (by show (f 62).toInt ≤ (65000 : Int); omega) (by show (0 : Int) ≤ (g 18 z0.toNatClampNeg).toInt; omega) (by show (g 18 z0.toNatClampNeg).toInt ≤ (16383 : Int); omega)) ?_
              rintro v613 S614 (⟨o615, m616, g'617, r618, hv619, hS620, hR626, h621, h622, h623, h624, h625⟩)
              subst hv619
              have h621_ : (f 62).toInt ≤ o615.toInt := h621
              have h622_ : o615.toInt ≤ (f 62).toInt + 64 := h622
              have h623_ : (0 : Int) ≤ r618.toInt := h623
              have h624_ : r618.toInt ≤ (2 : Int) := h624
              have h625_ : ∀ j, j ∉ [63, 64, 65, 66, 67] → g'617 j = g j := h625
              have hR626_ : RJ (upd (upd f 62 o615) 75 m616) g'617 gs bc [] 0 [] := hR626
              show am_E _ _ _ _ [some (.ref 39), some (.int (g 18 z0.toNatClampNeg)), some (.int r606)] [.int r618] _ _
              refine am_e33 hi_237_36 ?_
              show am_E _ _ _ _ [some (.ref 39), some (.int on), some (.int tw), some (.int (g 16 z0.toNatClampNeg)), some (.int r3), some (.int 1), some (.int (g 18 z0.toNatClampNeg)), none] [.int r618] _ _
              refine am_e3 (ls' := [some (.ref 39), some (.int on), some (.int tw), some (.int (g 16 z0.toNatClampNeg)), some (.int r3), some (.int 1), some (.int (g 18 z0.toNatClampNeg)), some (.int r618)]) hi_264_126 (Nat.le_of_ble_eq_true rfl) rfl ?_
              refine am_e2 (v := 39) hi_264_128 rfl ?_
              refine am_e1 (v := r618) hi_264_129 rfl ?_
              refine am_e2 (v := 39) hi_264_131 rfl ?_
              refine mm_20 (v := .int m616) hS620 hi_264_132 rfl ?_
              refine am_e1 (v := g 18 z0.toNatClampNeg) hi_264_135 rfl ?_
              refine am_e32n (as := [.ref 39, .int r618, .int m616, .int (g 18 z0.toNatClampNeg)]) (la := [some (.ref 39), some (.int r618), some (.int m616), some (.int (g 18 z0.toNatClampNeg))]) (rest := []) hi_264_137 (am_hd0 (M := 264) (by decide) 137) (Nat.le_of_ble_eq_true rfl) (Nat.le_of_ble_eq_true rfl) (show 4 ≤ am_P0.2.2.1 239 from by decide +kernel) rfl (am_recv_ok hS620.fs) rfl rfl (ct_keep2 (d := (d + 6)) hS620 hR626_  (by show (0 : Int) ≤ (f 20).toInt; omega) (by show (f 20).toInt ≤ (16383 : Int); omega)) ?_
              rintro v627 S628 (⟨z629, g'630, hv631, hS632, hR636, h633, h634, h635⟩)
              subst hv631
              have h633_ : z629.toInt = (f 20).toInt + 1 := h633
              have h634_ : ∀ j, j ∉ [21, 22, 23] → g'630 j = g'617 j := h634
              have h635_ : g'630 23 = upd (g'617 23) (f 20).toNatClampNeg (g 18 z0.toNatClampNeg) := h635
              replace hS632 : MS S0 S628 (upd (upd (upd f 20 z629) 62 o615) 75 m616) g'630 := hS632
              have hR636_ : RJ (upd (upd (upd f 20 z629) 62 o615) 75 m616) g'630 gs bc [] 0 [] := hR636
              show am_E _ _ _ _ [some (.ref 39), some (.int on), some (.int tw), some (.int (g 16 z0.toNatClampNeg)), some (.int r3), some (.int 1), some (.int (g 18 z0.toNatClampNeg)), some (.int r618)] [] _ _
              refine am_e18 hi_264_140 ?_
              refine am_e2 (v := 39) hi_264_175 rfl ?_
              refine am_e7 hi_264_176 ?_
              refine mm_20 (v := .int (f 15)) hS632 hi_264_177 rfl ?_
              refine am_e0 hi_264_180 ?_
              refine am_e10 (z := z0) hi_264_181 hz0 ?_
              refine mm_21 (v := z0) hS632 hi_264_182 rfl (Nat.le_of_ble_eq_true rfl) ms_15 ?_
              intro S637 hS638
              replace hS638 : MS S0 S637 (upd (upd (upd (upd f 15 z0) 20 z629) 62 o615) 75 m616) g'630 := hS638
              have hp639 : mj_n (g 16) (f 15).toNatClampNeg 3 = mj_n (g 16) z0.toNatClampNeg 3 + if (g 16 z0.toNatClampNeg).toInt = 3 then 1 else 0 := mj_pop (by rw [cl_toNat, cl_toNat]; omega)
              have hp6391 : mj_n (g 16) z0.toNatClampNeg 3 ≤ mj_n (g 16) (f 15).toNatClampNeg 3 := by rw [hp639]; split <;> omega
              have hp6392 : (g 16 z0.toNatClampNeg).toInt = 3 → mj_n (g 16) z0.toNatClampNeg 3 + 1 ≤ mj_n (g 16) (f 15).toNatClampNeg 3 := fun q => by rw [hp639, if_pos q]; exact Int.le_refl _
              refine am_e2 (v := 39) hi_264_185 rfl ?_
              refine am_e7 hi_264_186 ?_
              refine mm_20 (v := .int (f 4)) hS638 hi_264_187 rfl ?_
              refine am_e0 hi_264_190 ?_
              obtain ⟨z640, hz640, tz640⟩ := am_addI (x := f 4) (y := 1) (m := (f 4).toInt) (n := (1 : Int)) rfl (by decide) (by omega) (by omega)
              refine am_e10 (z := z640) hi_264_191 hz640 ?_
              refine mm_21 (v := z640) hS638 hi_264_192 rfl (Nat.le_of_ble_eq_true rfl) ms_4 ?_
              intro S641 hS642
              replace hS642 : MS S0 S641 (upd (upd (upd (upd (upd f 4 z640) 15 z0) 20 z629) 62 o615) 75 m616) g'630 := hS642
              have hR643 : RJ (upd (upd (upd (upd (upd f 4 z640) 15 z0) 20 z629) 62 o615) 75 m616) g'630 gs bc [] 0 [] := RJ.at hR636_ (by show (f 4).toInt ≤ z640.toInt; omega)
              refine am_e1 (v := r3) hi_264_195 rfl ?_
              refine am_e0 hi_264_197 ?_
              refine am_e13f hi_264_199 (am_cF (m := r3.toInt) (n := (69 : Int)) rfl (by decide) (by simp only [am_cI]; omega)) ?_
              refine am_e2 (v := 39) hi_264_202 rfl ?_
              refine am_e0 hi_264_203 ?_
              refine am_e1 (v := on) hi_264_205 rfl ?_
              refine am_e0 hi_264_206 ?_
              obtain ⟨z644, hz644, tz644⟩ := am_addI (x := on) (y := 1) (m := on.toInt) (n := (1 : Int)) rfl (by decide) (by omega) (by omega)
              refine am_e10 (z := z644) hi_264_207 hz644 ?_
              refine am_e1 (v := tw) hi_264_208 rfl ?_
              refine am_e0 hi_264_209 ?_
              refine am_e32n (as := [.ref 39, .int 21, .int z644, .int tw, .int 0]) (la := [some (.ref 39), some (.int 21), some (.int z644), some (.int tw), some (.int 0)]) (rest := []) hi_264_210 (am_hd0 (M := 264) (by decide) 210) (Nat.le_of_ble_eq_true rfl) (Nat.le_of_ble_eq_true rfl) (show 5 ≤ am_P0.2.2.1 179 from by decide +kernel) rfl (am_recv_ok hS642.fs) rfl rfl (ct_pile (d := (d + 6)) hS642 hR643 (mj_e_plain (by decide)) (by show (0 : Int) ≤ (f 10).toInt; omega) (by show (f 10).toInt ≤ (65535 : Int); omega)) ?_
              rintro v645 S646 (⟨z647, g'648, hv649, hS650, hR653, h651, h652⟩)
              subst hv649
              have h651_ : z647.toInt = (f 10).toInt + 1 := h651
              have h652_ : ∀ j, j ∉ [11, 12, 13, 14] → g'648 j = g'630 j := h652
              replace hS650 : MS S0 S646 (upd (upd (upd (upd (upd (upd f 4 z640) 10 z647) 15 z0) 20 z629) 62 o615) 75 m616) g'648 := hS650
              have hR653_ : RJ (upd (upd (upd (upd (upd (upd f 4 z640) 10 z647) 15 z0) 20 z629) 62 o615) 75 m616) g'648 (((21 : Int), z644.toInt, tw.toInt, (0 : Int), []) :: gs) bc [] 0 [] := hR653
              show am_E _ _ _ _ [some (.ref 39), some (.int on), some (.int tw), some (.int (g 16 z0.toNatClampNeg)), some (.int r3), some (.int 1), some (.int (g 18 z0.toNatClampNeg)), some (.int r618)] [] _ _
              refine am_e2 (v := 39) hi_264_213 rfl ?_
              refine am_e0 hi_264_214 ?_
              refine am_e0 hi_264_216 ?_
              refine am_e0 hi_264_217 ?_
              refine am_e0 hi_264_218 ?_
              refine am_e32n (as := [.ref 39, .int 28, .int 0, .int 0, .int 0]) (la := [some (.ref 39), some (.int 28), some (.int 0), some (.int 0), some (.int 0)]) (rest := []) hi_264_219 (am_hd0 (M := 264) (by decide) 219) (Nat.le_of_ble_eq_true rfl) (Nat.le_of_ble_eq_true rfl) (show 5 ≤ am_P0.2.2.1 179 from by decide +kernel) rfl (am_recv_ok hS650.fs) rfl rfl (ct_pile (d := (d + 6)) hS650 hR653_ (mj_e_plain (by decide)) (by show (0 : Int) ≤ z647.toInt; omega) (by show z647.toInt ≤ (65535 : Int); omega)) ?_
              rintro v654 S655 (⟨z656, g'657, hv658, hS659, hR662, h660, h661⟩)
              subst hv658
              have h660_ : z656.toInt = z647.toInt + 1 := h660
              have h661_ : ∀ j, j ∉ [11, 12, 13, 14] → g'657 j = g'648 j := h661
              replace hS659 : MS S0 S655 (upd (upd (upd (upd (upd (upd f 4 z640) 10 z656) 15 z0) 20 z629) 62 o615) 75 m616) g'657 := hS659
              have hR662_ : RJ (upd (upd (upd (upd (upd (upd f 4 z640) 10 z656) 15 z0) 20 z629) 62 o615) 75 m616) g'657 (((28 : Int), (0 : Int), (0 : Int), (0 : Int), []) :: (((21 : Int), z644.toInt, tw.toInt, (0 : Int), []) :: gs)) bc [] 0 [] := hR662
              show am_E _ _ _ _ [some (.ref 39), some (.int on), some (.int tw), some (.int (g 16 z0.toNatClampNeg)), some (.int r3), some (.int 1), some (.int (g 18 z0.toNatClampNeg)), some (.int r618)] [] _ _
              refine am_e2 (v := 39) hi_264_222 rfl ?_
              refine am_e32w (as := [.ref 39]) (la := [some (.ref 39)]) (rest := []) hi_264_223 (am_hd0 (M := 264) (by decide) 223) (Nat.le_of_ble_eq_true rfl) (Nat.le_of_ble_eq_true rfl) (show 1 ≤ am_P0.2.2.1 201 from by decide +kernel) rfl (am_recv_ok hS659.fs) rfl rfl ?_
              refine am_e2 (v := 39) hi_201_0 rfl ?_
              refine am_e32n (as := [.ref 39]) (la := [some (.ref 39)]) (rest := []) hi_201_1 (am_hd0 (M := 201) (by decide) 1) (Nat.le_of_ble_eq_true rfl) (Nat.le_of_ble_eq_true rfl) (show 1 ≤ am_P0.2.2.1 183 from by decide +kernel) rfl (am_recv_ok hS659.fs) rfl rfl (ct_next (d := (d + 4)) hS659   (by show (0 : Int) ≤ z640.toInt; omega) (by show (f 0).toInt ≤ (16384 : Int); omega)) ?_
              rintro v663 S664 (⟨r665, hv666, hS667, h668⟩)
              subst hv666
              have h668_ : z640.toInt < (f 0).toInt ∨ r665.toInt = (-1 : Int) := h668
              show am_E _ _ _ _ [some (.ref 39)] [.int r665] _ _
              refine am_e0 hi_201_4 ?_
              by_cases c670 : ¬ r665.toInt = (1 : Int)
              · refine am_e13t hi_201_5 (am_cT (m := r665.toInt) (n := (1 : Int)) rfl (by decide) c670) ?_
                refine am_e2 (v := 39) hi_201_31 rfl ?_
                refine am_e0 hi_201_32 ?_
                refine am_e32n (as := [.ref 39, .int 60]) (la := [some (.ref 39), some (.int 60)]) (rest := []) hi_201_34 (am_hd0 (M := 201) (by decide) 34) (Nat.le_of_ble_eq_true rfl) (Nat.le_of_ble_eq_true rfl) (show 2 ≤ am_P0.2.2.1 193 from by decide +kernel) rfl (am_recv_ok hS667.fs) rfl rfl (ct_enter (d := (d + 3)) hS667   (by show (0 : Int) ≤ z640.toInt; omega) (by show (f 0).toInt ≤ (16384 : Int); omega) (by show (0 : Int) ≤ (60 : Int); omega) (by show (0 : Int) ≤ (f 5).toInt; omega) (by show (f 5).toInt ≤ (48 : Int); omega) (by show (0 : Int) ≤ (f 6).toInt; omega)) ?_
                rintro v671 S672 (⟨z673, y674, hv675, hS676, h677, h678, h679, h680⟩ | ⟨a682, b683, hv684, hS685, h686⟩)
                · subst hv675
                  have h677_ : z673.toInt = z640.toInt + 1 := h677
                  have h678_ : z640.toInt < (f 0).toInt := h678
                  have h679_ : y674.toInt = (f 5).toInt + 1 := h679
                  have h680_ : y674.toInt ≤ (48 : Int) := h680
                  replace hS676 : MS S0 S672 (upd (upd (upd (upd (upd (upd (upd f 4 z673) 5 y674) 10 z656) 15 z0) 20 z629) 62 o615) 75 m616) g'657 := hS676
                  have hR688 : RJ (upd (upd (upd (upd (upd (upd (upd f 4 z673) 5 y674) 10 z656) 15 z0) 20 z629) 62 o615) 75 m616) g'657 (((28 : Int), (0 : Int), (0 : Int), (0 : Int), []) :: (((21 : Int), z644.toInt, tw.toInt, (0 : Int), []) :: gs)) bc [] 0 [] := RJ.at hR662_ (by show z640.toInt ≤ z673.toInt; omega)
                  show am_E _ _ _ _ [some (.ref 39)] [.int 1] _ _
                  refine am_e12f hi_201_37 (by decide) ?_
                  refine am_e2 (v := 39) hi_201_40 rfl ?_
                  refine am_e0 hi_201_41 ?_
                  refine am_e0 hi_201_43 ?_
                  refine am_e0 hi_201_44 ?_
                  refine am_e0 hi_201_45 ?_
                  refine am_e32n (as := [.ref 39, .int 29, .int 0, .int 0, .int 0]) (la := [some (.ref 39), some (.int 29), some (.int 0), some (.int 0), some (.int 0)]) (rest := []) hi_201_46 (am_hd0 (M := 201) (by decide) 46) (Nat.le_of_ble_eq_true rfl) (Nat.le_of_ble_eq_true rfl) (show 5 ≤ am_P0.2.2.1 179 from by decide +kernel) rfl (am_recv_ok hS676.fs) rfl rfl (ct_pile (d := (d + 5)) hS676 hR688 (mj_e_plain (by decide)) (by show (0 : Int) ≤ z656.toInt; omega) (by show z656.toInt ≤ (65535 : Int); omega)) ?_
                  rintro v689 S690 (⟨z691, g'692, hv693, hS694, hR697, h695, h696⟩)
                  subst hv693
                  have h695_ : z691.toInt = z656.toInt + 1 := h695
                  have h696_ : ∀ j, j ∉ [11, 12, 13, 14] → g'692 j = g'657 j := h696
                  replace hS694 : MS S0 S690 (upd (upd (upd (upd (upd (upd (upd f 4 z673) 5 y674) 10 z691) 15 z0) 20 z629) 62 o615) 75 m616) g'692 := hS694
                  have hR697_ : RJ (upd (upd (upd (upd (upd (upd (upd f 4 z673) 5 y674) 10 z691) 15 z0) 20 z629) 62 o615) 75 m616) g'692 (((29 : Int), (0 : Int), (0 : Int), (0 : Int), []) :: (((28 : Int), (0 : Int), (0 : Int), (0 : Int), []) :: (((21 : Int), z644.toInt, tw.toInt, (0 : Int), []) :: gs))) bc [] 0 [] := hR697
                  show am_E _ _ _ _ [some (.ref 39)] [] _ _
                  refine am_e2 (v := 39) hi_201_49 rfl ?_
                  refine am_e0 hi_201_50 ?_
                  refine am_e32w (as := [.ref 39, .int 0]) (la := [some (.ref 39), some (.int 0)]) (rest := []) hi_201_51 (am_hd0 (M := 201) (by decide) 51) (Nat.le_of_ble_eq_true rfl) (Nat.le_of_ble_eq_true rfl) (show 2 ≤ am_P0.2.2.1 186 from by decide +kernel) rfl (am_recv_ok hS694.fs) rfl rfl ?_
                  refine am_e2 (v := 39) hi_186_0 rfl ?_
                  refine am_e0 hi_186_1 ?_
                  refine am_e1 (v := 0) hi_186_3 rfl ?_
                  refine am_e0 hi_186_4 ?_
                  refine am_e0 hi_186_5 ?_
                  refine am_e32n (as := [.ref 39, .int 23, .int 0, .int 0, .int 0]) (la := [some (.ref 39), some (.int 23), some (.int 0), some (.int 0), some (.int 0)]) (rest := []) hi_186_6 (am_hd0 (M := 186) (by decide) 6) (Nat.le_of_ble_eq_true rfl) (Nat.le_of_ble_eq_true rfl) (show 5 ≤ am_P0.2.2.1 179 from by decide +kernel) rfl (am_recv_ok hS694.fs) rfl rfl (ct_pile (d := (d + 4)) hS694 hR697_ (mj_e_plain (by decide)) (by show (0 : Int) ≤ z691.toInt; omega) (by show z691.toInt ≤ (65535 : Int); omega)) ?_
                  rintro v698 S699 (⟨z700, g'701, hv702, hS703, hR706, h704, h705⟩)
                  subst hv702
                  have h704_ : z700.toInt = z691.toInt + 1 := h704
                  have h705_ : ∀ j, j ∉ [11, 12, 13, 14] → g'701 j = g'692 j := h705
                  replace hS703 : MS S0 S699 (upd (upd (upd (upd (upd (upd (upd f 4 z673) 5 y674) 10 z700) 15 z0) 20 z629) 62 o615) 75 m616) g'701 := hS703
                  have hR706_ : RJ (upd (upd (upd (upd (upd (upd (upd f 4 z673) 5 y674) 10 z700) 15 z0) 20 z629) 62 o615) 75 m616) g'701 (((23 : Int), (0 : Int), (0 : Int), (0 : Int), []) :: (((29 : Int), (0 : Int), (0 : Int), (0 : Int), []) :: (((28 : Int), (0 : Int), (0 : Int), (0 : Int), []) :: (((21 : Int), z644.toInt, tw.toInt, (0 : Int), []) :: gs)))) bc [] 0 [] := hR706
                  show am_E _ _ _ _ [some (.ref 39), some (.int 0)] [] _ _
                  refine am_e35 hi_186_9 ?_
                  show am_E _ _ _ _ [some (.ref 39)] [] _ _
                  refine am_e35 hi_201_54 ?_
                  show am_E _ _ _ _ [some (.ref 39), some (.int on), some (.int tw), some (.int (g 16 z0.toNatClampNeg)), some (.int r3), some (.int 1), some (.int (g 18 z0.toNatClampNeg)), some (.int r618)] [] _ _
                  refine am_e18 hi_264_226 ?_
                  refine am_e35 hi_264_244 ?_
                  show am_E _ _ _ _ [some (.ref 39), some (.int 21), some (.int on), some (.int tw), some (.int th)] [] _ _
                  refine am_e18 hi_180_362 ?_
                  refine am_e35 hi_180_371 ?_
                  have q1 : mg_p1 (((23 : Int), (0 : Int), (0 : Int), (0 : Int), []) :: (((29 : Int), (0 : Int), (0 : Int), (0 : Int), []) :: (((28 : Int), (0 : Int), (0 : Int), (0 : Int), []) :: (((21 : Int), z644.toInt, tw.toInt, (0 : Int), []) :: gs)))) = 0 + (0 + (0 + (0 + (mg_p1 gs)))) := rfl
                  have q2 : mg_p2 (((23 : Int), (0 : Int), (0 : Int), (0 : Int), []) :: (((29 : Int), (0 : Int), (0 : Int), (0 : Int), []) :: (((28 : Int), (0 : Int), (0 : Int), (0 : Int), []) :: (((21 : Int), z644.toInt, tw.toInt, (0 : Int), []) :: gs)))) = 0 + (0 + (0 + (0 + (mg_p2 gs)))) := rfl
                  have q3 : mg_p3 (((23 : Int), (0 : Int), (0 : Int), (0 : Int), []) :: (((29 : Int), (0 : Int), (0 : Int), (0 : Int), []) :: (((28 : Int), (0 : Int), (0 : Int), (0 : Int), []) :: (((21 : Int), z644.toInt, tw.toInt, (0 : Int), []) :: gs)))) = 1 + (1 + (1 + (1 + (mg_p3 gs)))) := rfl
                  have q4 : mg_p4 (((23 : Int), (0 : Int), (0 : Int), (0 : Int), []) :: (((29 : Int), (0 : Int), (0 : Int), (0 : Int), []) :: (((28 : Int), (0 : Int), (0 : Int), (0 : Int), []) :: (((21 : Int), z644.toInt, tw.toInt, (0 : Int), []) :: gs)))) = 0 + (0 + (0 + (0 + (mg_p4 gs)))) := rfl
                  refine ⟨_, _, _, bc, rfl, hS703, Or.inl ⟨⟨hR706_, ?_, ?_⟩, rfl, ?_⟩⟩
                  · exact (⟨⟨(show mg_k 23 from by decide), (show (0 : Int) ≤ z0.toInt from by omega), (show 0 ≤ z629.toInt from by omega), (show 1 ≤ (f 37).toInt from by omega), (show 0 ≤ (f 32).toInt from by omega), (show (f 32).toInt ≤ y674.toInt from by omega), (show y674.toInt ≤ 48 from by omega), (show (f 37).toInt ≤ 2 * (y674.toInt) + 2 from by omega), (show 0 ≤ (0 : Int) from by omega)⟩, ⟨⟨(show mg_k 29 from by decide), (show (1 : Int) ≤ z0.toInt + 1 from by omega), (show 0 ≤ z629.toInt from by omega), (show 1 ≤ (f 37).toInt + 0 from by omega), (show 0 ≤ (f 32).toInt + 0 from by omega), (show (f 32).toInt + 0 ≤ y674.toInt + 0 from by omega), (show y674.toInt + 0 ≤ 48 from by omega), (show (f 37).toInt + 0 ≤ 2 * (y674.toInt + 0) + 2 from by omega), trivial⟩, ⟨⟨(show mg_k 28 from by decide), (show (1 : Int) ≤ z0.toInt + 1 + 0 from by omega), (show 0 ≤ z629.toInt from by omega), (show 1 ≤ (f 37).toInt + 0 + 0 from by omega), (show 0 ≤ (f 32).toInt + 0 + 0 from by omega), (show (f 32).toInt + 0 + 0 ≤ y674.toInt + 0 + -1 from by omega), (show y674.toInt + 0 + -1 ≤ 48 from by omega), (show (f 37).toInt + 0 + 0 ≤ 2 * (y674.toInt + 0 + -1) + 2 from by omega), trivial⟩, ⟨⟨(show mg_k 21 from by decide), (show (1 : Int) ≤ z0.toInt + 1 + 0 + 0 from by omega), (show 0 ≤ z629.toInt from by omega), (show 1 ≤ (f 37).toInt + 0 + 0 + 0 from by omega), (show 0 ≤ (f 32).toInt + 0 + 0 + 0 from by omega), (show (f 32).toInt + 0 + 0 + 0 ≤ y674.toInt + 0 + -1 + 0 from by omega), (show y674.toInt + 0 + -1 + 0 ≤ 48 from by omega), (show (f 37).toInt + 0 + 0 + 0 ≤ 2 * (y674.toInt + 0 + -1 + 0) + 1 from by omega), ⟨(show 0 ≤ z644.toInt from by omega), (show 0 ≤ tw.toInt from by omega), (show z629.toInt = tw.toInt + z644.toInt from by omega)⟩⟩, mg_cast (mg_good_ext _ _ _ _ _ _ (fun i _ => by show g'701 34 i = g 34 i; rw [show g'701 34 = g'692 34 from h705_ 34 (by decide), show g'692 34 = g'657 34 from h696_ 34 (by decide), show g'657 34 = g'648 34 from h661_ 34 (by decide), show g'648 34 = g'630 34 from h652_ 34 (by decide), show g'630 34 = g'617 34 from h634_ 34 (by decide), show g'617 34 = g 34 from h625_ 34 (by decide)]) (fun i _ => by show g'701 38 i = g 38 i; rw [show g'701 38 = g'692 38 from h705_ 38 (by decide), show g'692 38 = g'657 38 from h696_ 38 (by decide), show g'657 38 = g'648 38 from h661_ 38 (by decide), show g'648 38 = g'630 38 from h652_ 38 (by decide), show g'630 38 = g'617 38 from h634_ 38 (by decide), show g'617 38 = g 38 from h625_ 38 (by decide)]) (fun i hi => by show g'701 23 i = g 23 i; rw [show g'701 23 = g'692 23 from h705_ 23 (by decide), show g'692 23 = g'657 23 from h696_ 23 (by decide), show g'657 23 = g'648 23 from h661_ 23 (by decide), show g'648 23 = g'630 23 from h652_ 23 (by decide), h635_, show g'617 23 = g 23 from h625_ 23 (by decide)]; exact upd_ne (by rw [cl_toNat]; omega)) hrest) (by show (f 15).toInt + -1 = z0.toInt + 1 + 0 + 0 + -1; omega) (by show tw.toInt = tw.toInt; omega) (by show (f 37).toInt + 0 = (f 37).toInt + 0 + 0 + 0 + 0; omega) (by show (f 32).toInt + 0 = (f 32).toInt + 0 + 0 + 0 + 0; omega) (by show (f 5).toInt + 0 = y674.toInt + 0 + -1 + 0 + 0; omega)⟩⟩⟩⟩ : mg_good (g'701 34) (g'701 38) (g'701 23) (((23 : Int), (0 : Int), (0 : Int), (0 : Int), []) :: (((29 : Int), (0 : Int), (0 : Int), (0 : Int), []) :: (((28 : Int), (0 : Int), (0 : Int), (0 : Int), []) :: (((21 : Int), z644.toInt, tw.toInt, (0 : Int), []) :: gs)))) (z0.toInt) (z629.toInt) ((f 37).toInt) ((f 32).toInt) (y674.toInt))
                  · exact ⟨(by show 0 ≤ z673.toInt; omega), (by show z673.toInt ≤ (f 0).toInt; omega), (by show (f 0).toInt ≤ 512; omega), (by show 0 ≤ (f 24).toInt; omega), (by show (f 24).toInt + z629.toInt + mg_p1 (((23 : Int), (0 : Int), (0 : Int), (0 : Int), []) :: (((29 : Int), (0 : Int), (0 : Int), (0 : Int), []) :: (((28 : Int), (0 : Int), (0 : Int), (0 : Int), []) :: (((21 : Int), z644.toInt, tw.toInt, (0 : Int), []) :: gs)))) ≤ 4 * z673.toInt; omega), (by show z629.toInt ≤ z673.toInt; omega), (by show z0.toInt + mg_p2 (((23 : Int), (0 : Int), (0 : Int), (0 : Int), []) :: (((29 : Int), (0 : Int), (0 : Int), (0 : Int), []) :: (((28 : Int), (0 : Int), (0 : Int), (0 : Int), []) :: (((21 : Int), z644.toInt, tw.toInt, (0 : Int), []) :: gs)))) ≤ z673.toInt; omega), (by show mg_p3 (((23 : Int), (0 : Int), (0 : Int), (0 : Int), []) :: (((29 : Int), (0 : Int), (0 : Int), (0 : Int), []) :: (((28 : Int), (0 : Int), (0 : Int), (0 : Int), []) :: (((21 : Int), z644.toInt, tw.toInt, (0 : Int), []) :: gs)))) ≤ 20 * z673.toInt + 20; omega), (by show 0 ≤ (f 68).toInt; omega), (by show (f 68).toInt + 3 * z629.toInt + mg_p4 (((23 : Int), (0 : Int), (0 : Int), (0 : Int), []) :: (((29 : Int), (0 : Int), (0 : Int), (0 : Int), []) :: (((28 : Int), (0 : Int), (0 : Int), (0 : Int), []) :: (((21 : Int), z644.toInt, tw.toInt, (0 : Int), []) :: gs)))) ≤ 60 * z673.toInt + 60; omega), (by show 0 ≤ o615.toInt; omega), (by show o615.toInt + 64 * mj_n (g'701 16) z0.toNatClampNeg 3 ≤ 64 * z673.toInt; rw [show g'701 16 = g'692 16 from h705_ 16 (by decide), show g'692 16 = g'657 16 from h696_ 16 (by decide), show g'657 16 = g'648 16 from h661_ 16 (by decide), show g'648 16 = g'630 16 from h652_ 16 (by decide), show g'630 16 = g'617 16 from h634_ 16 (by decide), show g'617 16 = g 16 from h625_ 16 (by decide)]; omega), (by show 0 ≤ (f 44).toInt; omega), (by show (f 44).toInt ≤ z673.toInt; omega), (by show 0 ≤ (f 48).toInt; omega), (by show (f 48).toInt ≤ z673.toInt; omega), (by show 1 ≤ (f 53).toInt; omega), (by show (f 53).toInt ≤ z673.toInt + 1; omega), (by show 0 ≤ (f 19).toInt; omega), (by show (f 19).toInt ≤ 600; omega), (by show 0 ≤ (f 6).toInt; omega), (by show 0 ≤ (f 8).toInt; omega)⟩
                  · show 100 * ((f 0).toInt - z673.toInt) + mg_p3 (((23 : Int), (0 : Int), (0 : Int), (0 : Int), []) :: (((29 : Int), (0 : Int), (0 : Int), (0 : Int), []) :: (((28 : Int), (0 : Int), (0 : Int), (0 : Int), []) :: (((21 : Int), z644.toInt, tw.toInt, (0 : Int), []) :: gs)))) < 100 * ((f 0).toInt - (f 4).toInt) + (1 + mg_p3 gs); omega
                · subst hv684
                  have h686_ : (0 : Int) ≤ a682.toInt := h686
                  replace hS685 : MS S0 S672 (upd (upd (upd (upd (upd (upd (upd (upd f 4 z640) 6 a682) 7 b683) 10 0) 15 z0) 20 z629) 62 o615) 75 m616) g'657 := hS685
                  have hR707 := rj_clear0 hR662_
                  have hR708 : RJ (upd (upd (upd (upd (upd (upd (upd (upd f 4 z640) 6 a682) 7 b683) 10 0) 15 z0) 20 z629) 62 o615) 75 m616) g'657 [] bc [] 0 [] := hR707
                  show am_E _ _ _ _ [some (.ref 39)] [.int 0] _ _
                  refine am_e12t hi_201_37 (by decide) ?_
                  refine am_e35 hi_201_54 ?_
                  show am_E _ _ _ _ [some (.ref 39), some (.int on), some (.int tw), some (.int (g 16 z0.toNatClampNeg)), some (.int r3), some (.int 1), some (.int (g 18 z0.toNatClampNeg)), some (.int r618)] [] _ _
                  refine am_e18 hi_264_226 ?_
                  refine am_e35 hi_264_244 ?_
                  show am_E _ _ _ _ [some (.ref 39), some (.int 21), some (.int on), some (.int tw), some (.int th)] [] _ _
                  refine am_e18 hi_180_362 ?_
                  refine am_e35 hi_180_371 ?_
                  have hRc := rj_clear0 hR708
                  refine ⟨_, _, [], _, rfl, hS685, Or.inr ⟨hRc, rfl, (by show 0 ≤ z640.toInt; omega), (by show z640.toInt ≤ (f 0).toInt; omega), (by show 0 ≤ (f 32).toInt; omega), (by show (f 32).toInt ≤ 63; omega), (by show 1 ≤ (f 53).toInt; omega), (by show (f 53).toInt ≤ 600; omega), (by show 0 ≤ (f 68).toInt; omega), (by show (f 68).toInt ≤ 60000; omega), (by show 0 ≤ (f 48).toInt; omega), (by show (f 48).toInt ≤ 8000; omega), (by show 0 ≤ (f 37).toInt; omega), (by show (f 37).toInt ≤ 128; omega), (by show 0 ≤ o615.toInt; omega), (by show o615.toInt ≤ 65000; omega), (by show 0 ≤ (f 19).toInt; omega), (by show (f 19).toInt ≤ 600; omega), (by show 0 ≤ a682.toInt; omega), (by show 0 ≤ (f 8).toInt; omega)⟩⟩
              · refine am_e13f hi_201_5 (am_cF (m := r665.toInt) (n := (1 : Int)) rfl (by decide) c670) ?_
                refine am_e2 (v := 39) hi_201_8 rfl ?_
                refine am_e0 hi_201_9 ?_
                refine am_e0 hi_201_10 ?_
                refine am_e2 (v := 39) hi_201_11 rfl ?_
                refine mm_20 (v := .int z640) hS667 hi_201_12 rfl ?_
                refine am_e32n (as := [.ref 39, .int 3, .int 0, .int z640]) (la := [some (.ref 39), some (.int 3), some (.int 0), some (.int z640)]) (rest := []) hi_201_15 (am_hd0 (M := 201) (by decide) 15) (Nat.le_of_ble_eq_true rfl) (Nat.le_of_ble_eq_true rfl) (show 4 ≤ am_P0.2.2.1 190 from by decide +kernel) rfl (am_recv_ok hS667.fs) rfl rfl (ct_value (d := (d + 5)) hS667 hR662_ (fun _ => ⟨by omega, by omega⟩) (fun h => absurd h (by decide)) (by show (0 : Int) ≤ z0.toInt; omega) (by show z0.toInt ≤ (32767 : Int); omega)) ?_
                rintro v709 S710 (⟨z711, g'712, hv713, hS714, hR719, h715, h716, h717, h718⟩)
                subst hv713
                have h715_ : z711.toInt = z0.toInt + 1 := h715
                have h716_ : ∀ j, j ∉ [16, 17, 18] → g'712 j = g'657 j := h716
                have h717_ : mj_n (g'712 16) z711.toNatClampNeg 3 ≤ mj_n (g 16) z0.toNatClampNeg 3 + 1 := by rw [show g'657 16 = g'648 16 from h661_ 16 (by decide), show g'648 16 = g'630 16 from h652_ 16 (by decide), show g'630 16 = g'617 16 from h634_ 16 (by decide), show g'617 16 = g 16 from h625_ 16 (by decide)] at h717; exact h717
                have h718_ : (3 : Int) = 3 ∨ mj_n (g'712 16) z711.toNatClampNeg 3 ≤ mj_n (g 16) z0.toNatClampNeg 3 := by rw [show g'657 16 = g'648 16 from h661_ 16 (by decide), show g'648 16 = g'630 16 from h652_ 16 (by decide), show g'630 16 = g'617 16 from h634_ 16 (by decide), show g'617 16 = g 16 from h625_ 16 (by decide)] at h718; exact h718
                replace hS714 : MS S0 S710 (upd (upd (upd (upd (upd (upd f 4 z640) 10 z656) 15 z711) 20 z629) 62 o615) 75 m616) g'712 := hS714
                have hR719_ : RJ (upd (upd (upd (upd (upd (upd f 4 z640) 10 z656) 15 z711) 20 z629) 62 o615) 75 m616) g'712 (((28 : Int), (0 : Int), (0 : Int), (0 : Int), []) :: (((21 : Int), z644.toInt, tw.toInt, (0 : Int), []) :: gs)) bc [] 0 [] := hR719
                show am_E _ _ _ _ [some (.ref 39)] [] _ _
                refine am_e2 (v := 39) hi_201_18 rfl ?_
                refine am_e7 hi_201_19 ?_
                refine mm_20 (v := .int z640) hS714 hi_201_20 rfl ?_
                refine am_e0 hi_201_23 ?_
                obtain ⟨z720, hz720, tz720⟩ := am_addI (x := z640) (y := 1) (m := z640.toInt) (n := (1 : Int)) rfl (by decide) (by omega) (by omega)
                refine am_e10 (z := z720) hi_201_24 hz720 ?_
                refine mm_21 (v := z720) hS714 hi_201_25 rfl (Nat.le_of_ble_eq_true rfl) ms_4 ?_
                intro S721 hS722
                replace hS722 : MS S0 S721 (upd (upd (upd (upd (upd (upd f 4 z720) 10 z656) 15 z711) 20 z629) 62 o615) 75 m616) g'712 := hS722
                have hR723 : RJ (upd (upd (upd (upd (upd (upd f 4 z720) 10 z656) 15 z711) 20 z629) 62 o615) 75 m616) g'712 (((28 : Int), (0 : Int), (0 : Int), (0 : Int), []) :: (((21 : Int), z644.toInt, tw.toInt, (0 : Int), []) :: gs)) bc [] 0 [] := RJ.at hR719_ (by show z640.toInt ≤ z720.toInt; omega)
                refine am_e18 hi_201_28 ?_
                refine am_e35 hi_201_54 ?_
                show am_E _ _ _ _ [some (.ref 39), some (.int on), some (.int tw), some (.int (g 16 z0.toNatClampNeg)), some (.int r3), some (.int 1), some (.int (g 18 z0.toNatClampNeg)), some (.int r618)] [] _ _
                refine am_e18 hi_264_226 ?_
                refine am_e35 hi_264_244 ?_
                show am_E _ _ _ _ [some (.ref 39), some (.int 21), some (.int on), some (.int tw), some (.int th)] [] _ _
                refine am_e18 hi_180_362 ?_
                refine am_e35 hi_180_371 ?_
                have q1 : mg_p1 (((28 : Int), (0 : Int), (0 : Int), (0 : Int), []) :: (((21 : Int), z644.toInt, tw.toInt, (0 : Int), []) :: gs)) = 0 + (0 + (mg_p1 gs)) := rfl
                have q2 : mg_p2 (((28 : Int), (0 : Int), (0 : Int), (0 : Int), []) :: (((21 : Int), z644.toInt, tw.toInt, (0 : Int), []) :: gs)) = 0 + (0 + (mg_p2 gs)) := rfl
                have q3 : mg_p3 (((28 : Int), (0 : Int), (0 : Int), (0 : Int), []) :: (((21 : Int), z644.toInt, tw.toInt, (0 : Int), []) :: gs)) = 1 + (1 + (mg_p3 gs)) := rfl
                have q4 : mg_p4 (((28 : Int), (0 : Int), (0 : Int), (0 : Int), []) :: (((21 : Int), z644.toInt, tw.toInt, (0 : Int), []) :: gs)) = 0 + (0 + (mg_p4 gs)) := rfl
                refine ⟨_, _, _, bc, rfl, hS722, Or.inl ⟨⟨hR723, ?_, ?_⟩, rfl, ?_⟩⟩
                · exact (⟨⟨(show mg_k 28 from by decide), (show (1 : Int) ≤ z711.toInt from by omega), (show 0 ≤ z629.toInt from by omega), (show 1 ≤ (f 37).toInt from by omega), (show 0 ≤ (f 32).toInt from by omega), (show (f 32).toInt ≤ (f 5).toInt from by omega), (show (f 5).toInt ≤ 48 from by omega), (show (f 37).toInt ≤ 2 * ((f 5).toInt) + 2 from by omega), trivial⟩, ⟨⟨(show mg_k 21 from by decide), (show (1 : Int) ≤ z711.toInt + 0 from by omega), (show 0 ≤ z629.toInt from by omega), (show 1 ≤ (f 37).toInt + 0 from by omega), (show 0 ≤ (f 32).toInt + 0 from by omega), (show (f 32).toInt + 0 ≤ (f 5).toInt + 0 from by omega), (show (f 5).toInt + 0 ≤ 48 from by omega), (show (f 37).toInt + 0 ≤ 2 * ((f 5).toInt + 0) + 1 from by omega), ⟨(show 0 ≤ z644.toInt from by omega), (show 0 ≤ tw.toInt from by omega), (show z629.toInt = tw.toInt + z644.toInt from by omega)⟩⟩, mg_cast (mg_good_ext _ _ _ _ _ _ (fun i _ => by show g'712 34 i = g 34 i; rw [show g'712 34 = g'657 34 from h716_ 34 (by decide), show g'657 34 = g'648 34 from h661_ 34 (by decide), show g'648 34 = g'630 34 from h652_ 34 (by decide), show g'630 34 = g'617 34 from h634_ 34 (by decide), show g'617 34 = g 34 from h625_ 34 (by decide)]) (fun i _ => by show g'712 38 i = g 38 i; rw [show g'712 38 = g'657 38 from h716_ 38 (by decide), show g'657 38 = g'648 38 from h661_ 38 (by decide), show g'648 38 = g'630 38 from h652_ 38 (by decide), show g'630 38 = g'617 38 from h634_ 38 (by decide), show g'617 38 = g 38 from h625_ 38 (by decide)]) (fun i hi => by show g'712 23 i = g 23 i; rw [show g'712 23 = g'657 23 from h716_ 23 (by decide), show g'657 23 = g'648 23 from h661_ 23 (by decide), show g'648 23 = g'630 23 from h652_ 23 (by decide), h635_, show g'617 23 = g 23 from h625_ 23 (by decide)]; exact upd_ne (by rw [cl_toNat]; omega)) hrest) (by show (f 15).toInt + -1 = z711.toInt + 0 + -1; omega) (by show tw.toInt = tw.toInt; omega) (by show (f 37).toInt + 0 = (f 37).toInt + 0 + 0; omega) (by show (f 32).toInt + 0 = (f 32).toInt + 0 + 0; omega) (by show (f 5).toInt + 0 = (f 5).toInt + 0 + 0; omega)⟩⟩ : mg_good (g'712 34) (g'712 38) (g'712 23) (((28 : Int), (0 : Int), (0 : Int), (0 : Int), []) :: (((21 : Int), z644.toInt, tw.toInt, (0 : Int), []) :: gs)) (z711.toInt) (z629.toInt) ((f 37).toInt) ((f 32).toInt) ((f 5).toInt))
                · exact ⟨(by show 0 ≤ z720.toInt; omega), (by show z720.toInt ≤ (f 0).toInt; omega), (by show (f 0).toInt ≤ 512; omega), (by show 0 ≤ (f 24).toInt; omega), (by show (f 24).toInt + z629.toInt + mg_p1 (((28 : Int), (0 : Int), (0 : Int), (0 : Int), []) :: (((21 : Int), z644.toInt, tw.toInt, (0 : Int), []) :: gs)) ≤ 4 * z720.toInt; omega), (by show z629.toInt ≤ z720.toInt; omega), (by show z711.toInt + mg_p2 (((28 : Int), (0 : Int), (0 : Int), (0 : Int), []) :: (((21 : Int), z644.toInt, tw.toInt, (0 : Int), []) :: gs)) ≤ z720.toInt; omega), (by show mg_p3 (((28 : Int), (0 : Int), (0 : Int), (0 : Int), []) :: (((21 : Int), z644.toInt, tw.toInt, (0 : Int), []) :: gs)) ≤ 20 * z720.toInt + 20; omega), (by show 0 ≤ (f 68).toInt; omega), (by show (f 68).toInt + 3 * z629.toInt + mg_p4 (((28 : Int), (0 : Int), (0 : Int), (0 : Int), []) :: (((21 : Int), z644.toInt, tw.toInt, (0 : Int), []) :: gs)) ≤ 60 * z720.toInt + 60; omega), (by show 0 ≤ o615.toInt; omega), (by show o615.toInt + 64 * mj_n (g'712 16) z711.toNatClampNeg 3 ≤ 64 * z720.toInt; omega), (by show 0 ≤ (f 44).toInt; omega), (by show (f 44).toInt ≤ z720.toInt; omega), (by show 0 ≤ (f 48).toInt; omega), (by show (f 48).toInt ≤ z720.toInt; omega), (by show 1 ≤ (f 53).toInt; omega), (by show (f 53).toInt ≤ z720.toInt + 1; omega), (by show 0 ≤ (f 19).toInt; omega), (by show (f 19).toInt ≤ 600; omega), (by show 0 ≤ (f 6).toInt; omega), (by show 0 ≤ (f 8).toInt; omega)⟩
                · show 100 * ((f 0).toInt - z720.toInt) + mg_p3 (((28 : Int), (0 : Int), (0 : Int), (0 : Int), []) :: (((21 : Int), z644.toInt, tw.toInt, (0 : Int), []) :: gs)) < 100 * ((f 0).toInt - (f 4).toInt) + (1 + mg_p3 gs); omega
            · refine am_e12f hi_237_12 (am_cF (m := r606.toInt) (n := (0 : Int)) rfl (by decide) c612) ?_
              refine am_e2 (v := 39) hi_237_15 rfl ?_
              refine mm_20 (v := .ref 56) hS608 hi_237_16 rfl ?_
              refine am_e1 (v := r606) hi_237_19 rfl ?_
              refine mm_25 hS608 ma_29 hi_237_20 (by decide) (by omega) (by omega) ?_
              show am_E _ _ _ _ [some (.ref 39), some (.int (g 18 z0.toNatClampNeg)), some (.int r606)] [.int (g 29 r606.toNatClampNeg)] _ _
              by_cases c724 : (g 29 r606.toNatClampNeg).toInt = (0 : Int)
              · refine am_e12t hi_237_21 (am_cT (m := (g 29 r606.toNatClampNeg).toInt) (n := (0 : Int)) rfl (by decide) c724) ?_
                refine am_e2 (v := 39) hi_237_31 rfl ?_
                refine am_e1 (v := g 18 z0.toNatClampNeg) hi_237_32 rfl ?_
                refine am_e32n (as := [.ref 39, .int (g 18 z0.toNatClampNeg)]) (la := [some (.ref 39), some (.int (g 18 z0.toNatClampNeg)), none, none, none]) (rest := []) hi_237_33 (am_hd0 (M := 237) (by decide) 33) (Nat.le_of_ble_eq_true rfl) (Nat.le_of_ble_eq_true rfl) (show 2 ≤ am_P0.2.2.1 205 from by decide +kernel) rfl (am_recv_ok hS608.fs) rfl rfl (ct_resolve (d := (d + 4)) hS608 hR  (by show (0 : Int) ≤ (f 32).toInt; omega) (by show (f 32).toInt ≤ (63 : Int); omega) (by show (f 53).toInt ≤ (4096 : Int); omega) (by show (0 : Int) ≤ (f 24).toInt; omega) (by show (f 24).toInt ≤ (16384 : Int); omega) (by show (0 : Int) ≤ (f 62).toInt; omega) (by show (f 62).toInt ≤ (65000 : Int); omega) (by show (0 : Int) ≤ (g 18 z0.toNatClampNeg).toInt; omega) (by show (g 18 z0.toNatClampNeg).toInt ≤ (16383 : Int); omega)) ?_
                rintro v725 S726 (⟨o727, m728, g'729, r730, hv731, hS732, hR738, h733, h734, h735, h736, h737⟩)
                subst hv731
                have h733_ : (f 62).toInt ≤ o727.toInt := h733
                have h734_ : o727.toInt ≤ (f 62).toInt + 64 := h734
                have h735_ : (0 : Int) ≤ r730.toInt := h735
                have h736_ : r730.toInt ≤ (2 : Int) := h736
                have h737_ : ∀ j, j ∉ [63, 64, 65, 66, 67] → g'729 j = g j := h737
                have hR738_ : RJ (upd (upd f 62 o727) 75 m728) g'729 gs bc [] 0 [] := hR738
                show am_E _ _ _ _ [some (.ref 39), some (.int (g 18 z0.toNatClampNeg)), some (.int r606)] [.int r730] _ _
                refine am_e33 hi_237_36 ?_
                show am_E _ _ _ _ [some (.ref 39), some (.int on), some (.int tw), some (.int (g 16 z0.toNatClampNeg)), some (.int r3), some (.int 1), some (.int (g 18 z0.toNatClampNeg)), none] [.int r730] _ _
                refine am_e3 (ls' := [some (.ref 39), some (.int on), some (.int tw), some (.int (g 16 z0.toNatClampNeg)), some (.int r3), some (.int 1), some (.int (g 18 z0.toNatClampNeg)), some (.int r730)]) hi_264_126 (Nat.le_of_ble_eq_true rfl) rfl ?_
                refine am_e2 (v := 39) hi_264_128 rfl ?_
                refine am_e1 (v := r730) hi_264_129 rfl ?_
                refine am_e2 (v := 39) hi_264_131 rfl ?_
                refine mm_20 (v := .int m728) hS732 hi_264_132 rfl ?_
                refine am_e1 (v := g 18 z0.toNatClampNeg) hi_264_135 rfl ?_
                refine am_e32n (as := [.ref 39, .int r730, .int m728, .int (g 18 z0.toNatClampNeg)]) (la := [some (.ref 39), some (.int r730), some (.int m728), some (.int (g 18 z0.toNatClampNeg))]) (rest := []) hi_264_137 (am_hd0 (M := 264) (by decide) 137) (Nat.le_of_ble_eq_true rfl) (Nat.le_of_ble_eq_true rfl) (show 4 ≤ am_P0.2.2.1 239 from by decide +kernel) rfl (am_recv_ok hS732.fs) rfl rfl (ct_keep2 (d := (d + 6)) hS732 hR738_  (by show (0 : Int) ≤ (f 20).toInt; omega) (by show (f 20).toInt ≤ (16383 : Int); omega)) ?_
                rintro v739 S740 (⟨z741, g'742, hv743, hS744, hR748, h745, h746, h747⟩)
                subst hv743
                have h745_ : z741.toInt = (f 20).toInt + 1 := h745
                have h746_ : ∀ j, j ∉ [21, 22, 23] → g'742 j = g'729 j := h746
                have h747_ : g'742 23 = upd (g'729 23) (f 20).toNatClampNeg (g 18 z0.toNatClampNeg) := h747
                replace hS744 : MS S0 S740 (upd (upd (upd f 20 z741) 62 o727) 75 m728) g'742 := hS744
                have hR748_ : RJ (upd (upd (upd f 20 z741) 62 o727) 75 m728) g'742 gs bc [] 0 [] := hR748
                show am_E _ _ _ _ [some (.ref 39), some (.int on), some (.int tw), some (.int (g 16 z0.toNatClampNeg)), some (.int r3), some (.int 1), some (.int (g 18 z0.toNatClampNeg)), some (.int r730)] [] _ _
                refine am_e18 hi_264_140 ?_
                refine am_e2 (v := 39) hi_264_175 rfl ?_
                refine am_e7 hi_264_176 ?_
                refine mm_20 (v := .int (f 15)) hS744 hi_264_177 rfl ?_
                refine am_e0 hi_264_180 ?_
                refine am_e10 (z := z0) hi_264_181 hz0 ?_
                refine mm_21 (v := z0) hS744 hi_264_182 rfl (Nat.le_of_ble_eq_true rfl) ms_15 ?_
                intro S749 hS750
                replace hS750 : MS S0 S749 (upd (upd (upd (upd f 15 z0) 20 z741) 62 o727) 75 m728) g'742 := hS750
                have hp751 : mj_n (g 16) (f 15).toNatClampNeg 3 = mj_n (g 16) z0.toNatClampNeg 3 + if (g 16 z0.toNatClampNeg).toInt = 3 then 1 else 0 := mj_pop (by rw [cl_toNat, cl_toNat]; omega)
                have hp7511 : mj_n (g 16) z0.toNatClampNeg 3 ≤ mj_n (g 16) (f 15).toNatClampNeg 3 := by rw [hp751]; split <;> omega
                have hp7512 : (g 16 z0.toNatClampNeg).toInt = 3 → mj_n (g 16) z0.toNatClampNeg 3 + 1 ≤ mj_n (g 16) (f 15).toNatClampNeg 3 := fun q => by rw [hp751, if_pos q]; exact Int.le_refl _
                refine am_e2 (v := 39) hi_264_185 rfl ?_
                refine am_e7 hi_264_186 ?_
                refine mm_20 (v := .int (f 4)) hS750 hi_264_187 rfl ?_
                refine am_e0 hi_264_190 ?_
                obtain ⟨z752, hz752, tz752⟩ := am_addI (x := f 4) (y := 1) (m := (f 4).toInt) (n := (1 : Int)) rfl (by decide) (by omega) (by omega)
                refine am_e10 (z := z752) hi_264_191 hz752 ?_
                refine mm_21 (v := z752) hS750 hi_264_192 rfl (Nat.le_of_ble_eq_true rfl) ms_4 ?_
                intro S753 hS754
                replace hS754 : MS S0 S753 (upd (upd (upd (upd (upd f 4 z752) 15 z0) 20 z741) 62 o727) 75 m728) g'742 := hS754
                have hR755 : RJ (upd (upd (upd (upd (upd f 4 z752) 15 z0) 20 z741) 62 o727) 75 m728) g'742 gs bc [] 0 [] := RJ.at hR748_ (by show (f 4).toInt ≤ z752.toInt; omega)
                refine am_e1 (v := r3) hi_264_195 rfl ?_
                refine am_e0 hi_264_197 ?_
                refine am_e13f hi_264_199 (am_cF (m := r3.toInt) (n := (69 : Int)) rfl (by decide) (by simp only [am_cI]; omega)) ?_
                refine am_e2 (v := 39) hi_264_202 rfl ?_
                refine am_e0 hi_264_203 ?_
                refine am_e1 (v := on) hi_264_205 rfl ?_
                refine am_e0 hi_264_206 ?_
                obtain ⟨z756, hz756, tz756⟩ := am_addI (x := on) (y := 1) (m := on.toInt) (n := (1 : Int)) rfl (by decide) (by omega) (by omega)
                refine am_e10 (z := z756) hi_264_207 hz756 ?_
                refine am_e1 (v := tw) hi_264_208 rfl ?_
                refine am_e0 hi_264_209 ?_
                refine am_e32n (as := [.ref 39, .int 21, .int z756, .int tw, .int 0]) (la := [some (.ref 39), some (.int 21), some (.int z756), some (.int tw), some (.int 0)]) (rest := []) hi_264_210 (am_hd0 (M := 264) (by decide) 210) (Nat.le_of_ble_eq_true rfl) (Nat.le_of_ble_eq_true rfl) (show 5 ≤ am_P0.2.2.1 179 from by decide +kernel) rfl (am_recv_ok hS754.fs) rfl rfl (ct_pile (d := (d + 6)) hS754 hR755 (mj_e_plain (by decide)) (by show (0 : Int) ≤ (f 10).toInt; omega) (by show (f 10).toInt ≤ (65535 : Int); omega)) ?_
                rintro v757 S758 (⟨z759, g'760, hv761, hS762, hR765, h763, h764⟩)
                subst hv761
                have h763_ : z759.toInt = (f 10).toInt + 1 := h763
                have h764_ : ∀ j, j ∉ [11, 12, 13, 14] → g'760 j = g'742 j := h764
                replace hS762 : MS S0 S758 (upd (upd (upd (upd (upd (upd f 4 z752) 10 z759) 15 z0) 20 z741) 62 o727) 75 m728) g'760 := hS762
                have hR765_ : RJ (upd (upd (upd (upd (upd (upd f 4 z752) 10 z759) 15 z0) 20 z741) 62 o727) 75 m728) g'760 (((21 : Int), z756.toInt, tw.toInt, (0 : Int), []) :: gs) bc [] 0 [] := hR765
                show am_E _ _ _ _ [some (.ref 39), some (.int on), some (.int tw), some (.int (g 16 z0.toNatClampNeg)), some (.int r3), some (.int 1), some (.int (g 18 z0.toNatClampNeg)), some (.int r730)] [] _ _
                refine am_e2 (v := 39) hi_264_213 rfl ?_
                refine am_e0 hi_264_214 ?_
                refine am_e0 hi_264_216 ?_
                refine am_e0 hi_264_217 ?_
                refine am_e0 hi_264_218 ?_
                refine am_e32n (as := [.ref 39, .int 28, .int 0, .int 0, .int 0]) (la := [some (.ref 39), some (.int 28), some (.int 0), some (.int 0), some (.int 0)]) (rest := []) hi_264_219 (am_hd0 (M := 264) (by decide) 219) (Nat.le_of_ble_eq_true rfl) (Nat.le_of_ble_eq_true rfl) (show 5 ≤ am_P0.2.2.1 179 from by decide +kernel) rfl (am_recv_ok hS762.fs) rfl rfl (ct_pile (d := (d + 6)) hS762 hR765_ (mj_e_plain (by decide)) (by show (0 : Int) ≤ z759.toInt; omega) (by show z759.toInt ≤ (65535 : Int); omega)) ?_
                rintro v766 S767 (⟨z768, g'769, hv770, hS771, hR774, h772, h773⟩)
                subst hv770
                have h772_ : z768.toInt = z759.toInt + 1 := h772
                have h773_ : ∀ j, j ∉ [11, 12, 13, 14] → g'769 j = g'760 j := h773
                replace hS771 : MS S0 S767 (upd (upd (upd (upd (upd (upd f 4 z752) 10 z768) 15 z0) 20 z741) 62 o727) 75 m728) g'769 := hS771
                have hR774_ : RJ (upd (upd (upd (upd (upd (upd f 4 z752) 10 z768) 15 z0) 20 z741) 62 o727) 75 m728) g'769 (((28 : Int), (0 : Int), (0 : Int), (0 : Int), []) :: (((21 : Int), z756.toInt, tw.toInt, (0 : Int), []) :: gs)) bc [] 0 [] := hR774
                show am_E _ _ _ _ [some (.ref 39), some (.int on), some (.int tw), some (.int (g 16 z0.toNatClampNeg)), some (.int r3), some (.int 1), some (.int (g 18 z0.toNatClampNeg)), some (.int r730)] [] _ _
                refine am_e2 (v := 39) hi_264_222 rfl ?_
                refine am_e32w (as := [.ref 39]) (la := [some (.ref 39)]) (rest := []) hi_264_223 (am_hd0 (M := 264) (by decide) 223) (Nat.le_of_ble_eq_true rfl) (Nat.le_of_ble_eq_true rfl) (show 1 ≤ am_P0.2.2.1 201 from by decide +kernel) rfl (am_recv_ok hS771.fs) rfl rfl ?_
                refine am_e2 (v := 39) hi_201_0 rfl ?_
                refine am_e32n (as := [.ref 39]) (la := [some (.ref 39)]) (rest := []) hi_201_1 (am_hd0 (M := 201) (by decide) 1) (Nat.le_of_ble_eq_true rfl) (Nat.le_of_ble_eq_true rfl) (show 1 ≤ am_P0.2.2.1 183 from by decide +kernel) rfl (am_recv_ok hS771.fs) rfl rfl (ct_next (d := (d + 4)) hS771   (by show (0 : Int) ≤ z752.toInt; omega) (by show (f 0).toInt ≤ (16384 : Int); omega)) ?_
                rintro v775 S776 (⟨r777, hv778, hS779, h780⟩)
                subst hv778
                have h780_ : z752.toInt < (f 0).toInt ∨ r777.toInt = (-1 : Int) := h780
                show am_E _ _ _ _ [some (.ref 39)] [.int r777] _ _
                refine am_e0 hi_201_4 ?_
                by_cases c782 : ¬ r777.toInt = (1 : Int)
                · refine am_e13t hi_201_5 (am_cT (m := r777.toInt) (n := (1 : Int)) rfl (by decide) c782) ?_
                  refine am_e2 (v := 39) hi_201_31 rfl ?_
                  refine am_e0 hi_201_32 ?_
                  refine am_e32n (as := [.ref 39, .int 60]) (la := [some (.ref 39), some (.int 60)]) (rest := []) hi_201_34 (am_hd0 (M := 201) (by decide) 34) (Nat.le_of_ble_eq_true rfl) (Nat.le_of_ble_eq_true rfl) (show 2 ≤ am_P0.2.2.1 193 from by decide +kernel) rfl (am_recv_ok hS779.fs) rfl rfl (ct_enter (d := (d + 3)) hS779   (by show (0 : Int) ≤ z752.toInt; omega) (by show (f 0).toInt ≤ (16384 : Int); omega) (by show (0 : Int) ≤ (60 : Int); omega) (by show (0 : Int) ≤ (f 5).toInt; omega) (by show (f 5).toInt ≤ (48 : Int); omega) (by show (0 : Int) ≤ (f 6).toInt; omega)) ?_
                  rintro v783 S784 (⟨z785, y786, hv787, hS788, h789, h790, h791, h792⟩ | ⟨a794, b795, hv796, hS797, h798⟩)
                  · subst hv787
                    have h789_ : z785.toInt = z752.toInt + 1 := h789
                    have h790_ : z752.toInt < (f 0).toInt := h790
                    have h791_ : y786.toInt = (f 5).toInt + 1 := h791
                    have h792_ : y786.toInt ≤ (48 : Int) := h792
                    replace hS788 : MS S0 S784 (upd (upd (upd (upd (upd (upd (upd f 4 z785) 5 y786) 10 z768) 15 z0) 20 z741) 62 o727) 75 m728) g'769 := hS788
                    have hR800 : RJ (upd (upd (upd (upd (upd (upd (upd f 4 z785) 5 y786) 10 z768) 15 z0) 20 z741) 62 o727) 75 m728) g'769 (((28 : Int), (0 : Int), (0 : Int), (0 : Int), []) :: (((21 : Int), z756.toInt, tw.toInt, (0 : Int), []) :: gs)) bc [] 0 [] := RJ.at hR774_ (by show z752.toInt ≤ z785.toInt; omega)
                    show am_E _ _ _ _ [some (.ref 39)] [.int 1] _ _
                    refine am_e12f hi_201_37 (by decide) ?_
                    refine am_e2 (v := 39) hi_201_40 rfl ?_
                    refine am_e0 hi_201_41 ?_
                    refine am_e0 hi_201_43 ?_
                    refine am_e0 hi_201_44 ?_
                    refine am_e0 hi_201_45 ?_
                    refine am_e32n (as := [.ref 39, .int 29, .int 0, .int 0, .int 0]) (la := [some (.ref 39), some (.int 29), some (.int 0), some (.int 0), some (.int 0)]) (rest := []) hi_201_46 (am_hd0 (M := 201) (by decide) 46) (Nat.le_of_ble_eq_true rfl) (Nat.le_of_ble_eq_true rfl) (show 5 ≤ am_P0.2.2.1 179 from by decide +kernel) rfl (am_recv_ok hS788.fs) rfl rfl (ct_pile (d := (d + 5)) hS788 hR800 (mj_e_plain (by decide)) (by show (0 : Int) ≤ z768.toInt; omega) (by show z768.toInt ≤ (65535 : Int); omega)) ?_
                    rintro v801 S802 (⟨z803, g'804, hv805, hS806, hR809, h807, h808⟩)
                    subst hv805
                    have h807_ : z803.toInt = z768.toInt + 1 := h807
                    have h808_ : ∀ j, j ∉ [11, 12, 13, 14] → g'804 j = g'769 j := h808
                    replace hS806 : MS S0 S802 (upd (upd (upd (upd (upd (upd (upd f 4 z785) 5 y786) 10 z803) 15 z0) 20 z741) 62 o727) 75 m728) g'804 := hS806
                    have hR809_ : RJ (upd (upd (upd (upd (upd (upd (upd f 4 z785) 5 y786) 10 z803) 15 z0) 20 z741) 62 o727) 75 m728) g'804 (((29 : Int), (0 : Int), (0 : Int), (0 : Int), []) :: (((28 : Int), (0 : Int), (0 : Int), (0 : Int), []) :: (((21 : Int), z756.toInt, tw.toInt, (0 : Int), []) :: gs))) bc [] 0 [] := hR809
                    show am_E _ _ _ _ [some (.ref 39)] [] _ _
                    refine am_e2 (v := 39) hi_201_49 rfl ?_
                    refine am_e0 hi_201_50 ?_
                    refine am_e32w (as := [.ref 39, .int 0]) (la := [some (.ref 39), some (.int 0)]) (rest := []) hi_201_51 (am_hd0 (M := 201) (by decide) 51) (Nat.le_of_ble_eq_true rfl) (Nat.le_of_ble_eq_true rfl) (show 2 ≤ am_P0.2.2.1 186 from by decide +kernel) rfl (am_recv_ok hS806.fs) rfl rfl ?_
                    refine am_e2 (v := 39) hi_186_0 rfl ?_
                    refine am_e0 hi_186_1 ?_
                    refine am_e1 (v := 0) hi_186_3 rfl ?_
                    refine am_e0 hi_186_4 ?_
                    refine am_e0 hi_186_5 ?_
                    refine am_e32n (as := [.ref 39, .int 23, .int 0, .int 0, .int 0]) (la := [some (.ref 39), some (.int 23), some (.int 0), some (.int 0), some (.int 0)]) (rest := []) hi_186_6 (am_hd0 (M := 186) (by decide) 6) (Nat.le_of_ble_eq_true rfl) (Nat.le_of_ble_eq_true rfl) (show 5 ≤ am_P0.2.2.1 179 from by decide +kernel) rfl (am_recv_ok hS806.fs) rfl rfl (ct_pile (d := (d + 4)) hS806 hR809_ (mj_e_plain (by decide)) (by show (0 : Int) ≤ z803.toInt; omega) (by show z803.toInt ≤ (65535 : Int); omega)) ?_
                    rintro v810 S811 (⟨z812, g'813, hv814, hS815, hR818, h816, h817⟩)
                    subst hv814
                    have h816_ : z812.toInt = z803.toInt + 1 := h816
                    have h817_ : ∀ j, j ∉ [11, 12, 13, 14] → g'813 j = g'804 j := h817
                    replace hS815 : MS S0 S811 (upd (upd (upd (upd (upd (upd (upd f 4 z785) 5 y786) 10 z812) 15 z0) 20 z741) 62 o727) 75 m728) g'813 := hS815
                    have hR818_ : RJ (upd (upd (upd (upd (upd (upd (upd f 4 z785) 5 y786) 10 z812) 15 z0) 20 z741) 62 o727) 75 m728) g'813 (((23 : Int), (0 : Int), (0 : Int), (0 : Int), []) :: (((29 : Int), (0 : Int), (0 : Int), (0 : Int), []) :: (((28 : Int), (0 : Int), (0 : Int), (0 : Int), []) :: (((21 : Int), z756.toInt, tw.toInt, (0 : Int), []) :: gs)))) bc [] 0 [] := hR818
                    show am_E _ _ _ _ [some (.ref 39), some (.int 0)] [] _ _
                    refine am_e35 hi_186_9 ?_
                    show am_E _ _ _ _ [some (.ref 39)] [] _ _
                    refine am_e35 hi_201_54 ?_
                    show am_E _ _ _ _ [some (.ref 39), some (.int on), some (.int tw), some (.int (g 16 z0.toNatClampNeg)), some (.int r3), some (.int 1), some (.int (g 18 z0.toNatClampNeg)), some (.int r730)] [] _ _
                    refine am_e18 hi_264_226 ?_
                    refine am_e35 hi_264_244 ?_
                    show am_E _ _ _ _ [some (.ref 39), some (.int 21), some (.int on), some (.int tw), some (.int th)] [] _ _
                    refine am_e18 hi_180_362 ?_
                    refine am_e35 hi_180_371 ?_
                    have q1 : mg_p1 (((23 : Int), (0 : Int), (0 : Int), (0 : Int), []) :: (((29 : Int), (0 : Int), (0 : Int), (0 : Int), []) :: (((28 : Int), (0 : Int), (0 : Int), (0 : Int), []) :: (((21 : Int), z756.toInt, tw.toInt, (0 : Int), []) :: gs)))) = 0 + (0 + (0 + (0 + (mg_p1 gs)))) := rfl
                    have q2 : mg_p2 (((23 : Int), (0 : Int), (0 : Int), (0 : Int), []) :: (((29 : Int), (0 : Int), (0 : Int), (0 : Int), []) :: (((28 : Int), (0 : Int), (0 : Int), (0 : Int), []) :: (((21 : Int), z756.toInt, tw.toInt, (0 : Int), []) :: gs)))) = 0 + (0 + (0 + (0 + (mg_p2 gs)))) := rfl
                    have q3 : mg_p3 (((23 : Int), (0 : Int), (0 : Int), (0 : Int), []) :: (((29 : Int), (0 : Int), (0 : Int), (0 : Int), []) :: (((28 : Int), (0 : Int), (0 : Int), (0 : Int), []) :: (((21 : Int), z756.toInt, tw.toInt, (0 : Int), []) :: gs)))) = 1 + (1 + (1 + (1 + (mg_p3 gs)))) := rfl
                    have q4 : mg_p4 (((23 : Int), (0 : Int), (0 : Int), (0 : Int), []) :: (((29 : Int), (0 : Int), (0 : Int), (0 : Int), []) :: (((28 : Int), (0 : Int), (0 : Int), (0 : Int), []) :: (((21 : Int), z756.toInt, tw.toInt, (0 : Int), []) :: gs)))) = 0 + (0 + (0 + (0 + (mg_p4 gs)))) := rfl
                    refine ⟨_, _, _, bc, rfl, hS815, Or.inl ⟨⟨hR818_, ?_, ?_⟩, rfl, ?_⟩⟩
                    · exact (⟨⟨(show mg_k 23 from by decide), (show (0 : Int) ≤ z0.toInt from by omega), (show 0 ≤ z741.toInt from by omega), (show 1 ≤ (f 37).toInt from by omega), (show 0 ≤ (f 32).toInt from by omega), (show (f 32).toInt ≤ y786.toInt from by omega), (show y786.toInt ≤ 48 from by omega), (show (f 37).toInt ≤ 2 * (y786.toInt) + 2 from by omega), (show 0 ≤ (0 : Int) from by omega)⟩, ⟨⟨(show mg_k 29 from by decide), (show (1 : Int) ≤ z0.toInt + 1 from by omega), (show 0 ≤ z741.toInt from by omega), (show 1 ≤ (f 37).toInt + 0 from by omega), (show 0 ≤ (f 32).toInt + 0 from by omega), (show (f 32).toInt + 0 ≤ y786.toInt + 0 from by omega), (show y786.toInt + 0 ≤ 48 from by omega), (show (f 37).toInt + 0 ≤ 2 * (y786.toInt + 0) + 2 from by omega), trivial⟩, ⟨⟨(show mg_k 28 from by decide), (show (1 : Int) ≤ z0.toInt + 1 + 0 from by omega), (show 0 ≤ z741.toInt from by omega), (show 1 ≤ (f 37).toInt + 0 + 0 from by omega), (show 0 ≤ (f 32).toInt + 0 + 0 from by omega), (show (f 32).toInt + 0 + 0 ≤ y786.toInt + 0 + -1 from by omega), (show y786.toInt + 0 + -1 ≤ 48 from by omega), (show (f 37).toInt + 0 + 0 ≤ 2 * (y786.toInt + 0 + -1) + 2 from by omega), trivial⟩, ⟨⟨(show mg_k 21 from by decide), (show (1 : Int) ≤ z0.toInt + 1 + 0 + 0 from by omega), (show 0 ≤ z741.toInt from by omega), (show 1 ≤ (f 37).toInt + 0 + 0 + 0 from by omega), (show 0 ≤ (f 32).toInt + 0 + 0 + 0 from by omega), (show (f 32).toInt + 0 + 0 + 0 ≤ y786.toInt + 0 + -1 + 0 from by omega), (show y786.toInt + 0 + -1 + 0 ≤ 48 from by omega), (show (f 37).toInt + 0 + 0 + 0 ≤ 2 * (y786.toInt + 0 + -1 + 0) + 1 from by omega), ⟨(show 0 ≤ z756.toInt from by omega), (show 0 ≤ tw.toInt from by omega), (show z741.toInt = tw.toInt + z756.toInt from by omega)⟩⟩, mg_cast (mg_good_ext _ _ _ _ _ _ (fun i _ => by show g'813 34 i = g 34 i; rw [show g'813 34 = g'804 34 from h817_ 34 (by decide), show g'804 34 = g'769 34 from h808_ 34 (by decide), show g'769 34 = g'760 34 from h773_ 34 (by decide), show g'760 34 = g'742 34 from h764_ 34 (by decide), show g'742 34 = g'729 34 from h746_ 34 (by decide), show g'729 34 = g 34 from h737_ 34 (by decide)]) (fun i _ => by show g'813 38 i = g 38 i; rw [show g'813 38 = g'804 38 from h817_ 38 (by decide), show g'804 38 = g'769 38 from h808_ 38 (by decide), show g'769 38 = g'760 38 from h773_ 38 (by decide), show g'760 38 = g'742 38 from h764_ 38 (by decide), show g'742 38 = g'729 38 from h746_ 38 (by decide), show g'729 38 = g 38 from h737_ 38 (by decide)]) (fun i hi => by show g'813 23 i = g 23 i; rw [show g'813 23 = g'804 23 from h817_ 23 (by decide), show g'804 23 = g'769 23 from h808_ 23 (by decide), show g'769 23 = g'760 23 from h773_ 23 (by decide), show g'760 23 = g'742 23 from h764_ 23 (by decide), h747_, show g'729 23 = g 23 from h737_ 23 (by decide)]; exact upd_ne (by rw [cl_toNat]; omega)) hrest) (by show (f 15).toInt + -1 = z0.toInt + 1 + 0 + 0 + -1; omega) (by show tw.toInt = tw.toInt; omega) (by show (f 37).toInt + 0 = (f 37).toInt + 0 + 0 + 0 + 0; omega) (by show (f 32).toInt + 0 = (f 32).toInt + 0 + 0 + 0 + 0; omega) (by show (f 5).toInt + 0 = y786.toInt + 0 + -1 + 0 + 0; omega)⟩⟩⟩⟩ : mg_good (g'813 34) (g'813 38) (g'813 23) (((23 : Int), (0 : Int), (0 : Int), (0 : Int), []) :: (((29 : Int), (0 : Int), (0 : Int), (0 : Int), []) :: (((28 : Int), (0 : Int), (0 : Int), (0 : Int), []) :: (((21 : Int), z756.toInt, tw.toInt, (0 : Int), []) :: gs)))) (z0.toInt) (z741.toInt) ((f 37).toInt) ((f 32).toInt) (y786.toInt))
                    · exact ⟨(by show 0 ≤ z785.toInt; omega), (by show z785.toInt ≤ (f 0).toInt; omega), (by show (f 0).toInt ≤ 512; omega), (by show 0 ≤ (f 24).toInt; omega), (by show (f 24).toInt + z741.toInt + mg_p1 (((23 : Int), (0 : Int), (0 : Int), (0 : Int), []) :: (((29 : Int), (0 : Int), (0 : Int), (0 : Int), []) :: (((28 : Int), (0 : Int), (0 : Int), (0 : Int), []) :: (((21 : Int), z756.toInt, tw.toInt, (0 : Int), []) :: gs)))) ≤ 4 * z785.toInt; omega), (by show z741.toInt ≤ z785.toInt; omega), (by show z0.toInt + mg_p2 (((23 : Int), (0 : Int), (0 : Int), (0 : Int), []) :: (((29 : Int), (0 : Int), (0 : Int), (0 : Int), []) :: (((28 : Int), (0 : Int), (0 : Int), (0 : Int), []) :: (((21 : Int), z756.toInt, tw.toInt, (0 : Int), []) :: gs)))) ≤ z785.toInt; omega), (by show mg_p3 (((23 : Int), (0 : Int), (0 : Int), (0 : Int), []) :: (((29 : Int), (0 : Int), (0 : Int), (0 : Int), []) :: (((28 : Int), (0 : Int), (0 : Int), (0 : Int), []) :: (((21 : Int), z756.toInt, tw.toInt, (0 : Int), []) :: gs)))) ≤ 20 * z785.toInt + 20; omega), (by show 0 ≤ (f 68).toInt; omega), (by show (f 68).toInt + 3 * z741.toInt + mg_p4 (((23 : Int), (0 : Int), (0 : Int), (0 : Int), []) :: (((29 : Int), (0 : Int), (0 : Int), (0 : Int), []) :: (((28 : Int), (0 : Int), (0 : Int), (0 : Int), []) :: (((21 : Int), z756.toInt, tw.toInt, (0 : Int), []) :: gs)))) ≤ 60 * z785.toInt + 60; omega), (by show 0 ≤ o727.toInt; omega), (by show o727.toInt + 64 * mj_n (g'813 16) z0.toNatClampNeg 3 ≤ 64 * z785.toInt; rw [show g'813 16 = g'804 16 from h817_ 16 (by decide), show g'804 16 = g'769 16 from h808_ 16 (by decide), show g'769 16 = g'760 16 from h773_ 16 (by decide), show g'760 16 = g'742 16 from h764_ 16 (by decide), show g'742 16 = g'729 16 from h746_ 16 (by decide), show g'729 16 = g 16 from h737_ 16 (by decide)]; omega), (by show 0 ≤ (f 44).toInt; omega), (by show (f 44).toInt ≤ z785.toInt; omega), (by show 0 ≤ (f 48).toInt; omega), (by show (f 48).toInt ≤ z785.toInt; omega), (by show 1 ≤ (f 53).toInt; omega), (by show (f 53).toInt ≤ z785.toInt + 1; omega), (by show 0 ≤ (f 19).toInt; omega), (by show (f 19).toInt ≤ 600; omega), (by show 0 ≤ (f 6).toInt; omega), (by show 0 ≤ (f 8).toInt; omega)⟩
                    · show 100 * ((f 0).toInt - z785.toInt) + mg_p3 (((23 : Int), (0 : Int), (0 : Int), (0 : Int), []) :: (((29 : Int), (0 : Int), (0 : Int), (0 : Int), []) :: (((28 : Int), (0 : Int), (0 : Int), (0 : Int), []) :: (((21 : Int), z756.toInt, tw.toInt, (0 : Int), []) :: gs)))) < 100 * ((f 0).toInt - (f 4).toInt) + (1 + mg_p3 gs); omega
                  · subst hv796
                    have h798_ : (0 : Int) ≤ a794.toInt := h798
                    replace hS797 : MS S0 S784 (upd (upd (upd (upd (upd (upd (upd (upd f 4 z752) 6 a794) 7 b795) 10 0) 15 z0) 20 z741) 62 o727) 75 m728) g'769 := hS797
                    have hR819 := rj_clear0 hR774_
                    have hR820 : RJ (upd (upd (upd (upd (upd (upd (upd (upd f 4 z752) 6 a794) 7 b795) 10 0) 15 z0) 20 z741) 62 o727) 75 m728) g'769 [] bc [] 0 [] := hR819
                    show am_E _ _ _ _ [some (.ref 39)] [.int 0] _ _
                    refine am_e12t hi_201_37 (by decide) ?_
                    refine am_e35 hi_201_54 ?_
                    show am_E _ _ _ _ [some (.ref 39), some (.int on), some (.int tw), some (.int (g 16 z0.toNatClampNeg)), some (.int r3), some (.int 1), some (.int (g 18 z0.toNatClampNeg)), some (.int r730)] [] _ _
                    refine am_e18 hi_264_226 ?_
                    refine am_e35 hi_264_244 ?_
                    show am_E _ _ _ _ [some (.ref 39), some (.int 21), some (.int on), some (.int tw), some (.int th)] [] _ _
                    refine am_e18 hi_180_362 ?_
                    refine am_e35 hi_180_371 ?_
                    have hRc := rj_clear0 hR820
                    refine ⟨_, _, [], _, rfl, hS797, Or.inr ⟨hRc, rfl, (by show 0 ≤ z752.toInt; omega), (by show z752.toInt ≤ (f 0).toInt; omega), (by show 0 ≤ (f 32).toInt; omega), (by show (f 32).toInt ≤ 63; omega), (by show 1 ≤ (f 53).toInt; omega), (by show (f 53).toInt ≤ 600; omega), (by show 0 ≤ (f 68).toInt; omega), (by show (f 68).toInt ≤ 60000; omega), (by show 0 ≤ (f 48).toInt; omega), (by show (f 48).toInt ≤ 8000; omega), (by show 0 ≤ (f 37).toInt; omega), (by show (f 37).toInt ≤ 128; omega), (by show 0 ≤ o727.toInt; omega), (by show o727.toInt ≤ 65000; omega), (by show 0 ≤ (f 19).toInt; omega), (by show (f 19).toInt ≤ 600; omega), (by show 0 ≤ a794.toInt; omega), (by show 0 ≤ (f 8).toInt; omega)⟩⟩
                · refine am_e13f hi_201_5 (am_cF (m := r777.toInt) (n := (1 : Int)) rfl (by decide) c782) ?_
                  refine am_e2 (v := 39) hi_201_8 rfl ?_
                  refine am_e0 hi_201_9 ?_
                  refine am_e0 hi_201_10 ?_
                  refine am_e2 (v := 39) hi_201_11 rfl ?_
                  refine mm_20 (v := .int z752) hS779 hi_201_12 rfl ?_
                  refine am_e32n (as := [.ref 39, .int 3, .int 0, .int z752]) (la := [some (.ref 39), some (.int 3), some (.int 0), some (.int z752)]) (rest := []) hi_201_15 (am_hd0 (M := 201) (by decide) 15) (Nat.le_of_ble_eq_true rfl) (Nat.le_of_ble_eq_true rfl) (show 4 ≤ am_P0.2.2.1 190 from by decide +kernel) rfl (am_recv_ok hS779.fs) rfl rfl (ct_value (d := (d + 5)) hS779 hR774_ (fun _ => ⟨by omega, by omega⟩) (fun h => absurd h (by decide)) (by show (0 : Int) ≤ z0.toInt; omega) (by show z0.toInt ≤ (32767 : Int); omega)) ?_
                  rintro v821 S822 (⟨z823, g'824, hv825, hS826, hR831, h827, h828, h829, h830⟩)
                  subst hv825
                  have h827_ : z823.toInt = z0.toInt + 1 := h827
                  have h828_ : ∀ j, j ∉ [16, 17, 18] → g'824 j = g'769 j := h828
                  have h829_ : mj_n (g'824 16) z823.toNatClampNeg 3 ≤ mj_n (g 16) z0.toNatClampNeg 3 + 1 := by rw [show g'769 16 = g'760 16 from h773_ 16 (by decide), show g'760 16 = g'742 16 from h764_ 16 (by decide), show g'742 16 = g'729 16 from h746_ 16 (by decide), show g'729 16 = g 16 from h737_ 16 (by decide)] at h829; exact h829
                  have h830_ : (3 : Int) = 3 ∨ mj_n (g'824 16) z823.toNatClampNeg 3 ≤ mj_n (g 16) z0.toNatClampNeg 3 := by rw [show g'769 16 = g'760 16 from h773_ 16 (by decide), show g'760 16 = g'742 16 from h764_ 16 (by decide), show g'742 16 = g'729 16 from h746_ 16 (by decide), show g'729 16 = g 16 from h737_ 16 (by decide)] at h830; exact h830
                  replace hS826 : MS S0 S822 (upd (upd (upd (upd (upd (upd f 4 z752) 10 z768) 15 z823) 20 z741) 62 o727) 75 m728) g'824 := hS826
                  have hR831_ : RJ (upd (upd (upd (upd (upd (upd f 4 z752) 10 z768) 15 z823) 20 z741) 62 o727) 75 m728) g'824 (((28 : Int), (0 : Int), (0 : Int), (0 : Int), []) :: (((21 : Int), z756.toInt, tw.toInt, (0 : Int), []) :: gs)) bc [] 0 [] := hR831
                  show am_E _ _ _ _ [some (.ref 39)] [] _ _
                  refine am_e2 (v := 39) hi_201_18 rfl ?_
                  refine am_e7 hi_201_19 ?_
                  refine mm_20 (v := .int z752) hS826 hi_201_20 rfl ?_
                  refine am_e0 hi_201_23 ?_
                  obtain ⟨z832, hz832, tz832⟩ := am_addI (x := z752) (y := 1) (m := z752.toInt) (n := (1 : Int)) rfl (by decide) (by omega) (by omega)
                  refine am_e10 (z := z832) hi_201_24 hz832 ?_
                  refine mm_21 (v := z832) hS826 hi_201_25 rfl (Nat.le_of_ble_eq_true rfl) ms_4 ?_
                  intro S833 hS834
                  replace hS834 : MS S0 S833 (upd (upd (upd (upd (upd (upd f 4 z832) 10 z768) 15 z823) 20 z741) 62 o727) 75 m728) g'824 := hS834
                  have hR835 : RJ (upd (upd (upd (upd (upd (upd f 4 z832) 10 z768) 15 z823) 20 z741) 62 o727) 75 m728) g'824 (((28 : Int), (0 : Int), (0 : Int), (0 : Int), []) :: (((21 : Int), z756.toInt, tw.toInt, (0 : Int), []) :: gs)) bc [] 0 [] := RJ.at hR831_ (by show z752.toInt ≤ z832.toInt; omega)
                  refine am_e18 hi_201_28 ?_
                  refine am_e35 hi_201_54 ?_
                  show am_E _ _ _ _ [some (.ref 39), some (.int on), some (.int tw), some (.int (g 16 z0.toNatClampNeg)), some (.int r3), some (.int 1), some (.int (g 18 z0.toNatClampNeg)), some (.int r730)] [] _ _
                  refine am_e18 hi_264_226 ?_
                  refine am_e35 hi_264_244 ?_
                  show am_E _ _ _ _ [some (.ref 39), some (.int 21), some (.int on), some (.int tw), some (.int th)] [] _ _
                  refine am_e18 hi_180_362 ?_
                  refine am_e35 hi_180_371 ?_
                  have q1 : mg_p1 (((28 : Int), (0 : Int), (0 : Int), (0 : Int), []) :: (((21 : Int), z756.toInt, tw.toInt, (0 : Int), []) :: gs)) = 0 + (0 + (mg_p1 gs)) := rfl
                  have q2 : mg_p2 (((28 : Int), (0 : Int), (0 : Int), (0 : Int), []) :: (((21 : Int), z756.toInt, tw.toInt, (0 : Int), []) :: gs)) = 0 + (0 + (mg_p2 gs)) := rfl
                  have q3 : mg_p3 (((28 : Int), (0 : Int), (0 : Int), (0 : Int), []) :: (((21 : Int), z756.toInt, tw.toInt, (0 : Int), []) :: gs)) = 1 + (1 + (mg_p3 gs)) := rfl
                  have q4 : mg_p4 (((28 : Int), (0 : Int), (0 : Int), (0 : Int), []) :: (((21 : Int), z756.toInt, tw.toInt, (0 : Int), []) :: gs)) = 0 + (0 + (mg_p4 gs)) := rfl
                  refine ⟨_, _, _, bc, rfl, hS834, Or.inl ⟨⟨hR835, ?_, ?_⟩, rfl, ?_⟩⟩
                  · exact (⟨⟨(show mg_k 28 from by decide), (show (1 : Int) ≤ z823.toInt from by omega), (show 0 ≤ z741.toInt from by omega), (show 1 ≤ (f 37).toInt from by omega), (show 0 ≤ (f 32).toInt from by omega), (show (f 32).toInt ≤ (f 5).toInt from by omega), (show (f 5).toInt ≤ 48 from by omega), (show (f 37).toInt ≤ 2 * ((f 5).toInt) + 2 from by omega), trivial⟩, ⟨⟨(show mg_k 21 from by decide), (show (1 : Int) ≤ z823.toInt + 0 from by omega), (show 0 ≤ z741.toInt from by omega), (show 1 ≤ (f 37).toInt + 0 from by omega), (show 0 ≤ (f 32).toInt + 0 from by omega), (show (f 32).toInt + 0 ≤ (f 5).toInt + 0 from by omega), (show (f 5).toInt + 0 ≤ 48 from by omega), (show (f 37).toInt + 0 ≤ 2 * ((f 5).toInt + 0) + 1 from by omega), ⟨(show 0 ≤ z756.toInt from by omega), (show 0 ≤ tw.toInt from by omega), (show z741.toInt = tw.toInt + z756.toInt from by omega)⟩⟩, mg_cast (mg_good_ext _ _ _ _ _ _ (fun i _ => by show g'824 34 i = g 34 i; rw [show g'824 34 = g'769 34 from h828_ 34 (by decide), show g'769 34 = g'760 34 from h773_ 34 (by decide), show g'760 34 = g'742 34 from h764_ 34 (by decide), show g'742 34 = g'729 34 from h746_ 34 (by decide), show g'729 34 = g 34 from h737_ 34 (by decide)]) (fun i _ => by show g'824 38 i = g 38 i; rw [show g'824 38 = g'769 38 from h828_ 38 (by decide), show g'769 38 = g'760 38 from h773_ 38 (by decide), show g'760 38 = g'742 38 from h764_ 38 (by decide), show g'742 38 = g'729 38 from h746_ 38 (by decide), show g'729 38 = g 38 from h737_ 38 (by decide)]) (fun i hi => by show g'824 23 i = g 23 i; rw [show g'824 23 = g'769 23 from h828_ 23 (by decide), show g'769 23 = g'760 23 from h773_ 23 (by decide), show g'760 23 = g'742 23 from h764_ 23 (by decide), h747_, show g'729 23 = g 23 from h737_ 23 (by decide)]; exact upd_ne (by rw [cl_toNat]; omega)) hrest) (by show (f 15).toInt + -1 = z823.toInt + 0 + -1; omega) (by show tw.toInt = tw.toInt; omega) (by show (f 37).toInt + 0 = (f 37).toInt + 0 + 0; omega) (by show (f 32).toInt + 0 = (f 32).toInt + 0 + 0; omega) (by show (f 5).toInt + 0 = (f 5).toInt + 0 + 0; omega)⟩⟩ : mg_good (g'824 34) (g'824 38) (g'824 23) (((28 : Int), (0 : Int), (0 : Int), (0 : Int), []) :: (((21 : Int), z756.toInt, tw.toInt, (0 : Int), []) :: gs)) (z823.toInt) (z741.toInt) ((f 37).toInt) ((f 32).toInt) ((f 5).toInt))
                  · exact ⟨(by show 0 ≤ z832.toInt; omega), (by show z832.toInt ≤ (f 0).toInt; omega), (by show (f 0).toInt ≤ 512; omega), (by show 0 ≤ (f 24).toInt; omega), (by show (f 24).toInt + z741.toInt + mg_p1 (((28 : Int), (0 : Int), (0 : Int), (0 : Int), []) :: (((21 : Int), z756.toInt, tw.toInt, (0 : Int), []) :: gs)) ≤ 4 * z832.toInt; omega), (by show z741.toInt ≤ z832.toInt; omega), (by show z823.toInt + mg_p2 (((28 : Int), (0 : Int), (0 : Int), (0 : Int), []) :: (((21 : Int), z756.toInt, tw.toInt, (0 : Int), []) :: gs)) ≤ z832.toInt; omega), (by show mg_p3 (((28 : Int), (0 : Int), (0 : Int), (0 : Int), []) :: (((21 : Int), z756.toInt, tw.toInt, (0 : Int), []) :: gs)) ≤ 20 * z832.toInt + 20; omega), (by show 0 ≤ (f 68).toInt; omega), (by show (f 68).toInt + 3 * z741.toInt + mg_p4 (((28 : Int), (0 : Int), (0 : Int), (0 : Int), []) :: (((21 : Int), z756.toInt, tw.toInt, (0 : Int), []) :: gs)) ≤ 60 * z832.toInt + 60; omega), (by show 0 ≤ o727.toInt; omega), (by show o727.toInt + 64 * mj_n (g'824 16) z823.toNatClampNeg 3 ≤ 64 * z832.toInt; omega), (by show 0 ≤ (f 44).toInt; omega), (by show (f 44).toInt ≤ z832.toInt; omega), (by show 0 ≤ (f 48).toInt; omega), (by show (f 48).toInt ≤ z832.toInt; omega), (by show 1 ≤ (f 53).toInt; omega), (by show (f 53).toInt ≤ z832.toInt + 1; omega), (by show 0 ≤ (f 19).toInt; omega), (by show (f 19).toInt ≤ 600; omega), (by show 0 ≤ (f 6).toInt; omega), (by show 0 ≤ (f 8).toInt; omega)⟩
                  · show 100 * ((f 0).toInt - z832.toInt) + mg_p3 (((28 : Int), (0 : Int), (0 : Int), (0 : Int), []) :: (((21 : Int), z756.toInt, tw.toInt, (0 : Int), []) :: gs)) < 100 * ((f 0).toInt - (f 4).toInt) + (1 + mg_p3 gs); omega
              · refine am_e12f hi_237_21 (am_cF (m := (g 29 r606.toNatClampNeg).toInt) (n := (0 : Int)) rfl (by decide) c724) ?_
                refine am_e2 (v := 39) hi_237_24 rfl ?_
                refine am_e0 hi_237_25 ?_
                refine am_e1 (v := g 18 z0.toNatClampNeg) hi_237_27 rfl ?_
                refine am_e32n (as := [.ref 39, .int 10, .int (g 18 z0.toNatClampNeg)]) (la := [some (.ref 39), some (.int 10), some (.int (g 18 z0.toNatClampNeg))]) (rest := []) hi_237_28 (am_hd0 (M := 237) (by decide) 28) (Nat.le_of_ble_eq_true rfl) (Nat.le_of_ble_eq_true rfl) (show 3 ≤ am_P0.2.2.1 191 from by decide +kernel) rfl (am_recv_ok hS608.fs) rfl rfl (ct_failName (d := (d + 5)) hS608   (by show (0 : Int) ≤ (10 : Int); omega) (by show (0 : Int) ≤ (f 8).toInt; omega)) ?_
                rintro v836 S837 (⟨a838, b839, hv840, hS841, h842⟩)
                subst hv840
                have h842_ : (0 : Int) ≤ a838.toInt := h842
                show am_E _ _ _ _ [some (.ref 39), some (.int (g 18 z0.toNatClampNeg)), some (.int r606)] [] _ _
                refine am_e2 (v := 39) hi_237_31 rfl ?_
                refine am_e1 (v := g 18 z0.toNatClampNeg) hi_237_32 rfl ?_
                refine am_e32n (as := [.ref 39, .int (g 18 z0.toNatClampNeg)]) (la := [some (.ref 39), some (.int (g 18 z0.toNatClampNeg)), none, none, none]) (rest := []) hi_237_33 (am_hd0 (M := 237) (by decide) 33) (Nat.le_of_ble_eq_true rfl) (Nat.le_of_ble_eq_true rfl) (show 2 ≤ am_P0.2.2.1 205 from by decide +kernel) rfl (am_recv_ok hS841.fs) rfl rfl (ct_resolve (d := (d + 4)) hS841 hR  (by show (0 : Int) ≤ (f 32).toInt; omega) (by show (f 32).toInt ≤ (63 : Int); omega) (by show (f 53).toInt ≤ (4096 : Int); omega) (by show (0 : Int) ≤ (f 24).toInt; omega) (by show (f 24).toInt ≤ (16384 : Int); omega) (by show (0 : Int) ≤ (f 62).toInt; omega) (by show (f 62).toInt ≤ (65000 : Int); omega) (by show (0 : Int) ≤ (g 18 z0.toNatClampNeg).toInt; omega) (by show (g 18 z0.toNatClampNeg).toInt ≤ (16383 : Int); omega)) ?_
                rintro v844 S845 (⟨o846, m847, g'848, r849, hv850, hS851, hR857, h852, h853, h854, h855, h856⟩)
                subst hv850
                have h852_ : (f 62).toInt ≤ o846.toInt := h852
                have h853_ : o846.toInt ≤ (f 62).toInt + 64 := h853
                have h854_ : (0 : Int) ≤ r849.toInt := h854
                have h855_ : r849.toInt ≤ (2 : Int) := h855
                have h856_ : ∀ j, j ∉ [63, 64, 65, 66, 67] → g'848 j = g j := h856
                have hR857_ : RJ (upd (upd (upd (upd f 8 a838) 9 b839) 62 o846) 75 m847) g'848 gs bc [] 0 [] := hR857
                show am_E _ _ _ _ [some (.ref 39), some (.int (g 18 z0.toNatClampNeg)), some (.int r606)] [.int r849] _ _
                refine am_e33 hi_237_36 ?_
                show am_E _ _ _ _ [some (.ref 39), some (.int on), some (.int tw), some (.int (g 16 z0.toNatClampNeg)), some (.int r3), some (.int 1), some (.int (g 18 z0.toNatClampNeg)), none] [.int r849] _ _
                refine am_e3 (ls' := [some (.ref 39), some (.int on), some (.int tw), some (.int (g 16 z0.toNatClampNeg)), some (.int r3), some (.int 1), some (.int (g 18 z0.toNatClampNeg)), some (.int r849)]) hi_264_126 (Nat.le_of_ble_eq_true rfl) rfl ?_
                refine am_e2 (v := 39) hi_264_128 rfl ?_
                refine am_e1 (v := r849) hi_264_129 rfl ?_
                refine am_e2 (v := 39) hi_264_131 rfl ?_
                refine mm_20 (v := .int m847) hS851 hi_264_132 rfl ?_
                refine am_e1 (v := g 18 z0.toNatClampNeg) hi_264_135 rfl ?_
                refine am_e32n (as := [.ref 39, .int r849, .int m847, .int (g 18 z0.toNatClampNeg)]) (la := [some (.ref 39), some (.int r849), some (.int m847), some (.int (g 18 z0.toNatClampNeg))]) (rest := []) hi_264_137 (am_hd0 (M := 264) (by decide) 137) (Nat.le_of_ble_eq_true rfl) (Nat.le_of_ble_eq_true rfl) (show 4 ≤ am_P0.2.2.1 239 from by decide +kernel) rfl (am_recv_ok hS851.fs) rfl rfl (ct_keep2 (d := (d + 6)) hS851 hR857_  (by show (0 : Int) ≤ (f 20).toInt; omega) (by show (f 20).toInt ≤ (16383 : Int); omega)) ?_
                rintro v858 S859 (⟨z860, g'861, hv862, hS863, hR867, h864, h865, h866⟩)
                subst hv862
                have h864_ : z860.toInt = (f 20).toInt + 1 := h864
                have h865_ : ∀ j, j ∉ [21, 22, 23] → g'861 j = g'848 j := h865
                have h866_ : g'861 23 = upd (g'848 23) (f 20).toNatClampNeg (g 18 z0.toNatClampNeg) := h866
                replace hS863 : MS S0 S859 (upd (upd (upd (upd (upd f 8 a838) 9 b839) 20 z860) 62 o846) 75 m847) g'861 := hS863
                have hR867_ : RJ (upd (upd (upd (upd (upd f 8 a838) 9 b839) 20 z860) 62 o846) 75 m847) g'861 gs bc [] 0 [] := hR867
                show am_E _ _ _ _ [some (.ref 39), some (.int on), some (.int tw), some (.int (g 16 z0.toNatClampNeg)), some (.int r3), some (.int 1), some (.int (g 18 z0.toNatClampNeg)), some (.int r849)] [] _ _
                refine am_e18 hi_264_140 ?_
                refine am_e2 (v := 39) hi_264_175 rfl ?_
                refine am_e7 hi_264_176 ?_
                refine mm_20 (v := .int (f 15)) hS863 hi_264_177 rfl ?_
                refine am_e0 hi_264_180 ?_
                refine am_e10 (z := z0) hi_264_181 hz0 ?_
                refine mm_21 (v := z0) hS863 hi_264_182 rfl (Nat.le_of_ble_eq_true rfl) ms_15 ?_
                intro S868 hS869
                replace hS869 : MS S0 S868 (upd (upd (upd (upd (upd (upd f 8 a838) 9 b839) 15 z0) 20 z860) 62 o846) 75 m847) g'861 := hS869
                have hp870 : mj_n (g 16) (f 15).toNatClampNeg 3 = mj_n (g 16) z0.toNatClampNeg 3 + if (g 16 z0.toNatClampNeg).toInt = 3 then 1 else 0 := mj_pop (by rw [cl_toNat, cl_toNat]; omega)
                have hp8701 : mj_n (g 16) z0.toNatClampNeg 3 ≤ mj_n (g 16) (f 15).toNatClampNeg 3 := by rw [hp870]; split <;> omega
                have hp8702 : (g 16 z0.toNatClampNeg).toInt = 3 → mj_n (g 16) z0.toNatClampNeg 3 + 1 ≤ mj_n (g 16) (f 15).toNatClampNeg 3 := fun q => by rw [hp870, if_pos q]; exact Int.le_refl _
                refine am_e2 (v := 39) hi_264_185 rfl ?_
                refine am_e7 hi_264_186 ?_
                refine mm_20 (v := .int (f 4)) hS869 hi_264_187 rfl ?_
                refine am_e0 hi_264_190 ?_
                obtain ⟨z871, hz871, tz871⟩ := am_addI (x := f 4) (y := 1) (m := (f 4).toInt) (n := (1 : Int)) rfl (by decide) (by omega) (by omega)
                refine am_e10 (z := z871) hi_264_191 hz871 ?_
                refine mm_21 (v := z871) hS869 hi_264_192 rfl (Nat.le_of_ble_eq_true rfl) ms_4 ?_
                intro S872 hS873
                replace hS873 : MS S0 S872 (upd (upd (upd (upd (upd (upd (upd f 4 z871) 8 a838) 9 b839) 15 z0) 20 z860) 62 o846) 75 m847) g'861 := hS873
                have hR874 : RJ (upd (upd (upd (upd (upd (upd (upd f 4 z871) 8 a838) 9 b839) 15 z0) 20 z860) 62 o846) 75 m847) g'861 gs bc [] 0 [] := RJ.at hR867_ (by show (f 4).toInt ≤ z871.toInt; omega)
                refine am_e1 (v := r3) hi_264_195 rfl ?_
                refine am_e0 hi_264_197 ?_
                refine am_e13f hi_264_199 (am_cF (m := r3.toInt) (n := (69 : Int)) rfl (by decide) (by simp only [am_cI]; omega)) ?_
                refine am_e2 (v := 39) hi_264_202 rfl ?_
                refine am_e0 hi_264_203 ?_
                refine am_e1 (v := on) hi_264_205 rfl ?_
                refine am_e0 hi_264_206 ?_
                obtain ⟨z875, hz875, tz875⟩ := am_addI (x := on) (y := 1) (m := on.toInt) (n := (1 : Int)) rfl (by decide) (by omega) (by omega)
                refine am_e10 (z := z875) hi_264_207 hz875 ?_
                refine am_e1 (v := tw) hi_264_208 rfl ?_
                refine am_e0 hi_264_209 ?_
                refine am_e32n (as := [.ref 39, .int 21, .int z875, .int tw, .int 0]) (la := [some (.ref 39), some (.int 21), some (.int z875), some (.int tw), some (.int 0)]) (rest := []) hi_264_210 (am_hd0 (M := 264) (by decide) 210) (Nat.le_of_ble_eq_true rfl) (Nat.le_of_ble_eq_true rfl) (show 5 ≤ am_P0.2.2.1 179 from by decide +kernel) rfl (am_recv_ok hS873.fs) rfl rfl (ct_pile (d := (d + 6)) hS873 hR874 (mj_e_plain (by decide)) (by show (0 : Int) ≤ (f 10).toInt; omega) (by show (f 10).toInt ≤ (65535 : Int); omega)) ?_
                rintro v876 S877 (⟨z878, g'879, hv880, hS881, hR884, h882, h883⟩)
                subst hv880
                have h882_ : z878.toInt = (f 10).toInt + 1 := h882
                have h883_ : ∀ j, j ∉ [11, 12, 13, 14] → g'879 j = g'861 j := h883
                replace hS881 : MS S0 S877 (upd (upd (upd (upd (upd (upd (upd (upd f 4 z871) 8 a838) 9 b839) 10 z878) 15 z0) 20 z860) 62 o846) 75 m847) g'879 := hS881
                have hR884_ : RJ (upd (upd (upd (upd (upd (upd (upd (upd f 4 z871) 8 a838) 9 b839) 10 z878) 15 z0) 20 z860) 62 o846) 75 m847) g'879 (((21 : Int), z875.toInt, tw.toInt, (0 : Int), []) :: gs) bc [] 0 [] := hR884
                show am_E _ _ _ _ [some (.ref 39), some (.int on), some (.int tw), some (.int (g 16 z0.toNatClampNeg)), some (.int r3), some (.int 1), some (.int (g 18 z0.toNatClampNeg)), some (.int r849)] [] _ _
                refine am_e2 (v := 39) hi_264_213 rfl ?_
                refine am_e0 hi_264_214 ?_
                refine am_e0 hi_264_216 ?_
                refine am_e0 hi_264_217 ?_
                refine am_e0 hi_264_218 ?_
                refine am_e32n (as := [.ref 39, .int 28, .int 0, .int 0, .int 0]) (la := [some (.ref 39), some (.int 28), some (.int 0), some (.int 0), some (.int 0)]) (rest := []) hi_264_219 (am_hd0 (M := 264) (by decide) 219) (Nat.le_of_ble_eq_true rfl) (Nat.le_of_ble_eq_true rfl) (show 5 ≤ am_P0.2.2.1 179 from by decide +kernel) rfl (am_recv_ok hS881.fs) rfl rfl (ct_pile (d := (d + 6)) hS881 hR884_ (mj_e_plain (by decide)) (by show (0 : Int) ≤ z878.toInt; omega) (by show z878.toInt ≤ (65535 : Int); omega)) ?_
                rintro v885 S886 (⟨z887, g'888, hv889, hS890, hR893, h891, h892⟩)
                subst hv889
                have h891_ : z887.toInt = z878.toInt + 1 := h891
                have h892_ : ∀ j, j ∉ [11, 12, 13, 14] → g'888 j = g'879 j := h892
                replace hS890 : MS S0 S886 (upd (upd (upd (upd (upd (upd (upd (upd f 4 z871) 8 a838) 9 b839) 10 z887) 15 z0) 20 z860) 62 o846) 75 m847) g'888 := hS890
                have hR893_ : RJ (upd (upd (upd (upd (upd (upd (upd (upd f 4 z871) 8 a838) 9 b839) 10 z887) 15 z0) 20 z860) 62 o846) 75 m847) g'888 (((28 : Int), (0 : Int), (0 : Int), (0 : Int), []) :: (((21 : Int), z875.toInt, tw.toInt, (0 : Int), []) :: gs)) bc [] 0 [] := hR893
                show am_E _ _ _ _ [some (.ref 39), some (.int on), some (.int tw), some (.int (g 16 z0.toNatClampNeg)), some (.int r3), some (.int 1), some (.int (g 18 z0.toNatClampNeg)), some (.int r849)] [] _ _
                refine am_e2 (v := 39) hi_264_222 rfl ?_
                refine am_e32w (as := [.ref 39]) (la := [some (.ref 39)]) (rest := []) hi_264_223 (am_hd0 (M := 264) (by decide) 223) (Nat.le_of_ble_eq_true rfl) (Nat.le_of_ble_eq_true rfl) (show 1 ≤ am_P0.2.2.1 201 from by decide +kernel) rfl (am_recv_ok hS890.fs) rfl rfl ?_
                refine am_e2 (v := 39) hi_201_0 rfl ?_
                refine am_e32n (as := [.ref 39]) (la := [some (.ref 39)]) (rest := []) hi_201_1 (am_hd0 (M := 201) (by decide) 1) (Nat.le_of_ble_eq_true rfl) (Nat.le_of_ble_eq_true rfl) (show 1 ≤ am_P0.2.2.1 183 from by decide +kernel) rfl (am_recv_ok hS890.fs) rfl rfl (ct_next (d := (d + 4)) hS890   (by show (0 : Int) ≤ z871.toInt; omega) (by show (f 0).toInt ≤ (16384 : Int); omega)) ?_
                rintro v894 S895 (⟨r896, hv897, hS898, h899⟩)
                subst hv897
                have h899_ : z871.toInt < (f 0).toInt ∨ r896.toInt = (-1 : Int) := h899
                show am_E _ _ _ _ [some (.ref 39)] [.int r896] _ _
                refine am_e0 hi_201_4 ?_
                by_cases c901 : ¬ r896.toInt = (1 : Int)
                · refine am_e13t hi_201_5 (am_cT (m := r896.toInt) (n := (1 : Int)) rfl (by decide) c901) ?_
                  refine am_e2 (v := 39) hi_201_31 rfl ?_
                  refine am_e0 hi_201_32 ?_
                  refine am_e32n (as := [.ref 39, .int 60]) (la := [some (.ref 39), some (.int 60)]) (rest := []) hi_201_34 (am_hd0 (M := 201) (by decide) 34) (Nat.le_of_ble_eq_true rfl) (Nat.le_of_ble_eq_true rfl) (show 2 ≤ am_P0.2.2.1 193 from by decide +kernel) rfl (am_recv_ok hS898.fs) rfl rfl (ct_enter (d := (d + 3)) hS898   (by show (0 : Int) ≤ z871.toInt; omega) (by show (f 0).toInt ≤ (16384 : Int); omega) (by show (0 : Int) ≤ (60 : Int); omega) (by show (0 : Int) ≤ (f 5).toInt; omega) (by show (f 5).toInt ≤ (48 : Int); omega) (by show (0 : Int) ≤ (f 6).toInt; omega)) ?_
                  rintro v902 S903 (⟨z904, y905, hv906, hS907, h908, h909, h910, h911⟩ | ⟨a913, b914, hv915, hS916, h917⟩)
                  · subst hv906
                    have h908_ : z904.toInt = z871.toInt + 1 := h908
                    have h909_ : z871.toInt < (f 0).toInt := h909
                    have h910_ : y905.toInt = (f 5).toInt + 1 := h910
                    have h911_ : y905.toInt ≤ (48 : Int) := h911
                    replace hS907 : MS S0 S903 (upd (upd (upd (upd (upd (upd (upd (upd (upd f 4 z904) 5 y905) 8 a838) 9 b839) 10 z887) 15 z0) 20 z860) 62 o846) 75 m847) g'888 := hS907
                    have hR919 : RJ (upd (upd (upd (upd (upd (upd (upd (upd (upd f 4 z904) 5 y905) 8 a838) 9 b839) 10 z887) 15 z0) 20 z860) 62 o846) 75 m847) g'888 (((28 : Int), (0 : Int), (0 : Int), (0 : Int), []) :: (((21 : Int), z875.toInt, tw.toInt, (0 : Int), []) :: gs)) bc [] 0 [] := RJ.at hR893_ (by show z871.toInt ≤ z904.toInt; omega)
                    show am_E _ _ _ _ [some (.ref 39)] [.int 1] _ _
                    refine am_e12f hi_201_37 (by decide) ?_
                    refine am_e2 (v := 39) hi_201_40 rfl ?_
                    refine am_e0 hi_201_41 ?_
                    refine am_e0 hi_201_43 ?_
                    refine am_e0 hi_201_44 ?_
                    refine am_e0 hi_201_45 ?_
                    refine am_e32n (as := [.ref 39, .int 29, .int 0, .int 0, .int 0]) (la := [some (.ref 39), some (.int 29), some (.int 0), some (.int 0), some (.int 0)]) (rest := []) hi_201_46 (am_hd0 (M := 201) (by decide) 46) (Nat.le_of_ble_eq_true rfl) (Nat.le_of_ble_eq_true rfl) (show 5 ≤ am_P0.2.2.1 179 from by decide +kernel) rfl (am_recv_ok hS907.fs) rfl rfl (ct_pile (d := (d + 5)) hS907 hR919 (mj_e_plain (by decide)) (by show (0 : Int) ≤ z887.toInt; omega) (by show z887.toInt ≤ (65535 : Int); omega)) ?_
                    rintro v920 S921 (⟨z922, g'923, hv924, hS925, hR928, h926, h927⟩)
                    subst hv924
                    have h926_ : z922.toInt = z887.toInt + 1 := h926
                    have h927_ : ∀ j, j ∉ [11, 12, 13, 14] → g'923 j = g'888 j := h927
                    replace hS925 : MS S0 S921 (upd (upd (upd (upd (upd (upd (upd (upd (upd f 4 z904) 5 y905) 8 a838) 9 b839) 10 z922) 15 z0) 20 z860) 62 o846) 75 m847) g'923 := hS925
                    have hR928_ : RJ (upd (upd (upd (upd (upd (upd (upd (upd (upd f 4 z904) 5 y905) 8 a838) 9 b839) 10 z922) 15 z0) 20 z860) 62 o846) 75 m847) g'923 (((29 : Int), (0 : Int), (0 : Int), (0 : Int), []) :: (((28 : Int), (0 : Int), (0 : Int), (0 : Int), []) :: (((21 : Int), z875.toInt, tw.toInt, (0 : Int), []) :: gs))) bc [] 0 [] := hR928
                    show am_E _ _ _ _ [some (.ref 39)] [] _ _
                    refine am_e2 (v := 39) hi_201_49 rfl ?_
                    refine am_e0 hi_201_50 ?_
                    refine am_e32w (as := [.ref 39, .int 0]) (la := [some (.ref 39), some (.int 0)]) (rest := []) hi_201_51 (am_hd0 (M := 201) (by decide) 51) (Nat.le_of_ble_eq_true rfl) (Nat.le_of_ble_eq_true rfl) (show 2 ≤ am_P0.2.2.1 186 from by decide +kernel) rfl (am_recv_ok hS925.fs) rfl rfl ?_
                    refine am_e2 (v := 39) hi_186_0 rfl ?_
                    refine am_e0 hi_186_1 ?_
                    refine am_e1 (v := 0) hi_186_3 rfl ?_
                    refine am_e0 hi_186_4 ?_
                    refine am_e0 hi_186_5 ?_
                    refine am_e32n (as := [.ref 39, .int 23, .int 0, .int 0, .int 0]) (la := [some (.ref 39), some (.int 23), some (.int 0), some (.int 0), some (.int 0)]) (rest := []) hi_186_6 (am_hd0 (M := 186) (by decide) 6) (Nat.le_of_ble_eq_true rfl) (Nat.le_of_ble_eq_true rfl) (show 5 ≤ am_P0.2.2.1 179 from by decide +kernel) rfl (am_recv_ok hS925.fs) rfl rfl (ct_pile (d := (d + 4)) hS925 hR928_ (mj_e_plain (by decide)) (by show (0 : Int) ≤ z922.toInt; omega) (by show z922.toInt ≤ (65535 : Int); omega)) ?_
                    rintro v929 S930 (⟨z931, g'932, hv933, hS934, hR937, h935, h936⟩)
                    subst hv933
                    have h935_ : z931.toInt = z922.toInt + 1 := h935
                    have h936_ : ∀ j, j ∉ [11, 12, 13, 14] → g'932 j = g'923 j := h936
                    replace hS934 : MS S0 S930 (upd (upd (upd (upd (upd (upd (upd (upd (upd f 4 z904) 5 y905) 8 a838) 9 b839) 10 z931) 15 z0) 20 z860) 62 o846) 75 m847) g'932 := hS934
                    have hR937_ : RJ (upd (upd (upd (upd (upd (upd (upd (upd (upd f 4 z904) 5 y905) 8 a838) 9 b839) 10 z931) 15 z0) 20 z860) 62 o846) 75 m847) g'932 (((23 : Int), (0 : Int), (0 : Int), (0 : Int), []) :: (((29 : Int), (0 : Int), (0 : Int), (0 : Int), []) :: (((28 : Int), (0 : Int), (0 : Int), (0 : Int), []) :: (((21 : Int), z875.toInt, tw.toInt, (0 : Int), []) :: gs)))) bc [] 0 [] := hR937
                    show am_E _ _ _ _ [some (.ref 39), some (.int 0)] [] _ _
                    refine am_e35 hi_186_9 ?_
                    show am_E _ _ _ _ [some (.ref 39)] [] _ _
                    refine am_e35 hi_201_54 ?_
                    show am_E _ _ _ _ [some (.ref 39), some (.int on), some (.int tw), some (.int (g 16 z0.toNatClampNeg)), some (.int r3), some (.int 1), some (.int (g 18 z0.toNatClampNeg)), some (.int r849)] [] _ _
                    refine am_e18 hi_264_226 ?_
                    refine am_e35 hi_264_244 ?_
                    show am_E _ _ _ _ [some (.ref 39), some (.int 21), some (.int on), some (.int tw), some (.int th)] [] _ _
                    refine am_e18 hi_180_362 ?_
                    refine am_e35 hi_180_371 ?_
                    have q1 : mg_p1 (((23 : Int), (0 : Int), (0 : Int), (0 : Int), []) :: (((29 : Int), (0 : Int), (0 : Int), (0 : Int), []) :: (((28 : Int), (0 : Int), (0 : Int), (0 : Int), []) :: (((21 : Int), z875.toInt, tw.toInt, (0 : Int), []) :: gs)))) = 0 + (0 + (0 + (0 + (mg_p1 gs)))) := rfl
                    have q2 : mg_p2 (((23 : Int), (0 : Int), (0 : Int), (0 : Int), []) :: (((29 : Int), (0 : Int), (0 : Int), (0 : Int), []) :: (((28 : Int), (0 : Int), (0 : Int), (0 : Int), []) :: (((21 : Int), z875.toInt, tw.toInt, (0 : Int), []) :: gs)))) = 0 + (0 + (0 + (0 + (mg_p2 gs)))) := rfl
                    have q3 : mg_p3 (((23 : Int), (0 : Int), (0 : Int), (0 : Int), []) :: (((29 : Int), (0 : Int), (0 : Int), (0 : Int), []) :: (((28 : Int), (0 : Int), (0 : Int), (0 : Int), []) :: (((21 : Int), z875.toInt, tw.toInt, (0 : Int), []) :: gs)))) = 1 + (1 + (1 + (1 + (mg_p3 gs)))) := rfl
                    have q4 : mg_p4 (((23 : Int), (0 : Int), (0 : Int), (0 : Int), []) :: (((29 : Int), (0 : Int), (0 : Int), (0 : Int), []) :: (((28 : Int), (0 : Int), (0 : Int), (0 : Int), []) :: (((21 : Int), z875.toInt, tw.toInt, (0 : Int), []) :: gs)))) = 0 + (0 + (0 + (0 + (mg_p4 gs)))) := rfl
                    refine ⟨_, _, _, bc, rfl, hS934, Or.inl ⟨⟨hR937_, ?_, ?_⟩, rfl, ?_⟩⟩
                    · exact (⟨⟨(show mg_k 23 from by decide), (show (0 : Int) ≤ z0.toInt from by omega), (show 0 ≤ z860.toInt from by omega), (show 1 ≤ (f 37).toInt from by omega), (show 0 ≤ (f 32).toInt from by omega), (show (f 32).toInt ≤ y905.toInt from by omega), (show y905.toInt ≤ 48 from by omega), (show (f 37).toInt ≤ 2 * (y905.toInt) + 2 from by omega), (show 0 ≤ (0 : Int) from by omega)⟩, ⟨⟨(show mg_k 29 from by decide), (show (1 : Int) ≤ z0.toInt + 1 from by omega), (show 0 ≤ z860.toInt from by omega), (show 1 ≤ (f 37).toInt + 0 from by omega), (show 0 ≤ (f 32).toInt + 0 from by omega), (show (f 32).toInt + 0 ≤ y905.toInt + 0 from by omega), (show y905.toInt + 0 ≤ 48 from by omega), (show (f 37).toInt + 0 ≤ 2 * (y905.toInt + 0) + 2 from by omega), trivial⟩, ⟨⟨(show mg_k 28 from by decide), (show (1 : Int) ≤ z0.toInt + 1 + 0 from by omega), (show 0 ≤ z860.toInt from by omega), (show 1 ≤ (f 37).toInt + 0 + 0 from by omega), (show 0 ≤ (f 32).toInt + 0 + 0 from by omega), (show (f 32).toInt + 0 + 0 ≤ y905.toInt + 0 + -1 from by omega), (show y905.toInt + 0 + -1 ≤ 48 from by omega), (show (f 37).toInt + 0 + 0 ≤ 2 * (y905.toInt + 0 + -1) + 2 from by omega), trivial⟩, ⟨⟨(show mg_k 21 from by decide), (show (1 : Int) ≤ z0.toInt + 1 + 0 + 0 from by omega), (show 0 ≤ z860.toInt from by omega), (show 1 ≤ (f 37).toInt + 0 + 0 + 0 from by omega), (show 0 ≤ (f 32).toInt + 0 + 0 + 0 from by omega), (show (f 32).toInt + 0 + 0 + 0 ≤ y905.toInt + 0 + -1 + 0 from by omega), (show y905.toInt + 0 + -1 + 0 ≤ 48 from by omega), (show (f 37).toInt + 0 + 0 + 0 ≤ 2 * (y905.toInt + 0 + -1 + 0) + 1 from by omega), ⟨(show 0 ≤ z875.toInt from by omega), (show 0 ≤ tw.toInt from by omega), (show z860.toInt = tw.toInt + z875.toInt from by omega)⟩⟩, mg_cast (mg_good_ext _ _ _ _ _ _ (fun i _ => by show g'932 34 i = g 34 i; rw [show g'932 34 = g'923 34 from h936_ 34 (by decide), show g'923 34 = g'888 34 from h927_ 34 (by decide), show g'888 34 = g'879 34 from h892_ 34 (by decide), show g'879 34 = g'861 34 from h883_ 34 (by decide), show g'861 34 = g'848 34 from h865_ 34 (by decide), show g'848 34 = g 34 from h856_ 34 (by decide)]) (fun i _ => by show g'932 38 i = g 38 i; rw [show g'932 38 = g'923 38 from h936_ 38 (by decide), show g'923 38 = g'888 38 from h927_ 38 (by decide), show g'888 38 = g'879 38 from h892_ 38 (by decide), show g'879 38 = g'861 38 from h883_ 38 (by decide), show g'861 38 = g'848 38 from h865_ 38 (by decide), show g'848 38 = g 38 from h856_ 38 (by decide)]) (fun i hi => by show g'932 23 i = g 23 i; rw [show g'932 23 = g'923 23 from h936_ 23 (by decide), show g'923 23 = g'888 23 from h927_ 23 (by decide), show g'888 23 = g'879 23 from h892_ 23 (by decide), show g'879 23 = g'861 23 from h883_ 23 (by decide), h866_, show g'848 23 = g 23 from h856_ 23 (by decide)]; exact upd_ne (by rw [cl_toNat]; omega)) hrest) (by show (f 15).toInt + -1 = z0.toInt + 1 + 0 + 0 + -1; omega) (by show tw.toInt = tw.toInt; omega) (by show (f 37).toInt + 0 = (f 37).toInt + 0 + 0 + 0 + 0; omega) (by show (f 32).toInt + 0 = (f 32).toInt + 0 + 0 + 0 + 0; omega) (by show (f 5).toInt + 0 = y905.toInt + 0 + -1 + 0 + 0; omega)⟩⟩⟩⟩ : mg_good (g'932 34) (g'932 38) (g'932 23) (((23 : Int), (0 : Int), (0 : Int), (0 : Int), []) :: (((29 : Int), (0 : Int), (0 : Int), (0 : Int), []) :: (((28 : Int), (0 : Int), (0 : Int), (0 : Int), []) :: (((21 : Int), z875.toInt, tw.toInt, (0 : Int), []) :: gs)))) (z0.toInt) (z860.toInt) ((f 37).toInt) ((f 32).toInt) (y905.toInt))
                    · exact ⟨(by show 0 ≤ z904.toInt; omega), (by show z904.toInt ≤ (f 0).toInt; omega), (by show (f 0).toInt ≤ 512; omega), (by show 0 ≤ (f 24).toInt; omega), (by show (f 24).toInt + z860.toInt + mg_p1 (((23 : Int), (0 : Int), (0 : Int), (0 : Int), []) :: (((29 : Int), (0 : Int), (0 : Int), (0 : Int), []) :: (((28 : Int), (0 : Int), (0 : Int), (0 : Int), []) :: (((21 : Int), z875.toInt, tw.toInt, (0 : Int), []) :: gs)))) ≤ 4 * z904.toInt; omega), (by show z860.toInt ≤ z904.toInt; omega), (by show z0.toInt + mg_p2 (((23 : Int), (0 : Int), (0 : Int), (0 : Int), []) :: (((29 : Int), (0 : Int), (0 : Int), (0 : Int), []) :: (((28 : Int), (0 : Int), (0 : Int), (0 : Int), []) :: (((21 : Int), z875.toInt, tw.toInt, (0 : Int), []) :: gs)))) ≤ z904.toInt; omega), (by show mg_p3 (((23 : Int), (0 : Int), (0 : Int), (0 : Int), []) :: (((29 : Int), (0 : Int), (0 : Int), (0 : Int), []) :: (((28 : Int), (0 : Int), (0 : Int), (0 : Int), []) :: (((21 : Int), z875.toInt, tw.toInt, (0 : Int), []) :: gs)))) ≤ 20 * z904.toInt + 20; omega), (by show 0 ≤ (f 68).toInt; omega), (by show (f 68).toInt + 3 * z860.toInt + mg_p4 (((23 : Int), (0 : Int), (0 : Int), (0 : Int), []) :: (((29 : Int), (0 : Int), (0 : Int), (0 : Int), []) :: (((28 : Int), (0 : Int), (0 : Int), (0 : Int), []) :: (((21 : Int), z875.toInt, tw.toInt, (0 : Int), []) :: gs)))) ≤ 60 * z904.toInt + 60; omega), (by show 0 ≤ o846.toInt; omega), (by show o846.toInt + 64 * mj_n (g'932 16) z0.toNatClampNeg 3 ≤ 64 * z904.toInt; rw [show g'932 16 = g'923 16 from h936_ 16 (by decide), show g'923 16 = g'888 16 from h927_ 16 (by decide), show g'888 16 = g'879 16 from h892_ 16 (by decide), show g'879 16 = g'861 16 from h883_ 16 (by decide), show g'861 16 = g'848 16 from h865_ 16 (by decide), show g'848 16 = g 16 from h856_ 16 (by decide)]; omega), (by show 0 ≤ (f 44).toInt; omega), (by show (f 44).toInt ≤ z904.toInt; omega), (by show 0 ≤ (f 48).toInt; omega), (by show (f 48).toInt ≤ z904.toInt; omega), (by show 1 ≤ (f 53).toInt; omega), (by show (f 53).toInt ≤ z904.toInt + 1; omega), (by show 0 ≤ (f 19).toInt; omega), (by show (f 19).toInt ≤ 600; omega), (by show 0 ≤ (f 6).toInt; omega), (by show 0 ≤ a838.toInt; omega)⟩
                    · show 100 * ((f 0).toInt - z904.toInt) + mg_p3 (((23 : Int), (0 : Int), (0 : Int), (0 : Int), []) :: (((29 : Int), (0 : Int), (0 : Int), (0 : Int), []) :: (((28 : Int), (0 : Int), (0 : Int), (0 : Int), []) :: (((21 : Int), z875.toInt, tw.toInt, (0 : Int), []) :: gs)))) < 100 * ((f 0).toInt - (f 4).toInt) + (1 + mg_p3 gs); omega
                  · subst hv915
                    have h917_ : (0 : Int) ≤ a913.toInt := h917
                    replace hS916 : MS S0 S903 (upd (upd (upd (upd (upd (upd (upd (upd (upd (upd f 4 z871) 6 a913) 7 b914) 8 a838) 9 b839) 10 0) 15 z0) 20 z860) 62 o846) 75 m847) g'888 := hS916
                    have hR938 := rj_clear0 hR893_
                    have hR939 : RJ (upd (upd (upd (upd (upd (upd (upd (upd (upd (upd f 4 z871) 6 a913) 7 b914) 8 a838) 9 b839) 10 0) 15 z0) 20 z860) 62 o846) 75 m847) g'888 [] bc [] 0 [] := hR938
                    show am_E _ _ _ _ [some (.ref 39)] [.int 0] _ _
                    refine am_e12t hi_201_37 (by decide) ?_
                    refine am_e35 hi_201_54 ?_
                    show am_E _ _ _ _ [some (.ref 39), some (.int on), some (.int tw), some (.int (g 16 z0.toNatClampNeg)), some (.int r3), some (.int 1), some (.int (g 18 z0.toNatClampNeg)), some (.int r849)] [] _ _
                    refine am_e18 hi_264_226 ?_
                    refine am_e35 hi_264_244 ?_
                    show am_E _ _ _ _ [some (.ref 39), some (.int 21), some (.int on), some (.int tw), some (.int th)] [] _ _
                    refine am_e18 hi_180_362 ?_
                    refine am_e35 hi_180_371 ?_
                    have hRc := rj_clear0 hR939
                    refine ⟨_, _, [], _, rfl, hS916, Or.inr ⟨hRc, rfl, (by show 0 ≤ z871.toInt; omega), (by show z871.toInt ≤ (f 0).toInt; omega), (by show 0 ≤ (f 32).toInt; omega), (by show (f 32).toInt ≤ 63; omega), (by show 1 ≤ (f 53).toInt; omega), (by show (f 53).toInt ≤ 600; omega), (by show 0 ≤ (f 68).toInt; omega), (by show (f 68).toInt ≤ 60000; omega), (by show 0 ≤ (f 48).toInt; omega), (by show (f 48).toInt ≤ 8000; omega), (by show 0 ≤ (f 37).toInt; omega), (by show (f 37).toInt ≤ 128; omega), (by show 0 ≤ o846.toInt; omega), (by show o846.toInt ≤ 65000; omega), (by show 0 ≤ (f 19).toInt; omega), (by show (f 19).toInt ≤ 600; omega), (by show 0 ≤ a913.toInt; omega), (by show 0 ≤ a838.toInt; omega)⟩⟩
                · refine am_e13f hi_201_5 (am_cF (m := r896.toInt) (n := (1 : Int)) rfl (by decide) c901) ?_
                  refine am_e2 (v := 39) hi_201_8 rfl ?_
                  refine am_e0 hi_201_9 ?_
                  refine am_e0 hi_201_10 ?_
                  refine am_e2 (v := 39) hi_201_11 rfl ?_
                  refine mm_20 (v := .int z871) hS898 hi_201_12 rfl ?_
                  refine am_e32n (as := [.ref 39, .int 3, .int 0, .int z871]) (la := [some (.ref 39), some (.int 3), some (.int 0), some (.int z871)]) (rest := []) hi_201_15 (am_hd0 (M := 201) (by decide) 15) (Nat.le_of_ble_eq_true rfl) (Nat.le_of_ble_eq_true rfl) (show 4 ≤ am_P0.2.2.1 190 from by decide +kernel) rfl (am_recv_ok hS898.fs) rfl rfl (ct_value (d := (d + 5)) hS898 hR893_ (fun _ => ⟨by omega, by omega⟩) (fun h => absurd h (by decide)) (by show (0 : Int) ≤ z0.toInt; omega) (by show z0.toInt ≤ (32767 : Int); omega)) ?_
                  rintro v940 S941 (⟨z942, g'943, hv944, hS945, hR950, h946, h947, h948, h949⟩)
                  subst hv944
                  have h946_ : z942.toInt = z0.toInt + 1 := h946
                  have h947_ : ∀ j, j ∉ [16, 17, 18] → g'943 j = g'888 j := h947
                  have h948_ : mj_n (g'943 16) z942.toNatClampNeg 3 ≤ mj_n (g 16) z0.toNatClampNeg 3 + 1 := by rw [show g'888 16 = g'879 16 from h892_ 16 (by decide), show g'879 16 = g'861 16 from h883_ 16 (by decide), show g'861 16 = g'848 16 from h865_ 16 (by decide), show g'848 16 = g 16 from h856_ 16 (by decide)] at h948; exact h948
                  have h949_ : (3 : Int) = 3 ∨ mj_n (g'943 16) z942.toNatClampNeg 3 ≤ mj_n (g 16) z0.toNatClampNeg 3 := by rw [show g'888 16 = g'879 16 from h892_ 16 (by decide), show g'879 16 = g'861 16 from h883_ 16 (by decide), show g'861 16 = g'848 16 from h865_ 16 (by decide), show g'848 16 = g 16 from h856_ 16 (by decide)] at h949; exact h949
                  replace hS945 : MS S0 S941 (upd (upd (upd (upd (upd (upd (upd (upd f 4 z871) 8 a838) 9 b839) 10 z887) 15 z942) 20 z860) 62 o846) 75 m847) g'943 := hS945
                  have hR950_ : RJ (upd (upd (upd (upd (upd (upd (upd (upd f 4 z871) 8 a838) 9 b839) 10 z887) 15 z942) 20 z860) 62 o846) 75 m847) g'943 (((28 : Int), (0 : Int), (0 : Int), (0 : Int), []) :: (((21 : Int), z875.toInt, tw.toInt, (0 : Int), []) :: gs)) bc [] 0 [] := hR950
                  show am_E _ _ _ _ [some (.ref 39)] [] _ _
                  refine am_e2 (v := 39) hi_201_18 rfl ?_
                  refine am_e7 hi_201_19 ?_
                  refine mm_20 (v := .int z871) hS945 hi_201_20 rfl ?_
                  refine am_e0 hi_201_23 ?_
                  obtain ⟨z951, hz951, tz951⟩ := am_addI (x := z871) (y := 1) (m := z871.toInt) (n := (1 : Int)) rfl (by decide) (by omega) (by omega)
                  refine am_e10 (z := z951) hi_201_24 hz951 ?_
                  refine mm_21 (v := z951) hS945 hi_201_25 rfl (Nat.le_of_ble_eq_true rfl) ms_4 ?_
                  intro S952 hS953
                  replace hS953 : MS S0 S952 (upd (upd (upd (upd (upd (upd (upd (upd f 4 z951) 8 a838) 9 b839) 10 z887) 15 z942) 20 z860) 62 o846) 75 m847) g'943 := hS953
                  have hR954 : RJ (upd (upd (upd (upd (upd (upd (upd (upd f 4 z951) 8 a838) 9 b839) 10 z887) 15 z942) 20 z860) 62 o846) 75 m847) g'943 (((28 : Int), (0 : Int), (0 : Int), (0 : Int), []) :: (((21 : Int), z875.toInt, tw.toInt, (0 : Int), []) :: gs)) bc [] 0 [] := RJ.at hR950_ (by show z871.toInt ≤ z951.toInt; omega)
                  refine am_e18 hi_201_28 ?_
                  refine am_e35 hi_201_54 ?_
                  show am_E _ _ _ _ [some (.ref 39), some (.int on), some (.int tw), some (.int (g 16 z0.toNatClampNeg)), some (.int r3), some (.int 1), some (.int (g 18 z0.toNatClampNeg)), some (.int r849)] [] _ _
                  refine am_e18 hi_264_226 ?_
                  refine am_e35 hi_264_244 ?_
                  show am_E _ _ _ _ [some (.ref 39), some (.int 21), some (.int on), some (.int tw), some (.int th)] [] _ _
                  refine am_e18 hi_180_362 ?_
                  refine am_e35 hi_180_371 ?_
                  have q1 : mg_p1 (((28 : Int), (0 : Int), (0 : Int), (0 : Int), []) :: (((21 : Int), z875.toInt, tw.toInt, (0 : Int), []) :: gs)) = 0 + (0 + (mg_p1 gs)) := rfl
                  have q2 : mg_p2 (((28 : Int), (0 : Int), (0 : Int), (0 : Int), []) :: (((21 : Int), z875.toInt, tw.toInt, (0 : Int), []) :: gs)) = 0 + (0 + (mg_p2 gs)) := rfl
                  have q3 : mg_p3 (((28 : Int), (0 : Int), (0 : Int), (0 : Int), []) :: (((21 : Int), z875.toInt, tw.toInt, (0 : Int), []) :: gs)) = 1 + (1 + (mg_p3 gs)) := rfl
                  have q4 : mg_p4 (((28 : Int), (0 : Int), (0 : Int), (0 : Int), []) :: (((21 : Int), z875.toInt, tw.toInt, (0 : Int), []) :: gs)) = 0 + (0 + (mg_p4 gs)) := rfl
                  refine ⟨_, _, _, bc, rfl, hS953, Or.inl ⟨⟨hR954, ?_, ?_⟩, rfl, ?_⟩⟩
                  · exact (⟨⟨(show mg_k 28 from by decide), (show (1 : Int) ≤ z942.toInt from by omega), (show 0 ≤ z860.toInt from by omega), (show 1 ≤ (f 37).toInt from by omega), (show 0 ≤ (f 32).toInt from by omega), (show (f 32).toInt ≤ (f 5).toInt from by omega), (show (f 5).toInt ≤ 48 from by omega), (show (f 37).toInt ≤ 2 * ((f 5).toInt) + 2 from by omega), trivial⟩, ⟨⟨(show mg_k 21 from by decide), (show (1 : Int) ≤ z942.toInt + 0 from by omega), (show 0 ≤ z860.toInt from by omega), (show 1 ≤ (f 37).toInt + 0 from by omega), (show 0 ≤ (f 32).toInt + 0 from by omega), (show (f 32).toInt + 0 ≤ (f 5).toInt + 0 from by omega), (show (f 5).toInt + 0 ≤ 48 from by omega), (show (f 37).toInt + 0 ≤ 2 * ((f 5).toInt + 0) + 1 from by omega), ⟨(show 0 ≤ z875.toInt from by omega), (show 0 ≤ tw.toInt from by omega), (show z860.toInt = tw.toInt + z875.toInt from by omega)⟩⟩, mg_cast (mg_good_ext _ _ _ _ _ _ (fun i _ => by show g'943 34 i = g 34 i; rw [show g'943 34 = g'888 34 from h947_ 34 (by decide), show g'888 34 = g'879 34 from h892_ 34 (by decide), show g'879 34 = g'861 34 from h883_ 34 (by decide), show g'861 34 = g'848 34 from h865_ 34 (by decide), show g'848 34 = g 34 from h856_ 34 (by decide)]) (fun i _ => by show g'943 38 i = g 38 i; rw [show g'943 38 = g'888 38 from h947_ 38 (by decide), show g'888 38 = g'879 38 from h892_ 38 (by decide), show g'879 38 = g'861 38 from h883_ 38 (by decide), show g'861 38 = g'848 38 from h865_ 38 (by decide), show g'848 38 = g 38 from h856_ 38 (by decide)]) (fun i hi => by show g'943 23 i = g 23 i; rw [show g'943 23 = g'888 23 from h947_ 23 (by decide), show g'888 23 = g'879 23 from h892_ 23 (by decide), show g'879 23 = g'861 23 from h883_ 23 (by decide), h866_, show g'848 23 = g 23 from h856_ 23 (by decide)]; exact upd_ne (by rw [cl_toNat]; omega)) hrest) (by show (f 15).toInt + -1 = z942.toInt + 0 + -1; omega) (by show tw.toInt = tw.toInt; omega) (by show (f 37).toInt + 0 = (f 37).toInt + 0 + 0; omega) (by show (f 32).toInt + 0 = (f 32).toInt + 0 + 0; omega) (by show (f 5).toInt + 0 = (f 5).toInt + 0 + 0; omega)⟩⟩ : mg_good (g'943 34) (g'943 38) (g'943 23) (((28 : Int), (0 : Int), (0 : Int), (0 : Int), []) :: (((21 : Int), z875.toInt, tw.toInt, (0 : Int), []) :: gs)) (z942.toInt) (z860.toInt) ((f 37).toInt) ((f 32).toInt) ((f 5).toInt))
                  · exact ⟨(by show 0 ≤ z951.toInt; omega), (by show z951.toInt ≤ (f 0).toInt; omega), (by show (f 0).toInt ≤ 512; omega), (by show 0 ≤ (f 24).toInt; omega), (by show (f 24).toInt + z860.toInt + mg_p1 (((28 : Int), (0 : Int), (0 : Int), (0 : Int), []) :: (((21 : Int), z875.toInt, tw.toInt, (0 : Int), []) :: gs)) ≤ 4 * z951.toInt; omega), (by show z860.toInt ≤ z951.toInt; omega), (by show z942.toInt + mg_p2 (((28 : Int), (0 : Int), (0 : Int), (0 : Int), []) :: (((21 : Int), z875.toInt, tw.toInt, (0 : Int), []) :: gs)) ≤ z951.toInt; omega), (by show mg_p3 (((28 : Int), (0 : Int), (0 : Int), (0 : Int), []) :: (((21 : Int), z875.toInt, tw.toInt, (0 : Int), []) :: gs)) ≤ 20 * z951.toInt + 20; omega), (by show 0 ≤ (f 68).toInt; omega), (by show (f 68).toInt + 3 * z860.toInt + mg_p4 (((28 : Int), (0 : Int), (0 : Int), (0 : Int), []) :: (((21 : Int), z875.toInt, tw.toInt, (0 : Int), []) :: gs)) ≤ 60 * z951.toInt + 60; omega), (by show 0 ≤ o846.toInt; omega), (by show o846.toInt + 64 * mj_n (g'943 16) z942.toNatClampNeg 3 ≤ 64 * z951.toInt; omega), (by show 0 ≤ (f 44).toInt; omega), (by show (f 44).toInt ≤ z951.toInt; omega), (by show 0 ≤ (f 48).toInt; omega), (by show (f 48).toInt ≤ z951.toInt; omega), (by show 1 ≤ (f 53).toInt; omega), (by show (f 53).toInt ≤ z951.toInt + 1; omega), (by show 0 ≤ (f 19).toInt; omega), (by show (f 19).toInt ≤ 600; omega), (by show 0 ≤ (f 6).toInt; omega), (by show 0 ≤ a838.toInt; omega)⟩
                  · show 100 * ((f 0).toInt - z951.toInt) + mg_p3 (((28 : Int), (0 : Int), (0 : Int), (0 : Int), []) :: (((21 : Int), z875.toInt, tw.toInt, (0 : Int), []) :: gs)) < 100 * ((f 0).toInt - (f 4).toInt) + (1 + mg_p3 gs); omega
      · refine am_e13f hi_264_41 (am_cF (m := (g 16 z0.toNatClampNeg).toInt) (n := (1 : Int)) rfl (by decide) c383) ?_
        refine am_e1 (v := on) hi_264_44 rfl ?_
        by_cases c955 : ¬ on.toInt = (0 : Int)
        · refine am_e12t hi_264_45 (am_cT (m := on.toInt) (n := (0 : Int)) rfl (by decide) c955) ?_
          refine am_e1 (v := g 16 z0.toNatClampNeg) hi_264_84 rfl ?_
          refine am_e0 hi_264_85 ?_
          refine am_e13t hi_264_86 (am_cT (m := (g 16 z0.toNatClampNeg).toInt) (n := (3 : Int)) rfl (by decide) (by simp only [am_cI]; omega)) ?_
          refine am_e2 (v := 39) hi_264_94 rfl ?_
          refine am_e0 hi_264_95 ?_
          refine am_e32n (as := [.ref 39, .int 7]) (la := [some (.ref 39), some (.int 7)]) (rest := []) hi_264_97 (am_hd0 (M := 264) (by decide) 97) (Nat.le_of_ble_eq_true rfl) (Nat.le_of_ble_eq_true rfl) (show 2 ≤ am_P0.2.2.1 194 from by decide +kernel) rfl (am_recv_ok hS5.fs) rfl rfl (ct_fail (d := (d + 6)) hS5   (by show (0 : Int) ≤ (7 : Int); omega) (by show (0 : Int) ≤ (f 6).toInt; omega)) ?_
          rintro v956 S957 (⟨a958, b959, hv960, hS961, h962⟩)
          subst hv960
          have h962_ : (0 : Int) ≤ a958.toInt := h962
          have hR964 := rj_clear0 hR
          have hR965 : RJ (upd (upd (upd f 6 a958) 7 b959) 10 0) g [] bc [] 0 [] := hR964
          show am_E _ _ _ _ [some (.ref 39), some (.int on), some (.int tw), some (.int (g 16 z0.toNatClampNeg)), some (.int r3), some (.int 1), none, none] [.int 0] _ _
          refine am_e6i hi_264_100 ?_
          refine am_e35 hi_264_101 ?_
          show am_E _ _ _ _ [some (.ref 39), some (.int 21), some (.int on), some (.int tw), some (.int th)] [] _ _
          refine am_e18 hi_180_362 ?_
          refine am_e35 hi_180_371 ?_
          have hRc := rj_clear0 hR965
          refine ⟨_, _, [], _, rfl, hS961, Or.inr ⟨hRc, rfl, (by show 0 ≤ (f 4).toInt; omega), (by show (f 4).toInt ≤ (f 0).toInt; omega), (by show 0 ≤ (f 32).toInt; omega), (by show (f 32).toInt ≤ 63; omega), (by show 1 ≤ (f 53).toInt; omega), (by show (f 53).toInt ≤ 600; omega), (by show 0 ≤ (f 68).toInt; omega), (by show (f 68).toInt ≤ 60000; omega), (by show 0 ≤ (f 48).toInt; omega), (by show (f 48).toInt ≤ 8000; omega), (by show 0 ≤ (f 37).toInt; omega), (by show (f 37).toInt ≤ 128; omega), (by show 0 ≤ (f 62).toInt; omega), (by show (f 62).toInt ≤ 65000; omega), (by show 0 ≤ (f 19).toInt; omega), (by show (f 19).toInt ≤ 600; omega), (by show 0 ≤ a958.toInt; omega), (by show 0 ≤ (f 8).toInt; omega)⟩⟩
        · refine am_e12f hi_264_45 (am_cF (m := on.toInt) (n := (0 : Int)) rfl (by decide) c955) ?_
          refine am_e1 (v := 1) hi_264_48 rfl ?_
          refine am_e12t hi_264_50 (by decide) ?_
          refine am_e1 (v := g 16 z0.toNatClampNeg) hi_264_84 rfl ?_
          refine am_e0 hi_264_85 ?_
          refine am_e13t hi_264_86 (am_cT (m := (g 16 z0.toNatClampNeg).toInt) (n := (3 : Int)) rfl (by decide) (by simp only [am_cI]; omega)) ?_
          refine am_e2 (v := 39) hi_264_94 rfl ?_
          refine am_e0 hi_264_95 ?_
          refine am_e32n (as := [.ref 39, .int 7]) (la := [some (.ref 39), some (.int 7)]) (rest := []) hi_264_97 (am_hd0 (M := 264) (by decide) 97) (Nat.le_of_ble_eq_true rfl) (Nat.le_of_ble_eq_true rfl) (show 2 ≤ am_P0.2.2.1 194 from by decide +kernel) rfl (am_recv_ok hS5.fs) rfl rfl (ct_fail (d := (d + 6)) hS5   (by show (0 : Int) ≤ (7 : Int); omega) (by show (0 : Int) ≤ (f 6).toInt; omega)) ?_
          rintro v966 S967 (⟨a968, b969, hv970, hS971, h972⟩)
          subst hv970
          have h972_ : (0 : Int) ≤ a968.toInt := h972
          have hR974 := rj_clear0 hR
          have hR975 : RJ (upd (upd (upd f 6 a968) 7 b969) 10 0) g [] bc [] 0 [] := hR974
          show am_E _ _ _ _ [some (.ref 39), some (.int on), some (.int tw), some (.int (g 16 z0.toNatClampNeg)), some (.int r3), some (.int 1), none, none] [.int 0] _ _
          refine am_e6i hi_264_100 ?_
          refine am_e35 hi_264_101 ?_
          show am_E _ _ _ _ [some (.ref 39), some (.int 21), some (.int on), some (.int tw), some (.int th)] [] _ _
          refine am_e18 hi_180_362 ?_
          refine am_e35 hi_180_371 ?_
          have hRc := rj_clear0 hR975
          refine ⟨_, _, [], _, rfl, hS971, Or.inr ⟨hRc, rfl, (by show 0 ≤ (f 4).toInt; omega), (by show (f 4).toInt ≤ (f 0).toInt; omega), (by show 0 ≤ (f 32).toInt; omega), (by show (f 32).toInt ≤ 63; omega), (by show 1 ≤ (f 53).toInt; omega), (by show (f 53).toInt ≤ 600; omega), (by show 0 ≤ (f 68).toInt; omega), (by show (f 68).toInt ≤ 60000; omega), (by show 0 ≤ (f 48).toInt; omega), (by show (f 48).toInt ≤ 8000; omega), (by show 0 ≤ (f 37).toInt; omega), (by show (f 37).toInt ≤ 128; omega), (by show 0 ≤ (f 62).toInt; omega), (by show (f 62).toInt ≤ 65000; omega), (by show 0 ≤ (f 19).toInt; omega), (by show (f 19).toInt ≤ 600; omega), (by show 0 ≤ a968.toInt; omega), (by show 0 ≤ (f 8).toInt; omega)⟩⟩
