/-! STEPS: targets (printed by wip/p2/st2.py) -/
set_option maxHeartbeats 16000000 in
theorem st_21 {sc : Nat × (Nat → Int32)} {d : Nat} {S0 S : am_S} {f : Nat → Int32} {g : Nat → Nat → Int32} {on : Int32} {tw : Int32} {th : Int32} {gs : List mg_E} {bc : List (List Nat)} (hS : MS S0 S f g) (hR : RJ f g gs bc [] 0 []) (hrest : mg_good (g 34) (g 38) gs ((f 15).toInt + -1) (tw.toInt) ((f 37).toInt + 0) ((f 32).toInt + 0) ((f 5).toInt + 0)) (p0 : 0 ≤ (f 4).toInt) (p1 : (f 4).toInt ≤ (f 0).toInt) (p2 : (f 0).toInt ≤ 512) (p3 : 0 ≤ (f 24).toInt) (p4 : (f 24).toInt + (f 20).toInt + mg_p1 gs ≤ 4 * (f 4).toInt) (p5 : (f 20).toInt ≤ (f 4).toInt) (p6 : (f 15).toInt + 0 + mg_p2 gs ≤ (f 4).toInt) (p7 : 1 + mg_p3 gs ≤ 20 * (f 4).toInt + 20) (p8 : 0 ≤ (f 68).toInt) (p9 : (f 68).toInt + 3 * (f 20).toInt + 0 + mg_p4 gs ≤ 60 * (f 4).toInt + 60) (p10 : 0 ≤ (f 62).toInt) (p11 : (f 62).toInt + 64 * mj_n (g 16) (f 15).toNatClampNeg 3 ≤ 64 * (f 4).toInt) (p12 : 0 ≤ (f 44).toInt) (p13 : (f 44).toInt ≤ (f 4).toInt) (p14 : 0 ≤ (f 48).toInt) (p15 : (f 48).toInt ≤ (f 4).toInt) (p16 : 1 ≤ (f 53).toInt) (p17 : (f 53).toInt ≤ (f 4).toInt + 1) (p18 : 0 ≤ mg_p1 gs) (p19 : 0 ≤ mg_p2 gs) (p20 : 0 ≤ mg_p4 gs) (p21 : 0 ≤ (f 10).toInt) (p22 : (f 10).toInt ≤ mg_p3 gs) (p23 : 0 ≤ mj_n (g 16) (f 15).toNatClampNeg 3) (p24 : 1 ≤ (f 15).toInt) (p25 : 0 ≤ (f 20).toInt) (p26 : 1 ≤ (f 37).toInt) (p27 : 0 ≤ (f 32).toInt) (p28 : (f 32).toInt ≤ (f 5).toInt) (p29 : (f 5).toInt ≤ 48) (p30 : (f 37).toInt ≤ 2 * (f 5).toInt + 1) (p31 : 0 ≤ on.toInt) (p32 : 0 ≤ tw.toInt) (p33 : (f 20).toInt = tw.toInt + on.toInt) : am_E (am_PP sc) (d + 8) 180 0 [some (.ref 39), some (.int 21), some (.int on), some (.int tw), some (.int th)] [] S (am_N fun v S1 => ∃ (f' : Nat → Int32) (g' : Nat → Nat → Int32) (gs' : List mg_E) (bc' : List (List Nat)), v = none ∧ MS S0 S1 f' g' ∧ (mg_on f (100 * ((f 0).toInt - (f 4).toInt) + (1 + mg_p3 gs)) f' g' gs' bc' ∨ mg_off f f' g' bc')) := by
  have hbs := mg_basic hrest
  refine am_e1 (v := 21) hi_180_0 rfl ?_
  refine am_e0 hi_180_1 ?_
  refine am_e13t hi_180_3 (by decide) ?_
  refine am_e1 (v := 21) hi_180_14 rfl ?_
  refine am_e19 (t := 356) hi_180_15 (by decide) ?_
  refine am_e2 (v := 39) hi_180_356 rfl ?_
  refine am_e1 (v := on) hi_180_357 rfl ?_
  refine am_e1 (v := tw) hi_180_358 rfl ?_
  refine am_e32w (as := [.ref 39, .int on, .int tw]) (la := [some (.ref 39), some (.int on), some (.int tw), none, none, none, none, none]) (rest := []) hi_180_359 (am_hd0 (M := 180) (by decide) 359) (Nat.le_of_ble_eq_true rfl) (Nat.le_of_ble_eq_true rfl) (show 3 ≤ am_P0.2.2.1 264 from by decide +kernel) rfl (am_recv_ok hS.fs) rfl rfl ?_
  refine am_e2 (v := 39) hi_264_0 rfl ?_
  refine mm_20 (v := .ref 46) hS hi_264_1 rfl ?_
  refine am_e2 (v := 39) hi_264_4 rfl ?_
  refine mm_20 (v := .int (f 15)) hS hi_264_5 rfl ?_
  refine am_e0 hi_264_8 ?_
  obtain ⟨z0, hz0, tz0⟩ := am_subI (x := f 15) (y := 1) (m := (f 15).toInt) (n := (1 : Int)) rfl (by decide) (by omega) (by omega)
  refine am_e10 (z := z0) hi_264_9 hz0 ?_
  refine mm_25 hS ma_16 hi_264_10 (by decide) (by omega) (by omega) ?_
  show am_E _ _ _ _ [some (.ref 39), some (.int on), some (.int tw), none, none, none, none, none] [.int (g 16 z0.toNatClampNeg)] _ _
  refine am_e3 (ls' := [some (.ref 39), some (.int on), some (.int tw), some (.int (g 16 z0.toNatClampNeg)), none, none, none, none]) hi_264_11 (Nat.le_of_ble_eq_true rfl) rfl ?_
  refine am_e2 (v := 39) hi_264_12 rfl ?_
  refine am_e32n (as := [.ref 39]) (la := [some (.ref 39)]) (rest := []) hi_264_13 (am_hd0 (M := 264) (by decide) 13) (Nat.le_of_ble_eq_true rfl) (Nat.le_of_ble_eq_true rfl) (show 1 ≤ am_P0.2.2.1 183 from by decide +kernel) rfl (am_recv_ok hS.fs) rfl rfl (ct_next (d := (d + 5)) hS   (by show (0 : Int) ≤ (f 4).toInt; omega) (by show (f 0).toInt ≤ (16384 : Int); omega)) ?_
  rintro v1 S2 (⟨r3, hv4, hS5, h6⟩)
  subst hv4
  have h6_ : (f 4).toInt < (f 0).toInt ∨ r3.toInt = (-1 : Int) := h6
  show am_E _ _ _ _ [some (.ref 39), some (.int on), some (.int tw), some (.int (g 16 z0.toNatClampNeg)), none, none, none, none] [.int r3] _ _
  refine am_e3 (ls' := [some (.ref 39), some (.int on), some (.int tw), some (.int (g 16 z0.toNatClampNeg)), some (.int r3), none, none, none]) hi_264_16 (Nat.le_of_ble_eq_true rfl) rfl ?_
  refine am_e1 (v := r3) hi_264_18 rfl ?_
  refine am_e0 hi_264_20 ?_
  by_cases c8 : r3.toInt = (59 : Int)
  · refine am_e13t hi_264_22 (am_cT (m := r3.toInt) (n := (59 : Int)) rfl (by decide) c8) ?_
    refine am_e0 hi_264_32 ?_
    refine am_e18 hi_264_33 ?_
    refine am_e3 (ls' := [some (.ref 39), some (.int on), some (.int tw), some (.int (g 16 z0.toNatClampNeg)), some (.int r3), some (.int 1), none, none]) hi_264_37 (Nat.le_of_ble_eq_true rfl) rfl ?_
    refine am_e1 (v := g 16 z0.toNatClampNeg) hi_264_39 rfl ?_
    refine am_e0 hi_264_40 ?_
    by_cases c9 : ¬ (g 16 z0.toNatClampNeg).toInt = (1 : Int)
    · refine am_e13t hi_264_41 (am_cT (m := (g 16 z0.toNatClampNeg).toInt) (n := (1 : Int)) rfl (by decide) c9) ?_
      refine am_e1 (v := g 16 z0.toNatClampNeg) hi_264_84 rfl ?_
      refine am_e0 hi_264_85 ?_
      by_cases c10 : (g 16 z0.toNatClampNeg).toInt < (3 : Int)
      · refine am_e13t hi_264_86 (am_cT (m := (g 16 z0.toNatClampNeg).toInt) (n := (3 : Int)) rfl (by decide) c10) ?_
        refine am_e2 (v := 39) hi_264_94 rfl ?_
        refine am_e0 hi_264_95 ?_
        refine am_e32n (as := [.ref 39, .int 7]) (la := [some (.ref 39), some (.int 7)]) (rest := []) hi_264_97 (am_hd0 (M := 264) (by decide) 97) (Nat.le_of_ble_eq_true rfl) (Nat.le_of_ble_eq_true rfl) (show 2 ≤ am_P0.2.2.1 194 from by decide +kernel) rfl (am_recv_ok hS5.fs) rfl rfl (ct_fail (d := (d + 6)) hS5   ) ?_
        rintro v11 S12 (⟨a13, b14, hv15, hS16⟩)
        subst hv15
        have hR18 := rj_clear0 hR
        have hR19 : RJ (upd (upd (upd f 6 a13) 7 b14) 10 0) g [] bc [] 0 [] := hR18
        show am_E _ _ _ _ [some (.ref 39), some (.int on), some (.int tw), some (.int (g 16 z0.toNatClampNeg)), some (.int r3), some (.int 1), none, none] [.int 0] _ _
        refine am_e6i hi_264_100 ?_
        refine am_e35 hi_264_101 ?_
        show am_E _ _ _ _ [some (.ref 39), some (.int 21), some (.int on), some (.int tw), some (.int th)] [] _ _
        refine am_e18 hi_180_362 ?_
        refine am_e35 hi_180_371 ?_
        have hRc := rj_clear0 hR19
        refine ⟨_, _, [], _, rfl, hS16, Or.inr ⟨hRc, rfl, (by show 0 ≤ (f 4).toInt; omega), (by show (f 4).toInt ≤ (f 0).toInt; omega), (by show 0 ≤ (f 32).toInt; omega), (by show (f 32).toInt ≤ 63; omega), (by show 1 ≤ (f 53).toInt; omega), (by show (f 53).toInt ≤ 600; omega), (by show 0 ≤ (f 68).toInt; omega), (by show (f 68).toInt ≤ 60000; omega), (by show 0 ≤ (f 48).toInt; omega), (by show (f 48).toInt ≤ 8000; omega), (by show 0 ≤ (f 37).toInt; omega), (by show (f 37).toInt ≤ 128; omega), (by show 0 ≤ (f 62).toInt; omega), (by show (f 62).toInt ≤ 65000; omega)⟩⟩
      · refine am_e13f hi_264_86 (am_cF (m := (g 16 z0.toNatClampNeg).toInt) (n := (3 : Int)) rfl (by decide) c10) ?_
        refine am_e1 (v := 1) hi_264_89 rfl ?_
        refine am_e12t hi_264_91 (by decide) ?_
        refine am_e2 (v := 39) hi_264_102 rfl ?_
        refine mm_20 (v := .ref 48) hS5 hi_264_103 rfl ?_
        refine am_e2 (v := 39) hi_264_106 rfl ?_
        refine mm_20 (v := .int (f 15)) hS5 hi_264_107 rfl ?_
        refine am_e0 hi_264_110 ?_
        refine am_e10 (z := z0) hi_264_111 hz0 ?_
        refine mm_25 hS5 ma_18 hi_264_112 (by decide) (by omega) (by omega) ?_
        show am_E _ _ _ _ [some (.ref 39), some (.int on), some (.int tw), some (.int (g 16 z0.toNatClampNeg)), some (.int r3), some (.int 1), none, none] [.int (g 18 z0.toNatClampNeg)] _ _
        have r20 : (g 16 z0.toNatClampNeg).toInt = 3 → 0 ≤ (g 18 z0.toNatClampNeg).toInt ∧ (g 18 z0.toNatClampNeg).toInt < 16384 := RJ.vw hR z0.toNatClampNeg
        refine am_e3 (ls' := [some (.ref 39), some (.int on), some (.int tw), some (.int (g 16 z0.toNatClampNeg)), some (.int r3), some (.int 1), some (.int (g 18 z0.toNatClampNeg)), none]) hi_264_113 (Nat.le_of_ble_eq_true rfl) rfl ?_
        refine am_e1 (v := g 16 z0.toNatClampNeg) hi_264_115 rfl ?_
        refine am_e0 hi_264_116 ?_
        by_cases c21 : ¬ (g 16 z0.toNatClampNeg).toInt = (3 : Int)
        · refine am_e13t hi_264_117 (am_cT (m := (g 16 z0.toNatClampNeg).toInt) (n := (3 : Int)) rfl (by decide) c21) ?_
          refine am_e1 (v := g 16 z0.toNatClampNeg) hi_264_143 rfl ?_
          refine am_e0 hi_264_144 ?_
          by_cases c22 : ¬ (g 16 z0.toNatClampNeg).toInt = (5 : Int)
          · refine am_e13t hi_264_145 (am_cT (m := (g 16 z0.toNatClampNeg).toInt) (n := (5 : Int)) rfl (by decide) c22) ?_
            refine am_e2 (v := 39) hi_264_167 rfl ?_
            refine am_e0 hi_264_168 ?_
            refine am_e0 hi_264_169 ?_
            refine am_e1 (v := g 18 z0.toNatClampNeg) hi_264_170 rfl ?_
            refine am_e32n (as := [.ref 39, .int 3, .int 0, .int (g 18 z0.toNatClampNeg)]) (la := [some (.ref 39), some (.int 3), some (.int 0), some (.int (g 18 z0.toNatClampNeg))]) (rest := []) hi_264_172 (am_hd0 (M := 264) (by decide) 172) (Nat.le_of_ble_eq_true rfl) (Nat.le_of_ble_eq_true rfl) (show 4 ≤ am_P0.2.2.1 239 from by decide +kernel) rfl (am_recv_ok hS5.fs) rfl rfl (ct_keep (d := (d + 6)) hS5 hR  (by show (0 : Int) ≤ (f 20).toInt; omega) (by show (f 20).toInt ≤ (16383 : Int); omega)) ?_
            rintro v23 S24 (⟨z25, g'26, hv27, hS28, hR31, h29, h30⟩)
            subst hv27
            have h29_ : z25.toInt = (f 20).toInt + 1 := h29
            have h30_ : ∀ j, j ∉ [21, 22, 23] → g'26 j = g j := h30
            have hR31_ : RJ (upd f 20 z25) g'26 gs bc [] 0 [] := hR31
            show am_E _ _ _ _ [some (.ref 39), some (.int on), some (.int tw), some (.int (g 16 z0.toNatClampNeg)), some (.int r3), some (.int 1), some (.int (g 18 z0.toNatClampNeg)), none] [] _ _
            refine am_e2 (v := 39) hi_264_175 rfl ?_
            refine am_e7 hi_264_176 ?_
            refine mm_20 (v := .int (f 15)) hS28 hi_264_177 rfl ?_
            refine am_e0 hi_264_180 ?_
            refine am_e10 (z := z0) hi_264_181 hz0 ?_
            refine mm_21 (v := z0) hS28 hi_264_182 rfl (Nat.le_of_ble_eq_true rfl) ms_15 ?_
            intro S32 hS33
            replace hS33 : MS S0 S32 (upd (upd f 15 z0) 20 z25) g'26 := hS33
            have hp34 : mj_n (g 16) (f 15).toNatClampNeg 3 = mj_n (g 16) z0.toNatClampNeg 3 + if (g 16 z0.toNatClampNeg).toInt = 3 then 1 else 0 := mj_pop (by rw [cl_toNat, cl_toNat]; omega)
            have hp341 : mj_n (g 16) z0.toNatClampNeg 3 ≤ mj_n (g 16) (f 15).toNatClampNeg 3 := by rw [hp34]; split <;> omega
            have hp342 : (g 16 z0.toNatClampNeg).toInt = 3 → mj_n (g 16) z0.toNatClampNeg 3 + 1 ≤ mj_n (g 16) (f 15).toNatClampNeg 3 := fun q => by rw [hp34, if_pos q]; exact Int.le_refl _
            refine am_e2 (v := 39) hi_264_185 rfl ?_
            refine am_e7 hi_264_186 ?_
            refine mm_20 (v := .int (f 4)) hS33 hi_264_187 rfl ?_
            refine am_e0 hi_264_190 ?_
            obtain ⟨z35, hz35, tz35⟩ := am_addI (x := f 4) (y := 1) (m := (f 4).toInt) (n := (1 : Int)) rfl (by decide) (by omega) (by omega)
            refine am_e10 (z := z35) hi_264_191 hz35 ?_
            refine mm_21 (v := z35) hS33 hi_264_192 rfl (Nat.le_of_ble_eq_true rfl) ms_4 ?_
            intro S36 hS37
            replace hS37 : MS S0 S36 (upd (upd (upd f 4 z35) 15 z0) 20 z25) g'26 := hS37
            have hR38 : RJ (upd (upd (upd f 4 z35) 15 z0) 20 z25) g'26 gs bc [] 0 [] := RJ.at hR31_ (by show (f 4).toInt ≤ z35.toInt; omega)
            refine am_e1 (v := r3) hi_264_195 rfl ?_
            refine am_e0 hi_264_197 ?_
            refine am_e13t hi_264_199 (am_cT (m := r3.toInt) (n := (69 : Int)) rfl (by decide) (by simp only [am_cI]; omega)) ?_
            refine am_e2 (v := 39) hi_264_229 rfl ?_
            refine am_e0 hi_264_230 ?_
            refine am_e1 (v := on) hi_264_232 rfl ?_
            refine am_e0 hi_264_233 ?_
            obtain ⟨z39, hz39, tz39⟩ := am_addI (x := on) (y := 1) (m := on.toInt) (n := (1 : Int)) rfl (by decide) (by omega) (by omega)
            refine am_e10 (z := z39) hi_264_234 hz39 ?_
            refine am_e1 (v := tw) hi_264_235 rfl ?_
            refine am_e0 hi_264_236 ?_
            refine am_e32n (as := [.ref 39, .int 22, .int z39, .int tw, .int 0]) (la := [some (.ref 39), some (.int 22), some (.int z39), some (.int tw), some (.int 0)]) (rest := []) hi_264_237 (am_hd0 (M := 264) (by decide) 237) (Nat.le_of_ble_eq_true rfl) (Nat.le_of_ble_eq_true rfl) (show 5 ≤ am_P0.2.2.1 179 from by decide +kernel) rfl (am_recv_ok hS37.fs) rfl rfl (ct_pile (d := (d + 6)) hS37 hR38 (mj_e_plain (by decide)) (by show (0 : Int) ≤ (f 10).toInt; omega) (by show (f 10).toInt ≤ (65535 : Int); omega)) ?_
            rintro v40 S41 (⟨z42, g'43, hv44, hS45, hR48, h46, h47⟩)
            subst hv44
            have h46_ : z42.toInt = (f 10).toInt + 1 := h46
            have h47_ : ∀ j, j ∉ [11, 12, 13, 14] → g'43 j = g'26 j := h47
            replace hS45 : MS S0 S41 (upd (upd (upd (upd f 4 z35) 10 z42) 15 z0) 20 z25) g'43 := hS45
            have hR48_ : RJ (upd (upd (upd (upd f 4 z35) 10 z42) 15 z0) 20 z25) g'43 (((22 : Int), z39.toInt, tw.toInt, (0 : Int), []) :: gs) bc [] 0 [] := hR48
            show am_E _ _ _ _ [some (.ref 39), some (.int on), some (.int tw), some (.int (g 16 z0.toNatClampNeg)), some (.int r3), some (.int 1), some (.int (g 18 z0.toNatClampNeg)), none] [] _ _
            refine am_e2 (v := 39) hi_264_240 rfl ?_
            refine am_e32w (as := [.ref 39]) (la := [some (.ref 39)]) (rest := []) hi_264_241 (am_hd0 (M := 264) (by decide) 241) (Nat.le_of_ble_eq_true rfl) (Nat.le_of_ble_eq_true rfl) (show 1 ≤ am_P0.2.2.1 214 from by decide +kernel) rfl (am_recv_ok hS45.fs) rfl rfl ?_
            refine am_e2 (v := 39) hi_214_0 rfl ?_
            refine am_e0 hi_214_1 ?_
            refine am_e0 hi_214_3 ?_
            refine am_e0 hi_214_4 ?_
            refine am_e0 hi_214_5 ?_
            refine am_e32n (as := [.ref 39, .int 34, .int 1, .int 0, .int 0]) (la := [some (.ref 39), some (.int 34), some (.int 1), some (.int 0), some (.int 0)]) (rest := []) hi_214_6 (am_hd0 (M := 214) (by decide) 6) (Nat.le_of_ble_eq_true rfl) (Nat.le_of_ble_eq_true rfl) (show 5 ≤ am_P0.2.2.1 179 from by decide +kernel) rfl (am_recv_ok hS45.fs) rfl rfl (ct_pile (d := (d + 5)) hS45 hR48_ (mj_e_plain (by decide)) (by show (0 : Int) ≤ z42.toInt; omega) (by show z42.toInt ≤ (65535 : Int); omega)) ?_
            rintro v49 S50 (⟨z51, g'52, hv53, hS54, hR57, h55, h56⟩)
            subst hv53
            have h55_ : z51.toInt = z42.toInt + 1 := h55
            have h56_ : ∀ j, j ∉ [11, 12, 13, 14] → g'52 j = g'43 j := h56
            replace hS54 : MS S0 S50 (upd (upd (upd (upd f 4 z35) 10 z51) 15 z0) 20 z25) g'52 := hS54
            have hR57_ : RJ (upd (upd (upd (upd f 4 z35) 10 z51) 15 z0) 20 z25) g'52 (((34 : Int), (1 : Int), (0 : Int), (0 : Int), []) :: (((22 : Int), z39.toInt, tw.toInt, (0 : Int), []) :: gs)) bc [] 0 [] := hR57
            show am_E _ _ _ _ [some (.ref 39)] [] _ _
            refine am_e2 (v := 39) hi_214_9 rfl ?_
            refine am_e0 hi_214_10 ?_
            refine am_e32w (as := [.ref 39, .int 0]) (la := [some (.ref 39), some (.int 0)]) (rest := []) hi_214_11 (am_hd0 (M := 214) (by decide) 11) (Nat.le_of_ble_eq_true rfl) (Nat.le_of_ble_eq_true rfl) (show 2 ≤ am_P0.2.2.1 186 from by decide +kernel) rfl (am_recv_ok hS54.fs) rfl rfl ?_
            refine am_e2 (v := 39) hi_186_0 rfl ?_
            refine am_e0 hi_186_1 ?_
            refine am_e1 (v := 0) hi_186_3 rfl ?_
            refine am_e0 hi_186_4 ?_
            refine am_e0 hi_186_5 ?_
            refine am_e32n (as := [.ref 39, .int 23, .int 0, .int 0, .int 0]) (la := [some (.ref 39), some (.int 23), some (.int 0), some (.int 0), some (.int 0)]) (rest := []) hi_186_6 (am_hd0 (M := 186) (by decide) 6) (Nat.le_of_ble_eq_true rfl) (Nat.le_of_ble_eq_true rfl) (show 5 ≤ am_P0.2.2.1 179 from by decide +kernel) rfl (am_recv_ok hS54.fs) rfl rfl (ct_pile (d := (d + 4)) hS54 hR57_ (mj_e_plain (by decide)) (by show (0 : Int) ≤ z51.toInt; omega) (by show z51.toInt ≤ (65535 : Int); omega)) ?_
            rintro v58 S59 (⟨z60, g'61, hv62, hS63, hR66, h64, h65⟩)
            subst hv62
            have h64_ : z60.toInt = z51.toInt + 1 := h64
            have h65_ : ∀ j, j ∉ [11, 12, 13, 14] → g'61 j = g'52 j := h65
            replace hS63 : MS S0 S59 (upd (upd (upd (upd f 4 z35) 10 z60) 15 z0) 20 z25) g'61 := hS63
            have hR66_ : RJ (upd (upd (upd (upd f 4 z35) 10 z60) 15 z0) 20 z25) g'61 (((23 : Int), (0 : Int), (0 : Int), (0 : Int), []) :: (((34 : Int), (1 : Int), (0 : Int), (0 : Int), []) :: (((22 : Int), z39.toInt, tw.toInt, (0 : Int), []) :: gs))) bc [] 0 [] := hR66
            show am_E _ _ _ _ [some (.ref 39), some (.int 0)] [] _ _
            refine am_e35 hi_186_9 ?_
            show am_E _ _ _ _ [some (.ref 39)] [] _ _
            refine am_e35 hi_214_14 ?_
            show am_E _ _ _ _ [some (.ref 39), some (.int on), some (.int tw), some (.int (g 16 z0.toNatClampNeg)), some (.int r3), some (.int 1), some (.int (g 18 z0.toNatClampNeg)), none] [] _ _
            refine am_e35 hi_264_244 ?_
            show am_E _ _ _ _ [some (.ref 39), some (.int 21), some (.int on), some (.int tw), some (.int th)] [] _ _
            refine am_e18 hi_180_362 ?_
            refine am_e35 hi_180_371 ?_
            have q1 : mg_p1 (((23 : Int), (0 : Int), (0 : Int), (0 : Int), []) :: (((34 : Int), (1 : Int), (0 : Int), (0 : Int), []) :: (((22 : Int), z39.toInt, tw.toInt, (0 : Int), []) :: gs))) = 0 + (0 + (0 + (mg_p1 gs))) := rfl
            have q2 : mg_p2 (((23 : Int), (0 : Int), (0 : Int), (0 : Int), []) :: (((34 : Int), (1 : Int), (0 : Int), (0 : Int), []) :: (((22 : Int), z39.toInt, tw.toInt, (0 : Int), []) :: gs))) = 0 + (0 + (0 + (mg_p2 gs))) := rfl
            have q3 : mg_p3 (((23 : Int), (0 : Int), (0 : Int), (0 : Int), []) :: (((34 : Int), (1 : Int), (0 : Int), (0 : Int), []) :: (((22 : Int), z39.toInt, tw.toInt, (0 : Int), []) :: gs))) = 1 + (1 + (1 + (mg_p3 gs))) := rfl
            have q4 : mg_p4 (((23 : Int), (0 : Int), (0 : Int), (0 : Int), []) :: (((34 : Int), (1 : Int), (0 : Int), (0 : Int), []) :: (((22 : Int), z39.toInt, tw.toInt, (0 : Int), []) :: gs))) = 0 + (0 + (5 + (mg_p4 gs))) := rfl
            refine ⟨_, _, _, bc, rfl, hS63, Or.inl ⟨⟨hR66_, ?_, ?_⟩, rfl, ?_⟩⟩
            · exact (⟨⟨(show (0 : Int) ≤ 23 from by decide), (show (0 : Int) ≤ z0.toInt from by omega), (show 0 ≤ z25.toInt from by omega), (show 1 ≤ (f 37).toInt from by omega), (show 0 ≤ (f 32).toInt from by omega), (show (f 32).toInt ≤ (f 5).toInt from by omega), (show (f 5).toInt ≤ 48 from by omega), (show (f 37).toInt ≤ 2 * ((f 5).toInt) + 2 from by omega), (show 0 ≤ (0 : Int) from by omega)⟩, ⟨⟨(show (0 : Int) ≤ 34 from by decide), (show (1 : Int) ≤ z0.toInt + 1 from by omega), (show 0 ≤ z25.toInt from by omega), (show 1 ≤ (f 37).toInt + 0 from by omega), (show 0 ≤ (f 32).toInt + 0 from by omega), (show (f 32).toInt + 0 ≤ (f 5).toInt + 0 from by omega), (show (f 5).toInt + 0 ≤ 48 from by omega), (show (f 37).toInt + 0 ≤ 2 * ((f 5).toInt + 0) + 2 from by omega), trivial⟩, ⟨⟨(show (0 : Int) ≤ 22 from by decide), (show (1 : Int) ≤ z0.toInt + 1 + 0 from by omega), (show 0 ≤ z25.toInt from by omega), (show 1 ≤ (f 37).toInt + 0 + 0 from by omega), (show 0 ≤ (f 32).toInt + 0 + 0 from by omega), (show (f 32).toInt + 0 + 0 ≤ (f 5).toInt + 0 + 0 from by omega), (show (f 5).toInt + 0 + 0 ≤ 48 from by omega), (show (f 37).toInt + 0 + 0 ≤ 2 * ((f 5).toInt + 0 + 0) + 1 from by omega), ⟨(show 0 ≤ z39.toInt from by omega), (show 0 ≤ tw.toInt from by omega), (show z25.toInt = tw.toInt + z39.toInt from by omega)⟩⟩, mg_cast (mg_good_ext _ _ _ _ _ _ (fun i _ => by show g'61 34 i = g 34 i; rw [show g'61 34 = g'52 34 from h65_ 34 (by decide), show g'52 34 = g'43 34 from h56_ 34 (by decide), show g'43 34 = g'26 34 from h47_ 34 (by decide), show g'26 34 = g 34 from h30_ 34 (by decide)]) (fun i _ => by show g'61 38 i = g 38 i; rw [show g'61 38 = g'52 38 from h65_ 38 (by decide), show g'52 38 = g'43 38 from h56_ 38 (by decide), show g'43 38 = g'26 38 from h47_ 38 (by decide), show g'26 38 = g 38 from h30_ 38 (by decide)]) hrest) (by show (f 15).toInt + -1 = z0.toInt + 1 + 0 + -1; omega) (by show tw.toInt = tw.toInt; omega) (by show (f 37).toInt + 0 = (f 37).toInt + 0 + 0 + 0; omega) (by show (f 32).toInt + 0 = (f 32).toInt + 0 + 0 + 0; omega) (by show (f 5).toInt + 0 = (f 5).toInt + 0 + 0 + 0; omega)⟩⟩⟩ : mg_good (g'61 34) (g'61 38) (((23 : Int), (0 : Int), (0 : Int), (0 : Int), []) :: (((34 : Int), (1 : Int), (0 : Int), (0 : Int), []) :: (((22 : Int), z39.toInt, tw.toInt, (0 : Int), []) :: gs))) (z0.toInt) (z25.toInt) ((f 37).toInt) ((f 32).toInt) ((f 5).toInt))
            · exact ⟨(by show 0 ≤ z35.toInt; omega), (by show z35.toInt ≤ (f 0).toInt; omega), (by show (f 0).toInt ≤ 512; omega), (by show 0 ≤ (f 24).toInt; omega), (by show (f 24).toInt + z25.toInt + mg_p1 (((23 : Int), (0 : Int), (0 : Int), (0 : Int), []) :: (((34 : Int), (1 : Int), (0 : Int), (0 : Int), []) :: (((22 : Int), z39.toInt, tw.toInt, (0 : Int), []) :: gs))) ≤ 4 * z35.toInt; omega), (by show z25.toInt ≤ z35.toInt; omega), (by show z0.toInt + mg_p2 (((23 : Int), (0 : Int), (0 : Int), (0 : Int), []) :: (((34 : Int), (1 : Int), (0 : Int), (0 : Int), []) :: (((22 : Int), z39.toInt, tw.toInt, (0 : Int), []) :: gs))) ≤ z35.toInt; omega), (by show mg_p3 (((23 : Int), (0 : Int), (0 : Int), (0 : Int), []) :: (((34 : Int), (1 : Int), (0 : Int), (0 : Int), []) :: (((22 : Int), z39.toInt, tw.toInt, (0 : Int), []) :: gs))) ≤ 20 * z35.toInt + 20; omega), (by show 0 ≤ (f 68).toInt; omega), (by show (f 68).toInt + 3 * z25.toInt + mg_p4 (((23 : Int), (0 : Int), (0 : Int), (0 : Int), []) :: (((34 : Int), (1 : Int), (0 : Int), (0 : Int), []) :: (((22 : Int), z39.toInt, tw.toInt, (0 : Int), []) :: gs))) ≤ 60 * z35.toInt + 60; omega), (by show 0 ≤ (f 62).toInt; omega), (by show (f 62).toInt + 64 * mj_n (g'61 16) z0.toNatClampNeg 3 ≤ 64 * z35.toInt; rw [show g'61 16 = g'52 16 from h65_ 16 (by decide), show g'52 16 = g'43 16 from h56_ 16 (by decide), show g'43 16 = g'26 16 from h47_ 16 (by decide), show g'26 16 = g 16 from h30_ 16 (by decide)]; omega), (by show 0 ≤ (f 44).toInt; omega), (by show (f 44).toInt ≤ z35.toInt; omega), (by show 0 ≤ (f 48).toInt; omega), (by show (f 48).toInt ≤ z35.toInt; omega), (by show 1 ≤ (f 53).toInt; omega), (by show (f 53).toInt ≤ z35.toInt + 1; omega)⟩
            · show 100 * ((f 0).toInt - z35.toInt) + mg_p3 (((23 : Int), (0 : Int), (0 : Int), (0 : Int), []) :: (((34 : Int), (1 : Int), (0 : Int), (0 : Int), []) :: (((22 : Int), z39.toInt, tw.toInt, (0 : Int), []) :: gs))) < 100 * ((f 0).toInt - (f 4).toInt) + (1 + mg_p3 gs); omega
          · refine am_e13f hi_264_145 (am_cF (m := (g 16 z0.toNatClampNeg).toInt) (n := (5 : Int)) rfl (by decide) c22) ?_
            refine am_e2 (v := 39) hi_264_148 rfl ?_
            refine am_e0 hi_264_149 ?_
            refine am_e2 (v := 39) hi_264_150 rfl ?_
            refine mm_20 (v := .ref 47) hS5 hi_264_151 rfl ?_
            refine am_e2 (v := 39) hi_264_154 rfl ?_
            refine mm_20 (v := .int (f 15)) hS5 hi_264_155 rfl ?_
            refine am_e0 hi_264_158 ?_
            refine am_e10 (z := z0) hi_264_159 hz0 ?_
            refine mm_25 hS5 ma_17 hi_264_160 (by decide) (by omega) (by omega) ?_
            show am_E _ _ _ _ [some (.ref 39), some (.int on), some (.int tw), some (.int (g 16 z0.toNatClampNeg)), some (.int r3), some (.int 1), some (.int (g 18 z0.toNatClampNeg)), none] [.int (g 17 z0.toNatClampNeg), .int 5, .ref 39] _ _
            have r67 : (g 16 z0.toNatClampNeg).toInt = 1 ∨ (g 16 z0.toNatClampNeg).toInt = 2 → 0 ≤ (g 17 z0.toNatClampNeg).toInt ∧ (g 17 z0.toNatClampNeg).toInt < 65536 := RJ.vc hR z0.toNatClampNeg
            refine am_e0 hi_264_161 ?_
            refine am_e0 hi_264_162 ?_
            refine am_e32n (as := [.ref 39, .int 5, .int (g 17 z0.toNatClampNeg), .int 0, .int 0]) (la := [some (.ref 39), some (.int 5), some (.int (g 17 z0.toNatClampNeg)), some (.int 0), some (.int 0)]) (rest := []) hi_264_163 (am_hd0 (M := 264) (by decide) 163) (Nat.le_of_ble_eq_true rfl) (Nat.le_of_ble_eq_true rfl) (show 5 ≤ am_P0.2.2.1 189 from by decide +kernel) rfl (am_recv_ok hS5.fs) rfl rfl (ct_put (d := (d + 6)) hS5 hR  (by show (0 : Int) ≤ (f 32).toInt; omega) (by show (f 32).toInt ≤ (63 : Int); omega) (by show (f 53).toInt ≤ (4096 : Int); omega) (by show (0 : Int) ≤ (f 68).toInt; omega) (by show (f 68).toInt ≤ (65534 : Int); omega)) ?_
            rintro v68 S69 (⟨z70, r71, g'72, hv73, hS74, hR78, h75, h76, h77⟩)
            subst hv73
            have h75_ : z70.toInt = (f 68).toInt + 1 := h75
            have h76_ : r71.toInt = (f 68).toInt := h76
            have h77_ : ∀ j, j ∉ [60, 69, 70, 71, 72, 73] → g'72 j = g j := h77
            have hR78_ : RJ (upd f 68 z70) g'72 gs bc [] 0 ((f 68).toNatClampNeg :: []) := hR78
            show am_E _ _ _ _ [some (.ref 39), some (.int on), some (.int tw), some (.int (g 16 z0.toNatClampNeg)), some (.int r3), some (.int 1), some (.int (g 18 z0.toNatClampNeg)), none] [.int r71] _ _
            refine am_e6i hi_264_166 ?_
            refine am_e2 (v := 39) hi_264_167 rfl ?_
            refine am_e0 hi_264_168 ?_
            refine am_e0 hi_264_169 ?_
            refine am_e1 (v := g 18 z0.toNatClampNeg) hi_264_170 rfl ?_
            refine am_e32n (as := [.ref 39, .int 3, .int 0, .int (g 18 z0.toNatClampNeg)]) (la := [some (.ref 39), some (.int 3), some (.int 0), some (.int (g 18 z0.toNatClampNeg))]) (rest := []) hi_264_172 (am_hd0 (M := 264) (by decide) 172) (Nat.le_of_ble_eq_true rfl) (Nat.le_of_ble_eq_true rfl) (show 4 ≤ am_P0.2.2.1 239 from by decide +kernel) rfl (am_recv_ok hS74.fs) rfl rfl (ct_keep (d := (d + 6)) hS74 hR78_  (by show (0 : Int) ≤ (f 20).toInt; omega) (by show (f 20).toInt ≤ (16383 : Int); omega)) ?_
            rintro v79 S80 (⟨z81, g'82, hv83, hS84, hR87, h85, h86⟩)
            subst hv83
            have h85_ : z81.toInt = (f 20).toInt + 1 := h85
            have h86_ : ∀ j, j ∉ [21, 22, 23] → g'82 j = g'72 j := h86
            replace hS84 : MS S0 S80 (upd (upd f 20 z81) 68 z70) g'82 := hS84
            have hR87_ : RJ (upd (upd f 20 z81) 68 z70) g'82 gs bc [] 0 ((f 68).toNatClampNeg :: []) := hR87
            show am_E _ _ _ _ [some (.ref 39), some (.int on), some (.int tw), some (.int (g 16 z0.toNatClampNeg)), some (.int r3), some (.int 1), some (.int (g 18 z0.toNatClampNeg)), none] [] _ _
            refine am_e2 (v := 39) hi_264_175 rfl ?_
            refine am_e7 hi_264_176 ?_
            refine mm_20 (v := .int (f 15)) hS84 hi_264_177 rfl ?_
            refine am_e0 hi_264_180 ?_
            refine am_e10 (z := z0) hi_264_181 hz0 ?_
            refine mm_21 (v := z0) hS84 hi_264_182 rfl (Nat.le_of_ble_eq_true rfl) ms_15 ?_
            intro S88 hS89
            replace hS89 : MS S0 S88 (upd (upd (upd f 15 z0) 20 z81) 68 z70) g'82 := hS89
            have hp90 : mj_n (g 16) (f 15).toNatClampNeg 3 = mj_n (g 16) z0.toNatClampNeg 3 + if (g 16 z0.toNatClampNeg).toInt = 3 then 1 else 0 := mj_pop (by rw [cl_toNat, cl_toNat]; omega)
            have hp901 : mj_n (g 16) z0.toNatClampNeg 3 ≤ mj_n (g 16) (f 15).toNatClampNeg 3 := by rw [hp90]; split <;> omega
            have hp902 : (g 16 z0.toNatClampNeg).toInt = 3 → mj_n (g 16) z0.toNatClampNeg 3 + 1 ≤ mj_n (g 16) (f 15).toNatClampNeg 3 := fun q => by rw [hp90, if_pos q]; exact Int.le_refl _
            refine am_e2 (v := 39) hi_264_185 rfl ?_
            refine am_e7 hi_264_186 ?_
            refine mm_20 (v := .int (f 4)) hS89 hi_264_187 rfl ?_
            refine am_e0 hi_264_190 ?_
            obtain ⟨z91, hz91, tz91⟩ := am_addI (x := f 4) (y := 1) (m := (f 4).toInt) (n := (1 : Int)) rfl (by decide) (by omega) (by omega)
            refine am_e10 (z := z91) hi_264_191 hz91 ?_
            refine mm_21 (v := z91) hS89 hi_264_192 rfl (Nat.le_of_ble_eq_true rfl) ms_4 ?_
            intro S92 hS93
            replace hS93 : MS S0 S92 (upd (upd (upd (upd f 4 z91) 15 z0) 20 z81) 68 z70) g'82 := hS93
            have hR94 : RJ (upd (upd (upd (upd f 4 z91) 15 z0) 20 z81) 68 z70) g'82 gs bc [] 0 ((f 68).toNatClampNeg :: []) := RJ.at hR87_ (by show (f 4).toInt ≤ z91.toInt; omega)
            refine am_e1 (v := r3) hi_264_195 rfl ?_
            refine am_e0 hi_264_197 ?_
            refine am_e13t hi_264_199 (am_cT (m := r3.toInt) (n := (69 : Int)) rfl (by decide) (by simp only [am_cI]; omega)) ?_
            refine am_e2 (v := 39) hi_264_229 rfl ?_
            refine am_e0 hi_264_230 ?_
            refine am_e1 (v := on) hi_264_232 rfl ?_
            refine am_e0 hi_264_233 ?_
            obtain ⟨z95, hz95, tz95⟩ := am_addI (x := on) (y := 1) (m := on.toInt) (n := (1 : Int)) rfl (by decide) (by omega) (by omega)
            refine am_e10 (z := z95) hi_264_234 hz95 ?_
            refine am_e1 (v := tw) hi_264_235 rfl ?_
            refine am_e0 hi_264_236 ?_
            refine am_e32n (as := [.ref 39, .int 22, .int z95, .int tw, .int 0]) (la := [some (.ref 39), some (.int 22), some (.int z95), some (.int tw), some (.int 0)]) (rest := []) hi_264_237 (am_hd0 (M := 264) (by decide) 237) (Nat.le_of_ble_eq_true rfl) (Nat.le_of_ble_eq_true rfl) (show 5 ≤ am_P0.2.2.1 179 from by decide +kernel) rfl (am_recv_ok hS93.fs) rfl rfl (ct_pile (d := (d + 6)) hS93 hR94 (mj_e_plain (by decide)) (by show (0 : Int) ≤ (f 10).toInt; omega) (by show (f 10).toInt ≤ (65535 : Int); omega)) ?_
            rintro v96 S97 (⟨z98, g'99, hv100, hS101, hR104, h102, h103⟩)
            subst hv100
            have h102_ : z98.toInt = (f 10).toInt + 1 := h102
            have h103_ : ∀ j, j ∉ [11, 12, 13, 14] → g'99 j = g'82 j := h103
            replace hS101 : MS S0 S97 (upd (upd (upd (upd (upd f 4 z91) 10 z98) 15 z0) 20 z81) 68 z70) g'99 := hS101
            have hR104_ : RJ (upd (upd (upd (upd (upd f 4 z91) 10 z98) 15 z0) 20 z81) 68 z70) g'99 (((22 : Int), z95.toInt, tw.toInt, (0 : Int), []) :: gs) bc [] 0 ((f 68).toNatClampNeg :: []) := hR104
            show am_E _ _ _ _ [some (.ref 39), some (.int on), some (.int tw), some (.int (g 16 z0.toNatClampNeg)), some (.int r3), some (.int 1), some (.int (g 18 z0.toNatClampNeg)), none] [] _ _
            refine am_e2 (v := 39) hi_264_240 rfl ?_
            refine am_e32w (as := [.ref 39]) (la := [some (.ref 39)]) (rest := []) hi_264_241 (am_hd0 (M := 264) (by decide) 241) (Nat.le_of_ble_eq_true rfl) (Nat.le_of_ble_eq_true rfl) (show 1 ≤ am_P0.2.2.1 214 from by decide +kernel) rfl (am_recv_ok hS101.fs) rfl rfl ?_
            refine am_e2 (v := 39) hi_214_0 rfl ?_
            refine am_e0 hi_214_1 ?_
            refine am_e0 hi_214_3 ?_
            refine am_e0 hi_214_4 ?_
            refine am_e0 hi_214_5 ?_
            refine am_e32n (as := [.ref 39, .int 34, .int 1, .int 0, .int 0]) (la := [some (.ref 39), some (.int 34), some (.int 1), some (.int 0), some (.int 0)]) (rest := []) hi_214_6 (am_hd0 (M := 214) (by decide) 6) (Nat.le_of_ble_eq_true rfl) (Nat.le_of_ble_eq_true rfl) (show 5 ≤ am_P0.2.2.1 179 from by decide +kernel) rfl (am_recv_ok hS101.fs) rfl rfl (ct_pile (d := (d + 5)) hS101 hR104_ (mj_e_plain (by decide)) (by show (0 : Int) ≤ z98.toInt; omega) (by show z98.toInt ≤ (65535 : Int); omega)) ?_
            rintro v105 S106 (⟨z107, g'108, hv109, hS110, hR113, h111, h112⟩)
            subst hv109
            have h111_ : z107.toInt = z98.toInt + 1 := h111
            have h112_ : ∀ j, j ∉ [11, 12, 13, 14] → g'108 j = g'99 j := h112
            replace hS110 : MS S0 S106 (upd (upd (upd (upd (upd f 4 z91) 10 z107) 15 z0) 20 z81) 68 z70) g'108 := hS110
            have hR113_ : RJ (upd (upd (upd (upd (upd f 4 z91) 10 z107) 15 z0) 20 z81) 68 z70) g'108 (((34 : Int), (1 : Int), (0 : Int), (0 : Int), []) :: (((22 : Int), z95.toInt, tw.toInt, (0 : Int), []) :: gs)) bc [] 0 ((f 68).toNatClampNeg :: []) := hR113
            show am_E _ _ _ _ [some (.ref 39)] [] _ _
            refine am_e2 (v := 39) hi_214_9 rfl ?_
            refine am_e0 hi_214_10 ?_
            refine am_e32w (as := [.ref 39, .int 0]) (la := [some (.ref 39), some (.int 0)]) (rest := []) hi_214_11 (am_hd0 (M := 214) (by decide) 11) (Nat.le_of_ble_eq_true rfl) (Nat.le_of_ble_eq_true rfl) (show 2 ≤ am_P0.2.2.1 186 from by decide +kernel) rfl (am_recv_ok hS110.fs) rfl rfl ?_
            refine am_e2 (v := 39) hi_186_0 rfl ?_
            refine am_e0 hi_186_1 ?_
            refine am_e1 (v := 0) hi_186_3 rfl ?_
            refine am_e0 hi_186_4 ?_
            refine am_e0 hi_186_5 ?_
            refine am_e32n (as := [.ref 39, .int 23, .int 0, .int 0, .int 0]) (la := [some (.ref 39), some (.int 23), some (.int 0), some (.int 0), some (.int 0)]) (rest := []) hi_186_6 (am_hd0 (M := 186) (by decide) 6) (Nat.le_of_ble_eq_true rfl) (Nat.le_of_ble_eq_true rfl) (show 5 ≤ am_P0.2.2.1 179 from by decide +kernel) rfl (am_recv_ok hS110.fs) rfl rfl (ct_pile (d := (d + 4)) hS110 hR113_ (mj_e_plain (by decide)) (by show (0 : Int) ≤ z107.toInt; omega) (by show z107.toInt ≤ (65535 : Int); omega)) ?_
            rintro v114 S115 (⟨z116, g'117, hv118, hS119, hR122, h120, h121⟩)
            subst hv118
            have h120_ : z116.toInt = z107.toInt + 1 := h120
            have h121_ : ∀ j, j ∉ [11, 12, 13, 14] → g'117 j = g'108 j := h121
            replace hS119 : MS S0 S115 (upd (upd (upd (upd (upd f 4 z91) 10 z116) 15 z0) 20 z81) 68 z70) g'117 := hS119
            have hR122_ : RJ (upd (upd (upd (upd (upd f 4 z91) 10 z116) 15 z0) 20 z81) 68 z70) g'117 (((23 : Int), (0 : Int), (0 : Int), (0 : Int), []) :: (((34 : Int), (1 : Int), (0 : Int), (0 : Int), []) :: (((22 : Int), z95.toInt, tw.toInt, (0 : Int), []) :: gs))) bc [] 0 ((f 68).toNatClampNeg :: []) := hR122
            show am_E _ _ _ _ [some (.ref 39), some (.int 0)] [] _ _
            refine am_e35 hi_186_9 ?_
            show am_E _ _ _ _ [some (.ref 39)] [] _ _
            refine am_e35 hi_214_14 ?_
            show am_E _ _ _ _ [some (.ref 39), some (.int on), some (.int tw), some (.int (g 16 z0.toNatClampNeg)), some (.int r3), some (.int 1), some (.int (g 18 z0.toNatClampNeg)), none] [] _ _
            refine am_e35 hi_264_244 ?_
            show am_E _ _ _ _ [some (.ref 39), some (.int 21), some (.int on), some (.int tw), some (.int th)] [] _ _
            refine am_e18 hi_180_362 ?_
            refine am_e35 hi_180_371 ?_
            have q1 : mg_p1 (((23 : Int), (0 : Int), (0 : Int), (0 : Int), []) :: (((34 : Int), (1 : Int), (0 : Int), (0 : Int), []) :: (((22 : Int), z95.toInt, tw.toInt, (0 : Int), []) :: gs))) = 0 + (0 + (0 + (mg_p1 gs))) := rfl
            have q2 : mg_p2 (((23 : Int), (0 : Int), (0 : Int), (0 : Int), []) :: (((34 : Int), (1 : Int), (0 : Int), (0 : Int), []) :: (((22 : Int), z95.toInt, tw.toInt, (0 : Int), []) :: gs))) = 0 + (0 + (0 + (mg_p2 gs))) := rfl
            have q3 : mg_p3 (((23 : Int), (0 : Int), (0 : Int), (0 : Int), []) :: (((34 : Int), (1 : Int), (0 : Int), (0 : Int), []) :: (((22 : Int), z95.toInt, tw.toInt, (0 : Int), []) :: gs))) = 1 + (1 + (1 + (mg_p3 gs))) := rfl
            have q4 : mg_p4 (((23 : Int), (0 : Int), (0 : Int), (0 : Int), []) :: (((34 : Int), (1 : Int), (0 : Int), (0 : Int), []) :: (((22 : Int), z95.toInt, tw.toInt, (0 : Int), []) :: gs))) = 0 + (0 + (5 + (mg_p4 gs))) := rfl
            refine ⟨_, _, _, bc, rfl, hS119, Or.inl ⟨⟨(RJ.fewer (pj' := []) hR122_ (fun _ h => nomatch h)), ?_, ?_⟩, rfl, ?_⟩⟩
            · exact (⟨⟨(show (0 : Int) ≤ 23 from by decide), (show (0 : Int) ≤ z0.toInt from by omega), (show 0 ≤ z81.toInt from by omega), (show 1 ≤ (f 37).toInt from by omega), (show 0 ≤ (f 32).toInt from by omega), (show (f 32).toInt ≤ (f 5).toInt from by omega), (show (f 5).toInt ≤ 48 from by omega), (show (f 37).toInt ≤ 2 * ((f 5).toInt) + 2 from by omega), (show 0 ≤ (0 : Int) from by omega)⟩, ⟨⟨(show (0 : Int) ≤ 34 from by decide), (show (1 : Int) ≤ z0.toInt + 1 from by omega), (show 0 ≤ z81.toInt from by omega), (show 1 ≤ (f 37).toInt + 0 from by omega), (show 0 ≤ (f 32).toInt + 0 from by omega), (show (f 32).toInt + 0 ≤ (f 5).toInt + 0 from by omega), (show (f 5).toInt + 0 ≤ 48 from by omega), (show (f 37).toInt + 0 ≤ 2 * ((f 5).toInt + 0) + 2 from by omega), trivial⟩, ⟨⟨(show (0 : Int) ≤ 22 from by decide), (show (1 : Int) ≤ z0.toInt + 1 + 0 from by omega), (show 0 ≤ z81.toInt from by omega), (show 1 ≤ (f 37).toInt + 0 + 0 from by omega), (show 0 ≤ (f 32).toInt + 0 + 0 from by omega), (show (f 32).toInt + 0 + 0 ≤ (f 5).toInt + 0 + 0 from by omega), (show (f 5).toInt + 0 + 0 ≤ 48 from by omega), (show (f 37).toInt + 0 + 0 ≤ 2 * ((f 5).toInt + 0 + 0) + 1 from by omega), ⟨(show 0 ≤ z95.toInt from by omega), (show 0 ≤ tw.toInt from by omega), (show z81.toInt = tw.toInt + z95.toInt from by omega)⟩⟩, mg_cast (mg_good_ext _ _ _ _ _ _ (fun i _ => by show g'117 34 i = g 34 i; rw [show g'117 34 = g'108 34 from h121_ 34 (by decide), show g'108 34 = g'99 34 from h112_ 34 (by decide), show g'99 34 = g'82 34 from h103_ 34 (by decide), show g'82 34 = g'72 34 from h86_ 34 (by decide), show g'72 34 = g 34 from h77_ 34 (by decide)]) (fun i _ => by show g'117 38 i = g 38 i; rw [show g'117 38 = g'108 38 from h121_ 38 (by decide), show g'108 38 = g'99 38 from h112_ 38 (by decide), show g'99 38 = g'82 38 from h103_ 38 (by decide), show g'82 38 = g'72 38 from h86_ 38 (by decide), show g'72 38 = g 38 from h77_ 38 (by decide)]) hrest) (by show (f 15).toInt + -1 = z0.toInt + 1 + 0 + -1; omega) (by show tw.toInt = tw.toInt; omega) (by show (f 37).toInt + 0 = (f 37).toInt + 0 + 0 + 0; omega) (by show (f 32).toInt + 0 = (f 32).toInt + 0 + 0 + 0; omega) (by show (f 5).toInt + 0 = (f 5).toInt + 0 + 0 + 0; omega)⟩⟩⟩ : mg_good (g'117 34) (g'117 38) (((23 : Int), (0 : Int), (0 : Int), (0 : Int), []) :: (((34 : Int), (1 : Int), (0 : Int), (0 : Int), []) :: (((22 : Int), z95.toInt, tw.toInt, (0 : Int), []) :: gs))) (z0.toInt) (z81.toInt) ((f 37).toInt) ((f 32).toInt) ((f 5).toInt))
            · exact ⟨(by show 0 ≤ z91.toInt; omega), (by show z91.toInt ≤ (f 0).toInt; omega), (by show (f 0).toInt ≤ 512; omega), (by show 0 ≤ (f 24).toInt; omega), (by show (f 24).toInt + z81.toInt + mg_p1 (((23 : Int), (0 : Int), (0 : Int), (0 : Int), []) :: (((34 : Int), (1 : Int), (0 : Int), (0 : Int), []) :: (((22 : Int), z95.toInt, tw.toInt, (0 : Int), []) :: gs))) ≤ 4 * z91.toInt; omega), (by show z81.toInt ≤ z91.toInt; omega), (by show z0.toInt + mg_p2 (((23 : Int), (0 : Int), (0 : Int), (0 : Int), []) :: (((34 : Int), (1 : Int), (0 : Int), (0 : Int), []) :: (((22 : Int), z95.toInt, tw.toInt, (0 : Int), []) :: gs))) ≤ z91.toInt; omega), (by show mg_p3 (((23 : Int), (0 : Int), (0 : Int), (0 : Int), []) :: (((34 : Int), (1 : Int), (0 : Int), (0 : Int), []) :: (((22 : Int), z95.toInt, tw.toInt, (0 : Int), []) :: gs))) ≤ 20 * z91.toInt + 20; omega), (by show 0 ≤ z70.toInt; omega), (by show z70.toInt + 3 * z81.toInt + mg_p4 (((23 : Int), (0 : Int), (0 : Int), (0 : Int), []) :: (((34 : Int), (1 : Int), (0 : Int), (0 : Int), []) :: (((22 : Int), z95.toInt, tw.toInt, (0 : Int), []) :: gs))) ≤ 60 * z91.toInt + 60; omega), (by show 0 ≤ (f 62).toInt; omega), (by show (f 62).toInt + 64 * mj_n (g'117 16) z0.toNatClampNeg 3 ≤ 64 * z91.toInt; rw [show g'117 16 = g'108 16 from h121_ 16 (by decide), show g'108 16 = g'99 16 from h112_ 16 (by decide), show g'99 16 = g'82 16 from h103_ 16 (by decide), show g'82 16 = g'72 16 from h86_ 16 (by decide), show g'72 16 = g 16 from h77_ 16 (by decide)]; omega), (by show 0 ≤ (f 44).toInt; omega), (by show (f 44).toInt ≤ z91.toInt; omega), (by show 0 ≤ (f 48).toInt; omega), (by show (f 48).toInt ≤ z91.toInt; omega), (by show 1 ≤ (f 53).toInt; omega), (by show (f 53).toInt ≤ z91.toInt + 1; omega)⟩
            · show 100 * ((f 0).toInt - z91.toInt) + mg_p3 (((23 : Int), (0 : Int), (0 : Int), (0 : Int), []) :: (((34 : Int), (1 : Int), (0 : Int), (0 : Int), []) :: (((22 : Int), z95.toInt, tw.toInt, (0 : Int), []) :: gs))) < 100 * ((f 0).toInt - (f 4).toInt) + (1 + mg_p3 gs); omega
        · refine am_e13f hi_264_117 (am_cF (m := (g 16 z0.toNatClampNeg).toInt) (n := (3 : Int)) rfl (by decide) c21) ?_
          refine am_e2 (v := 39) hi_264_120 rfl ?_
          refine am_e1 (v := g 18 z0.toNatClampNeg) hi_264_121 rfl ?_
          refine am_e32w (as := [.ref 39, .int (g 18 z0.toNatClampNeg)]) (la := [some (.ref 39), some (.int (g 18 z0.toNatClampNeg)), none]) (rest := []) hi_264_123 (am_hd0 (M := 264) (by decide) 123) (Nat.le_of_ble_eq_true rfl) (Nat.le_of_ble_eq_true rfl) (show 2 ≤ am_P0.2.2.1 237 from by decide +kernel) rfl (am_recv_ok hS5.fs) rfl rfl ?_
          refine am_e2 (v := 39) hi_237_0 rfl ?_
          refine am_e2 (v := 39) hi_237_1 rfl ?_
          refine mm_20 (v := .ref 41) hS5 hi_237_2 rfl ?_
          refine am_e1 (v := g 18 z0.toNatClampNeg) hi_237_5 rfl ?_
          refine mm_25 hS5 ma_2 hi_237_6 (by decide) (by omega) (by omega) ?_
          show am_E _ _ _ _ [some (.ref 39), some (.int (g 18 z0.toNatClampNeg)), none] [.int (g 2 (g 18 z0.toNatClampNeg).toNatClampNeg), .ref 39] _ _
          refine am_e32n (as := [.ref 39, .int (g 2 (g 18 z0.toNatClampNeg).toNatClampNeg)]) (la := [some (.ref 39), some (.int (g 2 (g 18 z0.toNatClampNeg).toNatClampNeg)), none]) (rest := []) hi_237_7 (am_hd0 (M := 237) (by decide) 7) (Nat.le_of_ble_eq_true rfl) (Nat.le_of_ble_eq_true rfl) (show 2 ≤ am_P0.2.2.1 206 from by decide +kernel) rfl (am_recv_ok hS5.fs) rfl rfl (ct_find (d := (d + 5)) hS5   (by show (0 : Int) ≤ (f 24).toInt; omega) (by show (f 24).toInt ≤ (16384 : Int); omega)) ?_
          rintro v123 S124 (⟨r125, hv126, hS127, h128, h129⟩)
          subst hv126
          have h128_ : (-1 : Int) ≤ r125.toInt := h128
          have h129_ : r125.toInt < (f 24).toInt := h129
          show am_E _ _ _ _ [some (.ref 39), some (.int (g 18 z0.toNatClampNeg)), none] [.int r125] _ _
          refine am_e3 (ls' := [some (.ref 39), some (.int (g 18 z0.toNatClampNeg)), some (.int r125)]) hi_237_10 (Nat.le_of_ble_eq_true rfl) rfl ?_
          refine am_e1 (v := r125) hi_237_11 rfl ?_
          by_cases c131 : r125.toInt < (0 : Int)
          · refine am_e12t hi_237_12 (am_cT (m := r125.toInt) (n := (0 : Int)) rfl (by decide) c131) ?_
            refine am_e2 (v := 39) hi_237_31 rfl ?_
            refine am_e1 (v := g 18 z0.toNatClampNeg) hi_237_32 rfl ?_
            refine am_e32n (as := [.ref 39, .int (g 18 z0.toNatClampNeg)]) (la := [some (.ref 39), some (.int (g 18 z0.toNatClampNeg)), none, none, none]) (rest := []) hi_237_33 (am_hd0 (M := 237) (by decide) 33) (Nat.le_of_ble_eq_true rfl) (Nat.le_of_ble_eq_true rfl) (show 2 ≤ am_P0.2.2.1 205 from by decide +kernel) rfl (am_recv_ok hS127.fs) rfl rfl (ct_resolve (d := (d + 4)) hS127 hR  (by show (0 : Int) ≤ (f 32).toInt; omega) (by show (f 32).toInt ≤ (63 : Int); omega) (by show (f 53).toInt ≤ (4096 : Int); omega) (by show (0 : Int) ≤ (f 24).toInt; omega) (by show (f 24).toInt ≤ (16384 : Int); omega) (by show (0 : Int) ≤ (f 62).toInt; omega) (by show (f 62).toInt ≤ (65000 : Int); omega) (by show (0 : Int) ≤ (g 18 z0.toNatClampNeg).toInt; omega) (by show (g 18 z0.toNatClampNeg).toInt ≤ (16383 : Int); omega)) ?_
            rintro v132 S133 (⟨o134, m135, g'136, r137, hv138, hS139, hR145, h140, h141, h142, h143, h144⟩)
            subst hv138
            have h140_ : (f 62).toInt ≤ o134.toInt := h140
            have h141_ : o134.toInt ≤ (f 62).toInt + 64 := h141
            have h142_ : (0 : Int) ≤ r137.toInt := h142
            have h143_ : r137.toInt ≤ (2 : Int) := h143
            have h144_ : ∀ j, j ∉ [63, 64, 65, 66, 67] → g'136 j = g j := h144
            have hR145_ : RJ (upd (upd f 62 o134) 75 m135) g'136 gs bc [] 0 [] := hR145
            show am_E _ _ _ _ [some (.ref 39), some (.int (g 18 z0.toNatClampNeg)), some (.int r125)] [.int r137] _ _
            refine am_e33 hi_237_36 ?_
            show am_E _ _ _ _ [some (.ref 39), some (.int on), some (.int tw), some (.int (g 16 z0.toNatClampNeg)), some (.int r3), some (.int 1), some (.int (g 18 z0.toNatClampNeg)), none] [.int r137] _ _
            refine am_e3 (ls' := [some (.ref 39), some (.int on), some (.int tw), some (.int (g 16 z0.toNatClampNeg)), some (.int r3), some (.int 1), some (.int (g 18 z0.toNatClampNeg)), some (.int r137)]) hi_264_126 (Nat.le_of_ble_eq_true rfl) rfl ?_
            refine am_e2 (v := 39) hi_264_128 rfl ?_
            refine am_e1 (v := r137) hi_264_129 rfl ?_
            refine am_e2 (v := 39) hi_264_131 rfl ?_
            refine mm_20 (v := .int m135) hS139 hi_264_132 rfl ?_
            refine am_e1 (v := g 18 z0.toNatClampNeg) hi_264_135 rfl ?_
            refine am_e32n (as := [.ref 39, .int r137, .int m135, .int (g 18 z0.toNatClampNeg)]) (la := [some (.ref 39), some (.int r137), some (.int m135), some (.int (g 18 z0.toNatClampNeg))]) (rest := []) hi_264_137 (am_hd0 (M := 264) (by decide) 137) (Nat.le_of_ble_eq_true rfl) (Nat.le_of_ble_eq_true rfl) (show 4 ≤ am_P0.2.2.1 239 from by decide +kernel) rfl (am_recv_ok hS139.fs) rfl rfl (ct_keep (d := (d + 6)) hS139 hR145_  (by show (0 : Int) ≤ (f 20).toInt; omega) (by show (f 20).toInt ≤ (16383 : Int); omega)) ?_
            rintro v146 S147 (⟨z148, g'149, hv150, hS151, hR154, h152, h153⟩)
            subst hv150
            have h152_ : z148.toInt = (f 20).toInt + 1 := h152
            have h153_ : ∀ j, j ∉ [21, 22, 23] → g'149 j = g'136 j := h153
            replace hS151 : MS S0 S147 (upd (upd (upd f 20 z148) 62 o134) 75 m135) g'149 := hS151
            have hR154_ : RJ (upd (upd (upd f 20 z148) 62 o134) 75 m135) g'149 gs bc [] 0 [] := hR154
            show am_E _ _ _ _ [some (.ref 39), some (.int on), some (.int tw), some (.int (g 16 z0.toNatClampNeg)), some (.int r3), some (.int 1), some (.int (g 18 z0.toNatClampNeg)), some (.int r137)] [] _ _
            refine am_e18 hi_264_140 ?_
            refine am_e2 (v := 39) hi_264_175 rfl ?_
            refine am_e7 hi_264_176 ?_
            refine mm_20 (v := .int (f 15)) hS151 hi_264_177 rfl ?_
            refine am_e0 hi_264_180 ?_
            refine am_e10 (z := z0) hi_264_181 hz0 ?_
            refine mm_21 (v := z0) hS151 hi_264_182 rfl (Nat.le_of_ble_eq_true rfl) ms_15 ?_
            intro S155 hS156
            replace hS156 : MS S0 S155 (upd (upd (upd (upd f 15 z0) 20 z148) 62 o134) 75 m135) g'149 := hS156
            have hp157 : mj_n (g 16) (f 15).toNatClampNeg 3 = mj_n (g 16) z0.toNatClampNeg 3 + if (g 16 z0.toNatClampNeg).toInt = 3 then 1 else 0 := mj_pop (by rw [cl_toNat, cl_toNat]; omega)
            have hp1571 : mj_n (g 16) z0.toNatClampNeg 3 ≤ mj_n (g 16) (f 15).toNatClampNeg 3 := by rw [hp157]; split <;> omega
            have hp1572 : (g 16 z0.toNatClampNeg).toInt = 3 → mj_n (g 16) z0.toNatClampNeg 3 + 1 ≤ mj_n (g 16) (f 15).toNatClampNeg 3 := fun q => by rw [hp157, if_pos q]; exact Int.le_refl _
            refine am_e2 (v := 39) hi_264_185 rfl ?_
            refine am_e7 hi_264_186 ?_
            refine mm_20 (v := .int (f 4)) hS156 hi_264_187 rfl ?_
            refine am_e0 hi_264_190 ?_
            obtain ⟨z158, hz158, tz158⟩ := am_addI (x := f 4) (y := 1) (m := (f 4).toInt) (n := (1 : Int)) rfl (by decide) (by omega) (by omega)
            refine am_e10 (z := z158) hi_264_191 hz158 ?_
            refine mm_21 (v := z158) hS156 hi_264_192 rfl (Nat.le_of_ble_eq_true rfl) ms_4 ?_
            intro S159 hS160
            replace hS160 : MS S0 S159 (upd (upd (upd (upd (upd f 4 z158) 15 z0) 20 z148) 62 o134) 75 m135) g'149 := hS160
            have hR161 : RJ (upd (upd (upd (upd (upd f 4 z158) 15 z0) 20 z148) 62 o134) 75 m135) g'149 gs bc [] 0 [] := RJ.at hR154_ (by show (f 4).toInt ≤ z158.toInt; omega)
            refine am_e1 (v := r3) hi_264_195 rfl ?_
            refine am_e0 hi_264_197 ?_
            refine am_e13t hi_264_199 (am_cT (m := r3.toInt) (n := (69 : Int)) rfl (by decide) (by simp only [am_cI]; omega)) ?_
            refine am_e2 (v := 39) hi_264_229 rfl ?_
            refine am_e0 hi_264_230 ?_
            refine am_e1 (v := on) hi_264_232 rfl ?_
            refine am_e0 hi_264_233 ?_
            obtain ⟨z162, hz162, tz162⟩ := am_addI (x := on) (y := 1) (m := on.toInt) (n := (1 : Int)) rfl (by decide) (by omega) (by omega)
            refine am_e10 (z := z162) hi_264_234 hz162 ?_
            refine am_e1 (v := tw) hi_264_235 rfl ?_
            refine am_e0 hi_264_236 ?_
            refine am_e32n (as := [.ref 39, .int 22, .int z162, .int tw, .int 0]) (la := [some (.ref 39), some (.int 22), some (.int z162), some (.int tw), some (.int 0)]) (rest := []) hi_264_237 (am_hd0 (M := 264) (by decide) 237) (Nat.le_of_ble_eq_true rfl) (Nat.le_of_ble_eq_true rfl) (show 5 ≤ am_P0.2.2.1 179 from by decide +kernel) rfl (am_recv_ok hS160.fs) rfl rfl (ct_pile (d := (d + 6)) hS160 hR161 (mj_e_plain (by decide)) (by show (0 : Int) ≤ (f 10).toInt; omega) (by show (f 10).toInt ≤ (65535 : Int); omega)) ?_
            rintro v163 S164 (⟨z165, g'166, hv167, hS168, hR171, h169, h170⟩)
            subst hv167
            have h169_ : z165.toInt = (f 10).toInt + 1 := h169
            have h170_ : ∀ j, j ∉ [11, 12, 13, 14] → g'166 j = g'149 j := h170
            replace hS168 : MS S0 S164 (upd (upd (upd (upd (upd (upd f 4 z158) 10 z165) 15 z0) 20 z148) 62 o134) 75 m135) g'166 := hS168
            have hR171_ : RJ (upd (upd (upd (upd (upd (upd f 4 z158) 10 z165) 15 z0) 20 z148) 62 o134) 75 m135) g'166 (((22 : Int), z162.toInt, tw.toInt, (0 : Int), []) :: gs) bc [] 0 [] := hR171
            show am_E _ _ _ _ [some (.ref 39), some (.int on), some (.int tw), some (.int (g 16 z0.toNatClampNeg)), some (.int r3), some (.int 1), some (.int (g 18 z0.toNatClampNeg)), some (.int r137)] [] _ _
            refine am_e2 (v := 39) hi_264_240 rfl ?_
            refine am_e32w (as := [.ref 39]) (la := [some (.ref 39)]) (rest := []) hi_264_241 (am_hd0 (M := 264) (by decide) 241) (Nat.le_of_ble_eq_true rfl) (Nat.le_of_ble_eq_true rfl) (show 1 ≤ am_P0.2.2.1 214 from by decide +kernel) rfl (am_recv_ok hS168.fs) rfl rfl ?_
            refine am_e2 (v := 39) hi_214_0 rfl ?_
            refine am_e0 hi_214_1 ?_
            refine am_e0 hi_214_3 ?_
            refine am_e0 hi_214_4 ?_
            refine am_e0 hi_214_5 ?_
            refine am_e32n (as := [.ref 39, .int 34, .int 1, .int 0, .int 0]) (la := [some (.ref 39), some (.int 34), some (.int 1), some (.int 0), some (.int 0)]) (rest := []) hi_214_6 (am_hd0 (M := 214) (by decide) 6) (Nat.le_of_ble_eq_true rfl) (Nat.le_of_ble_eq_true rfl) (show 5 ≤ am_P0.2.2.1 179 from by decide +kernel) rfl (am_recv_ok hS168.fs) rfl rfl (ct_pile (d := (d + 5)) hS168 hR171_ (mj_e_plain (by decide)) (by show (0 : Int) ≤ z165.toInt; omega) (by show z165.toInt ≤ (65535 : Int); omega)) ?_
            rintro v172 S173 (⟨z174, g'175, hv176, hS177, hR180, h178, h179⟩)
            subst hv176
            have h178_ : z174.toInt = z165.toInt + 1 := h178
            have h179_ : ∀ j, j ∉ [11, 12, 13, 14] → g'175 j = g'166 j := h179
            replace hS177 : MS S0 S173 (upd (upd (upd (upd (upd (upd f 4 z158) 10 z174) 15 z0) 20 z148) 62 o134) 75 m135) g'175 := hS177
            have hR180_ : RJ (upd (upd (upd (upd (upd (upd f 4 z158) 10 z174) 15 z0) 20 z148) 62 o134) 75 m135) g'175 (((34 : Int), (1 : Int), (0 : Int), (0 : Int), []) :: (((22 : Int), z162.toInt, tw.toInt, (0 : Int), []) :: gs)) bc [] 0 [] := hR180
            show am_E _ _ _ _ [some (.ref 39)] [] _ _
            refine am_e2 (v := 39) hi_214_9 rfl ?_
            refine am_e0 hi_214_10 ?_
            refine am_e32w (as := [.ref 39, .int 0]) (la := [some (.ref 39), some (.int 0)]) (rest := []) hi_214_11 (am_hd0 (M := 214) (by decide) 11) (Nat.le_of_ble_eq_true rfl) (Nat.le_of_ble_eq_true rfl) (show 2 ≤ am_P0.2.2.1 186 from by decide +kernel) rfl (am_recv_ok hS177.fs) rfl rfl ?_
            refine am_e2 (v := 39) hi_186_0 rfl ?_
            refine am_e0 hi_186_1 ?_
            refine am_e1 (v := 0) hi_186_3 rfl ?_
            refine am_e0 hi_186_4 ?_
            refine am_e0 hi_186_5 ?_
            refine am_e32n (as := [.ref 39, .int 23, .int 0, .int 0, .int 0]) (la := [some (.ref 39), some (.int 23), some (.int 0), some (.int 0), some (.int 0)]) (rest := []) hi_186_6 (am_hd0 (M := 186) (by decide) 6) (Nat.le_of_ble_eq_true rfl) (Nat.le_of_ble_eq_true rfl) (show 5 ≤ am_P0.2.2.1 179 from by decide +kernel) rfl (am_recv_ok hS177.fs) rfl rfl (ct_pile (d := (d + 4)) hS177 hR180_ (mj_e_plain (by decide)) (by show (0 : Int) ≤ z174.toInt; omega) (by show z174.toInt ≤ (65535 : Int); omega)) ?_
            rintro v181 S182 (⟨z183, g'184, hv185, hS186, hR189, h187, h188⟩)
            subst hv185
            have h187_ : z183.toInt = z174.toInt + 1 := h187
            have h188_ : ∀ j, j ∉ [11, 12, 13, 14] → g'184 j = g'175 j := h188
            replace hS186 : MS S0 S182 (upd (upd (upd (upd (upd (upd f 4 z158) 10 z183) 15 z0) 20 z148) 62 o134) 75 m135) g'184 := hS186
            have hR189_ : RJ (upd (upd (upd (upd (upd (upd f 4 z158) 10 z183) 15 z0) 20 z148) 62 o134) 75 m135) g'184 (((23 : Int), (0 : Int), (0 : Int), (0 : Int), []) :: (((34 : Int), (1 : Int), (0 : Int), (0 : Int), []) :: (((22 : Int), z162.toInt, tw.toInt, (0 : Int), []) :: gs))) bc [] 0 [] := hR189
            show am_E _ _ _ _ [some (.ref 39), some (.int 0)] [] _ _
            refine am_e35 hi_186_9 ?_
            show am_E _ _ _ _ [some (.ref 39)] [] _ _
            refine am_e35 hi_214_14 ?_
            show am_E _ _ _ _ [some (.ref 39), some (.int on), some (.int tw), some (.int (g 16 z0.toNatClampNeg)), some (.int r3), some (.int 1), some (.int (g 18 z0.toNatClampNeg)), some (.int r137)] [] _ _
            refine am_e35 hi_264_244 ?_
            show am_E _ _ _ _ [some (.ref 39), some (.int 21), some (.int on), some (.int tw), some (.int th)] [] _ _
            refine am_e18 hi_180_362 ?_
            refine am_e35 hi_180_371 ?_
            have q1 : mg_p1 (((23 : Int), (0 : Int), (0 : Int), (0 : Int), []) :: (((34 : Int), (1 : Int), (0 : Int), (0 : Int), []) :: (((22 : Int), z162.toInt, tw.toInt, (0 : Int), []) :: gs))) = 0 + (0 + (0 + (mg_p1 gs))) := rfl
            have q2 : mg_p2 (((23 : Int), (0 : Int), (0 : Int), (0 : Int), []) :: (((34 : Int), (1 : Int), (0 : Int), (0 : Int), []) :: (((22 : Int), z162.toInt, tw.toInt, (0 : Int), []) :: gs))) = 0 + (0 + (0 + (mg_p2 gs))) := rfl
            have q3 : mg_p3 (((23 : Int), (0 : Int), (0 : Int), (0 : Int), []) :: (((34 : Int), (1 : Int), (0 : Int), (0 : Int), []) :: (((22 : Int), z162.toInt, tw.toInt, (0 : Int), []) :: gs))) = 1 + (1 + (1 + (mg_p3 gs))) := rfl
            have q4 : mg_p4 (((23 : Int), (0 : Int), (0 : Int), (0 : Int), []) :: (((34 : Int), (1 : Int), (0 : Int), (0 : Int), []) :: (((22 : Int), z162.toInt, tw.toInt, (0 : Int), []) :: gs))) = 0 + (0 + (5 + (mg_p4 gs))) := rfl
            refine ⟨_, _, _, bc, rfl, hS186, Or.inl ⟨⟨hR189_, ?_, ?_⟩, rfl, ?_⟩⟩
            · exact (⟨⟨(show (0 : Int) ≤ 23 from by decide), (show (0 : Int) ≤ z0.toInt from by omega), (show 0 ≤ z148.toInt from by omega), (show 1 ≤ (f 37).toInt from by omega), (show 0 ≤ (f 32).toInt from by omega), (show (f 32).toInt ≤ (f 5).toInt from by omega), (show (f 5).toInt ≤ 48 from by omega), (show (f 37).toInt ≤ 2 * ((f 5).toInt) + 2 from by omega), (show 0 ≤ (0 : Int) from by omega)⟩, ⟨⟨(show (0 : Int) ≤ 34 from by decide), (show (1 : Int) ≤ z0.toInt + 1 from by omega), (show 0 ≤ z148.toInt from by omega), (show 1 ≤ (f 37).toInt + 0 from by omega), (show 0 ≤ (f 32).toInt + 0 from by omega), (show (f 32).toInt + 0 ≤ (f 5).toInt + 0 from by omega), (show (f 5).toInt + 0 ≤ 48 from by omega), (show (f 37).toInt + 0 ≤ 2 * ((f 5).toInt + 0) + 2 from by omega), trivial⟩, ⟨⟨(show (0 : Int) ≤ 22 from by decide), (show (1 : Int) ≤ z0.toInt + 1 + 0 from by omega), (show 0 ≤ z148.toInt from by omega), (show 1 ≤ (f 37).toInt + 0 + 0 from by omega), (show 0 ≤ (f 32).toInt + 0 + 0 from by omega), (show (f 32).toInt + 0 + 0 ≤ (f 5).toInt + 0 + 0 from by omega), (show (f 5).toInt + 0 + 0 ≤ 48 from by omega), (show (f 37).toInt + 0 + 0 ≤ 2 * ((f 5).toInt + 0 + 0) + 1 from by omega), ⟨(show 0 ≤ z162.toInt from by omega), (show 0 ≤ tw.toInt from by omega), (show z148.toInt = tw.toInt + z162.toInt from by omega)⟩⟩, mg_cast (mg_good_ext _ _ _ _ _ _ (fun i _ => by show g'184 34 i = g 34 i; rw [show g'184 34 = g'175 34 from h188_ 34 (by decide), show g'175 34 = g'166 34 from h179_ 34 (by decide), show g'166 34 = g'149 34 from h170_ 34 (by decide), show g'149 34 = g'136 34 from h153_ 34 (by decide), show g'136 34 = g 34 from h144_ 34 (by decide)]) (fun i _ => by show g'184 38 i = g 38 i; rw [show g'184 38 = g'175 38 from h188_ 38 (by decide), show g'175 38 = g'166 38 from h179_ 38 (by decide), show g'166 38 = g'149 38 from h170_ 38 (by decide), show g'149 38 = g'136 38 from h153_ 38 (by decide), show g'136 38 = g 38 from h144_ 38 (by decide)]) hrest) (by show (f 15).toInt + -1 = z0.toInt + 1 + 0 + -1; omega) (by show tw.toInt = tw.toInt; omega) (by show (f 37).toInt + 0 = (f 37).toInt + 0 + 0 + 0; omega) (by show (f 32).toInt + 0 = (f 32).toInt + 0 + 0 + 0; omega) (by show (f 5).toInt + 0 = (f 5).toInt + 0 + 0 + 0; omega)⟩⟩⟩ : mg_good (g'184 34) (g'184 38) (((23 : Int), (0 : Int), (0 : Int), (0 : Int), []) :: (((34 : Int), (1 : Int), (0 : Int), (0 : Int), []) :: (((22 : Int), z162.toInt, tw.toInt, (0 : Int), []) :: gs))) (z0.toInt) (z148.toInt) ((f 37).toInt) ((f 32).toInt) ((f 5).toInt))
            · exact ⟨(by show 0 ≤ z158.toInt; omega), (by show z158.toInt ≤ (f 0).toInt; omega), (by show (f 0).toInt ≤ 512; omega), (by show 0 ≤ (f 24).toInt; omega), (by show (f 24).toInt + z148.toInt + mg_p1 (((23 : Int), (0 : Int), (0 : Int), (0 : Int), []) :: (((34 : Int), (1 : Int), (0 : Int), (0 : Int), []) :: (((22 : Int), z162.toInt, tw.toInt, (0 : Int), []) :: gs))) ≤ 4 * z158.toInt; omega), (by show z148.toInt ≤ z158.toInt; omega), (by show z0.toInt + mg_p2 (((23 : Int), (0 : Int), (0 : Int), (0 : Int), []) :: (((34 : Int), (1 : Int), (0 : Int), (0 : Int), []) :: (((22 : Int), z162.toInt, tw.toInt, (0 : Int), []) :: gs))) ≤ z158.toInt; omega), (by show mg_p3 (((23 : Int), (0 : Int), (0 : Int), (0 : Int), []) :: (((34 : Int), (1 : Int), (0 : Int), (0 : Int), []) :: (((22 : Int), z162.toInt, tw.toInt, (0 : Int), []) :: gs))) ≤ 20 * z158.toInt + 20; omega), (by show 0 ≤ (f 68).toInt; omega), (by show (f 68).toInt + 3 * z148.toInt + mg_p4 (((23 : Int), (0 : Int), (0 : Int), (0 : Int), []) :: (((34 : Int), (1 : Int), (0 : Int), (0 : Int), []) :: (((22 : Int), z162.toInt, tw.toInt, (0 : Int), []) :: gs))) ≤ 60 * z158.toInt + 60; omega), (by show 0 ≤ o134.toInt; omega), (by show o134.toInt + 64 * mj_n (g'184 16) z0.toNatClampNeg 3 ≤ 64 * z158.toInt; rw [show g'184 16 = g'175 16 from h188_ 16 (by decide), show g'175 16 = g'166 16 from h179_ 16 (by decide), show g'166 16 = g'149 16 from h170_ 16 (by decide), show g'149 16 = g'136 16 from h153_ 16 (by decide), show g'136 16 = g 16 from h144_ 16 (by decide)]; omega), (by show 0 ≤ (f 44).toInt; omega), (by show (f 44).toInt ≤ z158.toInt; omega), (by show 0 ≤ (f 48).toInt; omega), (by show (f 48).toInt ≤ z158.toInt; omega), (by show 1 ≤ (f 53).toInt; omega), (by show (f 53).toInt ≤ z158.toInt + 1; omega)⟩
            · show 100 * ((f 0).toInt - z158.toInt) + mg_p3 (((23 : Int), (0 : Int), (0 : Int), (0 : Int), []) :: (((34 : Int), (1 : Int), (0 : Int), (0 : Int), []) :: (((22 : Int), z162.toInt, tw.toInt, (0 : Int), []) :: gs))) < 100 * ((f 0).toInt - (f 4).toInt) + (1 + mg_p3 gs); omega
          · refine am_e12f hi_237_12 (am_cF (m := r125.toInt) (n := (0 : Int)) rfl (by decide) c131) ?_
            refine am_e2 (v := 39) hi_237_15 rfl ?_
            refine mm_20 (v := .ref 56) hS127 hi_237_16 rfl ?_
            refine am_e1 (v := r125) hi_237_19 rfl ?_
            refine mm_25 hS127 ma_29 hi_237_20 (by decide) (by omega) (by omega) ?_
            show am_E _ _ _ _ [some (.ref 39), some (.int (g 18 z0.toNatClampNeg)), some (.int r125)] [.int (g 29 r125.toNatClampNeg)] _ _
            by_cases c190 : (g 29 r125.toNatClampNeg).toInt = (0 : Int)
            · refine am_e12t hi_237_21 (am_cT (m := (g 29 r125.toNatClampNeg).toInt) (n := (0 : Int)) rfl (by decide) c190) ?_
              refine am_e2 (v := 39) hi_237_31 rfl ?_
              refine am_e1 (v := g 18 z0.toNatClampNeg) hi_237_32 rfl ?_
              refine am_e32n (as := [.ref 39, .int (g 18 z0.toNatClampNeg)]) (la := [some (.ref 39), some (.int (g 18 z0.toNatClampNeg)), none, none, none]) (rest := []) hi_237_33 (am_hd0 (M := 237) (by decide) 33) (Nat.le_of_ble_eq_true rfl) (Nat.le_of_ble_eq_true rfl) (show 2 ≤ am_P0.2.2.1 205 from by decide +kernel) rfl (am_recv_ok hS127.fs) rfl rfl (ct_resolve (d := (d + 4)) hS127 hR  (by show (0 : Int) ≤ (f 32).toInt; omega) (by show (f 32).toInt ≤ (63 : Int); omega) (by show (f 53).toInt ≤ (4096 : Int); omega) (by show (0 : Int) ≤ (f 24).toInt; omega) (by show (f 24).toInt ≤ (16384 : Int); omega) (by show (0 : Int) ≤ (f 62).toInt; omega) (by show (f 62).toInt ≤ (65000 : Int); omega) (by show (0 : Int) ≤ (g 18 z0.toNatClampNeg).toInt; omega) (by show (g 18 z0.toNatClampNeg).toInt ≤ (16383 : Int); omega)) ?_
              rintro v191 S192 (⟨o193, m194, g'195, r196, hv197, hS198, hR204, h199, h200, h201, h202, h203⟩)
              subst hv197
              have h199_ : (f 62).toInt ≤ o193.toInt := h199
              have h200_ : o193.toInt ≤ (f 62).toInt + 64 := h200
              have h201_ : (0 : Int) ≤ r196.toInt := h201
              have h202_ : r196.toInt ≤ (2 : Int) := h202
              have h203_ : ∀ j, j ∉ [63, 64, 65, 66, 67] → g'195 j = g j := h203
              have hR204_ : RJ (upd (upd f 62 o193) 75 m194) g'195 gs bc [] 0 [] := hR204
              show am_E _ _ _ _ [some (.ref 39), some (.int (g 18 z0.toNatClampNeg)), some (.int r125)] [.int r196] _ _
              refine am_e33 hi_237_36 ?_
              show am_E _ _ _ _ [some (.ref 39), some (.int on), some (.int tw), some (.int (g 16 z0.toNatClampNeg)), some (.int r3), some (.int 1), some (.int (g 18 z0.toNatClampNeg)), none] [.int r196] _ _
              refine am_e3 (ls' := [some (.ref 39), some (.int on), some (.int tw), some (.int (g 16 z0.toNatClampNeg)), some (.int r3), some (.int 1), some (.int (g 18 z0.toNatClampNeg)), some (.int r196)]) hi_264_126 (Nat.le_of_ble_eq_true rfl) rfl ?_
              refine am_e2 (v := 39) hi_264_128 rfl ?_
              refine am_e1 (v := r196) hi_264_129 rfl ?_
              refine am_e2 (v := 39) hi_264_131 rfl ?_
              refine mm_20 (v := .int m194) hS198 hi_264_132 rfl ?_
              refine am_e1 (v := g 18 z0.toNatClampNeg) hi_264_135 rfl ?_
              refine am_e32n (as := [.ref 39, .int r196, .int m194, .int (g 18 z0.toNatClampNeg)]) (la := [some (.ref 39), some (.int r196), some (.int m194), some (.int (g 18 z0.toNatClampNeg))]) (rest := []) hi_264_137 (am_hd0 (M := 264) (by decide) 137) (Nat.le_of_ble_eq_true rfl) (Nat.le_of_ble_eq_true rfl) (show 4 ≤ am_P0.2.2.1 239 from by decide +kernel) rfl (am_recv_ok hS198.fs) rfl rfl (ct_keep (d := (d + 6)) hS198 hR204_  (by show (0 : Int) ≤ (f 20).toInt; omega) (by show (f 20).toInt ≤ (16383 : Int); omega)) ?_
              rintro v205 S206 (⟨z207, g'208, hv209, hS210, hR213, h211, h212⟩)
              subst hv209
              have h211_ : z207.toInt = (f 20).toInt + 1 := h211
              have h212_ : ∀ j, j ∉ [21, 22, 23] → g'208 j = g'195 j := h212
              replace hS210 : MS S0 S206 (upd (upd (upd f 20 z207) 62 o193) 75 m194) g'208 := hS210
              have hR213_ : RJ (upd (upd (upd f 20 z207) 62 o193) 75 m194) g'208 gs bc [] 0 [] := hR213
              show am_E _ _ _ _ [some (.ref 39), some (.int on), some (.int tw), some (.int (g 16 z0.toNatClampNeg)), some (.int r3), some (.int 1), some (.int (g 18 z0.toNatClampNeg)), some (.int r196)] [] _ _
              refine am_e18 hi_264_140 ?_
              refine am_e2 (v := 39) hi_264_175 rfl ?_
              refine am_e7 hi_264_176 ?_
              refine mm_20 (v := .int (f 15)) hS210 hi_264_177 rfl ?_
              refine am_e0 hi_264_180 ?_
              refine am_e10 (z := z0) hi_264_181 hz0 ?_
              refine mm_21 (v := z0) hS210 hi_264_182 rfl (Nat.le_of_ble_eq_true rfl) ms_15 ?_
              intro S214 hS215
              replace hS215 : MS S0 S214 (upd (upd (upd (upd f 15 z0) 20 z207) 62 o193) 75 m194) g'208 := hS215
              have hp216 : mj_n (g 16) (f 15).toNatClampNeg 3 = mj_n (g 16) z0.toNatClampNeg 3 + if (g 16 z0.toNatClampNeg).toInt = 3 then 1 else 0 := mj_pop (by rw [cl_toNat, cl_toNat]; omega)
              have hp2161 : mj_n (g 16) z0.toNatClampNeg 3 ≤ mj_n (g 16) (f 15).toNatClampNeg 3 := by rw [hp216]; split <;> omega
              have hp2162 : (g 16 z0.toNatClampNeg).toInt = 3 → mj_n (g 16) z0.toNatClampNeg 3 + 1 ≤ mj_n (g 16) (f 15).toNatClampNeg 3 := fun q => by rw [hp216, if_pos q]; exact Int.le_refl _
              refine am_e2 (v := 39) hi_264_185 rfl ?_
              refine am_e7 hi_264_186 ?_
              refine mm_20 (v := .int (f 4)) hS215 hi_264_187 rfl ?_
              refine am_e0 hi_264_190 ?_
              obtain ⟨z217, hz217, tz217⟩ := am_addI (x := f 4) (y := 1) (m := (f 4).toInt) (n := (1 : Int)) rfl (by decide) (by omega) (by omega)
              refine am_e10 (z := z217) hi_264_191 hz217 ?_
              refine mm_21 (v := z217) hS215 hi_264_192 rfl (Nat.le_of_ble_eq_true rfl) ms_4 ?_
              intro S218 hS219
              replace hS219 : MS S0 S218 (upd (upd (upd (upd (upd f 4 z217) 15 z0) 20 z207) 62 o193) 75 m194) g'208 := hS219
              have hR220 : RJ (upd (upd (upd (upd (upd f 4 z217) 15 z0) 20 z207) 62 o193) 75 m194) g'208 gs bc [] 0 [] := RJ.at hR213_ (by show (f 4).toInt ≤ z217.toInt; omega)
              refine am_e1 (v := r3) hi_264_195 rfl ?_
              refine am_e0 hi_264_197 ?_
              refine am_e13t hi_264_199 (am_cT (m := r3.toInt) (n := (69 : Int)) rfl (by decide) (by simp only [am_cI]; omega)) ?_
              refine am_e2 (v := 39) hi_264_229 rfl ?_
              refine am_e0 hi_264_230 ?_
              refine am_e1 (v := on) hi_264_232 rfl ?_
              refine am_e0 hi_264_233 ?_
              obtain ⟨z221, hz221, tz221⟩ := am_addI (x := on) (y := 1) (m := on.toInt) (n := (1 : Int)) rfl (by decide) (by omega) (by omega)
              refine am_e10 (z := z221) hi_264_234 hz221 ?_
              refine am_e1 (v := tw) hi_264_235 rfl ?_
              refine am_e0 hi_264_236 ?_
              refine am_e32n (as := [.ref 39, .int 22, .int z221, .int tw, .int 0]) (la := [some (.ref 39), some (.int 22), some (.int z221), some (.int tw), some (.int 0)]) (rest := []) hi_264_237 (am_hd0 (M := 264) (by decide) 237) (Nat.le_of_ble_eq_true rfl) (Nat.le_of_ble_eq_true rfl) (show 5 ≤ am_P0.2.2.1 179 from by decide +kernel) rfl (am_recv_ok hS219.fs) rfl rfl (ct_pile (d := (d + 6)) hS219 hR220 (mj_e_plain (by decide)) (by show (0 : Int) ≤ (f 10).toInt; omega) (by show (f 10).toInt ≤ (65535 : Int); omega)) ?_
              rintro v222 S223 (⟨z224, g'225, hv226, hS227, hR230, h228, h229⟩)
              subst hv226
              have h228_ : z224.toInt = (f 10).toInt + 1 := h228
              have h229_ : ∀ j, j ∉ [11, 12, 13, 14] → g'225 j = g'208 j := h229
              replace hS227 : MS S0 S223 (upd (upd (upd (upd (upd (upd f 4 z217) 10 z224) 15 z0) 20 z207) 62 o193) 75 m194) g'225 := hS227
              have hR230_ : RJ (upd (upd (upd (upd (upd (upd f 4 z217) 10 z224) 15 z0) 20 z207) 62 o193) 75 m194) g'225 (((22 : Int), z221.toInt, tw.toInt, (0 : Int), []) :: gs) bc [] 0 [] := hR230
              show am_E _ _ _ _ [some (.ref 39), some (.int on), some (.int tw), some (.int (g 16 z0.toNatClampNeg)), some (.int r3), some (.int 1), some (.int (g 18 z0.toNatClampNeg)), some (.int r196)] [] _ _
              refine am_e2 (v := 39) hi_264_240 rfl ?_
              refine am_e32w (as := [.ref 39]) (la := [some (.ref 39)]) (rest := []) hi_264_241 (am_hd0 (M := 264) (by decide) 241) (Nat.le_of_ble_eq_true rfl) (Nat.le_of_ble_eq_true rfl) (show 1 ≤ am_P0.2.2.1 214 from by decide +kernel) rfl (am_recv_ok hS227.fs) rfl rfl ?_
              refine am_e2 (v := 39) hi_214_0 rfl ?_
              refine am_e0 hi_214_1 ?_
              refine am_e0 hi_214_3 ?_
              refine am_e0 hi_214_4 ?_
              refine am_e0 hi_214_5 ?_
              refine am_e32n (as := [.ref 39, .int 34, .int 1, .int 0, .int 0]) (la := [some (.ref 39), some (.int 34), some (.int 1), some (.int 0), some (.int 0)]) (rest := []) hi_214_6 (am_hd0 (M := 214) (by decide) 6) (Nat.le_of_ble_eq_true rfl) (Nat.le_of_ble_eq_true rfl) (show 5 ≤ am_P0.2.2.1 179 from by decide +kernel) rfl (am_recv_ok hS227.fs) rfl rfl (ct_pile (d := (d + 5)) hS227 hR230_ (mj_e_plain (by decide)) (by show (0 : Int) ≤ z224.toInt; omega) (by show z224.toInt ≤ (65535 : Int); omega)) ?_
              rintro v231 S232 (⟨z233, g'234, hv235, hS236, hR239, h237, h238⟩)
              subst hv235
              have h237_ : z233.toInt = z224.toInt + 1 := h237
              have h238_ : ∀ j, j ∉ [11, 12, 13, 14] → g'234 j = g'225 j := h238
              replace hS236 : MS S0 S232 (upd (upd (upd (upd (upd (upd f 4 z217) 10 z233) 15 z0) 20 z207) 62 o193) 75 m194) g'234 := hS236
              have hR239_ : RJ (upd (upd (upd (upd (upd (upd f 4 z217) 10 z233) 15 z0) 20 z207) 62 o193) 75 m194) g'234 (((34 : Int), (1 : Int), (0 : Int), (0 : Int), []) :: (((22 : Int), z221.toInt, tw.toInt, (0 : Int), []) :: gs)) bc [] 0 [] := hR239
              show am_E _ _ _ _ [some (.ref 39)] [] _ _
              refine am_e2 (v := 39) hi_214_9 rfl ?_
              refine am_e0 hi_214_10 ?_
              refine am_e32w (as := [.ref 39, .int 0]) (la := [some (.ref 39), some (.int 0)]) (rest := []) hi_214_11 (am_hd0 (M := 214) (by decide) 11) (Nat.le_of_ble_eq_true rfl) (Nat.le_of_ble_eq_true rfl) (show 2 ≤ am_P0.2.2.1 186 from by decide +kernel) rfl (am_recv_ok hS236.fs) rfl rfl ?_
              refine am_e2 (v := 39) hi_186_0 rfl ?_
              refine am_e0 hi_186_1 ?_
              refine am_e1 (v := 0) hi_186_3 rfl ?_
              refine am_e0 hi_186_4 ?_
              refine am_e0 hi_186_5 ?_
              refine am_e32n (as := [.ref 39, .int 23, .int 0, .int 0, .int 0]) (la := [some (.ref 39), some (.int 23), some (.int 0), some (.int 0), some (.int 0)]) (rest := []) hi_186_6 (am_hd0 (M := 186) (by decide) 6) (Nat.le_of_ble_eq_true rfl) (Nat.le_of_ble_eq_true rfl) (show 5 ≤ am_P0.2.2.1 179 from by decide +kernel) rfl (am_recv_ok hS236.fs) rfl rfl (ct_pile (d := (d + 4)) hS236 hR239_ (mj_e_plain (by decide)) (by show (0 : Int) ≤ z233.toInt; omega) (by show z233.toInt ≤ (65535 : Int); omega)) ?_
              rintro v240 S241 (⟨z242, g'243, hv244, hS245, hR248, h246, h247⟩)
              subst hv244
              have h246_ : z242.toInt = z233.toInt + 1 := h246
              have h247_ : ∀ j, j ∉ [11, 12, 13, 14] → g'243 j = g'234 j := h247
              replace hS245 : MS S0 S241 (upd (upd (upd (upd (upd (upd f 4 z217) 10 z242) 15 z0) 20 z207) 62 o193) 75 m194) g'243 := hS245
              have hR248_ : RJ (upd (upd (upd (upd (upd (upd f 4 z217) 10 z242) 15 z0) 20 z207) 62 o193) 75 m194) g'243 (((23 : Int), (0 : Int), (0 : Int), (0 : Int), []) :: (((34 : Int), (1 : Int), (0 : Int), (0 : Int), []) :: (((22 : Int), z221.toInt, tw.toInt, (0 : Int), []) :: gs))) bc [] 0 [] := hR248
              show am_E _ _ _ _ [some (.ref 39), some (.int 0)] [] _ _
              refine am_e35 hi_186_9 ?_
              show am_E _ _ _ _ [some (.ref 39)] [] _ _
              refine am_e35 hi_214_14 ?_
              show am_E _ _ _ _ [some (.ref 39), some (.int on), some (.int tw), some (.int (g 16 z0.toNatClampNeg)), some (.int r3), some (.int 1), some (.int (g 18 z0.toNatClampNeg)), some (.int r196)] [] _ _
              refine am_e35 hi_264_244 ?_
              show am_E _ _ _ _ [some (.ref 39), some (.int 21), some (.int on), some (.int tw), some (.int th)] [] _ _
              refine am_e18 hi_180_362 ?_
              refine am_e35 hi_180_371 ?_
              have q1 : mg_p1 (((23 : Int), (0 : Int), (0 : Int), (0 : Int), []) :: (((34 : Int), (1 : Int), (0 : Int), (0 : Int), []) :: (((22 : Int), z221.toInt, tw.toInt, (0 : Int), []) :: gs))) = 0 + (0 + (0 + (mg_p1 gs))) := rfl
              have q2 : mg_p2 (((23 : Int), (0 : Int), (0 : Int), (0 : Int), []) :: (((34 : Int), (1 : Int), (0 : Int), (0 : Int), []) :: (((22 : Int), z221.toInt, tw.toInt, (0 : Int), []) :: gs))) = 0 + (0 + (0 + (mg_p2 gs))) := rfl
              have q3 : mg_p3 (((23 : Int), (0 : Int), (0 : Int), (0 : Int), []) :: (((34 : Int), (1 : Int), (0 : Int), (0 : Int), []) :: (((22 : Int), z221.toInt, tw.toInt, (0 : Int), []) :: gs))) = 1 + (1 + (1 + (mg_p3 gs))) := rfl
              have q4 : mg_p4 (((23 : Int), (0 : Int), (0 : Int), (0 : Int), []) :: (((34 : Int), (1 : Int), (0 : Int), (0 : Int), []) :: (((22 : Int), z221.toInt, tw.toInt, (0 : Int), []) :: gs))) = 0 + (0 + (5 + (mg_p4 gs))) := rfl
              refine ⟨_, _, _, bc, rfl, hS245, Or.inl ⟨⟨hR248_, ?_, ?_⟩, rfl, ?_⟩⟩
              · exact (⟨⟨(show (0 : Int) ≤ 23 from by decide), (show (0 : Int) ≤ z0.toInt from by omega), (show 0 ≤ z207.toInt from by omega), (show 1 ≤ (f 37).toInt from by omega), (show 0 ≤ (f 32).toInt from by omega), (show (f 32).toInt ≤ (f 5).toInt from by omega), (show (f 5).toInt ≤ 48 from by omega), (show (f 37).toInt ≤ 2 * ((f 5).toInt) + 2 from by omega), (show 0 ≤ (0 : Int) from by omega)⟩, ⟨⟨(show (0 : Int) ≤ 34 from by decide), (show (1 : Int) ≤ z0.toInt + 1 from by omega), (show 0 ≤ z207.toInt from by omega), (show 1 ≤ (f 37).toInt + 0 from by omega), (show 0 ≤ (f 32).toInt + 0 from by omega), (show (f 32).toInt + 0 ≤ (f 5).toInt + 0 from by omega), (show (f 5).toInt + 0 ≤ 48 from by omega), (show (f 37).toInt + 0 ≤ 2 * ((f 5).toInt + 0) + 2 from by omega), trivial⟩, ⟨⟨(show (0 : Int) ≤ 22 from by decide), (show (1 : Int) ≤ z0.toInt + 1 + 0 from by omega), (show 0 ≤ z207.toInt from by omega), (show 1 ≤ (f 37).toInt + 0 + 0 from by omega), (show 0 ≤ (f 32).toInt + 0 + 0 from by omega), (show (f 32).toInt + 0 + 0 ≤ (f 5).toInt + 0 + 0 from by omega), (show (f 5).toInt + 0 + 0 ≤ 48 from by omega), (show (f 37).toInt + 0 + 0 ≤ 2 * ((f 5).toInt + 0 + 0) + 1 from by omega), ⟨(show 0 ≤ z221.toInt from by omega), (show 0 ≤ tw.toInt from by omega), (show z207.toInt = tw.toInt + z221.toInt from by omega)⟩⟩, mg_cast (mg_good_ext _ _ _ _ _ _ (fun i _ => by show g'243 34 i = g 34 i; rw [show g'243 34 = g'234 34 from h247_ 34 (by decide), show g'234 34 = g'225 34 from h238_ 34 (by decide), show g'225 34 = g'208 34 from h229_ 34 (by decide), show g'208 34 = g'195 34 from h212_ 34 (by decide), show g'195 34 = g 34 from h203_ 34 (by decide)]) (fun i _ => by show g'243 38 i = g 38 i; rw [show g'243 38 = g'234 38 from h247_ 38 (by decide), show g'234 38 = g'225 38 from h238_ 38 (by decide), show g'225 38 = g'208 38 from h229_ 38 (by decide), show g'208 38 = g'195 38 from h212_ 38 (by decide), show g'195 38 = g 38 from h203_ 38 (by decide)]) hrest) (by show (f 15).toInt + -1 = z0.toInt + 1 + 0 + -1; omega) (by show tw.toInt = tw.toInt; omega) (by show (f 37).toInt + 0 = (f 37).toInt + 0 + 0 + 0; omega) (by show (f 32).toInt + 0 = (f 32).toInt + 0 + 0 + 0; omega) (by show (f 5).toInt + 0 = (f 5).toInt + 0 + 0 + 0; omega)⟩⟩⟩ : mg_good (g'243 34) (g'243 38) (((23 : Int), (0 : Int), (0 : Int), (0 : Int), []) :: (((34 : Int), (1 : Int), (0 : Int), (0 : Int), []) :: (((22 : Int), z221.toInt, tw.toInt, (0 : Int), []) :: gs))) (z0.toInt) (z207.toInt) ((f 37).toInt) ((f 32).toInt) ((f 5).toInt))
              · exact ⟨(by show 0 ≤ z217.toInt; omega), (by show z217.toInt ≤ (f 0).toInt; omega), (by show (f 0).toInt ≤ 512; omega), (by show 0 ≤ (f 24).toInt; omega), (by show (f 24).toInt + z207.toInt + mg_p1 (((23 : Int), (0 : Int), (0 : Int), (0 : Int), []) :: (((34 : Int), (1 : Int), (0 : Int), (0 : Int), []) :: (((22 : Int), z221.toInt, tw.toInt, (0 : Int), []) :: gs))) ≤ 4 * z217.toInt; omega), (by show z207.toInt ≤ z217.toInt; omega), (by show z0.toInt + mg_p2 (((23 : Int), (0 : Int), (0 : Int), (0 : Int), []) :: (((34 : Int), (1 : Int), (0 : Int), (0 : Int), []) :: (((22 : Int), z221.toInt, tw.toInt, (0 : Int), []) :: gs))) ≤ z217.toInt; omega), (by show mg_p3 (((23 : Int), (0 : Int), (0 : Int), (0 : Int), []) :: (((34 : Int), (1 : Int), (0 : Int), (0 : Int), []) :: (((22 : Int), z221.toInt, tw.toInt, (0 : Int), []) :: gs))) ≤ 20 * z217.toInt + 20; omega), (by show 0 ≤ (f 68).toInt; omega), (by show (f 68).toInt + 3 * z207.toInt + mg_p4 (((23 : Int), (0 : Int), (0 : Int), (0 : Int), []) :: (((34 : Int), (1 : Int), (0 : Int), (0 : Int), []) :: (((22 : Int), z221.toInt, tw.toInt, (0 : Int), []) :: gs))) ≤ 60 * z217.toInt + 60; omega), (by show 0 ≤ o193.toInt; omega), (by show o193.toInt + 64 * mj_n (g'243 16) z0.toNatClampNeg 3 ≤ 64 * z217.toInt; rw [show g'243 16 = g'234 16 from h247_ 16 (by decide), show g'234 16 = g'225 16 from h238_ 16 (by decide), show g'225 16 = g'208 16 from h229_ 16 (by decide), show g'208 16 = g'195 16 from h212_ 16 (by decide), show g'195 16 = g 16 from h203_ 16 (by decide)]; omega), (by show 0 ≤ (f 44).toInt; omega), (by show (f 44).toInt ≤ z217.toInt; omega), (by show 0 ≤ (f 48).toInt; omega), (by show (f 48).toInt ≤ z217.toInt; omega), (by show 1 ≤ (f 53).toInt; omega), (by show (f 53).toInt ≤ z217.toInt + 1; omega)⟩
              · show 100 * ((f 0).toInt - z217.toInt) + mg_p3 (((23 : Int), (0 : Int), (0 : Int), (0 : Int), []) :: (((34 : Int), (1 : Int), (0 : Int), (0 : Int), []) :: (((22 : Int), z221.toInt, tw.toInt, (0 : Int), []) :: gs))) < 100 * ((f 0).toInt - (f 4).toInt) + (1 + mg_p3 gs); omega
            · refine am_e12f hi_237_21 (am_cF (m := (g 29 r125.toNatClampNeg).toInt) (n := (0 : Int)) rfl (by decide) c190) ?_
              refine am_e2 (v := 39) hi_237_24 rfl ?_
              refine am_e0 hi_237_25 ?_
              refine am_e1 (v := g 18 z0.toNatClampNeg) hi_237_27 rfl ?_
              refine am_e32n (as := [.ref 39, .int 10, .int (g 18 z0.toNatClampNeg)]) (la := [some (.ref 39), some (.int 10), some (.int (g 18 z0.toNatClampNeg))]) (rest := []) hi_237_28 (am_hd0 (M := 237) (by decide) 28) (Nat.le_of_ble_eq_true rfl) (Nat.le_of_ble_eq_true rfl) (show 3 ≤ am_P0.2.2.1 191 from by decide +kernel) rfl (am_recv_ok hS127.fs) rfl rfl (ct_failName (d := (d + 5)) hS127   ) ?_
              rintro v249 S250 (⟨a251, b252, hv253, hS254⟩)
              subst hv253
              show am_E _ _ _ _ [some (.ref 39), some (.int (g 18 z0.toNatClampNeg)), some (.int r125)] [] _ _
              refine am_e2 (v := 39) hi_237_31 rfl ?_
              refine am_e1 (v := g 18 z0.toNatClampNeg) hi_237_32 rfl ?_
              refine am_e32n (as := [.ref 39, .int (g 18 z0.toNatClampNeg)]) (la := [some (.ref 39), some (.int (g 18 z0.toNatClampNeg)), none, none, none]) (rest := []) hi_237_33 (am_hd0 (M := 237) (by decide) 33) (Nat.le_of_ble_eq_true rfl) (Nat.le_of_ble_eq_true rfl) (show 2 ≤ am_P0.2.2.1 205 from by decide +kernel) rfl (am_recv_ok hS254.fs) rfl rfl (ct_resolve (d := (d + 4)) hS254 hR  (by show (0 : Int) ≤ (f 32).toInt; omega) (by show (f 32).toInt ≤ (63 : Int); omega) (by show (f 53).toInt ≤ (4096 : Int); omega) (by show (0 : Int) ≤ (f 24).toInt; omega) (by show (f 24).toInt ≤ (16384 : Int); omega) (by show (0 : Int) ≤ (f 62).toInt; omega) (by show (f 62).toInt ≤ (65000 : Int); omega) (by show (0 : Int) ≤ (g 18 z0.toNatClampNeg).toInt; omega) (by show (g 18 z0.toNatClampNeg).toInt ≤ (16383 : Int); omega)) ?_
              rintro v256 S257 (⟨o258, m259, g'260, r261, hv262, hS263, hR269, h264, h265, h266, h267, h268⟩)
              subst hv262
              have h264_ : (f 62).toInt ≤ o258.toInt := h264
              have h265_ : o258.toInt ≤ (f 62).toInt + 64 := h265
              have h266_ : (0 : Int) ≤ r261.toInt := h266
              have h267_ : r261.toInt ≤ (2 : Int) := h267
              have h268_ : ∀ j, j ∉ [63, 64, 65, 66, 67] → g'260 j = g j := h268
              have hR269_ : RJ (upd (upd (upd (upd f 8 a251) 9 b252) 62 o258) 75 m259) g'260 gs bc [] 0 [] := hR269
              show am_E _ _ _ _ [some (.ref 39), some (.int (g 18 z0.toNatClampNeg)), some (.int r125)] [.int r261] _ _
              refine am_e33 hi_237_36 ?_
              show am_E _ _ _ _ [some (.ref 39), some (.int on), some (.int tw), some (.int (g 16 z0.toNatClampNeg)), some (.int r3), some (.int 1), some (.int (g 18 z0.toNatClampNeg)), none] [.int r261] _ _
              refine am_e3 (ls' := [some (.ref 39), some (.int on), some (.int tw), some (.int (g 16 z0.toNatClampNeg)), some (.int r3), some (.int 1), some (.int (g 18 z0.toNatClampNeg)), some (.int r261)]) hi_264_126 (Nat.le_of_ble_eq_true rfl) rfl ?_
              refine am_e2 (v := 39) hi_264_128 rfl ?_
              refine am_e1 (v := r261) hi_264_129 rfl ?_
              refine am_e2 (v := 39) hi_264_131 rfl ?_
              refine mm_20 (v := .int m259) hS263 hi_264_132 rfl ?_
              refine am_e1 (v := g 18 z0.toNatClampNeg) hi_264_135 rfl ?_
              refine am_e32n (as := [.ref 39, .int r261, .int m259, .int (g 18 z0.toNatClampNeg)]) (la := [some (.ref 39), some (.int r261), some (.int m259), some (.int (g 18 z0.toNatClampNeg))]) (rest := []) hi_264_137 (am_hd0 (M := 264) (by decide) 137) (Nat.le_of_ble_eq_true rfl) (Nat.le_of_ble_eq_true rfl) (show 4 ≤ am_P0.2.2.1 239 from by decide +kernel) rfl (am_recv_ok hS263.fs) rfl rfl (ct_keep (d := (d + 6)) hS263 hR269_  (by show (0 : Int) ≤ (f 20).toInt; omega) (by show (f 20).toInt ≤ (16383 : Int); omega)) ?_
              rintro v270 S271 (⟨z272, g'273, hv274, hS275, hR278, h276, h277⟩)
              subst hv274
              have h276_ : z272.toInt = (f 20).toInt + 1 := h276
              have h277_ : ∀ j, j ∉ [21, 22, 23] → g'273 j = g'260 j := h277
              replace hS275 : MS S0 S271 (upd (upd (upd (upd (upd f 8 a251) 9 b252) 20 z272) 62 o258) 75 m259) g'273 := hS275
              have hR278_ : RJ (upd (upd (upd (upd (upd f 8 a251) 9 b252) 20 z272) 62 o258) 75 m259) g'273 gs bc [] 0 [] := hR278
              show am_E _ _ _ _ [some (.ref 39), some (.int on), some (.int tw), some (.int (g 16 z0.toNatClampNeg)), some (.int r3), some (.int 1), some (.int (g 18 z0.toNatClampNeg)), some (.int r261)] [] _ _
              refine am_e18 hi_264_140 ?_
              refine am_e2 (v := 39) hi_264_175 rfl ?_
              refine am_e7 hi_264_176 ?_
              refine mm_20 (v := .int (f 15)) hS275 hi_264_177 rfl ?_
              refine am_e0 hi_264_180 ?_
              refine am_e10 (z := z0) hi_264_181 hz0 ?_
              refine mm_21 (v := z0) hS275 hi_264_182 rfl (Nat.le_of_ble_eq_true rfl) ms_15 ?_
              intro S279 hS280
              replace hS280 : MS S0 S279 (upd (upd (upd (upd (upd (upd f 8 a251) 9 b252) 15 z0) 20 z272) 62 o258) 75 m259) g'273 := hS280
              have hp281 : mj_n (g 16) (f 15).toNatClampNeg 3 = mj_n (g 16) z0.toNatClampNeg 3 + if (g 16 z0.toNatClampNeg).toInt = 3 then 1 else 0 := mj_pop (by rw [cl_toNat, cl_toNat]; omega)
              have hp2811 : mj_n (g 16) z0.toNatClampNeg 3 ≤ mj_n (g 16) (f 15).toNatClampNeg 3 := by rw [hp281]; split <;> omega
              have hp2812 : (g 16 z0.toNatClampNeg).toInt = 3 → mj_n (g 16) z0.toNatClampNeg 3 + 1 ≤ mj_n (g 16) (f 15).toNatClampNeg 3 := fun q => by rw [hp281, if_pos q]; exact Int.le_refl _
              refine am_e2 (v := 39) hi_264_185 rfl ?_
              refine am_e7 hi_264_186 ?_
              refine mm_20 (v := .int (f 4)) hS280 hi_264_187 rfl ?_
              refine am_e0 hi_264_190 ?_
              obtain ⟨z282, hz282, tz282⟩ := am_addI (x := f 4) (y := 1) (m := (f 4).toInt) (n := (1 : Int)) rfl (by decide) (by omega) (by omega)
              refine am_e10 (z := z282) hi_264_191 hz282 ?_
              refine mm_21 (v := z282) hS280 hi_264_192 rfl (Nat.le_of_ble_eq_true rfl) ms_4 ?_
              intro S283 hS284
              replace hS284 : MS S0 S283 (upd (upd (upd (upd (upd (upd (upd f 4 z282) 8 a251) 9 b252) 15 z0) 20 z272) 62 o258) 75 m259) g'273 := hS284
              have hR285 : RJ (upd (upd (upd (upd (upd (upd (upd f 4 z282) 8 a251) 9 b252) 15 z0) 20 z272) 62 o258) 75 m259) g'273 gs bc [] 0 [] := RJ.at hR278_ (by show (f 4).toInt ≤ z282.toInt; omega)
              refine am_e1 (v := r3) hi_264_195 rfl ?_
              refine am_e0 hi_264_197 ?_
              refine am_e13t hi_264_199 (am_cT (m := r3.toInt) (n := (69 : Int)) rfl (by decide) (by simp only [am_cI]; omega)) ?_
              refine am_e2 (v := 39) hi_264_229 rfl ?_
              refine am_e0 hi_264_230 ?_
              refine am_e1 (v := on) hi_264_232 rfl ?_
              refine am_e0 hi_264_233 ?_
              obtain ⟨z286, hz286, tz286⟩ := am_addI (x := on) (y := 1) (m := on.toInt) (n := (1 : Int)) rfl (by decide) (by omega) (by omega)
              refine am_e10 (z := z286) hi_264_234 hz286 ?_
              refine am_e1 (v := tw) hi_264_235 rfl ?_
              refine am_e0 hi_264_236 ?_
              refine am_e32n (as := [.ref 39, .int 22, .int z286, .int tw, .int 0]) (la := [some (.ref 39), some (.int 22), some (.int z286), some (.int tw), some (.int 0)]) (rest := []) hi_264_237 (am_hd0 (M := 264) (by decide) 237) (Nat.le_of_ble_eq_true rfl) (Nat.le_of_ble_eq_true rfl) (show 5 ≤ am_P0.2.2.1 179 from by decide +kernel) rfl (am_recv_ok hS284.fs) rfl rfl (ct_pile (d := (d + 6)) hS284 hR285 (mj_e_plain (by decide)) (by show (0 : Int) ≤ (f 10).toInt; omega) (by show (f 10).toInt ≤ (65535 : Int); omega)) ?_
              rintro v287 S288 (⟨z289, g'290, hv291, hS292, hR295, h293, h294⟩)
              subst hv291
              have h293_ : z289.toInt = (f 10).toInt + 1 := h293
              have h294_ : ∀ j, j ∉ [11, 12, 13, 14] → g'290 j = g'273 j := h294
              replace hS292 : MS S0 S288 (upd (upd (upd (upd (upd (upd (upd (upd f 4 z282) 8 a251) 9 b252) 10 z289) 15 z0) 20 z272) 62 o258) 75 m259) g'290 := hS292
              have hR295_ : RJ (upd (upd (upd (upd (upd (upd (upd (upd f 4 z282) 8 a251) 9 b252) 10 z289) 15 z0) 20 z272) 62 o258) 75 m259) g'290 (((22 : Int), z286.toInt, tw.toInt, (0 : Int), []) :: gs) bc [] 0 [] := hR295
              show am_E _ _ _ _ [some (.ref 39), some (.int on), some (.int tw), some (.int (g 16 z0.toNatClampNeg)), some (.int r3), some (.int 1), some (.int (g 18 z0.toNatClampNeg)), some (.int r261)] [] _ _
              refine am_e2 (v := 39) hi_264_240 rfl ?_
              refine am_e32w (as := [.ref 39]) (la := [some (.ref 39)]) (rest := []) hi_264_241 (am_hd0 (M := 264) (by decide) 241) (Nat.le_of_ble_eq_true rfl) (Nat.le_of_ble_eq_true rfl) (show 1 ≤ am_P0.2.2.1 214 from by decide +kernel) rfl (am_recv_ok hS292.fs) rfl rfl ?_
              refine am_e2 (v := 39) hi_214_0 rfl ?_
              refine am_e0 hi_214_1 ?_
              refine am_e0 hi_214_3 ?_
              refine am_e0 hi_214_4 ?_
              refine am_e0 hi_214_5 ?_
              refine am_e32n (as := [.ref 39, .int 34, .int 1, .int 0, .int 0]) (la := [some (.ref 39), some (.int 34), some (.int 1), some (.int 0), some (.int 0)]) (rest := []) hi_214_6 (am_hd0 (M := 214) (by decide) 6) (Nat.le_of_ble_eq_true rfl) (Nat.le_of_ble_eq_true rfl) (show 5 ≤ am_P0.2.2.1 179 from by decide +kernel) rfl (am_recv_ok hS292.fs) rfl rfl (ct_pile (d := (d + 5)) hS292 hR295_ (mj_e_plain (by decide)) (by show (0 : Int) ≤ z289.toInt; omega) (by show z289.toInt ≤ (65535 : Int); omega)) ?_
              rintro v296 S297 (⟨z298, g'299, hv300, hS301, hR304, h302, h303⟩)
              subst hv300
              have h302_ : z298.toInt = z289.toInt + 1 := h302
              have h303_ : ∀ j, j ∉ [11, 12, 13, 14] → g'299 j = g'290 j := h303
              replace hS301 : MS S0 S297 (upd (upd (upd (upd (upd (upd (upd (upd f 4 z282) 8 a251) 9 b252) 10 z298) 15 z0) 20 z272) 62 o258) 75 m259) g'299 := hS301
              have hR304_ : RJ (upd (upd (upd (upd (upd (upd (upd (upd f 4 z282) 8 a251) 9 b252) 10 z298) 15 z0) 20 z272) 62 o258) 75 m259) g'299 (((34 : Int), (1 : Int), (0 : Int), (0 : Int), []) :: (((22 : Int), z286.toInt, tw.toInt, (0 : Int), []) :: gs)) bc [] 0 [] := hR304
              show am_E _ _ _ _ [some (.ref 39)] [] _ _
              refine am_e2 (v := 39) hi_214_9 rfl ?_
              refine am_e0 hi_214_10 ?_
              refine am_e32w (as := [.ref 39, .int 0]) (la := [some (.ref 39), some (.int 0)]) (rest := []) hi_214_11 (am_hd0 (M := 214) (by decide) 11) (Nat.le_of_ble_eq_true rfl) (Nat.le_of_ble_eq_true rfl) (show 2 ≤ am_P0.2.2.1 186 from by decide +kernel) rfl (am_recv_ok hS301.fs) rfl rfl ?_
              refine am_e2 (v := 39) hi_186_0 rfl ?_
              refine am_e0 hi_186_1 ?_
              refine am_e1 (v := 0) hi_186_3 rfl ?_
              refine am_e0 hi_186_4 ?_
              refine am_e0 hi_186_5 ?_
              refine am_e32n (as := [.ref 39, .int 23, .int 0, .int 0, .int 0]) (la := [some (.ref 39), some (.int 23), some (.int 0), some (.int 0), some (.int 0)]) (rest := []) hi_186_6 (am_hd0 (M := 186) (by decide) 6) (Nat.le_of_ble_eq_true rfl) (Nat.le_of_ble_eq_true rfl) (show 5 ≤ am_P0.2.2.1 179 from by decide +kernel) rfl (am_recv_ok hS301.fs) rfl rfl (ct_pile (d := (d + 4)) hS301 hR304_ (mj_e_plain (by decide)) (by show (0 : Int) ≤ z298.toInt; omega) (by show z298.toInt ≤ (65535 : Int); omega)) ?_
              rintro v305 S306 (⟨z307, g'308, hv309, hS310, hR313, h311, h312⟩)
              subst hv309
              have h311_ : z307.toInt = z298.toInt + 1 := h311
              have h312_ : ∀ j, j ∉ [11, 12, 13, 14] → g'308 j = g'299 j := h312
              replace hS310 : MS S0 S306 (upd (upd (upd (upd (upd (upd (upd (upd f 4 z282) 8 a251) 9 b252) 10 z307) 15 z0) 20 z272) 62 o258) 75 m259) g'308 := hS310
              have hR313_ : RJ (upd (upd (upd (upd (upd (upd (upd (upd f 4 z282) 8 a251) 9 b252) 10 z307) 15 z0) 20 z272) 62 o258) 75 m259) g'308 (((23 : Int), (0 : Int), (0 : Int), (0 : Int), []) :: (((34 : Int), (1 : Int), (0 : Int), (0 : Int), []) :: (((22 : Int), z286.toInt, tw.toInt, (0 : Int), []) :: gs))) bc [] 0 [] := hR313
              show am_E _ _ _ _ [some (.ref 39), some (.int 0)] [] _ _
              refine am_e35 hi_186_9 ?_
              show am_E _ _ _ _ [some (.ref 39)] [] _ _
              refine am_e35 hi_214_14 ?_
              show am_E _ _ _ _ [some (.ref 39), some (.int on), some (.int tw), some (.int (g 16 z0.toNatClampNeg)), some (.int r3), some (.int 1), some (.int (g 18 z0.toNatClampNeg)), some (.int r261)] [] _ _
              refine am_e35 hi_264_244 ?_
              show am_E _ _ _ _ [some (.ref 39), some (.int 21), some (.int on), some (.int tw), some (.int th)] [] _ _
              refine am_e18 hi_180_362 ?_
              refine am_e35 hi_180_371 ?_
              have q1 : mg_p1 (((23 : Int), (0 : Int), (0 : Int), (0 : Int), []) :: (((34 : Int), (1 : Int), (0 : Int), (0 : Int), []) :: (((22 : Int), z286.toInt, tw.toInt, (0 : Int), []) :: gs))) = 0 + (0 + (0 + (mg_p1 gs))) := rfl
              have q2 : mg_p2 (((23 : Int), (0 : Int), (0 : Int), (0 : Int), []) :: (((34 : Int), (1 : Int), (0 : Int), (0 : Int), []) :: (((22 : Int), z286.toInt, tw.toInt, (0 : Int), []) :: gs))) = 0 + (0 + (0 + (mg_p2 gs))) := rfl
              have q3 : mg_p3 (((23 : Int), (0 : Int), (0 : Int), (0 : Int), []) :: (((34 : Int), (1 : Int), (0 : Int), (0 : Int), []) :: (((22 : Int), z286.toInt, tw.toInt, (0 : Int), []) :: gs))) = 1 + (1 + (1 + (mg_p3 gs))) := rfl
              have q4 : mg_p4 (((23 : Int), (0 : Int), (0 : Int), (0 : Int), []) :: (((34 : Int), (1 : Int), (0 : Int), (0 : Int), []) :: (((22 : Int), z286.toInt, tw.toInt, (0 : Int), []) :: gs))) = 0 + (0 + (5 + (mg_p4 gs))) := rfl
              refine ⟨_, _, _, bc, rfl, hS310, Or.inl ⟨⟨hR313_, ?_, ?_⟩, rfl, ?_⟩⟩
              · exact (⟨⟨(show (0 : Int) ≤ 23 from by decide), (show (0 : Int) ≤ z0.toInt from by omega), (show 0 ≤ z272.toInt from by omega), (show 1 ≤ (f 37).toInt from by omega), (show 0 ≤ (f 32).toInt from by omega), (show (f 32).toInt ≤ (f 5).toInt from by omega), (show (f 5).toInt ≤ 48 from by omega), (show (f 37).toInt ≤ 2 * ((f 5).toInt) + 2 from by omega), (show 0 ≤ (0 : Int) from by omega)⟩, ⟨⟨(show (0 : Int) ≤ 34 from by decide), (show (1 : Int) ≤ z0.toInt + 1 from by omega), (show 0 ≤ z272.toInt from by omega), (show 1 ≤ (f 37).toInt + 0 from by omega), (show 0 ≤ (f 32).toInt + 0 from by omega), (show (f 32).toInt + 0 ≤ (f 5).toInt + 0 from by omega), (show (f 5).toInt + 0 ≤ 48 from by omega), (show (f 37).toInt + 0 ≤ 2 * ((f 5).toInt + 0) + 2 from by omega), trivial⟩, ⟨⟨(show (0 : Int) ≤ 22 from by decide), (show (1 : Int) ≤ z0.toInt + 1 + 0 from by omega), (show 0 ≤ z272.toInt from by omega), (show 1 ≤ (f 37).toInt + 0 + 0 from by omega), (show 0 ≤ (f 32).toInt + 0 + 0 from by omega), (show (f 32).toInt + 0 + 0 ≤ (f 5).toInt + 0 + 0 from by omega), (show (f 5).toInt + 0 + 0 ≤ 48 from by omega), (show (f 37).toInt + 0 + 0 ≤ 2 * ((f 5).toInt + 0 + 0) + 1 from by omega), ⟨(show 0 ≤ z286.toInt from by omega), (show 0 ≤ tw.toInt from by omega), (show z272.toInt = tw.toInt + z286.toInt from by omega)⟩⟩, mg_cast (mg_good_ext _ _ _ _ _ _ (fun i _ => by show g'308 34 i = g 34 i; rw [show g'308 34 = g'299 34 from h312_ 34 (by decide), show g'299 34 = g'290 34 from h303_ 34 (by decide), show g'290 34 = g'273 34 from h294_ 34 (by decide), show g'273 34 = g'260 34 from h277_ 34 (by decide), show g'260 34 = g 34 from h268_ 34 (by decide)]) (fun i _ => by show g'308 38 i = g 38 i; rw [show g'308 38 = g'299 38 from h312_ 38 (by decide), show g'299 38 = g'290 38 from h303_ 38 (by decide), show g'290 38 = g'273 38 from h294_ 38 (by decide), show g'273 38 = g'260 38 from h277_ 38 (by decide), show g'260 38 = g 38 from h268_ 38 (by decide)]) hrest) (by show (f 15).toInt + -1 = z0.toInt + 1 + 0 + -1; omega) (by show tw.toInt = tw.toInt; omega) (by show (f 37).toInt + 0 = (f 37).toInt + 0 + 0 + 0; omega) (by show (f 32).toInt + 0 = (f 32).toInt + 0 + 0 + 0; omega) (by show (f 5).toInt + 0 = (f 5).toInt + 0 + 0 + 0; omega)⟩⟩⟩ : mg_good (g'308 34) (g'308 38) (((23 : Int), (0 : Int), (0 : Int), (0 : Int), []) :: (((34 : Int), (1 : Int), (0 : Int), (0 : Int), []) :: (((22 : Int), z286.toInt, tw.toInt, (0 : Int), []) :: gs))) (z0.toInt) (z272.toInt) ((f 37).toInt) ((f 32).toInt) ((f 5).toInt))
              · exact ⟨(by show 0 ≤ z282.toInt; omega), (by show z282.toInt ≤ (f 0).toInt; omega), (by show (f 0).toInt ≤ 512; omega), (by show 0 ≤ (f 24).toInt; omega), (by show (f 24).toInt + z272.toInt + mg_p1 (((23 : Int), (0 : Int), (0 : Int), (0 : Int), []) :: (((34 : Int), (1 : Int), (0 : Int), (0 : Int), []) :: (((22 : Int), z286.toInt, tw.toInt, (0 : Int), []) :: gs))) ≤ 4 * z282.toInt; omega), (by show z272.toInt ≤ z282.toInt; omega), (by show z0.toInt + mg_p2 (((23 : Int), (0 : Int), (0 : Int), (0 : Int), []) :: (((34 : Int), (1 : Int), (0 : Int), (0 : Int), []) :: (((22 : Int), z286.toInt, tw.toInt, (0 : Int), []) :: gs))) ≤ z282.toInt; omega), (by show mg_p3 (((23 : Int), (0 : Int), (0 : Int), (0 : Int), []) :: (((34 : Int), (1 : Int), (0 : Int), (0 : Int), []) :: (((22 : Int), z286.toInt, tw.toInt, (0 : Int), []) :: gs))) ≤ 20 * z282.toInt + 20; omega), (by show 0 ≤ (f 68).toInt; omega), (by show (f 68).toInt + 3 * z272.toInt + mg_p4 (((23 : Int), (0 : Int), (0 : Int), (0 : Int), []) :: (((34 : Int), (1 : Int), (0 : Int), (0 : Int), []) :: (((22 : Int), z286.toInt, tw.toInt, (0 : Int), []) :: gs))) ≤ 60 * z282.toInt + 60; omega), (by show 0 ≤ o258.toInt; omega), (by show o258.toInt + 64 * mj_n (g'308 16) z0.toNatClampNeg 3 ≤ 64 * z282.toInt; rw [show g'308 16 = g'299 16 from h312_ 16 (by decide), show g'299 16 = g'290 16 from h303_ 16 (by decide), show g'290 16 = g'273 16 from h294_ 16 (by decide), show g'273 16 = g'260 16 from h277_ 16 (by decide), show g'260 16 = g 16 from h268_ 16 (by decide)]; omega), (by show 0 ≤ (f 44).toInt; omega), (by show (f 44).toInt ≤ z282.toInt; omega), (by show 0 ≤ (f 48).toInt; omega), (by show (f 48).toInt ≤ z282.toInt; omega), (by show 1 ≤ (f 53).toInt; omega), (by show (f 53).toInt ≤ z282.toInt + 1; omega)⟩
              · show 100 * ((f 0).toInt - z282.toInt) + mg_p3 (((23 : Int), (0 : Int), (0 : Int), (0 : Int), []) :: (((34 : Int), (1 : Int), (0 : Int), (0 : Int), []) :: (((22 : Int), z286.toInt, tw.toInt, (0 : Int), []) :: gs))) < 100 * ((f 0).toInt - (f 4).toInt) + (1 + mg_p3 gs); omega
    · refine am_e13f hi_264_41 (am_cF (m := (g 16 z0.toNatClampNeg).toInt) (n := (1 : Int)) rfl (by decide) c9) ?_
      refine am_e1 (v := on) hi_264_44 rfl ?_
      by_cases c314 : ¬ on.toInt = (0 : Int)
      · refine am_e12t hi_264_45 (am_cT (m := on.toInt) (n := (0 : Int)) rfl (by decide) c314) ?_
        refine am_e1 (v := g 16 z0.toNatClampNeg) hi_264_84 rfl ?_
        refine am_e0 hi_264_85 ?_
        refine am_e13t hi_264_86 (am_cT (m := (g 16 z0.toNatClampNeg).toInt) (n := (3 : Int)) rfl (by decide) (by simp only [am_cI]; omega)) ?_
        refine am_e2 (v := 39) hi_264_94 rfl ?_
        refine am_e0 hi_264_95 ?_
        refine am_e32n (as := [.ref 39, .int 7]) (la := [some (.ref 39), some (.int 7)]) (rest := []) hi_264_97 (am_hd0 (M := 264) (by decide) 97) (Nat.le_of_ble_eq_true rfl) (Nat.le_of_ble_eq_true rfl) (show 2 ≤ am_P0.2.2.1 194 from by decide +kernel) rfl (am_recv_ok hS5.fs) rfl rfl (ct_fail (d := (d + 6)) hS5   ) ?_
        rintro v315 S316 (⟨a317, b318, hv319, hS320⟩)
        subst hv319
        have hR322 := rj_clear0 hR
        have hR323 : RJ (upd (upd (upd f 6 a317) 7 b318) 10 0) g [] bc [] 0 [] := hR322
        show am_E _ _ _ _ [some (.ref 39), some (.int on), some (.int tw), some (.int (g 16 z0.toNatClampNeg)), some (.int r3), some (.int 1), none, none] [.int 0] _ _
        refine am_e6i hi_264_100 ?_
        refine am_e35 hi_264_101 ?_
        show am_E _ _ _ _ [some (.ref 39), some (.int 21), some (.int on), some (.int tw), some (.int th)] [] _ _
        refine am_e18 hi_180_362 ?_
        refine am_e35 hi_180_371 ?_
        have hRc := rj_clear0 hR323
        refine ⟨_, _, [], _, rfl, hS320, Or.inr ⟨hRc, rfl, (by show 0 ≤ (f 4).toInt; omega), (by show (f 4).toInt ≤ (f 0).toInt; omega), (by show 0 ≤ (f 32).toInt; omega), (by show (f 32).toInt ≤ 63; omega), (by show 1 ≤ (f 53).toInt; omega), (by show (f 53).toInt ≤ 600; omega), (by show 0 ≤ (f 68).toInt; omega), (by show (f 68).toInt ≤ 60000; omega), (by show 0 ≤ (f 48).toInt; omega), (by show (f 48).toInt ≤ 8000; omega), (by show 0 ≤ (f 37).toInt; omega), (by show (f 37).toInt ≤ 128; omega), (by show 0 ≤ (f 62).toInt; omega), (by show (f 62).toInt ≤ 65000; omega)⟩⟩
      · refine am_e12f hi_264_45 (am_cF (m := on.toInt) (n := (0 : Int)) rfl (by decide) c314) ?_
        refine am_e1 (v := 1) hi_264_48 rfl ?_
        refine am_e12t hi_264_50 (by decide) ?_
        refine am_e1 (v := g 16 z0.toNatClampNeg) hi_264_84 rfl ?_
        refine am_e0 hi_264_85 ?_
        refine am_e13t hi_264_86 (am_cT (m := (g 16 z0.toNatClampNeg).toInt) (n := (3 : Int)) rfl (by decide) (by simp only [am_cI]; omega)) ?_
        refine am_e2 (v := 39) hi_264_94 rfl ?_
        refine am_e0 hi_264_95 ?_
        refine am_e32n (as := [.ref 39, .int 7]) (la := [some (.ref 39), some (.int 7)]) (rest := []) hi_264_97 (am_hd0 (M := 264) (by decide) 97) (Nat.le_of_ble_eq_true rfl) (Nat.le_of_ble_eq_true rfl) (show 2 ≤ am_P0.2.2.1 194 from by decide +kernel) rfl (am_recv_ok hS5.fs) rfl rfl (ct_fail (d := (d + 6)) hS5   ) ?_
        rintro v324 S325 (⟨a326, b327, hv328, hS329⟩)
        subst hv328
        have hR331 := rj_clear0 hR
        have hR332 : RJ (upd (upd (upd f 6 a326) 7 b327) 10 0) g [] bc [] 0 [] := hR331
        show am_E _ _ _ _ [some (.ref 39), some (.int on), some (.int tw), some (.int (g 16 z0.toNatClampNeg)), some (.int r3), some (.int 1), none, none] [.int 0] _ _
        refine am_e6i hi_264_100 ?_
        refine am_e35 hi_264_101 ?_
        show am_E _ _ _ _ [some (.ref 39), some (.int 21), some (.int on), some (.int tw), some (.int th)] [] _ _
        refine am_e18 hi_180_362 ?_
        refine am_e35 hi_180_371 ?_
        have hRc := rj_clear0 hR332
        refine ⟨_, _, [], _, rfl, hS329, Or.inr ⟨hRc, rfl, (by show 0 ≤ (f 4).toInt; omega), (by show (f 4).toInt ≤ (f 0).toInt; omega), (by show 0 ≤ (f 32).toInt; omega), (by show (f 32).toInt ≤ 63; omega), (by show 1 ≤ (f 53).toInt; omega), (by show (f 53).toInt ≤ 600; omega), (by show 0 ≤ (f 68).toInt; omega), (by show (f 68).toInt ≤ 60000; omega), (by show 0 ≤ (f 48).toInt; omega), (by show (f 48).toInt ≤ 8000; omega), (by show 0 ≤ (f 37).toInt; omega), (by show (f 37).toInt ≤ 128; omega), (by show 0 ≤ (f 62).toInt; omega), (by show (f 62).toInt ≤ 65000; omega)⟩⟩
  · refine am_e13f hi_264_22 (am_cF (m := r3.toInt) (n := (59 : Int)) rfl (by decide) c8) ?_
    refine am_e1 (v := r3) hi_264_25 rfl ?_
    refine am_e0 hi_264_27 ?_
    by_cases c333 : ¬ r3.toInt = (69 : Int)
    · refine am_e13t hi_264_29 (am_cT (m := r3.toInt) (n := (69 : Int)) rfl (by decide) c333) ?_
      refine am_e0 hi_264_36 ?_
      refine am_e3 (ls' := [some (.ref 39), some (.int on), some (.int tw), some (.int (g 16 z0.toNatClampNeg)), some (.int r3), some (.int 0), none, none]) hi_264_37 (Nat.le_of_ble_eq_true rfl) rfl ?_
      refine am_e1 (v := g 16 z0.toNatClampNeg) hi_264_39 rfl ?_
      refine am_e0 hi_264_40 ?_
      by_cases c334 : ¬ (g 16 z0.toNatClampNeg).toInt = (1 : Int)
      · refine am_e13t hi_264_41 (am_cT (m := (g 16 z0.toNatClampNeg).toInt) (n := (1 : Int)) rfl (by decide) c334) ?_
        refine am_e1 (v := g 16 z0.toNatClampNeg) hi_264_84 rfl ?_
        refine am_e0 hi_264_85 ?_
        by_cases c335 : (g 16 z0.toNatClampNeg).toInt < (3 : Int)
        · refine am_e13t hi_264_86 (am_cT (m := (g 16 z0.toNatClampNeg).toInt) (n := (3 : Int)) rfl (by decide) c335) ?_
          refine am_e2 (v := 39) hi_264_94 rfl ?_
          refine am_e0 hi_264_95 ?_
          refine am_e32n (as := [.ref 39, .int 7]) (la := [some (.ref 39), some (.int 7)]) (rest := []) hi_264_97 (am_hd0 (M := 264) (by decide) 97) (Nat.le_of_ble_eq_true rfl) (Nat.le_of_ble_eq_true rfl) (show 2 ≤ am_P0.2.2.1 194 from by decide +kernel) rfl (am_recv_ok hS5.fs) rfl rfl (ct_fail (d := (d + 6)) hS5   ) ?_
          rintro v336 S337 (⟨a338, b339, hv340, hS341⟩)
          subst hv340
          have hR343 := rj_clear0 hR
          have hR344 : RJ (upd (upd (upd f 6 a338) 7 b339) 10 0) g [] bc [] 0 [] := hR343
          show am_E _ _ _ _ [some (.ref 39), some (.int on), some (.int tw), some (.int (g 16 z0.toNatClampNeg)), some (.int r3), some (.int 0), none, none] [.int 0] _ _
          refine am_e6i hi_264_100 ?_
          refine am_e35 hi_264_101 ?_
          show am_E _ _ _ _ [some (.ref 39), some (.int 21), some (.int on), some (.int tw), some (.int th)] [] _ _
          refine am_e18 hi_180_362 ?_
          refine am_e35 hi_180_371 ?_
          have hRc := rj_clear0 hR344
          refine ⟨_, _, [], _, rfl, hS341, Or.inr ⟨hRc, rfl, (by show 0 ≤ (f 4).toInt; omega), (by show (f 4).toInt ≤ (f 0).toInt; omega), (by show 0 ≤ (f 32).toInt; omega), (by show (f 32).toInt ≤ 63; omega), (by show 1 ≤ (f 53).toInt; omega), (by show (f 53).toInt ≤ 600; omega), (by show 0 ≤ (f 68).toInt; omega), (by show (f 68).toInt ≤ 60000; omega), (by show 0 ≤ (f 48).toInt; omega), (by show (f 48).toInt ≤ 8000; omega), (by show 0 ≤ (f 37).toInt; omega), (by show (f 37).toInt ≤ 128; omega), (by show 0 ≤ (f 62).toInt; omega), (by show (f 62).toInt ≤ 65000; omega)⟩⟩
        · refine am_e13f hi_264_86 (am_cF (m := (g 16 z0.toNatClampNeg).toInt) (n := (3 : Int)) rfl (by decide) c335) ?_
          refine am_e1 (v := 0) hi_264_89 rfl ?_
          refine am_e12f hi_264_91 (by decide) ?_
          refine am_e2 (v := 39) hi_264_94 rfl ?_
          refine am_e0 hi_264_95 ?_
          refine am_e32n (as := [.ref 39, .int 7]) (la := [some (.ref 39), some (.int 7)]) (rest := []) hi_264_97 (am_hd0 (M := 264) (by decide) 97) (Nat.le_of_ble_eq_true rfl) (Nat.le_of_ble_eq_true rfl) (show 2 ≤ am_P0.2.2.1 194 from by decide +kernel) rfl (am_recv_ok hS5.fs) rfl rfl (ct_fail (d := (d + 6)) hS5   ) ?_
          rintro v345 S346 (⟨a347, b348, hv349, hS350⟩)
          subst hv349
          have hR352 := rj_clear0 hR
          have hR353 : RJ (upd (upd (upd f 6 a347) 7 b348) 10 0) g [] bc [] 0 [] := hR352
          show am_E _ _ _ _ [some (.ref 39), some (.int on), some (.int tw), some (.int (g 16 z0.toNatClampNeg)), some (.int r3), some (.int 0), none, none] [.int 0] _ _
          refine am_e6i hi_264_100 ?_
          refine am_e35 hi_264_101 ?_
          show am_E _ _ _ _ [some (.ref 39), some (.int 21), some (.int on), some (.int tw), some (.int th)] [] _ _
          refine am_e18 hi_180_362 ?_
          refine am_e35 hi_180_371 ?_
          have hRc := rj_clear0 hR353
          refine ⟨_, _, [], _, rfl, hS350, Or.inr ⟨hRc, rfl, (by show 0 ≤ (f 4).toInt; omega), (by show (f 4).toInt ≤ (f 0).toInt; omega), (by show 0 ≤ (f 32).toInt; omega), (by show (f 32).toInt ≤ 63; omega), (by show 1 ≤ (f 53).toInt; omega), (by show (f 53).toInt ≤ 600; omega), (by show 0 ≤ (f 68).toInt; omega), (by show (f 68).toInt ≤ 60000; omega), (by show 0 ≤ (f 48).toInt; omega), (by show (f 48).toInt ≤ 8000; omega), (by show 0 ≤ (f 37).toInt; omega), (by show (f 37).toInt ≤ 128; omega), (by show 0 ≤ (f 62).toInt; omega), (by show (f 62).toInt ≤ 65000; omega)⟩⟩
      · refine am_e13f hi_264_41 (am_cF (m := (g 16 z0.toNatClampNeg).toInt) (n := (1 : Int)) rfl (by decide) c334) ?_
        refine am_e1 (v := on) hi_264_44 rfl ?_
        by_cases c354 : ¬ on.toInt = (0 : Int)
        · refine am_e12t hi_264_45 (am_cT (m := on.toInt) (n := (0 : Int)) rfl (by decide) c354) ?_
          refine am_e1 (v := g 16 z0.toNatClampNeg) hi_264_84 rfl ?_
          refine am_e0 hi_264_85 ?_
          refine am_e13t hi_264_86 (am_cT (m := (g 16 z0.toNatClampNeg).toInt) (n := (3 : Int)) rfl (by decide) (by simp only [am_cI]; omega)) ?_
          refine am_e2 (v := 39) hi_264_94 rfl ?_
          refine am_e0 hi_264_95 ?_
          refine am_e32n (as := [.ref 39, .int 7]) (la := [some (.ref 39), some (.int 7)]) (rest := []) hi_264_97 (am_hd0 (M := 264) (by decide) 97) (Nat.le_of_ble_eq_true rfl) (Nat.le_of_ble_eq_true rfl) (show 2 ≤ am_P0.2.2.1 194 from by decide +kernel) rfl (am_recv_ok hS5.fs) rfl rfl (ct_fail (d := (d + 6)) hS5   ) ?_
          rintro v355 S356 (⟨a357, b358, hv359, hS360⟩)
          subst hv359
          have hR362 := rj_clear0 hR
          have hR363 : RJ (upd (upd (upd f 6 a357) 7 b358) 10 0) g [] bc [] 0 [] := hR362
          show am_E _ _ _ _ [some (.ref 39), some (.int on), some (.int tw), some (.int (g 16 z0.toNatClampNeg)), some (.int r3), some (.int 0), none, none] [.int 0] _ _
          refine am_e6i hi_264_100 ?_
          refine am_e35 hi_264_101 ?_
          show am_E _ _ _ _ [some (.ref 39), some (.int 21), some (.int on), some (.int tw), some (.int th)] [] _ _
          refine am_e18 hi_180_362 ?_
          refine am_e35 hi_180_371 ?_
          have hRc := rj_clear0 hR363
          refine ⟨_, _, [], _, rfl, hS360, Or.inr ⟨hRc, rfl, (by show 0 ≤ (f 4).toInt; omega), (by show (f 4).toInt ≤ (f 0).toInt; omega), (by show 0 ≤ (f 32).toInt; omega), (by show (f 32).toInt ≤ 63; omega), (by show 1 ≤ (f 53).toInt; omega), (by show (f 53).toInt ≤ 600; omega), (by show 0 ≤ (f 68).toInt; omega), (by show (f 68).toInt ≤ 60000; omega), (by show 0 ≤ (f 48).toInt; omega), (by show (f 48).toInt ≤ 8000; omega), (by show 0 ≤ (f 37).toInt; omega), (by show (f 37).toInt ≤ 128; omega), (by show 0 ≤ (f 62).toInt; omega), (by show (f 62).toInt ≤ 65000; omega)⟩⟩
        · refine am_e12f hi_264_45 (am_cF (m := on.toInt) (n := (0 : Int)) rfl (by decide) c354) ?_
          refine am_e1 (v := 0) hi_264_48 rfl ?_
          refine am_e12f hi_264_50 (by decide) ?_
          refine am_e2 (v := 39) hi_264_53 rfl ?_
          refine mm_20 (v := .ref 91) hS5 hi_264_54 rfl ?_
          refine am_e2 (v := 39) hi_264_57 rfl ?_
          refine mm_20 (v := .ref 47) hS5 hi_264_58 rfl ?_
          refine am_e2 (v := 39) hi_264_61 rfl ?_
          refine mm_20 (v := .int (f 15)) hS5 hi_264_62 rfl ?_
          refine am_e0 hi_264_65 ?_
          refine am_e10 (z := z0) hi_264_66 hz0 ?_
          refine mm_25 hS5 ma_17 hi_264_67 (by decide) (by omega) (by omega) ?_
          show am_E _ _ _ _ [some (.ref 39), some (.int on), some (.int tw), some (.int (g 16 z0.toNatClampNeg)), some (.int r3), some (.int 0), none, none] [.int (g 17 z0.toNatClampNeg), .ref 91] _ _
          have r364 : (g 16 z0.toNatClampNeg).toInt = 1 ∨ (g 16 z0.toNatClampNeg).toInt = 2 → 0 ≤ (g 17 z0.toNatClampNeg).toInt ∧ (g 17 z0.toNatClampNeg).toInt < 65536 := RJ.vc hR z0.toNatClampNeg
          refine am_e8 hi_264_68 ?_
          refine mm_25 hS5 ma_72 hi_264_69 (by decide) (by omega) (by omega) ?_
          show am_E _ _ _ _ [some (.ref 39), some (.int on), some (.int tw), some (.int (g 16 z0.toNatClampNeg)), some (.int r3), some (.int 0), none, none] [.int (g 72 (g 17 z0.toNatClampNeg).toNatClampNeg), .int (g 17 z0.toNatClampNeg), .ref 91] _ _
          refine am_e0 hi_264_70 ?_
          obtain ⟨z365, hz365⟩ : ∃ q__, am_bin 3 (g 72 (g 17 z0.toNatClampNeg).toNatClampNeg) 1 = q__ := ⟨_, rfl⟩
          refine am_e10 (z := z365) hi_264_71 hz365 ?_
          refine mm_26 hS5 ma_72 hi_264_72 (by decide) (by omega) (by omega) (fun h => nomatch h) ?_
          intro S366 hS367
          refine am_e2 (v := 39) hi_264_73 rfl ?_
          refine am_e7 hi_264_74 ?_
          refine mm_20 (v := .int (f 15)) hS367 hi_264_75 rfl ?_
          refine am_e0 hi_264_78 ?_
          refine am_e10 (z := z0) hi_264_79 hz0 ?_
          refine mm_21 (v := z0) hS367 hi_264_80 rfl (Nat.le_of_ble_eq_true rfl) ms_15 ?_
          intro S368 hS369
          have hp370 : mj_n (g 16) (f 15).toNatClampNeg 3 = mj_n (g 16) z0.toNatClampNeg 3 + if (g 16 z0.toNatClampNeg).toInt = 3 then 1 else 0 := mj_pop (by rw [cl_toNat, cl_toNat]; omega)
          have hp3701 : mj_n (g 16) z0.toNatClampNeg 3 ≤ mj_n (g 16) (f 15).toNatClampNeg 3 := by rw [hp370]; split <;> omega
          have hp3702 : (g 16 z0.toNatClampNeg).toInt = 3 → mj_n (g 16) z0.toNatClampNeg 3 + 1 ≤ mj_n (g 16) (f 15).toNatClampNeg 3 := fun q => by rw [hp370, if_pos q]; exact Int.le_refl _
          refine am_e35 hi_264_83 ?_
          show am_E _ _ _ _ [some (.ref 39), some (.int 21), some (.int on), some (.int tw), some (.int th)] [] _ _
          refine am_e18 hi_180_362 ?_
          refine am_e35 hi_180_371 ?_
          have q1 : mg_p1 gs = mg_p1 gs := rfl
          have q2 : mg_p2 gs = mg_p2 gs := rfl
          have q3 : mg_p3 gs = mg_p3 gs := rfl
          have q4 : mg_p4 gs = mg_p4 gs := rfl
          refine ⟨_, _, _, bc, rfl, hS369, Or.inl ⟨⟨hR, ?_, ?_⟩, rfl, ?_⟩⟩
          · exact (mg_cast (mg_good_ext _ _ _ _ _ _ (fun _ _ => rfl) (fun _ _ => rfl) hrest) (by show (f 15).toInt + -1 = z0.toInt; omega) (by show tw.toInt = (f 20).toInt; omega) (by show (f 37).toInt + 0 = (f 37).toInt; omega) (by show (f 32).toInt + 0 = (f 32).toInt; omega) (by show (f 5).toInt + 0 = (f 5).toInt; omega) : mg_good ((upg g 72 (g 17 z0.toNatClampNeg).toNatClampNeg z365) 34) ((upg g 72 (g 17 z0.toNatClampNeg).toNatClampNeg z365) 38) gs (z0.toInt) ((f 20).toInt) ((f 37).toInt) ((f 32).toInt) ((f 5).toInt))
          · exact ⟨(by show 0 ≤ (f 4).toInt; omega), (by show (f 4).toInt ≤ (f 0).toInt; omega), (by show (f 0).toInt ≤ 512; omega), (by show 0 ≤ (f 24).toInt; omega), (by show (f 24).toInt + (f 20).toInt + mg_p1 gs ≤ 4 * (f 4).toInt; omega), (by show (f 20).toInt ≤ (f 4).toInt; omega), (by show z0.toInt + mg_p2 gs ≤ (f 4).toInt; omega), (by show mg_p3 gs ≤ 20 * (f 4).toInt + 20; omega), (by show 0 ≤ (f 68).toInt; omega), (by show (f 68).toInt + 3 * (f 20).toInt + mg_p4 gs ≤ 60 * (f 4).toInt + 60; omega), (by show 0 ≤ (f 62).toInt; omega), (by show (f 62).toInt + 64 * mj_n (g 16) z0.toNatClampNeg 3 ≤ 64 * (f 4).toInt; omega), (by show 0 ≤ (f 44).toInt; omega), (by show (f 44).toInt ≤ (f 4).toInt; omega), (by show 0 ≤ (f 48).toInt; omega), (by show (f 48).toInt ≤ (f 4).toInt; omega), (by show 1 ≤ (f 53).toInt; omega), (by show (f 53).toInt ≤ (f 4).toInt + 1; omega)⟩
          · show 100 * ((f 0).toInt - (f 4).toInt) + mg_p3 gs < 100 * ((f 0).toInt - (f 4).toInt) + (1 + mg_p3 gs); omega
    · refine am_e13f hi_264_29 (am_cF (m := r3.toInt) (n := (69 : Int)) rfl (by decide) c333) ?_
      refine am_e0 hi_264_32 ?_
      refine am_e18 hi_264_33 ?_
      refine am_e3 (ls' := [some (.ref 39), some (.int on), some (.int tw), some (.int (g 16 z0.toNatClampNeg)), some (.int r3), some (.int 1), none, none]) hi_264_37 (Nat.le_of_ble_eq_true rfl) rfl ?_
      refine am_e1 (v := g 16 z0.toNatClampNeg) hi_264_39 rfl ?_
      refine am_e0 hi_264_40 ?_
      by_cases c371 : ¬ (g 16 z0.toNatClampNeg).toInt = (1 : Int)
      · refine am_e13t hi_264_41 (am_cT (m := (g 16 z0.toNatClampNeg).toInt) (n := (1 : Int)) rfl (by decide) c371) ?_
        refine am_e1 (v := g 16 z0.toNatClampNeg) hi_264_84 rfl ?_
        refine am_e0 hi_264_85 ?_
        by_cases c372 : (g 16 z0.toNatClampNeg).toInt < (3 : Int)
        · refine am_e13t hi_264_86 (am_cT (m := (g 16 z0.toNatClampNeg).toInt) (n := (3 : Int)) rfl (by decide) c372) ?_
          refine am_e2 (v := 39) hi_264_94 rfl ?_
          refine am_e0 hi_264_95 ?_
          refine am_e32n (as := [.ref 39, .int 7]) (la := [some (.ref 39), some (.int 7)]) (rest := []) hi_264_97 (am_hd0 (M := 264) (by decide) 97) (Nat.le_of_ble_eq_true rfl) (Nat.le_of_ble_eq_true rfl) (show 2 ≤ am_P0.2.2.1 194 from by decide +kernel) rfl (am_recv_ok hS5.fs) rfl rfl (ct_fail (d := (d + 6)) hS5   ) ?_
          rintro v373 S374 (⟨a375, b376, hv377, hS378⟩)
          subst hv377
          have hR380 := rj_clear0 hR
          have hR381 : RJ (upd (upd (upd f 6 a375) 7 b376) 10 0) g [] bc [] 0 [] := hR380
          show am_E _ _ _ _ [some (.ref 39), some (.int on), some (.int tw), some (.int (g 16 z0.toNatClampNeg)), some (.int r3), some (.int 1), none, none] [.int 0] _ _
          refine am_e6i hi_264_100 ?_
          refine am_e35 hi_264_101 ?_
          show am_E _ _ _ _ [some (.ref 39), some (.int 21), some (.int on), some (.int tw), some (.int th)] [] _ _
          refine am_e18 hi_180_362 ?_
          refine am_e35 hi_180_371 ?_
          have hRc := rj_clear0 hR381
          refine ⟨_, _, [], _, rfl, hS378, Or.inr ⟨hRc, rfl, (by show 0 ≤ (f 4).toInt; omega), (by show (f 4).toInt ≤ (f 0).toInt; omega), (by show 0 ≤ (f 32).toInt; omega), (by show (f 32).toInt ≤ 63; omega), (by show 1 ≤ (f 53).toInt; omega), (by show (f 53).toInt ≤ 600; omega), (by show 0 ≤ (f 68).toInt; omega), (by show (f 68).toInt ≤ 60000; omega), (by show 0 ≤ (f 48).toInt; omega), (by show (f 48).toInt ≤ 8000; omega), (by show 0 ≤ (f 37).toInt; omega), (by show (f 37).toInt ≤ 128; omega), (by show 0 ≤ (f 62).toInt; omega), (by show (f 62).toInt ≤ 65000; omega)⟩⟩
        · refine am_e13f hi_264_86 (am_cF (m := (g 16 z0.toNatClampNeg).toInt) (n := (3 : Int)) rfl (by decide) c372) ?_
          refine am_e1 (v := 1) hi_264_89 rfl ?_
          refine am_e12t hi_264_91 (by decide) ?_
          refine am_e2 (v := 39) hi_264_102 rfl ?_
          refine mm_20 (v := .ref 48) hS5 hi_264_103 rfl ?_
          refine am_e2 (v := 39) hi_264_106 rfl ?_
          refine mm_20 (v := .int (f 15)) hS5 hi_264_107 rfl ?_
          refine am_e0 hi_264_110 ?_
          refine am_e10 (z := z0) hi_264_111 hz0 ?_
          refine mm_25 hS5 ma_18 hi_264_112 (by decide) (by omega) (by omega) ?_
          show am_E _ _ _ _ [some (.ref 39), some (.int on), some (.int tw), some (.int (g 16 z0.toNatClampNeg)), some (.int r3), some (.int 1), none, none] [.int (g 18 z0.toNatClampNeg)] _ _
          have r382 : (g 16 z0.toNatClampNeg).toInt = 3 → 0 ≤ (g 18 z0.toNatClampNeg).toInt ∧ (g 18 z0.toNatClampNeg).toInt < 16384 := RJ.vw hR z0.toNatClampNeg
          refine am_e3 (ls' := [some (.ref 39), some (.int on), some (.int tw), some (.int (g 16 z0.toNatClampNeg)), some (.int r3), some (.int 1), some (.int (g 18 z0.toNatClampNeg)), none]) hi_264_113 (Nat.le_of_ble_eq_true rfl) rfl ?_
          refine am_e1 (v := g 16 z0.toNatClampNeg) hi_264_115 rfl ?_
          refine am_e0 hi_264_116 ?_
          by_cases c383 : ¬ (g 16 z0.toNatClampNeg).toInt = (3 : Int)
          · refine am_e13t hi_264_117 (am_cT (m := (g 16 z0.toNatClampNeg).toInt) (n := (3 : Int)) rfl (by decide) c383) ?_
            refine am_e1 (v := g 16 z0.toNatClampNeg) hi_264_143 rfl ?_
            refine am_e0 hi_264_144 ?_
            by_cases c384 : ¬ (g 16 z0.toNatClampNeg).toInt = (5 : Int)
            · refine am_e13t hi_264_145 (am_cT (m := (g 16 z0.toNatClampNeg).toInt) (n := (5 : Int)) rfl (by decide) c384) ?_
              refine am_e2 (v := 39) hi_264_167 rfl ?_
              refine am_e0 hi_264_168 ?_
              refine am_e0 hi_264_169 ?_
              refine am_e1 (v := g 18 z0.toNatClampNeg) hi_264_170 rfl ?_
              refine am_e32n (as := [.ref 39, .int 3, .int 0, .int (g 18 z0.toNatClampNeg)]) (la := [some (.ref 39), some (.int 3), some (.int 0), some (.int (g 18 z0.toNatClampNeg))]) (rest := []) hi_264_172 (am_hd0 (M := 264) (by decide) 172) (Nat.le_of_ble_eq_true rfl) (Nat.le_of_ble_eq_true rfl) (show 4 ≤ am_P0.2.2.1 239 from by decide +kernel) rfl (am_recv_ok hS5.fs) rfl rfl (ct_keep (d := (d + 6)) hS5 hR  (by show (0 : Int) ≤ (f 20).toInt; omega) (by show (f 20).toInt ≤ (16383 : Int); omega)) ?_
              rintro v385 S386 (⟨z387, g'388, hv389, hS390, hR393, h391, h392⟩)
              subst hv389
              have h391_ : z387.toInt = (f 20).toInt + 1 := h391
              have h392_ : ∀ j, j ∉ [21, 22, 23] → g'388 j = g j := h392
              have hR393_ : RJ (upd f 20 z387) g'388 gs bc [] 0 [] := hR393
              show am_E _ _ _ _ [some (.ref 39), some (.int on), some (.int tw), some (.int (g 16 z0.toNatClampNeg)), some (.int r3), some (.int 1), some (.int (g 18 z0.toNatClampNeg)), none] [] _ _
              refine am_e2 (v := 39) hi_264_175 rfl ?_
              refine am_e7 hi_264_176 ?_
              refine mm_20 (v := .int (f 15)) hS390 hi_264_177 rfl ?_
              refine am_e0 hi_264_180 ?_
              refine am_e10 (z := z0) hi_264_181 hz0 ?_
              refine mm_21 (v := z0) hS390 hi_264_182 rfl (Nat.le_of_ble_eq_true rfl) ms_15 ?_
              intro S394 hS395
              replace hS395 : MS S0 S394 (upd (upd f 15 z0) 20 z387) g'388 := hS395
              have hp396 : mj_n (g 16) (f 15).toNatClampNeg 3 = mj_n (g 16) z0.toNatClampNeg 3 + if (g 16 z0.toNatClampNeg).toInt = 3 then 1 else 0 := mj_pop (by rw [cl_toNat, cl_toNat]; omega)
              have hp3961 : mj_n (g 16) z0.toNatClampNeg 3 ≤ mj_n (g 16) (f 15).toNatClampNeg 3 := by rw [hp396]; split <;> omega
              have hp3962 : (g 16 z0.toNatClampNeg).toInt = 3 → mj_n (g 16) z0.toNatClampNeg 3 + 1 ≤ mj_n (g 16) (f 15).toNatClampNeg 3 := fun q => by rw [hp396, if_pos q]; exact Int.le_refl _
              refine am_e2 (v := 39) hi_264_185 rfl ?_
              refine am_e7 hi_264_186 ?_
              refine mm_20 (v := .int (f 4)) hS395 hi_264_187 rfl ?_
              refine am_e0 hi_264_190 ?_
              obtain ⟨z397, hz397, tz397⟩ := am_addI (x := f 4) (y := 1) (m := (f 4).toInt) (n := (1 : Int)) rfl (by decide) (by omega) (by omega)
              refine am_e10 (z := z397) hi_264_191 hz397 ?_
              refine mm_21 (v := z397) hS395 hi_264_192 rfl (Nat.le_of_ble_eq_true rfl) ms_4 ?_
              intro S398 hS399
              replace hS399 : MS S0 S398 (upd (upd (upd f 4 z397) 15 z0) 20 z387) g'388 := hS399
              have hR400 : RJ (upd (upd (upd f 4 z397) 15 z0) 20 z387) g'388 gs bc [] 0 [] := RJ.at hR393_ (by show (f 4).toInt ≤ z397.toInt; omega)
              refine am_e1 (v := r3) hi_264_195 rfl ?_
              refine am_e0 hi_264_197 ?_
              refine am_e13f hi_264_199 (am_cF (m := r3.toInt) (n := (69 : Int)) rfl (by decide) (by simp only [am_cI]; omega)) ?_
              refine am_e2 (v := 39) hi_264_202 rfl ?_
              refine am_e0 hi_264_203 ?_
              refine am_e1 (v := on) hi_264_205 rfl ?_
              refine am_e0 hi_264_206 ?_
              obtain ⟨z401, hz401, tz401⟩ := am_addI (x := on) (y := 1) (m := on.toInt) (n := (1 : Int)) rfl (by decide) (by omega) (by omega)
              refine am_e10 (z := z401) hi_264_207 hz401 ?_
              refine am_e1 (v := tw) hi_264_208 rfl ?_
              refine am_e0 hi_264_209 ?_
              refine am_e32n (as := [.ref 39, .int 21, .int z401, .int tw, .int 0]) (la := [some (.ref 39), some (.int 21), some (.int z401), some (.int tw), some (.int 0)]) (rest := []) hi_264_210 (am_hd0 (M := 264) (by decide) 210) (Nat.le_of_ble_eq_true rfl) (Nat.le_of_ble_eq_true rfl) (show 5 ≤ am_P0.2.2.1 179 from by decide +kernel) rfl (am_recv_ok hS399.fs) rfl rfl (ct_pile (d := (d + 6)) hS399 hR400 (mj_e_plain (by decide)) (by show (0 : Int) ≤ (f 10).toInt; omega) (by show (f 10).toInt ≤ (65535 : Int); omega)) ?_
              rintro v402 S403 (⟨z404, g'405, hv406, hS407, hR410, h408, h409⟩)
              subst hv406
              have h408_ : z404.toInt = (f 10).toInt + 1 := h408
              have h409_ : ∀ j, j ∉ [11, 12, 13, 14] → g'405 j = g'388 j := h409
              replace hS407 : MS S0 S403 (upd (upd (upd (upd f 4 z397) 10 z404) 15 z0) 20 z387) g'405 := hS407
              have hR410_ : RJ (upd (upd (upd (upd f 4 z397) 10 z404) 15 z0) 20 z387) g'405 (((21 : Int), z401.toInt, tw.toInt, (0 : Int), []) :: gs) bc [] 0 [] := hR410
              show am_E _ _ _ _ [some (.ref 39), some (.int on), some (.int tw), some (.int (g 16 z0.toNatClampNeg)), some (.int r3), some (.int 1), some (.int (g 18 z0.toNatClampNeg)), none] [] _ _
              refine am_e2 (v := 39) hi_264_213 rfl ?_
              refine am_e0 hi_264_214 ?_
              refine am_e0 hi_264_216 ?_
              refine am_e0 hi_264_217 ?_
              refine am_e0 hi_264_218 ?_
              refine am_e32n (as := [.ref 39, .int 28, .int 0, .int 0, .int 0]) (la := [some (.ref 39), some (.int 28), some (.int 0), some (.int 0), some (.int 0)]) (rest := []) hi_264_219 (am_hd0 (M := 264) (by decide) 219) (Nat.le_of_ble_eq_true rfl) (Nat.le_of_ble_eq_true rfl) (show 5 ≤ am_P0.2.2.1 179 from by decide +kernel) rfl (am_recv_ok hS407.fs) rfl rfl (ct_pile (d := (d + 6)) hS407 hR410_ (mj_e_plain (by decide)) (by show (0 : Int) ≤ z404.toInt; omega) (by show z404.toInt ≤ (65535 : Int); omega)) ?_
              rintro v411 S412 (⟨z413, g'414, hv415, hS416, hR419, h417, h418⟩)
              subst hv415
              have h417_ : z413.toInt = z404.toInt + 1 := h417
              have h418_ : ∀ j, j ∉ [11, 12, 13, 14] → g'414 j = g'405 j := h418
              replace hS416 : MS S0 S412 (upd (upd (upd (upd f 4 z397) 10 z413) 15 z0) 20 z387) g'414 := hS416
              have hR419_ : RJ (upd (upd (upd (upd f 4 z397) 10 z413) 15 z0) 20 z387) g'414 (((28 : Int), (0 : Int), (0 : Int), (0 : Int), []) :: (((21 : Int), z401.toInt, tw.toInt, (0 : Int), []) :: gs)) bc [] 0 [] := hR419
              show am_E _ _ _ _ [some (.ref 39), some (.int on), some (.int tw), some (.int (g 16 z0.toNatClampNeg)), some (.int r3), some (.int 1), some (.int (g 18 z0.toNatClampNeg)), none] [] _ _
              refine am_e2 (v := 39) hi_264_222 rfl ?_
              refine am_e32w (as := [.ref 39]) (la := [some (.ref 39)]) (rest := []) hi_264_223 (am_hd0 (M := 264) (by decide) 223) (Nat.le_of_ble_eq_true rfl) (Nat.le_of_ble_eq_true rfl) (show 1 ≤ am_P0.2.2.1 201 from by decide +kernel) rfl (am_recv_ok hS416.fs) rfl rfl ?_
              refine am_e2 (v := 39) hi_201_0 rfl ?_
              refine am_e32n (as := [.ref 39]) (la := [some (.ref 39)]) (rest := []) hi_201_1 (am_hd0 (M := 201) (by decide) 1) (Nat.le_of_ble_eq_true rfl) (Nat.le_of_ble_eq_true rfl) (show 1 ≤ am_P0.2.2.1 183 from by decide +kernel) rfl (am_recv_ok hS416.fs) rfl rfl (ct_next (d := (d + 4)) hS416   (by show (0 : Int) ≤ z397.toInt; omega) (by show (f 0).toInt ≤ (16384 : Int); omega)) ?_
              rintro v420 S421 (⟨r422, hv423, hS424, h425⟩)
              subst hv423
              have h425_ : z397.toInt < (f 0).toInt ∨ r422.toInt = (-1 : Int) := h425
              show am_E _ _ _ _ [some (.ref 39)] [.int r422] _ _
              refine am_e0 hi_201_4 ?_
              by_cases c427 : ¬ r422.toInt = (1 : Int)
              · refine am_e13t hi_201_5 (am_cT (m := r422.toInt) (n := (1 : Int)) rfl (by decide) c427) ?_
                refine am_e2 (v := 39) hi_201_31 rfl ?_
                refine am_e0 hi_201_32 ?_
                refine am_e32n (as := [.ref 39, .int 60]) (la := [some (.ref 39), some (.int 60)]) (rest := []) hi_201_34 (am_hd0 (M := 201) (by decide) 34) (Nat.le_of_ble_eq_true rfl) (Nat.le_of_ble_eq_true rfl) (show 2 ≤ am_P0.2.2.1 193 from by decide +kernel) rfl (am_recv_ok hS424.fs) rfl rfl (ct_enter (d := (d + 3)) hS424   (by show (0 : Int) ≤ z397.toInt; omega) (by show (f 0).toInt ≤ (16384 : Int); omega) (by show (0 : Int) ≤ (60 : Int); omega) (by show (0 : Int) ≤ (f 5).toInt; omega) (by show (f 5).toInt ≤ (48 : Int); omega)) ?_
                rintro v428 S429 (⟨z430, y431, hv432, hS433, h434, h435, h436, h437⟩ | ⟨a439, b440, hv441, hS442⟩)
                · subst hv432
                  have h434_ : z430.toInt = z397.toInt + 1 := h434
                  have h435_ : z397.toInt < (f 0).toInt := h435
                  have h436_ : y431.toInt = (f 5).toInt + 1 := h436
                  have h437_ : y431.toInt ≤ (48 : Int) := h437
                  replace hS433 : MS S0 S429 (upd (upd (upd (upd (upd f 4 z430) 5 y431) 10 z413) 15 z0) 20 z387) g'414 := hS433
                  have hR444 : RJ (upd (upd (upd (upd (upd f 4 z430) 5 y431) 10 z413) 15 z0) 20 z387) g'414 (((28 : Int), (0 : Int), (0 : Int), (0 : Int), []) :: (((21 : Int), z401.toInt, tw.toInt, (0 : Int), []) :: gs)) bc [] 0 [] := RJ.at hR419_ (by show z397.toInt ≤ z430.toInt; omega)
                  show am_E _ _ _ _ [some (.ref 39)] [.int 1] _ _
                  refine am_e12f hi_201_37 (by decide) ?_
                  refine am_e2 (v := 39) hi_201_40 rfl ?_
                  refine am_e0 hi_201_41 ?_
                  refine am_e0 hi_201_43 ?_
                  refine am_e0 hi_201_44 ?_
                  refine am_e0 hi_201_45 ?_
                  refine am_e32n (as := [.ref 39, .int 29, .int 0, .int 0, .int 0]) (la := [some (.ref 39), some (.int 29), some (.int 0), some (.int 0), some (.int 0)]) (rest := []) hi_201_46 (am_hd0 (M := 201) (by decide) 46) (Nat.le_of_ble_eq_true rfl) (Nat.le_of_ble_eq_true rfl) (show 5 ≤ am_P0.2.2.1 179 from by decide +kernel) rfl (am_recv_ok hS433.fs) rfl rfl (ct_pile (d := (d + 5)) hS433 hR444 (mj_e_plain (by decide)) (by show (0 : Int) ≤ z413.toInt; omega) (by show z413.toInt ≤ (65535 : Int); omega)) ?_
                  rintro v445 S446 (⟨z447, g'448, hv449, hS450, hR453, h451, h452⟩)
                  subst hv449
                  have h451_ : z447.toInt = z413.toInt + 1 := h451
                  have h452_ : ∀ j, j ∉ [11, 12, 13, 14] → g'448 j = g'414 j := h452
                  replace hS450 : MS S0 S446 (upd (upd (upd (upd (upd f 4 z430) 5 y431) 10 z447) 15 z0) 20 z387) g'448 := hS450
                  have hR453_ : RJ (upd (upd (upd (upd (upd f 4 z430) 5 y431) 10 z447) 15 z0) 20 z387) g'448 (((29 : Int), (0 : Int), (0 : Int), (0 : Int), []) :: (((28 : Int), (0 : Int), (0 : Int), (0 : Int), []) :: (((21 : Int), z401.toInt, tw.toInt, (0 : Int), []) :: gs))) bc [] 0 [] := hR453
                  show am_E _ _ _ _ [some (.ref 39)] [] _ _
                  refine am_e2 (v := 39) hi_201_49 rfl ?_
                  refine am_e0 hi_201_50 ?_
                  refine am_e32w (as := [.ref 39, .int 0]) (la := [some (.ref 39), some (.int 0)]) (rest := []) hi_201_51 (am_hd0 (M := 201) (by decide) 51) (Nat.le_of_ble_eq_true rfl) (Nat.le_of_ble_eq_true rfl) (show 2 ≤ am_P0.2.2.1 186 from by decide +kernel) rfl (am_recv_ok hS450.fs) rfl rfl ?_
                  refine am_e2 (v := 39) hi_186_0 rfl ?_
                  refine am_e0 hi_186_1 ?_
                  refine am_e1 (v := 0) hi_186_3 rfl ?_
                  refine am_e0 hi_186_4 ?_
                  refine am_e0 hi_186_5 ?_
                  refine am_e32n (as := [.ref 39, .int 23, .int 0, .int 0, .int 0]) (la := [some (.ref 39), some (.int 23), some (.int 0), some (.int 0), some (.int 0)]) (rest := []) hi_186_6 (am_hd0 (M := 186) (by decide) 6) (Nat.le_of_ble_eq_true rfl) (Nat.le_of_ble_eq_true rfl) (show 5 ≤ am_P0.2.2.1 179 from by decide +kernel) rfl (am_recv_ok hS450.fs) rfl rfl (ct_pile (d := (d + 4)) hS450 hR453_ (mj_e_plain (by decide)) (by show (0 : Int) ≤ z447.toInt; omega) (by show z447.toInt ≤ (65535 : Int); omega)) ?_
                  rintro v454 S455 (⟨z456, g'457, hv458, hS459, hR462, h460, h461⟩)
                  subst hv458
                  have h460_ : z456.toInt = z447.toInt + 1 := h460
                  have h461_ : ∀ j, j ∉ [11, 12, 13, 14] → g'457 j = g'448 j := h461
                  replace hS459 : MS S0 S455 (upd (upd (upd (upd (upd f 4 z430) 5 y431) 10 z456) 15 z0) 20 z387) g'457 := hS459
                  have hR462_ : RJ (upd (upd (upd (upd (upd f 4 z430) 5 y431) 10 z456) 15 z0) 20 z387) g'457 (((23 : Int), (0 : Int), (0 : Int), (0 : Int), []) :: (((29 : Int), (0 : Int), (0 : Int), (0 : Int), []) :: (((28 : Int), (0 : Int), (0 : Int), (0 : Int), []) :: (((21 : Int), z401.toInt, tw.toInt, (0 : Int), []) :: gs)))) bc [] 0 [] := hR462
                  show am_E _ _ _ _ [some (.ref 39), some (.int 0)] [] _ _
                  refine am_e35 hi_186_9 ?_
                  show am_E _ _ _ _ [some (.ref 39)] [] _ _
                  refine am_e35 hi_201_54 ?_
                  show am_E _ _ _ _ [some (.ref 39), some (.int on), some (.int tw), some (.int (g 16 z0.toNatClampNeg)), some (.int r3), some (.int 1), some (.int (g 18 z0.toNatClampNeg)), none] [] _ _
                  refine am_e18 hi_264_226 ?_
                  refine am_e35 hi_264_244 ?_
                  show am_E _ _ _ _ [some (.ref 39), some (.int 21), some (.int on), some (.int tw), some (.int th)] [] _ _
                  refine am_e18 hi_180_362 ?_
                  refine am_e35 hi_180_371 ?_
                  have q1 : mg_p1 (((23 : Int), (0 : Int), (0 : Int), (0 : Int), []) :: (((29 : Int), (0 : Int), (0 : Int), (0 : Int), []) :: (((28 : Int), (0 : Int), (0 : Int), (0 : Int), []) :: (((21 : Int), z401.toInt, tw.toInt, (0 : Int), []) :: gs)))) = 0 + (0 + (0 + (0 + (mg_p1 gs)))) := rfl
                  have q2 : mg_p2 (((23 : Int), (0 : Int), (0 : Int), (0 : Int), []) :: (((29 : Int), (0 : Int), (0 : Int), (0 : Int), []) :: (((28 : Int), (0 : Int), (0 : Int), (0 : Int), []) :: (((21 : Int), z401.toInt, tw.toInt, (0 : Int), []) :: gs)))) = 0 + (0 + (0 + (0 + (mg_p2 gs)))) := rfl
                  have q3 : mg_p3 (((23 : Int), (0 : Int), (0 : Int), (0 : Int), []) :: (((29 : Int), (0 : Int), (0 : Int), (0 : Int), []) :: (((28 : Int), (0 : Int), (0 : Int), (0 : Int), []) :: (((21 : Int), z401.toInt, tw.toInt, (0 : Int), []) :: gs)))) = 1 + (1 + (1 + (1 + (mg_p3 gs)))) := rfl
                  have q4 : mg_p4 (((23 : Int), (0 : Int), (0 : Int), (0 : Int), []) :: (((29 : Int), (0 : Int), (0 : Int), (0 : Int), []) :: (((28 : Int), (0 : Int), (0 : Int), (0 : Int), []) :: (((21 : Int), z401.toInt, tw.toInt, (0 : Int), []) :: gs)))) = 0 + (0 + (0 + (0 + (mg_p4 gs)))) := rfl
                  refine ⟨_, _, _, bc, rfl, hS459, Or.inl ⟨⟨hR462_, ?_, ?_⟩, rfl, ?_⟩⟩
                  · exact (⟨⟨(show (0 : Int) ≤ 23 from by decide), (show (0 : Int) ≤ z0.toInt from by omega), (show 0 ≤ z387.toInt from by omega), (show 1 ≤ (f 37).toInt from by omega), (show 0 ≤ (f 32).toInt from by omega), (show (f 32).toInt ≤ y431.toInt from by omega), (show y431.toInt ≤ 48 from by omega), (show (f 37).toInt ≤ 2 * (y431.toInt) + 2 from by omega), (show 0 ≤ (0 : Int) from by omega)⟩, ⟨⟨(show (0 : Int) ≤ 29 from by decide), (show (1 : Int) ≤ z0.toInt + 1 from by omega), (show 0 ≤ z387.toInt from by omega), (show 1 ≤ (f 37).toInt + 0 from by omega), (show 0 ≤ (f 32).toInt + 0 from by omega), (show (f 32).toInt + 0 ≤ y431.toInt + 0 from by omega), (show y431.toInt + 0 ≤ 48 from by omega), (show (f 37).toInt + 0 ≤ 2 * (y431.toInt + 0) + 2 from by omega), trivial⟩, ⟨⟨(show (0 : Int) ≤ 28 from by decide), (show (1 : Int) ≤ z0.toInt + 1 + 0 from by omega), (show 0 ≤ z387.toInt from by omega), (show 1 ≤ (f 37).toInt + 0 + 0 from by omega), (show 0 ≤ (f 32).toInt + 0 + 0 from by omega), (show (f 32).toInt + 0 + 0 ≤ y431.toInt + 0 + -1 from by omega), (show y431.toInt + 0 + -1 ≤ 48 from by omega), (show (f 37).toInt + 0 + 0 ≤ 2 * (y431.toInt + 0 + -1) + 2 from by omega), trivial⟩, ⟨⟨(show (0 : Int) ≤ 21 from by decide), (show (1 : Int) ≤ z0.toInt + 1 + 0 + 0 from by omega), (show 0 ≤ z387.toInt from by omega), (show 1 ≤ (f 37).toInt + 0 + 0 + 0 from by omega), (show 0 ≤ (f 32).toInt + 0 + 0 + 0 from by omega), (show (f 32).toInt + 0 + 0 + 0 ≤ y431.toInt + 0 + -1 + 0 from by omega), (show y431.toInt + 0 + -1 + 0 ≤ 48 from by omega), (show (f 37).toInt + 0 + 0 + 0 ≤ 2 * (y431.toInt + 0 + -1 + 0) + 1 from by omega), ⟨(show 0 ≤ z401.toInt from by omega), (show 0 ≤ tw.toInt from by omega), (show z387.toInt = tw.toInt + z401.toInt from by omega)⟩⟩, mg_cast (mg_good_ext _ _ _ _ _ _ (fun i _ => by show g'457 34 i = g 34 i; rw [show g'457 34 = g'448 34 from h461_ 34 (by decide), show g'448 34 = g'414 34 from h452_ 34 (by decide), show g'414 34 = g'405 34 from h418_ 34 (by decide), show g'405 34 = g'388 34 from h409_ 34 (by decide), show g'388 34 = g 34 from h392_ 34 (by decide)]) (fun i _ => by show g'457 38 i = g 38 i; rw [show g'457 38 = g'448 38 from h461_ 38 (by decide), show g'448 38 = g'414 38 from h452_ 38 (by decide), show g'414 38 = g'405 38 from h418_ 38 (by decide), show g'405 38 = g'388 38 from h409_ 38 (by decide), show g'388 38 = g 38 from h392_ 38 (by decide)]) hrest) (by show (f 15).toInt + -1 = z0.toInt + 1 + 0 + 0 + -1; omega) (by show tw.toInt = tw.toInt; omega) (by show (f 37).toInt + 0 = (f 37).toInt + 0 + 0 + 0 + 0; omega) (by show (f 32).toInt + 0 = (f 32).toInt + 0 + 0 + 0 + 0; omega) (by show (f 5).toInt + 0 = y431.toInt + 0 + -1 + 0 + 0; omega)⟩⟩⟩⟩ : mg_good (g'457 34) (g'457 38) (((23 : Int), (0 : Int), (0 : Int), (0 : Int), []) :: (((29 : Int), (0 : Int), (0 : Int), (0 : Int), []) :: (((28 : Int), (0 : Int), (0 : Int), (0 : Int), []) :: (((21 : Int), z401.toInt, tw.toInt, (0 : Int), []) :: gs)))) (z0.toInt) (z387.toInt) ((f 37).toInt) ((f 32).toInt) (y431.toInt))
                  · exact ⟨(by show 0 ≤ z430.toInt; omega), (by show z430.toInt ≤ (f 0).toInt; omega), (by show (f 0).toInt ≤ 512; omega), (by show 0 ≤ (f 24).toInt; omega), (by show (f 24).toInt + z387.toInt + mg_p1 (((23 : Int), (0 : Int), (0 : Int), (0 : Int), []) :: (((29 : Int), (0 : Int), (0 : Int), (0 : Int), []) :: (((28 : Int), (0 : Int), (0 : Int), (0 : Int), []) :: (((21 : Int), z401.toInt, tw.toInt, (0 : Int), []) :: gs)))) ≤ 4 * z430.toInt; omega), (by show z387.toInt ≤ z430.toInt; omega), (by show z0.toInt + mg_p2 (((23 : Int), (0 : Int), (0 : Int), (0 : Int), []) :: (((29 : Int), (0 : Int), (0 : Int), (0 : Int), []) :: (((28 : Int), (0 : Int), (0 : Int), (0 : Int), []) :: (((21 : Int), z401.toInt, tw.toInt, (0 : Int), []) :: gs)))) ≤ z430.toInt; omega), (by show mg_p3 (((23 : Int), (0 : Int), (0 : Int), (0 : Int), []) :: (((29 : Int), (0 : Int), (0 : Int), (0 : Int), []) :: (((28 : Int), (0 : Int), (0 : Int), (0 : Int), []) :: (((21 : Int), z401.toInt, tw.toInt, (0 : Int), []) :: gs)))) ≤ 20 * z430.toInt + 20; omega), (by show 0 ≤ (f 68).toInt; omega), (by show (f 68).toInt + 3 * z387.toInt + mg_p4 (((23 : Int), (0 : Int), (0 : Int), (0 : Int), []) :: (((29 : Int), (0 : Int), (0 : Int), (0 : Int), []) :: (((28 : Int), (0 : Int), (0 : Int), (0 : Int), []) :: (((21 : Int), z401.toInt, tw.toInt, (0 : Int), []) :: gs)))) ≤ 60 * z430.toInt + 60; omega), (by show 0 ≤ (f 62).toInt; omega), (by show (f 62).toInt + 64 * mj_n (g'457 16) z0.toNatClampNeg 3 ≤ 64 * z430.toInt; rw [show g'457 16 = g'448 16 from h461_ 16 (by decide), show g'448 16 = g'414 16 from h452_ 16 (by decide), show g'414 16 = g'405 16 from h418_ 16 (by decide), show g'405 16 = g'388 16 from h409_ 16 (by decide), show g'388 16 = g 16 from h392_ 16 (by decide)]; omega), (by show 0 ≤ (f 44).toInt; omega), (by show (f 44).toInt ≤ z430.toInt; omega), (by show 0 ≤ (f 48).toInt; omega), (by show (f 48).toInt ≤ z430.toInt; omega), (by show 1 ≤ (f 53).toInt; omega), (by show (f 53).toInt ≤ z430.toInt + 1; omega)⟩
                  · show 100 * ((f 0).toInt - z430.toInt) + mg_p3 (((23 : Int), (0 : Int), (0 : Int), (0 : Int), []) :: (((29 : Int), (0 : Int), (0 : Int), (0 : Int), []) :: (((28 : Int), (0 : Int), (0 : Int), (0 : Int), []) :: (((21 : Int), z401.toInt, tw.toInt, (0 : Int), []) :: gs)))) < 100 * ((f 0).toInt - (f 4).toInt) + (1 + mg_p3 gs); omega
                · subst hv441
                  replace hS442 : MS S0 S429 (upd (upd (upd (upd (upd (upd f 4 z397) 6 a439) 7 b440) 10 0) 15 z0) 20 z387) g'414 := hS442
                  have hR463 := rj_clear0 hR419_
                  have hR464 : RJ (upd (upd (upd (upd (upd (upd f 4 z397) 6 a439) 7 b440) 10 0) 15 z0) 20 z387) g'414 [] bc [] 0 [] := hR463
                  show am_E _ _ _ _ [some (.ref 39)] [.int 0] _ _
                  refine am_e12t hi_201_37 (by decide) ?_
                  refine am_e35 hi_201_54 ?_
                  show am_E _ _ _ _ [some (.ref 39), some (.int on), some (.int tw), some (.int (g 16 z0.toNatClampNeg)), some (.int r3), some (.int 1), some (.int (g 18 z0.toNatClampNeg)), none] [] _ _
                  refine am_e18 hi_264_226 ?_
                  refine am_e35 hi_264_244 ?_
                  show am_E _ _ _ _ [some (.ref 39), some (.int 21), some (.int on), some (.int tw), some (.int th)] [] _ _
                  refine am_e18 hi_180_362 ?_
                  refine am_e35 hi_180_371 ?_
                  have hRc := rj_clear0 hR464
                  refine ⟨_, _, [], _, rfl, hS442, Or.inr ⟨hRc, rfl, (by show 0 ≤ z397.toInt; omega), (by show z397.toInt ≤ (f 0).toInt; omega), (by show 0 ≤ (f 32).toInt; omega), (by show (f 32).toInt ≤ 63; omega), (by show 1 ≤ (f 53).toInt; omega), (by show (f 53).toInt ≤ 600; omega), (by show 0 ≤ (f 68).toInt; omega), (by show (f 68).toInt ≤ 60000; omega), (by show 0 ≤ (f 48).toInt; omega), (by show (f 48).toInt ≤ 8000; omega), (by show 0 ≤ (f 37).toInt; omega), (by show (f 37).toInt ≤ 128; omega), (by show 0 ≤ (f 62).toInt; omega), (by show (f 62).toInt ≤ 65000; omega)⟩⟩
              · refine am_e13f hi_201_5 (am_cF (m := r422.toInt) (n := (1 : Int)) rfl (by decide) c427) ?_
                refine am_e2 (v := 39) hi_201_8 rfl ?_
                refine am_e0 hi_201_9 ?_
                refine am_e0 hi_201_10 ?_
                refine am_e2 (v := 39) hi_201_11 rfl ?_
                refine mm_20 (v := .int z397) hS424 hi_201_12 rfl ?_
                refine am_e32n (as := [.ref 39, .int 3, .int 0, .int z397]) (la := [some (.ref 39), some (.int 3), some (.int 0), some (.int z397)]) (rest := []) hi_201_15 (am_hd0 (M := 201) (by decide) 15) (Nat.le_of_ble_eq_true rfl) (Nat.le_of_ble_eq_true rfl) (show 4 ≤ am_P0.2.2.1 190 from by decide +kernel) rfl (am_recv_ok hS424.fs) rfl rfl (ct_value (d := (d + 5)) hS424 hR419_ (fun _ => ⟨by omega, by omega⟩) (fun h => absurd h (by decide)) (by show (0 : Int) ≤ z0.toInt; omega) (by show z0.toInt ≤ (32767 : Int); omega)) ?_
                rintro v465 S466 (⟨z467, g'468, hv469, hS470, hR475, h471, h472, h473, h474⟩)
                subst hv469
                have h471_ : z467.toInt = z0.toInt + 1 := h471
                have h472_ : ∀ j, j ∉ [16, 17, 18] → g'468 j = g'414 j := h472
                have h473_ : mj_n (g'468 16) z467.toNatClampNeg 3 ≤ mj_n (g 16) z0.toNatClampNeg 3 + 1 := by rw [show g'414 16 = g'405 16 from h418_ 16 (by decide), show g'405 16 = g'388 16 from h409_ 16 (by decide), show g'388 16 = g 16 from h392_ 16 (by decide)] at h473; exact h473
                have h474_ : (3 : Int) = 3 ∨ mj_n (g'468 16) z467.toNatClampNeg 3 ≤ mj_n (g 16) z0.toNatClampNeg 3 := by rw [show g'414 16 = g'405 16 from h418_ 16 (by decide), show g'405 16 = g'388 16 from h409_ 16 (by decide), show g'388 16 = g 16 from h392_ 16 (by decide)] at h474; exact h474
                replace hS470 : MS S0 S466 (upd (upd (upd (upd f 4 z397) 10 z413) 15 z467) 20 z387) g'468 := hS470
                have hR475_ : RJ (upd (upd (upd (upd f 4 z397) 10 z413) 15 z467) 20 z387) g'468 (((28 : Int), (0 : Int), (0 : Int), (0 : Int), []) :: (((21 : Int), z401.toInt, tw.toInt, (0 : Int), []) :: gs)) bc [] 0 [] := hR475
                show am_E _ _ _ _ [some (.ref 39)] [] _ _
                refine am_e2 (v := 39) hi_201_18 rfl ?_
                refine am_e7 hi_201_19 ?_
                refine mm_20 (v := .int z397) hS470 hi_201_20 rfl ?_
                refine am_e0 hi_201_23 ?_
                obtain ⟨z476, hz476, tz476⟩ := am_addI (x := z397) (y := 1) (m := z397.toInt) (n := (1 : Int)) rfl (by decide) (by omega) (by omega)
                refine am_e10 (z := z476) hi_201_24 hz476 ?_
                refine mm_21 (v := z476) hS470 hi_201_25 rfl (Nat.le_of_ble_eq_true rfl) ms_4 ?_
                intro S477 hS478
                replace hS478 : MS S0 S477 (upd (upd (upd (upd f 4 z476) 10 z413) 15 z467) 20 z387) g'468 := hS478
                have hR479 : RJ (upd (upd (upd (upd f 4 z476) 10 z413) 15 z467) 20 z387) g'468 (((28 : Int), (0 : Int), (0 : Int), (0 : Int), []) :: (((21 : Int), z401.toInt, tw.toInt, (0 : Int), []) :: gs)) bc [] 0 [] := RJ.at hR475_ (by show z397.toInt ≤ z476.toInt; omega)
                refine am_e18 hi_201_28 ?_
                refine am_e35 hi_201_54 ?_
                show am_E _ _ _ _ [some (.ref 39), some (.int on), some (.int tw), some (.int (g 16 z0.toNatClampNeg)), some (.int r3), some (.int 1), some (.int (g 18 z0.toNatClampNeg)), none] [] _ _
                refine am_e18 hi_264_226 ?_
                refine am_e35 hi_264_244 ?_
                show am_E _ _ _ _ [some (.ref 39), some (.int 21), some (.int on), some (.int tw), some (.int th)] [] _ _
                refine am_e18 hi_180_362 ?_
                refine am_e35 hi_180_371 ?_
                have q1 : mg_p1 (((28 : Int), (0 : Int), (0 : Int), (0 : Int), []) :: (((21 : Int), z401.toInt, tw.toInt, (0 : Int), []) :: gs)) = 0 + (0 + (mg_p1 gs)) := rfl
                have q2 : mg_p2 (((28 : Int), (0 : Int), (0 : Int), (0 : Int), []) :: (((21 : Int), z401.toInt, tw.toInt, (0 : Int), []) :: gs)) = 0 + (0 + (mg_p2 gs)) := rfl
                have q3 : mg_p3 (((28 : Int), (0 : Int), (0 : Int), (0 : Int), []) :: (((21 : Int), z401.toInt, tw.toInt, (0 : Int), []) :: gs)) = 1 + (1 + (mg_p3 gs)) := rfl
                have q4 : mg_p4 (((28 : Int), (0 : Int), (0 : Int), (0 : Int), []) :: (((21 : Int), z401.toInt, tw.toInt, (0 : Int), []) :: gs)) = 0 + (0 + (mg_p4 gs)) := rfl
                refine ⟨_, _, _, bc, rfl, hS478, Or.inl ⟨⟨hR479, ?_, ?_⟩, rfl, ?_⟩⟩
                · exact (⟨⟨(show (0 : Int) ≤ 28 from by decide), (show (1 : Int) ≤ z467.toInt from by omega), (show 0 ≤ z387.toInt from by omega), (show 1 ≤ (f 37).toInt from by omega), (show 0 ≤ (f 32).toInt from by omega), (show (f 32).toInt ≤ (f 5).toInt from by omega), (show (f 5).toInt ≤ 48 from by omega), (show (f 37).toInt ≤ 2 * ((f 5).toInt) + 2 from by omega), trivial⟩, ⟨⟨(show (0 : Int) ≤ 21 from by decide), (show (1 : Int) ≤ z467.toInt + 0 from by omega), (show 0 ≤ z387.toInt from by omega), (show 1 ≤ (f 37).toInt + 0 from by omega), (show 0 ≤ (f 32).toInt + 0 from by omega), (show (f 32).toInt + 0 ≤ (f 5).toInt + 0 from by omega), (show (f 5).toInt + 0 ≤ 48 from by omega), (show (f 37).toInt + 0 ≤ 2 * ((f 5).toInt + 0) + 1 from by omega), ⟨(show 0 ≤ z401.toInt from by omega), (show 0 ≤ tw.toInt from by omega), (show z387.toInt = tw.toInt + z401.toInt from by omega)⟩⟩, mg_cast (mg_good_ext _ _ _ _ _ _ (fun i _ => by show g'468 34 i = g 34 i; rw [show g'468 34 = g'414 34 from h472_ 34 (by decide), show g'414 34 = g'405 34 from h418_ 34 (by decide), show g'405 34 = g'388 34 from h409_ 34 (by decide), show g'388 34 = g 34 from h392_ 34 (by decide)]) (fun i _ => by show g'468 38 i = g 38 i; rw [show g'468 38 = g'414 38 from h472_ 38 (by decide), show g'414 38 = g'405 38 from h418_ 38 (by decide), show g'405 38 = g'388 38 from h409_ 38 (by decide), show g'388 38 = g 38 from h392_ 38 (by decide)]) hrest) (by show (f 15).toInt + -1 = z467.toInt + 0 + -1; omega) (by show tw.toInt = tw.toInt; omega) (by show (f 37).toInt + 0 = (f 37).toInt + 0 + 0; omega) (by show (f 32).toInt + 0 = (f 32).toInt + 0 + 0; omega) (by show (f 5).toInt + 0 = (f 5).toInt + 0 + 0; omega)⟩⟩ : mg_good (g'468 34) (g'468 38) (((28 : Int), (0 : Int), (0 : Int), (0 : Int), []) :: (((21 : Int), z401.toInt, tw.toInt, (0 : Int), []) :: gs)) (z467.toInt) (z387.toInt) ((f 37).toInt) ((f 32).toInt) ((f 5).toInt))
                · exact ⟨(by show 0 ≤ z476.toInt; omega), (by show z476.toInt ≤ (f 0).toInt; omega), (by show (f 0).toInt ≤ 512; omega), (by show 0 ≤ (f 24).toInt; omega), (by show (f 24).toInt + z387.toInt + mg_p1 (((28 : Int), (0 : Int), (0 : Int), (0 : Int), []) :: (((21 : Int), z401.toInt, tw.toInt, (0 : Int), []) :: gs)) ≤ 4 * z476.toInt; omega), (by show z387.toInt ≤ z476.toInt; omega), (by show z467.toInt + mg_p2 (((28 : Int), (0 : Int), (0 : Int), (0 : Int), []) :: (((21 : Int), z401.toInt, tw.toInt, (0 : Int), []) :: gs)) ≤ z476.toInt; omega), (by show mg_p3 (((28 : Int), (0 : Int), (0 : Int), (0 : Int), []) :: (((21 : Int), z401.toInt, tw.toInt, (0 : Int), []) :: gs)) ≤ 20 * z476.toInt + 20; omega), (by show 0 ≤ (f 68).toInt; omega), (by show (f 68).toInt + 3 * z387.toInt + mg_p4 (((28 : Int), (0 : Int), (0 : Int), (0 : Int), []) :: (((21 : Int), z401.toInt, tw.toInt, (0 : Int), []) :: gs)) ≤ 60 * z476.toInt + 60; omega), (by show 0 ≤ (f 62).toInt; omega), (by show (f 62).toInt + 64 * mj_n (g'468 16) z467.toNatClampNeg 3 ≤ 64 * z476.toInt; omega), (by show 0 ≤ (f 44).toInt; omega), (by show (f 44).toInt ≤ z476.toInt; omega), (by show 0 ≤ (f 48).toInt; omega), (by show (f 48).toInt ≤ z476.toInt; omega), (by show 1 ≤ (f 53).toInt; omega), (by show (f 53).toInt ≤ z476.toInt + 1; omega)⟩
                · show 100 * ((f 0).toInt - z476.toInt) + mg_p3 (((28 : Int), (0 : Int), (0 : Int), (0 : Int), []) :: (((21 : Int), z401.toInt, tw.toInt, (0 : Int), []) :: gs)) < 100 * ((f 0).toInt - (f 4).toInt) + (1 + mg_p3 gs); omega
            · refine am_e13f hi_264_145 (am_cF (m := (g 16 z0.toNatClampNeg).toInt) (n := (5 : Int)) rfl (by decide) c384) ?_
              refine am_e2 (v := 39) hi_264_148 rfl ?_
              refine am_e0 hi_264_149 ?_
              refine am_e2 (v := 39) hi_264_150 rfl ?_
              refine mm_20 (v := .ref 47) hS5 hi_264_151 rfl ?_
              refine am_e2 (v := 39) hi_264_154 rfl ?_
              refine mm_20 (v := .int (f 15)) hS5 hi_264_155 rfl ?_
              refine am_e0 hi_264_158 ?_
              refine am_e10 (z := z0) hi_264_159 hz0 ?_
              refine mm_25 hS5 ma_17 hi_264_160 (by decide) (by omega) (by omega) ?_
              show am_E _ _ _ _ [some (.ref 39), some (.int on), some (.int tw), some (.int (g 16 z0.toNatClampNeg)), some (.int r3), some (.int 1), some (.int (g 18 z0.toNatClampNeg)), none] [.int (g 17 z0.toNatClampNeg), .int 5, .ref 39] _ _
              have r480 : (g 16 z0.toNatClampNeg).toInt = 1 ∨ (g 16 z0.toNatClampNeg).toInt = 2 → 0 ≤ (g 17 z0.toNatClampNeg).toInt ∧ (g 17 z0.toNatClampNeg).toInt < 65536 := RJ.vc hR z0.toNatClampNeg
              refine am_e0 hi_264_161 ?_
              refine am_e0 hi_264_162 ?_
              refine am_e32n (as := [.ref 39, .int 5, .int (g 17 z0.toNatClampNeg), .int 0, .int 0]) (la := [some (.ref 39), some (.int 5), some (.int (g 17 z0.toNatClampNeg)), some (.int 0), some (.int 0)]) (rest := []) hi_264_163 (am_hd0 (M := 264) (by decide) 163) (Nat.le_of_ble_eq_true rfl) (Nat.le_of_ble_eq_true rfl) (show 5 ≤ am_P0.2.2.1 189 from by decide +kernel) rfl (am_recv_ok hS5.fs) rfl rfl (ct_put (d := (d + 6)) hS5 hR  (by show (0 : Int) ≤ (f 32).toInt; omega) (by show (f 32).toInt ≤ (63 : Int); omega) (by show (f 53).toInt ≤ (4096 : Int); omega) (by show (0 : Int) ≤ (f 68).toInt; omega) (by show (f 68).toInt ≤ (65534 : Int); omega)) ?_
              rintro v481 S482 (⟨z483, r484, g'485, hv486, hS487, hR491, h488, h489, h490⟩)
              subst hv486
              have h488_ : z483.toInt = (f 68).toInt + 1 := h488
              have h489_ : r484.toInt = (f 68).toInt := h489
              have h490_ : ∀ j, j ∉ [60, 69, 70, 71, 72, 73] → g'485 j = g j := h490
              have hR491_ : RJ (upd f 68 z483) g'485 gs bc [] 0 ((f 68).toNatClampNeg :: []) := hR491
              show am_E _ _ _ _ [some (.ref 39), some (.int on), some (.int tw), some (.int (g 16 z0.toNatClampNeg)), some (.int r3), some (.int 1), some (.int (g 18 z0.toNatClampNeg)), none] [.int r484] _ _
              refine am_e6i hi_264_166 ?_
              refine am_e2 (v := 39) hi_264_167 rfl ?_
              refine am_e0 hi_264_168 ?_
              refine am_e0 hi_264_169 ?_
              refine am_e1 (v := g 18 z0.toNatClampNeg) hi_264_170 rfl ?_
              refine am_e32n (as := [.ref 39, .int 3, .int 0, .int (g 18 z0.toNatClampNeg)]) (la := [some (.ref 39), some (.int 3), some (.int 0), some (.int (g 18 z0.toNatClampNeg))]) (rest := []) hi_264_172 (am_hd0 (M := 264) (by decide) 172) (Nat.le_of_ble_eq_true rfl) (Nat.le_of_ble_eq_true rfl) (show 4 ≤ am_P0.2.2.1 239 from by decide +kernel) rfl (am_recv_ok hS487.fs) rfl rfl (ct_keep (d := (d + 6)) hS487 hR491_  (by show (0 : Int) ≤ (f 20).toInt; omega) (by show (f 20).toInt ≤ (16383 : Int); omega)) ?_
              rintro v492 S493 (⟨z494, g'495, hv496, hS497, hR500, h498, h499⟩)
              subst hv496
              have h498_ : z494.toInt = (f 20).toInt + 1 := h498
              have h499_ : ∀ j, j ∉ [21, 22, 23] → g'495 j = g'485 j := h499
              replace hS497 : MS S0 S493 (upd (upd f 20 z494) 68 z483) g'495 := hS497
              have hR500_ : RJ (upd (upd f 20 z494) 68 z483) g'495 gs bc [] 0 ((f 68).toNatClampNeg :: []) := hR500
              show am_E _ _ _ _ [some (.ref 39), some (.int on), some (.int tw), some (.int (g 16 z0.toNatClampNeg)), some (.int r3), some (.int 1), some (.int (g 18 z0.toNatClampNeg)), none] [] _ _
              refine am_e2 (v := 39) hi_264_175 rfl ?_
              refine am_e7 hi_264_176 ?_
              refine mm_20 (v := .int (f 15)) hS497 hi_264_177 rfl ?_
              refine am_e0 hi_264_180 ?_
              refine am_e10 (z := z0) hi_264_181 hz0 ?_
              refine mm_21 (v := z0) hS497 hi_264_182 rfl (Nat.le_of_ble_eq_true rfl) ms_15 ?_
              intro S501 hS502
              replace hS502 : MS S0 S501 (upd (upd (upd f 15 z0) 20 z494) 68 z483) g'495 := hS502
              have hp503 : mj_n (g 16) (f 15).toNatClampNeg 3 = mj_n (g 16) z0.toNatClampNeg 3 + if (g 16 z0.toNatClampNeg).toInt = 3 then 1 else 0 := mj_pop (by rw [cl_toNat, cl_toNat]; omega)
              have hp5031 : mj_n (g 16) z0.toNatClampNeg 3 ≤ mj_n (g 16) (f 15).toNatClampNeg 3 := by rw [hp503]; split <;> omega
              have hp5032 : (g 16 z0.toNatClampNeg).toInt = 3 → mj_n (g 16) z0.toNatClampNeg 3 + 1 ≤ mj_n (g 16) (f 15).toNatClampNeg 3 := fun q => by rw [hp503, if_pos q]; exact Int.le_refl _
              refine am_e2 (v := 39) hi_264_185 rfl ?_
              refine am_e7 hi_264_186 ?_
              refine mm_20 (v := .int (f 4)) hS502 hi_264_187 rfl ?_
              refine am_e0 hi_264_190 ?_
              obtain ⟨z504, hz504, tz504⟩ := am_addI (x := f 4) (y := 1) (m := (f 4).toInt) (n := (1 : Int)) rfl (by decide) (by omega) (by omega)
              refine am_e10 (z := z504) hi_264_191 hz504 ?_
              refine mm_21 (v := z504) hS502 hi_264_192 rfl (Nat.le_of_ble_eq_true rfl) ms_4 ?_
              intro S505 hS506
              replace hS506 : MS S0 S505 (upd (upd (upd (upd f 4 z504) 15 z0) 20 z494) 68 z483) g'495 := hS506
              have hR507 : RJ (upd (upd (upd (upd f 4 z504) 15 z0) 20 z494) 68 z483) g'495 gs bc [] 0 ((f 68).toNatClampNeg :: []) := RJ.at hR500_ (by show (f 4).toInt ≤ z504.toInt; omega)
              refine am_e1 (v := r3) hi_264_195 rfl ?_
              refine am_e0 hi_264_197 ?_
              refine am_e13f hi_264_199 (am_cF (m := r3.toInt) (n := (69 : Int)) rfl (by decide) (by simp only [am_cI]; omega)) ?_
              refine am_e2 (v := 39) hi_264_202 rfl ?_
              refine am_e0 hi_264_203 ?_
              refine am_e1 (v := on) hi_264_205 rfl ?_
              refine am_e0 hi_264_206 ?_
              obtain ⟨z508, hz508, tz508⟩ := am_addI (x := on) (y := 1) (m := on.toInt) (n := (1 : Int)) rfl (by decide) (by omega) (by omega)
              refine am_e10 (z := z508) hi_264_207 hz508 ?_
              refine am_e1 (v := tw) hi_264_208 rfl ?_
              refine am_e0 hi_264_209 ?_
              refine am_e32n (as := [.ref 39, .int 21, .int z508, .int tw, .int 0]) (la := [some (.ref 39), some (.int 21), some (.int z508), some (.int tw), some (.int 0)]) (rest := []) hi_264_210 (am_hd0 (M := 264) (by decide) 210) (Nat.le_of_ble_eq_true rfl) (Nat.le_of_ble_eq_true rfl) (show 5 ≤ am_P0.2.2.1 179 from by decide +kernel) rfl (am_recv_ok hS506.fs) rfl rfl (ct_pile (d := (d + 6)) hS506 hR507 (mj_e_plain (by decide)) (by show (0 : Int) ≤ (f 10).toInt; omega) (by show (f 10).toInt ≤ (65535 : Int); omega)) ?_
              rintro v509 S510 (⟨z511, g'512, hv513, hS514, hR517, h515, h516⟩)
              subst hv513
              have h515_ : z511.toInt = (f 10).toInt + 1 := h515
              have h516_ : ∀ j, j ∉ [11, 12, 13, 14] → g'512 j = g'495 j := h516
              replace hS514 : MS S0 S510 (upd (upd (upd (upd (upd f 4 z504) 10 z511) 15 z0) 20 z494) 68 z483) g'512 := hS514
              have hR517_ : RJ (upd (upd (upd (upd (upd f 4 z504) 10 z511) 15 z0) 20 z494) 68 z483) g'512 (((21 : Int), z508.toInt, tw.toInt, (0 : Int), []) :: gs) bc [] 0 ((f 68).toNatClampNeg :: []) := hR517
              show am_E _ _ _ _ [some (.ref 39), some (.int on), some (.int tw), some (.int (g 16 z0.toNatClampNeg)), some (.int r3), some (.int 1), some (.int (g 18 z0.toNatClampNeg)), none] [] _ _
              refine am_e2 (v := 39) hi_264_213 rfl ?_
              refine am_e0 hi_264_214 ?_
              refine am_e0 hi_264_216 ?_
              refine am_e0 hi_264_217 ?_
              refine am_e0 hi_264_218 ?_
              refine am_e32n (as := [.ref 39, .int 28, .int 0, .int 0, .int 0]) (la := [some (.ref 39), some (.int 28), some (.int 0), some (.int 0), some (.int 0)]) (rest := []) hi_264_219 (am_hd0 (M := 264) (by decide) 219) (Nat.le_of_ble_eq_true rfl) (Nat.le_of_ble_eq_true rfl) (show 5 ≤ am_P0.2.2.1 179 from by decide +kernel) rfl (am_recv_ok hS514.fs) rfl rfl (ct_pile (d := (d + 6)) hS514 hR517_ (mj_e_plain (by decide)) (by show (0 : Int) ≤ z511.toInt; omega) (by show z511.toInt ≤ (65535 : Int); omega)) ?_
              rintro v518 S519 (⟨z520, g'521, hv522, hS523, hR526, h524, h525⟩)
              subst hv522
              have h524_ : z520.toInt = z511.toInt + 1 := h524
              have h525_ : ∀ j, j ∉ [11, 12, 13, 14] → g'521 j = g'512 j := h525
              replace hS523 : MS S0 S519 (upd (upd (upd (upd (upd f 4 z504) 10 z520) 15 z0) 20 z494) 68 z483) g'521 := hS523
              have hR526_ : RJ (upd (upd (upd (upd (upd f 4 z504) 10 z520) 15 z0) 20 z494) 68 z483) g'521 (((28 : Int), (0 : Int), (0 : Int), (0 : Int), []) :: (((21 : Int), z508.toInt, tw.toInt, (0 : Int), []) :: gs)) bc [] 0 ((f 68).toNatClampNeg :: []) := hR526
              show am_E _ _ _ _ [some (.ref 39), some (.int on), some (.int tw), some (.int (g 16 z0.toNatClampNeg)), some (.int r3), some (.int 1), some (.int (g 18 z0.toNatClampNeg)), none] [] _ _
              refine am_e2 (v := 39) hi_264_222 rfl ?_
              refine am_e32w (as := [.ref 39]) (la := [some (.ref 39)]) (rest := []) hi_264_223 (am_hd0 (M := 264) (by decide) 223) (Nat.le_of_ble_eq_true rfl) (Nat.le_of_ble_eq_true rfl) (show 1 ≤ am_P0.2.2.1 201 from by decide +kernel) rfl (am_recv_ok hS523.fs) rfl rfl ?_
              refine am_e2 (v := 39) hi_201_0 rfl ?_
              refine am_e32n (as := [.ref 39]) (la := [some (.ref 39)]) (rest := []) hi_201_1 (am_hd0 (M := 201) (by decide) 1) (Nat.le_of_ble_eq_true rfl) (Nat.le_of_ble_eq_true rfl) (show 1 ≤ am_P0.2.2.1 183 from by decide +kernel) rfl (am_recv_ok hS523.fs) rfl rfl (ct_next (d := (d + 4)) hS523   (by show (0 : Int) ≤ z504.toInt; omega) (by show (f 0).toInt ≤ (16384 : Int); omega)) ?_
              rintro v527 S528 (⟨r529, hv530, hS531, h532⟩)
              subst hv530
              have h532_ : z504.toInt < (f 0).toInt ∨ r529.toInt = (-1 : Int) := h532
              show am_E _ _ _ _ [some (.ref 39)] [.int r529] _ _
              refine am_e0 hi_201_4 ?_
              by_cases c534 : ¬ r529.toInt = (1 : Int)
              · refine am_e13t hi_201_5 (am_cT (m := r529.toInt) (n := (1 : Int)) rfl (by decide) c534) ?_
                refine am_e2 (v := 39) hi_201_31 rfl ?_
                refine am_e0 hi_201_32 ?_
                refine am_e32n (as := [.ref 39, .int 60]) (la := [some (.ref 39), some (.int 60)]) (rest := []) hi_201_34 (am_hd0 (M := 201) (by decide) 34) (Nat.le_of_ble_eq_true rfl) (Nat.le_of_ble_eq_true rfl) (show 2 ≤ am_P0.2.2.1 193 from by decide +kernel) rfl (am_recv_ok hS531.fs) rfl rfl (ct_enter (d := (d + 3)) hS531   (by show (0 : Int) ≤ z504.toInt; omega) (by show (f 0).toInt ≤ (16384 : Int); omega) (by show (0 : Int) ≤ (60 : Int); omega) (by show (0 : Int) ≤ (f 5).toInt; omega) (by show (f 5).toInt ≤ (48 : Int); omega)) ?_
                rintro v535 S536 (⟨z537, y538, hv539, hS540, h541, h542, h543, h544⟩ | ⟨a546, b547, hv548, hS549⟩)
                · subst hv539
                  have h541_ : z537.toInt = z504.toInt + 1 := h541
                  have h542_ : z504.toInt < (f 0).toInt := h542
                  have h543_ : y538.toInt = (f 5).toInt + 1 := h543
                  have h544_ : y538.toInt ≤ (48 : Int) := h544
                  replace hS540 : MS S0 S536 (upd (upd (upd (upd (upd (upd f 4 z537) 5 y538) 10 z520) 15 z0) 20 z494) 68 z483) g'521 := hS540
                  have hR551 : RJ (upd (upd (upd (upd (upd (upd f 4 z537) 5 y538) 10 z520) 15 z0) 20 z494) 68 z483) g'521 (((28 : Int), (0 : Int), (0 : Int), (0 : Int), []) :: (((21 : Int), z508.toInt, tw.toInt, (0 : Int), []) :: gs)) bc [] 0 ((f 68).toNatClampNeg :: []) := RJ.at hR526_ (by show z504.toInt ≤ z537.toInt; omega)
                  show am_E _ _ _ _ [some (.ref 39)] [.int 1] _ _
                  refine am_e12f hi_201_37 (by decide) ?_
                  refine am_e2 (v := 39) hi_201_40 rfl ?_
                  refine am_e0 hi_201_41 ?_
                  refine am_e0 hi_201_43 ?_
                  refine am_e0 hi_201_44 ?_
                  refine am_e0 hi_201_45 ?_
                  refine am_e32n (as := [.ref 39, .int 29, .int 0, .int 0, .int 0]) (la := [some (.ref 39), some (.int 29), some (.int 0), some (.int 0), some (.int 0)]) (rest := []) hi_201_46 (am_hd0 (M := 201) (by decide) 46) (Nat.le_of_ble_eq_true rfl) (Nat.le_of_ble_eq_true rfl) (show 5 ≤ am_P0.2.2.1 179 from by decide +kernel) rfl (am_recv_ok hS540.fs) rfl rfl (ct_pile (d := (d + 5)) hS540 hR551 (mj_e_plain (by decide)) (by show (0 : Int) ≤ z520.toInt; omega) (by show z520.toInt ≤ (65535 : Int); omega)) ?_
                  rintro v552 S553 (⟨z554, g'555, hv556, hS557, hR560, h558, h559⟩)
                  subst hv556
                  have h558_ : z554.toInt = z520.toInt + 1 := h558
                  have h559_ : ∀ j, j ∉ [11, 12, 13, 14] → g'555 j = g'521 j := h559
                  replace hS557 : MS S0 S553 (upd (upd (upd (upd (upd (upd f 4 z537) 5 y538) 10 z554) 15 z0) 20 z494) 68 z483) g'555 := hS557
                  have hR560_ : RJ (upd (upd (upd (upd (upd (upd f 4 z537) 5 y538) 10 z554) 15 z0) 20 z494) 68 z483) g'555 (((29 : Int), (0 : Int), (0 : Int), (0 : Int), []) :: (((28 : Int), (0 : Int), (0 : Int), (0 : Int), []) :: (((21 : Int), z508.toInt, tw.toInt, (0 : Int), []) :: gs))) bc [] 0 ((f 68).toNatClampNeg :: []) := hR560
                  show am_E _ _ _ _ [some (.ref 39)] [] _ _
                  refine am_e2 (v := 39) hi_201_49 rfl ?_
                  refine am_e0 hi_201_50 ?_
                  refine am_e32w (as := [.ref 39, .int 0]) (la := [some (.ref 39), some (.int 0)]) (rest := []) hi_201_51 (am_hd0 (M := 201) (by decide) 51) (Nat.le_of_ble_eq_true rfl) (Nat.le_of_ble_eq_true rfl) (show 2 ≤ am_P0.2.2.1 186 from by decide +kernel) rfl (am_recv_ok hS557.fs) rfl rfl ?_
                  refine am_e2 (v := 39) hi_186_0 rfl ?_
                  refine am_e0 hi_186_1 ?_
                  refine am_e1 (v := 0) hi_186_3 rfl ?_
                  refine am_e0 hi_186_4 ?_
                  refine am_e0 hi_186_5 ?_
                  refine am_e32n (as := [.ref 39, .int 23, .int 0, .int 0, .int 0]) (la := [some (.ref 39), some (.int 23), some (.int 0), some (.int 0), some (.int 0)]) (rest := []) hi_186_6 (am_hd0 (M := 186) (by decide) 6) (Nat.le_of_ble_eq_true rfl) (Nat.le_of_ble_eq_true rfl) (show 5 ≤ am_P0.2.2.1 179 from by decide +kernel) rfl (am_recv_ok hS557.fs) rfl rfl (ct_pile (d := (d + 4)) hS557 hR560_ (mj_e_plain (by decide)) (by show (0 : Int) ≤ z554.toInt; omega) (by show z554.toInt ≤ (65535 : Int); omega)) ?_
                  rintro v561 S562 (⟨z563, g'564, hv565, hS566, hR569, h567, h568⟩)
                  subst hv565
                  have h567_ : z563.toInt = z554.toInt + 1 := h567
                  have h568_ : ∀ j, j ∉ [11, 12, 13, 14] → g'564 j = g'555 j := h568
                  replace hS566 : MS S0 S562 (upd (upd (upd (upd (upd (upd f 4 z537) 5 y538) 10 z563) 15 z0) 20 z494) 68 z483) g'564 := hS566
                  have hR569_ : RJ (upd (upd (upd (upd (upd (upd f 4 z537) 5 y538) 10 z563) 15 z0) 20 z494) 68 z483) g'564 (((23 : Int), (0 : Int), (0 : Int), (0 : Int), []) :: (((29 : Int), (0 : Int), (0 : Int), (0 : Int), []) :: (((28 : Int), (0 : Int), (0 : Int), (0 : Int), []) :: (((21 : Int), z508.toInt, tw.toInt, (0 : Int), []) :: gs)))) bc [] 0 ((f 68).toNatClampNeg :: []) := hR569
                  show am_E _ _ _ _ [some (.ref 39), some (.int 0)] [] _ _
                  refine am_e35 hi_186_9 ?_
                  show am_E _ _ _ _ [some (.ref 39)] [] _ _
                  refine am_e35 hi_201_54 ?_
                  show am_E _ _ _ _ [some (.ref 39), some (.int on), some (.int tw), some (.int (g 16 z0.toNatClampNeg)), some (.int r3), some (.int 1), some (.int (g 18 z0.toNatClampNeg)), none] [] _ _
                  refine am_e18 hi_264_226 ?_
                  refine am_e35 hi_264_244 ?_
                  show am_E _ _ _ _ [some (.ref 39), some (.int 21), some (.int on), some (.int tw), some (.int th)] [] _ _
                  refine am_e18 hi_180_362 ?_
                  refine am_e35 hi_180_371 ?_
                  have q1 : mg_p1 (((23 : Int), (0 : Int), (0 : Int), (0 : Int), []) :: (((29 : Int), (0 : Int), (0 : Int), (0 : Int), []) :: (((28 : Int), (0 : Int), (0 : Int), (0 : Int), []) :: (((21 : Int), z508.toInt, tw.toInt, (0 : Int), []) :: gs)))) = 0 + (0 + (0 + (0 + (mg_p1 gs)))) := rfl
                  have q2 : mg_p2 (((23 : Int), (0 : Int), (0 : Int), (0 : Int), []) :: (((29 : Int), (0 : Int), (0 : Int), (0 : Int), []) :: (((28 : Int), (0 : Int), (0 : Int), (0 : Int), []) :: (((21 : Int), z508.toInt, tw.toInt, (0 : Int), []) :: gs)))) = 0 + (0 + (0 + (0 + (mg_p2 gs)))) := rfl
                  have q3 : mg_p3 (((23 : Int), (0 : Int), (0 : Int), (0 : Int), []) :: (((29 : Int), (0 : Int), (0 : Int), (0 : Int), []) :: (((28 : Int), (0 : Int), (0 : Int), (0 : Int), []) :: (((21 : Int), z508.toInt, tw.toInt, (0 : Int), []) :: gs)))) = 1 + (1 + (1 + (1 + (mg_p3 gs)))) := rfl
                  have q4 : mg_p4 (((23 : Int), (0 : Int), (0 : Int), (0 : Int), []) :: (((29 : Int), (0 : Int), (0 : Int), (0 : Int), []) :: (((28 : Int), (0 : Int), (0 : Int), (0 : Int), []) :: (((21 : Int), z508.toInt, tw.toInt, (0 : Int), []) :: gs)))) = 0 + (0 + (0 + (0 + (mg_p4 gs)))) := rfl
                  refine ⟨_, _, _, bc, rfl, hS566, Or.inl ⟨⟨(RJ.fewer (pj' := []) hR569_ (fun _ h => nomatch h)), ?_, ?_⟩, rfl, ?_⟩⟩
                  · exact (⟨⟨(show (0 : Int) ≤ 23 from by decide), (show (0 : Int) ≤ z0.toInt from by omega), (show 0 ≤ z494.toInt from by omega), (show 1 ≤ (f 37).toInt from by omega), (show 0 ≤ (f 32).toInt from by omega), (show (f 32).toInt ≤ y538.toInt from by omega), (show y538.toInt ≤ 48 from by omega), (show (f 37).toInt ≤ 2 * (y538.toInt) + 2 from by omega), (show 0 ≤ (0 : Int) from by omega)⟩, ⟨⟨(show (0 : Int) ≤ 29 from by decide), (show (1 : Int) ≤ z0.toInt + 1 from by omega), (show 0 ≤ z494.toInt from by omega), (show 1 ≤ (f 37).toInt + 0 from by omega), (show 0 ≤ (f 32).toInt + 0 from by omega), (show (f 32).toInt + 0 ≤ y538.toInt + 0 from by omega), (show y538.toInt + 0 ≤ 48 from by omega), (show (f 37).toInt + 0 ≤ 2 * (y538.toInt + 0) + 2 from by omega), trivial⟩, ⟨⟨(show (0 : Int) ≤ 28 from by decide), (show (1 : Int) ≤ z0.toInt + 1 + 0 from by omega), (show 0 ≤ z494.toInt from by omega), (show 1 ≤ (f 37).toInt + 0 + 0 from by omega), (show 0 ≤ (f 32).toInt + 0 + 0 from by omega), (show (f 32).toInt + 0 + 0 ≤ y538.toInt + 0 + -1 from by omega), (show y538.toInt + 0 + -1 ≤ 48 from by omega), (show (f 37).toInt + 0 + 0 ≤ 2 * (y538.toInt + 0 + -1) + 2 from by omega), trivial⟩, ⟨⟨(show (0 : Int) ≤ 21 from by decide), (show (1 : Int) ≤ z0.toInt + 1 + 0 + 0 from by omega), (show 0 ≤ z494.toInt from by omega), (show 1 ≤ (f 37).toInt + 0 + 0 + 0 from by omega), (show 0 ≤ (f 32).toInt + 0 + 0 + 0 from by omega), (show (f 32).toInt + 0 + 0 + 0 ≤ y538.toInt + 0 + -1 + 0 from by omega), (show y538.toInt + 0 + -1 + 0 ≤ 48 from by omega), (show (f 37).toInt + 0 + 0 + 0 ≤ 2 * (y538.toInt + 0 + -1 + 0) + 1 from by omega), ⟨(show 0 ≤ z508.toInt from by omega), (show 0 ≤ tw.toInt from by omega), (show z494.toInt = tw.toInt + z508.toInt from by omega)⟩⟩, mg_cast (mg_good_ext _ _ _ _ _ _ (fun i _ => by show g'564 34 i = g 34 i; rw [show g'564 34 = g'555 34 from h568_ 34 (by decide), show g'555 34 = g'521 34 from h559_ 34 (by decide), show g'521 34 = g'512 34 from h525_ 34 (by decide), show g'512 34 = g'495 34 from h516_ 34 (by decide), show g'495 34 = g'485 34 from h499_ 34 (by decide), show g'485 34 = g 34 from h490_ 34 (by decide)]) (fun i _ => by show g'564 38 i = g 38 i; rw [show g'564 38 = g'555 38 from h568_ 38 (by decide), show g'555 38 = g'521 38 from h559_ 38 (by decide), show g'521 38 = g'512 38 from h525_ 38 (by decide), show g'512 38 = g'495 38 from h516_ 38 (by decide), show g'495 38 = g'485 38 from h499_ 38 (by decide), show g'485 38 = g 38 from h490_ 38 (by decide)]) hrest) (by show (f 15).toInt + -1 = z0.toInt + 1 + 0 + 0 + -1; omega) (by show tw.toInt = tw.toInt; omega) (by show (f 37).toInt + 0 = (f 37).toInt + 0 + 0 + 0 + 0; omega) (by show (f 32).toInt + 0 = (f 32).toInt + 0 + 0 + 0 + 0; omega) (by show (f 5).toInt + 0 = y538.toInt + 0 + -1 + 0 + 0; omega)⟩⟩⟩⟩ : mg_good (g'564 34) (g'564 38) (((23 : Int), (0 : Int), (0 : Int), (0 : Int), []) :: (((29 : Int), (0 : Int), (0 : Int), (0 : Int), []) :: (((28 : Int), (0 : Int), (0 : Int), (0 : Int), []) :: (((21 : Int), z508.toInt, tw.toInt, (0 : Int), []) :: gs)))) (z0.toInt) (z494.toInt) ((f 37).toInt) ((f 32).toInt) (y538.toInt))
                  · exact ⟨(by show 0 ≤ z537.toInt; omega), (by show z537.toInt ≤ (f 0).toInt; omega), (by show (f 0).toInt ≤ 512; omega), (by show 0 ≤ (f 24).toInt; omega), (by show (f 24).toInt + z494.toInt + mg_p1 (((23 : Int), (0 : Int), (0 : Int), (0 : Int), []) :: (((29 : Int), (0 : Int), (0 : Int), (0 : Int), []) :: (((28 : Int), (0 : Int), (0 : Int), (0 : Int), []) :: (((21 : Int), z508.toInt, tw.toInt, (0 : Int), []) :: gs)))) ≤ 4 * z537.toInt; omega), (by show z494.toInt ≤ z537.toInt; omega), (by show z0.toInt + mg_p2 (((23 : Int), (0 : Int), (0 : Int), (0 : Int), []) :: (((29 : Int), (0 : Int), (0 : Int), (0 : Int), []) :: (((28 : Int), (0 : Int), (0 : Int), (0 : Int), []) :: (((21 : Int), z508.toInt, tw.toInt, (0 : Int), []) :: gs)))) ≤ z537.toInt; omega), (by show mg_p3 (((23 : Int), (0 : Int), (0 : Int), (0 : Int), []) :: (((29 : Int), (0 : Int), (0 : Int), (0 : Int), []) :: (((28 : Int), (0 : Int), (0 : Int), (0 : Int), []) :: (((21 : Int), z508.toInt, tw.toInt, (0 : Int), []) :: gs)))) ≤ 20 * z537.toInt + 20; omega), (by show 0 ≤ z483.toInt; omega), (by show z483.toInt + 3 * z494.toInt + mg_p4 (((23 : Int), (0 : Int), (0 : Int), (0 : Int), []) :: (((29 : Int), (0 : Int), (0 : Int), (0 : Int), []) :: (((28 : Int), (0 : Int), (0 : Int), (0 : Int), []) :: (((21 : Int), z508.toInt, tw.toInt, (0 : Int), []) :: gs)))) ≤ 60 * z537.toInt + 60; omega), (by show 0 ≤ (f 62).toInt; omega), (by show (f 62).toInt + 64 * mj_n (g'564 16) z0.toNatClampNeg 3 ≤ 64 * z537.toInt; rw [show g'564 16 = g'555 16 from h568_ 16 (by decide), show g'555 16 = g'521 16 from h559_ 16 (by decide), show g'521 16 = g'512 16 from h525_ 16 (by decide), show g'512 16 = g'495 16 from h516_ 16 (by decide), show g'495 16 = g'485 16 from h499_ 16 (by decide), show g'485 16 = g 16 from h490_ 16 (by decide)]; omega), (by show 0 ≤ (f 44).toInt; omega), (by show (f 44).toInt ≤ z537.toInt; omega), (by show 0 ≤ (f 48).toInt; omega), (by show (f 48).toInt ≤ z537.toInt; omega), (by show 1 ≤ (f 53).toInt; omega), (by show (f 53).toInt ≤ z537.toInt + 1; omega)⟩
                  · show 100 * ((f 0).toInt - z537.toInt) + mg_p3 (((23 : Int), (0 : Int), (0 : Int), (0 : Int), []) :: (((29 : Int), (0 : Int), (0 : Int), (0 : Int), []) :: (((28 : Int), (0 : Int), (0 : Int), (0 : Int), []) :: (((21 : Int), z508.toInt, tw.toInt, (0 : Int), []) :: gs)))) < 100 * ((f 0).toInt - (f 4).toInt) + (1 + mg_p3 gs); omega
                · subst hv548
                  replace hS549 : MS S0 S536 (upd (upd (upd (upd (upd (upd (upd f 4 z504) 6 a546) 7 b547) 10 0) 15 z0) 20 z494) 68 z483) g'521 := hS549
                  have hR570 := rj_clear0 hR526_
                  have hR571 : RJ (upd (upd (upd (upd (upd (upd (upd f 4 z504) 6 a546) 7 b547) 10 0) 15 z0) 20 z494) 68 z483) g'521 [] bc [] 0 [] := hR570
                  show am_E _ _ _ _ [some (.ref 39)] [.int 0] _ _
                  refine am_e12t hi_201_37 (by decide) ?_
                  refine am_e35 hi_201_54 ?_
                  show am_E _ _ _ _ [some (.ref 39), some (.int on), some (.int tw), some (.int (g 16 z0.toNatClampNeg)), some (.int r3), some (.int 1), some (.int (g 18 z0.toNatClampNeg)), none] [] _ _
                  refine am_e18 hi_264_226 ?_
                  refine am_e35 hi_264_244 ?_
                  show am_E _ _ _ _ [some (.ref 39), some (.int 21), some (.int on), some (.int tw), some (.int th)] [] _ _
                  refine am_e18 hi_180_362 ?_
                  refine am_e35 hi_180_371 ?_
                  have hRc := rj_clear0 hR571
                  refine ⟨_, _, [], _, rfl, hS549, Or.inr ⟨hRc, rfl, (by show 0 ≤ z504.toInt; omega), (by show z504.toInt ≤ (f 0).toInt; omega), (by show 0 ≤ (f 32).toInt; omega), (by show (f 32).toInt ≤ 63; omega), (by show 1 ≤ (f 53).toInt; omega), (by show (f 53).toInt ≤ 600; omega), (by show 0 ≤ z483.toInt; omega), (by show z483.toInt ≤ 60000; omega), (by show 0 ≤ (f 48).toInt; omega), (by show (f 48).toInt ≤ 8000; omega), (by show 0 ≤ (f 37).toInt; omega), (by show (f 37).toInt ≤ 128; omega), (by show 0 ≤ (f 62).toInt; omega), (by show (f 62).toInt ≤ 65000; omega)⟩⟩
              · refine am_e13f hi_201_5 (am_cF (m := r529.toInt) (n := (1 : Int)) rfl (by decide) c534) ?_
                refine am_e2 (v := 39) hi_201_8 rfl ?_
                refine am_e0 hi_201_9 ?_
                refine am_e0 hi_201_10 ?_
                refine am_e2 (v := 39) hi_201_11 rfl ?_
                refine mm_20 (v := .int z504) hS531 hi_201_12 rfl ?_
                refine am_e32n (as := [.ref 39, .int 3, .int 0, .int z504]) (la := [some (.ref 39), some (.int 3), some (.int 0), some (.int z504)]) (rest := []) hi_201_15 (am_hd0 (M := 201) (by decide) 15) (Nat.le_of_ble_eq_true rfl) (Nat.le_of_ble_eq_true rfl) (show 4 ≤ am_P0.2.2.1 190 from by decide +kernel) rfl (am_recv_ok hS531.fs) rfl rfl (ct_value (d := (d + 5)) hS531 hR526_ (fun _ => ⟨by omega, by omega⟩) (fun h => absurd h (by decide)) (by show (0 : Int) ≤ z0.toInt; omega) (by show z0.toInt ≤ (32767 : Int); omega)) ?_
                rintro v572 S573 (⟨z574, g'575, hv576, hS577, hR582, h578, h579, h580, h581⟩)
                subst hv576
                have h578_ : z574.toInt = z0.toInt + 1 := h578
                have h579_ : ∀ j, j ∉ [16, 17, 18] → g'575 j = g'521 j := h579
                have h580_ : mj_n (g'575 16) z574.toNatClampNeg 3 ≤ mj_n (g 16) z0.toNatClampNeg 3 + 1 := by rw [show g'521 16 = g'512 16 from h525_ 16 (by decide), show g'512 16 = g'495 16 from h516_ 16 (by decide), show g'495 16 = g'485 16 from h499_ 16 (by decide), show g'485 16 = g 16 from h490_ 16 (by decide)] at h580; exact h580
                have h581_ : (3 : Int) = 3 ∨ mj_n (g'575 16) z574.toNatClampNeg 3 ≤ mj_n (g 16) z0.toNatClampNeg 3 := by rw [show g'521 16 = g'512 16 from h525_ 16 (by decide), show g'512 16 = g'495 16 from h516_ 16 (by decide), show g'495 16 = g'485 16 from h499_ 16 (by decide), show g'485 16 = g 16 from h490_ 16 (by decide)] at h581; exact h581
                replace hS577 : MS S0 S573 (upd (upd (upd (upd (upd f 4 z504) 10 z520) 15 z574) 20 z494) 68 z483) g'575 := hS577
                have hR582_ : RJ (upd (upd (upd (upd (upd f 4 z504) 10 z520) 15 z574) 20 z494) 68 z483) g'575 (((28 : Int), (0 : Int), (0 : Int), (0 : Int), []) :: (((21 : Int), z508.toInt, tw.toInt, (0 : Int), []) :: gs)) bc [] 0 ((f 68).toNatClampNeg :: []) := hR582
                show am_E _ _ _ _ [some (.ref 39)] [] _ _
                refine am_e2 (v := 39) hi_201_18 rfl ?_
                refine am_e7 hi_201_19 ?_
                refine mm_20 (v := .int z504) hS577 hi_201_20 rfl ?_
                refine am_e0 hi_201_23 ?_
                obtain ⟨z583, hz583, tz583⟩ := am_addI (x := z504) (y := 1) (m := z504.toInt) (n := (1 : Int)) rfl (by decide) (by omega) (by omega)
                refine am_e10 (z := z583) hi_201_24 hz583 ?_
                refine mm_21 (v := z583) hS577 hi_201_25 rfl (Nat.le_of_ble_eq_true rfl) ms_4 ?_
                intro S584 hS585
                replace hS585 : MS S0 S584 (upd (upd (upd (upd (upd f 4 z583) 10 z520) 15 z574) 20 z494) 68 z483) g'575 := hS585
                have hR586 : RJ (upd (upd (upd (upd (upd f 4 z583) 10 z520) 15 z574) 20 z494) 68 z483) g'575 (((28 : Int), (0 : Int), (0 : Int), (0 : Int), []) :: (((21 : Int), z508.toInt, tw.toInt, (0 : Int), []) :: gs)) bc [] 0 ((f 68).toNatClampNeg :: []) := RJ.at hR582_ (by show z504.toInt ≤ z583.toInt; omega)
                refine am_e18 hi_201_28 ?_
                refine am_e35 hi_201_54 ?_
                show am_E _ _ _ _ [some (.ref 39), some (.int on), some (.int tw), some (.int (g 16 z0.toNatClampNeg)), some (.int r3), some (.int 1), some (.int (g 18 z0.toNatClampNeg)), none] [] _ _
                refine am_e18 hi_264_226 ?_
                refine am_e35 hi_264_244 ?_
                show am_E _ _ _ _ [some (.ref 39), some (.int 21), some (.int on), some (.int tw), some (.int th)] [] _ _
                refine am_e18 hi_180_362 ?_
                refine am_e35 hi_180_371 ?_
                have q1 : mg_p1 (((28 : Int), (0 : Int), (0 : Int), (0 : Int), []) :: (((21 : Int), z508.toInt, tw.toInt, (0 : Int), []) :: gs)) = 0 + (0 + (mg_p1 gs)) := rfl
                have q2 : mg_p2 (((28 : Int), (0 : Int), (0 : Int), (0 : Int), []) :: (((21 : Int), z508.toInt, tw.toInt, (0 : Int), []) :: gs)) = 0 + (0 + (mg_p2 gs)) := rfl
                have q3 : mg_p3 (((28 : Int), (0 : Int), (0 : Int), (0 : Int), []) :: (((21 : Int), z508.toInt, tw.toInt, (0 : Int), []) :: gs)) = 1 + (1 + (mg_p3 gs)) := rfl
                have q4 : mg_p4 (((28 : Int), (0 : Int), (0 : Int), (0 : Int), []) :: (((21 : Int), z508.toInt, tw.toInt, (0 : Int), []) :: gs)) = 0 + (0 + (mg_p4 gs)) := rfl
                refine ⟨_, _, _, bc, rfl, hS585, Or.inl ⟨⟨(RJ.fewer (pj' := []) hR586 (fun _ h => nomatch h)), ?_, ?_⟩, rfl, ?_⟩⟩
                · exact (⟨⟨(show (0 : Int) ≤ 28 from by decide), (show (1 : Int) ≤ z574.toInt from by omega), (show 0 ≤ z494.toInt from by omega), (show 1 ≤ (f 37).toInt from by omega), (show 0 ≤ (f 32).toInt from by omega), (show (f 32).toInt ≤ (f 5).toInt from by omega), (show (f 5).toInt ≤ 48 from by omega), (show (f 37).toInt ≤ 2 * ((f 5).toInt) + 2 from by omega), trivial⟩, ⟨⟨(show (0 : Int) ≤ 21 from by decide), (show (1 : Int) ≤ z574.toInt + 0 from by omega), (show 0 ≤ z494.toInt from by omega), (show 1 ≤ (f 37).toInt + 0 from by omega), (show 0 ≤ (f 32).toInt + 0 from by omega), (show (f 32).toInt + 0 ≤ (f 5).toInt + 0 from by omega), (show (f 5).toInt + 0 ≤ 48 from by omega), (show (f 37).toInt + 0 ≤ 2 * ((f 5).toInt + 0) + 1 from by omega), ⟨(show 0 ≤ z508.toInt from by omega), (show 0 ≤ tw.toInt from by omega), (show z494.toInt = tw.toInt + z508.toInt from by omega)⟩⟩, mg_cast (mg_good_ext _ _ _ _ _ _ (fun i _ => by show g'575 34 i = g 34 i; rw [show g'575 34 = g'521 34 from h579_ 34 (by decide), show g'521 34 = g'512 34 from h525_ 34 (by decide), show g'512 34 = g'495 34 from h516_ 34 (by decide), show g'495 34 = g'485 34 from h499_ 34 (by decide), show g'485 34 = g 34 from h490_ 34 (by decide)]) (fun i _ => by show g'575 38 i = g 38 i; rw [show g'575 38 = g'521 38 from h579_ 38 (by decide), show g'521 38 = g'512 38 from h525_ 38 (by decide), show g'512 38 = g'495 38 from h516_ 38 (by decide), show g'495 38 = g'485 38 from h499_ 38 (by decide), show g'485 38 = g 38 from h490_ 38 (by decide)]) hrest) (by show (f 15).toInt + -1 = z574.toInt + 0 + -1; omega) (by show tw.toInt = tw.toInt; omega) (by show (f 37).toInt + 0 = (f 37).toInt + 0 + 0; omega) (by show (f 32).toInt + 0 = (f 32).toInt + 0 + 0; omega) (by show (f 5).toInt + 0 = (f 5).toInt + 0 + 0; omega)⟩⟩ : mg_good (g'575 34) (g'575 38) (((28 : Int), (0 : Int), (0 : Int), (0 : Int), []) :: (((21 : Int), z508.toInt, tw.toInt, (0 : Int), []) :: gs)) (z574.toInt) (z494.toInt) ((f 37).toInt) ((f 32).toInt) ((f 5).toInt))
                · exact ⟨(by show 0 ≤ z583.toInt; omega), (by show z583.toInt ≤ (f 0).toInt; omega), (by show (f 0).toInt ≤ 512; omega), (by show 0 ≤ (f 24).toInt; omega), (by show (f 24).toInt + z494.toInt + mg_p1 (((28 : Int), (0 : Int), (0 : Int), (0 : Int), []) :: (((21 : Int), z508.toInt, tw.toInt, (0 : Int), []) :: gs)) ≤ 4 * z583.toInt; omega), (by show z494.toInt ≤ z583.toInt; omega), (by show z574.toInt + mg_p2 (((28 : Int), (0 : Int), (0 : Int), (0 : Int), []) :: (((21 : Int), z508.toInt, tw.toInt, (0 : Int), []) :: gs)) ≤ z583.toInt; omega), (by show mg_p3 (((28 : Int), (0 : Int), (0 : Int), (0 : Int), []) :: (((21 : Int), z508.toInt, tw.toInt, (0 : Int), []) :: gs)) ≤ 20 * z583.toInt + 20; omega), (by show 0 ≤ z483.toInt; omega), (by show z483.toInt + 3 * z494.toInt + mg_p4 (((28 : Int), (0 : Int), (0 : Int), (0 : Int), []) :: (((21 : Int), z508.toInt, tw.toInt, (0 : Int), []) :: gs)) ≤ 60 * z583.toInt + 60; omega), (by show 0 ≤ (f 62).toInt; omega), (by show (f 62).toInt + 64 * mj_n (g'575 16) z574.toNatClampNeg 3 ≤ 64 * z583.toInt; omega), (by show 0 ≤ (f 44).toInt; omega), (by show (f 44).toInt ≤ z583.toInt; omega), (by show 0 ≤ (f 48).toInt; omega), (by show (f 48).toInt ≤ z583.toInt; omega), (by show 1 ≤ (f 53).toInt; omega), (by show (f 53).toInt ≤ z583.toInt + 1; omega)⟩
                · show 100 * ((f 0).toInt - z583.toInt) + mg_p3 (((28 : Int), (0 : Int), (0 : Int), (0 : Int), []) :: (((21 : Int), z508.toInt, tw.toInt, (0 : Int), []) :: gs)) < 100 * ((f 0).toInt - (f 4).toInt) + (1 + mg_p3 gs); omega
          · refine am_e13f hi_264_117 (am_cF (m := (g 16 z0.toNatClampNeg).toInt) (n := (3 : Int)) rfl (by decide) c383) ?_
            refine am_e2 (v := 39) hi_264_120 rfl ?_
            refine am_e1 (v := g 18 z0.toNatClampNeg) hi_264_121 rfl ?_
            refine am_e32w (as := [.ref 39, .int (g 18 z0.toNatClampNeg)]) (la := [some (.ref 39), some (.int (g 18 z0.toNatClampNeg)), none]) (rest := []) hi_264_123 (am_hd0 (M := 264) (by decide) 123) (Nat.le_of_ble_eq_true rfl) (Nat.le_of_ble_eq_true rfl) (show 2 ≤ am_P0.2.2.1 237 from by decide +kernel) rfl (am_recv_ok hS5.fs) rfl rfl ?_
            refine am_e2 (v := 39) hi_237_0 rfl ?_
            refine am_e2 (v := 39) hi_237_1 rfl ?_
            refine mm_20 (v := .ref 41) hS5 hi_237_2 rfl ?_
            refine am_e1 (v := g 18 z0.toNatClampNeg) hi_237_5 rfl ?_
            refine mm_25 hS5 ma_2 hi_237_6 (by decide) (by omega) (by omega) ?_
            show am_E _ _ _ _ [some (.ref 39), some (.int (g 18 z0.toNatClampNeg)), none] [.int (g 2 (g 18 z0.toNatClampNeg).toNatClampNeg), .ref 39] _ _
            refine am_e32n (as := [.ref 39, .int (g 2 (g 18 z0.toNatClampNeg).toNatClampNeg)]) (la := [some (.ref 39), some (.int (g 2 (g 18 z0.toNatClampNeg).toNatClampNeg)), none]) (rest := []) hi_237_7 (am_hd0 (M := 237) (by decide) 7) (Nat.le_of_ble_eq_true rfl) (Nat.le_of_ble_eq_true rfl) (show 2 ≤ am_P0.2.2.1 206 from by decide +kernel) rfl (am_recv_ok hS5.fs) rfl rfl (ct_find (d := (d + 5)) hS5   (by show (0 : Int) ≤ (f 24).toInt; omega) (by show (f 24).toInt ≤ (16384 : Int); omega)) ?_
            rintro v587 S588 (⟨r589, hv590, hS591, h592, h593⟩)
            subst hv590
            have h592_ : (-1 : Int) ≤ r589.toInt := h592
            have h593_ : r589.toInt < (f 24).toInt := h593
            show am_E _ _ _ _ [some (.ref 39), some (.int (g 18 z0.toNatClampNeg)), none] [.int r589] _ _
            refine am_e3 (ls' := [some (.ref 39), some (.int (g 18 z0.toNatClampNeg)), some (.int r589)]) hi_237_10 (Nat.le_of_ble_eq_true rfl) rfl ?_
            refine am_e1 (v := r589) hi_237_11 rfl ?_
            by_cases c595 : r589.toInt < (0 : Int)
            · refine am_e12t hi_237_12 (am_cT (m := r589.toInt) (n := (0 : Int)) rfl (by decide) c595) ?_
              refine am_e2 (v := 39) hi_237_31 rfl ?_
              refine am_e1 (v := g 18 z0.toNatClampNeg) hi_237_32 rfl ?_
              refine am_e32n (as := [.ref 39, .int (g 18 z0.toNatClampNeg)]) (la := [some (.ref 39), some (.int (g 18 z0.toNatClampNeg)), none, none, none]) (rest := []) hi_237_33 (am_hd0 (M := 237) (by decide) 33) (Nat.le_of_ble_eq_true rfl) (Nat.le_of_ble_eq_true rfl) (show 2 ≤ am_P0.2.2.1 205 from by decide +kernel) rfl (am_recv_ok hS591.fs) rfl rfl (ct_resolve (d := (d + 4)) hS591 hR  (by show (0 : Int) ≤ (f 32).toInt; omega) (by show (f 32).toInt ≤ (63 : Int); omega) (by show (f 53).toInt ≤ (4096 : Int); omega) (by show (0 : Int) ≤ (f 24).toInt; omega) (by show (f 24).toInt ≤ (16384 : Int); omega) (by show (0 : Int) ≤ (f 62).toInt; omega) (by show (f 62).toInt ≤ (65000 : Int); omega) (by show (0 : Int) ≤ (g 18 z0.toNatClampNeg).toInt; omega) (by show (g 18 z0.toNatClampNeg).toInt ≤ (16383 : Int); omega)) ?_
              rintro v596 S597 (⟨o598, m599, g'600, r601, hv602, hS603, hR609, h604, h605, h606, h607, h608⟩)
              subst hv602
              have h604_ : (f 62).toInt ≤ o598.toInt := h604
              have h605_ : o598.toInt ≤ (f 62).toInt + 64 := h605
              have h606_ : (0 : Int) ≤ r601.toInt := h606
              have h607_ : r601.toInt ≤ (2 : Int) := h607
              have h608_ : ∀ j, j ∉ [63, 64, 65, 66, 67] → g'600 j = g j := h608
              have hR609_ : RJ (upd (upd f 62 o598) 75 m599) g'600 gs bc [] 0 [] := hR609
              show am_E _ _ _ _ [some (.ref 39), some (.int (g 18 z0.toNatClampNeg)), some (.int r589)] [.int r601] _ _
              refine am_e33 hi_237_36 ?_
              show am_E _ _ _ _ [some (.ref 39), some (.int on), some (.int tw), some (.int (g 16 z0.toNatClampNeg)), some (.int r3), some (.int 1), some (.int (g 18 z0.toNatClampNeg)), none] [.int r601] _ _
              refine am_e3 (ls' := [some (.ref 39), some (.int on), some (.int tw), some (.int (g 16 z0.toNatClampNeg)), some (.int r3), some (.int 1), some (.int (g 18 z0.toNatClampNeg)), some (.int r601)]) hi_264_126 (Nat.le_of_ble_eq_true rfl) rfl ?_
              refine am_e2 (v := 39) hi_264_128 rfl ?_
              refine am_e1 (v := r601) hi_264_129 rfl ?_
              refine am_e2 (v := 39) hi_264_131 rfl ?_
              refine mm_20 (v := .int m599) hS603 hi_264_132 rfl ?_
              refine am_e1 (v := g 18 z0.toNatClampNeg) hi_264_135 rfl ?_
              refine am_e32n (as := [.ref 39, .int r601, .int m599, .int (g 18 z0.toNatClampNeg)]) (la := [some (.ref 39), some (.int r601), some (.int m599), some (.int (g 18 z0.toNatClampNeg))]) (rest := []) hi_264_137 (am_hd0 (M := 264) (by decide) 137) (Nat.le_of_ble_eq_true rfl) (Nat.le_of_ble_eq_true rfl) (show 4 ≤ am_P0.2.2.1 239 from by decide +kernel) rfl (am_recv_ok hS603.fs) rfl rfl (ct_keep (d := (d + 6)) hS603 hR609_  (by show (0 : Int) ≤ (f 20).toInt; omega) (by show (f 20).toInt ≤ (16383 : Int); omega)) ?_
              rintro v610 S611 (⟨z612, g'613, hv614, hS615, hR618, h616, h617⟩)
              subst hv614
              have h616_ : z612.toInt = (f 20).toInt + 1 := h616
              have h617_ : ∀ j, j ∉ [21, 22, 23] → g'613 j = g'600 j := h617
              replace hS615 : MS S0 S611 (upd (upd (upd f 20 z612) 62 o598) 75 m599) g'613 := hS615
              have hR618_ : RJ (upd (upd (upd f 20 z612) 62 o598) 75 m599) g'613 gs bc [] 0 [] := hR618
              show am_E _ _ _ _ [some (.ref 39), some (.int on), some (.int tw), some (.int (g 16 z0.toNatClampNeg)), some (.int r3), some (.int 1), some (.int (g 18 z0.toNatClampNeg)), some (.int r601)] [] _ _
              refine am_e18 hi_264_140 ?_
              refine am_e2 (v := 39) hi_264_175 rfl ?_
              refine am_e7 hi_264_176 ?_
              refine mm_20 (v := .int (f 15)) hS615 hi_264_177 rfl ?_
              refine am_e0 hi_264_180 ?_
              refine am_e10 (z := z0) hi_264_181 hz0 ?_
              refine mm_21 (v := z0) hS615 hi_264_182 rfl (Nat.le_of_ble_eq_true rfl) ms_15 ?_
              intro S619 hS620
              replace hS620 : MS S0 S619 (upd (upd (upd (upd f 15 z0) 20 z612) 62 o598) 75 m599) g'613 := hS620
              have hp621 : mj_n (g 16) (f 15).toNatClampNeg 3 = mj_n (g 16) z0.toNatClampNeg 3 + if (g 16 z0.toNatClampNeg).toInt = 3 then 1 else 0 := mj_pop (by rw [cl_toNat, cl_toNat]; omega)
              have hp6211 : mj_n (g 16) z0.toNatClampNeg 3 ≤ mj_n (g 16) (f 15).toNatClampNeg 3 := by rw [hp621]; split <;> omega
              have hp6212 : (g 16 z0.toNatClampNeg).toInt = 3 → mj_n (g 16) z0.toNatClampNeg 3 + 1 ≤ mj_n (g 16) (f 15).toNatClampNeg 3 := fun q => by rw [hp621, if_pos q]; exact Int.le_refl _
              refine am_e2 (v := 39) hi_264_185 rfl ?_
              refine am_e7 hi_264_186 ?_
              refine mm_20 (v := .int (f 4)) hS620 hi_264_187 rfl ?_
              refine am_e0 hi_264_190 ?_
              obtain ⟨z622, hz622, tz622⟩ := am_addI (x := f 4) (y := 1) (m := (f 4).toInt) (n := (1 : Int)) rfl (by decide) (by omega) (by omega)
              refine am_e10 (z := z622) hi_264_191 hz622 ?_
              refine mm_21 (v := z622) hS620 hi_264_192 rfl (Nat.le_of_ble_eq_true rfl) ms_4 ?_
              intro S623 hS624
              replace hS624 : MS S0 S623 (upd (upd (upd (upd (upd f 4 z622) 15 z0) 20 z612) 62 o598) 75 m599) g'613 := hS624
              have hR625 : RJ (upd (upd (upd (upd (upd f 4 z622) 15 z0) 20 z612) 62 o598) 75 m599) g'613 gs bc [] 0 [] := RJ.at hR618_ (by show (f 4).toInt ≤ z622.toInt; omega)
              refine am_e1 (v := r3) hi_264_195 rfl ?_
              refine am_e0 hi_264_197 ?_
              refine am_e13f hi_264_199 (am_cF (m := r3.toInt) (n := (69 : Int)) rfl (by decide) (by simp only [am_cI]; omega)) ?_
              refine am_e2 (v := 39) hi_264_202 rfl ?_
              refine am_e0 hi_264_203 ?_
              refine am_e1 (v := on) hi_264_205 rfl ?_
              refine am_e0 hi_264_206 ?_
              obtain ⟨z626, hz626, tz626⟩ := am_addI (x := on) (y := 1) (m := on.toInt) (n := (1 : Int)) rfl (by decide) (by omega) (by omega)
              refine am_e10 (z := z626) hi_264_207 hz626 ?_
              refine am_e1 (v := tw) hi_264_208 rfl ?_
              refine am_e0 hi_264_209 ?_
              refine am_e32n (as := [.ref 39, .int 21, .int z626, .int tw, .int 0]) (la := [some (.ref 39), some (.int 21), some (.int z626), some (.int tw), some (.int 0)]) (rest := []) hi_264_210 (am_hd0 (M := 264) (by decide) 210) (Nat.le_of_ble_eq_true rfl) (Nat.le_of_ble_eq_true rfl) (show 5 ≤ am_P0.2.2.1 179 from by decide +kernel) rfl (am_recv_ok hS624.fs) rfl rfl (ct_pile (d := (d + 6)) hS624 hR625 (mj_e_plain (by decide)) (by show (0 : Int) ≤ (f 10).toInt; omega) (by show (f 10).toInt ≤ (65535 : Int); omega)) ?_
              rintro v627 S628 (⟨z629, g'630, hv631, hS632, hR635, h633, h634⟩)
              subst hv631
              have h633_ : z629.toInt = (f 10).toInt + 1 := h633
              have h634_ : ∀ j, j ∉ [11, 12, 13, 14] → g'630 j = g'613 j := h634
              replace hS632 : MS S0 S628 (upd (upd (upd (upd (upd (upd f 4 z622) 10 z629) 15 z0) 20 z612) 62 o598) 75 m599) g'630 := hS632
              have hR635_ : RJ (upd (upd (upd (upd (upd (upd f 4 z622) 10 z629) 15 z0) 20 z612) 62 o598) 75 m599) g'630 (((21 : Int), z626.toInt, tw.toInt, (0 : Int), []) :: gs) bc [] 0 [] := hR635
              show am_E _ _ _ _ [some (.ref 39), some (.int on), some (.int tw), some (.int (g 16 z0.toNatClampNeg)), some (.int r3), some (.int 1), some (.int (g 18 z0.toNatClampNeg)), some (.int r601)] [] _ _
              refine am_e2 (v := 39) hi_264_213 rfl ?_
              refine am_e0 hi_264_214 ?_
              refine am_e0 hi_264_216 ?_
              refine am_e0 hi_264_217 ?_
              refine am_e0 hi_264_218 ?_
              refine am_e32n (as := [.ref 39, .int 28, .int 0, .int 0, .int 0]) (la := [some (.ref 39), some (.int 28), some (.int 0), some (.int 0), some (.int 0)]) (rest := []) hi_264_219 (am_hd0 (M := 264) (by decide) 219) (Nat.le_of_ble_eq_true rfl) (Nat.le_of_ble_eq_true rfl) (show 5 ≤ am_P0.2.2.1 179 from by decide +kernel) rfl (am_recv_ok hS632.fs) rfl rfl (ct_pile (d := (d + 6)) hS632 hR635_ (mj_e_plain (by decide)) (by show (0 : Int) ≤ z629.toInt; omega) (by show z629.toInt ≤ (65535 : Int); omega)) ?_
              rintro v636 S637 (⟨z638, g'639, hv640, hS641, hR644, h642, h643⟩)
              subst hv640
              have h642_ : z638.toInt = z629.toInt + 1 := h642
              have h643_ : ∀ j, j ∉ [11, 12, 13, 14] → g'639 j = g'630 j := h643
              replace hS641 : MS S0 S637 (upd (upd (upd (upd (upd (upd f 4 z622) 10 z638) 15 z0) 20 z612) 62 o598) 75 m599) g'639 := hS641
              have hR644_ : RJ (upd (upd (upd (upd (upd (upd f 4 z622) 10 z638) 15 z0) 20 z612) 62 o598) 75 m599) g'639 (((28 : Int), (0 : Int), (0 : Int), (0 : Int), []) :: (((21 : Int), z626.toInt, tw.toInt, (0 : Int), []) :: gs)) bc [] 0 [] := hR644
              show am_E _ _ _ _ [some (.ref 39), some (.int on), some (.int tw), some (.int (g 16 z0.toNatClampNeg)), some (.int r3), some (.int 1), some (.int (g 18 z0.toNatClampNeg)), some (.int r601)] [] _ _
              refine am_e2 (v := 39) hi_264_222 rfl ?_
              refine am_e32w (as := [.ref 39]) (la := [some (.ref 39)]) (rest := []) hi_264_223 (am_hd0 (M := 264) (by decide) 223) (Nat.le_of_ble_eq_true rfl) (Nat.le_of_ble_eq_true rfl) (show 1 ≤ am_P0.2.2.1 201 from by decide +kernel) rfl (am_recv_ok hS641.fs) rfl rfl ?_
              refine am_e2 (v := 39) hi_201_0 rfl ?_
              refine am_e32n (as := [.ref 39]) (la := [some (.ref 39)]) (rest := []) hi_201_1 (am_hd0 (M := 201) (by decide) 1) (Nat.le_of_ble_eq_true rfl) (Nat.le_of_ble_eq_true rfl) (show 1 ≤ am_P0.2.2.1 183 from by decide +kernel) rfl (am_recv_ok hS641.fs) rfl rfl (ct_next (d := (d + 4)) hS641   (by show (0 : Int) ≤ z622.toInt; omega) (by show (f 0).toInt ≤ (16384 : Int); omega)) ?_
              rintro v645 S646 (⟨r647, hv648, hS649, h650⟩)
              subst hv648
              have h650_ : z622.toInt < (f 0).toInt ∨ r647.toInt = (-1 : Int) := h650
              show am_E _ _ _ _ [some (.ref 39)] [.int r647] _ _
              refine am_e0 hi_201_4 ?_
              by_cases c652 : ¬ r647.toInt = (1 : Int)
              · refine am_e13t hi_201_5 (am_cT (m := r647.toInt) (n := (1 : Int)) rfl (by decide) c652) ?_
                refine am_e2 (v := 39) hi_201_31 rfl ?_
                refine am_e0 hi_201_32 ?_
                refine am_e32n (as := [.ref 39, .int 60]) (la := [some (.ref 39), some (.int 60)]) (rest := []) hi_201_34 (am_hd0 (M := 201) (by decide) 34) (Nat.le_of_ble_eq_true rfl) (Nat.le_of_ble_eq_true rfl) (show 2 ≤ am_P0.2.2.1 193 from by decide +kernel) rfl (am_recv_ok hS649.fs) rfl rfl (ct_enter (d := (d + 3)) hS649   (by show (0 : Int) ≤ z622.toInt; omega) (by show (f 0).toInt ≤ (16384 : Int); omega) (by show (0 : Int) ≤ (60 : Int); omega) (by show (0 : Int) ≤ (f 5).toInt; omega) (by show (f 5).toInt ≤ (48 : Int); omega)) ?_
                rintro v653 S654 (⟨z655, y656, hv657, hS658, h659, h660, h661, h662⟩ | ⟨a664, b665, hv666, hS667⟩)
                · subst hv657
                  have h659_ : z655.toInt = z622.toInt + 1 := h659
                  have h660_ : z622.toInt < (f 0).toInt := h660
                  have h661_ : y656.toInt = (f 5).toInt + 1 := h661
                  have h662_ : y656.toInt ≤ (48 : Int) := h662
                  replace hS658 : MS S0 S654 (upd (upd (upd (upd (upd (upd (upd f 4 z655) 5 y656) 10 z638) 15 z0) 20 z612) 62 o598) 75 m599) g'639 := hS658
                  have hR669 : RJ (upd (upd (upd (upd (upd (upd (upd f 4 z655) 5 y656) 10 z638) 15 z0) 20 z612) 62 o598) 75 m599) g'639 (((28 : Int), (0 : Int), (0 : Int), (0 : Int), []) :: (((21 : Int), z626.toInt, tw.toInt, (0 : Int), []) :: gs)) bc [] 0 [] := RJ.at hR644_ (by show z622.toInt ≤ z655.toInt; omega)
                  show am_E _ _ _ _ [some (.ref 39)] [.int 1] _ _
                  refine am_e12f hi_201_37 (by decide) ?_
                  refine am_e2 (v := 39) hi_201_40 rfl ?_
                  refine am_e0 hi_201_41 ?_
                  refine am_e0 hi_201_43 ?_
                  refine am_e0 hi_201_44 ?_
                  refine am_e0 hi_201_45 ?_
                  refine am_e32n (as := [.ref 39, .int 29, .int 0, .int 0, .int 0]) (la := [some (.ref 39), some (.int 29), some (.int 0), some (.int 0), some (.int 0)]) (rest := []) hi_201_46 (am_hd0 (M := 201) (by decide) 46) (Nat.le_of_ble_eq_true rfl) (Nat.le_of_ble_eq_true rfl) (show 5 ≤ am_P0.2.2.1 179 from by decide +kernel) rfl (am_recv_ok hS658.fs) rfl rfl (ct_pile (d := (d + 5)) hS658 hR669 (mj_e_plain (by decide)) (by show (0 : Int) ≤ z638.toInt; omega) (by show z638.toInt ≤ (65535 : Int); omega)) ?_
                  rintro v670 S671 (⟨z672, g'673, hv674, hS675, hR678, h676, h677⟩)
                  subst hv674
                  have h676_ : z672.toInt = z638.toInt + 1 := h676
                  have h677_ : ∀ j, j ∉ [11, 12, 13, 14] → g'673 j = g'639 j := h677
                  replace hS675 : MS S0 S671 (upd (upd (upd (upd (upd (upd (upd f 4 z655) 5 y656) 10 z672) 15 z0) 20 z612) 62 o598) 75 m599) g'673 := hS675
                  have hR678_ : RJ (upd (upd (upd (upd (upd (upd (upd f 4 z655) 5 y656) 10 z672) 15 z0) 20 z612) 62 o598) 75 m599) g'673 (((29 : Int), (0 : Int), (0 : Int), (0 : Int), []) :: (((28 : Int), (0 : Int), (0 : Int), (0 : Int), []) :: (((21 : Int), z626.toInt, tw.toInt, (0 : Int), []) :: gs))) bc [] 0 [] := hR678
                  show am_E _ _ _ _ [some (.ref 39)] [] _ _
                  refine am_e2 (v := 39) hi_201_49 rfl ?_
                  refine am_e0 hi_201_50 ?_
                  refine am_e32w (as := [.ref 39, .int 0]) (la := [some (.ref 39), some (.int 0)]) (rest := []) hi_201_51 (am_hd0 (M := 201) (by decide) 51) (Nat.le_of_ble_eq_true rfl) (Nat.le_of_ble_eq_true rfl) (show 2 ≤ am_P0.2.2.1 186 from by decide +kernel) rfl (am_recv_ok hS675.fs) rfl rfl ?_
                  refine am_e2 (v := 39) hi_186_0 rfl ?_
                  refine am_e0 hi_186_1 ?_
                  refine am_e1 (v := 0) hi_186_3 rfl ?_
                  refine am_e0 hi_186_4 ?_
                  refine am_e0 hi_186_5 ?_
                  refine am_e32n (as := [.ref 39, .int 23, .int 0, .int 0, .int 0]) (la := [some (.ref 39), some (.int 23), some (.int 0), some (.int 0), some (.int 0)]) (rest := []) hi_186_6 (am_hd0 (M := 186) (by decide) 6) (Nat.le_of_ble_eq_true rfl) (Nat.le_of_ble_eq_true rfl) (show 5 ≤ am_P0.2.2.1 179 from by decide +kernel) rfl (am_recv_ok hS675.fs) rfl rfl (ct_pile (d := (d + 4)) hS675 hR678_ (mj_e_plain (by decide)) (by show (0 : Int) ≤ z672.toInt; omega) (by show z672.toInt ≤ (65535 : Int); omega)) ?_
                  rintro v679 S680 (⟨z681, g'682, hv683, hS684, hR687, h685, h686⟩)
                  subst hv683
                  have h685_ : z681.toInt = z672.toInt + 1 := h685
                  have h686_ : ∀ j, j ∉ [11, 12, 13, 14] → g'682 j = g'673 j := h686
                  replace hS684 : MS S0 S680 (upd (upd (upd (upd (upd (upd (upd f 4 z655) 5 y656) 10 z681) 15 z0) 20 z612) 62 o598) 75 m599) g'682 := hS684
                  have hR687_ : RJ (upd (upd (upd (upd (upd (upd (upd f 4 z655) 5 y656) 10 z681) 15 z0) 20 z612) 62 o598) 75 m599) g'682 (((23 : Int), (0 : Int), (0 : Int), (0 : Int), []) :: (((29 : Int), (0 : Int), (0 : Int), (0 : Int), []) :: (((28 : Int), (0 : Int), (0 : Int), (0 : Int), []) :: (((21 : Int), z626.toInt, tw.toInt, (0 : Int), []) :: gs)))) bc [] 0 [] := hR687
                  show am_E _ _ _ _ [some (.ref 39), some (.int 0)] [] _ _
                  refine am_e35 hi_186_9 ?_
                  show am_E _ _ _ _ [some (.ref 39)] [] _ _
                  refine am_e35 hi_201_54 ?_
                  show am_E _ _ _ _ [some (.ref 39), some (.int on), some (.int tw), some (.int (g 16 z0.toNatClampNeg)), some (.int r3), some (.int 1), some (.int (g 18 z0.toNatClampNeg)), some (.int r601)] [] _ _
                  refine am_e18 hi_264_226 ?_
                  refine am_e35 hi_264_244 ?_
                  show am_E _ _ _ _ [some (.ref 39), some (.int 21), some (.int on), some (.int tw), some (.int th)] [] _ _
                  refine am_e18 hi_180_362 ?_
                  refine am_e35 hi_180_371 ?_
                  have q1 : mg_p1 (((23 : Int), (0 : Int), (0 : Int), (0 : Int), []) :: (((29 : Int), (0 : Int), (0 : Int), (0 : Int), []) :: (((28 : Int), (0 : Int), (0 : Int), (0 : Int), []) :: (((21 : Int), z626.toInt, tw.toInt, (0 : Int), []) :: gs)))) = 0 + (0 + (0 + (0 + (mg_p1 gs)))) := rfl
                  have q2 : mg_p2 (((23 : Int), (0 : Int), (0 : Int), (0 : Int), []) :: (((29 : Int), (0 : Int), (0 : Int), (0 : Int), []) :: (((28 : Int), (0 : Int), (0 : Int), (0 : Int), []) :: (((21 : Int), z626.toInt, tw.toInt, (0 : Int), []) :: gs)))) = 0 + (0 + (0 + (0 + (mg_p2 gs)))) := rfl
                  have q3 : mg_p3 (((23 : Int), (0 : Int), (0 : Int), (0 : Int), []) :: (((29 : Int), (0 : Int), (0 : Int), (0 : Int), []) :: (((28 : Int), (0 : Int), (0 : Int), (0 : Int), []) :: (((21 : Int), z626.toInt, tw.toInt, (0 : Int), []) :: gs)))) = 1 + (1 + (1 + (1 + (mg_p3 gs)))) := rfl
                  have q4 : mg_p4 (((23 : Int), (0 : Int), (0 : Int), (0 : Int), []) :: (((29 : Int), (0 : Int), (0 : Int), (0 : Int), []) :: (((28 : Int), (0 : Int), (0 : Int), (0 : Int), []) :: (((21 : Int), z626.toInt, tw.toInt, (0 : Int), []) :: gs)))) = 0 + (0 + (0 + (0 + (mg_p4 gs)))) := rfl
                  refine ⟨_, _, _, bc, rfl, hS684, Or.inl ⟨⟨hR687_, ?_, ?_⟩, rfl, ?_⟩⟩
                  · exact (⟨⟨(show (0 : Int) ≤ 23 from by decide), (show (0 : Int) ≤ z0.toInt from by omega), (show 0 ≤ z612.toInt from by omega), (show 1 ≤ (f 37).toInt from by omega), (show 0 ≤ (f 32).toInt from by omega), (show (f 32).toInt ≤ y656.toInt from by omega), (show y656.toInt ≤ 48 from by omega), (show (f 37).toInt ≤ 2 * (y656.toInt) + 2 from by omega), (show 0 ≤ (0 : Int) from by omega)⟩, ⟨⟨(show (0 : Int) ≤ 29 from by decide), (show (1 : Int) ≤ z0.toInt + 1 from by omega), (show 0 ≤ z612.toInt from by omega), (show 1 ≤ (f 37).toInt + 0 from by omega), (show 0 ≤ (f 32).toInt + 0 from by omega), (show (f 32).toInt + 0 ≤ y656.toInt + 0 from by omega), (show y656.toInt + 0 ≤ 48 from by omega), (show (f 37).toInt + 0 ≤ 2 * (y656.toInt + 0) + 2 from by omega), trivial⟩, ⟨⟨(show (0 : Int) ≤ 28 from by decide), (show (1 : Int) ≤ z0.toInt + 1 + 0 from by omega), (show 0 ≤ z612.toInt from by omega), (show 1 ≤ (f 37).toInt + 0 + 0 from by omega), (show 0 ≤ (f 32).toInt + 0 + 0 from by omega), (show (f 32).toInt + 0 + 0 ≤ y656.toInt + 0 + -1 from by omega), (show y656.toInt + 0 + -1 ≤ 48 from by omega), (show (f 37).toInt + 0 + 0 ≤ 2 * (y656.toInt + 0 + -1) + 2 from by omega), trivial⟩, ⟨⟨(show (0 : Int) ≤ 21 from by decide), (show (1 : Int) ≤ z0.toInt + 1 + 0 + 0 from by omega), (show 0 ≤ z612.toInt from by omega), (show 1 ≤ (f 37).toInt + 0 + 0 + 0 from by omega), (show 0 ≤ (f 32).toInt + 0 + 0 + 0 from by omega), (show (f 32).toInt + 0 + 0 + 0 ≤ y656.toInt + 0 + -1 + 0 from by omega), (show y656.toInt + 0 + -1 + 0 ≤ 48 from by omega), (show (f 37).toInt + 0 + 0 + 0 ≤ 2 * (y656.toInt + 0 + -1 + 0) + 1 from by omega), ⟨(show 0 ≤ z626.toInt from by omega), (show 0 ≤ tw.toInt from by omega), (show z612.toInt = tw.toInt + z626.toInt from by omega)⟩⟩, mg_cast (mg_good_ext _ _ _ _ _ _ (fun i _ => by show g'682 34 i = g 34 i; rw [show g'682 34 = g'673 34 from h686_ 34 (by decide), show g'673 34 = g'639 34 from h677_ 34 (by decide), show g'639 34 = g'630 34 from h643_ 34 (by decide), show g'630 34 = g'613 34 from h634_ 34 (by decide), show g'613 34 = g'600 34 from h617_ 34 (by decide), show g'600 34 = g 34 from h608_ 34 (by decide)]) (fun i _ => by show g'682 38 i = g 38 i; rw [show g'682 38 = g'673 38 from h686_ 38 (by decide), show g'673 38 = g'639 38 from h677_ 38 (by decide), show g'639 38 = g'630 38 from h643_ 38 (by decide), show g'630 38 = g'613 38 from h634_ 38 (by decide), show g'613 38 = g'600 38 from h617_ 38 (by decide), show g'600 38 = g 38 from h608_ 38 (by decide)]) hrest) (by show (f 15).toInt + -1 = z0.toInt + 1 + 0 + 0 + -1; omega) (by show tw.toInt = tw.toInt; omega) (by show (f 37).toInt + 0 = (f 37).toInt + 0 + 0 + 0 + 0; omega) (by show (f 32).toInt + 0 = (f 32).toInt + 0 + 0 + 0 + 0; omega) (by show (f 5).toInt + 0 = y656.toInt + 0 + -1 + 0 + 0; omega)⟩⟩⟩⟩ : mg_good (g'682 34) (g'682 38) (((23 : Int), (0 : Int), (0 : Int), (0 : Int), []) :: (((29 : Int), (0 : Int), (0 : Int), (0 : Int), []) :: (((28 : Int), (0 : Int), (0 : Int), (0 : Int), []) :: (((21 : Int), z626.toInt, tw.toInt, (0 : Int), []) :: gs)))) (z0.toInt) (z612.toInt) ((f 37).toInt) ((f 32).toInt) (y656.toInt))
                  · exact ⟨(by show 0 ≤ z655.toInt; omega), (by show z655.toInt ≤ (f 0).toInt; omega), (by show (f 0).toInt ≤ 512; omega), (by show 0 ≤ (f 24).toInt; omega), (by show (f 24).toInt + z612.toInt + mg_p1 (((23 : Int), (0 : Int), (0 : Int), (0 : Int), []) :: (((29 : Int), (0 : Int), (0 : Int), (0 : Int), []) :: (((28 : Int), (0 : Int), (0 : Int), (0 : Int), []) :: (((21 : Int), z626.toInt, tw.toInt, (0 : Int), []) :: gs)))) ≤ 4 * z655.toInt; omega), (by show z612.toInt ≤ z655.toInt; omega), (by show z0.toInt + mg_p2 (((23 : Int), (0 : Int), (0 : Int), (0 : Int), []) :: (((29 : Int), (0 : Int), (0 : Int), (0 : Int), []) :: (((28 : Int), (0 : Int), (0 : Int), (0 : Int), []) :: (((21 : Int), z626.toInt, tw.toInt, (0 : Int), []) :: gs)))) ≤ z655.toInt; omega), (by show mg_p3 (((23 : Int), (0 : Int), (0 : Int), (0 : Int), []) :: (((29 : Int), (0 : Int), (0 : Int), (0 : Int), []) :: (((28 : Int), (0 : Int), (0 : Int), (0 : Int), []) :: (((21 : Int), z626.toInt, tw.toInt, (0 : Int), []) :: gs)))) ≤ 20 * z655.toInt + 20; omega), (by show 0 ≤ (f 68).toInt; omega), (by show (f 68).toInt + 3 * z612.toInt + mg_p4 (((23 : Int), (0 : Int), (0 : Int), (0 : Int), []) :: (((29 : Int), (0 : Int), (0 : Int), (0 : Int), []) :: (((28 : Int), (0 : Int), (0 : Int), (0 : Int), []) :: (((21 : Int), z626.toInt, tw.toInt, (0 : Int), []) :: gs)))) ≤ 60 * z655.toInt + 60; omega), (by show 0 ≤ o598.toInt; omega), (by show o598.toInt + 64 * mj_n (g'682 16) z0.toNatClampNeg 3 ≤ 64 * z655.toInt; rw [show g'682 16 = g'673 16 from h686_ 16 (by decide), show g'673 16 = g'639 16 from h677_ 16 (by decide), show g'639 16 = g'630 16 from h643_ 16 (by decide), show g'630 16 = g'613 16 from h634_ 16 (by decide), show g'613 16 = g'600 16 from h617_ 16 (by decide), show g'600 16 = g 16 from h608_ 16 (by decide)]; omega), (by show 0 ≤ (f 44).toInt; omega), (by show (f 44).toInt ≤ z655.toInt; omega), (by show 0 ≤ (f 48).toInt; omega), (by show (f 48).toInt ≤ z655.toInt; omega), (by show 1 ≤ (f 53).toInt; omega), (by show (f 53).toInt ≤ z655.toInt + 1; omega)⟩
                  · show 100 * ((f 0).toInt - z655.toInt) + mg_p3 (((23 : Int), (0 : Int), (0 : Int), (0 : Int), []) :: (((29 : Int), (0 : Int), (0 : Int), (0 : Int), []) :: (((28 : Int), (0 : Int), (0 : Int), (0 : Int), []) :: (((21 : Int), z626.toInt, tw.toInt, (0 : Int), []) :: gs)))) < 100 * ((f 0).toInt - (f 4).toInt) + (1 + mg_p3 gs); omega
                · subst hv666
                  replace hS667 : MS S0 S654 (upd (upd (upd (upd (upd (upd (upd (upd f 4 z622) 6 a664) 7 b665) 10 0) 15 z0) 20 z612) 62 o598) 75 m599) g'639 := hS667
                  have hR688 := rj_clear0 hR644_
                  have hR689 : RJ (upd (upd (upd (upd (upd (upd (upd (upd f 4 z622) 6 a664) 7 b665) 10 0) 15 z0) 20 z612) 62 o598) 75 m599) g'639 [] bc [] 0 [] := hR688
                  show am_E _ _ _ _ [some (.ref 39)] [.int 0] _ _
                  refine am_e12t hi_201_37 (by decide) ?_
                  refine am_e35 hi_201_54 ?_
                  show am_E _ _ _ _ [some (.ref 39), some (.int on), some (.int tw), some (.int (g 16 z0.toNatClampNeg)), some (.int r3), some (.int 1), some (.int (g 18 z0.toNatClampNeg)), some (.int r601)] [] _ _
                  refine am_e18 hi_264_226 ?_
                  refine am_e35 hi_264_244 ?_
                  show am_E _ _ _ _ [some (.ref 39), some (.int 21), some (.int on), some (.int tw), some (.int th)] [] _ _
                  refine am_e18 hi_180_362 ?_
                  refine am_e35 hi_180_371 ?_
                  have hRc := rj_clear0 hR689
                  refine ⟨_, _, [], _, rfl, hS667, Or.inr ⟨hRc, rfl, (by show 0 ≤ z622.toInt; omega), (by show z622.toInt ≤ (f 0).toInt; omega), (by show 0 ≤ (f 32).toInt; omega), (by show (f 32).toInt ≤ 63; omega), (by show 1 ≤ (f 53).toInt; omega), (by show (f 53).toInt ≤ 600; omega), (by show 0 ≤ (f 68).toInt; omega), (by show (f 68).toInt ≤ 60000; omega), (by show 0 ≤ (f 48).toInt; omega), (by show (f 48).toInt ≤ 8000; omega), (by show 0 ≤ (f 37).toInt; omega), (by show (f 37).toInt ≤ 128; omega), (by show 0 ≤ o598.toInt; omega), (by show o598.toInt ≤ 65000; omega)⟩⟩
              · refine am_e13f hi_201_5 (am_cF (m := r647.toInt) (n := (1 : Int)) rfl (by decide) c652) ?_
                refine am_e2 (v := 39) hi_201_8 rfl ?_
                refine am_e0 hi_201_9 ?_
                refine am_e0 hi_201_10 ?_
                refine am_e2 (v := 39) hi_201_11 rfl ?_
                refine mm_20 (v := .int z622) hS649 hi_201_12 rfl ?_
                refine am_e32n (as := [.ref 39, .int 3, .int 0, .int z622]) (la := [some (.ref 39), some (.int 3), some (.int 0), some (.int z622)]) (rest := []) hi_201_15 (am_hd0 (M := 201) (by decide) 15) (Nat.le_of_ble_eq_true rfl) (Nat.le_of_ble_eq_true rfl) (show 4 ≤ am_P0.2.2.1 190 from by decide +kernel) rfl (am_recv_ok hS649.fs) rfl rfl (ct_value (d := (d + 5)) hS649 hR644_ (fun _ => ⟨by omega, by omega⟩) (fun h => absurd h (by decide)) (by show (0 : Int) ≤ z0.toInt; omega) (by show z0.toInt ≤ (32767 : Int); omega)) ?_
                rintro v690 S691 (⟨z692, g'693, hv694, hS695, hR700, h696, h697, h698, h699⟩)
                subst hv694
                have h696_ : z692.toInt = z0.toInt + 1 := h696
                have h697_ : ∀ j, j ∉ [16, 17, 18] → g'693 j = g'639 j := h697
                have h698_ : mj_n (g'693 16) z692.toNatClampNeg 3 ≤ mj_n (g 16) z0.toNatClampNeg 3 + 1 := by rw [show g'639 16 = g'630 16 from h643_ 16 (by decide), show g'630 16 = g'613 16 from h634_ 16 (by decide), show g'613 16 = g'600 16 from h617_ 16 (by decide), show g'600 16 = g 16 from h608_ 16 (by decide)] at h698; exact h698
                have h699_ : (3 : Int) = 3 ∨ mj_n (g'693 16) z692.toNatClampNeg 3 ≤ mj_n (g 16) z0.toNatClampNeg 3 := by rw [show g'639 16 = g'630 16 from h643_ 16 (by decide), show g'630 16 = g'613 16 from h634_ 16 (by decide), show g'613 16 = g'600 16 from h617_ 16 (by decide), show g'600 16 = g 16 from h608_ 16 (by decide)] at h699; exact h699
                replace hS695 : MS S0 S691 (upd (upd (upd (upd (upd (upd f 4 z622) 10 z638) 15 z692) 20 z612) 62 o598) 75 m599) g'693 := hS695
                have hR700_ : RJ (upd (upd (upd (upd (upd (upd f 4 z622) 10 z638) 15 z692) 20 z612) 62 o598) 75 m599) g'693 (((28 : Int), (0 : Int), (0 : Int), (0 : Int), []) :: (((21 : Int), z626.toInt, tw.toInt, (0 : Int), []) :: gs)) bc [] 0 [] := hR700
                show am_E _ _ _ _ [some (.ref 39)] [] _ _
                refine am_e2 (v := 39) hi_201_18 rfl ?_
                refine am_e7 hi_201_19 ?_
                refine mm_20 (v := .int z622) hS695 hi_201_20 rfl ?_
                refine am_e0 hi_201_23 ?_
                obtain ⟨z701, hz701, tz701⟩ := am_addI (x := z622) (y := 1) (m := z622.toInt) (n := (1 : Int)) rfl (by decide) (by omega) (by omega)
                refine am_e10 (z := z701) hi_201_24 hz701 ?_
                refine mm_21 (v := z701) hS695 hi_201_25 rfl (Nat.le_of_ble_eq_true rfl) ms_4 ?_
                intro S702 hS703
                replace hS703 : MS S0 S702 (upd (upd (upd (upd (upd (upd f 4 z701) 10 z638) 15 z692) 20 z612) 62 o598) 75 m599) g'693 := hS703
                have hR704 : RJ (upd (upd (upd (upd (upd (upd f 4 z701) 10 z638) 15 z692) 20 z612) 62 o598) 75 m599) g'693 (((28 : Int), (0 : Int), (0 : Int), (0 : Int), []) :: (((21 : Int), z626.toInt, tw.toInt, (0 : Int), []) :: gs)) bc [] 0 [] := RJ.at hR700_ (by show z622.toInt ≤ z701.toInt; omega)
                refine am_e18 hi_201_28 ?_
                refine am_e35 hi_201_54 ?_
                show am_E _ _ _ _ [some (.ref 39), some (.int on), some (.int tw), some (.int (g 16 z0.toNatClampNeg)), some (.int r3), some (.int 1), some (.int (g 18 z0.toNatClampNeg)), some (.int r601)] [] _ _
                refine am_e18 hi_264_226 ?_
                refine am_e35 hi_264_244 ?_
                show am_E _ _ _ _ [some (.ref 39), some (.int 21), some (.int on), some (.int tw), some (.int th)] [] _ _
                refine am_e18 hi_180_362 ?_
                refine am_e35 hi_180_371 ?_
                have q1 : mg_p1 (((28 : Int), (0 : Int), (0 : Int), (0 : Int), []) :: (((21 : Int), z626.toInt, tw.toInt, (0 : Int), []) :: gs)) = 0 + (0 + (mg_p1 gs)) := rfl
                have q2 : mg_p2 (((28 : Int), (0 : Int), (0 : Int), (0 : Int), []) :: (((21 : Int), z626.toInt, tw.toInt, (0 : Int), []) :: gs)) = 0 + (0 + (mg_p2 gs)) := rfl
                have q3 : mg_p3 (((28 : Int), (0 : Int), (0 : Int), (0 : Int), []) :: (((21 : Int), z626.toInt, tw.toInt, (0 : Int), []) :: gs)) = 1 + (1 + (mg_p3 gs)) := rfl
                have q4 : mg_p4 (((28 : Int), (0 : Int), (0 : Int), (0 : Int), []) :: (((21 : Int), z626.toInt, tw.toInt, (0 : Int), []) :: gs)) = 0 + (0 + (mg_p4 gs)) := rfl
                refine ⟨_, _, _, bc, rfl, hS703, Or.inl ⟨⟨hR704, ?_, ?_⟩, rfl, ?_⟩⟩
                · exact (⟨⟨(show (0 : Int) ≤ 28 from by decide), (show (1 : Int) ≤ z692.toInt from by omega), (show 0 ≤ z612.toInt from by omega), (show 1 ≤ (f 37).toInt from by omega), (show 0 ≤ (f 32).toInt from by omega), (show (f 32).toInt ≤ (f 5).toInt from by omega), (show (f 5).toInt ≤ 48 from by omega), (show (f 37).toInt ≤ 2 * ((f 5).toInt) + 2 from by omega), trivial⟩, ⟨⟨(show (0 : Int) ≤ 21 from by decide), (show (1 : Int) ≤ z692.toInt + 0 from by omega), (show 0 ≤ z612.toInt from by omega), (show 1 ≤ (f 37).toInt + 0 from by omega), (show 0 ≤ (f 32).toInt + 0 from by omega), (show (f 32).toInt + 0 ≤ (f 5).toInt + 0 from by omega), (show (f 5).toInt + 0 ≤ 48 from by omega), (show (f 37).toInt + 0 ≤ 2 * ((f 5).toInt + 0) + 1 from by omega), ⟨(show 0 ≤ z626.toInt from by omega), (show 0 ≤ tw.toInt from by omega), (show z612.toInt = tw.toInt + z626.toInt from by omega)⟩⟩, mg_cast (mg_good_ext _ _ _ _ _ _ (fun i _ => by show g'693 34 i = g 34 i; rw [show g'693 34 = g'639 34 from h697_ 34 (by decide), show g'639 34 = g'630 34 from h643_ 34 (by decide), show g'630 34 = g'613 34 from h634_ 34 (by decide), show g'613 34 = g'600 34 from h617_ 34 (by decide), show g'600 34 = g 34 from h608_ 34 (by decide)]) (fun i _ => by show g'693 38 i = g 38 i; rw [show g'693 38 = g'639 38 from h697_ 38 (by decide), show g'639 38 = g'630 38 from h643_ 38 (by decide), show g'630 38 = g'613 38 from h634_ 38 (by decide), show g'613 38 = g'600 38 from h617_ 38 (by decide), show g'600 38 = g 38 from h608_ 38 (by decide)]) hrest) (by show (f 15).toInt + -1 = z692.toInt + 0 + -1; omega) (by show tw.toInt = tw.toInt; omega) (by show (f 37).toInt + 0 = (f 37).toInt + 0 + 0; omega) (by show (f 32).toInt + 0 = (f 32).toInt + 0 + 0; omega) (by show (f 5).toInt + 0 = (f 5).toInt + 0 + 0; omega)⟩⟩ : mg_good (g'693 34) (g'693 38) (((28 : Int), (0 : Int), (0 : Int), (0 : Int), []) :: (((21 : Int), z626.toInt, tw.toInt, (0 : Int), []) :: gs)) (z692.toInt) (z612.toInt) ((f 37).toInt) ((f 32).toInt) ((f 5).toInt))
                · exact ⟨(by show 0 ≤ z701.toInt; omega), (by show z701.toInt ≤ (f 0).toInt; omega), (by show (f 0).toInt ≤ 512; omega), (by show 0 ≤ (f 24).toInt; omega), (by show (f 24).toInt + z612.toInt + mg_p1 (((28 : Int), (0 : Int), (0 : Int), (0 : Int), []) :: (((21 : Int), z626.toInt, tw.toInt, (0 : Int), []) :: gs)) ≤ 4 * z701.toInt; omega), (by show z612.toInt ≤ z701.toInt; omega), (by show z692.toInt + mg_p2 (((28 : Int), (0 : Int), (0 : Int), (0 : Int), []) :: (((21 : Int), z626.toInt, tw.toInt, (0 : Int), []) :: gs)) ≤ z701.toInt; omega), (by show mg_p3 (((28 : Int), (0 : Int), (0 : Int), (0 : Int), []) :: (((21 : Int), z626.toInt, tw.toInt, (0 : Int), []) :: gs)) ≤ 20 * z701.toInt + 20; omega), (by show 0 ≤ (f 68).toInt; omega), (by show (f 68).toInt + 3 * z612.toInt + mg_p4 (((28 : Int), (0 : Int), (0 : Int), (0 : Int), []) :: (((21 : Int), z626.toInt, tw.toInt, (0 : Int), []) :: gs)) ≤ 60 * z701.toInt + 60; omega), (by show 0 ≤ o598.toInt; omega), (by show o598.toInt + 64 * mj_n (g'693 16) z692.toNatClampNeg 3 ≤ 64 * z701.toInt; omega), (by show 0 ≤ (f 44).toInt; omega), (by show (f 44).toInt ≤ z701.toInt; omega), (by show 0 ≤ (f 48).toInt; omega), (by show (f 48).toInt ≤ z701.toInt; omega), (by show 1 ≤ (f 53).toInt; omega), (by show (f 53).toInt ≤ z701.toInt + 1; omega)⟩
                · show 100 * ((f 0).toInt - z701.toInt) + mg_p3 (((28 : Int), (0 : Int), (0 : Int), (0 : Int), []) :: (((21 : Int), z626.toInt, tw.toInt, (0 : Int), []) :: gs)) < 100 * ((f 0).toInt - (f 4).toInt) + (1 + mg_p3 gs); omega
            · refine am_e12f hi_237_12 (am_cF (m := r589.toInt) (n := (0 : Int)) rfl (by decide) c595) ?_
              refine am_e2 (v := 39) hi_237_15 rfl ?_
              refine mm_20 (v := .ref 56) hS591 hi_237_16 rfl ?_
              refine am_e1 (v := r589) hi_237_19 rfl ?_
              refine mm_25 hS591 ma_29 hi_237_20 (by decide) (by omega) (by omega) ?_
              show am_E _ _ _ _ [some (.ref 39), some (.int (g 18 z0.toNatClampNeg)), some (.int r589)] [.int (g 29 r589.toNatClampNeg)] _ _
              by_cases c705 : (g 29 r589.toNatClampNeg).toInt = (0 : Int)
              · refine am_e12t hi_237_21 (am_cT (m := (g 29 r589.toNatClampNeg).toInt) (n := (0 : Int)) rfl (by decide) c705) ?_
                refine am_e2 (v := 39) hi_237_31 rfl ?_
                refine am_e1 (v := g 18 z0.toNatClampNeg) hi_237_32 rfl ?_
                refine am_e32n (as := [.ref 39, .int (g 18 z0.toNatClampNeg)]) (la := [some (.ref 39), some (.int (g 18 z0.toNatClampNeg)), none, none, none]) (rest := []) hi_237_33 (am_hd0 (M := 237) (by decide) 33) (Nat.le_of_ble_eq_true rfl) (Nat.le_of_ble_eq_true rfl) (show 2 ≤ am_P0.2.2.1 205 from by decide +kernel) rfl (am_recv_ok hS591.fs) rfl rfl (ct_resolve (d := (d + 4)) hS591 hR  (by show (0 : Int) ≤ (f 32).toInt; omega) (by show (f 32).toInt ≤ (63 : Int); omega) (by show (f 53).toInt ≤ (4096 : Int); omega) (by show (0 : Int) ≤ (f 24).toInt; omega) (by show (f 24).toInt ≤ (16384 : Int); omega) (by show (0 : Int) ≤ (f 62).toInt; omega) (by show (f 62).toInt ≤ (65000 : Int); omega) (by show (0 : Int) ≤ (g 18 z0.toNatClampNeg).toInt; omega) (by show (g 18 z0.toNatClampNeg).toInt ≤ (16383 : Int); omega)) ?_
                rintro v706 S707 (⟨o708, m709, g'710, r711, hv712, hS713, hR719, h714, h715, h716, h717, h718⟩)
                subst hv712
                have h714_ : (f 62).toInt ≤ o708.toInt := h714
                have h715_ : o708.toInt ≤ (f 62).toInt + 64 := h715
                have h716_ : (0 : Int) ≤ r711.toInt := h716
                have h717_ : r711.toInt ≤ (2 : Int) := h717
                have h718_ : ∀ j, j ∉ [63, 64, 65, 66, 67] → g'710 j = g j := h718
                have hR719_ : RJ (upd (upd f 62 o708) 75 m709) g'710 gs bc [] 0 [] := hR719
                show am_E _ _ _ _ [some (.ref 39), some (.int (g 18 z0.toNatClampNeg)), some (.int r589)] [.int r711] _ _
                refine am_e33 hi_237_36 ?_
                show am_E _ _ _ _ [some (.ref 39), some (.int on), some (.int tw), some (.int (g 16 z0.toNatClampNeg)), some (.int r3), some (.int 1), some (.int (g 18 z0.toNatClampNeg)), none] [.int r711] _ _
                refine am_e3 (ls' := [some (.ref 39), some (.int on), some (.int tw), some (.int (g 16 z0.toNatClampNeg)), some (.int r3), some (.int 1), some (.int (g 18 z0.toNatClampNeg)), some (.int r711)]) hi_264_126 (Nat.le_of_ble_eq_true rfl) rfl ?_
                refine am_e2 (v := 39) hi_264_128 rfl ?_
                refine am_e1 (v := r711) hi_264_129 rfl ?_
                refine am_e2 (v := 39) hi_264_131 rfl ?_
                refine mm_20 (v := .int m709) hS713 hi_264_132 rfl ?_
                refine am_e1 (v := g 18 z0.toNatClampNeg) hi_264_135 rfl ?_
                refine am_e32n (as := [.ref 39, .int r711, .int m709, .int (g 18 z0.toNatClampNeg)]) (la := [some (.ref 39), some (.int r711), some (.int m709), some (.int (g 18 z0.toNatClampNeg))]) (rest := []) hi_264_137 (am_hd0 (M := 264) (by decide) 137) (Nat.le_of_ble_eq_true rfl) (Nat.le_of_ble_eq_true rfl) (show 4 ≤ am_P0.2.2.1 239 from by decide +kernel) rfl (am_recv_ok hS713.fs) rfl rfl (ct_keep (d := (d + 6)) hS713 hR719_  (by show (0 : Int) ≤ (f 20).toInt; omega) (by show (f 20).toInt ≤ (16383 : Int); omega)) ?_
                rintro v720 S721 (⟨z722, g'723, hv724, hS725, hR728, h726, h727⟩)
                subst hv724
                have h726_ : z722.toInt = (f 20).toInt + 1 := h726
                have h727_ : ∀ j, j ∉ [21, 22, 23] → g'723 j = g'710 j := h727
                replace hS725 : MS S0 S721 (upd (upd (upd f 20 z722) 62 o708) 75 m709) g'723 := hS725
                have hR728_ : RJ (upd (upd (upd f 20 z722) 62 o708) 75 m709) g'723 gs bc [] 0 [] := hR728
                show am_E _ _ _ _ [some (.ref 39), some (.int on), some (.int tw), some (.int (g 16 z0.toNatClampNeg)), some (.int r3), some (.int 1), some (.int (g 18 z0.toNatClampNeg)), some (.int r711)] [] _ _
                refine am_e18 hi_264_140 ?_
                refine am_e2 (v := 39) hi_264_175 rfl ?_
                refine am_e7 hi_264_176 ?_
                refine mm_20 (v := .int (f 15)) hS725 hi_264_177 rfl ?_
                refine am_e0 hi_264_180 ?_
                refine am_e10 (z := z0) hi_264_181 hz0 ?_
                refine mm_21 (v := z0) hS725 hi_264_182 rfl (Nat.le_of_ble_eq_true rfl) ms_15 ?_
                intro S729 hS730
                replace hS730 : MS S0 S729 (upd (upd (upd (upd f 15 z0) 20 z722) 62 o708) 75 m709) g'723 := hS730
                have hp731 : mj_n (g 16) (f 15).toNatClampNeg 3 = mj_n (g 16) z0.toNatClampNeg 3 + if (g 16 z0.toNatClampNeg).toInt = 3 then 1 else 0 := mj_pop (by rw [cl_toNat, cl_toNat]; omega)
                have hp7311 : mj_n (g 16) z0.toNatClampNeg 3 ≤ mj_n (g 16) (f 15).toNatClampNeg 3 := by rw [hp731]; split <;> omega
                have hp7312 : (g 16 z0.toNatClampNeg).toInt = 3 → mj_n (g 16) z0.toNatClampNeg 3 + 1 ≤ mj_n (g 16) (f 15).toNatClampNeg 3 := fun q => by rw [hp731, if_pos q]; exact Int.le_refl _
                refine am_e2 (v := 39) hi_264_185 rfl ?_
                refine am_e7 hi_264_186 ?_
                refine mm_20 (v := .int (f 4)) hS730 hi_264_187 rfl ?_
                refine am_e0 hi_264_190 ?_
                obtain ⟨z732, hz732, tz732⟩ := am_addI (x := f 4) (y := 1) (m := (f 4).toInt) (n := (1 : Int)) rfl (by decide) (by omega) (by omega)
                refine am_e10 (z := z732) hi_264_191 hz732 ?_
                refine mm_21 (v := z732) hS730 hi_264_192 rfl (Nat.le_of_ble_eq_true rfl) ms_4 ?_
                intro S733 hS734
                replace hS734 : MS S0 S733 (upd (upd (upd (upd (upd f 4 z732) 15 z0) 20 z722) 62 o708) 75 m709) g'723 := hS734
                have hR735 : RJ (upd (upd (upd (upd (upd f 4 z732) 15 z0) 20 z722) 62 o708) 75 m709) g'723 gs bc [] 0 [] := RJ.at hR728_ (by show (f 4).toInt ≤ z732.toInt; omega)
                refine am_e1 (v := r3) hi_264_195 rfl ?_
                refine am_e0 hi_264_197 ?_
                refine am_e13f hi_264_199 (am_cF (m := r3.toInt) (n := (69 : Int)) rfl (by decide) (by simp only [am_cI]; omega)) ?_
                refine am_e2 (v := 39) hi_264_202 rfl ?_
                refine am_e0 hi_264_203 ?_
                refine am_e1 (v := on) hi_264_205 rfl ?_
                refine am_e0 hi_264_206 ?_
                obtain ⟨z736, hz736, tz736⟩ := am_addI (x := on) (y := 1) (m := on.toInt) (n := (1 : Int)) rfl (by decide) (by omega) (by omega)
                refine am_e10 (z := z736) hi_264_207 hz736 ?_
                refine am_e1 (v := tw) hi_264_208 rfl ?_
                refine am_e0 hi_264_209 ?_
                refine am_e32n (as := [.ref 39, .int 21, .int z736, .int tw, .int 0]) (la := [some (.ref 39), some (.int 21), some (.int z736), some (.int tw), some (.int 0)]) (rest := []) hi_264_210 (am_hd0 (M := 264) (by decide) 210) (Nat.le_of_ble_eq_true rfl) (Nat.le_of_ble_eq_true rfl) (show 5 ≤ am_P0.2.2.1 179 from by decide +kernel) rfl (am_recv_ok hS734.fs) rfl rfl (ct_pile (d := (d + 6)) hS734 hR735 (mj_e_plain (by decide)) (by show (0 : Int) ≤ (f 10).toInt; omega) (by show (f 10).toInt ≤ (65535 : Int); omega)) ?_
                rintro v737 S738 (⟨z739, g'740, hv741, hS742, hR745, h743, h744⟩)
                subst hv741
                have h743_ : z739.toInt = (f 10).toInt + 1 := h743
                have h744_ : ∀ j, j ∉ [11, 12, 13, 14] → g'740 j = g'723 j := h744
                replace hS742 : MS S0 S738 (upd (upd (upd (upd (upd (upd f 4 z732) 10 z739) 15 z0) 20 z722) 62 o708) 75 m709) g'740 := hS742
                have hR745_ : RJ (upd (upd (upd (upd (upd (upd f 4 z732) 10 z739) 15 z0) 20 z722) 62 o708) 75 m709) g'740 (((21 : Int), z736.toInt, tw.toInt, (0 : Int), []) :: gs) bc [] 0 [] := hR745
                show am_E _ _ _ _ [some (.ref 39), some (.int on), some (.int tw), some (.int (g 16 z0.toNatClampNeg)), some (.int r3), some (.int 1), some (.int (g 18 z0.toNatClampNeg)), some (.int r711)] [] _ _
                refine am_e2 (v := 39) hi_264_213 rfl ?_
                refine am_e0 hi_264_214 ?_
                refine am_e0 hi_264_216 ?_
                refine am_e0 hi_264_217 ?_
                refine am_e0 hi_264_218 ?_
                refine am_e32n (as := [.ref 39, .int 28, .int 0, .int 0, .int 0]) (la := [some (.ref 39), some (.int 28), some (.int 0), some (.int 0), some (.int 0)]) (rest := []) hi_264_219 (am_hd0 (M := 264) (by decide) 219) (Nat.le_of_ble_eq_true rfl) (Nat.le_of_ble_eq_true rfl) (show 5 ≤ am_P0.2.2.1 179 from by decide +kernel) rfl (am_recv_ok hS742.fs) rfl rfl (ct_pile (d := (d + 6)) hS742 hR745_ (mj_e_plain (by decide)) (by show (0 : Int) ≤ z739.toInt; omega) (by show z739.toInt ≤ (65535 : Int); omega)) ?_
                rintro v746 S747 (⟨z748, g'749, hv750, hS751, hR754, h752, h753⟩)
                subst hv750
                have h752_ : z748.toInt = z739.toInt + 1 := h752
                have h753_ : ∀ j, j ∉ [11, 12, 13, 14] → g'749 j = g'740 j := h753
                replace hS751 : MS S0 S747 (upd (upd (upd (upd (upd (upd f 4 z732) 10 z748) 15 z0) 20 z722) 62 o708) 75 m709) g'749 := hS751
                have hR754_ : RJ (upd (upd (upd (upd (upd (upd f 4 z732) 10 z748) 15 z0) 20 z722) 62 o708) 75 m709) g'749 (((28 : Int), (0 : Int), (0 : Int), (0 : Int), []) :: (((21 : Int), z736.toInt, tw.toInt, (0 : Int), []) :: gs)) bc [] 0 [] := hR754
                show am_E _ _ _ _ [some (.ref 39), some (.int on), some (.int tw), some (.int (g 16 z0.toNatClampNeg)), some (.int r3), some (.int 1), some (.int (g 18 z0.toNatClampNeg)), some (.int r711)] [] _ _
                refine am_e2 (v := 39) hi_264_222 rfl ?_
                refine am_e32w (as := [.ref 39]) (la := [some (.ref 39)]) (rest := []) hi_264_223 (am_hd0 (M := 264) (by decide) 223) (Nat.le_of_ble_eq_true rfl) (Nat.le_of_ble_eq_true rfl) (show 1 ≤ am_P0.2.2.1 201 from by decide +kernel) rfl (am_recv_ok hS751.fs) rfl rfl ?_
                refine am_e2 (v := 39) hi_201_0 rfl ?_
                refine am_e32n (as := [.ref 39]) (la := [some (.ref 39)]) (rest := []) hi_201_1 (am_hd0 (M := 201) (by decide) 1) (Nat.le_of_ble_eq_true rfl) (Nat.le_of_ble_eq_true rfl) (show 1 ≤ am_P0.2.2.1 183 from by decide +kernel) rfl (am_recv_ok hS751.fs) rfl rfl (ct_next (d := (d + 4)) hS751   (by show (0 : Int) ≤ z732.toInt; omega) (by show (f 0).toInt ≤ (16384 : Int); omega)) ?_
                rintro v755 S756 (⟨r757, hv758, hS759, h760⟩)
                subst hv758
                have h760_ : z732.toInt < (f 0).toInt ∨ r757.toInt = (-1 : Int) := h760
                show am_E _ _ _ _ [some (.ref 39)] [.int r757] _ _
                refine am_e0 hi_201_4 ?_
                by_cases c762 : ¬ r757.toInt = (1 : Int)
                · refine am_e13t hi_201_5 (am_cT (m := r757.toInt) (n := (1 : Int)) rfl (by decide) c762) ?_
                  refine am_e2 (v := 39) hi_201_31 rfl ?_
                  refine am_e0 hi_201_32 ?_
                  refine am_e32n (as := [.ref 39, .int 60]) (la := [some (.ref 39), some (.int 60)]) (rest := []) hi_201_34 (am_hd0 (M := 201) (by decide) 34) (Nat.le_of_ble_eq_true rfl) (Nat.le_of_ble_eq_true rfl) (show 2 ≤ am_P0.2.2.1 193 from by decide +kernel) rfl (am_recv_ok hS759.fs) rfl rfl (ct_enter (d := (d + 3)) hS759   (by show (0 : Int) ≤ z732.toInt; omega) (by show (f 0).toInt ≤ (16384 : Int); omega) (by show (0 : Int) ≤ (60 : Int); omega) (by show (0 : Int) ≤ (f 5).toInt; omega) (by show (f 5).toInt ≤ (48 : Int); omega)) ?_
                  rintro v763 S764 (⟨z765, y766, hv767, hS768, h769, h770, h771, h772⟩ | ⟨a774, b775, hv776, hS777⟩)
                  · subst hv767
                    have h769_ : z765.toInt = z732.toInt + 1 := h769
                    have h770_ : z732.toInt < (f 0).toInt := h770
                    have h771_ : y766.toInt = (f 5).toInt + 1 := h771
                    have h772_ : y766.toInt ≤ (48 : Int) := h772
                    replace hS768 : MS S0 S764 (upd (upd (upd (upd (upd (upd (upd f 4 z765) 5 y766) 10 z748) 15 z0) 20 z722) 62 o708) 75 m709) g'749 := hS768
                    have hR779 : RJ (upd (upd (upd (upd (upd (upd (upd f 4 z765) 5 y766) 10 z748) 15 z0) 20 z722) 62 o708) 75 m709) g'749 (((28 : Int), (0 : Int), (0 : Int), (0 : Int), []) :: (((21 : Int), z736.toInt, tw.toInt, (0 : Int), []) :: gs)) bc [] 0 [] := RJ.at hR754_ (by show z732.toInt ≤ z765.toInt; omega)
                    show am_E _ _ _ _ [some (.ref 39)] [.int 1] _ _
                    refine am_e12f hi_201_37 (by decide) ?_
                    refine am_e2 (v := 39) hi_201_40 rfl ?_
                    refine am_e0 hi_201_41 ?_
                    refine am_e0 hi_201_43 ?_
                    refine am_e0 hi_201_44 ?_
                    refine am_e0 hi_201_45 ?_
                    refine am_e32n (as := [.ref 39, .int 29, .int 0, .int 0, .int 0]) (la := [some (.ref 39), some (.int 29), some (.int 0), some (.int 0), some (.int 0)]) (rest := []) hi_201_46 (am_hd0 (M := 201) (by decide) 46) (Nat.le_of_ble_eq_true rfl) (Nat.le_of_ble_eq_true rfl) (show 5 ≤ am_P0.2.2.1 179 from by decide +kernel) rfl (am_recv_ok hS768.fs) rfl rfl (ct_pile (d := (d + 5)) hS768 hR779 (mj_e_plain (by decide)) (by show (0 : Int) ≤ z748.toInt; omega) (by show z748.toInt ≤ (65535 : Int); omega)) ?_
                    rintro v780 S781 (⟨z782, g'783, hv784, hS785, hR788, h786, h787⟩)
                    subst hv784
                    have h786_ : z782.toInt = z748.toInt + 1 := h786
                    have h787_ : ∀ j, j ∉ [11, 12, 13, 14] → g'783 j = g'749 j := h787
                    replace hS785 : MS S0 S781 (upd (upd (upd (upd (upd (upd (upd f 4 z765) 5 y766) 10 z782) 15 z0) 20 z722) 62 o708) 75 m709) g'783 := hS785
                    have hR788_ : RJ (upd (upd (upd (upd (upd (upd (upd f 4 z765) 5 y766) 10 z782) 15 z0) 20 z722) 62 o708) 75 m709) g'783 (((29 : Int), (0 : Int), (0 : Int), (0 : Int), []) :: (((28 : Int), (0 : Int), (0 : Int), (0 : Int), []) :: (((21 : Int), z736.toInt, tw.toInt, (0 : Int), []) :: gs))) bc [] 0 [] := hR788
                    show am_E _ _ _ _ [some (.ref 39)] [] _ _
                    refine am_e2 (v := 39) hi_201_49 rfl ?_
                    refine am_e0 hi_201_50 ?_
                    refine am_e32w (as := [.ref 39, .int 0]) (la := [some (.ref 39), some (.int 0)]) (rest := []) hi_201_51 (am_hd0 (M := 201) (by decide) 51) (Nat.le_of_ble_eq_true rfl) (Nat.le_of_ble_eq_true rfl) (show 2 ≤ am_P0.2.2.1 186 from by decide +kernel) rfl (am_recv_ok hS785.fs) rfl rfl ?_
                    refine am_e2 (v := 39) hi_186_0 rfl ?_
                    refine am_e0 hi_186_1 ?_
                    refine am_e1 (v := 0) hi_186_3 rfl ?_
                    refine am_e0 hi_186_4 ?_
                    refine am_e0 hi_186_5 ?_
                    refine am_e32n (as := [.ref 39, .int 23, .int 0, .int 0, .int 0]) (la := [some (.ref 39), some (.int 23), some (.int 0), some (.int 0), some (.int 0)]) (rest := []) hi_186_6 (am_hd0 (M := 186) (by decide) 6) (Nat.le_of_ble_eq_true rfl) (Nat.le_of_ble_eq_true rfl) (show 5 ≤ am_P0.2.2.1 179 from by decide +kernel) rfl (am_recv_ok hS785.fs) rfl rfl (ct_pile (d := (d + 4)) hS785 hR788_ (mj_e_plain (by decide)) (by show (0 : Int) ≤ z782.toInt; omega) (by show z782.toInt ≤ (65535 : Int); omega)) ?_
                    rintro v789 S790 (⟨z791, g'792, hv793, hS794, hR797, h795, h796⟩)
                    subst hv793
                    have h795_ : z791.toInt = z782.toInt + 1 := h795
                    have h796_ : ∀ j, j ∉ [11, 12, 13, 14] → g'792 j = g'783 j := h796
                    replace hS794 : MS S0 S790 (upd (upd (upd (upd (upd (upd (upd f 4 z765) 5 y766) 10 z791) 15 z0) 20 z722) 62 o708) 75 m709) g'792 := hS794
                    have hR797_ : RJ (upd (upd (upd (upd (upd (upd (upd f 4 z765) 5 y766) 10 z791) 15 z0) 20 z722) 62 o708) 75 m709) g'792 (((23 : Int), (0 : Int), (0 : Int), (0 : Int), []) :: (((29 : Int), (0 : Int), (0 : Int), (0 : Int), []) :: (((28 : Int), (0 : Int), (0 : Int), (0 : Int), []) :: (((21 : Int), z736.toInt, tw.toInt, (0 : Int), []) :: gs)))) bc [] 0 [] := hR797
                    show am_E _ _ _ _ [some (.ref 39), some (.int 0)] [] _ _
                    refine am_e35 hi_186_9 ?_
                    show am_E _ _ _ _ [some (.ref 39)] [] _ _
                    refine am_e35 hi_201_54 ?_
                    show am_E _ _ _ _ [some (.ref 39), some (.int on), some (.int tw), some (.int (g 16 z0.toNatClampNeg)), some (.int r3), some (.int 1), some (.int (g 18 z0.toNatClampNeg)), some (.int r711)] [] _ _
                    refine am_e18 hi_264_226 ?_
                    refine am_e35 hi_264_244 ?_
                    show am_E _ _ _ _ [some (.ref 39), some (.int 21), some (.int on), some (.int tw), some (.int th)] [] _ _
                    refine am_e18 hi_180_362 ?_
                    refine am_e35 hi_180_371 ?_
                    have q1 : mg_p1 (((23 : Int), (0 : Int), (0 : Int), (0 : Int), []) :: (((29 : Int), (0 : Int), (0 : Int), (0 : Int), []) :: (((28 : Int), (0 : Int), (0 : Int), (0 : Int), []) :: (((21 : Int), z736.toInt, tw.toInt, (0 : Int), []) :: gs)))) = 0 + (0 + (0 + (0 + (mg_p1 gs)))) := rfl
                    have q2 : mg_p2 (((23 : Int), (0 : Int), (0 : Int), (0 : Int), []) :: (((29 : Int), (0 : Int), (0 : Int), (0 : Int), []) :: (((28 : Int), (0 : Int), (0 : Int), (0 : Int), []) :: (((21 : Int), z736.toInt, tw.toInt, (0 : Int), []) :: gs)))) = 0 + (0 + (0 + (0 + (mg_p2 gs)))) := rfl
                    have q3 : mg_p3 (((23 : Int), (0 : Int), (0 : Int), (0 : Int), []) :: (((29 : Int), (0 : Int), (0 : Int), (0 : Int), []) :: (((28 : Int), (0 : Int), (0 : Int), (0 : Int), []) :: (((21 : Int), z736.toInt, tw.toInt, (0 : Int), []) :: gs)))) = 1 + (1 + (1 + (1 + (mg_p3 gs)))) := rfl
                    have q4 : mg_p4 (((23 : Int), (0 : Int), (0 : Int), (0 : Int), []) :: (((29 : Int), (0 : Int), (0 : Int), (0 : Int), []) :: (((28 : Int), (0 : Int), (0 : Int), (0 : Int), []) :: (((21 : Int), z736.toInt, tw.toInt, (0 : Int), []) :: gs)))) = 0 + (0 + (0 + (0 + (mg_p4 gs)))) := rfl
                    refine ⟨_, _, _, bc, rfl, hS794, Or.inl ⟨⟨hR797_, ?_, ?_⟩, rfl, ?_⟩⟩
                    · exact (⟨⟨(show (0 : Int) ≤ 23 from by decide), (show (0 : Int) ≤ z0.toInt from by omega), (show 0 ≤ z722.toInt from by omega), (show 1 ≤ (f 37).toInt from by omega), (show 0 ≤ (f 32).toInt from by omega), (show (f 32).toInt ≤ y766.toInt from by omega), (show y766.toInt ≤ 48 from by omega), (show (f 37).toInt ≤ 2 * (y766.toInt) + 2 from by omega), (show 0 ≤ (0 : Int) from by omega)⟩, ⟨⟨(show (0 : Int) ≤ 29 from by decide), (show (1 : Int) ≤ z0.toInt + 1 from by omega), (show 0 ≤ z722.toInt from by omega), (show 1 ≤ (f 37).toInt + 0 from by omega), (show 0 ≤ (f 32).toInt + 0 from by omega), (show (f 32).toInt + 0 ≤ y766.toInt + 0 from by omega), (show y766.toInt + 0 ≤ 48 from by omega), (show (f 37).toInt + 0 ≤ 2 * (y766.toInt + 0) + 2 from by omega), trivial⟩, ⟨⟨(show (0 : Int) ≤ 28 from by decide), (show (1 : Int) ≤ z0.toInt + 1 + 0 from by omega), (show 0 ≤ z722.toInt from by omega), (show 1 ≤ (f 37).toInt + 0 + 0 from by omega), (show 0 ≤ (f 32).toInt + 0 + 0 from by omega), (show (f 32).toInt + 0 + 0 ≤ y766.toInt + 0 + -1 from by omega), (show y766.toInt + 0 + -1 ≤ 48 from by omega), (show (f 37).toInt + 0 + 0 ≤ 2 * (y766.toInt + 0 + -1) + 2 from by omega), trivial⟩, ⟨⟨(show (0 : Int) ≤ 21 from by decide), (show (1 : Int) ≤ z0.toInt + 1 + 0 + 0 from by omega), (show 0 ≤ z722.toInt from by omega), (show 1 ≤ (f 37).toInt + 0 + 0 + 0 from by omega), (show 0 ≤ (f 32).toInt + 0 + 0 + 0 from by omega), (show (f 32).toInt + 0 + 0 + 0 ≤ y766.toInt + 0 + -1 + 0 from by omega), (show y766.toInt + 0 + -1 + 0 ≤ 48 from by omega), (show (f 37).toInt + 0 + 0 + 0 ≤ 2 * (y766.toInt + 0 + -1 + 0) + 1 from by omega), ⟨(show 0 ≤ z736.toInt from by omega), (show 0 ≤ tw.toInt from by omega), (show z722.toInt = tw.toInt + z736.toInt from by omega)⟩⟩, mg_cast (mg_good_ext _ _ _ _ _ _ (fun i _ => by show g'792 34 i = g 34 i; rw [show g'792 34 = g'783 34 from h796_ 34 (by decide), show g'783 34 = g'749 34 from h787_ 34 (by decide), show g'749 34 = g'740 34 from h753_ 34 (by decide), show g'740 34 = g'723 34 from h744_ 34 (by decide), show g'723 34 = g'710 34 from h727_ 34 (by decide), show g'710 34 = g 34 from h718_ 34 (by decide)]) (fun i _ => by show g'792 38 i = g 38 i; rw [show g'792 38 = g'783 38 from h796_ 38 (by decide), show g'783 38 = g'749 38 from h787_ 38 (by decide), show g'749 38 = g'740 38 from h753_ 38 (by decide), show g'740 38 = g'723 38 from h744_ 38 (by decide), show g'723 38 = g'710 38 from h727_ 38 (by decide), show g'710 38 = g 38 from h718_ 38 (by decide)]) hrest) (by show (f 15).toInt + -1 = z0.toInt + 1 + 0 + 0 + -1; omega) (by show tw.toInt = tw.toInt; omega) (by show (f 37).toInt + 0 = (f 37).toInt + 0 + 0 + 0 + 0; omega) (by show (f 32).toInt + 0 = (f 32).toInt + 0 + 0 + 0 + 0; omega) (by show (f 5).toInt + 0 = y766.toInt + 0 + -1 + 0 + 0; omega)⟩⟩⟩⟩ : mg_good (g'792 34) (g'792 38) (((23 : Int), (0 : Int), (0 : Int), (0 : Int), []) :: (((29 : Int), (0 : Int), (0 : Int), (0 : Int), []) :: (((28 : Int), (0 : Int), (0 : Int), (0 : Int), []) :: (((21 : Int), z736.toInt, tw.toInt, (0 : Int), []) :: gs)))) (z0.toInt) (z722.toInt) ((f 37).toInt) ((f 32).toInt) (y766.toInt))
                    · exact ⟨(by show 0 ≤ z765.toInt; omega), (by show z765.toInt ≤ (f 0).toInt; omega), (by show (f 0).toInt ≤ 512; omega), (by show 0 ≤ (f 24).toInt; omega), (by show (f 24).toInt + z722.toInt + mg_p1 (((23 : Int), (0 : Int), (0 : Int), (0 : Int), []) :: (((29 : Int), (0 : Int), (0 : Int), (0 : Int), []) :: (((28 : Int), (0 : Int), (0 : Int), (0 : Int), []) :: (((21 : Int), z736.toInt, tw.toInt, (0 : Int), []) :: gs)))) ≤ 4 * z765.toInt; omega), (by show z722.toInt ≤ z765.toInt; omega), (by show z0.toInt + mg_p2 (((23 : Int), (0 : Int), (0 : Int), (0 : Int), []) :: (((29 : Int), (0 : Int), (0 : Int), (0 : Int), []) :: (((28 : Int), (0 : Int), (0 : Int), (0 : Int), []) :: (((21 : Int), z736.toInt, tw.toInt, (0 : Int), []) :: gs)))) ≤ z765.toInt; omega), (by show mg_p3 (((23 : Int), (0 : Int), (0 : Int), (0 : Int), []) :: (((29 : Int), (0 : Int), (0 : Int), (0 : Int), []) :: (((28 : Int), (0 : Int), (0 : Int), (0 : Int), []) :: (((21 : Int), z736.toInt, tw.toInt, (0 : Int), []) :: gs)))) ≤ 20 * z765.toInt + 20; omega), (by show 0 ≤ (f 68).toInt; omega), (by show (f 68).toInt + 3 * z722.toInt + mg_p4 (((23 : Int), (0 : Int), (0 : Int), (0 : Int), []) :: (((29 : Int), (0 : Int), (0 : Int), (0 : Int), []) :: (((28 : Int), (0 : Int), (0 : Int), (0 : Int), []) :: (((21 : Int), z736.toInt, tw.toInt, (0 : Int), []) :: gs)))) ≤ 60 * z765.toInt + 60; omega), (by show 0 ≤ o708.toInt; omega), (by show o708.toInt + 64 * mj_n (g'792 16) z0.toNatClampNeg 3 ≤ 64 * z765.toInt; rw [show g'792 16 = g'783 16 from h796_ 16 (by decide), show g'783 16 = g'749 16 from h787_ 16 (by decide), show g'749 16 = g'740 16 from h753_ 16 (by decide), show g'740 16 = g'723 16 from h744_ 16 (by decide), show g'723 16 = g'710 16 from h727_ 16 (by decide), show g'710 16 = g 16 from h718_ 16 (by decide)]; omega), (by show 0 ≤ (f 44).toInt; omega), (by show (f 44).toInt ≤ z765.toInt; omega), (by show 0 ≤ (f 48).toInt; omega), (by show (f 48).toInt ≤ z765.toInt; omega), (by show 1 ≤ (f 53).toInt; omega), (by show (f 53).toInt ≤ z765.toInt + 1; omega)⟩
                    · show 100 * ((f 0).toInt - z765.toInt) + mg_p3 (((23 : Int), (0 : Int), (0 : Int), (0 : Int), []) :: (((29 : Int), (0 : Int), (0 : Int), (0 : Int), []) :: (((28 : Int), (0 : Int), (0 : Int), (0 : Int), []) :: (((21 : Int), z736.toInt, tw.toInt, (0 : Int), []) :: gs)))) < 100 * ((f 0).toInt - (f 4).toInt) + (1 + mg_p3 gs); omega
                  · subst hv776
                    replace hS777 : MS S0 S764 (upd (upd (upd (upd (upd (upd (upd (upd f 4 z732) 6 a774) 7 b775) 10 0) 15 z0) 20 z722) 62 o708) 75 m709) g'749 := hS777
                    have hR798 := rj_clear0 hR754_
                    have hR799 : RJ (upd (upd (upd (upd (upd (upd (upd (upd f 4 z732) 6 a774) 7 b775) 10 0) 15 z0) 20 z722) 62 o708) 75 m709) g'749 [] bc [] 0 [] := hR798
                    show am_E _ _ _ _ [some (.ref 39)] [.int 0] _ _
                    refine am_e12t hi_201_37 (by decide) ?_
                    refine am_e35 hi_201_54 ?_
                    show am_E _ _ _ _ [some (.ref 39), some (.int on), some (.int tw), some (.int (g 16 z0.toNatClampNeg)), some (.int r3), some (.int 1), some (.int (g 18 z0.toNatClampNeg)), some (.int r711)] [] _ _
                    refine am_e18 hi_264_226 ?_
                    refine am_e35 hi_264_244 ?_
                    show am_E _ _ _ _ [some (.ref 39), some (.int 21), some (.int on), some (.int tw), some (.int th)] [] _ _
                    refine am_e18 hi_180_362 ?_
                    refine am_e35 hi_180_371 ?_
                    have hRc := rj_clear0 hR799
                    refine ⟨_, _, [], _, rfl, hS777, Or.inr ⟨hRc, rfl, (by show 0 ≤ z732.toInt; omega), (by show z732.toInt ≤ (f 0).toInt; omega), (by show 0 ≤ (f 32).toInt; omega), (by show (f 32).toInt ≤ 63; omega), (by show 1 ≤ (f 53).toInt; omega), (by show (f 53).toInt ≤ 600; omega), (by show 0 ≤ (f 68).toInt; omega), (by show (f 68).toInt ≤ 60000; omega), (by show 0 ≤ (f 48).toInt; omega), (by show (f 48).toInt ≤ 8000; omega), (by show 0 ≤ (f 37).toInt; omega), (by show (f 37).toInt ≤ 128; omega), (by show 0 ≤ o708.toInt; omega), (by show o708.toInt ≤ 65000; omega)⟩⟩
                · refine am_e13f hi_201_5 (am_cF (m := r757.toInt) (n := (1 : Int)) rfl (by decide) c762) ?_
                  refine am_e2 (v := 39) hi_201_8 rfl ?_
                  refine am_e0 hi_201_9 ?_
                  refine am_e0 hi_201_10 ?_
                  refine am_e2 (v := 39) hi_201_11 rfl ?_
                  refine mm_20 (v := .int z732) hS759 hi_201_12 rfl ?_
                  refine am_e32n (as := [.ref 39, .int 3, .int 0, .int z732]) (la := [some (.ref 39), some (.int 3), some (.int 0), some (.int z732)]) (rest := []) hi_201_15 (am_hd0 (M := 201) (by decide) 15) (Nat.le_of_ble_eq_true rfl) (Nat.le_of_ble_eq_true rfl) (show 4 ≤ am_P0.2.2.1 190 from by decide +kernel) rfl (am_recv_ok hS759.fs) rfl rfl (ct_value (d := (d + 5)) hS759 hR754_ (fun _ => ⟨by omega, by omega⟩) (fun h => absurd h (by decide)) (by show (0 : Int) ≤ z0.toInt; omega) (by show z0.toInt ≤ (32767 : Int); omega)) ?_
                  rintro v800 S801 (⟨z802, g'803, hv804, hS805, hR810, h806, h807, h808, h809⟩)
                  subst hv804
                  have h806_ : z802.toInt = z0.toInt + 1 := h806
                  have h807_ : ∀ j, j ∉ [16, 17, 18] → g'803 j = g'749 j := h807
                  have h808_ : mj_n (g'803 16) z802.toNatClampNeg 3 ≤ mj_n (g 16) z0.toNatClampNeg 3 + 1 := by rw [show g'749 16 = g'740 16 from h753_ 16 (by decide), show g'740 16 = g'723 16 from h744_ 16 (by decide), show g'723 16 = g'710 16 from h727_ 16 (by decide), show g'710 16 = g 16 from h718_ 16 (by decide)] at h808; exact h808
                  have h809_ : (3 : Int) = 3 ∨ mj_n (g'803 16) z802.toNatClampNeg 3 ≤ mj_n (g 16) z0.toNatClampNeg 3 := by rw [show g'749 16 = g'740 16 from h753_ 16 (by decide), show g'740 16 = g'723 16 from h744_ 16 (by decide), show g'723 16 = g'710 16 from h727_ 16 (by decide), show g'710 16 = g 16 from h718_ 16 (by decide)] at h809; exact h809
                  replace hS805 : MS S0 S801 (upd (upd (upd (upd (upd (upd f 4 z732) 10 z748) 15 z802) 20 z722) 62 o708) 75 m709) g'803 := hS805
                  have hR810_ : RJ (upd (upd (upd (upd (upd (upd f 4 z732) 10 z748) 15 z802) 20 z722) 62 o708) 75 m709) g'803 (((28 : Int), (0 : Int), (0 : Int), (0 : Int), []) :: (((21 : Int), z736.toInt, tw.toInt, (0 : Int), []) :: gs)) bc [] 0 [] := hR810
                  show am_E _ _ _ _ [some (.ref 39)] [] _ _
                  refine am_e2 (v := 39) hi_201_18 rfl ?_
                  refine am_e7 hi_201_19 ?_
                  refine mm_20 (v := .int z732) hS805 hi_201_20 rfl ?_
                  refine am_e0 hi_201_23 ?_
                  obtain ⟨z811, hz811, tz811⟩ := am_addI (x := z732) (y := 1) (m := z732.toInt) (n := (1 : Int)) rfl (by decide) (by omega) (by omega)
                  refine am_e10 (z := z811) hi_201_24 hz811 ?_
                  refine mm_21 (v := z811) hS805 hi_201_25 rfl (Nat.le_of_ble_eq_true rfl) ms_4 ?_
                  intro S812 hS813
                  replace hS813 : MS S0 S812 (upd (upd (upd (upd (upd (upd f 4 z811) 10 z748) 15 z802) 20 z722) 62 o708) 75 m709) g'803 := hS813
                  have hR814 : RJ (upd (upd (upd (upd (upd (upd f 4 z811) 10 z748) 15 z802) 20 z722) 62 o708) 75 m709) g'803 (((28 : Int), (0 : Int), (0 : Int), (0 : Int), []) :: (((21 : Int), z736.toInt, tw.toInt, (0 : Int), []) :: gs)) bc [] 0 [] := RJ.at hR810_ (by show z732.toInt ≤ z811.toInt; omega)
                  refine am_e18 hi_201_28 ?_
                  refine am_e35 hi_201_54 ?_
                  show am_E _ _ _ _ [some (.ref 39), some (.int on), some (.int tw), some (.int (g 16 z0.toNatClampNeg)), some (.int r3), some (.int 1), some (.int (g 18 z0.toNatClampNeg)), some (.int r711)] [] _ _
                  refine am_e18 hi_264_226 ?_
                  refine am_e35 hi_264_244 ?_
                  show am_E _ _ _ _ [some (.ref 39), some (.int 21), some (.int on), some (.int tw), some (.int th)] [] _ _
                  refine am_e18 hi_180_362 ?_
                  refine am_e35 hi_180_371 ?_
                  have q1 : mg_p1 (((28 : Int), (0 : Int), (0 : Int), (0 : Int), []) :: (((21 : Int), z736.toInt, tw.toInt, (0 : Int), []) :: gs)) = 0 + (0 + (mg_p1 gs)) := rfl
                  have q2 : mg_p2 (((28 : Int), (0 : Int), (0 : Int), (0 : Int), []) :: (((21 : Int), z736.toInt, tw.toInt, (0 : Int), []) :: gs)) = 0 + (0 + (mg_p2 gs)) := rfl
                  have q3 : mg_p3 (((28 : Int), (0 : Int), (0 : Int), (0 : Int), []) :: (((21 : Int), z736.toInt, tw.toInt, (0 : Int), []) :: gs)) = 1 + (1 + (mg_p3 gs)) := rfl
                  have q4 : mg_p4 (((28 : Int), (0 : Int), (0 : Int), (0 : Int), []) :: (((21 : Int), z736.toInt, tw.toInt, (0 : Int), []) :: gs)) = 0 + (0 + (mg_p4 gs)) := rfl
                  refine ⟨_, _, _, bc, rfl, hS813, Or.inl ⟨⟨hR814, ?_, ?_⟩, rfl, ?_⟩⟩
                  · exact (⟨⟨(show (0 : Int) ≤ 28 from by decide), (show (1 : Int) ≤ z802.toInt from by omega), (show 0 ≤ z722.toInt from by omega), (show 1 ≤ (f 37).toInt from by omega), (show 0 ≤ (f 32).toInt from by omega), (show (f 32).toInt ≤ (f 5).toInt from by omega), (show (f 5).toInt ≤ 48 from by omega), (show (f 37).toInt ≤ 2 * ((f 5).toInt) + 2 from by omega), trivial⟩, ⟨⟨(show (0 : Int) ≤ 21 from by decide), (show (1 : Int) ≤ z802.toInt + 0 from by omega), (show 0 ≤ z722.toInt from by omega), (show 1 ≤ (f 37).toInt + 0 from by omega), (show 0 ≤ (f 32).toInt + 0 from by omega), (show (f 32).toInt + 0 ≤ (f 5).toInt + 0 from by omega), (show (f 5).toInt + 0 ≤ 48 from by omega), (show (f 37).toInt + 0 ≤ 2 * ((f 5).toInt + 0) + 1 from by omega), ⟨(show 0 ≤ z736.toInt from by omega), (show 0 ≤ tw.toInt from by omega), (show z722.toInt = tw.toInt + z736.toInt from by omega)⟩⟩, mg_cast (mg_good_ext _ _ _ _ _ _ (fun i _ => by show g'803 34 i = g 34 i; rw [show g'803 34 = g'749 34 from h807_ 34 (by decide), show g'749 34 = g'740 34 from h753_ 34 (by decide), show g'740 34 = g'723 34 from h744_ 34 (by decide), show g'723 34 = g'710 34 from h727_ 34 (by decide), show g'710 34 = g 34 from h718_ 34 (by decide)]) (fun i _ => by show g'803 38 i = g 38 i; rw [show g'803 38 = g'749 38 from h807_ 38 (by decide), show g'749 38 = g'740 38 from h753_ 38 (by decide), show g'740 38 = g'723 38 from h744_ 38 (by decide), show g'723 38 = g'710 38 from h727_ 38 (by decide), show g'710 38 = g 38 from h718_ 38 (by decide)]) hrest) (by show (f 15).toInt + -1 = z802.toInt + 0 + -1; omega) (by show tw.toInt = tw.toInt; omega) (by show (f 37).toInt + 0 = (f 37).toInt + 0 + 0; omega) (by show (f 32).toInt + 0 = (f 32).toInt + 0 + 0; omega) (by show (f 5).toInt + 0 = (f 5).toInt + 0 + 0; omega)⟩⟩ : mg_good (g'803 34) (g'803 38) (((28 : Int), (0 : Int), (0 : Int), (0 : Int), []) :: (((21 : Int), z736.toInt, tw.toInt, (0 : Int), []) :: gs)) (z802.toInt) (z722.toInt) ((f 37).toInt) ((f 32).toInt) ((f 5).toInt))
                  · exact ⟨(by show 0 ≤ z811.toInt; omega), (by show z811.toInt ≤ (f 0).toInt; omega), (by show (f 0).toInt ≤ 512; omega), (by show 0 ≤ (f 24).toInt; omega), (by show (f 24).toInt + z722.toInt + mg_p1 (((28 : Int), (0 : Int), (0 : Int), (0 : Int), []) :: (((21 : Int), z736.toInt, tw.toInt, (0 : Int), []) :: gs)) ≤ 4 * z811.toInt; omega), (by show z722.toInt ≤ z811.toInt; omega), (by show z802.toInt + mg_p2 (((28 : Int), (0 : Int), (0 : Int), (0 : Int), []) :: (((21 : Int), z736.toInt, tw.toInt, (0 : Int), []) :: gs)) ≤ z811.toInt; omega), (by show mg_p3 (((28 : Int), (0 : Int), (0 : Int), (0 : Int), []) :: (((21 : Int), z736.toInt, tw.toInt, (0 : Int), []) :: gs)) ≤ 20 * z811.toInt + 20; omega), (by show 0 ≤ (f 68).toInt; omega), (by show (f 68).toInt + 3 * z722.toInt + mg_p4 (((28 : Int), (0 : Int), (0 : Int), (0 : Int), []) :: (((21 : Int), z736.toInt, tw.toInt, (0 : Int), []) :: gs)) ≤ 60 * z811.toInt + 60; omega), (by show 0 ≤ o708.toInt; omega), (by show o708.toInt + 64 * mj_n (g'803 16) z802.toNatClampNeg 3 ≤ 64 * z811.toInt; omega), (by show 0 ≤ (f 44).toInt; omega), (by show (f 44).toInt ≤ z811.toInt; omega), (by show 0 ≤ (f 48).toInt; omega), (by show (f 48).toInt ≤ z811.toInt; omega), (by show 1 ≤ (f 53).toInt; omega), (by show (f 53).toInt ≤ z811.toInt + 1; omega)⟩
                  · show 100 * ((f 0).toInt - z811.toInt) + mg_p3 (((28 : Int), (0 : Int), (0 : Int), (0 : Int), []) :: (((21 : Int), z736.toInt, tw.toInt, (0 : Int), []) :: gs)) < 100 * ((f 0).toInt - (f 4).toInt) + (1 + mg_p3 gs); omega
              · refine am_e12f hi_237_21 (am_cF (m := (g 29 r589.toNatClampNeg).toInt) (n := (0 : Int)) rfl (by decide) c705) ?_
                refine am_e2 (v := 39) hi_237_24 rfl ?_
                refine am_e0 hi_237_25 ?_
                refine am_e1 (v := g 18 z0.toNatClampNeg) hi_237_27 rfl ?_
                refine am_e32n (as := [.ref 39, .int 10, .int (g 18 z0.toNatClampNeg)]) (la := [some (.ref 39), some (.int 10), some (.int (g 18 z0.toNatClampNeg))]) (rest := []) hi_237_28 (am_hd0 (M := 237) (by decide) 28) (Nat.le_of_ble_eq_true rfl) (Nat.le_of_ble_eq_true rfl) (show 3 ≤ am_P0.2.2.1 191 from by decide +kernel) rfl (am_recv_ok hS591.fs) rfl rfl (ct_failName (d := (d + 5)) hS591   ) ?_
                rintro v815 S816 (⟨a817, b818, hv819, hS820⟩)
                subst hv819
                show am_E _ _ _ _ [some (.ref 39), some (.int (g 18 z0.toNatClampNeg)), some (.int r589)] [] _ _
                refine am_e2 (v := 39) hi_237_31 rfl ?_
                refine am_e1 (v := g 18 z0.toNatClampNeg) hi_237_32 rfl ?_
                refine am_e32n (as := [.ref 39, .int (g 18 z0.toNatClampNeg)]) (la := [some (.ref 39), some (.int (g 18 z0.toNatClampNeg)), none, none, none]) (rest := []) hi_237_33 (am_hd0 (M := 237) (by decide) 33) (Nat.le_of_ble_eq_true rfl) (Nat.le_of_ble_eq_true rfl) (show 2 ≤ am_P0.2.2.1 205 from by decide +kernel) rfl (am_recv_ok hS820.fs) rfl rfl (ct_resolve (d := (d + 4)) hS820 hR  (by show (0 : Int) ≤ (f 32).toInt; omega) (by show (f 32).toInt ≤ (63 : Int); omega) (by show (f 53).toInt ≤ (4096 : Int); omega) (by show (0 : Int) ≤ (f 24).toInt; omega) (by show (f 24).toInt ≤ (16384 : Int); omega) (by show (0 : Int) ≤ (f 62).toInt; omega) (by show (f 62).toInt ≤ (65000 : Int); omega) (by show (0 : Int) ≤ (g 18 z0.toNatClampNeg).toInt; omega) (by show (g 18 z0.toNatClampNeg).toInt ≤ (16383 : Int); omega)) ?_
                rintro v822 S823 (⟨o824, m825, g'826, r827, hv828, hS829, hR835, h830, h831, h832, h833, h834⟩)
                subst hv828
                have h830_ : (f 62).toInt ≤ o824.toInt := h830
                have h831_ : o824.toInt ≤ (f 62).toInt + 64 := h831
                have h832_ : (0 : Int) ≤ r827.toInt := h832
                have h833_ : r827.toInt ≤ (2 : Int) := h833
                have h834_ : ∀ j, j ∉ [63, 64, 65, 66, 67] → g'826 j = g j := h834
                have hR835_ : RJ (upd (upd (upd (upd f 8 a817) 9 b818) 62 o824) 75 m825) g'826 gs bc [] 0 [] := hR835
                show am_E _ _ _ _ [some (.ref 39), some (.int (g 18 z0.toNatClampNeg)), some (.int r589)] [.int r827] _ _
                refine am_e33 hi_237_36 ?_
                show am_E _ _ _ _ [some (.ref 39), some (.int on), some (.int tw), some (.int (g 16 z0.toNatClampNeg)), some (.int r3), some (.int 1), some (.int (g 18 z0.toNatClampNeg)), none] [.int r827] _ _
                refine am_e3 (ls' := [some (.ref 39), some (.int on), some (.int tw), some (.int (g 16 z0.toNatClampNeg)), some (.int r3), some (.int 1), some (.int (g 18 z0.toNatClampNeg)), some (.int r827)]) hi_264_126 (Nat.le_of_ble_eq_true rfl) rfl ?_
                refine am_e2 (v := 39) hi_264_128 rfl ?_
                refine am_e1 (v := r827) hi_264_129 rfl ?_
                refine am_e2 (v := 39) hi_264_131 rfl ?_
                refine mm_20 (v := .int m825) hS829 hi_264_132 rfl ?_
                refine am_e1 (v := g 18 z0.toNatClampNeg) hi_264_135 rfl ?_
                refine am_e32n (as := [.ref 39, .int r827, .int m825, .int (g 18 z0.toNatClampNeg)]) (la := [some (.ref 39), some (.int r827), some (.int m825), some (.int (g 18 z0.toNatClampNeg))]) (rest := []) hi_264_137 (am_hd0 (M := 264) (by decide) 137) (Nat.le_of_ble_eq_true rfl) (Nat.le_of_ble_eq_true rfl) (show 4 ≤ am_P0.2.2.1 239 from by decide +kernel) rfl (am_recv_ok hS829.fs) rfl rfl (ct_keep (d := (d + 6)) hS829 hR835_  (by show (0 : Int) ≤ (f 20).toInt; omega) (by show (f 20).toInt ≤ (16383 : Int); omega)) ?_
                rintro v836 S837 (⟨z838, g'839, hv840, hS841, hR844, h842, h843⟩)
                subst hv840
                have h842_ : z838.toInt = (f 20).toInt + 1 := h842
                have h843_ : ∀ j, j ∉ [21, 22, 23] → g'839 j = g'826 j := h843
                replace hS841 : MS S0 S837 (upd (upd (upd (upd (upd f 8 a817) 9 b818) 20 z838) 62 o824) 75 m825) g'839 := hS841
                have hR844_ : RJ (upd (upd (upd (upd (upd f 8 a817) 9 b818) 20 z838) 62 o824) 75 m825) g'839 gs bc [] 0 [] := hR844
                show am_E _ _ _ _ [some (.ref 39), some (.int on), some (.int tw), some (.int (g 16 z0.toNatClampNeg)), some (.int r3), some (.int 1), some (.int (g 18 z0.toNatClampNeg)), some (.int r827)] [] _ _
                refine am_e18 hi_264_140 ?_
                refine am_e2 (v := 39) hi_264_175 rfl ?_
                refine am_e7 hi_264_176 ?_
                refine mm_20 (v := .int (f 15)) hS841 hi_264_177 rfl ?_
                refine am_e0 hi_264_180 ?_
                refine am_e10 (z := z0) hi_264_181 hz0 ?_
                refine mm_21 (v := z0) hS841 hi_264_182 rfl (Nat.le_of_ble_eq_true rfl) ms_15 ?_
                intro S845 hS846
                replace hS846 : MS S0 S845 (upd (upd (upd (upd (upd (upd f 8 a817) 9 b818) 15 z0) 20 z838) 62 o824) 75 m825) g'839 := hS846
                have hp847 : mj_n (g 16) (f 15).toNatClampNeg 3 = mj_n (g 16) z0.toNatClampNeg 3 + if (g 16 z0.toNatClampNeg).toInt = 3 then 1 else 0 := mj_pop (by rw [cl_toNat, cl_toNat]; omega)
                have hp8471 : mj_n (g 16) z0.toNatClampNeg 3 ≤ mj_n (g 16) (f 15).toNatClampNeg 3 := by rw [hp847]; split <;> omega
                have hp8472 : (g 16 z0.toNatClampNeg).toInt = 3 → mj_n (g 16) z0.toNatClampNeg 3 + 1 ≤ mj_n (g 16) (f 15).toNatClampNeg 3 := fun q => by rw [hp847, if_pos q]; exact Int.le_refl _
                refine am_e2 (v := 39) hi_264_185 rfl ?_
                refine am_e7 hi_264_186 ?_
                refine mm_20 (v := .int (f 4)) hS846 hi_264_187 rfl ?_
                refine am_e0 hi_264_190 ?_
                obtain ⟨z848, hz848, tz848⟩ := am_addI (x := f 4) (y := 1) (m := (f 4).toInt) (n := (1 : Int)) rfl (by decide) (by omega) (by omega)
                refine am_e10 (z := z848) hi_264_191 hz848 ?_
                refine mm_21 (v := z848) hS846 hi_264_192 rfl (Nat.le_of_ble_eq_true rfl) ms_4 ?_
                intro S849 hS850
                replace hS850 : MS S0 S849 (upd (upd (upd (upd (upd (upd (upd f 4 z848) 8 a817) 9 b818) 15 z0) 20 z838) 62 o824) 75 m825) g'839 := hS850
                have hR851 : RJ (upd (upd (upd (upd (upd (upd (upd f 4 z848) 8 a817) 9 b818) 15 z0) 20 z838) 62 o824) 75 m825) g'839 gs bc [] 0 [] := RJ.at hR844_ (by show (f 4).toInt ≤ z848.toInt; omega)
                refine am_e1 (v := r3) hi_264_195 rfl ?_
                refine am_e0 hi_264_197 ?_
                refine am_e13f hi_264_199 (am_cF (m := r3.toInt) (n := (69 : Int)) rfl (by decide) (by simp only [am_cI]; omega)) ?_
                refine am_e2 (v := 39) hi_264_202 rfl ?_
                refine am_e0 hi_264_203 ?_
                refine am_e1 (v := on) hi_264_205 rfl ?_
                refine am_e0 hi_264_206 ?_
                obtain ⟨z852, hz852, tz852⟩ := am_addI (x := on) (y := 1) (m := on.toInt) (n := (1 : Int)) rfl (by decide) (by omega) (by omega)
                refine am_e10 (z := z852) hi_264_207 hz852 ?_
                refine am_e1 (v := tw) hi_264_208 rfl ?_
                refine am_e0 hi_264_209 ?_
                refine am_e32n (as := [.ref 39, .int 21, .int z852, .int tw, .int 0]) (la := [some (.ref 39), some (.int 21), some (.int z852), some (.int tw), some (.int 0)]) (rest := []) hi_264_210 (am_hd0 (M := 264) (by decide) 210) (Nat.le_of_ble_eq_true rfl) (Nat.le_of_ble_eq_true rfl) (show 5 ≤ am_P0.2.2.1 179 from by decide +kernel) rfl (am_recv_ok hS850.fs) rfl rfl (ct_pile (d := (d + 6)) hS850 hR851 (mj_e_plain (by decide)) (by show (0 : Int) ≤ (f 10).toInt; omega) (by show (f 10).toInt ≤ (65535 : Int); omega)) ?_
                rintro v853 S854 (⟨z855, g'856, hv857, hS858, hR861, h859, h860⟩)
                subst hv857
                have h859_ : z855.toInt = (f 10).toInt + 1 := h859
                have h860_ : ∀ j, j ∉ [11, 12, 13, 14] → g'856 j = g'839 j := h860
                replace hS858 : MS S0 S854 (upd (upd (upd (upd (upd (upd (upd (upd f 4 z848) 8 a817) 9 b818) 10 z855) 15 z0) 20 z838) 62 o824) 75 m825) g'856 := hS858
                have hR861_ : RJ (upd (upd (upd (upd (upd (upd (upd (upd f 4 z848) 8 a817) 9 b818) 10 z855) 15 z0) 20 z838) 62 o824) 75 m825) g'856 (((21 : Int), z852.toInt, tw.toInt, (0 : Int), []) :: gs) bc [] 0 [] := hR861
                show am_E _ _ _ _ [some (.ref 39), some (.int on), some (.int tw), some (.int (g 16 z0.toNatClampNeg)), some (.int r3), some (.int 1), some (.int (g 18 z0.toNatClampNeg)), some (.int r827)] [] _ _
                refine am_e2 (v := 39) hi_264_213 rfl ?_
                refine am_e0 hi_264_214 ?_
                refine am_e0 hi_264_216 ?_
                refine am_e0 hi_264_217 ?_
                refine am_e0 hi_264_218 ?_
                refine am_e32n (as := [.ref 39, .int 28, .int 0, .int 0, .int 0]) (la := [some (.ref 39), some (.int 28), some (.int 0), some (.int 0), some (.int 0)]) (rest := []) hi_264_219 (am_hd0 (M := 264) (by decide) 219) (Nat.le_of_ble_eq_true rfl) (Nat.le_of_ble_eq_true rfl) (show 5 ≤ am_P0.2.2.1 179 from by decide +kernel) rfl (am_recv_ok hS858.fs) rfl rfl (ct_pile (d := (d + 6)) hS858 hR861_ (mj_e_plain (by decide)) (by show (0 : Int) ≤ z855.toInt; omega) (by show z855.toInt ≤ (65535 : Int); omega)) ?_
                rintro v862 S863 (⟨z864, g'865, hv866, hS867, hR870, h868, h869⟩)
                subst hv866
                have h868_ : z864.toInt = z855.toInt + 1 := h868
                have h869_ : ∀ j, j ∉ [11, 12, 13, 14] → g'865 j = g'856 j := h869
                replace hS867 : MS S0 S863 (upd (upd (upd (upd (upd (upd (upd (upd f 4 z848) 8 a817) 9 b818) 10 z864) 15 z0) 20 z838) 62 o824) 75 m825) g'865 := hS867
                have hR870_ : RJ (upd (upd (upd (upd (upd (upd (upd (upd f 4 z848) 8 a817) 9 b818) 10 z864) 15 z0) 20 z838) 62 o824) 75 m825) g'865 (((28 : Int), (0 : Int), (0 : Int), (0 : Int), []) :: (((21 : Int), z852.toInt, tw.toInt, (0 : Int), []) :: gs)) bc [] 0 [] := hR870
                show am_E _ _ _ _ [some (.ref 39), some (.int on), some (.int tw), some (.int (g 16 z0.toNatClampNeg)), some (.int r3), some (.int 1), some (.int (g 18 z0.toNatClampNeg)), some (.int r827)] [] _ _
                refine am_e2 (v := 39) hi_264_222 rfl ?_
                refine am_e32w (as := [.ref 39]) (la := [some (.ref 39)]) (rest := []) hi_264_223 (am_hd0 (M := 264) (by decide) 223) (Nat.le_of_ble_eq_true rfl) (Nat.le_of_ble_eq_true rfl) (show 1 ≤ am_P0.2.2.1 201 from by decide +kernel) rfl (am_recv_ok hS867.fs) rfl rfl ?_
                refine am_e2 (v := 39) hi_201_0 rfl ?_
                refine am_e32n (as := [.ref 39]) (la := [some (.ref 39)]) (rest := []) hi_201_1 (am_hd0 (M := 201) (by decide) 1) (Nat.le_of_ble_eq_true rfl) (Nat.le_of_ble_eq_true rfl) (show 1 ≤ am_P0.2.2.1 183 from by decide +kernel) rfl (am_recv_ok hS867.fs) rfl rfl (ct_next (d := (d + 4)) hS867   (by show (0 : Int) ≤ z848.toInt; omega) (by show (f 0).toInt ≤ (16384 : Int); omega)) ?_
                rintro v871 S872 (⟨r873, hv874, hS875, h876⟩)
                subst hv874
                have h876_ : z848.toInt < (f 0).toInt ∨ r873.toInt = (-1 : Int) := h876
                show am_E _ _ _ _ [some (.ref 39)] [.int r873] _ _
                refine am_e0 hi_201_4 ?_
                by_cases c878 : ¬ r873.toInt = (1 : Int)
                · refine am_e13t hi_201_5 (am_cT (m := r873.toInt) (n := (1 : Int)) rfl (by decide) c878) ?_
                  refine am_e2 (v := 39) hi_201_31 rfl ?_
                  refine am_e0 hi_201_32 ?_
                  refine am_e32n (as := [.ref 39, .int 60]) (la := [some (.ref 39), some (.int 60)]) (rest := []) hi_201_34 (am_hd0 (M := 201) (by decide) 34) (Nat.le_of_ble_eq_true rfl) (Nat.le_of_ble_eq_true rfl) (show 2 ≤ am_P0.2.2.1 193 from by decide +kernel) rfl (am_recv_ok hS875.fs) rfl rfl (ct_enter (d := (d + 3)) hS875   (by show (0 : Int) ≤ z848.toInt; omega) (by show (f 0).toInt ≤ (16384 : Int); omega) (by show (0 : Int) ≤ (60 : Int); omega) (by show (0 : Int) ≤ (f 5).toInt; omega) (by show (f 5).toInt ≤ (48 : Int); omega)) ?_
                  rintro v879 S880 (⟨z881, y882, hv883, hS884, h885, h886, h887, h888⟩ | ⟨a890, b891, hv892, hS893⟩)
                  · subst hv883
                    have h885_ : z881.toInt = z848.toInt + 1 := h885
                    have h886_ : z848.toInt < (f 0).toInt := h886
                    have h887_ : y882.toInt = (f 5).toInt + 1 := h887
                    have h888_ : y882.toInt ≤ (48 : Int) := h888
                    replace hS884 : MS S0 S880 (upd (upd (upd (upd (upd (upd (upd (upd (upd f 4 z881) 5 y882) 8 a817) 9 b818) 10 z864) 15 z0) 20 z838) 62 o824) 75 m825) g'865 := hS884
                    have hR895 : RJ (upd (upd (upd (upd (upd (upd (upd (upd (upd f 4 z881) 5 y882) 8 a817) 9 b818) 10 z864) 15 z0) 20 z838) 62 o824) 75 m825) g'865 (((28 : Int), (0 : Int), (0 : Int), (0 : Int), []) :: (((21 : Int), z852.toInt, tw.toInt, (0 : Int), []) :: gs)) bc [] 0 [] := RJ.at hR870_ (by show z848.toInt ≤ z881.toInt; omega)
                    show am_E _ _ _ _ [some (.ref 39)] [.int 1] _ _
                    refine am_e12f hi_201_37 (by decide) ?_
                    refine am_e2 (v := 39) hi_201_40 rfl ?_
                    refine am_e0 hi_201_41 ?_
                    refine am_e0 hi_201_43 ?_
                    refine am_e0 hi_201_44 ?_
                    refine am_e0 hi_201_45 ?_
                    refine am_e32n (as := [.ref 39, .int 29, .int 0, .int 0, .int 0]) (la := [some (.ref 39), some (.int 29), some (.int 0), some (.int 0), some (.int 0)]) (rest := []) hi_201_46 (am_hd0 (M := 201) (by decide) 46) (Nat.le_of_ble_eq_true rfl) (Nat.le_of_ble_eq_true rfl) (show 5 ≤ am_P0.2.2.1 179 from by decide +kernel) rfl (am_recv_ok hS884.fs) rfl rfl (ct_pile (d := (d + 5)) hS884 hR895 (mj_e_plain (by decide)) (by show (0 : Int) ≤ z864.toInt; omega) (by show z864.toInt ≤ (65535 : Int); omega)) ?_
                    rintro v896 S897 (⟨z898, g'899, hv900, hS901, hR904, h902, h903⟩)
                    subst hv900
                    have h902_ : z898.toInt = z864.toInt + 1 := h902
                    have h903_ : ∀ j, j ∉ [11, 12, 13, 14] → g'899 j = g'865 j := h903
                    replace hS901 : MS S0 S897 (upd (upd (upd (upd (upd (upd (upd (upd (upd f 4 z881) 5 y882) 8 a817) 9 b818) 10 z898) 15 z0) 20 z838) 62 o824) 75 m825) g'899 := hS901
                    have hR904_ : RJ (upd (upd (upd (upd (upd (upd (upd (upd (upd f 4 z881) 5 y882) 8 a817) 9 b818) 10 z898) 15 z0) 20 z838) 62 o824) 75 m825) g'899 (((29 : Int), (0 : Int), (0 : Int), (0 : Int), []) :: (((28 : Int), (0 : Int), (0 : Int), (0 : Int), []) :: (((21 : Int), z852.toInt, tw.toInt, (0 : Int), []) :: gs))) bc [] 0 [] := hR904
                    show am_E _ _ _ _ [some (.ref 39)] [] _ _
                    refine am_e2 (v := 39) hi_201_49 rfl ?_
                    refine am_e0 hi_201_50 ?_
                    refine am_e32w (as := [.ref 39, .int 0]) (la := [some (.ref 39), some (.int 0)]) (rest := []) hi_201_51 (am_hd0 (M := 201) (by decide) 51) (Nat.le_of_ble_eq_true rfl) (Nat.le_of_ble_eq_true rfl) (show 2 ≤ am_P0.2.2.1 186 from by decide +kernel) rfl (am_recv_ok hS901.fs) rfl rfl ?_
                    refine am_e2 (v := 39) hi_186_0 rfl ?_
                    refine am_e0 hi_186_1 ?_
                    refine am_e1 (v := 0) hi_186_3 rfl ?_
                    refine am_e0 hi_186_4 ?_
                    refine am_e0 hi_186_5 ?_
                    refine am_e32n (as := [.ref 39, .int 23, .int 0, .int 0, .int 0]) (la := [some (.ref 39), some (.int 23), some (.int 0), some (.int 0), some (.int 0)]) (rest := []) hi_186_6 (am_hd0 (M := 186) (by decide) 6) (Nat.le_of_ble_eq_true rfl) (Nat.le_of_ble_eq_true rfl) (show 5 ≤ am_P0.2.2.1 179 from by decide +kernel) rfl (am_recv_ok hS901.fs) rfl rfl (ct_pile (d := (d + 4)) hS901 hR904_ (mj_e_plain (by decide)) (by show (0 : Int) ≤ z898.toInt; omega) (by show z898.toInt ≤ (65535 : Int); omega)) ?_
                    rintro v905 S906 (⟨z907, g'908, hv909, hS910, hR913, h911, h912⟩)
                    subst hv909
                    have h911_ : z907.toInt = z898.toInt + 1 := h911
                    have h912_ : ∀ j, j ∉ [11, 12, 13, 14] → g'908 j = g'899 j := h912
                    replace hS910 : MS S0 S906 (upd (upd (upd (upd (upd (upd (upd (upd (upd f 4 z881) 5 y882) 8 a817) 9 b818) 10 z907) 15 z0) 20 z838) 62 o824) 75 m825) g'908 := hS910
                    have hR913_ : RJ (upd (upd (upd (upd (upd (upd (upd (upd (upd f 4 z881) 5 y882) 8 a817) 9 b818) 10 z907) 15 z0) 20 z838) 62 o824) 75 m825) g'908 (((23 : Int), (0 : Int), (0 : Int), (0 : Int), []) :: (((29 : Int), (0 : Int), (0 : Int), (0 : Int), []) :: (((28 : Int), (0 : Int), (0 : Int), (0 : Int), []) :: (((21 : Int), z852.toInt, tw.toInt, (0 : Int), []) :: gs)))) bc [] 0 [] := hR913
                    show am_E _ _ _ _ [some (.ref 39), some (.int 0)] [] _ _
                    refine am_e35 hi_186_9 ?_
                    show am_E _ _ _ _ [some (.ref 39)] [] _ _
                    refine am_e35 hi_201_54 ?_
                    show am_E _ _ _ _ [some (.ref 39), some (.int on), some (.int tw), some (.int (g 16 z0.toNatClampNeg)), some (.int r3), some (.int 1), some (.int (g 18 z0.toNatClampNeg)), some (.int r827)] [] _ _
                    refine am_e18 hi_264_226 ?_
                    refine am_e35 hi_264_244 ?_
                    show am_E _ _ _ _ [some (.ref 39), some (.int 21), some (.int on), some (.int tw), some (.int th)] [] _ _
                    refine am_e18 hi_180_362 ?_
                    refine am_e35 hi_180_371 ?_
                    have q1 : mg_p1 (((23 : Int), (0 : Int), (0 : Int), (0 : Int), []) :: (((29 : Int), (0 : Int), (0 : Int), (0 : Int), []) :: (((28 : Int), (0 : Int), (0 : Int), (0 : Int), []) :: (((21 : Int), z852.toInt, tw.toInt, (0 : Int), []) :: gs)))) = 0 + (0 + (0 + (0 + (mg_p1 gs)))) := rfl
                    have q2 : mg_p2 (((23 : Int), (0 : Int), (0 : Int), (0 : Int), []) :: (((29 : Int), (0 : Int), (0 : Int), (0 : Int), []) :: (((28 : Int), (0 : Int), (0 : Int), (0 : Int), []) :: (((21 : Int), z852.toInt, tw.toInt, (0 : Int), []) :: gs)))) = 0 + (0 + (0 + (0 + (mg_p2 gs)))) := rfl
                    have q3 : mg_p3 (((23 : Int), (0 : Int), (0 : Int), (0 : Int), []) :: (((29 : Int), (0 : Int), (0 : Int), (0 : Int), []) :: (((28 : Int), (0 : Int), (0 : Int), (0 : Int), []) :: (((21 : Int), z852.toInt, tw.toInt, (0 : Int), []) :: gs)))) = 1 + (1 + (1 + (1 + (mg_p3 gs)))) := rfl
                    have q4 : mg_p4 (((23 : Int), (0 : Int), (0 : Int), (0 : Int), []) :: (((29 : Int), (0 : Int), (0 : Int), (0 : Int), []) :: (((28 : Int), (0 : Int), (0 : Int), (0 : Int), []) :: (((21 : Int), z852.toInt, tw.toInt, (0 : Int), []) :: gs)))) = 0 + (0 + (0 + (0 + (mg_p4 gs)))) := rfl
                    refine ⟨_, _, _, bc, rfl, hS910, Or.inl ⟨⟨hR913_, ?_, ?_⟩, rfl, ?_⟩⟩
                    · exact (⟨⟨(show (0 : Int) ≤ 23 from by decide), (show (0 : Int) ≤ z0.toInt from by omega), (show 0 ≤ z838.toInt from by omega), (show 1 ≤ (f 37).toInt from by omega), (show 0 ≤ (f 32).toInt from by omega), (show (f 32).toInt ≤ y882.toInt from by omega), (show y882.toInt ≤ 48 from by omega), (show (f 37).toInt ≤ 2 * (y882.toInt) + 2 from by omega), (show 0 ≤ (0 : Int) from by omega)⟩, ⟨⟨(show (0 : Int) ≤ 29 from by decide), (show (1 : Int) ≤ z0.toInt + 1 from by omega), (show 0 ≤ z838.toInt from by omega), (show 1 ≤ (f 37).toInt + 0 from by omega), (show 0 ≤ (f 32).toInt + 0 from by omega), (show (f 32).toInt + 0 ≤ y882.toInt + 0 from by omega), (show y882.toInt + 0 ≤ 48 from by omega), (show (f 37).toInt + 0 ≤ 2 * (y882.toInt + 0) + 2 from by omega), trivial⟩, ⟨⟨(show (0 : Int) ≤ 28 from by decide), (show (1 : Int) ≤ z0.toInt + 1 + 0 from by omega), (show 0 ≤ z838.toInt from by omega), (show 1 ≤ (f 37).toInt + 0 + 0 from by omega), (show 0 ≤ (f 32).toInt + 0 + 0 from by omega), (show (f 32).toInt + 0 + 0 ≤ y882.toInt + 0 + -1 from by omega), (show y882.toInt + 0 + -1 ≤ 48 from by omega), (show (f 37).toInt + 0 + 0 ≤ 2 * (y882.toInt + 0 + -1) + 2 from by omega), trivial⟩, ⟨⟨(show (0 : Int) ≤ 21 from by decide), (show (1 : Int) ≤ z0.toInt + 1 + 0 + 0 from by omega), (show 0 ≤ z838.toInt from by omega), (show 1 ≤ (f 37).toInt + 0 + 0 + 0 from by omega), (show 0 ≤ (f 32).toInt + 0 + 0 + 0 from by omega), (show (f 32).toInt + 0 + 0 + 0 ≤ y882.toInt + 0 + -1 + 0 from by omega), (show y882.toInt + 0 + -1 + 0 ≤ 48 from by omega), (show (f 37).toInt + 0 + 0 + 0 ≤ 2 * (y882.toInt + 0 + -1 + 0) + 1 from by omega), ⟨(show 0 ≤ z852.toInt from by omega), (show 0 ≤ tw.toInt from by omega), (show z838.toInt = tw.toInt + z852.toInt from by omega)⟩⟩, mg_cast (mg_good_ext _ _ _ _ _ _ (fun i _ => by show g'908 34 i = g 34 i; rw [show g'908 34 = g'899 34 from h912_ 34 (by decide), show g'899 34 = g'865 34 from h903_ 34 (by decide), show g'865 34 = g'856 34 from h869_ 34 (by decide), show g'856 34 = g'839 34 from h860_ 34 (by decide), show g'839 34 = g'826 34 from h843_ 34 (by decide), show g'826 34 = g 34 from h834_ 34 (by decide)]) (fun i _ => by show g'908 38 i = g 38 i; rw [show g'908 38 = g'899 38 from h912_ 38 (by decide), show g'899 38 = g'865 38 from h903_ 38 (by decide), show g'865 38 = g'856 38 from h869_ 38 (by decide), show g'856 38 = g'839 38 from h860_ 38 (by decide), show g'839 38 = g'826 38 from h843_ 38 (by decide), show g'826 38 = g 38 from h834_ 38 (by decide)]) hrest) (by show (f 15).toInt + -1 = z0.toInt + 1 + 0 + 0 + -1; omega) (by show tw.toInt = tw.toInt; omega) (by show (f 37).toInt + 0 = (f 37).toInt + 0 + 0 + 0 + 0; omega) (by show (f 32).toInt + 0 = (f 32).toInt + 0 + 0 + 0 + 0; omega) (by show (f 5).toInt + 0 = y882.toInt + 0 + -1 + 0 + 0; omega)⟩⟩⟩⟩ : mg_good (g'908 34) (g'908 38) (((23 : Int), (0 : Int), (0 : Int), (0 : Int), []) :: (((29 : Int), (0 : Int), (0 : Int), (0 : Int), []) :: (((28 : Int), (0 : Int), (0 : Int), (0 : Int), []) :: (((21 : Int), z852.toInt, tw.toInt, (0 : Int), []) :: gs)))) (z0.toInt) (z838.toInt) ((f 37).toInt) ((f 32).toInt) (y882.toInt))
                    · exact ⟨(by show 0 ≤ z881.toInt; omega), (by show z881.toInt ≤ (f 0).toInt; omega), (by show (f 0).toInt ≤ 512; omega), (by show 0 ≤ (f 24).toInt; omega), (by show (f 24).toInt + z838.toInt + mg_p1 (((23 : Int), (0 : Int), (0 : Int), (0 : Int), []) :: (((29 : Int), (0 : Int), (0 : Int), (0 : Int), []) :: (((28 : Int), (0 : Int), (0 : Int), (0 : Int), []) :: (((21 : Int), z852.toInt, tw.toInt, (0 : Int), []) :: gs)))) ≤ 4 * z881.toInt; omega), (by show z838.toInt ≤ z881.toInt; omega), (by show z0.toInt + mg_p2 (((23 : Int), (0 : Int), (0 : Int), (0 : Int), []) :: (((29 : Int), (0 : Int), (0 : Int), (0 : Int), []) :: (((28 : Int), (0 : Int), (0 : Int), (0 : Int), []) :: (((21 : Int), z852.toInt, tw.toInt, (0 : Int), []) :: gs)))) ≤ z881.toInt; omega), (by show mg_p3 (((23 : Int), (0 : Int), (0 : Int), (0 : Int), []) :: (((29 : Int), (0 : Int), (0 : Int), (0 : Int), []) :: (((28 : Int), (0 : Int), (0 : Int), (0 : Int), []) :: (((21 : Int), z852.toInt, tw.toInt, (0 : Int), []) :: gs)))) ≤ 20 * z881.toInt + 20; omega), (by show 0 ≤ (f 68).toInt; omega), (by show (f 68).toInt + 3 * z838.toInt + mg_p4 (((23 : Int), (0 : Int), (0 : Int), (0 : Int), []) :: (((29 : Int), (0 : Int), (0 : Int), (0 : Int), []) :: (((28 : Int), (0 : Int), (0 : Int), (0 : Int), []) :: (((21 : Int), z852.toInt, tw.toInt, (0 : Int), []) :: gs)))) ≤ 60 * z881.toInt + 60; omega), (by show 0 ≤ o824.toInt; omega), (by show o824.toInt + 64 * mj_n (g'908 16) z0.toNatClampNeg 3 ≤ 64 * z881.toInt; rw [show g'908 16 = g'899 16 from h912_ 16 (by decide), show g'899 16 = g'865 16 from h903_ 16 (by decide), show g'865 16 = g'856 16 from h869_ 16 (by decide), show g'856 16 = g'839 16 from h860_ 16 (by decide), show g'839 16 = g'826 16 from h843_ 16 (by decide), show g'826 16 = g 16 from h834_ 16 (by decide)]; omega), (by show 0 ≤ (f 44).toInt; omega), (by show (f 44).toInt ≤ z881.toInt; omega), (by show 0 ≤ (f 48).toInt; omega), (by show (f 48).toInt ≤ z881.toInt; omega), (by show 1 ≤ (f 53).toInt; omega), (by show (f 53).toInt ≤ z881.toInt + 1; omega)⟩
                    · show 100 * ((f 0).toInt - z881.toInt) + mg_p3 (((23 : Int), (0 : Int), (0 : Int), (0 : Int), []) :: (((29 : Int), (0 : Int), (0 : Int), (0 : Int), []) :: (((28 : Int), (0 : Int), (0 : Int), (0 : Int), []) :: (((21 : Int), z852.toInt, tw.toInt, (0 : Int), []) :: gs)))) < 100 * ((f 0).toInt - (f 4).toInt) + (1 + mg_p3 gs); omega
                  · subst hv892
                    replace hS893 : MS S0 S880 (upd (upd (upd (upd (upd (upd (upd (upd (upd (upd f 4 z848) 6 a890) 7 b891) 8 a817) 9 b818) 10 0) 15 z0) 20 z838) 62 o824) 75 m825) g'865 := hS893
                    have hR914 := rj_clear0 hR870_
                    have hR915 : RJ (upd (upd (upd (upd (upd (upd (upd (upd (upd (upd f 4 z848) 6 a890) 7 b891) 8 a817) 9 b818) 10 0) 15 z0) 20 z838) 62 o824) 75 m825) g'865 [] bc [] 0 [] := hR914
                    show am_E _ _ _ _ [some (.ref 39)] [.int 0] _ _
                    refine am_e12t hi_201_37 (by decide) ?_
                    refine am_e35 hi_201_54 ?_
                    show am_E _ _ _ _ [some (.ref 39), some (.int on), some (.int tw), some (.int (g 16 z0.toNatClampNeg)), some (.int r3), some (.int 1), some (.int (g 18 z0.toNatClampNeg)), some (.int r827)] [] _ _
                    refine am_e18 hi_264_226 ?_
                    refine am_e35 hi_264_244 ?_
                    show am_E _ _ _ _ [some (.ref 39), some (.int 21), some (.int on), some (.int tw), some (.int th)] [] _ _
                    refine am_e18 hi_180_362 ?_
                    refine am_e35 hi_180_371 ?_
                    have hRc := rj_clear0 hR915
                    refine ⟨_, _, [], _, rfl, hS893, Or.inr ⟨hRc, rfl, (by show 0 ≤ z848.toInt; omega), (by show z848.toInt ≤ (f 0).toInt; omega), (by show 0 ≤ (f 32).toInt; omega), (by show (f 32).toInt ≤ 63; omega), (by show 1 ≤ (f 53).toInt; omega), (by show (f 53).toInt ≤ 600; omega), (by show 0 ≤ (f 68).toInt; omega), (by show (f 68).toInt ≤ 60000; omega), (by show 0 ≤ (f 48).toInt; omega), (by show (f 48).toInt ≤ 8000; omega), (by show 0 ≤ (f 37).toInt; omega), (by show (f 37).toInt ≤ 128; omega), (by show 0 ≤ o824.toInt; omega), (by show o824.toInt ≤ 65000; omega)⟩⟩
                · refine am_e13f hi_201_5 (am_cF (m := r873.toInt) (n := (1 : Int)) rfl (by decide) c878) ?_
                  refine am_e2 (v := 39) hi_201_8 rfl ?_
                  refine am_e0 hi_201_9 ?_
                  refine am_e0 hi_201_10 ?_
                  refine am_e2 (v := 39) hi_201_11 rfl ?_
                  refine mm_20 (v := .int z848) hS875 hi_201_12 rfl ?_
                  refine am_e32n (as := [.ref 39, .int 3, .int 0, .int z848]) (la := [some (.ref 39), some (.int 3), some (.int 0), some (.int z848)]) (rest := []) hi_201_15 (am_hd0 (M := 201) (by decide) 15) (Nat.le_of_ble_eq_true rfl) (Nat.le_of_ble_eq_true rfl) (show 4 ≤ am_P0.2.2.1 190 from by decide +kernel) rfl (am_recv_ok hS875.fs) rfl rfl (ct_value (d := (d + 5)) hS875 hR870_ (fun _ => ⟨by omega, by omega⟩) (fun h => absurd h (by decide)) (by show (0 : Int) ≤ z0.toInt; omega) (by show z0.toInt ≤ (32767 : Int); omega)) ?_
                  rintro v916 S917 (⟨z918, g'919, hv920, hS921, hR926, h922, h923, h924, h925⟩)
                  subst hv920
                  have h922_ : z918.toInt = z0.toInt + 1 := h922
                  have h923_ : ∀ j, j ∉ [16, 17, 18] → g'919 j = g'865 j := h923
                  have h924_ : mj_n (g'919 16) z918.toNatClampNeg 3 ≤ mj_n (g 16) z0.toNatClampNeg 3 + 1 := by rw [show g'865 16 = g'856 16 from h869_ 16 (by decide), show g'856 16 = g'839 16 from h860_ 16 (by decide), show g'839 16 = g'826 16 from h843_ 16 (by decide), show g'826 16 = g 16 from h834_ 16 (by decide)] at h924; exact h924
                  have h925_ : (3 : Int) = 3 ∨ mj_n (g'919 16) z918.toNatClampNeg 3 ≤ mj_n (g 16) z0.toNatClampNeg 3 := by rw [show g'865 16 = g'856 16 from h869_ 16 (by decide), show g'856 16 = g'839 16 from h860_ 16 (by decide), show g'839 16 = g'826 16 from h843_ 16 (by decide), show g'826 16 = g 16 from h834_ 16 (by decide)] at h925; exact h925
                  replace hS921 : MS S0 S917 (upd (upd (upd (upd (upd (upd (upd (upd f 4 z848) 8 a817) 9 b818) 10 z864) 15 z918) 20 z838) 62 o824) 75 m825) g'919 := hS921
                  have hR926_ : RJ (upd (upd (upd (upd (upd (upd (upd (upd f 4 z848) 8 a817) 9 b818) 10 z864) 15 z918) 20 z838) 62 o824) 75 m825) g'919 (((28 : Int), (0 : Int), (0 : Int), (0 : Int), []) :: (((21 : Int), z852.toInt, tw.toInt, (0 : Int), []) :: gs)) bc [] 0 [] := hR926
                  show am_E _ _ _ _ [some (.ref 39)] [] _ _
                  refine am_e2 (v := 39) hi_201_18 rfl ?_
                  refine am_e7 hi_201_19 ?_
                  refine mm_20 (v := .int z848) hS921 hi_201_20 rfl ?_
                  refine am_e0 hi_201_23 ?_
                  obtain ⟨z927, hz927, tz927⟩ := am_addI (x := z848) (y := 1) (m := z848.toInt) (n := (1 : Int)) rfl (by decide) (by omega) (by omega)
                  refine am_e10 (z := z927) hi_201_24 hz927 ?_
                  refine mm_21 (v := z927) hS921 hi_201_25 rfl (Nat.le_of_ble_eq_true rfl) ms_4 ?_
                  intro S928 hS929
                  replace hS929 : MS S0 S928 (upd (upd (upd (upd (upd (upd (upd (upd f 4 z927) 8 a817) 9 b818) 10 z864) 15 z918) 20 z838) 62 o824) 75 m825) g'919 := hS929
                  have hR930 : RJ (upd (upd (upd (upd (upd (upd (upd (upd f 4 z927) 8 a817) 9 b818) 10 z864) 15 z918) 20 z838) 62 o824) 75 m825) g'919 (((28 : Int), (0 : Int), (0 : Int), (0 : Int), []) :: (((21 : Int), z852.toInt, tw.toInt, (0 : Int), []) :: gs)) bc [] 0 [] := RJ.at hR926_ (by show z848.toInt ≤ z927.toInt; omega)
                  refine am_e18 hi_201_28 ?_
                  refine am_e35 hi_201_54 ?_
                  show am_E _ _ _ _ [some (.ref 39), some (.int on), some (.int tw), some (.int (g 16 z0.toNatClampNeg)), some (.int r3), some (.int 1), some (.int (g 18 z0.toNatClampNeg)), some (.int r827)] [] _ _
                  refine am_e18 hi_264_226 ?_
                  refine am_e35 hi_264_244 ?_
                  show am_E _ _ _ _ [some (.ref 39), some (.int 21), some (.int on), some (.int tw), some (.int th)] [] _ _
                  refine am_e18 hi_180_362 ?_
                  refine am_e35 hi_180_371 ?_
                  have q1 : mg_p1 (((28 : Int), (0 : Int), (0 : Int), (0 : Int), []) :: (((21 : Int), z852.toInt, tw.toInt, (0 : Int), []) :: gs)) = 0 + (0 + (mg_p1 gs)) := rfl
                  have q2 : mg_p2 (((28 : Int), (0 : Int), (0 : Int), (0 : Int), []) :: (((21 : Int), z852.toInt, tw.toInt, (0 : Int), []) :: gs)) = 0 + (0 + (mg_p2 gs)) := rfl
                  have q3 : mg_p3 (((28 : Int), (0 : Int), (0 : Int), (0 : Int), []) :: (((21 : Int), z852.toInt, tw.toInt, (0 : Int), []) :: gs)) = 1 + (1 + (mg_p3 gs)) := rfl
                  have q4 : mg_p4 (((28 : Int), (0 : Int), (0 : Int), (0 : Int), []) :: (((21 : Int), z852.toInt, tw.toInt, (0 : Int), []) :: gs)) = 0 + (0 + (mg_p4 gs)) := rfl
                  refine ⟨_, _, _, bc, rfl, hS929, Or.inl ⟨⟨hR930, ?_, ?_⟩, rfl, ?_⟩⟩
                  · exact (⟨⟨(show (0 : Int) ≤ 28 from by decide), (show (1 : Int) ≤ z918.toInt from by omega), (show 0 ≤ z838.toInt from by omega), (show 1 ≤ (f 37).toInt from by omega), (show 0 ≤ (f 32).toInt from by omega), (show (f 32).toInt ≤ (f 5).toInt from by omega), (show (f 5).toInt ≤ 48 from by omega), (show (f 37).toInt ≤ 2 * ((f 5).toInt) + 2 from by omega), trivial⟩, ⟨⟨(show (0 : Int) ≤ 21 from by decide), (show (1 : Int) ≤ z918.toInt + 0 from by omega), (show 0 ≤ z838.toInt from by omega), (show 1 ≤ (f 37).toInt + 0 from by omega), (show 0 ≤ (f 32).toInt + 0 from by omega), (show (f 32).toInt + 0 ≤ (f 5).toInt + 0 from by omega), (show (f 5).toInt + 0 ≤ 48 from by omega), (show (f 37).toInt + 0 ≤ 2 * ((f 5).toInt + 0) + 1 from by omega), ⟨(show 0 ≤ z852.toInt from by omega), (show 0 ≤ tw.toInt from by omega), (show z838.toInt = tw.toInt + z852.toInt from by omega)⟩⟩, mg_cast (mg_good_ext _ _ _ _ _ _ (fun i _ => by show g'919 34 i = g 34 i; rw [show g'919 34 = g'865 34 from h923_ 34 (by decide), show g'865 34 = g'856 34 from h869_ 34 (by decide), show g'856 34 = g'839 34 from h860_ 34 (by decide), show g'839 34 = g'826 34 from h843_ 34 (by decide), show g'826 34 = g 34 from h834_ 34 (by decide)]) (fun i _ => by show g'919 38 i = g 38 i; rw [show g'919 38 = g'865 38 from h923_ 38 (by decide), show g'865 38 = g'856 38 from h869_ 38 (by decide), show g'856 38 = g'839 38 from h860_ 38 (by decide), show g'839 38 = g'826 38 from h843_ 38 (by decide), show g'826 38 = g 38 from h834_ 38 (by decide)]) hrest) (by show (f 15).toInt + -1 = z918.toInt + 0 + -1; omega) (by show tw.toInt = tw.toInt; omega) (by show (f 37).toInt + 0 = (f 37).toInt + 0 + 0; omega) (by show (f 32).toInt + 0 = (f 32).toInt + 0 + 0; omega) (by show (f 5).toInt + 0 = (f 5).toInt + 0 + 0; omega)⟩⟩ : mg_good (g'919 34) (g'919 38) (((28 : Int), (0 : Int), (0 : Int), (0 : Int), []) :: (((21 : Int), z852.toInt, tw.toInt, (0 : Int), []) :: gs)) (z918.toInt) (z838.toInt) ((f 37).toInt) ((f 32).toInt) ((f 5).toInt))
                  · exact ⟨(by show 0 ≤ z927.toInt; omega), (by show z927.toInt ≤ (f 0).toInt; omega), (by show (f 0).toInt ≤ 512; omega), (by show 0 ≤ (f 24).toInt; omega), (by show (f 24).toInt + z838.toInt + mg_p1 (((28 : Int), (0 : Int), (0 : Int), (0 : Int), []) :: (((21 : Int), z852.toInt, tw.toInt, (0 : Int), []) :: gs)) ≤ 4 * z927.toInt; omega), (by show z838.toInt ≤ z927.toInt; omega), (by show z918.toInt + mg_p2 (((28 : Int), (0 : Int), (0 : Int), (0 : Int), []) :: (((21 : Int), z852.toInt, tw.toInt, (0 : Int), []) :: gs)) ≤ z927.toInt; omega), (by show mg_p3 (((28 : Int), (0 : Int), (0 : Int), (0 : Int), []) :: (((21 : Int), z852.toInt, tw.toInt, (0 : Int), []) :: gs)) ≤ 20 * z927.toInt + 20; omega), (by show 0 ≤ (f 68).toInt; omega), (by show (f 68).toInt + 3 * z838.toInt + mg_p4 (((28 : Int), (0 : Int), (0 : Int), (0 : Int), []) :: (((21 : Int), z852.toInt, tw.toInt, (0 : Int), []) :: gs)) ≤ 60 * z927.toInt + 60; omega), (by show 0 ≤ o824.toInt; omega), (by show o824.toInt + 64 * mj_n (g'919 16) z918.toNatClampNeg 3 ≤ 64 * z927.toInt; omega), (by show 0 ≤ (f 44).toInt; omega), (by show (f 44).toInt ≤ z927.toInt; omega), (by show 0 ≤ (f 48).toInt; omega), (by show (f 48).toInt ≤ z927.toInt; omega), (by show 1 ≤ (f 53).toInt; omega), (by show (f 53).toInt ≤ z927.toInt + 1; omega)⟩
                  · show 100 * ((f 0).toInt - z927.toInt) + mg_p3 (((28 : Int), (0 : Int), (0 : Int), (0 : Int), []) :: (((21 : Int), z852.toInt, tw.toInt, (0 : Int), []) :: gs)) < 100 * ((f 0).toInt - (f 4).toInt) + (1 + mg_p3 gs); omega
      · refine am_e13f hi_264_41 (am_cF (m := (g 16 z0.toNatClampNeg).toInt) (n := (1 : Int)) rfl (by decide) c371) ?_
        refine am_e1 (v := on) hi_264_44 rfl ?_
        by_cases c931 : ¬ on.toInt = (0 : Int)
        · refine am_e12t hi_264_45 (am_cT (m := on.toInt) (n := (0 : Int)) rfl (by decide) c931) ?_
          refine am_e1 (v := g 16 z0.toNatClampNeg) hi_264_84 rfl ?_
          refine am_e0 hi_264_85 ?_
          refine am_e13t hi_264_86 (am_cT (m := (g 16 z0.toNatClampNeg).toInt) (n := (3 : Int)) rfl (by decide) (by simp only [am_cI]; omega)) ?_
          refine am_e2 (v := 39) hi_264_94 rfl ?_
          refine am_e0 hi_264_95 ?_
          refine am_e32n (as := [.ref 39, .int 7]) (la := [some (.ref 39), some (.int 7)]) (rest := []) hi_264_97 (am_hd0 (M := 264) (by decide) 97) (Nat.le_of_ble_eq_true rfl) (Nat.le_of_ble_eq_true rfl) (show 2 ≤ am_P0.2.2.1 194 from by decide +kernel) rfl (am_recv_ok hS5.fs) rfl rfl (ct_fail (d := (d + 6)) hS5   ) ?_
          rintro v932 S933 (⟨a934, b935, hv936, hS937⟩)
          subst hv936
          have hR939 := rj_clear0 hR
          have hR940 : RJ (upd (upd (upd f 6 a934) 7 b935) 10 0) g [] bc [] 0 [] := hR939
          show am_E _ _ _ _ [some (.ref 39), some (.int on), some (.int tw), some (.int (g 16 z0.toNatClampNeg)), some (.int r3), some (.int 1), none, none] [.int 0] _ _
          refine am_e6i hi_264_100 ?_
          refine am_e35 hi_264_101 ?_
          show am_E _ _ _ _ [some (.ref 39), some (.int 21), some (.int on), some (.int tw), some (.int th)] [] _ _
          refine am_e18 hi_180_362 ?_
          refine am_e35 hi_180_371 ?_
          have hRc := rj_clear0 hR940
          refine ⟨_, _, [], _, rfl, hS937, Or.inr ⟨hRc, rfl, (by show 0 ≤ (f 4).toInt; omega), (by show (f 4).toInt ≤ (f 0).toInt; omega), (by show 0 ≤ (f 32).toInt; omega), (by show (f 32).toInt ≤ 63; omega), (by show 1 ≤ (f 53).toInt; omega), (by show (f 53).toInt ≤ 600; omega), (by show 0 ≤ (f 68).toInt; omega), (by show (f 68).toInt ≤ 60000; omega), (by show 0 ≤ (f 48).toInt; omega), (by show (f 48).toInt ≤ 8000; omega), (by show 0 ≤ (f 37).toInt; omega), (by show (f 37).toInt ≤ 128; omega), (by show 0 ≤ (f 62).toInt; omega), (by show (f 62).toInt ≤ 65000; omega)⟩⟩
        · refine am_e12f hi_264_45 (am_cF (m := on.toInt) (n := (0 : Int)) rfl (by decide) c931) ?_
          refine am_e1 (v := 1) hi_264_48 rfl ?_
          refine am_e12t hi_264_50 (by decide) ?_
          refine am_e1 (v := g 16 z0.toNatClampNeg) hi_264_84 rfl ?_
          refine am_e0 hi_264_85 ?_
          refine am_e13t hi_264_86 (am_cT (m := (g 16 z0.toNatClampNeg).toInt) (n := (3 : Int)) rfl (by decide) (by simp only [am_cI]; omega)) ?_
          refine am_e2 (v := 39) hi_264_94 rfl ?_
          refine am_e0 hi_264_95 ?_
          refine am_e32n (as := [.ref 39, .int 7]) (la := [some (.ref 39), some (.int 7)]) (rest := []) hi_264_97 (am_hd0 (M := 264) (by decide) 97) (Nat.le_of_ble_eq_true rfl) (Nat.le_of_ble_eq_true rfl) (show 2 ≤ am_P0.2.2.1 194 from by decide +kernel) rfl (am_recv_ok hS5.fs) rfl rfl (ct_fail (d := (d + 6)) hS5   ) ?_
          rintro v941 S942 (⟨a943, b944, hv945, hS946⟩)
          subst hv945
          have hR948 := rj_clear0 hR
          have hR949 : RJ (upd (upd (upd f 6 a943) 7 b944) 10 0) g [] bc [] 0 [] := hR948
          show am_E _ _ _ _ [some (.ref 39), some (.int on), some (.int tw), some (.int (g 16 z0.toNatClampNeg)), some (.int r3), some (.int 1), none, none] [.int 0] _ _
          refine am_e6i hi_264_100 ?_
          refine am_e35 hi_264_101 ?_
          show am_E _ _ _ _ [some (.ref 39), some (.int 21), some (.int on), some (.int tw), some (.int th)] [] _ _
          refine am_e18 hi_180_362 ?_
          refine am_e35 hi_180_371 ?_
          have hRc := rj_clear0 hR949
          refine ⟨_, _, [], _, rfl, hS946, Or.inr ⟨hRc, rfl, (by show 0 ≤ (f 4).toInt; omega), (by show (f 4).toInt ≤ (f 0).toInt; omega), (by show 0 ≤ (f 32).toInt; omega), (by show (f 32).toInt ≤ 63; omega), (by show 1 ≤ (f 53).toInt; omega), (by show (f 53).toInt ≤ 600; omega), (by show 0 ≤ (f 68).toInt; omega), (by show (f 68).toInt ≤ 60000; omega), (by show 0 ≤ (f 48).toInt; omega), (by show (f 48).toInt ≤ 8000; omega), (by show 0 ≤ (f 37).toInt; omega), (by show (f 37).toInt ≤ 128; omega), (by show 0 ≤ (f 62).toInt; omega), (by show (f 62).toInt ≤ 65000; omega)⟩⟩
