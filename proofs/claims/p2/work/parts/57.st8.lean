/-! STEPS: targets (printed by wip/p2/st2.py) -/
set_option maxHeartbeats 16000000 in
theorem st_21 {sc : Nat × (Nat → Int32)} {d : Nat} {S0 S : am_S} {f : Nat → Int32} {g : Nat → Nat → Int32} {on : Int32} {tw : Int32} {th : Int32} {gs : List mg_E} {bc : List (List Nat)} (hS : MS S0 S f g) (hR : RJ f g gs bc [] 0 []) (hrest : mg_good (g 34) (g 38) (g 23) gs ((f 15).toInt + -1) (tw.toInt) ((f 37).toInt + 0) ((f 32).toInt + 0) ((f 5).toInt + 0)) (p0 : 0 ≤ (f 4).toInt) (p1 : (f 4).toInt ≤ (f 0).toInt) (p2 : (f 0).toInt ≤ 512) (p3 : 0 ≤ (f 24).toInt) (p4 : (f 24).toInt + (f 20).toInt + mg_p1 gs ≤ 4 * (f 4).toInt) (p5 : (f 20).toInt ≤ (f 4).toInt) (p6 : (f 15).toInt + 0 + mg_p2 gs ≤ (f 4).toInt) (p7 : 1 + mg_p3 gs ≤ 20 * (f 4).toInt + 20) (p8 : 0 ≤ (f 68).toInt) (p9 : (f 68).toInt + 3 * (f 20).toInt + 0 + mg_p4 gs ≤ 60 * (f 4).toInt + 60) (p10 : 0 ≤ (f 62).toInt) (p11 : (f 62).toInt + 64 * mj_n (g 16) (f 15).toNatClampNeg 3 ≤ 64 * (f 4).toInt) (p12 : 0 ≤ (f 44).toInt) (p13 : (f 44).toInt ≤ (f 4).toInt) (p14 : 0 ≤ (f 48).toInt) (p15 : (f 48).toInt ≤ (f 4).toInt) (p16 : 1 ≤ (f 53).toInt) (p17 : (f 53).toInt ≤ (f 4).toInt + 1) (p18 : 0 ≤ (f 19).toInt) (p19 : (f 19).toInt ≤ 600) (p20 : 0 ≤ mg_p1 gs) (p21 : 0 ≤ mg_p2 gs) (p22 : 0 ≤ mg_p4 gs) (p23 : 0 ≤ (f 10).toInt) (p24 : (f 10).toInt ≤ mg_p3 gs) (p25 : 0 ≤ mj_n (g 16) (f 15).toNatClampNeg 3) (p26 : 1 ≤ (f 15).toInt) (p27 : 0 ≤ (f 20).toInt) (p28 : 1 ≤ (f 37).toInt) (p29 : 0 ≤ (f 32).toInt) (p30 : (f 32).toInt ≤ (f 5).toInt) (p31 : (f 5).toInt ≤ 48) (p32 : (f 37).toInt ≤ 2 * (f 5).toInt + 1) (p33 : 0 ≤ on.toInt) (p34 : 0 ≤ tw.toInt) (p35 : (f 20).toInt = tw.toInt + on.toInt) : am_E (am_PP sc) (d + 8) 180 0 [some (.ref 39), some (.int 21), some (.int on), some (.int tw), some (.int th)] [] S (am_N fun v S1 => ∃ (f' : Nat → Int32) (g' : Nat → Nat → Int32) (gs' : List mg_E) (bc' : List (List Nat)), v = none ∧ MS S0 S1 f' g' ∧ (mg_on f (100 * ((f 0).toInt - (f 4).toInt) + (1 + mg_p3 gs)) f' g' gs' bc' ∨ mg_off f f' g' bc')) := by
  have hbs := mg_basic hrest
  refine am_e1 (v := 21) hi_180_0 rfl ?_
  refine am_e0 hi_180_1 ?_
  refine am_e13t hi_180_3 (by decide) ?_
  refine am_e1 (v := 21) hi_180_14 rfl ?_
  refine am_e19 (t := 356) hi_180_15 (by decide) ?_
  refine am_e2 (v := 39) hi_180_356 rfl ?_
  refine am_e1 (v := on) hi_180_357 rfl ?_
  refine am_e1 (v := tw) hi_180_358 rfl ?_
  refine am_e32w (as := [.ref 39, .int on, .int tw]) (la := [some (.ref 39), some (.int on), some (.int tw), none, none, none, none, none]) (rest := []) hi_180_359 (am_hd0 (M := 180) (by decide) 359) (Nat.le_of_ble_eq_true rfl) (Nat.le_of_ble_eq_true rfl) (show 3 ≤ am_P0.2.2.1 264 from by decide +kernel) rfl (am_recv_ok hS.fs) rfl rfl ?_
  refine am_e2 (v := 39) hi_264_0 rfl ?_
  refine mm_20 (v := .ref 46) hS hi_264_1 rfl ?_
  refine am_e2 (v := 39) hi_264_4 rfl ?_
  refine mm_20 (v := .int (f 15)) hS hi_264_5 rfl ?_
  refine am_e0 hi_264_8 ?_
  obtain ⟨z0, hz0, tz0⟩ := am_subI (x := f 15) (y := 1) (m := (f 15).toInt) (n := (1 : Int)) rfl (by decide) (by omega) (by omega)
  refine am_e10 (z := z0) hi_264_9 hz0 ?_
  refine mm_25 hS ma_16 hi_264_10 (by decide) (by omega) (by omega) ?_
  show am_E _ _ _ _ [some (.ref 39), some (.int on), some (.int tw), none, none, none, none, none] [.int (g 16 z0.toNatClampNeg)] _ _
  refine am_e3 (ls' := [some (.ref 39), some (.int on), some (.int tw), some (.int (g 16 z0.toNatClampNeg)), none, none, none, none]) hi_264_11 (Nat.le_of_ble_eq_true rfl) rfl ?_
  refine am_e2 (v := 39) hi_264_12 rfl ?_
  refine am_e32n (as := [.ref 39]) (la := [some (.ref 39)]) (rest := []) hi_264_13 (am_hd0 (M := 264) (by decide) 13) (Nat.le_of_ble_eq_true rfl) (Nat.le_of_ble_eq_true rfl) (show 1 ≤ am_P0.2.2.1 183 from by decide +kernel) rfl (am_recv_ok hS.fs) rfl rfl (ct_next (d := (d + 5)) hS   (by show (0 : Int) ≤ (f 4).toInt; omega) (by show (f 0).toInt ≤ (16384 : Int); omega)) ?_
  rintro v1 S2 (⟨r3, hv4, hS5, h6⟩)
  subst hv4
  have h6_ : (f 4).toInt < (f 0).toInt ∨ r3.toInt = (-1 : Int) := h6
  show am_E _ _ _ _ [some (.ref 39), some (.int on), some (.int tw), some (.int (g 16 z0.toNatClampNeg)), none, none, none, none] [.int r3] _ _
  refine am_e3 (ls' := [some (.ref 39), some (.int on), some (.int tw), some (.int (g 16 z0.toNatClampNeg)), some (.int r3), none, none, none]) hi_264_16 (Nat.le_of_ble_eq_true rfl) rfl ?_
  refine am_e1 (v := r3) hi_264_18 rfl ?_
  refine am_e0 hi_264_20 ?_
  by_cases c8 : r3.toInt = (59 : Int)
  · refine am_e13t hi_264_22 (am_cT (m := r3.toInt) (n := (59 : Int)) rfl (by decide) c8) ?_
    refine am_e0 hi_264_32 ?_
    refine am_e18 hi_264_33 ?_
    refine am_e3 (ls' := [some (.ref 39), some (.int on), some (.int tw), some (.int (g 16 z0.toNatClampNeg)), some (.int r3), some (.int 1), none, none]) hi_264_37 (Nat.le_of_ble_eq_true rfl) rfl ?_
    refine am_e1 (v := g 16 z0.toNatClampNeg) hi_264_39 rfl ?_
    refine am_e0 hi_264_40 ?_
    by_cases c9 : ¬ (g 16 z0.toNatClampNeg).toInt = (1 : Int)
    · refine am_e13t hi_264_41 (am_cT (m := (g 16 z0.toNatClampNeg).toInt) (n := (1 : Int)) rfl (by decide) c9) ?_
      refine am_e1 (v := g 16 z0.toNatClampNeg) hi_264_84 rfl ?_
      refine am_e0 hi_264_85 ?_
      by_cases c10 : (g 16 z0.toNatClampNeg).toInt < (3 : Int)
      · refine am_e13t hi_264_86 (am_cT (m := (g 16 z0.toNatClampNeg).toInt) (n := (3 : Int)) rfl (by decide) c10) ?_
        refine am_e2 (v := 39) hi_264_94 rfl ?_
        refine am_e0 hi_264_95 ?_
        refine am_e32n (as := [.ref 39, .int 7]) (la := [some (.ref 39), some (.int 7)]) (rest := []) hi_264_97 (am_hd0 (M := 264) (by decide) 97) (Nat.le_of_ble_eq_true rfl) (Nat.le_of_ble_eq_true rfl) (show 2 ≤ am_P0.2.2.1 194 from by decide +kernel) rfl (am_recv_ok hS5.fs) rfl rfl (ct_fail (d := (d + 6)) hS5   ) ?_
        rintro v11 S12 (⟨a13, b14, hv15, hS16⟩)
        subst hv15
        have hR18 := rj_clear0 hR
        have hR19 : RJ (upd (upd (upd f 6 a13) 7 b14) 10 0) g [] bc [] 0 [] := hR18
        show am_E _ _ _ _ [some (.ref 39), some (.int on), some (.int tw), some (.int (g 16 z0.toNatClampNeg)), some (.int r3), some (.int 1), none, none] [.int 0] _ _
        refine am_e6i hi_264_100 ?_
        refine am_e35 hi_264_101 ?_
        show am_E _ _ _ _ [some (.ref 39), some (.int 21), some (.int on), some (.int tw), some (.int th)] [] _ _
        refine am_e18 hi_180_362 ?_
        refine am_e35 hi_180_371 ?_
        have hRc := rj_clear0 hR19
        refine ⟨_, _, [], _, rfl, hS16, Or.inr ⟨hRc, rfl, (by show 0 ≤ (f 4).toInt; omega), (by show (f 4).toInt ≤ (f 0).toInt; omega), (by show 0 ≤ (f 32).toInt; omega), (by show (f 32).toInt ≤ 63; omega), (by show 1 ≤ (f 53).toInt; omega), (by show (f 53).toInt ≤ 600; omega), (by show 0 ≤ (f 68).toInt; omega), (by show (f 68).toInt ≤ 60000; omega), (by show 0 ≤ (f 48).toInt; omega), (by show (f 48).toInt ≤ 8000; omega), (by show 0 ≤ (f 37).toInt; omega), (by show (f 37).toInt ≤ 128; omega), (by show 0 ≤ (f 62).toInt; omega), (by show (f 62).toInt ≤ 65000; omega), (by show 0 ≤ (f 19).toInt; omega), (by show (f 19).toInt ≤ 600; omega)⟩⟩
      · refine am_e13f hi_264_86 (am_cF (m := (g 16 z0.toNatClampNeg).toInt) (n := (3 : Int)) rfl (by decide) c10) ?_
        refine am_e1 (v := 1) hi_264_89 rfl ?_
        refine am_e12t hi_264_91 (by decide) ?_
        refine am_e2 (v := 39) hi_264_102 rfl ?_
        refine mm_20 (v := .ref 48) hS5 hi_264_103 rfl ?_
        refine am_e2 (v := 39) hi_264_106 rfl ?_
        refine mm_20 (v := .int (f 15)) hS5 hi_264_107 rfl ?_
        refine am_e0 hi_264_110 ?_
        refine am_e10 (z := z0) hi_264_111 hz0 ?_
        refine mm_25 hS5 ma_18 hi_264_112 (by decide) (by omega) (by omega) ?_
        show am_E _ _ _ _ [some (.ref 39), some (.int on), some (.int tw), some (.int (g 16 z0.toNatClampNeg)), some (.int r3), some (.int 1), none, none] [.int (g 18 z0.toNatClampNeg)] _ _
        have r20 : (g 16 z0.toNatClampNeg).toInt = 3 → 0 ≤ (g 18 z0.toNatClampNeg).toInt ∧ (g 18 z0.toNatClampNeg).toInt < 16384 := RJ.vw hR z0.toNatClampNeg
        refine am_e3 (ls' := [some (.ref 39), some (.int on), some (.int tw), some (.int (g 16 z0.toNatClampNeg)), some (.int r3), some (.int 1), some (.int (g 18 z0.toNatClampNeg)), none]) hi_264_113 (Nat.le_of_ble_eq_true rfl) rfl ?_
        refine am_e1 (v := g 16 z0.toNatClampNeg) hi_264_115 rfl ?_
        refine am_e0 hi_264_116 ?_
        by_cases c21 : ¬ (g 16 z0.toNatClampNeg).toInt = (3 : Int)
        · refine am_e13t hi_264_117 (am_cT (m := (g 16 z0.toNatClampNeg).toInt) (n := (3 : Int)) rfl (by decide) c21) ?_
          refine am_e1 (v := g 16 z0.toNatClampNeg) hi_264_143 rfl ?_
          refine am_e0 hi_264_144 ?_
          by_cases c22 : ¬ (g 16 z0.toNatClampNeg).toInt = (5 : Int)
          · refine am_e13t hi_264_145 (am_cT (m := (g 16 z0.toNatClampNeg).toInt) (n := (5 : Int)) rfl (by decide) c22) ?_
            refine am_e2 (v := 39) hi_264_167 rfl ?_
            refine am_e0 hi_264_168 ?_
            refine am_e0 hi_264_169 ?_
            refine am_e1 (v := g 18 z0.toNatClampNeg) hi_264_170 rfl ?_
            refine am_e32n (as := [.ref 39, .int 3, .int 0, .int (g 18 z0.toNatClampNeg)]) (la := [some (.ref 39), some (.int 3), some (.int 0), some (.int (g 18 z0.toNatClampNeg))]) (rest := []) hi_264_172 (am_hd0 (M := 264) (by decide) 172) (Nat.le_of_ble_eq_true rfl) (Nat.le_of_ble_eq_true rfl) (show 4 ≤ am_P0.2.2.1 239 from by decide +kernel) rfl (am_recv_ok hS5.fs) rfl rfl (ct_keep2 (d := (d + 6)) hS5 hR  (by show (0 : Int) ≤ (f 20).toInt; omega) (by show (f 20).toInt ≤ (16383 : Int); omega)) ?_
            rintro v23 S24 (⟨z25, g'26, hv27, hS28, hR32, h29, h30, h31⟩)
            subst hv27
            have h29_ : z25.toInt = (f 20).toInt + 1 := h29
            have h30_ : ∀ j, j ∉ [21, 22, 23] → g'26 j = g j := h30
            have h31_ : g'26 23 = upd (g 23) (f 20).toNatClampNeg (g 18 z0.toNatClampNeg) := h31
            have hR32_ : RJ (upd f 20 z25) g'26 gs bc [] 0 [] := hR32
            show am_E _ _ _ _ [some (.ref 39), some (.int on), some (.int tw), some (.int (g 16 z0.toNatClampNeg)), some (.int r3), some (.int 1), some (.int (g 18 z0.toNatClampNeg)), none] [] _ _
            refine am_e2 (v := 39) hi_264_175 rfl ?_
            refine am_e7 hi_264_176 ?_
            refine mm_20 (v := .int (f 15)) hS28 hi_264_177 rfl ?_
            refine am_e0 hi_264_180 ?_
            refine am_e10 (z := z0) hi_264_181 hz0 ?_
            refine mm_21 (v := z0) hS28 hi_264_182 rfl (Nat.le_of_ble_eq_true rfl) ms_15 ?_
            intro S33 hS34
            replace hS34 : MS S0 S33 (upd (upd f 15 z0) 20 z25) g'26 := hS34
            have hp35 : mj_n (g 16) (f 15).toNatClampNeg 3 = mj_n (g 16) z0.toNatClampNeg 3 + if (g 16 z0.toNatClampNeg).toInt = 3 then 1 else 0 := mj_pop (by rw [cl_toNat, cl_toNat]; omega)
            have hp351 : mj_n (g 16) z0.toNatClampNeg 3 ≤ mj_n (g 16) (f 15).toNatClampNeg 3 := by rw [hp35]; split <;> omega
            have hp352 : (g 16 z0.toNatClampNeg).toInt = 3 → mj_n (g 16) z0.toNatClampNeg 3 + 1 ≤ mj_n (g 16) (f 15).toNatClampNeg 3 := fun q => by rw [hp35, if_pos q]; exact Int.le_refl _
            refine am_e2 (v := 39) hi_264_185 rfl ?_
            refine am_e7 hi_264_186 ?_
            refine mm_20 (v := .int (f 4)) hS34 hi_264_187 rfl ?_
            refine am_e0 hi_264_190 ?_
            obtain ⟨z36, hz36, tz36⟩ := am_addI (x := f 4) (y := 1) (m := (f 4).toInt) (n := (1 : Int)) rfl (by decide) (by omega) (by omega)
            refine am_e10 (z := z36) hi_264_191 hz36 ?_
            refine mm_21 (v := z36) hS34 hi_264_192 rfl (Nat.le_of_ble_eq_true rfl) ms_4 ?_
            intro S37 hS38
            replace hS38 : MS S0 S37 (upd (upd (upd f 4 z36) 15 z0) 20 z25) g'26 := hS38
            have hR39 : RJ (upd (upd (upd f 4 z36) 15 z0) 20 z25) g'26 gs bc [] 0 [] := RJ.at hR32_ (by show (f 4).toInt ≤ z36.toInt; omega)
            refine am_e1 (v := r3) hi_264_195 rfl ?_
            refine am_e0 hi_264_197 ?_
            refine am_e13t hi_264_199 (am_cT (m := r3.toInt) (n := (69 : Int)) rfl (by decide) (by simp only [am_cI]; omega)) ?_
            refine am_e2 (v := 39) hi_264_229 rfl ?_
            refine am_e0 hi_264_230 ?_
            refine am_e1 (v := on) hi_264_232 rfl ?_
            refine am_e0 hi_264_233 ?_
            obtain ⟨z40, hz40, tz40⟩ := am_addI (x := on) (y := 1) (m := on.toInt) (n := (1 : Int)) rfl (by decide) (by omega) (by omega)
            refine am_e10 (z := z40) hi_264_234 hz40 ?_
            refine am_e1 (v := tw) hi_264_235 rfl ?_
            refine am_e0 hi_264_236 ?_
            refine am_e32n (as := [.ref 39, .int 22, .int z40, .int tw, .int 0]) (la := [some (.ref 39), some (.int 22), some (.int z40), some (.int tw), some (.int 0)]) (rest := []) hi_264_237 (am_hd0 (M := 264) (by decide) 237) (Nat.le_of_ble_eq_true rfl) (Nat.le_of_ble_eq_true rfl) (show 5 ≤ am_P0.2.2.1 179 from by decide +kernel) rfl (am_recv_ok hS38.fs) rfl rfl (ct_pile (d := (d + 6)) hS38 hR39 (mj_e_plain (by decide)) (by show (0 : Int) ≤ (f 10).toInt; omega) (by show (f 10).toInt ≤ (65535 : Int); omega)) ?_
            rintro v41 S42 (⟨z43, g'44, hv45, hS46, hR49, h47, h48⟩)
            subst hv45
            have h47_ : z43.toInt = (f 10).toInt + 1 := h47
            have h48_ : ∀ j, j ∉ [11, 12, 13, 14] → g'44 j = g'26 j := h48
            replace hS46 : MS S0 S42 (upd (upd (upd (upd f 4 z36) 10 z43) 15 z0) 20 z25) g'44 := hS46
            have hR49_ : RJ (upd (upd (upd (upd f 4 z36) 10 z43) 15 z0) 20 z25) g'44 (((22 : Int), z40.toInt, tw.toInt, (0 : Int), []) :: gs) bc [] 0 [] := hR49
            show am_E _ _ _ _ [some (.ref 39), some (.int on), some (.int tw), some (.int (g 16 z0.toNatClampNeg)), some (.int r3), some (.int 1), some (.int (g 18 z0.toNatClampNeg)), none] [] _ _
            refine am_e2 (v := 39) hi_264_240 rfl ?_
            refine am_e32w (as := [.ref 39]) (la := [some (.ref 39)]) (rest := []) hi_264_241 (am_hd0 (M := 264) (by decide) 241) (Nat.le_of_ble_eq_true rfl) (Nat.le_of_ble_eq_true rfl) (show 1 ≤ am_P0.2.2.1 214 from by decide +kernel) rfl (am_recv_ok hS46.fs) rfl rfl ?_
            refine am_e2 (v := 39) hi_214_0 rfl ?_
            refine am_e0 hi_214_1 ?_
            refine am_e0 hi_214_3 ?_
            refine am_e0 hi_214_4 ?_
            refine am_e0 hi_214_5 ?_
            refine am_e32n (as := [.ref 39, .int 34, .int 1, .int 0, .int 0]) (la := [some (.ref 39), some (.int 34), some (.int 1), some (.int 0), some (.int 0)]) (rest := []) hi_214_6 (am_hd0 (M := 214) (by decide) 6) (Nat.le_of_ble_eq_true rfl) (Nat.le_of_ble_eq_true rfl) (show 5 ≤ am_P0.2.2.1 179 from by decide +kernel) rfl (am_recv_ok hS46.fs) rfl rfl (ct_pile (d := (d + 5)) hS46 hR49_ (mj_e_plain (by decide)) (by show (0 : Int) ≤ z43.toInt; omega) (by show z43.toInt ≤ (65535 : Int); omega)) ?_
            rintro v50 S51 (⟨z52, g'53, hv54, hS55, hR58, h56, h57⟩)
            subst hv54
            have h56_ : z52.toInt = z43.toInt + 1 := h56
            have h57_ : ∀ j, j ∉ [11, 12, 13, 14] → g'53 j = g'44 j := h57
            replace hS55 : MS S0 S51 (upd (upd (upd (upd f 4 z36) 10 z52) 15 z0) 20 z25) g'53 := hS55
            have hR58_ : RJ (upd (upd (upd (upd f 4 z36) 10 z52) 15 z0) 20 z25) g'53 (((34 : Int), (1 : Int), (0 : Int), (0 : Int), []) :: (((22 : Int), z40.toInt, tw.toInt, (0 : Int), []) :: gs)) bc [] 0 [] := hR58
            show am_E _ _ _ _ [some (.ref 39)] [] _ _
            refine am_e2 (v := 39) hi_214_9 rfl ?_
            refine am_e0 hi_214_10 ?_
            refine am_e32w (as := [.ref 39, .int 0]) (la := [some (.ref 39), some (.int 0)]) (rest := []) hi_214_11 (am_hd0 (M := 214) (by decide) 11) (Nat.le_of_ble_eq_true rfl) (Nat.le_of_ble_eq_true rfl) (show 2 ≤ am_P0.2.2.1 186 from by decide +kernel) rfl (am_recv_ok hS55.fs) rfl rfl ?_
            refine am_e2 (v := 39) hi_186_0 rfl ?_
            refine am_e0 hi_186_1 ?_
            refine am_e1 (v := 0) hi_186_3 rfl ?_
            refine am_e0 hi_186_4 ?_
            refine am_e0 hi_186_5 ?_
            refine am_e32n (as := [.ref 39, .int 23, .int 0, .int 0, .int 0]) (la := [some (.ref 39), some (.int 23), some (.int 0), some (.int 0), some (.int 0)]) (rest := []) hi_186_6 (am_hd0 (M := 186) (by decide) 6) (Nat.le_of_ble_eq_true rfl) (Nat.le_of_ble_eq_true rfl) (show 5 ≤ am_P0.2.2.1 179 from by decide +kernel) rfl (am_recv_ok hS55.fs) rfl rfl (ct_pile (d := (d + 4)) hS55 hR58_ (mj_e_plain (by decide)) (by show (0 : Int) ≤ z52.toInt; omega) (by show z52.toInt ≤ (65535 : Int); omega)) ?_
            rintro v59 S60 (⟨z61, g'62, hv63, hS64, hR67, h65, h66⟩)
            subst hv63
            have h65_ : z61.toInt = z52.toInt + 1 := h65
            have h66_ : ∀ j, j ∉ [11, 12, 13, 14] → g'62 j = g'53 j := h66
            replace hS64 : MS S0 S60 (upd (upd (upd (upd f 4 z36) 10 z61) 15 z0) 20 z25) g'62 := hS64
            have hR67_ : RJ (upd (upd (upd (upd f 4 z36) 10 z61) 15 z0) 20 z25) g'62 (((23 : Int), (0 : Int), (0 : Int), (0 : Int), []) :: (((34 : Int), (1 : Int), (0 : Int), (0 : Int), []) :: (((22 : Int), z40.toInt, tw.toInt, (0 : Int), []) :: gs))) bc [] 0 [] := hR67
            show am_E _ _ _ _ [some (.ref 39), some (.int 0)] [] _ _
            refine am_e35 hi_186_9 ?_
            show am_E _ _ _ _ [some (.ref 39)] [] _ _
            refine am_e35 hi_214_14 ?_
            show am_E _ _ _ _ [some (.ref 39), some (.int on), some (.int tw), some (.int (g 16 z0.toNatClampNeg)), some (.int r3), some (.int 1), some (.int (g 18 z0.toNatClampNeg)), none] [] _ _
            refine am_e35 hi_264_244 ?_
            show am_E _ _ _ _ [some (.ref 39), some (.int 21), some (.int on), some (.int tw), some (.int th)] [] _ _
            refine am_e18 hi_180_362 ?_
            refine am_e35 hi_180_371 ?_
            have q1 : mg_p1 (((23 : Int), (0 : Int), (0 : Int), (0 : Int), []) :: (((34 : Int), (1 : Int), (0 : Int), (0 : Int), []) :: (((22 : Int), z40.toInt, tw.toInt, (0 : Int), []) :: gs))) = 0 + (0 + (0 + (mg_p1 gs))) := rfl
            have q2 : mg_p2 (((23 : Int), (0 : Int), (0 : Int), (0 : Int), []) :: (((34 : Int), (1 : Int), (0 : Int), (0 : Int), []) :: (((22 : Int), z40.toInt, tw.toInt, (0 : Int), []) :: gs))) = 0 + (((1 : Int) - 1) + (0 + (mg_p2 gs))) := rfl
            have q3 : mg_p3 (((23 : Int), (0 : Int), (0 : Int), (0 : Int), []) :: (((34 : Int), (1 : Int), (0 : Int), (0 : Int), []) :: (((22 : Int), z40.toInt, tw.toInt, (0 : Int), []) :: gs))) = 1 + (1 + (1 + (mg_p3 gs))) := rfl
            have q4 : mg_p4 (((23 : Int), (0 : Int), (0 : Int), (0 : Int), []) :: (((34 : Int), (1 : Int), (0 : Int), (0 : Int), []) :: (((22 : Int), z40.toInt, tw.toInt, (0 : Int), []) :: gs))) = 0 + (0 + (5 + (mg_p4 gs))) := rfl
            refine ⟨_, _, _, bc, rfl, hS64, Or.inl ⟨⟨hR67_, ?_, ?_⟩, rfl, ?_⟩⟩
            · exact (⟨⟨(show mg_k 23 from by decide), (show (0 : Int) ≤ z0.toInt from by omega), (show 0 ≤ z25.toInt from by omega), (show 1 ≤ (f 37).toInt from by omega), (show 0 ≤ (f 32).toInt from by omega), (show (f 32).toInt ≤ (f 5).toInt from by omega), (show (f 5).toInt ≤ 48 from by omega), (show (f 37).toInt ≤ 2 * ((f 5).toInt) + 2 from by omega), (show 0 ≤ (0 : Int) from by omega)⟩, ⟨⟨(show mg_k 34 from by decide), (show (1 : Int) ≤ z0.toInt + 1 from by omega), (show 0 ≤ z25.toInt from by omega), (show 1 ≤ (f 37).toInt + 0 from by omega), (show 0 ≤ (f 32).toInt + 0 from by omega), (show (f 32).toInt + 0 ≤ (f 5).toInt + 0 from by omega), (show (f 5).toInt + 0 ≤ 48 from by omega), (show (f 37).toInt + 0 ≤ 2 * ((f 5).toInt + 0) + 2 from by omega), (show 1 ≤ (1 : Int) from by omega)⟩, ⟨⟨(show mg_k 22 from by decide), (show (1 : Int) ≤ z0.toInt + 1 + 0 from by omega), (show 0 ≤ z25.toInt from by omega), (show 1 ≤ (f 37).toInt + 0 + 0 from by omega), (show 0 ≤ (f 32).toInt + 0 + 0 from by omega), (show (f 32).toInt + 0 + 0 ≤ (f 5).toInt + 0 + 0 from by omega), (show (f 5).toInt + 0 + 0 ≤ 48 from by omega), (show (f 37).toInt + 0 + 0 ≤ 2 * ((f 5).toInt + 0 + 0) + 1 from by omega), ⟨(show 0 ≤ z40.toInt from by omega), (show 0 ≤ tw.toInt from by omega), (show z25.toInt = tw.toInt + z40.toInt from by omega)⟩⟩, mg_cast (mg_good_ext _ _ _ _ _ _ (fun i _ => by show g'62 34 i = g 34 i; rw [show g'62 34 = g'53 34 from h66_ 34 (by decide), show g'53 34 = g'44 34 from h57_ 34 (by decide), show g'44 34 = g'26 34 from h48_ 34 (by decide), show g'26 34 = g 34 from h30_ 34 (by decide)]) (fun i _ => by show g'62 38 i = g 38 i; rw [show g'62 38 = g'53 38 from h66_ 38 (by decide), show g'53 38 = g'44 38 from h57_ 38 (by decide), show g'44 38 = g'26 38 from h48_ 38 (by decide), show g'26 38 = g 38 from h30_ 38 (by decide)]) (fun i hi => by show g'62 23 i = g 23 i; rw [show g'62 23 = g'53 23 from h66_ 23 (by decide), show g'53 23 = g'44 23 from h57_ 23 (by decide), show g'44 23 = g'26 23 from h48_ 23 (by decide), h31_]; exact upd_ne (by rw [cl_toNat]; omega)) hrest) (by show (f 15).toInt + -1 = z0.toInt + 1 + 0 + -1; omega) (by show tw.toInt = tw.toInt; omega) (by show (f 37).toInt + 0 = (f 37).toInt + 0 + 0 + 0; omega) (by show (f 32).toInt + 0 = (f 32).toInt + 0 + 0 + 0; omega) (by show (f 5).toInt + 0 = (f 5).toInt + 0 + 0 + 0; omega)⟩⟩⟩ : mg_good (g'62 34) (g'62 38) (g'62 23) (((23 : Int), (0 : Int), (0 : Int), (0 : Int), []) :: (((34 : Int), (1 : Int), (0 : Int), (0 : Int), []) :: (((22 : Int), z40.toInt, tw.toInt, (0 : Int), []) :: gs))) (z0.toInt) (z25.toInt) ((f 37).toInt) ((f 32).toInt) ((f 5).toInt))
            · exact ⟨(by show 0 ≤ z36.toInt; omega), (by show z36.toInt ≤ (f 0).toInt; omega), (by show (f 0).toInt ≤ 512; omega), (by show 0 ≤ (f 24).toInt; omega), (by show (f 24).toInt + z25.toInt + mg_p1 (((23 : Int), (0 : Int), (0 : Int), (0 : Int), []) :: (((34 : Int), (1 : Int), (0 : Int), (0 : Int), []) :: (((22 : Int), z40.toInt, tw.toInt, (0 : Int), []) :: gs))) ≤ 4 * z36.toInt; omega), (by show z25.toInt ≤ z36.toInt; omega), (by show z0.toInt + mg_p2 (((23 : Int), (0 : Int), (0 : Int), (0 : Int), []) :: (((34 : Int), (1 : Int), (0 : Int), (0 : Int), []) :: (((22 : Int), z40.toInt, tw.toInt, (0 : Int), []) :: gs))) ≤ z36.toInt; omega), (by show mg_p3 (((23 : Int), (0 : Int), (0 : Int), (0 : Int), []) :: (((34 : Int), (1 : Int), (0 : Int), (0 : Int), []) :: (((22 : Int), z40.toInt, tw.toInt, (0 : Int), []) :: gs))) ≤ 20 * z36.toInt + 20; omega), (by show 0 ≤ (f 68).toInt; omega), (by show (f 68).toInt + 3 * z25.toInt + mg_p4 (((23 : Int), (0 : Int), (0 : Int), (0 : Int), []) :: (((34 : Int), (1 : Int), (0 : Int), (0 : Int), []) :: (((22 : Int), z40.toInt, tw.toInt, (0 : Int), []) :: gs))) ≤ 60 * z36.toInt + 60; omega), (by show 0 ≤ (f 62).toInt; omega), (by show (f 62).toInt + 64 * mj_n (g'62 16) z0.toNatClampNeg 3 ≤ 64 * z36.toInt; rw [show g'62 16 = g'53 16 from h66_ 16 (by decide), show g'53 16 = g'44 16 from h57_ 16 (by decide), show g'44 16 = g'26 16 from h48_ 16 (by decide), show g'26 16 = g 16 from h30_ 16 (by decide)]; omega), (by show 0 ≤ (f 44).toInt; omega), (by show (f 44).toInt ≤ z36.toInt; omega), (by show 0 ≤ (f 48).toInt; omega), (by show (f 48).toInt ≤ z36.toInt; omega), (by show 1 ≤ (f 53).toInt; omega), (by show (f 53).toInt ≤ z36.toInt + 1; omega), (by show 0 ≤ (f 19).toInt; omega), (by show (f 19).toInt ≤ 600; omega)⟩
            · show 100 * ((f 0).toInt - z36.toInt) + mg_p3 (((23 : Int), (0 : Int), (0 : Int), (0 : Int), []) :: (((34 : Int), (1 : Int), (0 : Int), (0 : Int), []) :: (((22 : Int), z40.toInt, tw.toInt, (0 : Int), []) :: gs))) < 100 * ((f 0).toInt - (f 4).toInt) + (1 + mg_p3 gs); omega
          · refine am_e13f hi_264_145 (am_cF (m := (g 16 z0.toNatClampNeg).toInt) (n := (5 : Int)) rfl (by decide) c22) ?_
            refine am_e2 (v := 39) hi_264_148 rfl ?_
            refine am_e0 hi_264_149 ?_
            refine am_e2 (v := 39) hi_264_150 rfl ?_
            refine mm_20 (v := .ref 47) hS5 hi_264_151 rfl ?_
            refine am_e2 (v := 39) hi_264_154 rfl ?_
            refine mm_20 (v := .int (f 15)) hS5 hi_264_155 rfl ?_
            refine am_e0 hi_264_158 ?_
            refine am_e10 (z := z0) hi_264_159 hz0 ?_
            refine mm_25 hS5 ma_17 hi_264_160 (by decide) (by omega) (by omega) ?_
            show am_E _ _ _ _ [some (.ref 39), some (.int on), some (.int tw), some (.int (g 16 z0.toNatClampNeg)), some (.int r3), some (.int 1), some (.int (g 18 z0.toNatClampNeg)), none] [.int (g 17 z0.toNatClampNeg), .int 5, .ref 39] _ _
            have r68 : (g 16 z0.toNatClampNeg).toInt = 1 ∨ (g 16 z0.toNatClampNeg).toInt = 2 → 0 ≤ (g 17 z0.toNatClampNeg).toInt ∧ (g 17 z0.toNatClampNeg).toInt < 65536 := RJ.vc hR z0.toNatClampNeg
            refine am_e0 hi_264_161 ?_
            refine am_e0 hi_264_162 ?_
            refine am_e32n (as := [.ref 39, .int 5, .int (g 17 z0.toNatClampNeg), .int 0, .int 0]) (la := [some (.ref 39), some (.int 5), some (.int (g 17 z0.toNatClampNeg)), some (.int 0), some (.int 0)]) (rest := []) hi_264_163 (am_hd0 (M := 264) (by decide) 163) (Nat.le_of_ble_eq_true rfl) (Nat.le_of_ble_eq_true rfl) (show 5 ≤ am_P0.2.2.1 189 from by decide +kernel) rfl (am_recv_ok hS5.fs) rfl rfl (ct_put (d := (d + 6)) hS5 hR  (by show (0 : Int) ≤ (f 32).toInt; omega) (by show (f 32).toInt ≤ (63 : Int); omega) (by show (f 53).toInt ≤ (4096 : Int); omega) (by show (0 : Int) ≤ (f 68).toInt; omega) (by show (f 68).toInt ≤ (65534 : Int); omega)) ?_
            rintro v69 S70 (⟨z71, r72, g'73, hv74, hS75, hR79, h76, h77, h78⟩)
            subst hv74
            have h76_ : z71.toInt = (f 68).toInt + 1 := h76
            have h77_ : r72.toInt = (f 68).toInt := h77
            have h78_ : ∀ j, j ∉ [60, 69, 70, 71, 72, 73] → g'73 j = g j := h78
            have hR79_ : RJ (upd f 68 z71) g'73 gs bc [] 0 ((f 68).toNatClampNeg :: []) := hR79
            show am_E _ _ _ _ [some (.ref 39), some (.int on), some (.int tw), some (.int (g 16 z0.toNatClampNeg)), some (.int r3), some (.int 1), some (.int (g 18 z0.toNatClampNeg)), none] [.int r72] _ _
            refine am_e6i hi_264_166 ?_
            refine am_e2 (v := 39) hi_264_167 rfl ?_
            refine am_e0 hi_264_168 ?_
            refine am_e0 hi_264_169 ?_
            refine am_e1 (v := g 18 z0.toNatClampNeg) hi_264_170 rfl ?_
            refine am_e32n (as := [.ref 39, .int 3, .int 0, .int (g 18 z0.toNatClampNeg)]) (la := [some (.ref 39), some (.int 3), some (.int 0), some (.int (g 18 z0.toNatClampNeg))]) (rest := []) hi_264_172 (am_hd0 (M := 264) (by decide) 172) (Nat.le_of_ble_eq_true rfl) (Nat.le_of_ble_eq_true rfl) (show 4 ≤ am_P0.2.2.1 239 from by decide +kernel) rfl (am_recv_ok hS75.fs) rfl rfl (ct_keep2 (d := (d + 6)) hS75 hR79_  (by show (0 : Int) ≤ (f 20).toInt; omega) (by show (f 20).toInt ≤ (16383 : Int); omega)) ?_
            rintro v80 S81 (⟨z82, g'83, hv84, hS85, hR89, h86, h87, h88⟩)
            subst hv84
            have h86_ : z82.toInt = (f 20).toInt + 1 := h86
            have h87_ : ∀ j, j ∉ [21, 22, 23] → g'83 j = g'73 j := h87
            have h88_ : g'83 23 = upd (g'73 23) (f 20).toNatClampNeg (g 18 z0.toNatClampNeg) := h88
            replace hS85 : MS S0 S81 (upd (upd f 20 z82) 68 z71) g'83 := hS85
            have hR89_ : RJ (upd (upd f 20 z82) 68 z71) g'83 gs bc [] 0 ((f 68).toNatClampNeg :: []) := hR89
            show am_E _ _ _ _ [some (.ref 39), some (.int on), some (.int tw), some (.int (g 16 z0.toNatClampNeg)), some (.int r3), some (.int 1), some (.int (g 18 z0.toNatClampNeg)), none] [] _ _
            refine am_e2 (v := 39) hi_264_175 rfl ?_
            refine am_e7 hi_264_176 ?_
            refine mm_20 (v := .int (f 15)) hS85 hi_264_177 rfl ?_
            refine am_e0 hi_264_180 ?_
            refine am_e10 (z := z0) hi_264_181 hz0 ?_
            refine mm_21 (v := z0) hS85 hi_264_182 rfl (Nat.le_of_ble_eq_true rfl) ms_15 ?_
            intro S90 hS91
            replace hS91 : MS S0 S90 (upd (upd (upd f 15 z0) 20 z82) 68 z71) g'83 := hS91
            have hp92 : mj_n (g 16) (f 15).toNatClampNeg 3 = mj_n (g 16) z0.toNatClampNeg 3 + if (g 16 z0.toNatClampNeg).toInt = 3 then 1 else 0 := mj_pop (by rw [cl_toNat, cl_toNat]; omega)
            have hp921 : mj_n (g 16) z0.toNatClampNeg 3 ≤ mj_n (g 16) (f 15).toNatClampNeg 3 := by rw [hp92]; split <;> omega
            have hp922 : (g 16 z0.toNatClampNeg).toInt = 3 → mj_n (g 16) z0.toNatClampNeg 3 + 1 ≤ mj_n (g 16) (f 15).toNatClampNeg 3 := fun q => by rw [hp92, if_pos q]; exact Int.le_refl _
            refine am_e2 (v := 39) hi_264_185 rfl ?_
            refine am_e7 hi_264_186 ?_
            refine mm_20 (v := .int (f 4)) hS91 hi_264_187 rfl ?_
            refine am_e0 hi_264_190 ?_
            obtain ⟨z93, hz93, tz93⟩ := am_addI (x := f 4) (y := 1) (m := (f 4).toInt) (n := (1 : Int)) rfl (by decide) (by omega) (by omega)
            refine am_e10 (z := z93) hi_264_191 hz93 ?_
            refine mm_21 (v := z93) hS91 hi_264_192 rfl (Nat.le_of_ble_eq_true rfl) ms_4 ?_
            intro S94 hS95
            replace hS95 : MS S0 S94 (upd (upd (upd (upd f 4 z93) 15 z0) 20 z82) 68 z71) g'83 := hS95
            have hR96 : RJ (upd (upd (upd (upd f 4 z93) 15 z0) 20 z82) 68 z71) g'83 gs bc [] 0 ((f 68).toNatClampNeg :: []) := RJ.at hR89_ (by show (f 4).toInt ≤ z93.toInt; omega)
            refine am_e1 (v := r3) hi_264_195 rfl ?_
            refine am_e0 hi_264_197 ?_
            refine am_e13t hi_264_199 (am_cT (m := r3.toInt) (n := (69 : Int)) rfl (by decide) (by simp only [am_cI]; omega)) ?_
            refine am_e2 (v := 39) hi_264_229 rfl ?_
            refine am_e0 hi_264_230 ?_
            refine am_e1 (v := on) hi_264_232 rfl ?_
            refine am_e0 hi_264_233 ?_
            obtain ⟨z97, hz97, tz97⟩ := am_addI (x := on) (y := 1) (m := on.toInt) (n := (1 : Int)) rfl (by decide) (by omega) (by omega)
            refine am_e10 (z := z97) hi_264_234 hz97 ?_
            refine am_e1 (v := tw) hi_264_235 rfl ?_
            refine am_e0 hi_264_236 ?_
            refine am_e32n (as := [.ref 39, .int 22, .int z97, .int tw, .int 0]) (la := [some (.ref 39), some (.int 22), some (.int z97), some (.int tw), some (.int 0)]) (rest := []) hi_264_237 (am_hd0 (M := 264) (by decide) 237) (Nat.le_of_ble_eq_true rfl) (Nat.le_of_ble_eq_true rfl) (show 5 ≤ am_P0.2.2.1 179 from by decide +kernel) rfl (am_recv_ok hS95.fs) rfl rfl (ct_pile (d := (d + 6)) hS95 hR96 (mj_e_plain (by decide)) (by show (0 : Int) ≤ (f 10).toInt; omega) (by show (f 10).toInt ≤ (65535 : Int); omega)) ?_
            rintro v98 S99 (⟨z100, g'101, hv102, hS103, hR106, h104, h105⟩)
            subst hv102
            have h104_ : z100.toInt = (f 10).toInt + 1 := h104
            have h105_ : ∀ j, j ∉ [11, 12, 13, 14] → g'101 j = g'83 j := h105
            replace hS103 : MS S0 S99 (upd (upd (upd (upd (upd f 4 z93) 10 z100) 15 z0) 20 z82) 68 z71) g'101 := hS103
            have hR106_ : RJ (upd (upd (upd (upd (upd f 4 z93) 10 z100) 15 z0) 20 z82) 68 z71) g'101 (((22 : Int), z97.toInt, tw.toInt, (0 : Int), []) :: gs) bc [] 0 ((f 68).toNatClampNeg :: []) := hR106
            show am_E _ _ _ _ [some (.ref 39), some (.int on), some (.int tw), some (.int (g 16 z0.toNatClampNeg)), some (.int r3), some (.int 1), some (.int (g 18 z0.toNatClampNeg)), none] [] _ _
            refine am_e2 (v := 39) hi_264_240 rfl ?_
            refine am_e32w (as := [.ref 39]) (la := [some (.ref 39)]) (rest := []) hi_264_241 (am_hd0 (M := 264) (by decide) 241) (Nat.le_of_ble_eq_true rfl) (Nat.le_of_ble_eq_true rfl) (show 1 ≤ am_P0.2.2.1 214 from by decide +kernel) rfl (am_recv_ok hS103.fs) rfl rfl ?_
            refine am_e2 (v := 39) hi_214_0 rfl ?_
            refine am_e0 hi_214_1 ?_
            refine am_e0 hi_214_3 ?_
            refine am_e0 hi_214_4 ?_
            refine am_e0 hi_214_5 ?_
            refine am_e32n (as := [.ref 39, .int 34, .int 1, .int 0, .int 0]) (la := [some (.ref 39), some (.int 34), some (.int 1), some (.int 0), some (.int 0)]) (rest := []) hi_214_6 (am_hd0 (M := 214) (by decide) 6) (Nat.le_of_ble_eq_true rfl) (Nat.le_of_ble_eq_true rfl) (show 5 ≤ am_P0.2.2.1 179 from by decide +kernel) rfl (am_recv_ok hS103.fs) rfl rfl (ct_pile (d := (d + 5)) hS103 hR106_ (mj_e_plain (by decide)) (by show (0 : Int) ≤ z100.toInt; omega) (by show z100.toInt ≤ (65535 : Int); omega)) ?_
            rintro v107 S108 (⟨z109, g'110, hv111, hS112, hR115, h113, h114⟩)
            subst hv111
            have h113_ : z109.toInt = z100.toInt + 1 := h113
            have h114_ : ∀ j, j ∉ [11, 12, 13, 14] → g'110 j = g'101 j := h114
            replace hS112 : MS S0 S108 (upd (upd (upd (upd (upd f 4 z93) 10 z109) 15 z0) 20 z82) 68 z71) g'110 := hS112
            have hR115_ : RJ (upd (upd (upd (upd (upd f 4 z93) 10 z109) 15 z0) 20 z82) 68 z71) g'110 (((34 : Int), (1 : Int), (0 : Int), (0 : Int), []) :: (((22 : Int), z97.toInt, tw.toInt, (0 : Int), []) :: gs)) bc [] 0 ((f 68).toNatClampNeg :: []) := hR115
            show am_E _ _ _ _ [some (.ref 39)] [] _ _
            refine am_e2 (v := 39) hi_214_9 rfl ?_
            refine am_e0 hi_214_10 ?_
            refine am_e32w (as := [.ref 39, .int 0]) (la := [some (.ref 39), some (.int 0)]) (rest := []) hi_214_11 (am_hd0 (M := 214) (by decide) 11) (Nat.le_of_ble_eq_true rfl) (Nat.le_of_ble_eq_true rfl) (show 2 ≤ am_P0.2.2.1 186 from by decide +kernel) rfl (am_recv_ok hS112.fs) rfl rfl ?_
            refine am_e2 (v := 39) hi_186_0 rfl ?_
            refine am_e0 hi_186_1 ?_
            refine am_e1 (v := 0) hi_186_3 rfl ?_
            refine am_e0 hi_186_4 ?_
            refine am_e0 hi_186_5 ?_
            refine am_e32n (as := [.ref 39, .int 23, .int 0, .int 0, .int 0]) (la := [some (.ref 39), some (.int 23), some (.int 0), some (.int 0), some (.int 0)]) (rest := []) hi_186_6 (am_hd0 (M := 186) (by decide) 6) (Nat.le_of_ble_eq_true rfl) (Nat.le_of_ble_eq_true rfl) (show 5 ≤ am_P0.2.2.1 179 from by decide +kernel) rfl (am_recv_ok hS112.fs) rfl rfl (ct_pile (d := (d + 4)) hS112 hR115_ (mj_e_plain (by decide)) (by show (0 : Int) ≤ z109.toInt; omega) (by show z109.toInt ≤ (65535 : Int); omega)) ?_
            rintro v116 S117 (⟨z118, g'119, hv120, hS121, hR124, h122, h123⟩)
            subst hv120
            have h122_ : z118.toInt = z109.toInt + 1 := h122
            have h123_ : ∀ j, j ∉ [11, 12, 13, 14] → g'119 j = g'110 j := h123
            replace hS121 : MS S0 S117 (upd (upd (upd (upd (upd f 4 z93) 10 z118) 15 z0) 20 z82) 68 z71) g'119 := hS121
            have hR124_ : RJ (upd (upd (upd (upd (upd f 4 z93) 10 z118) 15 z0) 20 z82) 68 z71) g'119 (((23 : Int), (0 : Int), (0 : Int), (0 : Int), []) :: (((34 : Int), (1 : Int), (0 : Int), (0 : Int), []) :: (((22 : Int), z97.toInt, tw.toInt, (0 : Int), []) :: gs))) bc [] 0 ((f 68).toNatClampNeg :: []) := hR124
            show am_E _ _ _ _ [some (.ref 39), some (.int 0)] [] _ _
            refine am_e35 hi_186_9 ?_
            show am_E _ _ _ _ [some (.ref 39)] [] _ _
            refine am_e35 hi_214_14 ?_
            show am_E _ _ _ _ [some (.ref 39), some (.int on), some (.int tw), some (.int (g 16 z0.toNatClampNeg)), some (.int r3), some (.int 1), some (.int (g 18 z0.toNatClampNeg)), none] [] _ _
            refine am_e35 hi_264_244 ?_
            show am_E _ _ _ _ [some (.ref 39), some (.int 21), some (.int on), some (.int tw), some (.int th)] [] _ _
            refine am_e18 hi_180_362 ?_
            refine am_e35 hi_180_371 ?_
            have q1 : mg_p1 (((23 : Int), (0 : Int), (0 : Int), (0 : Int), []) :: (((34 : Int), (1 : Int), (0 : Int), (0 : Int), []) :: (((22 : Int), z97.toInt, tw.toInt, (0 : Int), []) :: gs))) = 0 + (0 + (0 + (mg_p1 gs))) := rfl
            have q2 : mg_p2 (((23 : Int), (0 : Int), (0 : Int), (0 : Int), []) :: (((34 : Int), (1 : Int), (0 : Int), (0 : Int), []) :: (((22 : Int), z97.toInt, tw.toInt, (0 : Int), []) :: gs))) = 0 + (((1 : Int) - 1) + (0 + (mg_p2 gs))) := rfl
            have q3 : mg_p3 (((23 : Int), (0 : Int), (0 : Int), (0 : Int), []) :: (((34 : Int), (1 : Int), (0 : Int), (0 : Int), []) :: (((22 : Int), z97.toInt, tw.toInt, (0 : Int), []) :: gs))) = 1 + (1 + (1 + (mg_p3 gs))) := rfl
            have q4 : mg_p4 (((23 : Int), (0 : Int), (0 : Int), (0 : Int), []) :: (((34 : Int), (1 : Int), (0 : Int), (0 : Int), []) :: (((22 : Int), z97.toInt, tw.toInt, (0 : Int), []) :: gs))) = 0 + (0 + (5 + (mg_p4 gs))) := rfl
            refine ⟨_, _, _, bc, rfl, hS121, Or.inl ⟨⟨(RJ.fewer (pj' := []) hR124_ (fun _ h => nomatch h)), ?_, ?_⟩, rfl, ?_⟩⟩
            · exact (⟨⟨(show mg_k 23 from by decide), (show (0 : Int) ≤ z0.toInt from by omega), (show 0 ≤ z82.toInt from by omega), (show 1 ≤ (f 37).toInt from by omega), (show 0 ≤ (f 32).toInt from by omega), (show (f 32).toInt ≤ (f 5).toInt from by omega), (show (f 5).toInt ≤ 48 from by omega), (show (f 37).toInt ≤ 2 * ((f 5).toInt) + 2 from by omega), (show 0 ≤ (0 : Int) from by omega)⟩, ⟨⟨(show mg_k 34 from by decide), (show (1 : Int) ≤ z0.toInt + 1 from by omega), (show 0 ≤ z82.toInt from by omega), (show 1 ≤ (f 37).toInt + 0 from by omega), (show 0 ≤ (f 32).toInt + 0 from by omega), (show (f 32).toInt + 0 ≤ (f 5).toInt + 0 from by omega), (show (f 5).toInt + 0 ≤ 48 from by omega), (show (f 37).toInt + 0 ≤ 2 * ((f 5).toInt + 0) + 2 from by omega), (show 1 ≤ (1 : Int) from by omega)⟩, ⟨⟨(show mg_k 22 from by decide), (show (1 : Int) ≤ z0.toInt + 1 + 0 from by omega), (show 0 ≤ z82.toInt from by omega), (show 1 ≤ (f 37).toInt + 0 + 0 from by omega), (show 0 ≤ (f 32).toInt + 0 + 0 from by omega), (show (f 32).toInt + 0 + 0 ≤ (f 5).toInt + 0 + 0 from by omega), (show (f 5).toInt + 0 + 0 ≤ 48 from by omega), (show (f 37).toInt + 0 + 0 ≤ 2 * ((f 5).toInt + 0 + 0) + 1 from by omega), ⟨(show 0 ≤ z97.toInt from by omega), (show 0 ≤ tw.toInt from by omega), (show z82.toInt = tw.toInt + z97.toInt from by omega)⟩⟩, mg_cast (mg_good_ext _ _ _ _ _ _ (fun i _ => by show g'119 34 i = g 34 i; rw [show g'119 34 = g'110 34 from h123_ 34 (by decide), show g'110 34 = g'101 34 from h114_ 34 (by decide), show g'101 34 = g'83 34 from h105_ 34 (by decide), show g'83 34 = g'73 34 from h87_ 34 (by decide), show g'73 34 = g 34 from h78_ 34 (by decide)]) (fun i _ => by show g'119 38 i = g 38 i; rw [show g'119 38 = g'110 38 from h123_ 38 (by decide), show g'110 38 = g'101 38 from h114_ 38 (by decide), show g'101 38 = g'83 38 from h105_ 38 (by decide), show g'83 38 = g'73 38 from h87_ 38 (by decide), show g'73 38 = g 38 from h78_ 38 (by decide)]) (fun i hi => by show g'119 23 i = g 23 i; rw [show g'119 23 = g'110 23 from h123_ 23 (by decide), show g'110 23 = g'101 23 from h114_ 23 (by decide), show g'101 23 = g'83 23 from h105_ 23 (by decide), h88_, show g'73 23 = g 23 from h78_ 23 (by decide)]; exact upd_ne (by rw [cl_toNat]; omega)) hrest) (by show (f 15).toInt + -1 = z0.toInt + 1 + 0 + -1; omega) (by show tw.toInt = tw.toInt; omega) (by show (f 37).toInt + 0 = (f 37).toInt + 0 + 0 + 0; omega) (by show (f 32).toInt + 0 = (f 32).toInt + 0 + 0 + 0; omega) (by show (f 5).toInt + 0 = (f 5).toInt + 0 + 0 + 0; omega)⟩⟩⟩ : mg_good (g'119 34) (g'119 38) (g'119 23) (((23 : Int), (0 : Int), (0 : Int), (0 : Int), []) :: (((34 : Int), (1 : Int), (0 : Int), (0 : Int), []) :: (((22 : Int), z97.toInt, tw.toInt, (0 : Int), []) :: gs))) (z0.toInt) (z82.toInt) ((f 37).toInt) ((f 32).toInt) ((f 5).toInt))
            · exact ⟨(by show 0 ≤ z93.toInt; omega), (by show z93.toInt ≤ (f 0).toInt; omega), (by show (f 0).toInt ≤ 512; omega), (by show 0 ≤ (f 24).toInt; omega), (by show (f 24).toInt + z82.toInt + mg_p1 (((23 : Int), (0 : Int), (0 : Int), (0 : Int), []) :: (((34 : Int), (1 : Int), (0 : Int), (0 : Int), []) :: (((22 : Int), z97.toInt, tw.toInt, (0 : Int), []) :: gs))) ≤ 4 * z93.toInt; omega), (by show z82.toInt ≤ z93.toInt; omega), (by show z0.toInt + mg_p2 (((23 : Int), (0 : Int), (0 : Int), (0 : Int), []) :: (((34 : Int), (1 : Int), (0 : Int), (0 : Int), []) :: (((22 : Int), z97.toInt, tw.toInt, (0 : Int), []) :: gs))) ≤ z93.toInt; omega), (by show mg_p3 (((23 : Int), (0 : Int), (0 : Int), (0 : Int), []) :: (((34 : Int), (1 : Int), (0 : Int), (0 : Int), []) :: (((22 : Int), z97.toInt, tw.toInt, (0 : Int), []) :: gs))) ≤ 20 * z93.toInt + 20; omega), (by show 0 ≤ z71.toInt; omega), (by show z71.toInt + 3 * z82.toInt + mg_p4 (((23 : Int), (0 : Int), (0 : Int), (0 : Int), []) :: (((34 : Int), (1 : Int), (0 : Int), (0 : Int), []) :: (((22 : Int), z97.toInt, tw.toInt, (0 : Int), []) :: gs))) ≤ 60 * z93.toInt + 60; omega), (by show 0 ≤ (f 62).toInt; omega), (by show (f 62).toInt + 64 * mj_n (g'119 16) z0.toNatClampNeg 3 ≤ 64 * z93.toInt; rw [show g'119 16 = g'110 16 from h123_ 16 (by decide), show g'110 16 = g'101 16 from h114_ 16 (by decide), show g'101 16 = g'83 16 from h105_ 16 (by decide), show g'83 16 = g'73 16 from h87_ 16 (by decide), show g'73 16 = g 16 from h78_ 16 (by decide)]; omega), (by show 0 ≤ (f 44).toInt; omega), (by show (f 44).toInt ≤ z93.toInt; omega), (by show 0 ≤ (f 48).toInt; omega), (by show (f 48).toInt ≤ z93.toInt; omega), (by show 1 ≤ (f 53).toInt; omega), (by show (f 53).toInt ≤ z93.toInt + 1; omega), (by show 0 ≤ (f 19).toInt; omega), (by show (f 19).toInt ≤ 600; omega)⟩
            · show 100 * ((f 0).toInt - z93.toInt) + mg_p3 (((23 : Int), (0 : Int), (0 : Int), (0 : Int), []) :: (((34 : Int), (1 : Int), (0 : Int), (0 : Int), []) :: (((22 : Int), z97.toInt, tw.toInt, (0 : Int), []) :: gs))) < 100 * ((f 0).toInt - (f 4).toInt) + (1 + mg_p3 gs); omega
        · refine am_e13f hi_264_117 (am_cF (m := (g 16 z0.toNatClampNeg).toInt) (n := (3 : Int)) rfl (by decide) c21) ?_
          refine am_e2 (v := 39) hi_264_120 rfl ?_
          refine am_e1 (v := g 18 z0.toNatClampNeg) hi_264_121 rfl ?_
          refine am_e32w (as := [.ref 39, .int (g 18 z0.toNatClampNeg)]) (la := [some (.ref 39), some (.int (g 18 z0.toNatClampNeg)), none]) (rest := []) hi_264_123 (am_hd0 (M := 264) (by decide) 123) (Nat.le_of_ble_eq_true rfl) (Nat.le_of_ble_eq_true rfl) (show 2 ≤ am_P0.2.2.1 237 from by decide +kernel) rfl (am_recv_ok hS5.fs) rfl rfl ?_
          refine am_e2 (v := 39) hi_237_0 rfl ?_
          refine am_e2 (v := 39) hi_237_1 rfl ?_
          refine mm_20 (v := .ref 41) hS5 hi_237_2 rfl ?_
          refine am_e1 (v := g 18 z0.toNatClampNeg) hi_237_5 rfl ?_
          refine mm_25 hS5 ma_2 hi_237_6 (by decide) (by omega) (by omega) ?_
          show am_E _ _ _ _ [some (.ref 39), some (.int (g 18 z0.toNatClampNeg)), none] [.int (g 2 (g 18 z0.toNatClampNeg).toNatClampNeg), .ref 39] _ _
          refine am_e32n (as := [.ref 39, .int (g 2 (g 18 z0.toNatClampNeg).toNatClampNeg)]) (la := [some (.ref 39), some (.int (g 2 (g 18 z0.toNatClampNeg).toNatClampNeg)), none]) (rest := []) hi_237_7 (am_hd0 (M := 237) (by decide) 7) (Nat.le_of_ble_eq_true rfl) (Nat.le_of_ble_eq_true rfl) (show 2 ≤ am_P0.2.2.1 206 from by decide +kernel) rfl (am_recv_ok hS5.fs) rfl rfl (ct_find (d := (d + 5)) hS5   (by show (0 : Int) ≤ (f 24).toInt; omega) (by show (f 24).toInt ≤ (16384 : Int); omega)) ?_
          rintro v125 S126 (⟨r127, hv128, hS129, h130, h131⟩)
          subst hv128
          have h130_ : (-1 : Int) ≤ r127.toInt := h130
          have h131_ : r127.toInt < (f 24).toInt := h131
          show am_E _ _ _ _ [some (.ref 39), some (.int (g 18 z0.toNatClampNeg)), none] [.int r127] _ _
          refine am_e3 (ls' := [some (.ref 39), some (.int (g 18 z0.toNatClampNeg)), some (.int r127)]) hi_237_10 (Nat.le_of_ble_eq_true rfl) rfl ?_
          refine am_e1 (v := r127) hi_237_11 rfl ?_
          by_cases c133 : r127.toInt < (0 : Int)
          · refine am_e12t hi_237_12 (am_cT (m := r127.toInt) (n := (0 : Int)) rfl (by decide) c133) ?_
            refine am_e2 (v := 39) hi_237_31 rfl ?_
            refine am_e1 (v := g 18 z0.toNatClampNeg) hi_237_32 rfl ?_
            refine am_e32n (as := [.ref 39, .int (g 18 z0.toNatClampNeg)]) (la := [some (.ref 39), some (.int (g 18 z0.toNatClampNeg)), none, none, none]) (rest := []) hi_237_33 (am_hd0 (M := 237) (by decide) 33) (Nat.le_of_ble_eq_true rfl) (Nat.le_of_ble_eq_true rfl) (show 2 ≤ am_P0.2.2.1 205 from by decide +kernel) rfl (am_recv_ok hS129.fs) rfl rfl (ct_resolve (d := (d + 4)) hS129 hR  (by show (0 : Int) ≤ (f 32).toInt; omega) (by show (f 32).toInt ≤ (63 : Int); omega) (by show (f 53).toInt ≤ (4096 : Int); omega) (by show (0 : Int) ≤ (f 24).toInt; omega) (by show (f 24).toInt ≤ (16384 : Int); omega) (by show (0 : Int) ≤ (f 62).toInt; omega) (by show (f 62).toInt ≤ (65000 : Int); omega) (by show (0 : Int) ≤ (g 18 z0.toNatClampNeg).toInt; omega) (by show (g 18 z0.toNatClampNeg).toInt ≤ (16383 : Int); omega)) ?_
            rintro v134 S135 (⟨o136, m137, g'138, r139, hv140, hS141, hR147, h142, h143, h144, h145, h146⟩)
            subst hv140
            have h142_ : (f 62).toInt ≤ o136.toInt := h142
            have h143_ : o136.toInt ≤ (f 62).toInt + 64 := h143
            have h144_ : (0 : Int) ≤ r139.toInt := h144
            have h145_ : r139.toInt ≤ (2 : Int) := h145
            have h146_ : ∀ j, j ∉ [63, 64, 65, 66, 67] → g'138 j = g j := h146
            have hR147_ : RJ (upd (upd f 62 o136) 75 m137) g'138 gs bc [] 0 [] := hR147
            show am_E _ _ _ _ [some (.ref 39), some (.int (g 18 z0.toNatClampNeg)), some (.int r127)] [.int r139] _ _
            refine am_e33 hi_237_36 ?_
            show am_E _ _ _ _ [some (.ref 39), some (.int on), some (.int tw), some (.int (g 16 z0.toNatClampNeg)), some (.int r3), some (.int 1), some (.int (g 18 z0.toNatClampNeg)), none] [.int r139] _ _
            refine am_e3 (ls' := [some (.ref 39), some (.int on), some (.int tw), some (.int (g 16 z0.toNatClampNeg)), some (.int r3), some (.int 1), some (.int (g 18 z0.toNatClampNeg)), some (.int r139)]) hi_264_126 (Nat.le_of_ble_eq_true rfl) rfl ?_
            refine am_e2 (v := 39) hi_264_128 rfl ?_
            refine am_e1 (v := r139) hi_264_129 rfl ?_
            refine am_e2 (v := 39) hi_264_131 rfl ?_
            refine mm_20 (v := .int m137) hS141 hi_264_132 rfl ?_
            refine am_e1 (v := g 18 z0.toNatClampNeg) hi_264_135 rfl ?_
            refine am_e32n (as := [.ref 39, .int r139, .int m137, .int (g 18 z0.toNatClampNeg)]) (la := [some (.ref 39), some (.int r139), some (.int m137), some (.int (g 18 z0.toNatClampNeg))]) (rest := []) hi_264_137 (am_hd0 (M := 264) (by decide) 137) (Nat.le_of_ble_eq_true rfl) (Nat.le_of_ble_eq_true rfl) (show 4 ≤ am_P0.2.2.1 239 from by decide +kernel) rfl (am_recv_ok hS141.fs) rfl rfl (ct_keep2 (d := (d + 6)) hS141 hR147_  (by show (0 : Int) ≤ (f 20).toInt; omega) (by show (f 20).toInt ≤ (16383 : Int); omega)) ?_
            rintro v148 S149 (⟨z150, g'151, hv152, hS153, hR157, h154, h155, h156⟩)
            subst hv152
            have h154_ : z150.toInt = (f 20).toInt + 1 := h154
            have h155_ : ∀ j, j ∉ [21, 22, 23] → g'151 j = g'138 j := h155
            have h156_ : g'151 23 = upd (g'138 23) (f 20).toNatClampNeg (g 18 z0.toNatClampNeg) := h156
            replace hS153 : MS S0 S149 (upd (upd (upd f 20 z150) 62 o136) 75 m137) g'151 := hS153
            have hR157_ : RJ (upd (upd (upd f 20 z150) 62 o136) 75 m137) g'151 gs bc [] 0 [] := hR157
            show am_E _ _ _ _ [some (.ref 39), some (.int on), some (.int tw), some (.int (g 16 z0.toNatClampNeg)), some (.int r3), some (.int 1), some (.int (g 18 z0.toNatClampNeg)), some (.int r139)] [] _ _
            refine am_e18 hi_264_140 ?_
            refine am_e2 (v := 39) hi_264_175 rfl ?_
            refine am_e7 hi_264_176 ?_
            refine mm_20 (v := .int (f 15)) hS153 hi_264_177 rfl ?_
            refine am_e0 hi_264_180 ?_
            refine am_e10 (z := z0) hi_264_181 hz0 ?_
            refine mm_21 (v := z0) hS153 hi_264_182 rfl (Nat.le_of_ble_eq_true rfl) ms_15 ?_
            intro S158 hS159
            replace hS159 : MS S0 S158 (upd (upd (upd (upd f 15 z0) 20 z150) 62 o136) 75 m137) g'151 := hS159
            have hp160 : mj_n (g 16) (f 15).toNatClampNeg 3 = mj_n (g 16) z0.toNatClampNeg 3 + if (g 16 z0.toNatClampNeg).toInt = 3 then 1 else 0 := mj_pop (by rw [cl_toNat, cl_toNat]; omega)
            have hp1601 : mj_n (g 16) z0.toNatClampNeg 3 ≤ mj_n (g 16) (f 15).toNatClampNeg 3 := by rw [hp160]; split <;> omega
            have hp1602 : (g 16 z0.toNatClampNeg).toInt = 3 → mj_n (g 16) z0.toNatClampNeg 3 + 1 ≤ mj_n (g 16) (f 15).toNatClampNeg 3 := fun q => by rw [hp160, if_pos q]; exact Int.le_refl _
            refine am_e2 (v := 39) hi_264_185 rfl ?_
            refine am_e7 hi_264_186 ?_
            refine mm_20 (v := .int (f 4)) hS159 hi_264_187 rfl ?_
            refine am_e0 hi_264_190 ?_
            obtain ⟨z161, hz161, tz161⟩ := am_addI (x := f 4) (y := 1) (m := (f 4).toInt) (n := (1 : Int)) rfl (by decide) (by omega) (by omega)
            refine am_e10 (z := z161) hi_264_191 hz161 ?_
            refine mm_21 (v := z161) hS159 hi_264_192 rfl (Nat.le_of_ble_eq_true rfl) ms_4 ?_
            intro S162 hS163
            replace hS163 : MS S0 S162 (upd (upd (upd (upd (upd f 4 z161) 15 z0) 20 z150) 62 o136) 75 m137) g'151 := hS163
            have hR164 : RJ (upd (upd (upd (upd (upd f 4 z161) 15 z0) 20 z150) 62 o136) 75 m137) g'151 gs bc [] 0 [] := RJ.at hR157_ (by show (f 4).toInt ≤ z161.toInt; omega)
            refine am_e1 (v := r3) hi_264_195 rfl ?_
            refine am_e0 hi_264_197 ?_
            refine am_e13t hi_264_199 (am_cT (m := r3.toInt) (n := (69 : Int)) rfl (by decide) (by simp only [am_cI]; omega)) ?_
            refine am_e2 (v := 39) hi_264_229 rfl ?_
            refine am_e0 hi_264_230 ?_
            refine am_e1 (v := on) hi_264_232 rfl ?_
            refine am_e0 hi_264_233 ?_
            obtain ⟨z165, hz165, tz165⟩ := am_addI (x := on) (y := 1) (m := on.toInt) (n := (1 : Int)) rfl (by decide) (by omega) (by omega)
            refine am_e10 (z := z165) hi_264_234 hz165 ?_
            refine am_e1 (v := tw) hi_264_235 rfl ?_
            refine am_e0 hi_264_236 ?_
            refine am_e32n (as := [.ref 39, .int 22, .int z165, .int tw, .int 0]) (la := [some (.ref 39), some (.int 22), some (.int z165), some (.int tw), some (.int 0)]) (rest := []) hi_264_237 (am_hd0 (M := 264) (by decide) 237) (Nat.le_of_ble_eq_true rfl) (Nat.le_of_ble_eq_true rfl) (show 5 ≤ am_P0.2.2.1 179 from by decide +kernel) rfl (am_recv_ok hS163.fs) rfl rfl (ct_pile (d := (d + 6)) hS163 hR164 (mj_e_plain (by decide)) (by show (0 : Int) ≤ (f 10).toInt; omega) (by show (f 10).toInt ≤ (65535 : Int); omega)) ?_
            rintro v166 S167 (⟨z168, g'169, hv170, hS171, hR174, h172, h173⟩)
            subst hv170
            have h172_ : z168.toInt = (f 10).toInt + 1 := h172
            have h173_ : ∀ j, j ∉ [11, 12, 13, 14] → g'169 j = g'151 j := h173
            replace hS171 : MS S0 S167 (upd (upd (upd (upd (upd (upd f 4 z161) 10 z168) 15 z0) 20 z150) 62 o136) 75 m137) g'169 := hS171
            have hR174_ : RJ (upd (upd (upd (upd (upd (upd f 4 z161) 10 z168) 15 z0) 20 z150) 62 o136) 75 m137) g'169 (((22 : Int), z165.toInt, tw.toInt, (0 : Int), []) :: gs) bc [] 0 [] := hR174
            show am_E _ _ _ _ [some (.ref 39), some (.int on), some (.int tw), some (.int (g 16 z0.toNatClampNeg)), some (.int r3), some (.int 1), some (.int (g 18 z0.toNatClampNeg)), some (.int r139)] [] _ _
            refine am_e2 (v := 39) hi_264_240 rfl ?_
            refine am_e32w (as := [.ref 39]) (la := [some (.ref 39)]) (rest := []) hi_264_241 (am_hd0 (M := 264) (by decide) 241) (Nat.le_of_ble_eq_true rfl) (Nat.le_of_ble_eq_true rfl) (show 1 ≤ am_P0.2.2.1 214 from by decide +kernel) rfl (am_recv_ok hS171.fs) rfl rfl ?_
            refine am_e2 (v := 39) hi_214_0 rfl ?_
            refine am_e0 hi_214_1 ?_
            refine am_e0 hi_214_3 ?_
            refine am_e0 hi_214_4 ?_
            refine am_e0 hi_214_5 ?_
            refine am_e32n (as := [.ref 39, .int 34, .int 1, .int 0, .int 0]) (la := [some (.ref 39), some (.int 34), some (.int 1), some (.int 0), some (.int 0)]) (rest := []) hi_214_6 (am_hd0 (M := 214) (by decide) 6) (Nat.le_of_ble_eq_true rfl) (Nat.le_of_ble_eq_true rfl) (show 5 ≤ am_P0.2.2.1 179 from by decide +kernel) rfl (am_recv_ok hS171.fs) rfl rfl (ct_pile (d := (d + 5)) hS171 hR174_ (mj_e_plain (by decide)) (by show (0 : Int) ≤ z168.toInt; omega) (by show z168.toInt ≤ (65535 : Int); omega)) ?_
            rintro v175 S176 (⟨z177, g'178, hv179, hS180, hR183, h181, h182⟩)
            subst hv179
            have h181_ : z177.toInt = z168.toInt + 1 := h181
            have h182_ : ∀ j, j ∉ [11, 12, 13, 14] → g'178 j = g'169 j := h182
            replace hS180 : MS S0 S176 (upd (upd (upd (upd (upd (upd f 4 z161) 10 z177) 15 z0) 20 z150) 62 o136) 75 m137) g'178 := hS180
            have hR183_ : RJ (upd (upd (upd (upd (upd (upd f 4 z161) 10 z177) 15 z0) 20 z150) 62 o136) 75 m137) g'178 (((34 : Int), (1 : Int), (0 : Int), (0 : Int), []) :: (((22 : Int), z165.toInt, tw.toInt, (0 : Int), []) :: gs)) bc [] 0 [] := hR183
            show am_E _ _ _ _ [some (.ref 39)] [] _ _
            refine am_e2 (v := 39) hi_214_9 rfl ?_
            refine am_e0 hi_214_10 ?_
            refine am_e32w (as := [.ref 39, .int 0]) (la := [some (.ref 39), some (.int 0)]) (rest := []) hi_214_11 (am_hd0 (M := 214) (by decide) 11) (Nat.le_of_ble_eq_true rfl) (Nat.le_of_ble_eq_true rfl) (show 2 ≤ am_P0.2.2.1 186 from by decide +kernel) rfl (am_recv_ok hS180.fs) rfl rfl ?_
            refine am_e2 (v := 39) hi_186_0 rfl ?_
            refine am_e0 hi_186_1 ?_
            refine am_e1 (v := 0) hi_186_3 rfl ?_
            refine am_e0 hi_186_4 ?_
            refine am_e0 hi_186_5 ?_
            refine am_e32n (as := [.ref 39, .int 23, .int 0, .int 0, .int 0]) (la := [some (.ref 39), some (.int 23), some (.int 0), some (.int 0), some (.int 0)]) (rest := []) hi_186_6 (am_hd0 (M := 186) (by decide) 6) (Nat.le_of_ble_eq_true rfl) (Nat.le_of_ble_eq_true rfl) (show 5 ≤ am_P0.2.2.1 179 from by decide +kernel) rfl (am_recv_ok hS180.fs) rfl rfl (ct_pile (d := (d + 4)) hS180 hR183_ (mj_e_plain (by decide)) (by show (0 : Int) ≤ z177.toInt; omega) (by show z177.toInt ≤ (65535 : Int); omega)) ?_
            rintro v184 S185 (⟨z186, g'187, hv188, hS189, hR192, h190, h191⟩)
            subst hv188
            have h190_ : z186.toInt = z177.toInt + 1 := h190
            have h191_ : ∀ j, j ∉ [11, 12, 13, 14] → g'187 j = g'178 j := h191
            replace hS189 : MS S0 S185 (upd (upd (upd (upd (upd (upd f 4 z161) 10 z186) 15 z0) 20 z150) 62 o136) 75 m137) g'187 := hS189
            have hR192_ : RJ (upd (upd (upd (upd (upd (upd f 4 z161) 10 z186) 15 z0) 20 z150) 62 o136) 75 m137) g'187 (((23 : Int), (0 : Int), (0 : Int), (0 : Int), []) :: (((34 : Int), (1 : Int), (0 : Int), (0 : Int), []) :: (((22 : Int), z165.toInt, tw.toInt, (0 : Int), []) :: gs))) bc [] 0 [] := hR192
            show am_E _ _ _ _ [some (.ref 39), some (.int 0)] [] _ _
            refine am_e35 hi_186_9 ?_
            show am_E _ _ _ _ [some (.ref 39)] [] _ _
            refine am_e35 hi_214_14 ?_
            show am_E _ _ _ _ [some (.ref 39), some (.int on), some (.int tw), some (.int (g 16 z0.toNatClampNeg)), some (.int r3), some (.int 1), some (.int (g 18 z0.toNatClampNeg)), some (.int r139)] [] _ _
            refine am_e35 hi_264_244 ?_
            show am_E _ _ _ _ [some (.ref 39), some (.int 21), some (.int on), some (.int tw), some (.int th)] [] _ _
            refine am_e18 hi_180_362 ?_
            refine am_e35 hi_180_371 ?_
            have q1 : mg_p1 (((23 : Int), (0 : Int), (0 : Int), (0 : Int), []) :: (((34 : Int), (1 : Int), (0 : Int), (0 : Int), []) :: (((22 : Int), z165.toInt, tw.toInt, (0 : Int), []) :: gs))) = 0 + (0 + (0 + (mg_p1 gs))) := rfl
            have q2 : mg_p2 (((23 : Int), (0 : Int), (0 : Int), (0 : Int), []) :: (((34 : Int), (1 : Int), (0 : Int), (0 : Int), []) :: (((22 : Int), z165.toInt, tw.toInt, (0 : Int), []) :: gs))) = 0 + (((1 : Int) - 1) + (0 + (mg_p2 gs))) := rfl
            have q3 : mg_p3 (((23 : Int), (0 : Int), (0 : Int), (0 : Int), []) :: (((34 : Int), (1 : Int), (0 : Int), (0 : Int), []) :: (((22 : Int), z165.toInt, tw.toInt, (0 : Int), []) :: gs))) = 1 + (1 + (1 + (mg_p3 gs))) := rfl
            have q4 : mg_p4 (((23 : Int), (0 : Int), (0 : Int), (0 : Int), []) :: (((34 : Int), (1 : Int), (0 : Int), (0 : Int), []) :: (((22 : Int), z165.toInt, tw.toInt, (0 : Int), []) :: gs))) = 0 + (0 + (5 + (mg_p4 gs))) := rfl
            refine ⟨_, _, _, bc, rfl, hS189, Or.inl ⟨⟨hR192_, ?_, ?_⟩, rfl, ?_⟩⟩
            · exact (⟨⟨(show mg_k 23 from by decide), (show (0 : Int) ≤ z0.toInt from by omega), (show 0 ≤ z150.toInt from by omega), (show 1 ≤ (f 37).toInt from by omega), (show 0 ≤ (f 32).toInt from by omega), (show (f 32).toInt ≤ (f 5).toInt from by omega), (show (f 5).toInt ≤ 48 from by omega), (show (f 37).toInt ≤ 2 * ((f 5).toInt) + 2 from by omega), (show 0 ≤ (0 : Int) from by omega)⟩, ⟨⟨(show mg_k 34 from by decide), (show (1 : Int) ≤ z0.toInt + 1 from by omega), (show 0 ≤ z150.toInt from by omega), (show 1 ≤ (f 37).toInt + 0 from by omega), (show 0 ≤ (f 32).toInt + 0 from by omega), (show (f 32).toInt + 0 ≤ (f 5).toInt + 0 from by omega), (show (f 5).toInt + 0 ≤ 48 from by omega), (show (f 37).toInt + 0 ≤ 2 * ((f 5).toInt + 0) + 2 from by omega), (show 1 ≤ (1 : Int) from by omega)⟩, ⟨⟨(show mg_k 22 from by decide), (show (1 : Int) ≤ z0.toInt + 1 + 0 from by omega), (show 0 ≤ z150.toInt from by omega), (show 1 ≤ (f 37).toInt + 0 + 0 from by omega), (show 0 ≤ (f 32).toInt + 0 + 0 from by omega), (show (f 32).toInt + 0 + 0 ≤ (f 5).toInt + 0 + 0 from by omega), (show (f 5).toInt + 0 + 0 ≤ 48 from by omega), (show (f 37).toInt + 0 + 0 ≤ 2 * ((f 5).toInt + 0 + 0) + 1 from by omega), ⟨(show 0 ≤ z165.toInt from by omega), (show 0 ≤ tw.toInt from by omega), (show z150.toInt = tw.toInt + z165.toInt from by omega)⟩⟩, mg_cast (mg_good_ext _ _ _ _ _ _ (fun i _ => by show g'187 34 i = g 34 i; rw [show g'187 34 = g'178 34 from h191_ 34 (by decide), show g'178 34 = g'169 34 from h182_ 34 (by decide), show g'169 34 = g'151 34 from h173_ 34 (by decide), show g'151 34 = g'138 34 from h155_ 34 (by decide), show g'138 34 = g 34 from h146_ 34 (by decide)]) (fun i _ => by show g'187 38 i = g 38 i; rw [show g'187 38 = g'178 38 from h191_ 38 (by decide), show g'178 38 = g'169 38 from h182_ 38 (by decide), show g'169 38 = g'151 38 from h173_ 38 (by decide), show g'151 38 = g'138 38 from h155_ 38 (by decide), show g'138 38 = g 38 from h146_ 38 (by decide)]) (fun i hi => by show g'187 23 i = g 23 i; rw [show g'187 23 = g'178 23 from h191_ 23 (by decide), show g'178 23 = g'169 23 from h182_ 23 (by decide), show g'169 23 = g'151 23 from h173_ 23 (by decide), h156_, show g'138 23 = g 23 from h146_ 23 (by decide)]; exact upd_ne (by rw [cl_toNat]; omega)) hrest) (by show (f 15).toInt + -1 = z0.toInt + 1 + 0 + -1; omega) (by show tw.toInt = tw.toInt; omega) (by show (f 37).toInt + 0 = (f 37).toInt + 0 + 0 + 0; omega) (by show (f 32).toInt + 0 = (f 32).toInt + 0 + 0 + 0; omega) (by show (f 5).toInt + 0 = (f 5).toInt + 0 + 0 + 0; omega)⟩⟩⟩ : mg_good (g'187 34) (g'187 38) (g'187 23) (((23 : Int), (0 : Int), (0 : Int), (0 : Int), []) :: (((34 : Int), (1 : Int), (0 : Int), (0 : Int), []) :: (((22 : Int), z165.toInt, tw.toInt, (0 : Int), []) :: gs))) (z0.toInt) (z150.toInt) ((f 37).toInt) ((f 32).toInt) ((f 5).toInt))
            · exact ⟨(by show 0 ≤ z161.toInt; omega), (by show z161.toInt ≤ (f 0).toInt; omega), (by show (f 0).toInt ≤ 512; omega), (by show 0 ≤ (f 24).toInt; omega), (by show (f 24).toInt + z150.toInt + mg_p1 (((23 : Int), (0 : Int), (0 : Int), (0 : Int), []) :: (((34 : Int), (1 : Int), (0 : Int), (0 : Int), []) :: (((22 : Int), z165.toInt, tw.toInt, (0 : Int), []) :: gs))) ≤ 4 * z161.toInt; omega), (by show z150.toInt ≤ z161.toInt; omega), (by show z0.toInt + mg_p2 (((23 : Int), (0 : Int), (0 : Int), (0 : Int), []) :: (((34 : Int), (1 : Int), (0 : Int), (0 : Int), []) :: (((22 : Int), z165.toInt, tw.toInt, (0 : Int), []) :: gs))) ≤ z161.toInt; omega), (by show mg_p3 (((23 : Int), (0 : Int), (0 : Int), (0 : Int), []) :: (((34 : Int), (1 : Int), (0 : Int), (0 : Int), []) :: (((22 : Int), z165.toInt, tw.toInt, (0 : Int), []) :: gs))) ≤ 20 * z161.toInt + 20; omega), (by show 0 ≤ (f 68).toInt; omega), (by show (f 68).toInt + 3 * z150.toInt + mg_p4 (((23 : Int), (0 : Int), (0 : Int), (0 : Int), []) :: (((34 : Int), (1 : Int), (0 : Int), (0 : Int), []) :: (((22 : Int), z165.toInt, tw.toInt, (0 : Int), []) :: gs))) ≤ 60 * z161.toInt + 60; omega), (by show 0 ≤ o136.toInt; omega), (by show o136.toInt + 64 * mj_n (g'187 16) z0.toNatClampNeg 3 ≤ 64 * z161.toInt; rw [show g'187 16 = g'178 16 from h191_ 16 (by decide), show g'178 16 = g'169 16 from h182_ 16 (by decide), show g'169 16 = g'151 16 from h173_ 16 (by decide), show g'151 16 = g'138 16 from h155_ 16 (by decide), show g'138 16 = g 16 from h146_ 16 (by decide)]; omega), (by show 0 ≤ (f 44).toInt; omega), (by show (f 44).toInt ≤ z161.toInt; omega), (by show 0 ≤ (f 48).toInt; omega), (by show (f 48).toInt ≤ z161.toInt; omega), (by show 1 ≤ (f 53).toInt; omega), (by show (f 53).toInt ≤ z161.toInt + 1; omega), (by show 0 ≤ (f 19).toInt; omega), (by show (f 19).toInt ≤ 600; omega)⟩
            · show 100 * ((f 0).toInt - z161.toInt) + mg_p3 (((23 : Int), (0 : Int), (0 : Int), (0 : Int), []) :: (((34 : Int), (1 : Int), (0 : Int), (0 : Int), []) :: (((22 : Int), z165.toInt, tw.toInt, (0 : Int), []) :: gs))) < 100 * ((f 0).toInt - (f 4).toInt) + (1 + mg_p3 gs); omega
          · refine am_e12f hi_237_12 (am_cF (m := r127.toInt) (n := (0 : Int)) rfl (by decide) c133) ?_
            refine am_e2 (v := 39) hi_237_15 rfl ?_
            refine mm_20 (v := .ref 56) hS129 hi_237_16 rfl ?_
            refine am_e1 (v := r127) hi_237_19 rfl ?_
            refine mm_25 hS129 ma_29 hi_237_20 (by decide) (by omega) (by omega) ?_
            show am_E _ _ _ _ [some (.ref 39), some (.int (g 18 z0.toNatClampNeg)), some (.int r127)] [.int (g 29 r127.toNatClampNeg)] _ _
            by_cases c193 : (g 29 r127.toNatClampNeg).toInt = (0 : Int)
            · refine am_e12t hi_237_21 (am_cT (m := (g 29 r127.toNatClampNeg).toInt) (n := (0 : Int)) rfl (by decide) c193) ?_
              refine am_e2 (v := 39) hi_237_31 rfl ?_
              refine am_e1 (v := g 18 z0.toNatClampNeg) hi_237_32 rfl ?_
              refine am_e32n (as := [.ref 39, .int (g 18 z0.toNatClampNeg)]) (la := [some (.ref 39), some (.int (g 18 z0.toNatClampNeg)), none, none, none]) (rest := []) hi_237_33 (am_hd0 (M := 237) (by decide) 33) (Nat.le_of_ble_eq_true rfl) (Nat.le_of_ble_eq_true rfl) (show 2 ≤ am_P0.2.2.1 205 from by decide +kernel) rfl (am_recv_ok hS129.fs) rfl rfl (ct_resolve (d := (d + 4)) hS129 hR  (by show (0 : Int) ≤ (f 32).toInt; omega) (by show (f 32).toInt ≤ (63 : Int); omega) (by show (f 53).toInt ≤ (4096 : Int); omega) (by show (0 : Int) ≤ (f 24).toInt; omega) (by show (f 24).toInt ≤ (16384 : Int); omega) (by show (0 : Int) ≤ (f 62).toInt; omega) (by show (f 62).toInt ≤ (65000 : Int); omega) (by show (0 : Int) ≤ (g 18 z0.toNatClampNeg).toInt; omega) (by show (g 18 z0.toNatClampNeg).toInt ≤ (16383 : Int); omega)) ?_
              rintro v194 S195 (⟨o196, m197, g'198, r199, hv200, hS201, hR207, h202, h203, h204, h205, h206⟩)
              subst hv200
              have h202_ : (f 62).toInt ≤ o196.toInt := h202
              have h203_ : o196.toInt ≤ (f 62).toInt + 64 := h203
              have h204_ : (0 : Int) ≤ r199.toInt := h204
              have h205_ : r199.toInt ≤ (2 : Int) := h205
              have h206_ : ∀ j, j ∉ [63, 64, 65, 66, 67] → g'198 j = g j := h206
              have hR207_ : RJ (upd (upd f 62 o196) 75 m197) g'198 gs bc [] 0 [] := hR207
              show am_E _ _ _ _ [some (.ref 39), some (.int (g 18 z0.toNatClampNeg)), some (.int r127)] [.int r199] _ _
              refine am_e33 hi_237_36 ?_
              show am_E _ _ _ _ [some (.ref 39), some (.int on), some (.int tw), some (.int (g 16 z0.toNatClampNeg)), some (.int r3), some (.int 1), some (.int (g 18 z0.toNatClampNeg)), none] [.int r199] _ _
              refine am_e3 (ls' := [some (.ref 39), some (.int on), some (.int tw), some (.int (g 16 z0.toNatClampNeg)), some (.int r3), some (.int 1), some (.int (g 18 z0.toNatClampNeg)), some (.int r199)]) hi_264_126 (Nat.le_of_ble_eq_true rfl) rfl ?_
              refine am_e2 (v := 39) hi_264_128 rfl ?_
              refine am_e1 (v := r199) hi_264_129 rfl ?_
              refine am_e2 (v := 39) hi_264_131 rfl ?_
              refine mm_20 (v := .int m197) hS201 hi_264_132 rfl ?_
              refine am_e1 (v := g 18 z0.toNatClampNeg) hi_264_135 rfl ?_
              refine am_e32n (as := [.ref 39, .int r199, .int m197, .int (g 18 z0.toNatClampNeg)]) (la := [some (.ref 39), some (.int r199), some (.int m197), some (.int (g 18 z0.toNatClampNeg))]) (rest := []) hi_264_137 (am_hd0 (M := 264) (by decide) 137) (Nat.le_of_ble_eq_true rfl) (Nat.le_of_ble_eq_true rfl) (show 4 ≤ am_P0.2.2.1 239 from by decide +kernel) rfl (am_recv_ok hS201.fs) rfl rfl (ct_keep2 (d := (d + 6)) hS201 hR207_  (by show (0 : Int) ≤ (f 20).toInt; omega) (by show (f 20).toInt ≤ (16383 : Int); omega)) ?_
              rintro v208 S209 (⟨z210, g'211, hv212, hS213, hR217, h214, h215, h216⟩)
              subst hv212
              have h214_ : z210.toInt = (f 20).toInt + 1 := h214
              have h215_ : ∀ j, j ∉ [21, 22, 23] → g'211 j = g'198 j := h215
              have h216_ : g'211 23 = upd (g'198 23) (f 20).toNatClampNeg (g 18 z0.toNatClampNeg) := h216
              replace hS213 : MS S0 S209 (upd (upd (upd f 20 z210) 62 o196) 75 m197) g'211 := hS213
              have hR217_ : RJ (upd (upd (upd f 20 z210) 62 o196) 75 m197) g'211 gs bc [] 0 [] := hR217
              show am_E _ _ _ _ [some (.ref 39), some (.int on), some (.int tw), some (.int (g 16 z0.toNatClampNeg)), some (.int r3), some (.int 1), some (.int (g 18 z0.toNatClampNeg)), some (.int r199)] [] _ _
              refine am_e18 hi_264_140 ?_
              refine am_e2 (v := 39) hi_264_175 rfl ?_
              refine am_e7 hi_264_176 ?_
              refine mm_20 (v := .int (f 15)) hS213 hi_264_177 rfl ?_
              refine am_e0 hi_264_180 ?_
              refine am_e10 (z := z0) hi_264_181 hz0 ?_
              refine mm_21 (v := z0) hS213 hi_264_182 rfl (Nat.le_of_ble_eq_true rfl) ms_15 ?_
              intro S218 hS219
              replace hS219 : MS S0 S218 (upd (upd (upd (upd f 15 z0) 20 z210) 62 o196) 75 m197) g'211 := hS219
              have hp220 : mj_n (g 16) (f 15).toNatClampNeg 3 = mj_n (g 16) z0.toNatClampNeg 3 + if (g 16 z0.toNatClampNeg).toInt = 3 then 1 else 0 := mj_pop (by rw [cl_toNat, cl_toNat]; omega)
              have hp2201 : mj_n (g 16) z0.toNatClampNeg 3 ≤ mj_n (g 16) (f 15).toNatClampNeg 3 := by rw [hp220]; split <;> omega
              have hp2202 : (g 16 z0.toNatClampNeg).toInt = 3 → mj_n (g 16) z0.toNatClampNeg 3 + 1 ≤ mj_n (g 16) (f 15).toNatClampNeg 3 := fun q => by rw [hp220, if_pos q]; exact Int.le_refl _
              refine am_e2 (v := 39) hi_264_185 rfl ?_
              refine am_e7 hi_264_186 ?_
              refine mm_20 (v := .int (f 4)) hS219 hi_264_187 rfl ?_
              refine am_e0 hi_264_190 ?_
              obtain ⟨z221, hz221, tz221⟩ := am_addI (x := f 4) (y := 1) (m := (f 4).toInt) (n := (1 : Int)) rfl (by decide) (by omega) (by omega)
              refine am_e10 (z := z221) hi_264_191 hz221 ?_
              refine mm_21 (v := z221) hS219 hi_264_192 rfl (Nat.le_of_ble_eq_true rfl) ms_4 ?_
              intro S222 hS223
              replace hS223 : MS S0 S222 (upd (upd (upd (upd (upd f 4 z221) 15 z0) 20 z210) 62 o196) 75 m197) g'211 := hS223
              have hR224 : RJ (upd (upd (upd (upd (upd f 4 z221) 15 z0) 20 z210) 62 o196) 75 m197) g'211 gs bc [] 0 [] := RJ.at hR217_ (by show (f 4).toInt ≤ z221.toInt; omega)
              refine am_e1 (v := r3) hi_264_195 rfl ?_
              refine am_e0 hi_264_197 ?_
              refine am_e13t hi_264_199 (am_cT (m := r3.toInt) (n := (69 : Int)) rfl (by decide) (by simp only [am_cI]; omega)) ?_
              refine am_e2 (v := 39) hi_264_229 rfl ?_
              refine am_e0 hi_264_230 ?_
              refine am_e1 (v := on) hi_264_232 rfl ?_
              refine am_e0 hi_264_233 ?_
              obtain ⟨z225, hz225, tz225⟩ := am_addI (x := on) (y := 1) (m := on.toInt) (n := (1 : Int)) rfl (by decide) (by omega) (by omega)
              refine am_e10 (z := z225) hi_264_234 hz225 ?_
              refine am_e1 (v := tw) hi_264_235 rfl ?_
              refine am_e0 hi_264_236 ?_
              refine am_e32n (as := [.ref 39, .int 22, .int z225, .int tw, .int 0]) (la := [some (.ref 39), some (.int 22), some (.int z225), some (.int tw), some (.int 0)]) (rest := []) hi_264_237 (am_hd0 (M := 264) (by decide) 237) (Nat.le_of_ble_eq_true rfl) (Nat.le_of_ble_eq_true rfl) (show 5 ≤ am_P0.2.2.1 179 from by decide +kernel) rfl (am_recv_ok hS223.fs) rfl rfl (ct_pile (d := (d + 6)) hS223 hR224 (mj_e_plain (by decide)) (by show (0 : Int) ≤ (f 10).toInt; omega) (by show (f 10).toInt ≤ (65535 : Int); omega)) ?_
              rintro v226 S227 (⟨z228, g'229, hv230, hS231, hR234, h232, h233⟩)
              subst hv230
              have h232_ : z228.toInt = (f 10).toInt + 1 := h232
              have h233_ : ∀ j, j ∉ [11, 12, 13, 14] → g'229 j = g'211 j := h233
              replace hS231 : MS S0 S227 (upd (upd (upd (upd (upd (upd f 4 z221) 10 z228) 15 z0) 20 z210) 62 o196) 75 m197) g'229 := hS231
              have hR234_ : RJ (upd (upd (upd (upd (upd (upd f 4 z221) 10 z228) 15 z0) 20 z210) 62 o196) 75 m197) g'229 (((22 : Int), z225.toInt, tw.toInt, (0 : Int), []) :: gs) bc [] 0 [] := hR234
              show am_E _ _ _ _ [some (.ref 39), some (.int on), some (.int tw), some (.int (g 16 z0.toNatClampNeg)), some (.int r3), some (.int 1), some (.int (g 18 z0.toNatClampNeg)), some (.int r199)] [] _ _
              refine am_e2 (v := 39) hi_264_240 rfl ?_
              refine am_e32w (as := [.ref 39]) (la := [some (.ref 39)]) (rest := []) hi_264_241 (am_hd0 (M := 264) (by decide) 241) (Nat.le_of_ble_eq_true rfl) (Nat.le_of_ble_eq_true rfl) (show 1 ≤ am_P0.2.2.1 214 from by decide +kernel) rfl (am_recv_ok hS231.fs) rfl rfl ?_
              refine am_e2 (v := 39) hi_214_0 rfl ?_
              refine am_e0 hi_214_1 ?_
              refine am_e0 hi_214_3 ?_
              refine am_e0 hi_214_4 ?_
              refine am_e0 hi_214_5 ?_
              refine am_e32n (as := [.ref 39, .int 34, .int 1, .int 0, .int 0]) (la := [some (.ref 39), some (.int 34), some (.int 1), some (.int 0), some (.int 0)]) (rest := []) hi_214_6 (am_hd0 (M := 214) (by decide) 6) (Nat.le_of_ble_eq_true rfl) (Nat.le_of_ble_eq_true rfl) (show 5 ≤ am_P0.2.2.1 179 from by decide +kernel) rfl (am_recv_ok hS231.fs) rfl rfl (ct_pile (d := (d + 5)) hS231 hR234_ (mj_e_plain (by decide)) (by show (0 : Int) ≤ z228.toInt; omega) (by show z228.toInt ≤ (65535 : Int); omega)) ?_
              rintro v235 S236 (⟨z237, g'238, hv239, hS240, hR243, h241, h242⟩)
              subst hv239
              have h241_ : z237.toInt = z228.toInt + 1 := h241
              have h242_ : ∀ j, j ∉ [11, 12, 13, 14] → g'238 j = g'229 j := h242
              replace hS240 : MS S0 S236 (upd (upd (upd (upd (upd (upd f 4 z221) 10 z237) 15 z0) 20 z210) 62 o196) 75 m197) g'238 := hS240
              have hR243_ : RJ (upd (upd (upd (upd (upd (upd f 4 z221) 10 z237) 15 z0) 20 z210) 62 o196) 75 m197) g'238 (((34 : Int), (1 : Int), (0 : Int), (0 : Int), []) :: (((22 : Int), z225.toInt, tw.toInt, (0 : Int), []) :: gs)) bc [] 0 [] := hR243
              show am_E _ _ _ _ [some (.ref 39)] [] _ _
              refine am_e2 (v := 39) hi_214_9 rfl ?_
              refine am_e0 hi_214_10 ?_
              refine am_e32w (as := [.ref 39, .int 0]) (la := [some (.ref 39), some (.int 0)]) (rest := []) hi_214_11 (am_hd0 (M := 214) (by decide) 11) (Nat.le_of_ble_eq_true rfl) (Nat.le_of_ble_eq_true rfl) (show 2 ≤ am_P0.2.2.1 186 from by decide +kernel) rfl (am_recv_ok hS240.fs) rfl rfl ?_
              refine am_e2 (v := 39) hi_186_0 rfl ?_
              refine am_e0 hi_186_1 ?_
              refine am_e1 (v := 0) hi_186_3 rfl ?_
              refine am_e0 hi_186_4 ?_
              refine am_e0 hi_186_5 ?_
              refine am_e32n (as := [.ref 39, .int 23, .int 0, .int 0, .int 0]) (la := [some (.ref 39), some (.int 23), some (.int 0), some (.int 0), some (.int 0)]) (rest := []) hi_186_6 (am_hd0 (M := 186) (by decide) 6) (Nat.le_of_ble_eq_true rfl) (Nat.le_of_ble_eq_true rfl) (show 5 ≤ am_P0.2.2.1 179 from by decide +kernel) rfl (am_recv_ok hS240.fs) rfl rfl (ct_pile (d := (d + 4)) hS240 hR243_ (mj_e_plain (by decide)) (by show (0 : Int) ≤ z237.toInt; omega) (by show z237.toInt ≤ (65535 : Int); omega)) ?_
              rintro v244 S245 (⟨z246, g'247, hv248, hS249, hR252, h250, h251⟩)
              subst hv248
              have h250_ : z246.toInt = z237.toInt + 1 := h250
              have h251_ : ∀ j, j ∉ [11, 12, 13, 14] → g'247 j = g'238 j := h251
              replace hS249 : MS S0 S245 (upd (upd (upd (upd (upd (upd f 4 z221) 10 z246) 15 z0) 20 z210) 62 o196) 75 m197) g'247 := hS249
              have hR252_ : RJ (upd (upd (upd (upd (upd (upd f 4 z221) 10 z246) 15 z0) 20 z210) 62 o196) 75 m197) g'247 (((23 : Int), (0 : Int), (0 : Int), (0 : Int), []) :: (((34 : Int), (1 : Int), (0 : Int), (0 : Int), []) :: (((22 : Int), z225.toInt, tw.toInt, (0 : Int), []) :: gs))) bc [] 0 [] := hR252
              show am_E _ _ _ _ [some (.ref 39), some (.int 0)] [] _ _
              refine am_e35 hi_186_9 ?_
              show am_E _ _ _ _ [some (.ref 39)] [] _ _
              refine am_e35 hi_214_14 ?_
              show am_E _ _ _ _ [some (.ref 39), some (.int on), some (.int tw), some (.int (g 16 z0.toNatClampNeg)), some (.int r3), some (.int 1), some (.int (g 18 z0.toNatClampNeg)), some (.int r199)] [] _ _
              refine am_e35 hi_264_244 ?_
              show am_E _ _ _ _ [some (.ref 39), some (.int 21), some (.int on), some (.int tw), some (.int th)] [] _ _
              refine am_e18 hi_180_362 ?_
              refine am_e35 hi_180_371 ?_
              have q1 : mg_p1 (((23 : Int), (0 : Int), (0 : Int), (0 : Int), []) :: (((34 : Int), (1 : Int), (0 : Int), (0 : Int), []) :: (((22 : Int), z225.toInt, tw.toInt, (0 : Int), []) :: gs))) = 0 + (0 + (0 + (mg_p1 gs))) := rfl
              have q2 : mg_p2 (((23 : Int), (0 : Int), (0 : Int), (0 : Int), []) :: (((34 : Int), (1 : Int), (0 : Int), (0 : Int), []) :: (((22 : Int), z225.toInt, tw.toInt, (0 : Int), []) :: gs))) = 0 + (((1 : Int) - 1) + (0 + (mg_p2 gs))) := rfl
              have q3 : mg_p3 (((23 : Int), (0 : Int), (0 : Int), (0 : Int), []) :: (((34 : Int), (1 : Int), (0 : Int), (0 : Int), []) :: (((22 : Int), z225.toInt, tw.toInt, (0 : Int), []) :: gs))) = 1 + (1 + (1 + (mg_p3 gs))) := rfl
              have q4 : mg_p4 (((23 : Int), (0 : Int), (0 : Int), (0 : Int), []) :: (((34 : Int), (1 : Int), (0 : Int), (0 : Int), []) :: (((22 : Int), z225.toInt, tw.toInt, (0 : Int), []) :: gs))) = 0 + (0 + (5 + (mg_p4 gs))) := rfl
              refine ⟨_, _, _, bc, rfl, hS249, Or.inl ⟨⟨hR252_, ?_, ?_⟩, rfl, ?_⟩⟩
              · exact (⟨⟨(show mg_k 23 from by decide), (show (0 : Int) ≤ z0.toInt from by omega), (show 0 ≤ z210.toInt from by omega), (show 1 ≤ (f 37).toInt from by omega), (show 0 ≤ (f 32).toInt from by omega), (show (f 32).toInt ≤ (f 5).toInt from by omega), (show (f 5).toInt ≤ 48 from by omega), (show (f 37).toInt ≤ 2 * ((f 5).toInt) + 2 from by omega), (show 0 ≤ (0 : Int) from by omega)⟩, ⟨⟨(show mg_k 34 from by decide), (show (1 : Int) ≤ z0.toInt + 1 from by omega), (show 0 ≤ z210.toInt from by omega), (show 1 ≤ (f 37).toInt + 0 from by omega), (show 0 ≤ (f 32).toInt + 0 from by omega), (show (f 32).toInt + 0 ≤ (f 5).toInt + 0 from by omega), (show (f 5).toInt + 0 ≤ 48 from by omega), (show (f 37).toInt + 0 ≤ 2 * ((f 5).toInt + 0) + 2 from by omega), (show 1 ≤ (1 : Int) from by omega)⟩, ⟨⟨(show mg_k 22 from by decide), (show (1 : Int) ≤ z0.toInt + 1 + 0 from by omega), (show 0 ≤ z210.toInt from by omega), (show 1 ≤ (f 37).toInt + 0 + 0 from by omega), (show 0 ≤ (f 32).toInt + 0 + 0 from by omega), (show (f 32).toInt + 0 + 0 ≤ (f 5).toInt + 0 + 0 from by omega), (show (f 5).toInt + 0 + 0 ≤ 48 from by omega), (show (f 37).toInt + 0 + 0 ≤ 2 * ((f 5).toInt + 0 + 0) + 1 from by omega), ⟨(show 0 ≤ z225.toInt from by omega), (show 0 ≤ tw.toInt from by omega), (show z210.toInt = tw.toInt + z225.toInt from by omega)⟩⟩, mg_cast (mg_good_ext _ _ _ _ _ _ (fun i _ => by show g'247 34 i = g 34 i; rw [show g'247 34 = g'238 34 from h251_ 34 (by decide), show g'238 34 = g'229 34 from h242_ 34 (by decide), show g'229 34 = g'211 34 from h233_ 34 (by decide), show g'211 34 = g'198 34 from h215_ 34 (by decide), show g'198 34 = g 34 from h206_ 34 (by decide)]) (fun i _ => by show g'247 38 i = g 38 i; rw [show g'247 38 = g'238 38 from h251_ 38 (by decide), show g'238 38 = g'229 38 from h242_ 38 (by decide), show g'229 38 = g'211 38 from h233_ 38 (by decide), show g'211 38 = g'198 38 from h215_ 38 (by decide), show g'198 38 = g 38 from h206_ 38 (by decide)]) (fun i hi => by show g'247 23 i = g 23 i; rw [show g'247 23 = g'238 23 from h251_ 23 (by decide), show g'238 23 = g'229 23 from h242_ 23 (by decide), show g'229 23 = g'211 23 from h233_ 23 (by decide), h216_, show g'198 23 = g 23 from h206_ 23 (by decide)]; exact upd_ne (by rw [cl_toNat]; omega)) hrest) (by show (f 15).toInt + -1 = z0.toInt + 1 + 0 + -1; omega) (by show tw.toInt = tw.toInt; omega) (by show (f 37).toInt + 0 = (f 37).toInt + 0 + 0 + 0; omega) (by show (f 32).toInt + 0 = (f 32).toInt + 0 + 0 + 0; omega) (by show (f 5).toInt + 0 = (f 5).toInt + 0 + 0 + 0; omega)⟩⟩⟩ : mg_good (g'247 34) (g'247 38) (g'247 23) (((23 : Int), (0 : Int), (0 : Int), (0 : Int), []) :: (((34 : Int), (1 : Int), (0 : Int), (0 : Int), []) :: (((22 : Int), z225.toInt, tw.toInt, (0 : Int), []) :: gs))) (z0.toInt) (z210.toInt) ((f 37).toInt) ((f 32).toInt) ((f 5).toInt))
              · exact ⟨(by show 0 ≤ z221.toInt; omega), (by show z221.toInt ≤ (f 0).toInt; omega), (by show (f 0).toInt ≤ 512; omega), (by show 0 ≤ (f 24).toInt; omega), (by show (f 24).toInt + z210.toInt + mg_p1 (((23 : Int), (0 : Int), (0 : Int), (0 : Int), []) :: (((34 : Int), (1 : Int), (0 : Int), (0 : Int), []) :: (((22 : Int), z225.toInt, tw.toInt, (0 : Int), []) :: gs))) ≤ 4 * z221.toInt; omega), (by show z210.toInt ≤ z221.toInt; omega), (by show z0.toInt + mg_p2 (((23 : Int), (0 : Int), (0 : Int), (0 : Int), []) :: (((34 : Int), (1 : Int), (0 : Int), (0 : Int), []) :: (((22 : Int), z225.toInt, tw.toInt, (0 : Int), []) :: gs))) ≤ z221.toInt; omega), (by show mg_p3 (((23 : Int), (0 : Int), (0 : Int), (0 : Int), []) :: (((34 : Int), (1 : Int), (0 : Int), (0 : Int), []) :: (((22 : Int), z225.toInt, tw.toInt, (0 : Int), []) :: gs))) ≤ 20 * z221.toInt + 20; omega), (by show 0 ≤ (f 68).toInt; omega), (by show (f 68).toInt + 3 * z210.toInt + mg_p4 (((23 : Int), (0 : Int), (0 : Int), (0 : Int), []) :: (((34 : Int), (1 : Int), (0 : Int), (0 : Int), []) :: (((22 : Int), z225.toInt, tw.toInt, (0 : Int), []) :: gs))) ≤ 60 * z221.toInt + 60; omega), (by show 0 ≤ o196.toInt; omega), (by show o196.toInt + 64 * mj_n (g'247 16) z0.toNatClampNeg 3 ≤ 64 * z221.toInt; rw [show g'247 16 = g'238 16 from h251_ 16 (by decide), show g'238 16 = g'229 16 from h242_ 16 (by decide), show g'229 16 = g'211 16 from h233_ 16 (by decide), show g'211 16 = g'198 16 from h215_ 16 (by decide), show g'198 16 = g 16 from h206_ 16 (by decide)]; omega), (by show 0 ≤ (f 44).toInt; omega), (by show (f 44).toInt ≤ z221.toInt; omega), (by show 0 ≤ (f 48).toInt; omega), (by show (f 48).toInt ≤ z221.toInt; omega), (by show 1 ≤ (f 53).toInt; omega), (by show (f 53).toInt ≤ z221.toInt + 1; omega), (by show 0 ≤ (f 19).toInt; omega), (by show (f 19).toInt ≤ 600; omega)⟩
              · show 100 * ((f 0).toInt - z221.toInt) + mg_p3 (((23 : Int), (0 : Int), (0 : Int), (0 : Int), []) :: (((34 : Int), (1 : Int), (0 : Int), (0 : Int), []) :: (((22 : Int), z225.toInt, tw.toInt, (0 : Int), []) :: gs))) < 100 * ((f 0).toInt - (f 4).toInt) + (1 + mg_p3 gs); omega
            · refine am_e12f hi_237_21 (am_cF (m := (g 29 r127.toNatClampNeg).toInt) (n := (0 : Int)) rfl (by decide) c193) ?_
              refine am_e2 (v := 39) hi_237_24 rfl ?_
              refine am_e0 hi_237_25 ?_
              refine am_e1 (v := g 18 z0.toNatClampNeg) hi_237_27 rfl ?_
              refine am_e32n (as := [.ref 39, .int 10, .int (g 18 z0.toNatClampNeg)]) (la := [some (.ref 39), some (.int 10), some (.int (g 18 z0.toNatClampNeg))]) (rest := []) hi_237_28 (am_hd0 (M := 237) (by decide) 28) (Nat.le_of_ble_eq_true rfl) (Nat.le_of_ble_eq_true rfl) (show 3 ≤ am_P0.2.2.1 191 from by decide +kernel) rfl (am_recv_ok hS129.fs) rfl rfl (ct_failName (d := (d + 5)) hS129   ) ?_
              rintro v253 S254 (⟨a255, b256, hv257, hS258⟩)
              subst hv257
              show am_E _ _ _ _ [some (.ref 39), some (.int (g 18 z0.toNatClampNeg)), some (.int r127)] [] _ _
              refine am_e2 (v := 39) hi_237_31 rfl ?_
              refine am_e1 (v := g 18 z0.toNatClampNeg) hi_237_32 rfl ?_
              refine am_e32n (as := [.ref 39, .int (g 18 z0.toNatClampNeg)]) (la := [some (.ref 39), some (.int (g 18 z0.toNatClampNeg)), none, none, none]) (rest := []) hi_237_33 (am_hd0 (M := 237) (by decide) 33) (Nat.le_of_ble_eq_true rfl) (Nat.le_of_ble_eq_true rfl) (show 2 ≤ am_P0.2.2.1 205 from by decide +kernel) rfl (am_recv_ok hS258.fs) rfl rfl (ct_resolve (d := (d + 4)) hS258 hR  (by show (0 : Int) ≤ (f 32).toInt; omega) (by show (f 32).toInt ≤ (63 : Int); omega) (by show (f 53).toInt ≤ (4096 : Int); omega) (by show (0 : Int) ≤ (f 24).toInt; omega) (by show (f 24).toInt ≤ (16384 : Int); omega) (by show (0 : Int) ≤ (f 62).toInt; omega) (by show (f 62).toInt ≤ (65000 : Int); omega) (by show (0 : Int) ≤ (g 18 z0.toNatClampNeg).toInt; omega) (by show (g 18 z0.toNatClampNeg).toInt ≤ (16383 : Int); omega)) ?_
              rintro v260 S261 (⟨o262, m263, g'264, r265, hv266, hS267, hR273, h268, h269, h270, h271, h272⟩)
              subst hv266
              have h268_ : (f 62).toInt ≤ o262.toInt := h268
              have h269_ : o262.toInt ≤ (f 62).toInt + 64 := h269
              have h270_ : (0 : Int) ≤ r265.toInt := h270
              have h271_ : r265.toInt ≤ (2 : Int) := h271
              have h272_ : ∀ j, j ∉ [63, 64, 65, 66, 67] → g'264 j = g j := h272
              have hR273_ : RJ (upd (upd (upd (upd f 8 a255) 9 b256) 62 o262) 75 m263) g'264 gs bc [] 0 [] := hR273
              show am_E _ _ _ _ [some (.ref 39), some (.int (g 18 z0.toNatClampNeg)), some (.int r127)] [.int r265] _ _
              refine am_e33 hi_237_36 ?_
              show am_E _ _ _ _ [some (.ref 39), some (.int on), some (.int tw), some (.int (g 16 z0.toNatClampNeg)), some (.int r3), some (.int 1), some (.int (g 18 z0.toNatClampNeg)), none] [.int r265] _ _
              refine am_e3 (ls' := [some (.ref 39), some (.int on), some (.int tw), some (.int (g 16 z0.toNatClampNeg)), some (.int r3), some (.int 1), some (.int (g 18 z0.toNatClampNeg)), some (.int r265)]) hi_264_126 (Nat.le_of_ble_eq_true rfl) rfl ?_
              refine am_e2 (v := 39) hi_264_128 rfl ?_
              refine am_e1 (v := r265) hi_264_129 rfl ?_
              refine am_e2 (v := 39) hi_264_131 rfl ?_
              refine mm_20 (v := .int m263) hS267 hi_264_132 rfl ?_
              refine am_e1 (v := g 18 z0.toNatClampNeg) hi_264_135 rfl ?_
              refine am_e32n (as := [.ref 39, .int r265, .int m263, .int (g 18 z0.toNatClampNeg)]) (la := [some (.ref 39), some (.int r265), some (.int m263), some (.int (g 18 z0.toNatClampNeg))]) (rest := []) hi_264_137 (am_hd0 (M := 264) (by decide) 137) (Nat.le_of_ble_eq_true rfl) (Nat.le_of_ble_eq_true rfl) (show 4 ≤ am_P0.2.2.1 239 from by decide +kernel) rfl (am_recv_ok hS267.fs) rfl rfl (ct_keep2 (d := (d + 6)) hS267 hR273_  (by show (0 : Int) ≤ (f 20).toInt; omega) (by show (f 20).toInt ≤ (16383 : Int); omega)) ?_
              rintro v274 S275 (⟨z276, g'277, hv278, hS279, hR283, h280, h281, h282⟩)
              subst hv278
              have h280_ : z276.toInt = (f 20).toInt + 1 := h280
              have h281_ : ∀ j, j ∉ [21, 22, 23] → g'277 j = g'264 j := h281
              have h282_ : g'277 23 = upd (g'264 23) (f 20).toNatClampNeg (g 18 z0.toNatClampNeg) := h282
              replace hS279 : MS S0 S275 (upd (upd (upd (upd (upd f 8 a255) 9 b256) 20 z276) 62 o262) 75 m263) g'277 := hS279
              have hR283_ : RJ (upd (upd (upd (upd (upd f 8 a255) 9 b256) 20 z276) 62 o262) 75 m263) g'277 gs bc [] 0 [] := hR283
              show am_E _ _ _ _ [some (.ref 39), some (.int on), some (.int tw), some (.int (g 16 z0.toNatClampNeg)), some (.int r3), some (.int 1), some (.int (g 18 z0.toNatClampNeg)), some (.int r265)] [] _ _
              refine am_e18 hi_264_140 ?_
              refine am_e2 (v := 39) hi_264_175 rfl ?_
              refine am_e7 hi_264_176 ?_
              refine mm_20 (v := .int (f 15)) hS279 hi_264_177 rfl ?_
              refine am_e0 hi_264_180 ?_
              refine am_e10 (z := z0) hi_264_181 hz0 ?_
              refine mm_21 (v := z0) hS279 hi_264_182 rfl (Nat.le_of_ble_eq_true rfl) ms_15 ?_
              intro S284 hS285
              replace hS285 : MS S0 S284 (upd (upd (upd (upd (upd (upd f 8 a255) 9 b256) 15 z0) 20 z276) 62 o262) 75 m263) g'277 := hS285
              have hp286 : mj_n (g 16) (f 15).toNatClampNeg 3 = mj_n (g 16) z0.toNatClampNeg 3 + if (g 16 z0.toNatClampNeg).toInt = 3 then 1 else 0 := mj_pop (by rw [cl_toNat, cl_toNat]; omega)
              have hp2861 : mj_n (g 16) z0.toNatClampNeg 3 ≤ mj_n (g 16) (f 15).toNatClampNeg 3 := by rw [hp286]; split <;> omega
              have hp2862 : (g 16 z0.toNatClampNeg).toInt = 3 → mj_n (g 16) z0.toNatClampNeg 3 + 1 ≤ mj_n (g 16) (f 15).toNatClampNeg 3 := fun q => by rw [hp286, if_pos q]; exact Int.le_refl _
              refine am_e2 (v := 39) hi_264_185 rfl ?_
              refine am_e7 hi_264_186 ?_
              refine mm_20 (v := .int (f 4)) hS285 hi_264_187 rfl ?_
              refine am_e0 hi_264_190 ?_
              obtain ⟨z287, hz287, tz287⟩ := am_addI (x := f 4) (y := 1) (m := (f 4).toInt) (n := (1 : Int)) rfl (by decide) (by omega) (by omega)
              refine am_e10 (z := z287) hi_264_191 hz287 ?_
              refine mm_21 (v := z287) hS285 hi_264_192 rfl (Nat.le_of_ble_eq_true rfl) ms_4 ?_
              intro S288 hS289
              replace hS289 : MS S0 S288 (upd (upd (upd (upd (upd (upd (upd f 4 z287) 8 a255) 9 b256) 15 z0) 20 z276) 62 o262) 75 m263) g'277 := hS289
              have hR290 : RJ (upd (upd (upd (upd (upd (upd (upd f 4 z287) 8 a255) 9 b256) 15 z0) 20 z276) 62 o262) 75 m263) g'277 gs bc [] 0 [] := RJ.at hR283_ (by show (f 4).toInt ≤ z287.toInt; omega)
              refine am_e1 (v := r3) hi_264_195 rfl ?_
              refine am_e0 hi_264_197 ?_
              refine am_e13t hi_264_199 (am_cT (m := r3.toInt) (n := (69 : Int)) rfl (by decide) (by simp only [am_cI]; omega)) ?_
              refine am_e2 (v := 39) hi_264_229 rfl ?_
              refine am_e0 hi_264_230 ?_
              refine am_e1 (v := on) hi_264_232 rfl ?_
              refine am_e0 hi_264_233 ?_
              obtain ⟨z291, hz291, tz291⟩ := am_addI (x := on) (y := 1) (m := on.toInt) (n := (1 : Int)) rfl (by decide) (by omega) (by omega)
              refine am_e10 (z := z291) hi_264_234 hz291 ?_
              refine am_e1 (v := tw) hi_264_235 rfl ?_
              refine am_e0 hi_264_236 ?_
              refine am_e32n (as := [.ref 39, .int 22, .int z291, .int tw, .int 0]) (la := [some (.ref 39), some (.int 22), some (.int z291), some (.int tw), some (.int 0)]) (rest := []) hi_264_237 (am_hd0 (M := 264) (by decide) 237) (Nat.le_of_ble_eq_true rfl) (Nat.le_of_ble_eq_true rfl) (show 5 ≤ am_P0.2.2.1 179 from by decide +kernel) rfl (am_recv_ok hS289.fs) rfl rfl (ct_pile (d := (d + 6)) hS289 hR290 (mj_e_plain (by decide)) (by show (0 : Int) ≤ (f 10).toInt; omega) (by show (f 10).toInt ≤ (65535 : Int); omega)) ?_
              rintro v292 S293 (⟨z294, g'295, hv296, hS297, hR300, h298, h299⟩)
              subst hv296
              have h298_ : z294.toInt = (f 10).toInt + 1 := h298
              have h299_ : ∀ j, j ∉ [11, 12, 13, 14] → g'295 j = g'277 j := h299
              replace hS297 : MS S0 S293 (upd (upd (upd (upd (upd (upd (upd (upd f 4 z287) 8 a255) 9 b256) 10 z294) 15 z0) 20 z276) 62 o262) 75 m263) g'295 := hS297
              have hR300_ : RJ (upd (upd (upd (upd (upd (upd (upd (upd f 4 z287) 8 a255) 9 b256) 10 z294) 15 z0) 20 z276) 62 o262) 75 m263) g'295 (((22 : Int), z291.toInt, tw.toInt, (0 : Int), []) :: gs) bc [] 0 [] := hR300
              show am_E _ _ _ _ [some (.ref 39), some (.int on), some (.int tw), some (.int (g 16 z0.toNatClampNeg)), some (.int r3), some (.int 1), some (.int (g 18 z0.toNatClampNeg)), some (.int r265)] [] _ _
              refine am_e2 (v := 39) hi_264_240 rfl ?_
              refine am_e32w (as := [.ref 39]) (la := [some (.ref 39)]) (rest := []) hi_264_241 (am_hd0 (M := 264) (by decide) 241) (Nat.le_of_ble_eq_true rfl) (Nat.le_of_ble_eq_true rfl) (show 1 ≤ am_P0.2.2.1 214 from by decide +kernel) rfl (am_recv_ok hS297.fs) rfl rfl ?_
              refine am_e2 (v := 39) hi_214_0 rfl ?_
              refine am_e0 hi_214_1 ?_
              refine am_e0 hi_214_3 ?_
              refine am_e0 hi_214_4 ?_
              refine am_e0 hi_214_5 ?_
              refine am_e32n (as := [.ref 39, .int 34, .int 1, .int 0, .int 0]) (la := [some (.ref 39), some (.int 34), some (.int 1), some (.int 0), some (.int 0)]) (rest := []) hi_214_6 (am_hd0 (M := 214) (by decide) 6) (Nat.le_of_ble_eq_true rfl) (Nat.le_of_ble_eq_true rfl) (show 5 ≤ am_P0.2.2.1 179 from by decide +kernel) rfl (am_recv_ok hS297.fs) rfl rfl (ct_pile (d := (d + 5)) hS297 hR300_ (mj_e_plain (by decide)) (by show (0 : Int) ≤ z294.toInt; omega) (by show z294.toInt ≤ (65535 : Int); omega)) ?_
              rintro v301 S302 (⟨z303, g'304, hv305, hS306, hR309, h307, h308⟩)
              subst hv305
              have h307_ : z303.toInt = z294.toInt + 1 := h307
              have h308_ : ∀ j, j ∉ [11, 12, 13, 14] → g'304 j = g'295 j := h308
              replace hS306 : MS S0 S302 (upd (upd (upd (upd (upd (upd (upd (upd f 4 z287) 8 a255) 9 b256) 10 z303) 15 z0) 20 z276) 62 o262) 75 m263) g'304 := hS306
              have hR309_ : RJ (upd (upd (upd (upd (upd (upd (upd (upd f 4 z287) 8 a255) 9 b256) 10 z303) 15 z0) 20 z276) 62 o262) 75 m263) g'304 (((34 : Int), (1 : Int), (0 : Int), (0 : Int), []) :: (((22 : Int), z291.toInt, tw.toInt, (0 : Int), []) :: gs)) bc [] 0 [] := hR309
              show am_E _ _ _ _ [some (.ref 39)] [] _ _
              refine am_e2 (v := 39) hi_214_9 rfl ?_
              refine am_e0 hi_214_10 ?_
              refine am_e32w (as := [.ref 39, .int 0]) (la := [some (.ref 39), some (.int 0)]) (rest := []) hi_214_11 (am_hd0 (M := 214) (by decide) 11) (Nat.le_of_ble_eq_true rfl) (Nat.le_of_ble_eq_true rfl) (show 2 ≤ am_P0.2.2.1 186 from by decide +kernel) rfl (am_recv_ok hS306.fs) rfl rfl ?_
              refine am_e2 (v := 39) hi_186_0 rfl ?_
              refine am_e0 hi_186_1 ?_
              refine am_e1 (v := 0) hi_186_3 rfl ?_
              refine am_e0 hi_186_4 ?_
              refine am_e0 hi_186_5 ?_
              refine am_e32n (as := [.ref 39, .int 23, .int 0, .int 0, .int 0]) (la := [some (.ref 39), some (.int 23), some (.int 0), some (.int 0), some (.int 0)]) (rest := []) hi_186_6 (am_hd0 (M := 186) (by decide) 6) (Nat.le_of_ble_eq_true rfl) (Nat.le_of_ble_eq_true rfl) (show 5 ≤ am_P0.2.2.1 179 from by decide +kernel) rfl (am_recv_ok hS306.fs) rfl rfl (ct_pile (d := (d + 4)) hS306 hR309_ (mj_e_plain (by decide)) (by show (0 : Int) ≤ z303.toInt; omega) (by show z303.toInt ≤ (65535 : Int); omega)) ?_
              rintro v310 S311 (⟨z312, g'313, hv314, hS315, hR318, h316, h317⟩)
              subst hv314
              have h316_ : z312.toInt = z303.toInt + 1 := h316
              have h317_ : ∀ j, j ∉ [11, 12, 13, 14] → g'313 j = g'304 j := h317
              replace hS315 : MS S0 S311 (upd (upd (upd (upd (upd (upd (upd (upd f 4 z287) 8 a255) 9 b256) 10 z312) 15 z0) 20 z276) 62 o262) 75 m263) g'313 := hS315
              have hR318_ : RJ (upd (upd (upd (upd (upd (upd (upd (upd f 4 z287) 8 a255) 9 b256) 10 z312) 15 z0) 20 z276) 62 o262) 75 m263) g'313 (((23 : Int), (0 : Int), (0 : Int), (0 : Int), []) :: (((34 : Int), (1 : Int), (0 : Int), (0 : Int), []) :: (((22 : Int), z291.toInt, tw.toInt, (0 : Int), []) :: gs))) bc [] 0 [] := hR318
              show am_E _ _ _ _ [some (.ref 39), some (.int 0)] [] _ _
              refine am_e35 hi_186_9 ?_
              show am_E _ _ _ _ [some (.ref 39)] [] _ _
              refine am_e35 hi_214_14 ?_
              show am_E _ _ _ _ [some (.ref 39), some (.int on), some (.int tw), some (.int (g 16 z0.toNatClampNeg)), some (.int r3), some (.int 1), some (.int (g 18 z0.toNatClampNeg)), some (.int r265)] [] _ _
              refine am_e35 hi_264_244 ?_
              show am_E _ _ _ _ [some (.ref 39), some (.int 21), some (.int on), some (.int tw), some (.int th)] [] _ _
              refine am_e18 hi_180_362 ?_
              refine am_e35 hi_180_371 ?_
              have q1 : mg_p1 (((23 : Int), (0 : Int), (0 : Int), (0 : Int), []) :: (((34 : Int), (1 : Int), (0 : Int), (0 : Int), []) :: (((22 : Int), z291.toInt, tw.toInt, (0 : Int), []) :: gs))) = 0 + (0 + (0 + (mg_p1 gs))) := rfl
              have q2 : mg_p2 (((23 : Int), (0 : Int), (0 : Int), (0 : Int), []) :: (((34 : Int), (1 : Int), (0 : Int), (0 : Int), []) :: (((22 : Int), z291.toInt, tw.toInt, (0 : Int), []) :: gs))) = 0 + (((1 : Int) - 1) + (0 + (mg_p2 gs))) := rfl
              have q3 : mg_p3 (((23 : Int), (0 : Int), (0 : Int), (0 : Int), []) :: (((34 : Int), (1 : Int), (0 : Int), (0 : Int), []) :: (((22 : Int), z291.toInt, tw.toInt, (0 : Int), []) :: gs))) = 1 + (1 + (1 + (mg_p3 gs))) := rfl
              have q4 : mg_p4 (((23 : Int), (0 : Int), (0 : Int), (0 : Int), []) :: (((34 : Int), (1 : Int), (0 : Int), (0 : Int), []) :: (((22 : Int), z291.toInt, tw.toInt, (0 : Int), []) :: gs))) = 0 + (0 + (5 + (mg_p4 gs))) := rfl
              refine ⟨_, _, _, bc, rfl, hS315, Or.inl ⟨⟨hR318_, ?_, ?_⟩, rfl, ?_⟩⟩
              · exact (⟨⟨(show mg_k 23 from by decide), (show (0 : Int) ≤ z0.toInt from by omega), (show 0 ≤ z276.toInt from by omega), (show 1 ≤ (f 37).toInt from by omega), (show 0 ≤ (f 32).toInt from by omega), (show (f 32).toInt ≤ (f 5).toInt from by omega), (show (f 5).toInt ≤ 48 from by omega), (show (f 37).toInt ≤ 2 * ((f 5).toInt) + 2 from by omega), (show 0 ≤ (0 : Int) from by omega)⟩, ⟨⟨(show mg_k 34 from by decide), (show (1 : Int) ≤ z0.toInt + 1 from by omega), (show 0 ≤ z276.toInt from by omega), (show 1 ≤ (f 37).toInt + 0 from by omega), (show 0 ≤ (f 32).toInt + 0 from by omega), (show (f 32).toInt + 0 ≤ (f 5).toInt + 0 from by omega), (show (f 5).toInt + 0 ≤ 48 from by omega), (show (f 37).toInt + 0 ≤ 2 * ((f 5).toInt + 0) + 2 from by omega), (show 1 ≤ (1 : Int) from by omega)⟩, ⟨⟨(show mg_k 22 from by decide), (show (1 : Int) ≤ z0.toInt + 1 + 0 from by omega), (show 0 ≤ z276.toInt from by omega), (show 1 ≤ (f 37).toInt + 0 + 0 from by omega), (show 0 ≤ (f 32).toInt + 0 + 0 from by omega), (show (f 32).toInt + 0 + 0 ≤ (f 5).toInt + 0 + 0 from by omega), (show (f 5).toInt + 0 + 0 ≤ 48 from by omega), (show (f 37).toInt + 0 + 0 ≤ 2 * ((f 5).toInt + 0 + 0) + 1 from by omega), ⟨(show 0 ≤ z291.toInt from by omega), (show 0 ≤ tw.toInt from by omega), (show z276.toInt = tw.toInt + z291.toInt from by omega)⟩⟩, mg_cast (mg_good_ext _ _ _ _ _ _ (fun i _ => by show g'313 34 i = g 34 i; rw [show g'313 34 = g'304 34 from h317_ 34 (by decide), show g'304 34 = g'295 34 from h308_ 34 (by decide), show g'295 34 = g'277 34 from h299_ 34 (by decide), show g'277 34 = g'264 34 from h281_ 34 (by decide), show g'264 34 = g 34 from h272_ 34 (by decide)]) (fun i _ => by show g'313 38 i = g 38 i; rw [show g'313 38 = g'304 38 from h317_ 38 (by decide), show g'304 38 = g'295 38 from h308_ 38 (by decide), show g'295 38 = g'277 38 from h299_ 38 (by decide), show g'277 38 = g'264 38 from h281_ 38 (by decide), show g'264 38 = g 38 from h272_ 38 (by decide)]) (fun i hi => by show g'313 23 i = g 23 i; rw [show g'313 23 = g'304 23 from h317_ 23 (by decide), show g'304 23 = g'295 23 from h308_ 23 (by decide), show g'295 23 = g'277 23 from h299_ 23 (by decide), h282_, show g'264 23 = g 23 from h272_ 23 (by decide)]; exact upd_ne (by rw [cl_toNat]; omega)) hrest) (by show (f 15).toInt + -1 = z0.toInt + 1 + 0 + -1; omega) (by show tw.toInt = tw.toInt; omega) (by show (f 37).toInt + 0 = (f 37).toInt + 0 + 0 + 0; omega) (by show (f 32).toInt + 0 = (f 32).toInt + 0 + 0 + 0; omega) (by show (f 5).toInt + 0 = (f 5).toInt + 0 + 0 + 0; omega)⟩⟩⟩ : mg_good (g'313 34) (g'313 38) (g'313 23) (((23 : Int), (0 : Int), (0 : Int), (0 : Int), []) :: (((34 : Int), (1 : Int), (0 : Int), (0 : Int), []) :: (((22 : Int), z291.toInt, tw.toInt, (0 : Int), []) :: gs))) (z0.toInt) (z276.toInt) ((f 37).toInt) ((f 32).toInt) ((f 5).toInt))
              · exact ⟨(by show 0 ≤ z287.toInt; omega), (by show z287.toInt ≤ (f 0).toInt; omega), (by show (f 0).toInt ≤ 512; omega), (by show 0 ≤ (f 24).toInt; omega), (by show (f 24).toInt + z276.toInt + mg_p1 (((23 : Int), (0 : Int), (0 : Int), (0 : Int), []) :: (((34 : Int), (1 : Int), (0 : Int), (0 : Int), []) :: (((22 : Int), z291.toInt, tw.toInt, (0 : Int), []) :: gs))) ≤ 4 * z287.toInt; omega), (by show z276.toInt ≤ z287.toInt; omega), (by show z0.toInt + mg_p2 (((23 : Int), (0 : Int), (0 : Int), (0 : Int), []) :: (((34 : Int), (1 : Int), (0 : Int), (0 : Int), []) :: (((22 : Int), z291.toInt, tw.toInt, (0 : Int), []) :: gs))) ≤ z287.toInt; omega), (by show mg_p3 (((23 : Int), (0 : Int), (0 : Int), (0 : Int), []) :: (((34 : Int), (1 : Int), (0 : Int), (0 : Int), []) :: (((22 : Int), z291.toInt, tw.toInt, (0 : Int), []) :: gs))) ≤ 20 * z287.toInt + 20; omega), (by show 0 ≤ (f 68).toInt; omega), (by show (f 68).toInt + 3 * z276.toInt + mg_p4 (((23 : Int), (0 : Int), (0 : Int), (0 : Int), []) :: (((34 : Int), (1 : Int), (0 : Int), (0 : Int), []) :: (((22 : Int), z291.toInt, tw.toInt, (0 : Int), []) :: gs))) ≤ 60 * z287.toInt + 60; omega), (by show 0 ≤ o262.toInt; omega), (by show o262.toInt + 64 * mj_n (g'313 16) z0.toNatClampNeg 3 ≤ 64 * z287.toInt; rw [show g'313 16 = g'304 16 from h317_ 16 (by decide), show g'304 16 = g'295 16 from h308_ 16 (by decide), show g'295 16 = g'277 16 from h299_ 16 (by decide), show g'277 16 = g'264 16 from h281_ 16 (by decide), show g'264 16 = g 16 from h272_ 16 (by decide)]; omega), (by show 0 ≤ (f 44).toInt; omega), (by show (f 44).toInt ≤ z287.toInt; omega), (by show 0 ≤ (f 48).toInt; omega), (by show (f 48).toInt ≤ z287.toInt; omega), (by show 1 ≤ (f 53).toInt; omega), (by show (f 53).toInt ≤ z287.toInt + 1; omega), (by show 0 ≤ (f 19).toInt; omega), (by show (f 19).toInt ≤ 600; omega)⟩
              · show 100 * ((f 0).toInt - z287.toInt) + mg_p3 (((23 : Int), (0 : Int), (0 : Int), (0 : Int), []) :: (((34 : Int), (1 : Int), (0 : Int), (0 : Int), []) :: (((22 : Int), z291.toInt, tw.toInt, (0 : Int), []) :: gs))) < 100 * ((f 0).toInt - (f 4).toInt) + (1 + mg_p3 gs); omega
    · refine am_e13f hi_264_41 (am_cF (m := (g 16 z0.toNatClampNeg).toInt) (n := (1 : Int)) rfl (by decide) c9) ?_
      refine am_e1 (v := on) hi_264_44 rfl ?_
      by_cases c319 : ¬ on.toInt = (0 : Int)
      · refine am_e12t hi_264_45 (am_cT (m := on.toInt) (n := (0 : Int)) rfl (by decide) c319) ?_
        refine am_e1 (v := g 16 z0.toNatClampNeg) hi_264_84 rfl ?_
        refine am_e0 hi_264_85 ?_
        refine am_e13t hi_264_86 (am_cT (m := (g 16 z0.toNatClampNeg).toInt) (n := (3 : Int)) rfl (by decide) (by simp only [am_cI]; omega)) ?_
        refine am_e2 (v := 39) hi_264_94 rfl ?_
        refine am_e0 hi_264_95 ?_
        refine am_e32n (as := [.ref 39, .int 7]) (la := [some (.ref 39), some (.int 7)]) (rest := []) hi_264_97 (am_hd0 (M := 264) (by decide) 97) (Nat.le_of_ble_eq_true rfl) (Nat.le_of_ble_eq_true rfl) (show 2 ≤ am_P0.2.2.1 194 from by decide +kernel) rfl (am_recv_ok hS5.fs) rfl rfl (ct_fail (d := (d + 6)) hS5   ) ?_
        rintro v320 S321 (⟨a322, b323, hv324, hS325⟩)
        subst hv324
        have hR327 := rj_clear0 hR
        have hR328 : RJ (upd (upd (upd f 6 a322) 7 b323) 10 0) g [] bc [] 0 [] := hR327
        show am_E _ _ _ _ [some (.ref 39), some (.int on), some (.int tw), some (.int (g 16 z0.toNatClampNeg)), some (.int r3), some (.int 1), none, none] [.int 0] _ _
        refine am_e6i hi_264_100 ?_
        refine am_e35 hi_264_101 ?_
        show am_E _ _ _ _ [some (.ref 39), some (.int 21), some (.int on), some (.int tw), some (.int th)] [] _ _
        refine am_e18 hi_180_362 ?_
        refine am_e35 hi_180_371 ?_
        have hRc := rj_clear0 hR328
        refine ⟨_, _, [], _, rfl, hS325, Or.inr ⟨hRc, rfl, (by show 0 ≤ (f 4).toInt; omega), (by show (f 4).toInt ≤ (f 0).toInt; omega), (by show 0 ≤ (f 32).toInt; omega), (by show (f 32).toInt ≤ 63; omega), (by show 1 ≤ (f 53).toInt; omega), (by show (f 53).toInt ≤ 600; omega), (by show 0 ≤ (f 68).toInt; omega), (by show (f 68).toInt ≤ 60000; omega), (by show 0 ≤ (f 48).toInt; omega), (by show (f 48).toInt ≤ 8000; omega), (by show 0 ≤ (f 37).toInt; omega), (by show (f 37).toInt ≤ 128; omega), (by show 0 ≤ (f 62).toInt; omega), (by show (f 62).toInt ≤ 65000; omega), (by show 0 ≤ (f 19).toInt; omega), (by show (f 19).toInt ≤ 600; omega)⟩⟩
      · refine am_e12f hi_264_45 (am_cF (m := on.toInt) (n := (0 : Int)) rfl (by decide) c319) ?_
        refine am_e1 (v := 1) hi_264_48 rfl ?_
        refine am_e12t hi_264_50 (by decide) ?_
        refine am_e1 (v := g 16 z0.toNatClampNeg) hi_264_84 rfl ?_
        refine am_e0 hi_264_85 ?_
        refine am_e13t hi_264_86 (am_cT (m := (g 16 z0.toNatClampNeg).toInt) (n := (3 : Int)) rfl (by decide) (by simp only [am_cI]; omega)) ?_
        refine am_e2 (v := 39) hi_264_94 rfl ?_
        refine am_e0 hi_264_95 ?_
        refine am_e32n (as := [.ref 39, .int 7]) (la := [some (.ref 39), some (.int 7)]) (rest := []) hi_264_97 (am_hd0 (M := 264) (by decide) 97) (Nat.le_of_ble_eq_true rfl) (Nat.le_of_ble_eq_true rfl) (show 2 ≤ am_P0.2.2.1 194 from by decide +kernel) rfl (am_recv_ok hS5.fs) rfl rfl (ct_fail (d := (d + 6)) hS5   ) ?_
        rintro v329 S330 (⟨a331, b332, hv333, hS334⟩)
        subst hv333
        have hR336 := rj_clear0 hR
        have hR337 : RJ (upd (upd (upd f 6 a331) 7 b332) 10 0) g [] bc [] 0 [] := hR336
        show am_E _ _ _ _ [some (.ref 39), some (.int on), some (.int tw), some (.int (g 16 z0.toNatClampNeg)), some (.int r3), some (.int 1), none, none] [.int 0] _ _
        refine am_e6i hi_264_100 ?_
        refine am_e35 hi_264_101 ?_
        show am_E _ _ _ _ [some (.ref 39), some (.int 21), some (.int on), some (.int tw), some (.int th)] [] _ _
        refine am_e18 hi_180_362 ?_
        refine am_e35 hi_180_371 ?_
        have hRc := rj_clear0 hR337
        refine ⟨_, _, [], _, rfl, hS334, Or.inr ⟨hRc, rfl, (by show 0 ≤ (f 4).toInt; omega), (by show (f 4).toInt ≤ (f 0).toInt; omega), (by show 0 ≤ (f 32).toInt; omega), (by show (f 32).toInt ≤ 63; omega), (by show 1 ≤ (f 53).toInt; omega), (by show (f 53).toInt ≤ 600; omega), (by show 0 ≤ (f 68).toInt; omega), (by show (f 68).toInt ≤ 60000; omega), (by show 0 ≤ (f 48).toInt; omega), (by show (f 48).toInt ≤ 8000; omega), (by show 0 ≤ (f 37).toInt; omega), (by show (f 37).toInt ≤ 128; omega), (by show 0 ≤ (f 62).toInt; omega), (by show (f 62).toInt ≤ 65000; omega), (by show 0 ≤ (f 19).toInt; omega), (by show (f 19).toInt ≤ 600; omega)⟩⟩
  · refine am_e13f hi_264_22 (am_cF (m := r3.toInt) (n := (59 : Int)) rfl (by decide) c8) ?_
    refine am_e1 (v := r3) hi_264_25 rfl ?_
    refine am_e0 hi_264_27 ?_
    by_cases c338 : ¬ r3.toInt = (69 : Int)
    · refine am_e13t hi_264_29 (am_cT (m := r3.toInt) (n := (69 : Int)) rfl (by decide) c338) ?_
      refine am_e0 hi_264_36 ?_
      refine am_e3 (ls' := [some (.ref 39), some (.int on), some (.int tw), some (.int (g 16 z0.toNatClampNeg)), some (.int r3), some (.int 0), none, none]) hi_264_37 (Nat.le_of_ble_eq_true rfl) rfl ?_
      refine am_e1 (v := g 16 z0.toNatClampNeg) hi_264_39 rfl ?_
      refine am_e0 hi_264_40 ?_
      by_cases c339 : ¬ (g 16 z0.toNatClampNeg).toInt = (1 : Int)
      · refine am_e13t hi_264_41 (am_cT (m := (g 16 z0.toNatClampNeg).toInt) (n := (1 : Int)) rfl (by decide) c339) ?_
        refine am_e1 (v := g 16 z0.toNatClampNeg) hi_264_84 rfl ?_
        refine am_e0 hi_264_85 ?_
        by_cases c340 : (g 16 z0.toNatClampNeg).toInt < (3 : Int)
        · refine am_e13t hi_264_86 (am_cT (m := (g 16 z0.toNatClampNeg).toInt) (n := (3 : Int)) rfl (by decide) c340) ?_
          refine am_e2 (v := 39) hi_264_94 rfl ?_
          refine am_e0 hi_264_95 ?_
          refine am_e32n (as := [.ref 39, .int 7]) (la := [some (.ref 39), some (.int 7)]) (rest := []) hi_264_97 (am_hd0 (M := 264) (by decide) 97) (Nat.le_of_ble_eq_true rfl) (Nat.le_of_ble_eq_true rfl) (show 2 ≤ am_P0.2.2.1 194 from by decide +kernel) rfl (am_recv_ok hS5.fs) rfl rfl (ct_fail (d := (d + 6)) hS5   ) ?_
          rintro v341 S342 (⟨a343, b344, hv345, hS346⟩)
          subst hv345
          have hR348 := rj_clear0 hR
          have hR349 : RJ (upd (upd (upd f 6 a343) 7 b344) 10 0) g [] bc [] 0 [] := hR348
          show am_E _ _ _ _ [some (.ref 39), some (.int on), some (.int tw), some (.int (g 16 z0.toNatClampNeg)), some (.int r3), some (.int 0), none, none] [.int 0] _ _
          refine am_e6i hi_264_100 ?_
          refine am_e35 hi_264_101 ?_
          show am_E _ _ _ _ [some (.ref 39), some (.int 21), some (.int on), some (.int tw), some (.int th)] [] _ _
          refine am_e18 hi_180_362 ?_
          refine am_e35 hi_180_371 ?_
          have hRc := rj_clear0 hR349
          refine ⟨_, _, [], _, rfl, hS346, Or.inr ⟨hRc, rfl, (by show 0 ≤ (f 4).toInt; omega), (by show (f 4).toInt ≤ (f 0).toInt; omega), (by show 0 ≤ (f 32).toInt; omega), (by show (f 32).toInt ≤ 63; omega), (by show 1 ≤ (f 53).toInt; omega), (by show (f 53).toInt ≤ 600; omega), (by show 0 ≤ (f 68).toInt; omega), (by show (f 68).toInt ≤ 60000; omega), (by show 0 ≤ (f 48).toInt; omega), (by show (f 48).toInt ≤ 8000; omega), (by show 0 ≤ (f 37).toInt; omega), (by show (f 37).toInt ≤ 128; omega), (by show 0 ≤ (f 62).toInt; omega), (by show (f 62).toInt ≤ 65000; omega), (by show 0 ≤ (f 19).toInt; omega), (by show (f 19).toInt ≤ 600; omega)⟩⟩
        · refine am_e13f hi_264_86 (am_cF (m := (g 16 z0.toNatClampNeg).toInt) (n := (3 : Int)) rfl (by decide) c340) ?_
          refine am_e1 (v := 0) hi_264_89 rfl ?_
          refine am_e12f hi_264_91 (by decide) ?_
          refine am_e2 (v := 39) hi_264_94 rfl ?_
          refine am_e0 hi_264_95 ?_
          refine am_e32n (as := [.ref 39, .int 7]) (la := [some (.ref 39), some (.int 7)]) (rest := []) hi_264_97 (am_hd0 (M := 264) (by decide) 97) (Nat.le_of_ble_eq_true rfl) (Nat.le_of_ble_eq_true rfl) (show 2 ≤ am_P0.2.2.1 194 from by decide +kernel) rfl (am_recv_ok hS5.fs) rfl rfl (ct_fail (d := (d + 6)) hS5   ) ?_
          rintro v350 S351 (⟨a352, b353, hv354, hS355⟩)
          subst hv354
          have hR357 := rj_clear0 hR
          have hR358 : RJ (upd (upd (upd f 6 a352) 7 b353) 10 0) g [] bc [] 0 [] := hR357
          show am_E _ _ _ _ [some (.ref 39), some (.int on), some (.int tw), some (.int (g 16 z0.toNatClampNeg)), some (.int r3), some (.int 0), none, none] [.int 0] _ _
          refine am_e6i hi_264_100 ?_
          refine am_e35 hi_264_101 ?_
          show am_E _ _ _ _ [some (.ref 39), some (.int 21), some (.int on), some (.int tw), some (.int th)] [] _ _
          refine am_e18 hi_180_362 ?_
          refine am_e35 hi_180_371 ?_
          have hRc := rj_clear0 hR358
          refine ⟨_, _, [], _, rfl, hS355, Or.inr ⟨hRc, rfl, (by show 0 ≤ (f 4).toInt; omega), (by show (f 4).toInt ≤ (f 0).toInt; omega), (by show 0 ≤ (f 32).toInt; omega), (by show (f 32).toInt ≤ 63; omega), (by show 1 ≤ (f 53).toInt; omega), (by show (f 53).toInt ≤ 600; omega), (by show 0 ≤ (f 68).toInt; omega), (by show (f 68).toInt ≤ 60000; omega), (by show 0 ≤ (f 48).toInt; omega), (by show (f 48).toInt ≤ 8000; omega), (by show 0 ≤ (f 37).toInt; omega), (by show (f 37).toInt ≤ 128; omega), (by show 0 ≤ (f 62).toInt; omega), (by show (f 62).toInt ≤ 65000; omega), (by show 0 ≤ (f 19).toInt; omega), (by show (f 19).toInt ≤ 600; omega)⟩⟩
      · refine am_e13f hi_264_41 (am_cF (m := (g 16 z0.toNatClampNeg).toInt) (n := (1 : Int)) rfl (by decide) c339) ?_
        refine am_e1 (v := on) hi_264_44 rfl ?_
        by_cases c359 : ¬ on.toInt = (0 : Int)
        · refine am_e12t hi_264_45 (am_cT (m := on.toInt) (n := (0 : Int)) rfl (by decide) c359) ?_
          refine am_e1 (v := g 16 z0.toNatClampNeg) hi_264_84 rfl ?_
          refine am_e0 hi_264_85 ?_
          refine am_e13t hi_264_86 (am_cT (m := (g 16 z0.toNatClampNeg).toInt) (n := (3 : Int)) rfl (by decide) (by simp only [am_cI]; omega)) ?_
          refine am_e2 (v := 39) hi_264_94 rfl ?_
          refine am_e0 hi_264_95 ?_
          refine am_e32n (as := [.ref 39, .int 7]) (la := [some (.ref 39), some (.int 7)]) (rest := []) hi_264_97 (am_hd0 (M := 264) (by decide) 97) (Nat.le_of_ble_eq_true rfl) (Nat.le_of_ble_eq_true rfl) (show 2 ≤ am_P0.2.2.1 194 from by decide +kernel) rfl (am_recv_ok hS5.fs) rfl rfl (ct_fail (d := (d + 6)) hS5   ) ?_
          rintro v360 S361 (⟨a362, b363, hv364, hS365⟩)
          subst hv364
          have hR367 := rj_clear0 hR
          have hR368 : RJ (upd (upd (upd f 6 a362) 7 b363) 10 0) g [] bc [] 0 [] := hR367
          show am_E _ _ _ _ [some (.ref 39), some (.int on), some (.int tw), some (.int (g 16 z0.toNatClampNeg)), some (.int r3), some (.int 0), none, none] [.int 0] _ _
          refine am_e6i hi_264_100 ?_
          refine am_e35 hi_264_101 ?_
          show am_E _ _ _ _ [some (.ref 39), some (.int 21), some (.int on), some (.int tw), some (.int th)] [] _ _
          refine am_e18 hi_180_362 ?_
          refine am_e35 hi_180_371 ?_
          have hRc := rj_clear0 hR368
          refine ⟨_, _, [], _, rfl, hS365, Or.inr ⟨hRc, rfl, (by show 0 ≤ (f 4).toInt; omega), (by show (f 4).toInt ≤ (f 0).toInt; omega), (by show 0 ≤ (f 32).toInt; omega), (by show (f 32).toInt ≤ 63; omega), (by show 1 ≤ (f 53).toInt; omega), (by show (f 53).toInt ≤ 600; omega), (by show 0 ≤ (f 68).toInt; omega), (by show (f 68).toInt ≤ 60000; omega), (by show 0 ≤ (f 48).toInt; omega), (by show (f 48).toInt ≤ 8000; omega), (by show 0 ≤ (f 37).toInt; omega), (by show (f 37).toInt ≤ 128; omega), (by show 0 ≤ (f 62).toInt; omega), (by show (f 62).toInt ≤ 65000; omega), (by show 0 ≤ (f 19).toInt; omega), (by show (f 19).toInt ≤ 600; omega)⟩⟩
        · refine am_e12f hi_264_45 (am_cF (m := on.toInt) (n := (0 : Int)) rfl (by decide) c359) ?_
          refine am_e1 (v := 0) hi_264_48 rfl ?_
          refine am_e12f hi_264_50 (by decide) ?_
          refine am_e2 (v := 39) hi_264_53 rfl ?_
          refine mm_20 (v := .ref 91) hS5 hi_264_54 rfl ?_
          refine am_e2 (v := 39) hi_264_57 rfl ?_
          refine mm_20 (v := .ref 47) hS5 hi_264_58 rfl ?_
          refine am_e2 (v := 39) hi_264_61 rfl ?_
          refine mm_20 (v := .int (f 15)) hS5 hi_264_62 rfl ?_
          refine am_e0 hi_264_65 ?_
          refine am_e10 (z := z0) hi_264_66 hz0 ?_
          refine mm_25 hS5 ma_17 hi_264_67 (by decide) (by omega) (by omega) ?_
          show am_E _ _ _ _ [some (.ref 39), some (.int on), some (.int tw), some (.int (g 16 z0.toNatClampNeg)), some (.int r3), some (.int 0), none, none] [.int (g 17 z0.toNatClampNeg), .ref 91] _ _
          have r369 : (g 16 z0.toNatClampNeg).toInt = 1 ∨ (g 16 z0.toNatClampNeg).toInt = 2 → 0 ≤ (g 17 z0.toNatClampNeg).toInt ∧ (g 17 z0.toNatClampNeg).toInt < 65536 := RJ.vc hR z0.toNatClampNeg
          refine am_e8 hi_264_68 ?_
          refine mm_25 hS5 ma_72 hi_264_69 (by decide) (by omega) (by omega) ?_
          show am_E _ _ _ _ [some (.ref 39), some (.int on), some (.int tw), some (.int (g 16 z0.toNatClampNeg)), some (.int r3), some (.int 0), none, none] [.int (g 72 (g 17 z0.toNatClampNeg).toNatClampNeg), .int (g 17 z0.toNatClampNeg), .ref 91] _ _
          refine am_e0 hi_264_70 ?_
          obtain ⟨z370, hz370⟩ : ∃ q__, am_bin 3 (g 72 (g 17 z0.toNatClampNeg).toNatClampNeg) 1 = q__ := ⟨_, rfl⟩
          refine am_e10 (z := z370) hi_264_71 hz370 ?_
          refine mm_26 hS5 ma_72 hi_264_72 (by decide) (by omega) (by omega) (fun h => nomatch h) ?_
          intro S371 hS372
          refine am_e2 (v := 39) hi_264_73 rfl ?_
          refine am_e7 hi_264_74 ?_
          refine mm_20 (v := .int (f 15)) hS372 hi_264_75 rfl ?_
          refine am_e0 hi_264_78 ?_
          refine am_e10 (z := z0) hi_264_79 hz0 ?_
          refine mm_21 (v := z0) hS372 hi_264_80 rfl (Nat.le_of_ble_eq_true rfl) ms_15 ?_
          intro S373 hS374
          have hp375 : mj_n (g 16) (f 15).toNatClampNeg 3 = mj_n (g 16) z0.toNatClampNeg 3 + if (g 16 z0.toNatClampNeg).toInt = 3 then 1 else 0 := mj_pop (by rw [cl_toNat, cl_toNat]; omega)
          have hp3751 : mj_n (g 16) z0.toNatClampNeg 3 ≤ mj_n (g 16) (f 15).toNatClampNeg 3 := by rw [hp375]; split <;> omega
          have hp3752 : (g 16 z0.toNatClampNeg).toInt = 3 → mj_n (g 16) z0.toNatClampNeg 3 + 1 ≤ mj_n (g 16) (f 15).toNatClampNeg 3 := fun q => by rw [hp375, if_pos q]; exact Int.le_refl _
          refine am_e35 hi_264_83 ?_
          show am_E _ _ _ _ [some (.ref 39), some (.int 21), some (.int on), some (.int tw), some (.int th)] [] _ _
          refine am_e18 hi_180_362 ?_
          refine am_e35 hi_180_371 ?_
          have q1 : mg_p1 gs = mg_p1 gs := rfl
          have q2 : mg_p2 gs = mg_p2 gs := rfl
          have q3 : mg_p3 gs = mg_p3 gs := rfl
          have q4 : mg_p4 gs = mg_p4 gs := rfl
          refine ⟨_, _, _, bc, rfl, hS374, Or.inl ⟨⟨hR, ?_, ?_⟩, rfl, ?_⟩⟩
          · exact (mg_cast (mg_good_ext _ _ _ _ _ _ (fun _ _ => rfl) (fun _ _ => rfl) (fun _ _ => rfl) hrest) (by show (f 15).toInt + -1 = z0.toInt; omega) (by show tw.toInt = (f 20).toInt; omega) (by show (f 37).toInt + 0 = (f 37).toInt; omega) (by show (f 32).toInt + 0 = (f 32).toInt; omega) (by show (f 5).toInt + 0 = (f 5).toInt; omega) : mg_good ((upg g 72 (g 17 z0.toNatClampNeg).toNatClampNeg z370) 34) ((upg g 72 (g 17 z0.toNatClampNeg).toNatClampNeg z370) 38) ((upg g 72 (g 17 z0.toNatClampNeg).toNatClampNeg z370) 23) gs (z0.toInt) ((f 20).toInt) ((f 37).toInt) ((f 32).toInt) ((f 5).toInt))
          · exact ⟨(by show 0 ≤ (f 4).toInt; omega), (by show (f 4).toInt ≤ (f 0).toInt; omega), (by show (f 0).toInt ≤ 512; omega), (by show 0 ≤ (f 24).toInt; omega), (by show (f 24).toInt + (f 20).toInt + mg_p1 gs ≤ 4 * (f 4).toInt; omega), (by show (f 20).toInt ≤ (f 4).toInt; omega), (by show z0.toInt + mg_p2 gs ≤ (f 4).toInt; omega), (by show mg_p3 gs ≤ 20 * (f 4).toInt + 20; omega), (by show 0 ≤ (f 68).toInt; omega), (by show (f 68).toInt + 3 * (f 20).toInt + mg_p4 gs ≤ 60 * (f 4).toInt + 60; omega), (by show 0 ≤ (f 62).toInt; omega), (by show (f 62).toInt + 64 * mj_n (g 16) z0.toNatClampNeg 3 ≤ 64 * (f 4).toInt; omega), (by show 0 ≤ (f 44).toInt; omega), (by show (f 44).toInt ≤ (f 4).toInt; omega), (by show 0 ≤ (f 48).toInt; omega), (by show (f 48).toInt ≤ (f 4).toInt; omega), (by show 1 ≤ (f 53).toInt; omega), (by show (f 53).toInt ≤ (f 4).toInt + 1; omega), (by show 0 ≤ (f 19).toInt; omega), (by show (f 19).toInt ≤ 600; omega)⟩
          · show 100 * ((f 0).toInt - (f 4).toInt) + mg_p3 gs < 100 * ((f 0).toInt - (f 4).toInt) + (1 + mg_p3 gs); omega
    · refine am_e13f hi_264_29 (am_cF (m := r3.toInt) (n := (69 : Int)) rfl (by decide) c338) ?_
      refine am_e0 hi_264_32 ?_
      refine am_e18 hi_264_33 ?_
      refine am_e3 (ls' := [some (.ref 39), some (.int on), some (.int tw), some (.int (g 16 z0.toNatClampNeg)), some (.int r3), some (.int 1), none, none]) hi_264_37 (Nat.le_of_ble_eq_true rfl) rfl ?_
      refine am_e1 (v := g 16 z0.toNatClampNeg) hi_264_39 rfl ?_
      refine am_e0 hi_264_40 ?_
      by_cases c376 : ¬ (g 16 z0.toNatClampNeg).toInt = (1 : Int)
      · refine am_e13t hi_264_41 (am_cT (m := (g 16 z0.toNatClampNeg).toInt) (n := (1 : Int)) rfl (by decide) c376) ?_
        refine am_e1 (v := g 16 z0.toNatClampNeg) hi_264_84 rfl ?_
        refine am_e0 hi_264_85 ?_
        by_cases c377 : (g 16 z0.toNatClampNeg).toInt < (3 : Int)
        · refine am_e13t hi_264_86 (am_cT (m := (g 16 z0.toNatClampNeg).toInt) (n := (3 : Int)) rfl (by decide) c377) ?_
          refine am_e2 (v := 39) hi_264_94 rfl ?_
          refine am_e0 hi_264_95 ?_
          refine am_e32n (as := [.ref 39, .int 7]) (la := [some (.ref 39), some (.int 7)]) (rest := []) hi_264_97 (am_hd0 (M := 264) (by decide) 97) (Nat.le_of_ble_eq_true rfl) (Nat.le_of_ble_eq_true rfl) (show 2 ≤ am_P0.2.2.1 194 from by decide +kernel) rfl (am_recv_ok hS5.fs) rfl rfl (ct_fail (d := (d + 6)) hS5   ) ?_
          rintro v378 S379 (⟨a380, b381, hv382, hS383⟩)
          subst hv382
          have hR385 := rj_clear0 hR
          have hR386 : RJ (upd (upd (upd f 6 a380) 7 b381) 10 0) g [] bc [] 0 [] := hR385
          show am_E _ _ _ _ [some (.ref 39), some (.int on), some (.int tw), some (.int (g 16 z0.toNatClampNeg)), some (.int r3), some (.int 1), none, none] [.int 0] _ _
          refine am_e6i hi_264_100 ?_
          refine am_e35 hi_264_101 ?_
          show am_E _ _ _ _ [some (.ref 39), some (.int 21), some (.int on), some (.int tw), some (.int th)] [] _ _
          refine am_e18 hi_180_362 ?_
          refine am_e35 hi_180_371 ?_
          have hRc := rj_clear0 hR386
          refine ⟨_, _, [], _, rfl, hS383, Or.inr ⟨hRc, rfl, (by show 0 ≤ (f 4).toInt; omega), (by show (f 4).toInt ≤ (f 0).toInt; omega), (by show 0 ≤ (f 32).toInt; omega), (by show (f 32).toInt ≤ 63; omega), (by show 1 ≤ (f 53).toInt; omega), (by show (f 53).toInt ≤ 600; omega), (by show 0 ≤ (f 68).toInt; omega), (by show (f 68).toInt ≤ 60000; omega), (by show 0 ≤ (f 48).toInt; omega), (by show (f 48).toInt ≤ 8000; omega), (by show 0 ≤ (f 37).toInt; omega), (by show (f 37).toInt ≤ 128; omega), (by show 0 ≤ (f 62).toInt; omega), (by show (f 62).toInt ≤ 65000; omega), (by show 0 ≤ (f 19).toInt; omega), (by show (f 19).toInt ≤ 600; omega)⟩⟩
        · refine am_e13f hi_264_86 (am_cF (m := (g 16 z0.toNatClampNeg).toInt) (n := (3 : Int)) rfl (by decide) c377) ?_
          refine am_e1 (v := 1) hi_264_89 rfl ?_
          refine am_e12t hi_264_91 (by decide) ?_
          refine am_e2 (v := 39) hi_264_102 rfl ?_
          refine mm_20 (v := .ref 48) hS5 hi_264_103 rfl ?_
          refine am_e2 (v := 39) hi_264_106 rfl ?_
          refine mm_20 (v := .int (f 15)) hS5 hi_264_107 rfl ?_
          refine am_e0 hi_264_110 ?_
          refine am_e10 (z := z0) hi_264_111 hz0 ?_
          refine mm_25 hS5 ma_18 hi_264_112 (by decide) (by omega) (by omega) ?_
          show am_E _ _ _ _ [some (.ref 39), some (.int on), some (.int tw), some (.int (g 16 z0.toNatClampNeg)), some (.int r3), some (.int 1), none, none] [.int (g 18 z0.toNatClampNeg)] _ _
          have r387 : (g 16 z0.toNatClampNeg).toInt = 3 → 0 ≤ (g 18 z0.toNatClampNeg).toInt ∧ (g 18 z0.toNatClampNeg).toInt < 16384 := RJ.vw hR z0.toNatClampNeg
          refine am_e3 (ls' := [some (.ref 39), some (.int on), some (.int tw), some (.int (g 16 z0.toNatClampNeg)), some (.int r3), some (.int 1), some (.int (g 18 z0.toNatClampNeg)), none]) hi_264_113 (Nat.le_of_ble_eq_true rfl) rfl ?_
          refine am_e1 (v := g 16 z0.toNatClampNeg) hi_264_115 rfl ?_
          refine am_e0 hi_264_116 ?_
          by_cases c388 : ¬ (g 16 z0.toNatClampNeg).toInt = (3 : Int)
          · refine am_e13t hi_264_117 (am_cT (m := (g 16 z0.toNatClampNeg).toInt) (n := (3 : Int)) rfl (by decide) c388) ?_
            refine am_e1 (v := g 16 z0.toNatClampNeg) hi_264_143 rfl ?_
            refine am_e0 hi_264_144 ?_
            by_cases c389 : ¬ (g 16 z0.toNatClampNeg).toInt = (5 : Int)
            · refine am_e13t hi_264_145 (am_cT (m := (g 16 z0.toNatClampNeg).toInt) (n := (5 : Int)) rfl (by decide) c389) ?_
              refine am_e2 (v := 39) hi_264_167 rfl ?_
              refine am_e0 hi_264_168 ?_
              refine am_e0 hi_264_169 ?_
              refine am_e1 (v := g 18 z0.toNatClampNeg) hi_264_170 rfl ?_
              refine am_e32n (as := [.ref 39, .int 3, .int 0, .int (g 18 z0.toNatClampNeg)]) (la := [some (.ref 39), some (.int 3), some (.int 0), some (.int (g 18 z0.toNatClampNeg))]) (rest := []) hi_264_172 (am_hd0 (M := 264) (by decide) 172) (Nat.le_of_ble_eq_true rfl) (Nat.le_of_ble_eq_true rfl) (show 4 ≤ am_P0.2.2.1 239 from by decide +kernel) rfl (am_recv_ok hS5.fs) rfl rfl (ct_keep2 (d := (d + 6)) hS5 hR  (by show (0 : Int) ≤ (f 20).toInt; omega) (by show (f 20).toInt ≤ (16383 : Int); omega)) ?_
              rintro v390 S391 (⟨z392, g'393, hv394, hS395, hR399, h396, h397, h398⟩)
              subst hv394
              have h396_ : z392.toInt = (f 20).toInt + 1 := h396
              have h397_ : ∀ j, j ∉ [21, 22, 23] → g'393 j = g j := h397
              have h398_ : g'393 23 = upd (g 23) (f 20).toNatClampNeg (g 18 z0.toNatClampNeg) := h398
              have hR399_ : RJ (upd f 20 z392) g'393 gs bc [] 0 [] := hR399
              show am_E _ _ _ _ [some (.ref 39), some (.int on), some (.int tw), some (.int (g 16 z0.toNatClampNeg)), some (.int r3), some (.int 1), some (.int (g 18 z0.toNatClampNeg)), none] [] _ _
              refine am_e2 (v := 39) hi_264_175 rfl ?_
              refine am_e7 hi_264_176 ?_
              refine mm_20 (v := .int (f 15)) hS395 hi_264_177 rfl ?_
              refine am_e0 hi_264_180 ?_
              refine am_e10 (z := z0) hi_264_181 hz0 ?_
              refine mm_21 (v := z0) hS395 hi_264_182 rfl (Nat.le_of_ble_eq_true rfl) ms_15 ?_
              intro S400 hS401
              replace hS401 : MS S0 S400 (upd (upd f 15 z0) 20 z392) g'393 := hS401
              have hp402 : mj_n (g 16) (f 15).toNatClampNeg 3 = mj_n (g 16) z0.toNatClampNeg 3 + if (g 16 z0.toNatClampNeg).toInt = 3 then 1 else 0 := mj_pop (by rw [cl_toNat, cl_toNat]; omega)
              have hp4021 : mj_n (g 16) z0.toNatClampNeg 3 ≤ mj_n (g 16) (f 15).toNatClampNeg 3 := by rw [hp402]; split <;> omega
              have hp4022 : (g 16 z0.toNatClampNeg).toInt = 3 → mj_n (g 16) z0.toNatClampNeg 3 + 1 ≤ mj_n (g 16) (f 15).toNatClampNeg 3 := fun q => by rw [hp402, if_pos q]; exact Int.le_refl _
              refine am_e2 (v := 39) hi_264_185 rfl ?_
              refine am_e7 hi_264_186 ?_
              refine mm_20 (v := .int (f 4)) hS401 hi_264_187 rfl ?_
              refine am_e0 hi_264_190 ?_
              obtain ⟨z403, hz403, tz403⟩ := am_addI (x := f 4) (y := 1) (m := (f 4).toInt) (n := (1 : Int)) rfl (by decide) (by omega) (by omega)
              refine am_e10 (z := z403) hi_264_191 hz403 ?_
              refine mm_21 (v := z403) hS401 hi_264_192 rfl (Nat.le_of_ble_eq_true rfl) ms_4 ?_
              intro S404 hS405
              replace hS405 : MS S0 S404 (upd (upd (upd f 4 z403) 15 z0) 20 z392) g'393 := hS405
              have hR406 : RJ (upd (upd (upd f 4 z403) 15 z0) 20 z392) g'393 gs bc [] 0 [] := RJ.at hR399_ (by show (f 4).toInt ≤ z403.toInt; omega)
              refine am_e1 (v := r3) hi_264_195 rfl ?_
              refine am_e0 hi_264_197 ?_
              refine am_e13f hi_264_199 (am_cF (m := r3.toInt) (n := (69 : Int)) rfl (by decide) (by simp only [am_cI]; omega)) ?_
              refine am_e2 (v := 39) hi_264_202 rfl ?_
              refine am_e0 hi_264_203 ?_
              refine am_e1 (v := on) hi_264_205 rfl ?_
              refine am_e0 hi_264_206 ?_
              obtain ⟨z407, hz407, tz407⟩ := am_addI (x := on) (y := 1) (m := on.toInt) (n := (1 : Int)) rfl (by decide) (by omega) (by omega)
              refine am_e10 (z := z407) hi_264_207 hz407 ?_
              refine am_e1 (v := tw) hi_264_208 rfl ?_
              refine am_e0 hi_264_209 ?_
              refine am_e32n (as := [.ref 39, .int 21, .int z407, .int tw, .int 0]) (la := [some (.ref 39), some (.int 21), some (.int z407), some (.int tw), some (.int 0)]) (rest := []) hi_264_210 (am_hd0 (M := 264) (by decide) 210) (Nat.le_of_ble_eq_true rfl) (Nat.le_of_ble_eq_true rfl) (show 5 ≤ am_P0.2.2.1 179 from by decide +kernel) rfl (am_recv_ok hS405.fs) rfl rfl (ct_pile (d := (d + 6)) hS405 hR406 (mj_e_plain (by decide)) (by show (0 : Int) ≤ (f 10).toInt; omega) (by show (f 10).toInt ≤ (65535 : Int); omega)) ?_
              rintro v408 S409 (⟨z410, g'411, hv412, hS413, hR416, h414, h415⟩)
              subst hv412
              have h414_ : z410.toInt = (f 10).toInt + 1 := h414
              have h415_ : ∀ j, j ∉ [11, 12, 13, 14] → g'411 j = g'393 j := h415
              replace hS413 : MS S0 S409 (upd (upd (upd (upd f 4 z403) 10 z410) 15 z0) 20 z392) g'411 := hS413
              have hR416_ : RJ (upd (upd (upd (upd f 4 z403) 10 z410) 15 z0) 20 z392) g'411 (((21 : Int), z407.toInt, tw.toInt, (0 : Int), []) :: gs) bc [] 0 [] := hR416
              show am_E _ _ _ _ [some (.ref 39), some (.int on), some (.int tw), some (.int (g 16 z0.toNatClampNeg)), some (.int r3), some (.int 1), some (.int (g 18 z0.toNatClampNeg)), none] [] _ _
              refine am_e2 (v := 39) hi_264_213 rfl ?_
              refine am_e0 hi_264_214 ?_
              refine am_e0 hi_264_216 ?_
              refine am_e0 hi_264_217 ?_
              refine am_e0 hi_264_218 ?_
              refine am_e32n (as := [.ref 39, .int 28, .int 0, .int 0, .int 0]) (la := [some (.ref 39), some (.int 28), some (.int 0), some (.int 0), some (.int 0)]) (rest := []) hi_264_219 (am_hd0 (M := 264) (by decide) 219) (Nat.le_of_ble_eq_true rfl) (Nat.le_of_ble_eq_true rfl) (show 5 ≤ am_P0.2.2.1 179 from by decide +kernel) rfl (am_recv_ok hS413.fs) rfl rfl (ct_pile (d := (d + 6)) hS413 hR416_ (mj_e_plain (by decide)) (by show (0 : Int) ≤ z410.toInt; omega) (by show z410.toInt ≤ (65535 : Int); omega)) ?_
              rintro v417 S418 (⟨z419, g'420, hv421, hS422, hR425, h423, h424⟩)
              subst hv421
              have h423_ : z419.toInt = z410.toInt + 1 := h423
              have h424_ : ∀ j, j ∉ [11, 12, 13, 14] → g'420 j = g'411 j := h424
              replace hS422 : MS S0 S418 (upd (upd (upd (upd f 4 z403) 10 z419) 15 z0) 20 z392) g'420 := hS422
              have hR425_ : RJ (upd (upd (upd (upd f 4 z403) 10 z419) 15 z0) 20 z392) g'420 (((28 : Int), (0 : Int), (0 : Int), (0 : Int), []) :: (((21 : Int), z407.toInt, tw.toInt, (0 : Int), []) :: gs)) bc [] 0 [] := hR425
              show am_E _ _ _ _ [some (.ref 39), some (.int on), some (.int tw), some (.int (g 16 z0.toNatClampNeg)), some (.int r3), some (.int 1), some (.int (g 18 z0.toNatClampNeg)), none] [] _ _
              refine am_e2 (v := 39) hi_264_222 rfl ?_
              refine am_e32w (as := [.ref 39]) (la := [some (.ref 39)]) (rest := []) hi_264_223 (am_hd0 (M := 264) (by decide) 223) (Nat.le_of_ble_eq_true rfl) (Nat.le_of_ble_eq_true rfl) (show 1 ≤ am_P0.2.2.1 201 from by decide +kernel) rfl (am_recv_ok hS422.fs) rfl rfl ?_
              refine am_e2 (v := 39) hi_201_0 rfl ?_
              refine am_e32n (as := [.ref 39]) (la := [some (.ref 39)]) (rest := []) hi_201_1 (am_hd0 (M := 201) (by decide) 1) (Nat.le_of_ble_eq_true rfl) (Nat.le_of_ble_eq_true rfl) (show 1 ≤ am_P0.2.2.1 183 from by decide +kernel) rfl (am_recv_ok hS422.fs) rfl rfl (ct_next (d := (d + 4)) hS422   (by show (0 : Int) ≤ z403.toInt; omega) (by show (f 0).toInt ≤ (16384 : Int); omega)) ?_
              rintro v426 S427 (⟨r428, hv429, hS430, h431⟩)
              subst hv429
              have h431_ : z403.toInt < (f 0).toInt ∨ r428.toInt = (-1 : Int) := h431
              show am_E _ _ _ _ [some (.ref 39)] [.int r428] _ _
              refine am_e0 hi_201_4 ?_
              by_cases c433 : ¬ r428.toInt = (1 : Int)
              · refine am_e13t hi_201_5 (am_cT (m := r428.toInt) (n := (1 : Int)) rfl (by decide) c433) ?_
                refine am_e2 (v := 39) hi_201_31 rfl ?_
                refine am_e0 hi_201_32 ?_
                refine am_e32n (as := [.ref 39, .int 60]) (la := [some (.ref 39), some (.int 60)]) (rest := []) hi_201_34 (am_hd0 (M := 201) (by decide) 34) (Nat.le_of_ble_eq_true rfl) (Nat.le_of_ble_eq_true rfl) (show 2 ≤ am_P0.2.2.1 193 from by decide +kernel) rfl (am_recv_ok hS430.fs) rfl rfl (ct_enter (d := (d + 3)) hS430   (by show (0 : Int) ≤ z403.toInt; omega) (by show (f 0).toInt ≤ (16384 : Int); omega) (by show (0 : Int) ≤ (60 : Int); omega) (by show (0 : Int) ≤ (f 5).toInt; omega) (by show (f 5).toInt ≤ (48 : Int); omega)) ?_
                rintro v434 S435 (⟨z436, y437, hv438, hS439, h440, h441, h442, h443⟩ | ⟨a445, b446, hv447, hS448⟩)
                · subst hv438
                  have h440_ : z436.toInt = z403.toInt + 1 := h440
                  have h441_ : z403.toInt < (f 0).toInt := h441
                  have h442_ : y437.toInt = (f 5).toInt + 1 := h442
                  have h443_ : y437.toInt ≤ (48 : Int) := h443
                  replace hS439 : MS S0 S435 (upd (upd (upd (upd (upd f 4 z436) 5 y437) 10 z419) 15 z0) 20 z392) g'420 := hS439
                  have hR450 : RJ (upd (upd (upd (upd (upd f 4 z436) 5 y437) 10 z419) 15 z0) 20 z392) g'420 (((28 : Int), (0 : Int), (0 : Int), (0 : Int), []) :: (((21 : Int), z407.toInt, tw.toInt, (0 : Int), []) :: gs)) bc [] 0 [] := RJ.at hR425_ (by show z403.toInt ≤ z436.toInt; omega)
                  show am_E _ _ _ _ [some (.ref 39)] [.int 1] _ _
                  refine am_e12f hi_201_37 (by decide) ?_
                  refine am_e2 (v := 39) hi_201_40 rfl ?_
                  refine am_e0 hi_201_41 ?_
                  refine am_e0 hi_201_43 ?_
                  refine am_e0 hi_201_44 ?_
                  refine am_e0 hi_201_45 ?_
                  refine am_e32n (as := [.ref 39, .int 29, .int 0, .int 0, .int 0]) (la := [some (.ref 39), some (.int 29), some (.int 0), some (.int 0), some (.int 0)]) (rest := []) hi_201_46 (am_hd0 (M := 201) (by decide) 46) (Nat.le_of_ble_eq_true rfl) (Nat.le_of_ble_eq_true rfl) (show 5 ≤ am_P0.2.2.1 179 from by decide +kernel) rfl (am_recv_ok hS439.fs) rfl rfl (ct_pile (d := (d + 5)) hS439 hR450 (mj_e_plain (by decide)) (by show (0 : Int) ≤ z419.toInt; omega) (by show z419.toInt ≤ (65535 : Int); omega)) ?_
                  rintro v451 S452 (⟨z453, g'454, hv455, hS456, hR459, h457, h458⟩)
                  subst hv455
                  have h457_ : z453.toInt = z419.toInt + 1 := h457
                  have h458_ : ∀ j, j ∉ [11, 12, 13, 14] → g'454 j = g'420 j := h458
                  replace hS456 : MS S0 S452 (upd (upd (upd (upd (upd f 4 z436) 5 y437) 10 z453) 15 z0) 20 z392) g'454 := hS456
                  have hR459_ : RJ (upd (upd (upd (upd (upd f 4 z436) 5 y437) 10 z453) 15 z0) 20 z392) g'454 (((29 : Int), (0 : Int), (0 : Int), (0 : Int), []) :: (((28 : Int), (0 : Int), (0 : Int), (0 : Int), []) :: (((21 : Int), z407.toInt, tw.toInt, (0 : Int), []) :: gs))) bc [] 0 [] := hR459
                  show am_E _ _ _ _ [some (.ref 39)] [] _ _
                  refine am_e2 (v := 39) hi_201_49 rfl ?_
                  refine am_e0 hi_201_50 ?_
                  refine am_e32w (as := [.ref 39, .int 0]) (la := [some (.ref 39), some (.int 0)]) (rest := []) hi_201_51 (am_hd0 (M := 201) (by decide) 51) (Nat.le_of_ble_eq_true rfl) (Nat.le_of_ble_eq_true rfl) (show 2 ≤ am_P0.2.2.1 186 from by decide +kernel) rfl (am_recv_ok hS456.fs) rfl rfl ?_
                  refine am_e2 (v := 39) hi_186_0 rfl ?_
                  refine am_e0 hi_186_1 ?_
                  refine am_e1 (v := 0) hi_186_3 rfl ?_
                  refine am_e0 hi_186_4 ?_
                  refine am_e0 hi_186_5 ?_
                  refine am_e32n (as := [.ref 39, .int 23, .int 0, .int 0, .int 0]) (la := [some (.ref 39), some (.int 23), some (.int 0), some (.int 0), some (.int 0)]) (rest := []) hi_186_6 (am_hd0 (M := 186) (by decide) 6) (Nat.le_of_ble_eq_true rfl) (Nat.le_of_ble_eq_true rfl) (show 5 ≤ am_P0.2.2.1 179 from by decide +kernel) rfl (am_recv_ok hS456.fs) rfl rfl (ct_pile (d := (d + 4)) hS456 hR459_ (mj_e_plain (by decide)) (by show (0 : Int) ≤ z453.toInt; omega) (by show z453.toInt ≤ (65535 : Int); omega)) ?_
                  rintro v460 S461 (⟨z462, g'463, hv464, hS465, hR468, h466, h467⟩)
                  subst hv464
                  have h466_ : z462.toInt = z453.toInt + 1 := h466
                  have h467_ : ∀ j, j ∉ [11, 12, 13, 14] → g'463 j = g'454 j := h467
                  replace hS465 : MS S0 S461 (upd (upd (upd (upd (upd f 4 z436) 5 y437) 10 z462) 15 z0) 20 z392) g'463 := hS465
                  have hR468_ : RJ (upd (upd (upd (upd (upd f 4 z436) 5 y437) 10 z462) 15 z0) 20 z392) g'463 (((23 : Int), (0 : Int), (0 : Int), (0 : Int), []) :: (((29 : Int), (0 : Int), (0 : Int), (0 : Int), []) :: (((28 : Int), (0 : Int), (0 : Int), (0 : Int), []) :: (((21 : Int), z407.toInt, tw.toInt, (0 : Int), []) :: gs)))) bc [] 0 [] := hR468
                  show am_E _ _ _ _ [some (.ref 39), some (.int 0)] [] _ _
                  refine am_e35 hi_186_9 ?_
                  show am_E _ _ _ _ [some (.ref 39)] [] _ _
                  refine am_e35 hi_201_54 ?_
                  show am_E _ _ _ _ [some (.ref 39), some (.int on), some (.int tw), some (.int (g 16 z0.toNatClampNeg)), some (.int r3), some (.int 1), some (.int (g 18 z0.toNatClampNeg)), none] [] _ _
                  refine am_e18 hi_264_226 ?_
                  refine am_e35 hi_264_244 ?_
                  show am_E _ _ _ _ [some (.ref 39), some (.int 21), some (.int on), some (.int tw), some (.int th)] [] _ _
                  refine am_e18 hi_180_362 ?_
                  refine am_e35 hi_180_371 ?_
                  have q1 : mg_p1 (((23 : Int), (0 : Int), (0 : Int), (0 : Int), []) :: (((29 : Int), (0 : Int), (0 : Int), (0 : Int), []) :: (((28 : Int), (0 : Int), (0 : Int), (0 : Int), []) :: (((21 : Int), z407.toInt, tw.toInt, (0 : Int), []) :: gs)))) = 0 + (0 + (0 + (0 + (mg_p1 gs)))) := rfl
                  have q2 : mg_p2 (((23 : Int), (0 : Int), (0 : Int), (0 : Int), []) :: (((29 : Int), (0 : Int), (0 : Int), (0 : Int), []) :: (((28 : Int), (0 : Int), (0 : Int), (0 : Int), []) :: (((21 : Int), z407.toInt, tw.toInt, (0 : Int), []) :: gs)))) = 0 + (0 + (0 + (0 + (mg_p2 gs)))) := rfl
                  have q3 : mg_p3 (((23 : Int), (0 : Int), (0 : Int), (0 : Int), []) :: (((29 : Int), (0 : Int), (0 : Int), (0 : Int), []) :: (((28 : Int), (0 : Int), (0 : Int), (0 : Int), []) :: (((21 : Int), z407.toInt, tw.toInt, (0 : Int), []) :: gs)))) = 1 + (1 + (1 + (1 + (mg_p3 gs)))) := rfl
                  have q4 : mg_p4 (((23 : Int), (0 : Int), (0 : Int), (0 : Int), []) :: (((29 : Int), (0 : Int), (0 : Int), (0 : Int), []) :: (((28 : Int), (0 : Int), (0 : Int), (0 : Int), []) :: (((21 : Int), z407.toInt, tw.toInt, (0 : Int), []) :: gs)))) = 0 + (0 + (0 + (0 + (mg_p4 gs)))) := rfl
                  refine ⟨_, _, _, bc, rfl, hS465, Or.inl ⟨⟨hR468_, ?_, ?_⟩, rfl, ?_⟩⟩
                  · exact (⟨⟨(show mg_k 23 from by decide), (show (0 : Int) ≤ z0.toInt from by omega), (show 0 ≤ z392.toInt from by omega), (show 1 ≤ (f 37).toInt from by omega), (show 0 ≤ (f 32).toInt from by omega), (show (f 32).toInt ≤ y437.toInt from by omega), (show y437.toInt ≤ 48 from by omega), (show (f 37).toInt ≤ 2 * (y437.toInt) + 2 from by omega), (show 0 ≤ (0 : Int) from by omega)⟩, ⟨⟨(show mg_k 29 from by decide), (show (1 : Int) ≤ z0.toInt + 1 from by omega), (show 0 ≤ z392.toInt from by omega), (show 1 ≤ (f 37).toInt + 0 from by omega), (show 0 ≤ (f 32).toInt + 0 from by omega), (show (f 32).toInt + 0 ≤ y437.toInt + 0 from by omega), (show y437.toInt + 0 ≤ 48 from by omega), (show (f 37).toInt + 0 ≤ 2 * (y437.toInt + 0) + 2 from by omega), trivial⟩, ⟨⟨(show mg_k 28 from by decide), (show (1 : Int) ≤ z0.toInt + 1 + 0 from by omega), (show 0 ≤ z392.toInt from by omega), (show 1 ≤ (f 37).toInt + 0 + 0 from by omega), (show 0 ≤ (f 32).toInt + 0 + 0 from by omega), (show (f 32).toInt + 0 + 0 ≤ y437.toInt + 0 + -1 from by omega), (show y437.toInt + 0 + -1 ≤ 48 from by omega), (show (f 37).toInt + 0 + 0 ≤ 2 * (y437.toInt + 0 + -1) + 2 from by omega), trivial⟩, ⟨⟨(show mg_k 21 from by decide), (show (1 : Int) ≤ z0.toInt + 1 + 0 + 0 from by omega), (show 0 ≤ z392.toInt from by omega), (show 1 ≤ (f 37).toInt + 0 + 0 + 0 from by omega), (show 0 ≤ (f 32).toInt + 0 + 0 + 0 from by omega), (show (f 32).toInt + 0 + 0 + 0 ≤ y437.toInt + 0 + -1 + 0 from by omega), (show y437.toInt + 0 + -1 + 0 ≤ 48 from by omega), (show (f 37).toInt + 0 + 0 + 0 ≤ 2 * (y437.toInt + 0 + -1 + 0) + 1 from by omega), ⟨(show 0 ≤ z407.toInt from by omega), (show 0 ≤ tw.toInt from by omega), (show z392.toInt = tw.toInt + z407.toInt from by omega)⟩⟩, mg_cast (mg_good_ext _ _ _ _ _ _ (fun i _ => by show g'463 34 i = g 34 i; rw [show g'463 34 = g'454 34 from h467_ 34 (by decide), show g'454 34 = g'420 34 from h458_ 34 (by decide), show g'420 34 = g'411 34 from h424_ 34 (by decide), show g'411 34 = g'393 34 from h415_ 34 (by decide), show g'393 34 = g 34 from h397_ 34 (by decide)]) (fun i _ => by show g'463 38 i = g 38 i; rw [show g'463 38 = g'454 38 from h467_ 38 (by decide), show g'454 38 = g'420 38 from h458_ 38 (by decide), show g'420 38 = g'411 38 from h424_ 38 (by decide), show g'411 38 = g'393 38 from h415_ 38 (by decide), show g'393 38 = g 38 from h397_ 38 (by decide)]) (fun i hi => by show g'463 23 i = g 23 i; rw [show g'463 23 = g'454 23 from h467_ 23 (by decide), show g'454 23 = g'420 23 from h458_ 23 (by decide), show g'420 23 = g'411 23 from h424_ 23 (by decide), show g'411 23 = g'393 23 from h415_ 23 (by decide), h398_]; exact upd_ne (by rw [cl_toNat]; omega)) hrest) (by show (f 15).toInt + -1 = z0.toInt + 1 + 0 + 0 + -1; omega) (by show tw.toInt = tw.toInt; omega) (by show (f 37).toInt + 0 = (f 37).toInt + 0 + 0 + 0 + 0; omega) (by show (f 32).toInt + 0 = (f 32).toInt + 0 + 0 + 0 + 0; omega) (by show (f 5).toInt + 0 = y437.toInt + 0 + -1 + 0 + 0; omega)⟩⟩⟩⟩ : mg_good (g'463 34) (g'463 38) (g'463 23) (((23 : Int), (0 : Int), (0 : Int), (0 : Int), []) :: (((29 : Int), (0 : Int), (0 : Int), (0 : Int), []) :: (((28 : Int), (0 : Int), (0 : Int), (0 : Int), []) :: (((21 : Int), z407.toInt, tw.toInt, (0 : Int), []) :: gs)))) (z0.toInt) (z392.toInt) ((f 37).toInt) ((f 32).toInt) (y437.toInt))
                  · exact ⟨(by show 0 ≤ z436.toInt; omega), (by show z436.toInt ≤ (f 0).toInt; omega), (by show (f 0).toInt ≤ 512; omega), (by show 0 ≤ (f 24).toInt; omega), (by show (f 24).toInt + z392.toInt + mg_p1 (((23 : Int), (0 : Int), (0 : Int), (0 : Int), []) :: (((29 : Int), (0 : Int), (0 : Int), (0 : Int), []) :: (((28 : Int), (0 : Int), (0 : Int), (0 : Int), []) :: (((21 : Int), z407.toInt, tw.toInt, (0 : Int), []) :: gs)))) ≤ 4 * z436.toInt; omega), (by show z392.toInt ≤ z436.toInt; omega), (by show z0.toInt + mg_p2 (((23 : Int), (0 : Int), (0 : Int), (0 : Int), []) :: (((29 : Int), (0 : Int), (0 : Int), (0 : Int), []) :: (((28 : Int), (0 : Int), (0 : Int), (0 : Int), []) :: (((21 : Int), z407.toInt, tw.toInt, (0 : Int), []) :: gs)))) ≤ z436.toInt; omega), (by show mg_p3 (((23 : Int), (0 : Int), (0 : Int), (0 : Int), []) :: (((29 : Int), (0 : Int), (0 : Int), (0 : Int), []) :: (((28 : Int), (0 : Int), (0 : Int), (0 : Int), []) :: (((21 : Int), z407.toInt, tw.toInt, (0 : Int), []) :: gs)))) ≤ 20 * z436.toInt + 20; omega), (by show 0 ≤ (f 68).toInt; omega), (by show (f 68).toInt + 3 * z392.toInt + mg_p4 (((23 : Int), (0 : Int), (0 : Int), (0 : Int), []) :: (((29 : Int), (0 : Int), (0 : Int), (0 : Int), []) :: (((28 : Int), (0 : Int), (0 : Int), (0 : Int), []) :: (((21 : Int), z407.toInt, tw.toInt, (0 : Int), []) :: gs)))) ≤ 60 * z436.toInt + 60; omega), (by show 0 ≤ (f 62).toInt; omega), (by show (f 62).toInt + 64 * mj_n (g'463 16) z0.toNatClampNeg 3 ≤ 64 * z436.toInt; rw [show g'463 16 = g'454 16 from h467_ 16 (by decide), show g'454 16 = g'420 16 from h458_ 16 (by decide), show g'420 16 = g'411 16 from h424_ 16 (by decide), show g'411 16 = g'393 16 from h415_ 16 (by decide), show g'393 16 = g 16 from h397_ 16 (by decide)]; omega), (by show 0 ≤ (f 44).toInt; omega), (by show (f 44).toInt ≤ z436.toInt; omega), (by show 0 ≤ (f 48).toInt; omega), (by show (f 48).toInt ≤ z436.toInt; omega), (by show 1 ≤ (f 53).toInt; omega), (by show (f 53).toInt ≤ z436.toInt + 1; omega), (by show 0 ≤ (f 19).toInt; omega), (by show (f 19).toInt ≤ 600; omega)⟩
                  · show 100 * ((f 0).toInt - z436.toInt) + mg_p3 (((23 : Int), (0 : Int), (0 : Int), (0 : Int), []) :: (((29 : Int), (0 : Int), (0 : Int), (0 : Int), []) :: (((28 : Int), (0 : Int), (0 : Int), (0 : Int), []) :: (((21 : Int), z407.toInt, tw.toInt, (0 : Int), []) :: gs)))) < 100 * ((f 0).toInt - (f 4).toInt) + (1 + mg_p3 gs); omega
                · subst hv447
                  replace hS448 : MS S0 S435 (upd (upd (upd (upd (upd (upd f 4 z403) 6 a445) 7 b446) 10 0) 15 z0) 20 z392) g'420 := hS448
                  have hR469 := rj_clear0 hR425_
                  have hR470 : RJ (upd (upd (upd (upd (upd (upd f 4 z403) 6 a445) 7 b446) 10 0) 15 z0) 20 z392) g'420 [] bc [] 0 [] := hR469
                  show am_E _ _ _ _ [some (.ref 39)] [.int 0] _ _
                  refine am_e12t hi_201_37 (by decide) ?_
                  refine am_e35 hi_201_54 ?_
                  show am_E _ _ _ _ [some (.ref 39), some (.int on), some (.int tw), some (.int (g 16 z0.toNatClampNeg)), some (.int r3), some (.int 1), some (.int (g 18 z0.toNatClampNeg)), none] [] _ _
                  refine am_e18 hi_264_226 ?_
                  refine am_e35 hi_264_244 ?_
                  show am_E _ _ _ _ [some (.ref 39), some (.int 21), some (.int on), some (.int tw), some (.int th)] [] _ _
                  refine am_e18 hi_180_362 ?_
                  refine am_e35 hi_180_371 ?_
                  have hRc := rj_clear0 hR470
                  refine ⟨_, _, [], _, rfl, hS448, Or.inr ⟨hRc, rfl, (by show 0 ≤ z403.toInt; omega), (by show z403.toInt ≤ (f 0).toInt; omega), (by show 0 ≤ (f 32).toInt; omega), (by show (f 32).toInt ≤ 63; omega), (by show 1 ≤ (f 53).toInt; omega), (by show (f 53).toInt ≤ 600; omega), (by show 0 ≤ (f 68).toInt; omega), (by show (f 68).toInt ≤ 60000; omega), (by show 0 ≤ (f 48).toInt; omega), (by show (f 48).toInt ≤ 8000; omega), (by show 0 ≤ (f 37).toInt; omega), (by show (f 37).toInt ≤ 128; omega), (by show 0 ≤ (f 62).toInt; omega), (by show (f 62).toInt ≤ 65000; omega), (by show 0 ≤ (f 19).toInt; omega), (by show (f 19).toInt ≤ 600; omega)⟩⟩
              · refine am_e13f hi_201_5 (am_cF (m := r428.toInt) (n := (1 : Int)) rfl (by decide) c433) ?_
                refine am_e2 (v := 39) hi_201_8 rfl ?_
                refine am_e0 hi_201_9 ?_
                refine am_e0 hi_201_10 ?_
                refine am_e2 (v := 39) hi_201_11 rfl ?_
                refine mm_20 (v := .int z403) hS430 hi_201_12 rfl ?_
                refine am_e32n (as := [.ref 39, .int 3, .int 0, .int z403]) (la := [some (.ref 39), some (.int 3), some (.int 0), some (.int z403)]) (rest := []) hi_201_15 (am_hd0 (M := 201) (by decide) 15) (Nat.le_of_ble_eq_true rfl) (Nat.le_of_ble_eq_true rfl) (show 4 ≤ am_P0.2.2.1 190 from by decide +kernel) rfl (am_recv_ok hS430.fs) rfl rfl (ct_value (d := (d + 5)) hS430 hR425_ (fun _ => ⟨by omega, by omega⟩) (fun h => absurd h (by decide)) (by show (0 : Int) ≤ z0.toInt; omega) (by show z0.toInt ≤ (32767 : Int); omega)) ?_
                rintro v471 S472 (⟨z473, g'474, hv475, hS476, hR481, h477, h478, h479, h480⟩)
                subst hv475
                have h477_ : z473.toInt = z0.toInt + 1 := h477
                have h478_ : ∀ j, j ∉ [16, 17, 18] → g'474 j = g'420 j := h478
                have h479_ : mj_n (g'474 16) z473.toNatClampNeg 3 ≤ mj_n (g 16) z0.toNatClampNeg 3 + 1 := by rw [show g'420 16 = g'411 16 from h424_ 16 (by decide), show g'411 16 = g'393 16 from h415_ 16 (by decide), show g'393 16 = g 16 from h397_ 16 (by decide)] at h479; exact h479
                have h480_ : (3 : Int) = 3 ∨ mj_n (g'474 16) z473.toNatClampNeg 3 ≤ mj_n (g 16) z0.toNatClampNeg 3 := by rw [show g'420 16 = g'411 16 from h424_ 16 (by decide), show g'411 16 = g'393 16 from h415_ 16 (by decide), show g'393 16 = g 16 from h397_ 16 (by decide)] at h480; exact h480
                replace hS476 : MS S0 S472 (upd (upd (upd (upd f 4 z403) 10 z419) 15 z473) 20 z392) g'474 := hS476
                have hR481_ : RJ (upd (upd (upd (upd f 4 z403) 10 z419) 15 z473) 20 z392) g'474 (((28 : Int), (0 : Int), (0 : Int), (0 : Int), []) :: (((21 : Int), z407.toInt, tw.toInt, (0 : Int), []) :: gs)) bc [] 0 [] := hR481
                show am_E _ _ _ _ [some (.ref 39)] [] _ _
                refine am_e2 (v := 39) hi_201_18 rfl ?_
                refine am_e7 hi_201_19 ?_
                refine mm_20 (v := .int z403) hS476 hi_201_20 rfl ?_
                refine am_e0 hi_201_23 ?_
                obtain ⟨z482, hz482, tz482⟩ := am_addI (x := z403) (y := 1) (m := z403.toInt) (n := (1 : Int)) rfl (by decide) (by omega) (by omega)
                refine am_e10 (z := z482) hi_201_24 hz482 ?_
                refine mm_21 (v := z482) hS476 hi_201_25 rfl (Nat.le_of_ble_eq_true rfl) ms_4 ?_
                intro S483 hS484
                replace hS484 : MS S0 S483 (upd (upd (upd (upd f 4 z482) 10 z419) 15 z473) 20 z392) g'474 := hS484
                have hR485 : RJ (upd (upd (upd (upd f 4 z482) 10 z419) 15 z473) 20 z392) g'474 (((28 : Int), (0 : Int), (0 : Int), (0 : Int), []) :: (((21 : Int), z407.toInt, tw.toInt, (0 : Int), []) :: gs)) bc [] 0 [] := RJ.at hR481_ (by show z403.toInt ≤ z482.toInt; omega)
                refine am_e18 hi_201_28 ?_
                refine am_e35 hi_201_54 ?_
                show am_E _ _ _ _ [some (.ref 39), some (.int on), some (.int tw), some (.int (g 16 z0.toNatClampNeg)), some (.int r3), some (.int 1), some (.int (g 18 z0.toNatClampNeg)), none] [] _ _
                refine am_e18 hi_264_226 ?_
                refine am_e35 hi_264_244 ?_
                show am_E _ _ _ _ [some (.ref 39), some (.int 21), some (.int on), some (.int tw), some (.int th)] [] _ _
                refine am_e18 hi_180_362 ?_
                refine am_e35 hi_180_371 ?_
                have q1 : mg_p1 (((28 : Int), (0 : Int), (0 : Int), (0 : Int), []) :: (((21 : Int), z407.toInt, tw.toInt, (0 : Int), []) :: gs)) = 0 + (0 + (mg_p1 gs)) := rfl
                have q2 : mg_p2 (((28 : Int), (0 : Int), (0 : Int), (0 : Int), []) :: (((21 : Int), z407.toInt, tw.toInt, (0 : Int), []) :: gs)) = 0 + (0 + (mg_p2 gs)) := rfl
                have q3 : mg_p3 (((28 : Int), (0 : Int), (0 : Int), (0 : Int), []) :: (((21 : Int), z407.toInt, tw.toInt, (0 : Int), []) :: gs)) = 1 + (1 + (mg_p3 gs)) := rfl
                have q4 : mg_p4 (((28 : Int), (0 : Int), (0 : Int), (0 : Int), []) :: (((21 : Int), z407.toInt, tw.toInt, (0 : Int), []) :: gs)) = 0 + (0 + (mg_p4 gs)) := rfl
                refine ⟨_, _, _, bc, rfl, hS484, Or.inl ⟨⟨hR485, ?_, ?_⟩, rfl, ?_⟩⟩
                · exact (⟨⟨(show mg_k 28 from by decide), (show (1 : Int) ≤ z473.toInt from by omega), (show 0 ≤ z392.toInt from by omega), (show 1 ≤ (f 37).toInt from by omega), (show 0 ≤ (f 32).toInt from by omega), (show (f 32).toInt ≤ (f 5).toInt from by omega), (show (f 5).toInt ≤ 48 from by omega), (show (f 37).toInt ≤ 2 * ((f 5).toInt) + 2 from by omega), trivial⟩, ⟨⟨(show mg_k 21 from by decide), (show (1 : Int) ≤ z473.toInt + 0 from by omega), (show 0 ≤ z392.toInt from by omega), (show 1 ≤ (f 37).toInt + 0 from by omega), (show 0 ≤ (f 32).toInt + 0 from by omega), (show (f 32).toInt + 0 ≤ (f 5).toInt + 0 from by omega), (show (f 5).toInt + 0 ≤ 48 from by omega), (show (f 37).toInt + 0 ≤ 2 * ((f 5).toInt + 0) + 1 from by omega), ⟨(show 0 ≤ z407.toInt from by omega), (show 0 ≤ tw.toInt from by omega), (show z392.toInt = tw.toInt + z407.toInt from by omega)⟩⟩, mg_cast (mg_good_ext _ _ _ _ _ _ (fun i _ => by show g'474 34 i = g 34 i; rw [show g'474 34 = g'420 34 from h478_ 34 (by decide), show g'420 34 = g'411 34 from h424_ 34 (by decide), show g'411 34 = g'393 34 from h415_ 34 (by decide), show g'393 34 = g 34 from h397_ 34 (by decide)]) (fun i _ => by show g'474 38 i = g 38 i; rw [show g'474 38 = g'420 38 from h478_ 38 (by decide), show g'420 38 = g'411 38 from h424_ 38 (by decide), show g'411 38 = g'393 38 from h415_ 38 (by decide), show g'393 38 = g 38 from h397_ 38 (by decide)]) (fun i hi => by show g'474 23 i = g 23 i; rw [show g'474 23 = g'420 23 from h478_ 23 (by decide), show g'420 23 = g'411 23 from h424_ 23 (by decide), show g'411 23 = g'393 23 from h415_ 23 (by decide), h398_]; exact upd_ne (by rw [cl_toNat]; omega)) hrest) (by show (f 15).toInt + -1 = z473.toInt + 0 + -1; omega) (by show tw.toInt = tw.toInt; omega) (by show (f 37).toInt + 0 = (f 37).toInt + 0 + 0; omega) (by show (f 32).toInt + 0 = (f 32).toInt + 0 + 0; omega) (by show (f 5).toInt + 0 = (f 5).toInt + 0 + 0; omega)⟩⟩ : mg_good (g'474 34) (g'474 38) (g'474 23) (((28 : Int), (0 : Int), (0 : Int), (0 : Int), []) :: (((21 : Int), z407.toInt, tw.toInt, (0 : Int), []) :: gs)) (z473.toInt) (z392.toInt) ((f 37).toInt) ((f 32).toInt) ((f 5).toInt))
                · exact ⟨(by show 0 ≤ z482.toInt; omega), (by show z482.toInt ≤ (f 0).toInt; omega), (by show (f 0).toInt ≤ 512; omega), (by show 0 ≤ (f 24).toInt; omega), (by show (f 24).toInt + z392.toInt + mg_p1 (((28 : Int), (0 : Int), (0 : Int), (0 : Int), []) :: (((21 : Int), z407.toInt, tw.toInt, (0 : Int), []) :: gs)) ≤ 4 * z482.toInt; omega), (by show z392.toInt ≤ z482.toInt; omega), (by show z473.toInt + mg_p2 (((28 : Int), (0 : Int), (0 : Int), (0 : Int), []) :: (((21 : Int), z407.toInt, tw.toInt, (0 : Int), []) :: gs)) ≤ z482.toInt; omega), (by show mg_p3 (((28 : Int), (0 : Int), (0 : Int), (0 : Int), []) :: (((21 : Int), z407.toInt, tw.toInt, (0 : Int), []) :: gs)) ≤ 20 * z482.toInt + 20; omega), (by show 0 ≤ (f 68).toInt; omega), (by show (f 68).toInt + 3 * z392.toInt + mg_p4 (((28 : Int), (0 : Int), (0 : Int), (0 : Int), []) :: (((21 : Int), z407.toInt, tw.toInt, (0 : Int), []) :: gs)) ≤ 60 * z482.toInt + 60; omega), (by show 0 ≤ (f 62).toInt; omega), (by show (f 62).toInt + 64 * mj_n (g'474 16) z473.toNatClampNeg 3 ≤ 64 * z482.toInt; omega), (by show 0 ≤ (f 44).toInt; omega), (by show (f 44).toInt ≤ z482.toInt; omega), (by show 0 ≤ (f 48).toInt; omega), (by show (f 48).toInt ≤ z482.toInt; omega), (by show 1 ≤ (f 53).toInt; omega), (by show (f 53).toInt ≤ z482.toInt + 1; omega), (by show 0 ≤ (f 19).toInt; omega), (by show (f 19).toInt ≤ 600; omega)⟩
                · show 100 * ((f 0).toInt - z482.toInt) + mg_p3 (((28 : Int), (0 : Int), (0 : Int), (0 : Int), []) :: (((21 : Int), z407.toInt, tw.toInt, (0 : Int), []) :: gs)) < 100 * ((f 0).toInt - (f 4).toInt) + (1 + mg_p3 gs); omega
            · refine am_e13f hi_264_145 (am_cF (m := (g 16 z0.toNatClampNeg).toInt) (n := (5 : Int)) rfl (by decide) c389) ?_
              refine am_e2 (v := 39) hi_264_148 rfl ?_
              refine am_e0 hi_264_149 ?_
              refine am_e2 (v := 39) hi_264_150 rfl ?_
              refine mm_20 (v := .ref 47) hS5 hi_264_151 rfl ?_
              refine am_e2 (v := 39) hi_264_154 rfl ?_
              refine mm_20 (v := .int (f 15)) hS5 hi_264_155 rfl ?_
              refine am_e0 hi_264_158 ?_
              refine am_e10 (z := z0) hi_264_159 hz0 ?_
              refine mm_25 hS5 ma_17 hi_264_160 (by decide) (by omega) (by omega) ?_
              show am_E _ _ _ _ [some (.ref 39), some (.int on), some (.int tw), some (.int (g 16 z0.toNatClampNeg)), some (.int r3), some (.int 1), some (.int (g 18 z0.toNatClampNeg)), none] [.int (g 17 z0.toNatClampNeg), .int 5, .ref 39] _ _
              have r486 : (g 16 z0.toNatClampNeg).toInt = 1 ∨ (g 16 z0.toNatClampNeg).toInt = 2 → 0 ≤ (g 17 z0.toNatClampNeg).toInt ∧ (g 17 z0.toNatClampNeg).toInt < 65536 := RJ.vc hR z0.toNatClampNeg
              refine am_e0 hi_264_161 ?_
              refine am_e0 hi_264_162 ?_
              refine am_e32n (as := [.ref 39, .int 5, .int (g 17 z0.toNatClampNeg), .int 0, .int 0]) (la := [some (.ref 39), some (.int 5), some (.int (g 17 z0.toNatClampNeg)), some (.int 0), some (.int 0)]) (rest := []) hi_264_163 (am_hd0 (M := 264) (by decide) 163) (Nat.le_of_ble_eq_true rfl) (Nat.le_of_ble_eq_true rfl) (show 5 ≤ am_P0.2.2.1 189 from by decide +kernel) rfl (am_recv_ok hS5.fs) rfl rfl (ct_put (d := (d + 6)) hS5 hR  (by show (0 : Int) ≤ (f 32).toInt; omega) (by show (f 32).toInt ≤ (63 : Int); omega) (by show (f 53).toInt ≤ (4096 : Int); omega) (by show (0 : Int) ≤ (f 68).toInt; omega) (by show (f 68).toInt ≤ (65534 : Int); omega)) ?_
              rintro v487 S488 (⟨z489, r490, g'491, hv492, hS493, hR497, h494, h495, h496⟩)
              subst hv492
              have h494_ : z489.toInt = (f 68).toInt + 1 := h494
              have h495_ : r490.toInt = (f 68).toInt := h495
              have h496_ : ∀ j, j ∉ [60, 69, 70, 71, 72, 73] → g'491 j = g j := h496
              have hR497_ : RJ (upd f 68 z489) g'491 gs bc [] 0 ((f 68).toNatClampNeg :: []) := hR497
              show am_E _ _ _ _ [some (.ref 39), some (.int on), some (.int tw), some (.int (g 16 z0.toNatClampNeg)), some (.int r3), some (.int 1), some (.int (g 18 z0.toNatClampNeg)), none] [.int r490] _ _
              refine am_e6i hi_264_166 ?_
              refine am_e2 (v := 39) hi_264_167 rfl ?_
              refine am_e0 hi_264_168 ?_
              refine am_e0 hi_264_169 ?_
              refine am_e1 (v := g 18 z0.toNatClampNeg) hi_264_170 rfl ?_
              refine am_e32n (as := [.ref 39, .int 3, .int 0, .int (g 18 z0.toNatClampNeg)]) (la := [some (.ref 39), some (.int 3), some (.int 0), some (.int (g 18 z0.toNatClampNeg))]) (rest := []) hi_264_172 (am_hd0 (M := 264) (by decide) 172) (Nat.le_of_ble_eq_true rfl) (Nat.le_of_ble_eq_true rfl) (show 4 ≤ am_P0.2.2.1 239 from by decide +kernel) rfl (am_recv_ok hS493.fs) rfl rfl (ct_keep2 (d := (d + 6)) hS493 hR497_  (by show (0 : Int) ≤ (f 20).toInt; omega) (by show (f 20).toInt ≤ (16383 : Int); omega)) ?_
              rintro v498 S499 (⟨z500, g'501, hv502, hS503, hR507, h504, h505, h506⟩)
              subst hv502
              have h504_ : z500.toInt = (f 20).toInt + 1 := h504
              have h505_ : ∀ j, j ∉ [21, 22, 23] → g'501 j = g'491 j := h505
              have h506_ : g'501 23 = upd (g'491 23) (f 20).toNatClampNeg (g 18 z0.toNatClampNeg) := h506
              replace hS503 : MS S0 S499 (upd (upd f 20 z500) 68 z489) g'501 := hS503
              have hR507_ : RJ (upd (upd f 20 z500) 68 z489) g'501 gs bc [] 0 ((f 68).toNatClampNeg :: []) := hR507
              show am_E _ _ _ _ [some (.ref 39), some (.int on), some (.int tw), some (.int (g 16 z0.toNatClampNeg)), some (.int r3), some (.int 1), some (.int (g 18 z0.toNatClampNeg)), none] [] _ _
              refine am_e2 (v := 39) hi_264_175 rfl ?_
              refine am_e7 hi_264_176 ?_
              refine mm_20 (v := .int (f 15)) hS503 hi_264_177 rfl ?_
              refine am_e0 hi_264_180 ?_
              refine am_e10 (z := z0) hi_264_181 hz0 ?_
              refine mm_21 (v := z0) hS503 hi_264_182 rfl (Nat.le_of_ble_eq_true rfl) ms_15 ?_
              intro S508 hS509
              replace hS509 : MS S0 S508 (upd (upd (upd f 15 z0) 20 z500) 68 z489) g'501 := hS509
              have hp510 : mj_n (g 16) (f 15).toNatClampNeg 3 = mj_n (g 16) z0.toNatClampNeg 3 + if (g 16 z0.toNatClampNeg).toInt = 3 then 1 else 0 := mj_pop (by rw [cl_toNat, cl_toNat]; omega)
              have hp5101 : mj_n (g 16) z0.toNatClampNeg 3 ≤ mj_n (g 16) (f 15).toNatClampNeg 3 := by rw [hp510]; split <;> omega
              have hp5102 : (g 16 z0.toNatClampNeg).toInt = 3 → mj_n (g 16) z0.toNatClampNeg 3 + 1 ≤ mj_n (g 16) (f 15).toNatClampNeg 3 := fun q => by rw [hp510, if_pos q]; exact Int.le_refl _
              refine am_e2 (v := 39) hi_264_185 rfl ?_
              refine am_e7 hi_264_186 ?_
              refine mm_20 (v := .int (f 4)) hS509 hi_264_187 rfl ?_
              refine am_e0 hi_264_190 ?_
              obtain ⟨z511, hz511, tz511⟩ := am_addI (x := f 4) (y := 1) (m := (f 4).toInt) (n := (1 : Int)) rfl (by decide) (by omega) (by omega)
              refine am_e10 (z := z511) hi_264_191 hz511 ?_
              refine mm_21 (v := z511) hS509 hi_264_192 rfl (Nat.le_of_ble_eq_true rfl) ms_4 ?_
              intro S512 hS513
              replace hS513 : MS S0 S512 (upd (upd (upd (upd f 4 z511) 15 z0) 20 z500) 68 z489) g'501 := hS513
              have hR514 : RJ (upd (upd (upd (upd f 4 z511) 15 z0) 20 z500) 68 z489) g'501 gs bc [] 0 ((f 68).toNatClampNeg :: []) := RJ.at hR507_ (by show (f 4).toInt ≤ z511.toInt; omega)
              refine am_e1 (v := r3) hi_264_195 rfl ?_
              refine am_e0 hi_264_197 ?_
              refine am_e13f hi_264_199 (am_cF (m := r3.toInt) (n := (69 : Int)) rfl (by decide) (by simp only [am_cI]; omega)) ?_
              refine am_e2 (v := 39) hi_264_202 rfl ?_
              refine am_e0 hi_264_203 ?_
              refine am_e1 (v := on) hi_264_205 rfl ?_
              refine am_e0 hi_264_206 ?_
              obtain ⟨z515, hz515, tz515⟩ := am_addI (x := on) (y := 1) (m := on.toInt) (n := (1 : Int)) rfl (by decide) (by omega) (by omega)
              refine am_e10 (z := z515) hi_264_207 hz515 ?_
              refine am_e1 (v := tw) hi_264_208 rfl ?_
              refine am_e0 hi_264_209 ?_
              refine am_e32n (as := [.ref 39, .int 21, .int z515, .int tw, .int 0]) (la := [some (.ref 39), some (.int 21), some (.int z515), some (.int tw), some (.int 0)]) (rest := []) hi_264_210 (am_hd0 (M := 264) (by decide) 210) (Nat.le_of_ble_eq_true rfl) (Nat.le_of_ble_eq_true rfl) (show 5 ≤ am_P0.2.2.1 179 from by decide +kernel) rfl (am_recv_ok hS513.fs) rfl rfl (ct_pile (d := (d + 6)) hS513 hR514 (mj_e_plain (by decide)) (by show (0 : Int) ≤ (f 10).toInt; omega) (by show (f 10).toInt ≤ (65535 : Int); omega)) ?_
              rintro v516 S517 (⟨z518, g'519, hv520, hS521, hR524, h522, h523⟩)
              subst hv520
              have h522_ : z518.toInt = (f 10).toInt + 1 := h522
              have h523_ : ∀ j, j ∉ [11, 12, 13, 14] → g'519 j = g'501 j := h523
              replace hS521 : MS S0 S517 (upd (upd (upd (upd (upd f 4 z511) 10 z518) 15 z0) 20 z500) 68 z489) g'519 := hS521
              have hR524_ : RJ (upd (upd (upd (upd (upd f 4 z511) 10 z518) 15 z0) 20 z500) 68 z489) g'519 (((21 : Int), z515.toInt, tw.toInt, (0 : Int), []) :: gs) bc [] 0 ((f 68).toNatClampNeg :: []) := hR524
              show am_E _ _ _ _ [some (.ref 39), some (.int on), some (.int tw), some (.int (g 16 z0.toNatClampNeg)), some (.int r3), some (.int 1), some (.int (g 18 z0.toNatClampNeg)), none] [] _ _
              refine am_e2 (v := 39) hi_264_213 rfl ?_
              refine am_e0 hi_264_214 ?_
              refine am_e0 hi_264_216 ?_
              refine am_e0 hi_264_217 ?_
              refine am_e0 hi_264_218 ?_
              refine am_e32n (as := [.ref 39, .int 28, .int 0, .int 0, .int 0]) (la := [some (.ref 39), some (.int 28), some (.int 0), some (.int 0), some (.int 0)]) (rest := []) hi_264_219 (am_hd0 (M := 264) (by decide) 219) (Nat.le_of_ble_eq_true rfl) (Nat.le_of_ble_eq_true rfl) (show 5 ≤ am_P0.2.2.1 179 from by decide +kernel) rfl (am_recv_ok hS521.fs) rfl rfl (ct_pile (d := (d + 6)) hS521 hR524_ (mj_e_plain (by decide)) (by show (0 : Int) ≤ z518.toInt; omega) (by show z518.toInt ≤ (65535 : Int); omega)) ?_
              rintro v525 S526 (⟨z527, g'528, hv529, hS530, hR533, h531, h532⟩)
              subst hv529
              have h531_ : z527.toInt = z518.toInt + 1 := h531
              have h532_ : ∀ j, j ∉ [11, 12, 13, 14] → g'528 j = g'519 j := h532
              replace hS530 : MS S0 S526 (upd (upd (upd (upd (upd f 4 z511) 10 z527) 15 z0) 20 z500) 68 z489) g'528 := hS530
              have hR533_ : RJ (upd (upd (upd (upd (upd f 4 z511) 10 z527) 15 z0) 20 z500) 68 z489) g'528 (((28 : Int), (0 : Int), (0 : Int), (0 : Int), []) :: (((21 : Int), z515.toInt, tw.toInt, (0 : Int), []) :: gs)) bc [] 0 ((f 68).toNatClampNeg :: []) := hR533
              show am_E _ _ _ _ [some (.ref 39), some (.int on), some (.int tw), some (.int (g 16 z0.toNatClampNeg)), some (.int r3), some (.int 1), some (.int (g 18 z0.toNatClampNeg)), none] [] _ _
              refine am_e2 (v := 39) hi_264_222 rfl ?_
              refine am_e32w (as := [.ref 39]) (la := [some (.ref 39)]) (rest := []) hi_264_223 (am_hd0 (M := 264) (by decide) 223) (Nat.le_of_ble_eq_true rfl) (Nat.le_of_ble_eq_true rfl) (show 1 ≤ am_P0.2.2.1 201 from by decide +kernel) rfl (am_recv_ok hS530.fs) rfl rfl ?_
              refine am_e2 (v := 39) hi_201_0 rfl ?_
              refine am_e32n (as := [.ref 39]) (la := [some (.ref 39)]) (rest := []) hi_201_1 (am_hd0 (M := 201) (by decide) 1) (Nat.le_of_ble_eq_true rfl) (Nat.le_of_ble_eq_true rfl) (show 1 ≤ am_P0.2.2.1 183 from by decide +kernel) rfl (am_recv_ok hS530.fs) rfl rfl (ct_next (d := (d + 4)) hS530   (by show (0 : Int) ≤ z511.toInt; omega) (by show (f 0).toInt ≤ (16384 : Int); omega)) ?_
              rintro v534 S535 (⟨r536, hv537, hS538, h539⟩)
              subst hv537
              have h539_ : z511.toInt < (f 0).toInt ∨ r536.toInt = (-1 : Int) := h539
              show am_E _ _ _ _ [some (.ref 39)] [.int r536] _ _
              refine am_e0 hi_201_4 ?_
              by_cases c541 : ¬ r536.toInt = (1 : Int)
              · refine am_e13t hi_201_5 (am_cT (m := r536.toInt) (n := (1 : Int)) rfl (by decide) c541) ?_
                refine am_e2 (v := 39) hi_201_31 rfl ?_
                refine am_e0 hi_201_32 ?_
                refine am_e32n (as := [.ref 39, .int 60]) (la := [some (.ref 39), some (.int 60)]) (rest := []) hi_201_34 (am_hd0 (M := 201) (by decide) 34) (Nat.le_of_ble_eq_true rfl) (Nat.le_of_ble_eq_true rfl) (show 2 ≤ am_P0.2.2.1 193 from by decide +kernel) rfl (am_recv_ok hS538.fs) rfl rfl (ct_enter (d := (d + 3)) hS538   (by show (0 : Int) ≤ z511.toInt; omega) (by show (f 0).toInt ≤ (16384 : Int); omega) (by show (0 : Int) ≤ (60 : Int); omega) (by show (0 : Int) ≤ (f 5).toInt; omega) (by show (f 5).toInt ≤ (48 : Int); omega)) ?_
                rintro v542 S543 (⟨z544, y545, hv546, hS547, h548, h549, h550, h551⟩ | ⟨a553, b554, hv555, hS556⟩)
                · subst hv546
                  have h548_ : z544.toInt = z511.toInt + 1 := h548
                  have h549_ : z511.toInt < (f 0).toInt := h549
                  have h550_ : y545.toInt = (f 5).toInt + 1 := h550
                  have h551_ : y545.toInt ≤ (48 : Int) := h551
                  replace hS547 : MS S0 S543 (upd (upd (upd (upd (upd (upd f 4 z544) 5 y545) 10 z527) 15 z0) 20 z500) 68 z489) g'528 := hS547
                  have hR558 : RJ (upd (upd (upd (upd (upd (upd f 4 z544) 5 y545) 10 z527) 15 z0) 20 z500) 68 z489) g'528 (((28 : Int), (0 : Int), (0 : Int), (0 : Int), []) :: (((21 : Int), z515.toInt, tw.toInt, (0 : Int), []) :: gs)) bc [] 0 ((f 68).toNatClampNeg :: []) := RJ.at hR533_ (by show z511.toInt ≤ z544.toInt; omega)
                  show am_E _ _ _ _ [some (.ref 39)] [.int 1] _ _
                  refine am_e12f hi_201_37 (by decide) ?_
                  refine am_e2 (v := 39) hi_201_40 rfl ?_
                  refine am_e0 hi_201_41 ?_
                  refine am_e0 hi_201_43 ?_
                  refine am_e0 hi_201_44 ?_
                  refine am_e0 hi_201_45 ?_
                  refine am_e32n (as := [.ref 39, .int 29, .int 0, .int 0, .int 0]) (la := [some (.ref 39), some (.int 29), some (.int 0), some (.int 0), some (.int 0)]) (rest := []) hi_201_46 (am_hd0 (M := 201) (by decide) 46) (Nat.le_of_ble_eq_true rfl) (Nat.le_of_ble_eq_true rfl) (show 5 ≤ am_P0.2.2.1 179 from by decide +kernel) rfl (am_recv_ok hS547.fs) rfl rfl (ct_pile (d := (d + 5)) hS547 hR558 (mj_e_plain (by decide)) (by show (0 : Int) ≤ z527.toInt; omega) (by show z527.toInt ≤ (65535 : Int); omega)) ?_
                  rintro v559 S560 (⟨z561, g'562, hv563, hS564, hR567, h565, h566⟩)
                  subst hv563
                  have h565_ : z561.toInt = z527.toInt + 1 := h565
                  have h566_ : ∀ j, j ∉ [11, 12, 13, 14] → g'562 j = g'528 j := h566
                  replace hS564 : MS S0 S560 (upd (upd (upd (upd (upd (upd f 4 z544) 5 y545) 10 z561) 15 z0) 20 z500) 68 z489) g'562 := hS564
                  have hR567_ : RJ (upd (upd (upd (upd (upd (upd f 4 z544) 5 y545) 10 z561) 15 z0) 20 z500) 68 z489) g'562 (((29 : Int), (0 : Int), (0 : Int), (0 : Int), []) :: (((28 : Int), (0 : Int), (0 : Int), (0 : Int), []) :: (((21 : Int), z515.toInt, tw.toInt, (0 : Int), []) :: gs))) bc [] 0 ((f 68).toNatClampNeg :: []) := hR567
                  show am_E _ _ _ _ [some (.ref 39)] [] _ _
                  refine am_e2 (v := 39) hi_201_49 rfl ?_
                  refine am_e0 hi_201_50 ?_
                  refine am_e32w (as := [.ref 39, .int 0]) (la := [some (.ref 39), some (.int 0)]) (rest := []) hi_201_51 (am_hd0 (M := 201) (by decide) 51) (Nat.le_of_ble_eq_true rfl) (Nat.le_of_ble_eq_true rfl) (show 2 ≤ am_P0.2.2.1 186 from by decide +kernel) rfl (am_recv_ok hS564.fs) rfl rfl ?_
                  refine am_e2 (v := 39) hi_186_0 rfl ?_
                  refine am_e0 hi_186_1 ?_
                  refine am_e1 (v := 0) hi_186_3 rfl ?_
                  refine am_e0 hi_186_4 ?_
                  refine am_e0 hi_186_5 ?_
                  refine am_e32n (as := [.ref 39, .int 23, .int 0, .int 0, .int 0]) (la := [some (.ref 39), some (.int 23), some (.int 0), some (.int 0), some (.int 0)]) (rest := []) hi_186_6 (am_hd0 (M := 186) (by decide) 6) (Nat.le_of_ble_eq_true rfl) (Nat.le_of_ble_eq_true rfl) (show 5 ≤ am_P0.2.2.1 179 from by decide +kernel) rfl (am_recv_ok hS564.fs) rfl rfl (ct_pile (d := (d + 4)) hS564 hR567_ (mj_e_plain (by decide)) (by show (0 : Int) ≤ z561.toInt; omega) (by show z561.toInt ≤ (65535 : Int); omega)) ?_
                  rintro v568 S569 (⟨z570, g'571, hv572, hS573, hR576, h574, h575⟩)
                  subst hv572
                  have h574_ : z570.toInt = z561.toInt + 1 := h574
                  have h575_ : ∀ j, j ∉ [11, 12, 13, 14] → g'571 j = g'562 j := h575
                  replace hS573 : MS S0 S569 (upd (upd (upd (upd (upd (upd f 4 z544) 5 y545) 10 z570) 15 z0) 20 z500) 68 z489) g'571 := hS573
                  have hR576_ : RJ (upd (upd (upd (upd (upd (upd f 4 z544) 5 y545) 10 z570) 15 z0) 20 z500) 68 z489) g'571 (((23 : Int), (0 : Int), (0 : Int), (0 : Int), []) :: (((29 : Int), (0 : Int), (0 : Int), (0 : Int), []) :: (((28 : Int), (0 : Int), (0 : Int), (0 : Int), []) :: (((21 : Int), z515.toInt, tw.toInt, (0 : Int), []) :: gs)))) bc [] 0 ((f 68).toNatClampNeg :: []) := hR576
                  show am_E _ _ _ _ [some (.ref 39), some (.int 0)] [] _ _
                  refine am_e35 hi_186_9 ?_
                  show am_E _ _ _ _ [some (.ref 39)] [] _ _
                  refine am_e35 hi_201_54 ?_
                  show am_E _ _ _ _ [some (.ref 39), some (.int on), some (.int tw), some (.int (g 16 z0.toNatClampNeg)), some (.int r3), some (.int 1), some (.int (g 18 z0.toNatClampNeg)), none] [] _ _
                  refine am_e18 hi_264_226 ?_
                  refine am_e35 hi_264_244 ?_
                  show am_E _ _ _ _ [some (.ref 39), some (.int 21), some (.int on), some (.int tw), some (.int th)] [] _ _
                  refine am_e18 hi_180_362 ?_
                  refine am_e35 hi_180_371 ?_
                  have q1 : mg_p1 (((23 : Int), (0 : Int), (0 : Int), (0 : Int), []) :: (((29 : Int), (0 : Int), (0 : Int), (0 : Int), []) :: (((28 : Int), (0 : Int), (0 : Int), (0 : Int), []) :: (((21 : Int), z515.toInt, tw.toInt, (0 : Int), []) :: gs)))) = 0 + (0 + (0 + (0 + (mg_p1 gs)))) := rfl
                  have q2 : mg_p2 (((23 : Int), (0 : Int), (0 : Int), (0 : Int), []) :: (((29 : Int), (0 : Int), (0 : Int), (0 : Int), []) :: (((28 : Int), (0 : Int), (0 : Int), (0 : Int), []) :: (((21 : Int), z515.toInt, tw.toInt, (0 : Int), []) :: gs)))) = 0 + (0 + (0 + (0 + (mg_p2 gs)))) := rfl
                  have q3 : mg_p3 (((23 : Int), (0 : Int), (0 : Int), (0 : Int), []) :: (((29 : Int), (0 : Int), (0 : Int), (0 : Int), []) :: (((28 : Int), (0 : Int), (0 : Int), (0 : Int), []) :: (((21 : Int), z515.toInt, tw.toInt, (0 : Int), []) :: gs)))) = 1 + (1 + (1 + (1 + (mg_p3 gs)))) := rfl
                  have q4 : mg_p4 (((23 : Int), (0 : Int), (0 : Int), (0 : Int), []) :: (((29 : Int), (0 : Int), (0 : Int), (0 : Int), []) :: (((28 : Int), (0 : Int), (0 : Int), (0 : Int), []) :: (((21 : Int), z515.toInt, tw.toInt, (0 : Int), []) :: gs)))) = 0 + (0 + (0 + (0 + (mg_p4 gs)))) := rfl
                  refine ⟨_, _, _, bc, rfl, hS573, Or.inl ⟨⟨(RJ.fewer (pj' := []) hR576_ (fun _ h => nomatch h)), ?_, ?_⟩, rfl, ?_⟩⟩
                  · exact (⟨⟨(show mg_k 23 from by decide), (show (0 : Int) ≤ z0.toInt from by omega), (show 0 ≤ z500.toInt from by omega), (show 1 ≤ (f 37).toInt from by omega), (show 0 ≤ (f 32).toInt from by omega), (show (f 32).toInt ≤ y545.toInt from by omega), (show y545.toInt ≤ 48 from by omega), (show (f 37).toInt ≤ 2 * (y545.toInt) + 2 from by omega), (show 0 ≤ (0 : Int) from by omega)⟩, ⟨⟨(show mg_k 29 from by decide), (show (1 : Int) ≤ z0.toInt + 1 from by omega), (show 0 ≤ z500.toInt from by omega), (show 1 ≤ (f 37).toInt + 0 from by omega), (show 0 ≤ (f 32).toInt + 0 from by omega), (show (f 32).toInt + 0 ≤ y545.toInt + 0 from by omega), (show y545.toInt + 0 ≤ 48 from by omega), (show (f 37).toInt + 0 ≤ 2 * (y545.toInt + 0) + 2 from by omega), trivial⟩, ⟨⟨(show mg_k 28 from by decide), (show (1 : Int) ≤ z0.toInt + 1 + 0 from by omega), (show 0 ≤ z500.toInt from by omega), (show 1 ≤ (f 37).toInt + 0 + 0 from by omega), (show 0 ≤ (f 32).toInt + 0 + 0 from by omega), (show (f 32).toInt + 0 + 0 ≤ y545.toInt + 0 + -1 from by omega), (show y545.toInt + 0 + -1 ≤ 48 from by omega), (show (f 37).toInt + 0 + 0 ≤ 2 * (y545.toInt + 0 + -1) + 2 from by omega), trivial⟩, ⟨⟨(show mg_k 21 from by decide), (show (1 : Int) ≤ z0.toInt + 1 + 0 + 0 from by omega), (show 0 ≤ z500.toInt from by omega), (show 1 ≤ (f 37).toInt + 0 + 0 + 0 from by omega), (show 0 ≤ (f 32).toInt + 0 + 0 + 0 from by omega), (show (f 32).toInt + 0 + 0 + 0 ≤ y545.toInt + 0 + -1 + 0 from by omega), (show y545.toInt + 0 + -1 + 0 ≤ 48 from by omega), (show (f 37).toInt + 0 + 0 + 0 ≤ 2 * (y545.toInt + 0 + -1 + 0) + 1 from by omega), ⟨(show 0 ≤ z515.toInt from by omega), (show 0 ≤ tw.toInt from by omega), (show z500.toInt = tw.toInt + z515.toInt from by omega)⟩⟩, mg_cast (mg_good_ext _ _ _ _ _ _ (fun i _ => by show g'571 34 i = g 34 i; rw [show g'571 34 = g'562 34 from h575_ 34 (by decide), show g'562 34 = g'528 34 from h566_ 34 (by decide), show g'528 34 = g'519 34 from h532_ 34 (by decide), show g'519 34 = g'501 34 from h523_ 34 (by decide), show g'501 34 = g'491 34 from h505_ 34 (by decide), show g'491 34 = g 34 from h496_ 34 (by decide)]) (fun i _ => by show g'571 38 i = g 38 i; rw [show g'571 38 = g'562 38 from h575_ 38 (by decide), show g'562 38 = g'528 38 from h566_ 38 (by decide), show g'528 38 = g'519 38 from h532_ 38 (by decide), show g'519 38 = g'501 38 from h523_ 38 (by decide), show g'501 38 = g'491 38 from h505_ 38 (by decide), show g'491 38 = g 38 from h496_ 38 (by decide)]) (fun i hi => by show g'571 23 i = g 23 i; rw [show g'571 23 = g'562 23 from h575_ 23 (by decide), show g'562 23 = g'528 23 from h566_ 23 (by decide), show g'528 23 = g'519 23 from h532_ 23 (by decide), show g'519 23 = g'501 23 from h523_ 23 (by decide), h506_, show g'491 23 = g 23 from h496_ 23 (by decide)]; exact upd_ne (by rw [cl_toNat]; omega)) hrest) (by show (f 15).toInt + -1 = z0.toInt + 1 + 0 + 0 + -1; omega) (by show tw.toInt = tw.toInt; omega) (by show (f 37).toInt + 0 = (f 37).toInt + 0 + 0 + 0 + 0; omega) (by show (f 32).toInt + 0 = (f 32).toInt + 0 + 0 + 0 + 0; omega) (by show (f 5).toInt + 0 = y545.toInt + 0 + -1 + 0 + 0; omega)⟩⟩⟩⟩ : mg_good (g'571 34) (g'571 38) (g'571 23) (((23 : Int), (0 : Int), (0 : Int), (0 : Int), []) :: (((29 : Int), (0 : Int), (0 : Int), (0 : Int), []) :: (((28 : Int), (0 : Int), (0 : Int), (0 : Int), []) :: (((21 : Int), z515.toInt, tw.toInt, (0 : Int), []) :: gs)))) (z0.toInt) (z500.toInt) ((f 37).toInt) ((f 32).toInt) (y545.toInt))
                  · exact ⟨(by show 0 ≤ z544.toInt; omega), (by show z544.toInt ≤ (f 0).toInt; omega), (by show (f 0).toInt ≤ 512; omega), (by show 0 ≤ (f 24).toInt; omega), (by show (f 24).toInt + z500.toInt + mg_p1 (((23 : Int), (0 : Int), (0 : Int), (0 : Int), []) :: (((29 : Int), (0 : Int), (0 : Int), (0 : Int), []) :: (((28 : Int), (0 : Int), (0 : Int), (0 : Int), []) :: (((21 : Int), z515.toInt, tw.toInt, (0 : Int), []) :: gs)))) ≤ 4 * z544.toInt; omega), (by show z500.toInt ≤ z544.toInt; omega), (by show z0.toInt + mg_p2 (((23 : Int), (0 : Int), (0 : Int), (0 : Int), []) :: (((29 : Int), (0 : Int), (0 : Int), (0 : Int), []) :: (((28 : Int), (0 : Int), (0 : Int), (0 : Int), []) :: (((21 : Int), z515.toInt, tw.toInt, (0 : Int), []) :: gs)))) ≤ z544.toInt; omega), (by show mg_p3 (((23 : Int), (0 : Int), (0 : Int), (0 : Int), []) :: (((29 : Int), (0 : Int), (0 : Int), (0 : Int), []) :: (((28 : Int), (0 : Int), (0 : Int), (0 : Int), []) :: (((21 : Int), z515.toInt, tw.toInt, (0 : Int), []) :: gs)))) ≤ 20 * z544.toInt + 20; omega), (by show 0 ≤ z489.toInt; omega), (by show z489.toInt + 3 * z500.toInt + mg_p4 (((23 : Int), (0 : Int), (0 : Int), (0 : Int), []) :: (((29 : Int), (0 : Int), (0 : Int), (0 : Int), []) :: (((28 : Int), (0 : Int), (0 : Int), (0 : Int), []) :: (((21 : Int), z515.toInt, tw.toInt, (0 : Int), []) :: gs)))) ≤ 60 * z544.toInt + 60; omega), (by show 0 ≤ (f 62).toInt; omega), (by show (f 62).toInt + 64 * mj_n (g'571 16) z0.toNatClampNeg 3 ≤ 64 * z544.toInt; rw [show g'571 16 = g'562 16 from h575_ 16 (by decide), show g'562 16 = g'528 16 from h566_ 16 (by decide), show g'528 16 = g'519 16 from h532_ 16 (by decide), show g'519 16 = g'501 16 from h523_ 16 (by decide), show g'501 16 = g'491 16 from h505_ 16 (by decide), show g'491 16 = g 16 from h496_ 16 (by decide)]; omega), (by show 0 ≤ (f 44).toInt; omega), (by show (f 44).toInt ≤ z544.toInt; omega), (by show 0 ≤ (f 48).toInt; omega), (by show (f 48).toInt ≤ z544.toInt; omega), (by show 1 ≤ (f 53).toInt; omega), (by show (f 53).toInt ≤ z544.toInt + 1; omega), (by show 0 ≤ (f 19).toInt; omega), (by show (f 19).toInt ≤ 600; omega)⟩
                  · show 100 * ((f 0).toInt - z544.toInt) + mg_p3 (((23 : Int), (0 : Int), (0 : Int), (0 : Int), []) :: (((29 : Int), (0 : Int), (0 : Int), (0 : Int), []) :: (((28 : Int), (0 : Int), (0 : Int), (0 : Int), []) :: (((21 : Int), z515.toInt, tw.toInt, (0 : Int), []) :: gs)))) < 100 * ((f 0).toInt - (f 4).toInt) + (1 + mg_p3 gs); omega
                · subst hv555
                  replace hS556 : MS S0 S543 (upd (upd (upd (upd (upd (upd (upd f 4 z511) 6 a553) 7 b554) 10 0) 15 z0) 20 z500) 68 z489) g'528 := hS556
                  have hR577 := rj_clear0 hR533_
                  have hR578 : RJ (upd (upd (upd (upd (upd (upd (upd f 4 z511) 6 a553) 7 b554) 10 0) 15 z0) 20 z500) 68 z489) g'528 [] bc [] 0 [] := hR577
                  show am_E _ _ _ _ [some (.ref 39)] [.int 0] _ _
                  refine am_e12t hi_201_37 (by decide) ?_
                  refine am_e35 hi_201_54 ?_
                  show am_E _ _ _ _ [some (.ref 39), some (.int on), some (.int tw), some (.int (g 16 z0.toNatClampNeg)), some (.int r3), some (.int 1), some (.int (g 18 z0.toNatClampNeg)), none] [] _ _
                  refine am_e18 hi_264_226 ?_
                  refine am_e35 hi_264_244 ?_
                  show am_E _ _ _ _ [some (.ref 39), some (.int 21), some (.int on), some (.int tw), some (.int th)] [] _ _
                  refine am_e18 hi_180_362 ?_
                  refine am_e35 hi_180_371 ?_
                  have hRc := rj_clear0 hR578
                  refine ⟨_, _, [], _, rfl, hS556, Or.inr ⟨hRc, rfl, (by show 0 ≤ z511.toInt; omega), (by show z511.toInt ≤ (f 0).toInt; omega), (by show 0 ≤ (f 32).toInt; omega), (by show (f 32).toInt ≤ 63; omega), (by show 1 ≤ (f 53).toInt; omega), (by show (f 53).toInt ≤ 600; omega), (by show 0 ≤ z489.toInt; omega), (by show z489.toInt ≤ 60000; omega), (by show 0 ≤ (f 48).toInt; omega), (by show (f 48).toInt ≤ 8000; omega), (by show 0 ≤ (f 37).toInt; omega), (by show (f 37).toInt ≤ 128; omega), (by show 0 ≤ (f 62).toInt; omega), (by show (f 62).toInt ≤ 65000; omega), (by show 0 ≤ (f 19).toInt; omega), (by show (f 19).toInt ≤ 600; omega)⟩⟩
              · refine am_e13f hi_201_5 (am_cF (m := r536.toInt) (n := (1 : Int)) rfl (by decide) c541) ?_
                refine am_e2 (v := 39) hi_201_8 rfl ?_
                refine am_e0 hi_201_9 ?_
                refine am_e0 hi_201_10 ?_
                refine am_e2 (v := 39) hi_201_11 rfl ?_
                refine mm_20 (v := .int z511) hS538 hi_201_12 rfl ?_
                refine am_e32n (as := [.ref 39, .int 3, .int 0, .int z511]) (la := [some (.ref 39), some (.int 3), some (.int 0), some (.int z511)]) (rest := []) hi_201_15 (am_hd0 (M := 201) (by decide) 15) (Nat.le_of_ble_eq_true rfl) (Nat.le_of_ble_eq_true rfl) (show 4 ≤ am_P0.2.2.1 190 from by decide +kernel) rfl (am_recv_ok hS538.fs) rfl rfl (ct_value (d := (d + 5)) hS538 hR533_ (fun _ => ⟨by omega, by omega⟩) (fun h => absurd h (by decide)) (by show (0 : Int) ≤ z0.toInt; omega) (by show z0.toInt ≤ (32767 : Int); omega)) ?_
                rintro v579 S580 (⟨z581, g'582, hv583, hS584, hR589, h585, h586, h587, h588⟩)
                subst hv583
                have h585_ : z581.toInt = z0.toInt + 1 := h585
                have h586_ : ∀ j, j ∉ [16, 17, 18] → g'582 j = g'528 j := h586
                have h587_ : mj_n (g'582 16) z581.toNatClampNeg 3 ≤ mj_n (g 16) z0.toNatClampNeg 3 + 1 := by rw [show g'528 16 = g'519 16 from h532_ 16 (by decide), show g'519 16 = g'501 16 from h523_ 16 (by decide), show g'501 16 = g'491 16 from h505_ 16 (by decide), show g'491 16 = g 16 from h496_ 16 (by decide)] at h587; exact h587
                have h588_ : (3 : Int) = 3 ∨ mj_n (g'582 16) z581.toNatClampNeg 3 ≤ mj_n (g 16) z0.toNatClampNeg 3 := by rw [show g'528 16 = g'519 16 from h532_ 16 (by decide), show g'519 16 = g'501 16 from h523_ 16 (by decide), show g'501 16 = g'491 16 from h505_ 16 (by decide), show g'491 16 = g 16 from h496_ 16 (by decide)] at h588; exact h588
                replace hS584 : MS S0 S580 (upd (upd (upd (upd (upd f 4 z511) 10 z527) 15 z581) 20 z500) 68 z489) g'582 := hS584
                have hR589_ : RJ (upd (upd (upd (upd (upd f 4 z511) 10 z527) 15 z581) 20 z500) 68 z489) g'582 (((28 : Int), (0 : Int), (0 : Int), (0 : Int), []) :: (((21 : Int), z515.toInt, tw.toInt, (0 : Int), []) :: gs)) bc [] 0 ((f 68).toNatClampNeg :: []) := hR589
                show am_E _ _ _ _ [some (.ref 39)] [] _ _
                refine am_e2 (v := 39) hi_201_18 rfl ?_
                refine am_e7 hi_201_19 ?_
                refine mm_20 (v := .int z511) hS584 hi_201_20 rfl ?_
                refine am_e0 hi_201_23 ?_
                obtain ⟨z590, hz590, tz590⟩ := am_addI (x := z511) (y := 1) (m := z511.toInt) (n := (1 : Int)) rfl (by decide) (by omega) (by omega)
                refine am_e10 (z := z590) hi_201_24 hz590 ?_
                refine mm_21 (v := z590) hS584 hi_201_25 rfl (Nat.le_of_ble_eq_true rfl) ms_4 ?_
                intro S591 hS592
                replace hS592 : MS S0 S591 (upd (upd (upd (upd (upd f 4 z590) 10 z527) 15 z581) 20 z500) 68 z489) g'582 := hS592
                have hR593 : RJ (upd (upd (upd (upd (upd f 4 z590) 10 z527) 15 z581) 20 z500) 68 z489) g'582 (((28 : Int), (0 : Int), (0 : Int), (0 : Int), []) :: (((21 : Int), z515.toInt, tw.toInt, (0 : Int), []) :: gs)) bc [] 0 ((f 68).toNatClampNeg :: []) := RJ.at hR589_ (by show z511.toInt ≤ z590.toInt; omega)
                refine am_e18 hi_201_28 ?_
                refine am_e35 hi_201_54 ?_
                show am_E _ _ _ _ [some (.ref 39), some (.int on), some (.int tw), some (.int (g 16 z0.toNatClampNeg)), some (.int r3), some (.int 1), some (.int (g 18 z0.toNatClampNeg)), none] [] _ _
                refine am_e18 hi_264_226 ?_
                refine am_e35 hi_264_244 ?_
                show am_E _ _ _ _ [some (.ref 39), some (.int 21), some (.int on), some (.int tw), some (.int th)] [] _ _
                refine am_e18 hi_180_362 ?_
                refine am_e35 hi_180_371 ?_
                have q1 : mg_p1 (((28 : Int), (0 : Int), (0 : Int), (0 : Int), []) :: (((21 : Int), z515.toInt, tw.toInt, (0 : Int), []) :: gs)) = 0 + (0 + (mg_p1 gs)) := rfl
                have q2 : mg_p2 (((28 : Int), (0 : Int), (0 : Int), (0 : Int), []) :: (((21 : Int), z515.toInt, tw.toInt, (0 : Int), []) :: gs)) = 0 + (0 + (mg_p2 gs)) := rfl
                have q3 : mg_p3 (((28 : Int), (0 : Int), (0 : Int), (0 : Int), []) :: (((21 : Int), z515.toInt, tw.toInt, (0 : Int), []) :: gs)) = 1 + (1 + (mg_p3 gs)) := rfl
                have q4 : mg_p4 (((28 : Int), (0 : Int), (0 : Int), (0 : Int), []) :: (((21 : Int), z515.toInt, tw.toInt, (0 : Int), []) :: gs)) = 0 + (0 + (mg_p4 gs)) := rfl
                refine ⟨_, _, _, bc, rfl, hS592, Or.inl ⟨⟨(RJ.fewer (pj' := []) hR593 (fun _ h => nomatch h)), ?_, ?_⟩, rfl, ?_⟩⟩
                · exact (⟨⟨(show mg_k 28 from by decide), (show (1 : Int) ≤ z581.toInt from by omega), (show 0 ≤ z500.toInt from by omega), (show 1 ≤ (f 37).toInt from by omega), (show 0 ≤ (f 32).toInt from by omega), (show (f 32).toInt ≤ (f 5).toInt from by omega), (show (f 5).toInt ≤ 48 from by omega), (show (f 37).toInt ≤ 2 * ((f 5).toInt) + 2 from by omega), trivial⟩, ⟨⟨(show mg_k 21 from by decide), (show (1 : Int) ≤ z581.toInt + 0 from by omega), (show 0 ≤ z500.toInt from by omega), (show 1 ≤ (f 37).toInt + 0 from by omega), (show 0 ≤ (f 32).toInt + 0 from by omega), (show (f 32).toInt + 0 ≤ (f 5).toInt + 0 from by omega), (show (f 5).toInt + 0 ≤ 48 from by omega), (show (f 37).toInt + 0 ≤ 2 * ((f 5).toInt + 0) + 1 from by omega), ⟨(show 0 ≤ z515.toInt from by omega), (show 0 ≤ tw.toInt from by omega), (show z500.toInt = tw.toInt + z515.toInt from by omega)⟩⟩, mg_cast (mg_good_ext _ _ _ _ _ _ (fun i _ => by show g'582 34 i = g 34 i; rw [show g'582 34 = g'528 34 from h586_ 34 (by decide), show g'528 34 = g'519 34 from h532_ 34 (by decide), show g'519 34 = g'501 34 from h523_ 34 (by decide), show g'501 34 = g'491 34 from h505_ 34 (by decide), show g'491 34 = g 34 from h496_ 34 (by decide)]) (fun i _ => by show g'582 38 i = g 38 i; rw [show g'582 38 = g'528 38 from h586_ 38 (by decide), show g'528 38 = g'519 38 from h532_ 38 (by decide), show g'519 38 = g'501 38 from h523_ 38 (by decide), show g'501 38 = g'491 38 from h505_ 38 (by decide), show g'491 38 = g 38 from h496_ 38 (by decide)]) (fun i hi => by show g'582 23 i = g 23 i; rw [show g'582 23 = g'528 23 from h586_ 23 (by decide), show g'528 23 = g'519 23 from h532_ 23 (by decide), show g'519 23 = g'501 23 from h523_ 23 (by decide), h506_, show g'491 23 = g 23 from h496_ 23 (by decide)]; exact upd_ne (by rw [cl_toNat]; omega)) hrest) (by show (f 15).toInt + -1 = z581.toInt + 0 + -1; omega) (by show tw.toInt = tw.toInt; omega) (by show (f 37).toInt + 0 = (f 37).toInt + 0 + 0; omega) (by show (f 32).toInt + 0 = (f 32).toInt + 0 + 0; omega) (by show (f 5).toInt + 0 = (f 5).toInt + 0 + 0; omega)⟩⟩ : mg_good (g'582 34) (g'582 38) (g'582 23) (((28 : Int), (0 : Int), (0 : Int), (0 : Int), []) :: (((21 : Int), z515.toInt, tw.toInt, (0 : Int), []) :: gs)) (z581.toInt) (z500.toInt) ((f 37).toInt) ((f 32).toInt) ((f 5).toInt))
                · exact ⟨(by show 0 ≤ z590.toInt; omega), (by show z590.toInt ≤ (f 0).toInt; omega), (by show (f 0).toInt ≤ 512; omega), (by show 0 ≤ (f 24).toInt; omega), (by show (f 24).toInt + z500.toInt + mg_p1 (((28 : Int), (0 : Int), (0 : Int), (0 : Int), []) :: (((21 : Int), z515.toInt, tw.toInt, (0 : Int), []) :: gs)) ≤ 4 * z590.toInt; omega), (by show z500.toInt ≤ z590.toInt; omega), (by show z581.toInt + mg_p2 (((28 : Int), (0 : Int), (0 : Int), (0 : Int), []) :: (((21 : Int), z515.toInt, tw.toInt, (0 : Int), []) :: gs)) ≤ z590.toInt; omega), (by show mg_p3 (((28 : Int), (0 : Int), (0 : Int), (0 : Int), []) :: (((21 : Int), z515.toInt, tw.toInt, (0 : Int), []) :: gs)) ≤ 20 * z590.toInt + 20; omega), (by show 0 ≤ z489.toInt; omega), (by show z489.toInt + 3 * z500.toInt + mg_p4 (((28 : Int), (0 : Int), (0 : Int), (0 : Int), []) :: (((21 : Int), z515.toInt, tw.toInt, (0 : Int), []) :: gs)) ≤ 60 * z590.toInt + 60; omega), (by show 0 ≤ (f 62).toInt; omega), (by show (f 62).toInt + 64 * mj_n (g'582 16) z581.toNatClampNeg 3 ≤ 64 * z590.toInt; omega), (by show 0 ≤ (f 44).toInt; omega), (by show (f 44).toInt ≤ z590.toInt; omega), (by show 0 ≤ (f 48).toInt; omega), (by show (f 48).toInt ≤ z590.toInt; omega), (by show 1 ≤ (f 53).toInt; omega), (by show (f 53).toInt ≤ z590.toInt + 1; omega), (by show 0 ≤ (f 19).toInt; omega), (by show (f 19).toInt ≤ 600; omega)⟩
                · show 100 * ((f 0).toInt - z590.toInt) + mg_p3 (((28 : Int), (0 : Int), (0 : Int), (0 : Int), []) :: (((21 : Int), z515.toInt, tw.toInt, (0 : Int), []) :: gs)) < 100 * ((f 0).toInt - (f 4).toInt) + (1 + mg_p3 gs); omega
          · refine am_e13f hi_264_117 (am_cF (m := (g 16 z0.toNatClampNeg).toInt) (n := (3 : Int)) rfl (by decide) c388) ?_
            refine am_e2 (v := 39) hi_264_120 rfl ?_
            refine am_e1 (v := g 18 z0.toNatClampNeg) hi_264_121 rfl ?_
            refine am_e32w (as := [.ref 39, .int (g 18 z0.toNatClampNeg)]) (la := [some (.ref 39), some (.int (g 18 z0.toNatClampNeg)), none]) (rest := []) hi_264_123 (am_hd0 (M := 264) (by decide) 123) (Nat.le_of_ble_eq_true rfl) (Nat.le_of_ble_eq_true rfl) (show 2 ≤ am_P0.2.2.1 237 from by decide +kernel) rfl (am_recv_ok hS5.fs) rfl rfl ?_
            refine am_e2 (v := 39) hi_237_0 rfl ?_
            refine am_e2 (v := 39) hi_237_1 rfl ?_
            refine mm_20 (v := .ref 41) hS5 hi_237_2 rfl ?_
            refine am_e1 (v := g 18 z0.toNatClampNeg) hi_237_5 rfl ?_
            refine mm_25 hS5 ma_2 hi_237_6 (by decide) (by omega) (by omega) ?_
            show am_E _ _ _ _ [some (.ref 39), some (.int (g 18 z0.toNatClampNeg)), none] [.int (g 2 (g 18 z0.toNatClampNeg).toNatClampNeg), .ref 39] _ _
            refine am_e32n (as := [.ref 39, .int (g 2 (g 18 z0.toNatClampNeg).toNatClampNeg)]) (la := [some (.ref 39), some (.int (g 2 (g 18 z0.toNatClampNeg).toNatClampNeg)), none]) (rest := []) hi_237_7 (am_hd0 (M := 237) (by decide) 7) (Nat.le_of_ble_eq_true rfl) (Nat.le_of_ble_eq_true rfl) (show 2 ≤ am_P0.2.2.1 206 from by decide +kernel) rfl (am_recv_ok hS5.fs) rfl rfl (ct_find (d := (d + 5)) hS5   (by show (0 : Int) ≤ (f 24).toInt; omega) (by show (f 24).toInt ≤ (16384 : Int); omega)) ?_
            rintro v594 S595 (⟨r596, hv597, hS598, h599, h600⟩)
            subst hv597
            have h599_ : (-1 : Int) ≤ r596.toInt := h599
            have h600_ : r596.toInt < (f 24).toInt := h600
            show am_E _ _ _ _ [some (.ref 39), some (.int (g 18 z0.toNatClampNeg)), none] [.int r596] _ _
            refine am_e3 (ls' := [some (.ref 39), some (.int (g 18 z0.toNatClampNeg)), some (.int r596)]) hi_237_10 (Nat.le_of_ble_eq_true rfl) rfl ?_
            refine am_e1 (v := r596) hi_237_11 rfl ?_
            by_cases c602 : r596.toInt < (0 : Int)
            · refine am_e12t hi_237_12 (am_cT (m := r596.toInt) (n := (0 : Int)) rfl (by decide) c602) ?_
              refine am_e2 (v := 39) hi_237_31 rfl ?_
              refine am_e1 (v := g 18 z0.toNatClampNeg) hi_237_32 rfl ?_
              refine am_e32n (as := [.ref 39, .int (g 18 z0.toNatClampNeg)]) (la := [some (.ref 39), some (.int (g 18 z0.toNatClampNeg)), none, none, none]) (rest := []) hi_237_33 (am_hd0 (M := 237) (by decide) 33) (Nat.le_of_ble_eq_true rfl) (Nat.le_of_ble_eq_true rfl) (show 2 ≤ am_P0.2.2.1 205 from by decide +kernel) rfl (am_recv_ok hS598.fs) rfl rfl (ct_resolve (d := (d + 4)) hS598 hR  (by show (0 : Int) ≤ (f 32).toInt; omega) (by show (f 32).toInt ≤ (63 : Int); omega) (by show (f 53).toInt ≤ (4096 : Int); omega) (by show (0 : Int) ≤ (f 24).toInt; omega) (by show (f 24).toInt ≤ (16384 : Int); omega) (by show (0 : Int) ≤ (f 62).toInt; omega) (by show (f 62).toInt ≤ (65000 : Int); omega) (by show (0 : Int) ≤ (g 18 z0.toNatClampNeg).toInt; omega) (by show (g 18 z0.toNatClampNeg).toInt ≤ (16383 : Int); omega)) ?_
              rintro v603 S604 (⟨o605, m606, g'607, r608, hv609, hS610, hR616, h611, h612, h613, h614, h615⟩)
              subst hv609
              have h611_ : (f 62).toInt ≤ o605.toInt := h611
              have h612_ : o605.toInt ≤ (f 62).toInt + 64 := h612
              have h613_ : (0 : Int) ≤ r608.toInt := h613
              have h614_ : r608.toInt ≤ (2 : Int) := h614
              have h615_ : ∀ j, j ∉ [63, 64, 65, 66, 67] → g'607 j = g j := h615
              have hR616_ : RJ (upd (upd f 62 o605) 75 m606) g'607 gs bc [] 0 [] := hR616
              show am_E _ _ _ _ [some (.ref 39), some (.int (g 18 z0.toNatClampNeg)), some (.int r596)] [.int r608] _ _
              refine am_e33 hi_237_36 ?_
              show am_E _ _ _ _ [some (.ref 39), some (.int on), some (.int tw), some (.int (g 16 z0.toNatClampNeg)), some (.int r3), some (.int 1), some (.int (g 18 z0.toNatClampNeg)), none] [.int r608] _ _
              refine am_e3 (ls' := [some (.ref 39), some (.int on), some (.int tw), some (.int (g 16 z0.toNatClampNeg)), some (.int r3), some (.int 1), some (.int (g 18 z0.toNatClampNeg)), some (.int r608)]) hi_264_126 (Nat.le_of_ble_eq_true rfl) rfl ?_
              refine am_e2 (v := 39) hi_264_128 rfl ?_
              refine am_e1 (v := r608) hi_264_129 rfl ?_
              refine am_e2 (v := 39) hi_264_131 rfl ?_
              refine mm_20 (v := .int m606) hS610 hi_264_132 rfl ?_
              refine am_e1 (v := g 18 z0.toNatClampNeg) hi_264_135 rfl ?_
              refine am_e32n (as := [.ref 39, .int r608, .int m606, .int (g 18 z0.toNatClampNeg)]) (la := [some (.ref 39), some (.int r608), some (.int m606), some (.int (g 18 z0.toNatClampNeg))]) (rest := []) hi_264_137 (am_hd0 (M := 264) (by decide) 137) (Nat.le_of_ble_eq_true rfl) (Nat.le_of_ble_eq_true rfl) (show 4 ≤ am_P0.2.2.1 239 from by decide +kernel) rfl (am_recv_ok hS610.fs) rfl rfl (ct_keep2 (d := (d + 6)) hS610 hR616_  (by show (0 : Int) ≤ (f 20).toInt; omega) (by show (f 20).toInt ≤ (16383 : Int); omega)) ?_
              rintro v617 S618 (⟨z619, g'620, hv621, hS622, hR626, h623, h624, h625⟩)
              subst hv621
              have h623_ : z619.toInt = (f 20).toInt + 1 := h623
              have h624_ : ∀ j, j ∉ [21, 22, 23] → g'620 j = g'607 j := h624
              have h625_ : g'620 23 = upd (g'607 23) (f 20).toNatClampNeg (g 18 z0.toNatClampNeg) := h625
              replace hS622 : MS S0 S618 (upd (upd (upd f 20 z619) 62 o605) 75 m606) g'620 := hS622
              have hR626_ : RJ (upd (upd (upd f 20 z619) 62 o605) 75 m606) g'620 gs bc [] 0 [] := hR626
              show am_E _ _ _ _ [some (.ref 39), some (.int on), some (.int tw), some (.int (g 16 z0.toNatClampNeg)), some (.int r3), some (.int 1), some (.int (g 18 z0.toNatClampNeg)), some (.int r608)] [] _ _
              refine am_e18 hi_264_140 ?_
              refine am_e2 (v := 39) hi_264_175 rfl ?_
              refine am_e7 hi_264_176 ?_
              refine mm_20 (v := .int (f 15)) hS622 hi_264_177 rfl ?_
              refine am_e0 hi_264_180 ?_
              refine am_e10 (z := z0) hi_264_181 hz0 ?_
              refine mm_21 (v := z0) hS622 hi_264_182 rfl (Nat.le_of_ble_eq_true rfl) ms_15 ?_
              intro S627 hS628
              replace hS628 : MS S0 S627 (upd (upd (upd (upd f 15 z0) 20 z619) 62 o605) 75 m606) g'620 := hS628
              have hp629 : mj_n (g 16) (f 15).toNatClampNeg 3 = mj_n (g 16) z0.toNatClampNeg 3 + if (g 16 z0.toNatClampNeg).toInt = 3 then 1 else 0 := mj_pop (by rw [cl_toNat, cl_toNat]; omega)
              have hp6291 : mj_n (g 16) z0.toNatClampNeg 3 ≤ mj_n (g 16) (f 15).toNatClampNeg 3 := by rw [hp629]; split <;> omega
              have hp6292 : (g 16 z0.toNatClampNeg).toInt = 3 → mj_n (g 16) z0.toNatClampNeg 3 + 1 ≤ mj_n (g 16) (f 15).toNatClampNeg 3 := fun q => by rw [hp629, if_pos q]; exact Int.le_refl _
              refine am_e2 (v := 39) hi_264_185 rfl ?_
              refine am_e7 hi_264_186 ?_
              refine mm_20 (v := .int (f 4)) hS628 hi_264_187 rfl ?_
              refine am_e0 hi_264_190 ?_
              obtain ⟨z630, hz630, tz630⟩ := am_addI (x := f 4) (y := 1) (m := (f 4).toInt) (n := (1 : Int)) rfl (by decide) (by omega) (by omega)
              refine am_e10 (z := z630) hi_264_191 hz630 ?_
              refine mm_21 (v := z630) hS628 hi_264_192 rfl (Nat.le_of_ble_eq_true rfl) ms_4 ?_
              intro S631 hS632
              replace hS632 : MS S0 S631 (upd (upd (upd (upd (upd f 4 z630) 15 z0) 20 z619) 62 o605) 75 m606) g'620 := hS632
              have hR633 : RJ (upd (upd (upd (upd (upd f 4 z630) 15 z0) 20 z619) 62 o605) 75 m606) g'620 gs bc [] 0 [] := RJ.at hR626_ (by show (f 4).toInt ≤ z630.toInt; omega)
              refine am_e1 (v := r3) hi_264_195 rfl ?_
              refine am_e0 hi_264_197 ?_
              refine am_e13f hi_264_199 (am_cF (m := r3.toInt) (n := (69 : Int)) rfl (by decide) (by simp only [am_cI]; omega)) ?_
              refine am_e2 (v := 39) hi_264_202 rfl ?_
              refine am_e0 hi_264_203 ?_
              refine am_e1 (v := on) hi_264_205 rfl ?_
              refine am_e0 hi_264_206 ?_
              obtain ⟨z634, hz634, tz634⟩ := am_addI (x := on) (y := 1) (m := on.toInt) (n := (1 : Int)) rfl (by decide) (by omega) (by omega)
              refine am_e10 (z := z634) hi_264_207 hz634 ?_
              refine am_e1 (v := tw) hi_264_208 rfl ?_
              refine am_e0 hi_264_209 ?_
              refine am_e32n (as := [.ref 39, .int 21, .int z634, .int tw, .int 0]) (la := [some (.ref 39), some (.int 21), some (.int z634), some (.int tw), some (.int 0)]) (rest := []) hi_264_210 (am_hd0 (M := 264) (by decide) 210) (Nat.le_of_ble_eq_true rfl) (Nat.le_of_ble_eq_true rfl) (show 5 ≤ am_P0.2.2.1 179 from by decide +kernel) rfl (am_recv_ok hS632.fs) rfl rfl (ct_pile (d := (d + 6)) hS632 hR633 (mj_e_plain (by decide)) (by show (0 : Int) ≤ (f 10).toInt; omega) (by show (f 10).toInt ≤ (65535 : Int); omega)) ?_
              rintro v635 S636 (⟨z637, g'638, hv639, hS640, hR643, h641, h642⟩)
              subst hv639
              have h641_ : z637.toInt = (f 10).toInt + 1 := h641
              have h642_ : ∀ j, j ∉ [11, 12, 13, 14] → g'638 j = g'620 j := h642
              replace hS640 : MS S0 S636 (upd (upd (upd (upd (upd (upd f 4 z630) 10 z637) 15 z0) 20 z619) 62 o605) 75 m606) g'638 := hS640
              have hR643_ : RJ (upd (upd (upd (upd (upd (upd f 4 z630) 10 z637) 15 z0) 20 z619) 62 o605) 75 m606) g'638 (((21 : Int), z634.toInt, tw.toInt, (0 : Int), []) :: gs) bc [] 0 [] := hR643
              show am_E _ _ _ _ [some (.ref 39), some (.int on), some (.int tw), some (.int (g 16 z0.toNatClampNeg)), some (.int r3), some (.int 1), some (.int (g 18 z0.toNatClampNeg)), some (.int r608)] [] _ _
              refine am_e2 (v := 39) hi_264_213 rfl ?_
              refine am_e0 hi_264_214 ?_
              refine am_e0 hi_264_216 ?_
              refine am_e0 hi_264_217 ?_
              refine am_e0 hi_264_218 ?_
              refine am_e32n (as := [.ref 39, .int 28, .int 0, .int 0, .int 0]) (la := [some (.ref 39), some (.int 28), some (.int 0), some (.int 0), some (.int 0)]) (rest := []) hi_264_219 (am_hd0 (M := 264) (by decide) 219) (Nat.le_of_ble_eq_true rfl) (Nat.le_of_ble_eq_true rfl) (show 5 ≤ am_P0.2.2.1 179 from by decide +kernel) rfl (am_recv_ok hS640.fs) rfl rfl (ct_pile (d := (d + 6)) hS640 hR643_ (mj_e_plain (by decide)) (by show (0 : Int) ≤ z637.toInt; omega) (by show z637.toInt ≤ (65535 : Int); omega)) ?_
              rintro v644 S645 (⟨z646, g'647, hv648, hS649, hR652, h650, h651⟩)
              subst hv648
              have h650_ : z646.toInt = z637.toInt + 1 := h650
              have h651_ : ∀ j, j ∉ [11, 12, 13, 14] → g'647 j = g'638 j := h651
              replace hS649 : MS S0 S645 (upd (upd (upd (upd (upd (upd f 4 z630) 10 z646) 15 z0) 20 z619) 62 o605) 75 m606) g'647 := hS649
              have hR652_ : RJ (upd (upd (upd (upd (upd (upd f 4 z630) 10 z646) 15 z0) 20 z619) 62 o605) 75 m606) g'647 (((28 : Int), (0 : Int), (0 : Int), (0 : Int), []) :: (((21 : Int), z634.toInt, tw.toInt, (0 : Int), []) :: gs)) bc [] 0 [] := hR652
              show am_E _ _ _ _ [some (.ref 39), some (.int on), some (.int tw), some (.int (g 16 z0.toNatClampNeg)), some (.int r3), some (.int 1), some (.int (g 18 z0.toNatClampNeg)), some (.int r608)] [] _ _
              refine am_e2 (v := 39) hi_264_222 rfl ?_
              refine am_e32w (as := [.ref 39]) (la := [some (.ref 39)]) (rest := []) hi_264_223 (am_hd0 (M := 264) (by decide) 223) (Nat.le_of_ble_eq_true rfl) (Nat.le_of_ble_eq_true rfl) (show 1 ≤ am_P0.2.2.1 201 from by decide +kernel) rfl (am_recv_ok hS649.fs) rfl rfl ?_
              refine am_e2 (v := 39) hi_201_0 rfl ?_
              refine am_e32n (as := [.ref 39]) (la := [some (.ref 39)]) (rest := []) hi_201_1 (am_hd0 (M := 201) (by decide) 1) (Nat.le_of_ble_eq_true rfl) (Nat.le_of_ble_eq_true rfl) (show 1 ≤ am_P0.2.2.1 183 from by decide +kernel) rfl (am_recv_ok hS649.fs) rfl rfl (ct_next (d := (d + 4)) hS649   (by show (0 : Int) ≤ z630.toInt; omega) (by show (f 0).toInt ≤ (16384 : Int); omega)) ?_
              rintro v653 S654 (⟨r655, hv656, hS657, h658⟩)
              subst hv656
              have h658_ : z630.toInt < (f 0).toInt ∨ r655.toInt = (-1 : Int) := h658
              show am_E _ _ _ _ [some (.ref 39)] [.int r655] _ _
              refine am_e0 hi_201_4 ?_
              by_cases c660 : ¬ r655.toInt = (1 : Int)
              · refine am_e13t hi_201_5 (am_cT (m := r655.toInt) (n := (1 : Int)) rfl (by decide) c660) ?_
                refine am_e2 (v := 39) hi_201_31 rfl ?_
                refine am_e0 hi_201_32 ?_
                refine am_e32n (as := [.ref 39, .int 60]) (la := [some (.ref 39), some (.int 60)]) (rest := []) hi_201_34 (am_hd0 (M := 201) (by decide) 34) (Nat.le_of_ble_eq_true rfl) (Nat.le_of_ble_eq_true rfl) (show 2 ≤ am_P0.2.2.1 193 from by decide +kernel) rfl (am_recv_ok hS657.fs) rfl rfl (ct_enter (d := (d + 3)) hS657   (by show (0 : Int) ≤ z630.toInt; omega) (by show (f 0).toInt ≤ (16384 : Int); omega) (by show (0 : Int) ≤ (60 : Int); omega) (by show (0 : Int) ≤ (f 5).toInt; omega) (by show (f 5).toInt ≤ (48 : Int); omega)) ?_
                rintro v661 S662 (⟨z663, y664, hv665, hS666, h667, h668, h669, h670⟩ | ⟨a672, b673, hv674, hS675⟩)
                · subst hv665
                  have h667_ : z663.toInt = z630.toInt + 1 := h667
                  have h668_ : z630.toInt < (f 0).toInt := h668
                  have h669_ : y664.toInt = (f 5).toInt + 1 := h669
                  have h670_ : y664.toInt ≤ (48 : Int) := h670
                  replace hS666 : MS S0 S662 (upd (upd (upd (upd (upd (upd (upd f 4 z663) 5 y664) 10 z646) 15 z0) 20 z619) 62 o605) 75 m606) g'647 := hS666
                  have hR677 : RJ (upd (upd (upd (upd (upd (upd (upd f 4 z663) 5 y664) 10 z646) 15 z0) 20 z619) 62 o605) 75 m606) g'647 (((28 : Int), (0 : Int), (0 : Int), (0 : Int), []) :: (((21 : Int), z634.toInt, tw.toInt, (0 : Int), []) :: gs)) bc [] 0 [] := RJ.at hR652_ (by show z630.toInt ≤ z663.toInt; omega)
                  show am_E _ _ _ _ [some (.ref 39)] [.int 1] _ _
                  refine am_e12f hi_201_37 (by decide) ?_
                  refine am_e2 (v := 39) hi_201_40 rfl ?_
                  refine am_e0 hi_201_41 ?_
                  refine am_e0 hi_201_43 ?_
                  refine am_e0 hi_201_44 ?_
                  refine am_e0 hi_201_45 ?_
                  refine am_e32n (as := [.ref 39, .int 29, .int 0, .int 0, .int 0]) (la := [some (.ref 39), some (.int 29), some (.int 0), some (.int 0), some (.int 0)]) (rest := []) hi_201_46 (am_hd0 (M := 201) (by decide) 46) (Nat.le_of_ble_eq_true rfl) (Nat.le_of_ble_eq_true rfl) (show 5 ≤ am_P0.2.2.1 179 from by decide +kernel) rfl (am_recv_ok hS666.fs) rfl rfl (ct_pile (d := (d + 5)) hS666 hR677 (mj_e_plain (by decide)) (by show (0 : Int) ≤ z646.toInt; omega) (by show z646.toInt ≤ (65535 : Int); omega)) ?_
                  rintro v678 S679 (⟨z680, g'681, hv682, hS683, hR686, h684, h685⟩)
                  subst hv682
                  have h684_ : z680.toInt = z646.toInt + 1 := h684
                  have h685_ : ∀ j, j ∉ [11, 12, 13, 14] → g'681 j = g'647 j := h685
                  replace hS683 : MS S0 S679 (upd (upd (upd (upd (upd (upd (upd f 4 z663) 5 y664) 10 z680) 15 z0) 20 z619) 62 o605) 75 m606) g'681 := hS683
                  have hR686_ : RJ (upd (upd (upd (upd (upd (upd (upd f 4 z663) 5 y664) 10 z680) 15 z0) 20 z619) 62 o605) 75 m606) g'681 (((29 : Int), (0 : Int), (0 : Int), (0 : Int), []) :: (((28 : Int), (0 : Int), (0 : Int), (0 : Int), []) :: (((21 : Int), z634.toInt, tw.toInt, (0 : Int), []) :: gs))) bc [] 0 [] := hR686
                  show am_E _ _ _ _ [some (.ref 39)] [] _ _
                  refine am_e2 (v := 39) hi_201_49 rfl ?_
                  refine am_e0 hi_201_50 ?_
                  refine am_e32w (as := [.ref 39, .int 0]) (la := [some (.ref 39), some (.int 0)]) (rest := []) hi_201_51 (am_hd0 (M := 201) (by decide) 51) (Nat.le_of_ble_eq_true rfl) (Nat.le_of_ble_eq_true rfl) (show 2 ≤ am_P0.2.2.1 186 from by decide +kernel) rfl (am_recv_ok hS683.fs) rfl rfl ?_
                  refine am_e2 (v := 39) hi_186_0 rfl ?_
                  refine am_e0 hi_186_1 ?_
                  refine am_e1 (v := 0) hi_186_3 rfl ?_
                  refine am_e0 hi_186_4 ?_
                  refine am_e0 hi_186_5 ?_
                  refine am_e32n (as := [.ref 39, .int 23, .int 0, .int 0, .int 0]) (la := [some (.ref 39), some (.int 23), some (.int 0), some (.int 0), some (.int 0)]) (rest := []) hi_186_6 (am_hd0 (M := 186) (by decide) 6) (Nat.le_of_ble_eq_true rfl) (Nat.le_of_ble_eq_true rfl) (show 5 ≤ am_P0.2.2.1 179 from by decide +kernel) rfl (am_recv_ok hS683.fs) rfl rfl (ct_pile (d := (d + 4)) hS683 hR686_ (mj_e_plain (by decide)) (by show (0 : Int) ≤ z680.toInt; omega) (by show z680.toInt ≤ (65535 : Int); omega)) ?_
                  rintro v687 S688 (⟨z689, g'690, hv691, hS692, hR695, h693, h694⟩)
                  subst hv691
                  have h693_ : z689.toInt = z680.toInt + 1 := h693
                  have h694_ : ∀ j, j ∉ [11, 12, 13, 14] → g'690 j = g'681 j := h694
                  replace hS692 : MS S0 S688 (upd (upd (upd (upd (upd (upd (upd f 4 z663) 5 y664) 10 z689) 15 z0) 20 z619) 62 o605) 75 m606) g'690 := hS692
                  have hR695_ : RJ (upd (upd (upd (upd (upd (upd (upd f 4 z663) 5 y664) 10 z689) 15 z0) 20 z619) 62 o605) 75 m606) g'690 (((23 : Int), (0 : Int), (0 : Int), (0 : Int), []) :: (((29 : Int), (0 : Int), (0 : Int), (0 : Int), []) :: (((28 : Int), (0 : Int), (0 : Int), (0 : Int), []) :: (((21 : Int), z634.toInt, tw.toInt, (0 : Int), []) :: gs)))) bc [] 0 [] := hR695
                  show am_E _ _ _ _ [some (.ref 39), some (.int 0)] [] _ _
                  refine am_e35 hi_186_9 ?_
                  show am_E _ _ _ _ [some (.ref 39)] [] _ _
                  refine am_e35 hi_201_54 ?_
                  show am_E _ _ _ _ [some (.ref 39), some (.int on), some (.int tw), some (.int (g 16 z0.toNatClampNeg)), some (.int r3), some (.int 1), some (.int (g 18 z0.toNatClampNeg)), some (.int r608)] [] _ _
                  refine am_e18 hi_264_226 ?_
                  refine am_e35 hi_264_244 ?_
                  show am_E _ _ _ _ [some (.ref 39), some (.int 21), some (.int on), some (.int tw), some (.int th)] [] _ _
                  refine am_e18 hi_180_362 ?_
                  refine am_e35 hi_180_371 ?_
                  have q1 : mg_p1 (((23 : Int), (0 : Int), (0 : Int), (0 : Int), []) :: (((29 : Int), (0 : Int), (0 : Int), (0 : Int), []) :: (((28 : Int), (0 : Int), (0 : Int), (0 : Int), []) :: (((21 : Int), z634.toInt, tw.toInt, (0 : Int), []) :: gs)))) = 0 + (0 + (0 + (0 + (mg_p1 gs)))) := rfl
                  have q2 : mg_p2 (((23 : Int), (0 : Int), (0 : Int), (0 : Int), []) :: (((29 : Int), (0 : Int), (0 : Int), (0 : Int), []) :: (((28 : Int), (0 : Int), (0 : Int), (0 : Int), []) :: (((21 : Int), z634.toInt, tw.toInt, (0 : Int), []) :: gs)))) = 0 + (0 + (0 + (0 + (mg_p2 gs)))) := rfl
                  have q3 : mg_p3 (((23 : Int), (0 : Int), (0 : Int), (0 : Int), []) :: (((29 : Int), (0 : Int), (0 : Int), (0 : Int), []) :: (((28 : Int), (0 : Int), (0 : Int), (0 : Int), []) :: (((21 : Int), z634.toInt, tw.toInt, (0 : Int), []) :: gs)))) = 1 + (1 + (1 + (1 + (mg_p3 gs)))) := rfl
                  have q4 : mg_p4 (((23 : Int), (0 : Int), (0 : Int), (0 : Int), []) :: (((29 : Int), (0 : Int), (0 : Int), (0 : Int), []) :: (((28 : Int), (0 : Int), (0 : Int), (0 : Int), []) :: (((21 : Int), z634.toInt, tw.toInt, (0 : Int), []) :: gs)))) = 0 + (0 + (0 + (0 + (mg_p4 gs)))) := rfl
                  refine ⟨_, _, _, bc, rfl, hS692, Or.inl ⟨⟨hR695_, ?_, ?_⟩, rfl, ?_⟩⟩
                  · exact (⟨⟨(show mg_k 23 from by decide), (show (0 : Int) ≤ z0.toInt from by omega), (show 0 ≤ z619.toInt from by omega), (show 1 ≤ (f 37).toInt from by omega), (show 0 ≤ (f 32).toInt from by omega), (show (f 32).toInt ≤ y664.toInt from by omega), (show y664.toInt ≤ 48 from by omega), (show (f 37).toInt ≤ 2 * (y664.toInt) + 2 from by omega), (show 0 ≤ (0 : Int) from by omega)⟩, ⟨⟨(show mg_k 29 from by decide), (show (1 : Int) ≤ z0.toInt + 1 from by omega), (show 0 ≤ z619.toInt from by omega), (show 1 ≤ (f 37).toInt + 0 from by omega), (show 0 ≤ (f 32).toInt + 0 from by omega), (show (f 32).toInt + 0 ≤ y664.toInt + 0 from by omega), (show y664.toInt + 0 ≤ 48 from by omega), (show (f 37).toInt + 0 ≤ 2 * (y664.toInt + 0) + 2 from by omega), trivial⟩, ⟨⟨(show mg_k 28 from by decide), (show (1 : Int) ≤ z0.toInt + 1 + 0 from by omega), (show 0 ≤ z619.toInt from by omega), (show 1 ≤ (f 37).toInt + 0 + 0 from by omega), (show 0 ≤ (f 32).toInt + 0 + 0 from by omega), (show (f 32).toInt + 0 + 0 ≤ y664.toInt + 0 + -1 from by omega), (show y664.toInt + 0 + -1 ≤ 48 from by omega), (show (f 37).toInt + 0 + 0 ≤ 2 * (y664.toInt + 0 + -1) + 2 from by omega), trivial⟩, ⟨⟨(show mg_k 21 from by decide), (show (1 : Int) ≤ z0.toInt + 1 + 0 + 0 from by omega), (show 0 ≤ z619.toInt from by omega), (show 1 ≤ (f 37).toInt + 0 + 0 + 0 from by omega), (show 0 ≤ (f 32).toInt + 0 + 0 + 0 from by omega), (show (f 32).toInt + 0 + 0 + 0 ≤ y664.toInt + 0 + -1 + 0 from by omega), (show y664.toInt + 0 + -1 + 0 ≤ 48 from by omega), (show (f 37).toInt + 0 + 0 + 0 ≤ 2 * (y664.toInt + 0 + -1 + 0) + 1 from by omega), ⟨(show 0 ≤ z634.toInt from by omega), (show 0 ≤ tw.toInt from by omega), (show z619.toInt = tw.toInt + z634.toInt from by omega)⟩⟩, mg_cast (mg_good_ext _ _ _ _ _ _ (fun i _ => by show g'690 34 i = g 34 i; rw [show g'690 34 = g'681 34 from h694_ 34 (by decide), show g'681 34 = g'647 34 from h685_ 34 (by decide), show g'647 34 = g'638 34 from h651_ 34 (by decide), show g'638 34 = g'620 34 from h642_ 34 (by decide), show g'620 34 = g'607 34 from h624_ 34 (by decide), show g'607 34 = g 34 from h615_ 34 (by decide)]) (fun i _ => by show g'690 38 i = g 38 i; rw [show g'690 38 = g'681 38 from h694_ 38 (by decide), show g'681 38 = g'647 38 from h685_ 38 (by decide), show g'647 38 = g'638 38 from h651_ 38 (by decide), show g'638 38 = g'620 38 from h642_ 38 (by decide), show g'620 38 = g'607 38 from h624_ 38 (by decide), show g'607 38 = g 38 from h615_ 38 (by decide)]) (fun i hi => by show g'690 23 i = g 23 i; rw [show g'690 23 = g'681 23 from h694_ 23 (by decide), show g'681 23 = g'647 23 from h685_ 23 (by decide), show g'647 23 = g'638 23 from h651_ 23 (by decide), show g'638 23 = g'620 23 from h642_ 23 (by decide), h625_, show g'607 23 = g 23 from h615_ 23 (by decide)]; exact upd_ne (by rw [cl_toNat]; omega)) hrest) (by show (f 15).toInt + -1 = z0.toInt + 1 + 0 + 0 + -1; omega) (by show tw.toInt = tw.toInt; omega) (by show (f 37).toInt + 0 = (f 37).toInt + 0 + 0 + 0 + 0; omega) (by show (f 32).toInt + 0 = (f 32).toInt + 0 + 0 + 0 + 0; omega) (by show (f 5).toInt + 0 = y664.toInt + 0 + -1 + 0 + 0; omega)⟩⟩⟩⟩ : mg_good (g'690 34) (g'690 38) (g'690 23) (((23 : Int), (0 : Int), (0 : Int), (0 : Int), []) :: (((29 : Int), (0 : Int), (0 : Int), (0 : Int), []) :: (((28 : Int), (0 : Int), (0 : Int), (0 : Int), []) :: (((21 : Int), z634.toInt, tw.toInt, (0 : Int), []) :: gs)))) (z0.toInt) (z619.toInt) ((f 37).toInt) ((f 32).toInt) (y664.toInt))
                  · exact ⟨(by show 0 ≤ z663.toInt; omega), (by show z663.toInt ≤ (f 0).toInt; omega), (by show (f 0).toInt ≤ 512; omega), (by show 0 ≤ (f 24).toInt; omega), (by show (f 24).toInt + z619.toInt + mg_p1 (((23 : Int), (0 : Int), (0 : Int), (0 : Int), []) :: (((29 : Int), (0 : Int), (0 : Int), (0 : Int), []) :: (((28 : Int), (0 : Int), (0 : Int), (0 : Int), []) :: (((21 : Int), z634.toInt, tw.toInt, (0 : Int), []) :: gs)))) ≤ 4 * z663.toInt; omega), (by show z619.toInt ≤ z663.toInt; omega), (by show z0.toInt + mg_p2 (((23 : Int), (0 : Int), (0 : Int), (0 : Int), []) :: (((29 : Int), (0 : Int), (0 : Int), (0 : Int), []) :: (((28 : Int), (0 : Int), (0 : Int), (0 : Int), []) :: (((21 : Int), z634.toInt, tw.toInt, (0 : Int), []) :: gs)))) ≤ z663.toInt; omega), (by show mg_p3 (((23 : Int), (0 : Int), (0 : Int), (0 : Int), []) :: (((29 : Int), (0 : Int), (0 : Int), (0 : Int), []) :: (((28 : Int), (0 : Int), (0 : Int), (0 : Int), []) :: (((21 : Int), z634.toInt, tw.toInt, (0 : Int), []) :: gs)))) ≤ 20 * z663.toInt + 20; omega), (by show 0 ≤ (f 68).toInt; omega), (by show (f 68).toInt + 3 * z619.toInt + mg_p4 (((23 : Int), (0 : Int), (0 : Int), (0 : Int), []) :: (((29 : Int), (0 : Int), (0 : Int), (0 : Int), []) :: (((28 : Int), (0 : Int), (0 : Int), (0 : Int), []) :: (((21 : Int), z634.toInt, tw.toInt, (0 : Int), []) :: gs)))) ≤ 60 * z663.toInt + 60; omega), (by show 0 ≤ o605.toInt; omega), (by show o605.toInt + 64 * mj_n (g'690 16) z0.toNatClampNeg 3 ≤ 64 * z663.toInt; rw [show g'690 16 = g'681 16 from h694_ 16 (by decide), show g'681 16 = g'647 16 from h685_ 16 (by decide), show g'647 16 = g'638 16 from h651_ 16 (by decide), show g'638 16 = g'620 16 from h642_ 16 (by decide), show g'620 16 = g'607 16 from h624_ 16 (by decide), show g'607 16 = g 16 from h615_ 16 (by decide)]; omega), (by show 0 ≤ (f 44).toInt; omega), (by show (f 44).toInt ≤ z663.toInt; omega), (by show 0 ≤ (f 48).toInt; omega), (by show (f 48).toInt ≤ z663.toInt; omega), (by show 1 ≤ (f 53).toInt; omega), (by show (f 53).toInt ≤ z663.toInt + 1; omega), (by show 0 ≤ (f 19).toInt; omega), (by show (f 19).toInt ≤ 600; omega)⟩
                  · show 100 * ((f 0).toInt - z663.toInt) + mg_p3 (((23 : Int), (0 : Int), (0 : Int), (0 : Int), []) :: (((29 : Int), (0 : Int), (0 : Int), (0 : Int), []) :: (((28 : Int), (0 : Int), (0 : Int), (0 : Int), []) :: (((21 : Int), z634.toInt, tw.toInt, (0 : Int), []) :: gs)))) < 100 * ((f 0).toInt - (f 4).toInt) + (1 + mg_p3 gs); omega
                · subst hv674
                  replace hS675 : MS S0 S662 (upd (upd (upd (upd (upd (upd (upd (upd f 4 z630) 6 a672) 7 b673) 10 0) 15 z0) 20 z619) 62 o605) 75 m606) g'647 := hS675
                  have hR696 := rj_clear0 hR652_
                  have hR697 : RJ (upd (upd (upd (upd (upd (upd (upd (upd f 4 z630) 6 a672) 7 b673) 10 0) 15 z0) 20 z619) 62 o605) 75 m606) g'647 [] bc [] 0 [] := hR696
                  show am_E _ _ _ _ [some (.ref 39)] [.int 0] _ _
                  refine am_e12t hi_201_37 (by decide) ?_
                  refine am_e35 hi_201_54 ?_
                  show am_E _ _ _ _ [some (.ref 39), some (.int on), some (.int tw), some (.int (g 16 z0.toNatClampNeg)), some (.int r3), some (.int 1), some (.int (g 18 z0.toNatClampNeg)), some (.int r608)] [] _ _
                  refine am_e18 hi_264_226 ?_
                  refine am_e35 hi_264_244 ?_
                  show am_E _ _ _ _ [some (.ref 39), some (.int 21), some (.int on), some (.int tw), some (.int th)] [] _ _
                  refine am_e18 hi_180_362 ?_
                  refine am_e35 hi_180_371 ?_
                  have hRc := rj_clear0 hR697
                  refine ⟨_, _, [], _, rfl, hS675, Or.inr ⟨hRc, rfl, (by show 0 ≤ z630.toInt; omega), (by show z630.toInt ≤ (f 0).toInt; omega), (by show 0 ≤ (f 32).toInt; omega), (by show (f 32).toInt ≤ 63; omega), (by show 1 ≤ (f 53).toInt; omega), (by show (f 53).toInt ≤ 600; omega), (by show 0 ≤ (f 68).toInt; omega), (by show (f 68).toInt ≤ 60000; omega), (by show 0 ≤ (f 48).toInt; omega), (by show (f 48).toInt ≤ 8000; omega), (by show 0 ≤ (f 37).toInt; omega), (by show (f 37).toInt ≤ 128; omega), (by show 0 ≤ o605.toInt; omega), (by show o605.toInt ≤ 65000; omega), (by show 0 ≤ (f 19).toInt; omega), (by show (f 19).toInt ≤ 600; omega)⟩⟩
              · refine am_e13f hi_201_5 (am_cF (m := r655.toInt) (n := (1 : Int)) rfl (by decide) c660) ?_
                refine am_e2 (v := 39) hi_201_8 rfl ?_
                refine am_e0 hi_201_9 ?_
                refine am_e0 hi_201_10 ?_
                refine am_e2 (v := 39) hi_201_11 rfl ?_
                refine mm_20 (v := .int z630) hS657 hi_201_12 rfl ?_
                refine am_e32n (as := [.ref 39, .int 3, .int 0, .int z630]) (la := [some (.ref 39), some (.int 3), some (.int 0), some (.int z630)]) (rest := []) hi_201_15 (am_hd0 (M := 201) (by decide) 15) (Nat.le_of_ble_eq_true rfl) (Nat.le_of_ble_eq_true rfl) (show 4 ≤ am_P0.2.2.1 190 from by decide +kernel) rfl (am_recv_ok hS657.fs) rfl rfl (ct_value (d := (d + 5)) hS657 hR652_ (fun _ => ⟨by omega, by omega⟩) (fun h => absurd h (by decide)) (by show (0 : Int) ≤ z0.toInt; omega) (by show z0.toInt ≤ (32767 : Int); omega)) ?_
                rintro v698 S699 (⟨z700, g'701, hv702, hS703, hR708, h704, h705, h706, h707⟩)
                subst hv702
                have h704_ : z700.toInt = z0.toInt + 1 := h704
                have h705_ : ∀ j, j ∉ [16, 17, 18] → g'701 j = g'647 j := h705
                have h706_ : mj_n (g'701 16) z700.toNatClampNeg 3 ≤ mj_n (g 16) z0.toNatClampNeg 3 + 1 := by rw [show g'647 16 = g'638 16 from h651_ 16 (by decide), show g'638 16 = g'620 16 from h642_ 16 (by decide), show g'620 16 = g'607 16 from h624_ 16 (by decide), show g'607 16 = g 16 from h615_ 16 (by decide)] at h706; exact h706
                have h707_ : (3 : Int) = 3 ∨ mj_n (g'701 16) z700.toNatClampNeg 3 ≤ mj_n (g 16) z0.toNatClampNeg 3 := by rw [show g'647 16 = g'638 16 from h651_ 16 (by decide), show g'638 16 = g'620 16 from h642_ 16 (by decide), show g'620 16 = g'607 16 from h624_ 16 (by decide), show g'607 16 = g 16 from h615_ 16 (by decide)] at h707; exact h707
                replace hS703 : MS S0 S699 (upd (upd (upd (upd (upd (upd f 4 z630) 10 z646) 15 z700) 20 z619) 62 o605) 75 m606) g'701 := hS703
                have hR708_ : RJ (upd (upd (upd (upd (upd (upd f 4 z630) 10 z646) 15 z700) 20 z619) 62 o605) 75 m606) g'701 (((28 : Int), (0 : Int), (0 : Int), (0 : Int), []) :: (((21 : Int), z634.toInt, tw.toInt, (0 : Int), []) :: gs)) bc [] 0 [] := hR708
                show am_E _ _ _ _ [some (.ref 39)] [] _ _
                refine am_e2 (v := 39) hi_201_18 rfl ?_
                refine am_e7 hi_201_19 ?_
                refine mm_20 (v := .int z630) hS703 hi_201_20 rfl ?_
                refine am_e0 hi_201_23 ?_
                obtain ⟨z709, hz709, tz709⟩ := am_addI (x := z630) (y := 1) (m := z630.toInt) (n := (1 : Int)) rfl (by decide) (by omega) (by omega)
                refine am_e10 (z := z709) hi_201_24 hz709 ?_
                refine mm_21 (v := z709) hS703 hi_201_25 rfl (Nat.le_of_ble_eq_true rfl) ms_4 ?_
                intro S710 hS711
                replace hS711 : MS S0 S710 (upd (upd (upd (upd (upd (upd f 4 z709) 10 z646) 15 z700) 20 z619) 62 o605) 75 m606) g'701 := hS711
                have hR712 : RJ (upd (upd (upd (upd (upd (upd f 4 z709) 10 z646) 15 z700) 20 z619) 62 o605) 75 m606) g'701 (((28 : Int), (0 : Int), (0 : Int), (0 : Int), []) :: (((21 : Int), z634.toInt, tw.toInt, (0 : Int), []) :: gs)) bc [] 0 [] := RJ.at hR708_ (by show z630.toInt ≤ z709.toInt; omega)
                refine am_e18 hi_201_28 ?_
                refine am_e35 hi_201_54 ?_
                show am_E _ _ _ _ [some (.ref 39), some (.int on), some (.int tw), some (.int (g 16 z0.toNatClampNeg)), some (.int r3), some (.int 1), some (.int (g 18 z0.toNatClampNeg)), some (.int r608)] [] _ _
                refine am_e18 hi_264_226 ?_
                refine am_e35 hi_264_244 ?_
                show am_E _ _ _ _ [some (.ref 39), some (.int 21), some (.int on), some (.int tw), some (.int th)] [] _ _
                refine am_e18 hi_180_362 ?_
                refine am_e35 hi_180_371 ?_
                have q1 : mg_p1 (((28 : Int), (0 : Int), (0 : Int), (0 : Int), []) :: (((21 : Int), z634.toInt, tw.toInt, (0 : Int), []) :: gs)) = 0 + (0 + (mg_p1 gs)) := rfl
                have q2 : mg_p2 (((28 : Int), (0 : Int), (0 : Int), (0 : Int), []) :: (((21 : Int), z634.toInt, tw.toInt, (0 : Int), []) :: gs)) = 0 + (0 + (mg_p2 gs)) := rfl
                have q3 : mg_p3 (((28 : Int), (0 : Int), (0 : Int), (0 : Int), []) :: (((21 : Int), z634.toInt, tw.toInt, (0 : Int), []) :: gs)) = 1 + (1 + (mg_p3 gs)) := rfl
                have q4 : mg_p4 (((28 : Int), (0 : Int), (0 : Int), (0 : Int), []) :: (((21 : Int), z634.toInt, tw.toInt, (0 : Int), []) :: gs)) = 0 + (0 + (mg_p4 gs)) := rfl
                refine ⟨_, _, _, bc, rfl, hS711, Or.inl ⟨⟨hR712, ?_, ?_⟩, rfl, ?_⟩⟩
                · exact (⟨⟨(show mg_k 28 from by decide), (show (1 : Int) ≤ z700.toInt from by omega), (show 0 ≤ z619.toInt from by omega), (show 1 ≤ (f 37).toInt from by omega), (show 0 ≤ (f 32).toInt from by omega), (show (f 32).toInt ≤ (f 5).toInt from by omega), (show (f 5).toInt ≤ 48 from by omega), (show (f 37).toInt ≤ 2 * ((f 5).toInt) + 2 from by omega), trivial⟩, ⟨⟨(show mg_k 21 from by decide), (show (1 : Int) ≤ z700.toInt + 0 from by omega), (show 0 ≤ z619.toInt from by omega), (show 1 ≤ (f 37).toInt + 0 from by omega), (show 0 ≤ (f 32).toInt + 0 from by omega), (show (f 32).toInt + 0 ≤ (f 5).toInt + 0 from by omega), (show (f 5).toInt + 0 ≤ 48 from by omega), (show (f 37).toInt + 0 ≤ 2 * ((f 5).toInt + 0) + 1 from by omega), ⟨(show 0 ≤ z634.toInt from by omega), (show 0 ≤ tw.toInt from by omega), (show z619.toInt = tw.toInt + z634.toInt from by omega)⟩⟩, mg_cast (mg_good_ext _ _ _ _ _ _ (fun i _ => by show g'701 34 i = g 34 i; rw [show g'701 34 = g'647 34 from h705_ 34 (by decide), show g'647 34 = g'638 34 from h651_ 34 (by decide), show g'638 34 = g'620 34 from h642_ 34 (by decide), show g'620 34 = g'607 34 from h624_ 34 (by decide), show g'607 34 = g 34 from h615_ 34 (by decide)]) (fun i _ => by show g'701 38 i = g 38 i; rw [show g'701 38 = g'647 38 from h705_ 38 (by decide), show g'647 38 = g'638 38 from h651_ 38 (by decide), show g'638 38 = g'620 38 from h642_ 38 (by decide), show g'620 38 = g'607 38 from h624_ 38 (by decide), show g'607 38 = g 38 from h615_ 38 (by decide)]) (fun i hi => by show g'701 23 i = g 23 i; rw [show g'701 23 = g'647 23 from h705_ 23 (by decide), show g'647 23 = g'638 23 from h651_ 23 (by decide), show g'638 23 = g'620 23 from h642_ 23 (by decide), h625_, show g'607 23 = g 23 from h615_ 23 (by decide)]; exact upd_ne (by rw [cl_toNat]; omega)) hrest) (by show (f 15).toInt + -1 = z700.toInt + 0 + -1; omega) (by show tw.toInt = tw.toInt; omega) (by show (f 37).toInt + 0 = (f 37).toInt + 0 + 0; omega) (by show (f 32).toInt + 0 = (f 32).toInt + 0 + 0; omega) (by show (f 5).toInt + 0 = (f 5).toInt + 0 + 0; omega)⟩⟩ : mg_good (g'701 34) (g'701 38) (g'701 23) (((28 : Int), (0 : Int), (0 : Int), (0 : Int), []) :: (((21 : Int), z634.toInt, tw.toInt, (0 : Int), []) :: gs)) (z700.toInt) (z619.toInt) ((f 37).toInt) ((f 32).toInt) ((f 5).toInt))
                · exact ⟨(by show 0 ≤ z709.toInt; omega), (by show z709.toInt ≤ (f 0).toInt; omega), (by show (f 0).toInt ≤ 512; omega), (by show 0 ≤ (f 24).toInt; omega), (by show (f 24).toInt + z619.toInt + mg_p1 (((28 : Int), (0 : Int), (0 : Int), (0 : Int), []) :: (((21 : Int), z634.toInt, tw.toInt, (0 : Int), []) :: gs)) ≤ 4 * z709.toInt; omega), (by show z619.toInt ≤ z709.toInt; omega), (by show z700.toInt + mg_p2 (((28 : Int), (0 : Int), (0 : Int), (0 : Int), []) :: (((21 : Int), z634.toInt, tw.toInt, (0 : Int), []) :: gs)) ≤ z709.toInt; omega), (by show mg_p3 (((28 : Int), (0 : Int), (0 : Int), (0 : Int), []) :: (((21 : Int), z634.toInt, tw.toInt, (0 : Int), []) :: gs)) ≤ 20 * z709.toInt + 20; omega), (by show 0 ≤ (f 68).toInt; omega), (by show (f 68).toInt + 3 * z619.toInt + mg_p4 (((28 : Int), (0 : Int), (0 : Int), (0 : Int), []) :: (((21 : Int), z634.toInt, tw.toInt, (0 : Int), []) :: gs)) ≤ 60 * z709.toInt + 60; omega), (by show 0 ≤ o605.toInt; omega), (by show o605.toInt + 64 * mj_n (g'701 16) z700.toNatClampNeg 3 ≤ 64 * z709.toInt; omega), (by show 0 ≤ (f 44).toInt; omega), (by show (f 44).toInt ≤ z709.toInt; omega), (by show 0 ≤ (f 48).toInt; omega), (by show (f 48).toInt ≤ z709.toInt; omega), (by show 1 ≤ (f 53).toInt; omega), (by show (f 53).toInt ≤ z709.toInt + 1; omega), (by show 0 ≤ (f 19).toInt; omega), (by show (f 19).toInt ≤ 600; omega)⟩
                · show 100 * ((f 0).toInt - z709.toInt) + mg_p3 (((28 : Int), (0 : Int), (0 : Int), (0 : Int), []) :: (((21 : Int), z634.toInt, tw.toInt, (0 : Int), []) :: gs)) < 100 * ((f 0).toInt - (f 4).toInt) + (1 + mg_p3 gs); omega
            · refine am_e12f hi_237_12 (am_cF (m := r596.toInt) (n := (0 : Int)) rfl (by decide) c602) ?_
              refine am_e2 (v := 39) hi_237_15 rfl ?_
              refine mm_20 (v := .ref 56) hS598 hi_237_16 rfl ?_
              refine am_e1 (v := r596) hi_237_19 rfl ?_
              refine mm_25 hS598 ma_29 hi_237_20 (by decide) (by omega) (by omega) ?_
              show am_E _ _ _ _ [some (.ref 39), some (.int (g 18 z0.toNatClampNeg)), some (.int r596)] [.int (g 29 r596.toNatClampNeg)] _ _
              by_cases c713 : (g 29 r596.toNatClampNeg).toInt = (0 : Int)
              · refine am_e12t hi_237_21 (am_cT (m := (g 29 r596.toNatClampNeg).toInt) (n := (0 : Int)) rfl (by decide) c713) ?_
                refine am_e2 (v := 39) hi_237_31 rfl ?_
                refine am_e1 (v := g 18 z0.toNatClampNeg) hi_237_32 rfl ?_
                refine am_e32n (as := [.ref 39, .int (g 18 z0.toNatClampNeg)]) (la := [some (.ref 39), some (.int (g 18 z0.toNatClampNeg)), none, none, none]) (rest := []) hi_237_33 (am_hd0 (M := 237) (by decide) 33) (Nat.le_of_ble_eq_true rfl) (Nat.le_of_ble_eq_true rfl) (show 2 ≤ am_P0.2.2.1 205 from by decide +kernel) rfl (am_recv_ok hS598.fs) rfl rfl (ct_resolve (d := (d + 4)) hS598 hR  (by show (0 : Int) ≤ (f 32).toInt; omega) (by show (f 32).toInt ≤ (63 : Int); omega) (by show (f 53).toInt ≤ (4096 : Int); omega) (by show (0 : Int) ≤ (f 24).toInt; omega) (by show (f 24).toInt ≤ (16384 : Int); omega) (by show (0 : Int) ≤ (f 62).toInt; omega) (by show (f 62).toInt ≤ (65000 : Int); omega) (by show (0 : Int) ≤ (g 18 z0.toNatClampNeg).toInt; omega) (by show (g 18 z0.toNatClampNeg).toInt ≤ (16383 : Int); omega)) ?_
                rintro v714 S715 (⟨o716, m717, g'718, r719, hv720, hS721, hR727, h722, h723, h724, h725, h726⟩)
                subst hv720
                have h722_ : (f 62).toInt ≤ o716.toInt := h722
                have h723_ : o716.toInt ≤ (f 62).toInt + 64 := h723
                have h724_ : (0 : Int) ≤ r719.toInt := h724
                have h725_ : r719.toInt ≤ (2 : Int) := h725
                have h726_ : ∀ j, j ∉ [63, 64, 65, 66, 67] → g'718 j = g j := h726
                have hR727_ : RJ (upd (upd f 62 o716) 75 m717) g'718 gs bc [] 0 [] := hR727
                show am_E _ _ _ _ [some (.ref 39), some (.int (g 18 z0.toNatClampNeg)), some (.int r596)] [.int r719] _ _
                refine am_e33 hi_237_36 ?_
                show am_E _ _ _ _ [some (.ref 39), some (.int on), some (.int tw), some (.int (g 16 z0.toNatClampNeg)), some (.int r3), some (.int 1), some (.int (g 18 z0.toNatClampNeg)), none] [.int r719] _ _
                refine am_e3 (ls' := [some (.ref 39), some (.int on), some (.int tw), some (.int (g 16 z0.toNatClampNeg)), some (.int r3), some (.int 1), some (.int (g 18 z0.toNatClampNeg)), some (.int r719)]) hi_264_126 (Nat.le_of_ble_eq_true rfl) rfl ?_
                refine am_e2 (v := 39) hi_264_128 rfl ?_
                refine am_e1 (v := r719) hi_264_129 rfl ?_
                refine am_e2 (v := 39) hi_264_131 rfl ?_
                refine mm_20 (v := .int m717) hS721 hi_264_132 rfl ?_
                refine am_e1 (v := g 18 z0.toNatClampNeg) hi_264_135 rfl ?_
                refine am_e32n (as := [.ref 39, .int r719, .int m717, .int (g 18 z0.toNatClampNeg)]) (la := [some (.ref 39), some (.int r719), some (.int m717), some (.int (g 18 z0.toNatClampNeg))]) (rest := []) hi_264_137 (am_hd0 (M := 264) (by decide) 137) (Nat.le_of_ble_eq_true rfl) (Nat.le_of_ble_eq_true rfl) (show 4 ≤ am_P0.2.2.1 239 from by decide +kernel) rfl (am_recv_ok hS721.fs) rfl rfl (ct_keep2 (d := (d + 6)) hS721 hR727_  (by show (0 : Int) ≤ (f 20).toInt; omega) (by show (f 20).toInt ≤ (16383 : Int); omega)) ?_
                rintro v728 S729 (⟨z730, g'731, hv732, hS733, hR737, h734, h735, h736⟩)
                subst hv732
                have h734_ : z730.toInt = (f 20).toInt + 1 := h734
                have h735_ : ∀ j, j ∉ [21, 22, 23] → g'731 j = g'718 j := h735
                have h736_ : g'731 23 = upd (g'718 23) (f 20).toNatClampNeg (g 18 z0.toNatClampNeg) := h736
                replace hS733 : MS S0 S729 (upd (upd (upd f 20 z730) 62 o716) 75 m717) g'731 := hS733
                have hR737_ : RJ (upd (upd (upd f 20 z730) 62 o716) 75 m717) g'731 gs bc [] 0 [] := hR737
                show am_E _ _ _ _ [some (.ref 39), some (.int on), some (.int tw), some (.int (g 16 z0.toNatClampNeg)), some (.int r3), some (.int 1), some (.int (g 18 z0.toNatClampNeg)), some (.int r719)] [] _ _
                refine am_e18 hi_264_140 ?_
                refine am_e2 (v := 39) hi_264_175 rfl ?_
                refine am_e7 hi_264_176 ?_
                refine mm_20 (v := .int (f 15)) hS733 hi_264_177 rfl ?_
                refine am_e0 hi_264_180 ?_
                refine am_e10 (z := z0) hi_264_181 hz0 ?_
                refine mm_21 (v := z0) hS733 hi_264_182 rfl (Nat.le_of_ble_eq_true rfl) ms_15 ?_
                intro S738 hS739
                replace hS739 : MS S0 S738 (upd (upd (upd (upd f 15 z0) 20 z730) 62 o716) 75 m717) g'731 := hS739
                have hp740 : mj_n (g 16) (f 15).toNatClampNeg 3 = mj_n (g 16) z0.toNatClampNeg 3 + if (g 16 z0.toNatClampNeg).toInt = 3 then 1 else 0 := mj_pop (by rw [cl_toNat, cl_toNat]; omega)
                have hp7401 : mj_n (g 16) z0.toNatClampNeg 3 ≤ mj_n (g 16) (f 15).toNatClampNeg 3 := by rw [hp740]; split <;> omega
                have hp7402 : (g 16 z0.toNatClampNeg).toInt = 3 → mj_n (g 16) z0.toNatClampNeg 3 + 1 ≤ mj_n (g 16) (f 15).toNatClampNeg 3 := fun q => by rw [hp740, if_pos q]; exact Int.le_refl _
                refine am_e2 (v := 39) hi_264_185 rfl ?_
                refine am_e7 hi_264_186 ?_
                refine mm_20 (v := .int (f 4)) hS739 hi_264_187 rfl ?_
                refine am_e0 hi_264_190 ?_
                obtain ⟨z741, hz741, tz741⟩ := am_addI (x := f 4) (y := 1) (m := (f 4).toInt) (n := (1 : Int)) rfl (by decide) (by omega) (by omega)
                refine am_e10 (z := z741) hi_264_191 hz741 ?_
                refine mm_21 (v := z741) hS739 hi_264_192 rfl (Nat.le_of_ble_eq_true rfl) ms_4 ?_
                intro S742 hS743
                replace hS743 : MS S0 S742 (upd (upd (upd (upd (upd f 4 z741) 15 z0) 20 z730) 62 o716) 75 m717) g'731 := hS743
                have hR744 : RJ (upd (upd (upd (upd (upd f 4 z741) 15 z0) 20 z730) 62 o716) 75 m717) g'731 gs bc [] 0 [] := RJ.at hR737_ (by show (f 4).toInt ≤ z741.toInt; omega)
                refine am_e1 (v := r3) hi_264_195 rfl ?_
                refine am_e0 hi_264_197 ?_
                refine am_e13f hi_264_199 (am_cF (m := r3.toInt) (n := (69 : Int)) rfl (by decide) (by simp only [am_cI]; omega)) ?_
                refine am_e2 (v := 39) hi_264_202 rfl ?_
                refine am_e0 hi_264_203 ?_
                refine am_e1 (v := on) hi_264_205 rfl ?_
                refine am_e0 hi_264_206 ?_
                obtain ⟨z745, hz745, tz745⟩ := am_addI (x := on) (y := 1) (m := on.toInt) (n := (1 : Int)) rfl (by decide) (by omega) (by omega)
                refine am_e10 (z := z745) hi_264_207 hz745 ?_
                refine am_e1 (v := tw) hi_264_208 rfl ?_
                refine am_e0 hi_264_209 ?_
                refine am_e32n (as := [.ref 39, .int 21, .int z745, .int tw, .int 0]) (la := [some (.ref 39), some (.int 21), some (.int z745), some (.int tw), some (.int 0)]) (rest := []) hi_264_210 (am_hd0 (M := 264) (by decide) 210) (Nat.le_of_ble_eq_true rfl) (Nat.le_of_ble_eq_true rfl) (show 5 ≤ am_P0.2.2.1 179 from by decide +kernel) rfl (am_recv_ok hS743.fs) rfl rfl (ct_pile (d := (d + 6)) hS743 hR744 (mj_e_plain (by decide)) (by show (0 : Int) ≤ (f 10).toInt; omega) (by show (f 10).toInt ≤ (65535 : Int); omega)) ?_
                rintro v746 S747 (⟨z748, g'749, hv750, hS751, hR754, h752, h753⟩)
                subst hv750
                have h752_ : z748.toInt = (f 10).toInt + 1 := h752
                have h753_ : ∀ j, j ∉ [11, 12, 13, 14] → g'749 j = g'731 j := h753
                replace hS751 : MS S0 S747 (upd (upd (upd (upd (upd (upd f 4 z741) 10 z748) 15 z0) 20 z730) 62 o716) 75 m717) g'749 := hS751
                have hR754_ : RJ (upd (upd (upd (upd (upd (upd f 4 z741) 10 z748) 15 z0) 20 z730) 62 o716) 75 m717) g'749 (((21 : Int), z745.toInt, tw.toInt, (0 : Int), []) :: gs) bc [] 0 [] := hR754
                show am_E _ _ _ _ [some (.ref 39), some (.int on), some (.int tw), some (.int (g 16 z0.toNatClampNeg)), some (.int r3), some (.int 1), some (.int (g 18 z0.toNatClampNeg)), some (.int r719)] [] _ _
                refine am_e2 (v := 39) hi_264_213 rfl ?_
                refine am_e0 hi_264_214 ?_
                refine am_e0 hi_264_216 ?_
                refine am_e0 hi_264_217 ?_
                refine am_e0 hi_264_218 ?_
                refine am_e32n (as := [.ref 39, .int 28, .int 0, .int 0, .int 0]) (la := [some (.ref 39), some (.int 28), some (.int 0), some (.int 0), some (.int 0)]) (rest := []) hi_264_219 (am_hd0 (M := 264) (by decide) 219) (Nat.le_of_ble_eq_true rfl) (Nat.le_of_ble_eq_true rfl) (show 5 ≤ am_P0.2.2.1 179 from by decide +kernel) rfl (am_recv_ok hS751.fs) rfl rfl (ct_pile (d := (d + 6)) hS751 hR754_ (mj_e_plain (by decide)) (by show (0 : Int) ≤ z748.toInt; omega) (by show z748.toInt ≤ (65535 : Int); omega)) ?_
                rintro v755 S756 (⟨z757, g'758, hv759, hS760, hR763, h761, h762⟩)
                subst hv759
                have h761_ : z757.toInt = z748.toInt + 1 := h761
                have h762_ : ∀ j, j ∉ [11, 12, 13, 14] → g'758 j = g'749 j := h762
                replace hS760 : MS S0 S756 (upd (upd (upd (upd (upd (upd f 4 z741) 10 z757) 15 z0) 20 z730) 62 o716) 75 m717) g'758 := hS760
                have hR763_ : RJ (upd (upd (upd (upd (upd (upd f 4 z741) 10 z757) 15 z0) 20 z730) 62 o716) 75 m717) g'758 (((28 : Int), (0 : Int), (0 : Int), (0 : Int), []) :: (((21 : Int), z745.toInt, tw.toInt, (0 : Int), []) :: gs)) bc [] 0 [] := hR763
                show am_E _ _ _ _ [some (.ref 39), some (.int on), some (.int tw), some (.int (g 16 z0.toNatClampNeg)), some (.int r3), some (.int 1), some (.int (g 18 z0.toNatClampNeg)), some (.int r719)] [] _ _
                refine am_e2 (v := 39) hi_264_222 rfl ?_
                refine am_e32w (as := [.ref 39]) (la := [some (.ref 39)]) (rest := []) hi_264_223 (am_hd0 (M := 264) (by decide) 223) (Nat.le_of_ble_eq_true rfl) (Nat.le_of_ble_eq_true rfl) (show 1 ≤ am_P0.2.2.1 201 from by decide +kernel) rfl (am_recv_ok hS760.fs) rfl rfl ?_
                refine am_e2 (v := 39) hi_201_0 rfl ?_
                refine am_e32n (as := [.ref 39]) (la := [some (.ref 39)]) (rest := []) hi_201_1 (am_hd0 (M := 201) (by decide) 1) (Nat.le_of_ble_eq_true rfl) (Nat.le_of_ble_eq_true rfl) (show 1 ≤ am_P0.2.2.1 183 from by decide +kernel) rfl (am_recv_ok hS760.fs) rfl rfl (ct_next (d := (d + 4)) hS760   (by show (0 : Int) ≤ z741.toInt; omega) (by show (f 0).toInt ≤ (16384 : Int); omega)) ?_
                rintro v764 S765 (⟨r766, hv767, hS768, h769⟩)
                subst hv767
                have h769_ : z741.toInt < (f 0).toInt ∨ r766.toInt = (-1 : Int) := h769
                show am_E _ _ _ _ [some (.ref 39)] [.int r766] _ _
                refine am_e0 hi_201_4 ?_
                by_cases c771 : ¬ r766.toInt = (1 : Int)
                · refine am_e13t hi_201_5 (am_cT (m := r766.toInt) (n := (1 : Int)) rfl (by decide) c771) ?_
                  refine am_e2 (v := 39) hi_201_31 rfl ?_
                  refine am_e0 hi_201_32 ?_
                  refine am_e32n (as := [.ref 39, .int 60]) (la := [some (.ref 39), some (.int 60)]) (rest := []) hi_201_34 (am_hd0 (M := 201) (by decide) 34) (Nat.le_of_ble_eq_true rfl) (Nat.le_of_ble_eq_true rfl) (show 2 ≤ am_P0.2.2.1 193 from by decide +kernel) rfl (am_recv_ok hS768.fs) rfl rfl (ct_enter (d := (d + 3)) hS768   (by show (0 : Int) ≤ z741.toInt; omega) (by show (f 0).toInt ≤ (16384 : Int); omega) (by show (0 : Int) ≤ (60 : Int); omega) (by show (0 : Int) ≤ (f 5).toInt; omega) (by show (f 5).toInt ≤ (48 : Int); omega)) ?_
                  rintro v772 S773 (⟨z774, y775, hv776, hS777, h778, h779, h780, h781⟩ | ⟨a783, b784, hv785, hS786⟩)
                  · subst hv776
                    have h778_ : z774.toInt = z741.toInt + 1 := h778
                    have h779_ : z741.toInt < (f 0).toInt := h779
                    have h780_ : y775.toInt = (f 5).toInt + 1 := h780
                    have h781_ : y775.toInt ≤ (48 : Int) := h781
                    replace hS777 : MS S0 S773 (upd (upd (upd (upd (upd (upd (upd f 4 z774) 5 y775) 10 z757) 15 z0) 20 z730) 62 o716) 75 m717) g'758 := hS777
                    have hR788 : RJ (upd (upd (upd (upd (upd (upd (upd f 4 z774) 5 y775) 10 z757) 15 z0) 20 z730) 62 o716) 75 m717) g'758 (((28 : Int), (0 : Int), (0 : Int), (0 : Int), []) :: (((21 : Int), z745.toInt, tw.toInt, (0 : Int), []) :: gs)) bc [] 0 [] := RJ.at hR763_ (by show z741.toInt ≤ z774.toInt; omega)
                    show am_E _ _ _ _ [some (.ref 39)] [.int 1] _ _
                    refine am_e12f hi_201_37 (by decide) ?_
                    refine am_e2 (v := 39) hi_201_40 rfl ?_
                    refine am_e0 hi_201_41 ?_
                    refine am_e0 hi_201_43 ?_
                    refine am_e0 hi_201_44 ?_
                    refine am_e0 hi_201_45 ?_
                    refine am_e32n (as := [.ref 39, .int 29, .int 0, .int 0, .int 0]) (la := [some (.ref 39), some (.int 29), some (.int 0), some (.int 0), some (.int 0)]) (rest := []) hi_201_46 (am_hd0 (M := 201) (by decide) 46) (Nat.le_of_ble_eq_true rfl) (Nat.le_of_ble_eq_true rfl) (show 5 ≤ am_P0.2.2.1 179 from by decide +kernel) rfl (am_recv_ok hS777.fs) rfl rfl (ct_pile (d := (d + 5)) hS777 hR788 (mj_e_plain (by decide)) (by show (0 : Int) ≤ z757.toInt; omega) (by show z757.toInt ≤ (65535 : Int); omega)) ?_
                    rintro v789 S790 (⟨z791, g'792, hv793, hS794, hR797, h795, h796⟩)
                    subst hv793
                    have h795_ : z791.toInt = z757.toInt + 1 := h795
                    have h796_ : ∀ j, j ∉ [11, 12, 13, 14] → g'792 j = g'758 j := h796
                    replace hS794 : MS S0 S790 (upd (upd (upd (upd (upd (upd (upd f 4 z774) 5 y775) 10 z791) 15 z0) 20 z730) 62 o716) 75 m717) g'792 := hS794
                    have hR797_ : RJ (upd (upd (upd (upd (upd (upd (upd f 4 z774) 5 y775) 10 z791) 15 z0) 20 z730) 62 o716) 75 m717) g'792 (((29 : Int), (0 : Int), (0 : Int), (0 : Int), []) :: (((28 : Int), (0 : Int), (0 : Int), (0 : Int), []) :: (((21 : Int), z745.toInt, tw.toInt, (0 : Int), []) :: gs))) bc [] 0 [] := hR797
                    show am_E _ _ _ _ [some (.ref 39)] [] _ _
                    refine am_e2 (v := 39) hi_201_49 rfl ?_
                    refine am_e0 hi_201_50 ?_
                    refine am_e32w (as := [.ref 39, .int 0]) (la := [some (.ref 39), some (.int 0)]) (rest := []) hi_201_51 (am_hd0 (M := 201) (by decide) 51) (Nat.le_of_ble_eq_true rfl) (Nat.le_of_ble_eq_true rfl) (show 2 ≤ am_P0.2.2.1 186 from by decide +kernel) rfl (am_recv_ok hS794.fs) rfl rfl ?_
                    refine am_e2 (v := 39) hi_186_0 rfl ?_
                    refine am_e0 hi_186_1 ?_
                    refine am_e1 (v := 0) hi_186_3 rfl ?_
                    refine am_e0 hi_186_4 ?_
                    refine am_e0 hi_186_5 ?_
                    refine am_e32n (as := [.ref 39, .int 23, .int 0, .int 0, .int 0]) (la := [some (.ref 39), some (.int 23), some (.int 0), some (.int 0), some (.int 0)]) (rest := []) hi_186_6 (am_hd0 (M := 186) (by decide) 6) (Nat.le_of_ble_eq_true rfl) (Nat.le_of_ble_eq_true rfl) (show 5 ≤ am_P0.2.2.1 179 from by decide +kernel) rfl (am_recv_ok hS794.fs) rfl rfl (ct_pile (d := (d + 4)) hS794 hR797_ (mj_e_plain (by decide)) (by show (0 : Int) ≤ z791.toInt; omega) (by show z791.toInt ≤ (65535 : Int); omega)) ?_
                    rintro v798 S799 (⟨z800, g'801, hv802, hS803, hR806, h804, h805⟩)
                    subst hv802
                    have h804_ : z800.toInt = z791.toInt + 1 := h804
                    have h805_ : ∀ j, j ∉ [11, 12, 13, 14] → g'801 j = g'792 j := h805
                    replace hS803 : MS S0 S799 (upd (upd (upd (upd (upd (upd (upd f 4 z774) 5 y775) 10 z800) 15 z0) 20 z730) 62 o716) 75 m717) g'801 := hS803
                    have hR806_ : RJ (upd (upd (upd (upd (upd (upd (upd f 4 z774) 5 y775) 10 z800) 15 z0) 20 z730) 62 o716) 75 m717) g'801 (((23 : Int), (0 : Int), (0 : Int), (0 : Int), []) :: (((29 : Int), (0 : Int), (0 : Int), (0 : Int), []) :: (((28 : Int), (0 : Int), (0 : Int), (0 : Int), []) :: (((21 : Int), z745.toInt, tw.toInt, (0 : Int), []) :: gs)))) bc [] 0 [] := hR806
                    show am_E _ _ _ _ [some (.ref 39), some (.int 0)] [] _ _
                    refine am_e35 hi_186_9 ?_
                    show am_E _ _ _ _ [some (.ref 39)] [] _ _
                    refine am_e35 hi_201_54 ?_
                    show am_E _ _ _ _ [some (.ref 39), some (.int on), some (.int tw), some (.int (g 16 z0.toNatClampNeg)), some (.int r3), some (.int 1), some (.int (g 18 z0.toNatClampNeg)), some (.int r719)] [] _ _
                    refine am_e18 hi_264_226 ?_
                    refine am_e35 hi_264_244 ?_
                    show am_E _ _ _ _ [some (.ref 39), some (.int 21), some (.int on), some (.int tw), some (.int th)] [] _ _
                    refine am_e18 hi_180_362 ?_
                    refine am_e35 hi_180_371 ?_
                    have q1 : mg_p1 (((23 : Int), (0 : Int), (0 : Int), (0 : Int), []) :: (((29 : Int), (0 : Int), (0 : Int), (0 : Int), []) :: (((28 : Int), (0 : Int), (0 : Int), (0 : Int), []) :: (((21 : Int), z745.toInt, tw.toInt, (0 : Int), []) :: gs)))) = 0 + (0 + (0 + (0 + (mg_p1 gs)))) := rfl
                    have q2 : mg_p2 (((23 : Int), (0 : Int), (0 : Int), (0 : Int), []) :: (((29 : Int), (0 : Int), (0 : Int), (0 : Int), []) :: (((28 : Int), (0 : Int), (0 : Int), (0 : Int), []) :: (((21 : Int), z745.toInt, tw.toInt, (0 : Int), []) :: gs)))) = 0 + (0 + (0 + (0 + (mg_p2 gs)))) := rfl
                    have q3 : mg_p3 (((23 : Int), (0 : Int), (0 : Int), (0 : Int), []) :: (((29 : Int), (0 : Int), (0 : Int), (0 : Int), []) :: (((28 : Int), (0 : Int), (0 : Int), (0 : Int), []) :: (((21 : Int), z745.toInt, tw.toInt, (0 : Int), []) :: gs)))) = 1 + (1 + (1 + (1 + (mg_p3 gs)))) := rfl
                    have q4 : mg_p4 (((23 : Int), (0 : Int), (0 : Int), (0 : Int), []) :: (((29 : Int), (0 : Int), (0 : Int), (0 : Int), []) :: (((28 : Int), (0 : Int), (0 : Int), (0 : Int), []) :: (((21 : Int), z745.toInt, tw.toInt, (0 : Int), []) :: gs)))) = 0 + (0 + (0 + (0 + (mg_p4 gs)))) := rfl
                    refine ⟨_, _, _, bc, rfl, hS803, Or.inl ⟨⟨hR806_, ?_, ?_⟩, rfl, ?_⟩⟩
                    · exact (⟨⟨(show mg_k 23 from by decide), (show (0 : Int) ≤ z0.toInt from by omega), (show 0 ≤ z730.toInt from by omega), (show 1 ≤ (f 37).toInt from by omega), (show 0 ≤ (f 32).toInt from by omega), (show (f 32).toInt ≤ y775.toInt from by omega), (show y775.toInt ≤ 48 from by omega), (show (f 37).toInt ≤ 2 * (y775.toInt) + 2 from by omega), (show 0 ≤ (0 : Int) from by omega)⟩, ⟨⟨(show mg_k 29 from by decide), (show (1 : Int) ≤ z0.toInt + 1 from by omega), (show 0 ≤ z730.toInt from by omega), (show 1 ≤ (f 37).toInt + 0 from by omega), (show 0 ≤ (f 32).toInt + 0 from by omega), (show (f 32).toInt + 0 ≤ y775.toInt + 0 from by omega), (show y775.toInt + 0 ≤ 48 from by omega), (show (f 37).toInt + 0 ≤ 2 * (y775.toInt + 0) + 2 from by omega), trivial⟩, ⟨⟨(show mg_k 28 from by decide), (show (1 : Int) ≤ z0.toInt + 1 + 0 from by omega), (show 0 ≤ z730.toInt from by omega), (show 1 ≤ (f 37).toInt + 0 + 0 from by omega), (show 0 ≤ (f 32).toInt + 0 + 0 from by omega), (show (f 32).toInt + 0 + 0 ≤ y775.toInt + 0 + -1 from by omega), (show y775.toInt + 0 + -1 ≤ 48 from by omega), (show (f 37).toInt + 0 + 0 ≤ 2 * (y775.toInt + 0 + -1) + 2 from by omega), trivial⟩, ⟨⟨(show mg_k 21 from by decide), (show (1 : Int) ≤ z0.toInt + 1 + 0 + 0 from by omega), (show 0 ≤ z730.toInt from by omega), (show 1 ≤ (f 37).toInt + 0 + 0 + 0 from by omega), (show 0 ≤ (f 32).toInt + 0 + 0 + 0 from by omega), (show (f 32).toInt + 0 + 0 + 0 ≤ y775.toInt + 0 + -1 + 0 from by omega), (show y775.toInt + 0 + -1 + 0 ≤ 48 from by omega), (show (f 37).toInt + 0 + 0 + 0 ≤ 2 * (y775.toInt + 0 + -1 + 0) + 1 from by omega), ⟨(show 0 ≤ z745.toInt from by omega), (show 0 ≤ tw.toInt from by omega), (show z730.toInt = tw.toInt + z745.toInt from by omega)⟩⟩, mg_cast (mg_good_ext _ _ _ _ _ _ (fun i _ => by show g'801 34 i = g 34 i; rw [show g'801 34 = g'792 34 from h805_ 34 (by decide), show g'792 34 = g'758 34 from h796_ 34 (by decide), show g'758 34 = g'749 34 from h762_ 34 (by decide), show g'749 34 = g'731 34 from h753_ 34 (by decide), show g'731 34 = g'718 34 from h735_ 34 (by decide), show g'718 34 = g 34 from h726_ 34 (by decide)]) (fun i _ => by show g'801 38 i = g 38 i; rw [show g'801 38 = g'792 38 from h805_ 38 (by decide), show g'792 38 = g'758 38 from h796_ 38 (by decide), show g'758 38 = g'749 38 from h762_ 38 (by decide), show g'749 38 = g'731 38 from h753_ 38 (by decide), show g'731 38 = g'718 38 from h735_ 38 (by decide), show g'718 38 = g 38 from h726_ 38 (by decide)]) (fun i hi => by show g'801 23 i = g 23 i; rw [show g'801 23 = g'792 23 from h805_ 23 (by decide), show g'792 23 = g'758 23 from h796_ 23 (by decide), show g'758 23 = g'749 23 from h762_ 23 (by decide), show g'749 23 = g'731 23 from h753_ 23 (by decide), h736_, show g'718 23 = g 23 from h726_ 23 (by decide)]; exact upd_ne (by rw [cl_toNat]; omega)) hrest) (by show (f 15).toInt + -1 = z0.toInt + 1 + 0 + 0 + -1; omega) (by show tw.toInt = tw.toInt; omega) (by show (f 37).toInt + 0 = (f 37).toInt + 0 + 0 + 0 + 0; omega) (by show (f 32).toInt + 0 = (f 32).toInt + 0 + 0 + 0 + 0; omega) (by show (f 5).toInt + 0 = y775.toInt + 0 + -1 + 0 + 0; omega)⟩⟩⟩⟩ : mg_good (g'801 34) (g'801 38) (g'801 23) (((23 : Int), (0 : Int), (0 : Int), (0 : Int), []) :: (((29 : Int), (0 : Int), (0 : Int), (0 : Int), []) :: (((28 : Int), (0 : Int), (0 : Int), (0 : Int), []) :: (((21 : Int), z745.toInt, tw.toInt, (0 : Int), []) :: gs)))) (z0.toInt) (z730.toInt) ((f 37).toInt) ((f 32).toInt) (y775.toInt))
                    · exact ⟨(by show 0 ≤ z774.toInt; omega), (by show z774.toInt ≤ (f 0).toInt; omega), (by show (f 0).toInt ≤ 512; omega), (by show 0 ≤ (f 24).toInt; omega), (by show (f 24).toInt + z730.toInt + mg_p1 (((23 : Int), (0 : Int), (0 : Int), (0 : Int), []) :: (((29 : Int), (0 : Int), (0 : Int), (0 : Int), []) :: (((28 : Int), (0 : Int), (0 : Int), (0 : Int), []) :: (((21 : Int), z745.toInt, tw.toInt, (0 : Int), []) :: gs)))) ≤ 4 * z774.toInt; omega), (by show z730.toInt ≤ z774.toInt; omega), (by show z0.toInt + mg_p2 (((23 : Int), (0 : Int), (0 : Int), (0 : Int), []) :: (((29 : Int), (0 : Int), (0 : Int), (0 : Int), []) :: (((28 : Int), (0 : Int), (0 : Int), (0 : Int), []) :: (((21 : Int), z745.toInt, tw.toInt, (0 : Int), []) :: gs)))) ≤ z774.toInt; omega), (by show mg_p3 (((23 : Int), (0 : Int), (0 : Int), (0 : Int), []) :: (((29 : Int), (0 : Int), (0 : Int), (0 : Int), []) :: (((28 : Int), (0 : Int), (0 : Int), (0 : Int), []) :: (((21 : Int), z745.toInt, tw.toInt, (0 : Int), []) :: gs)))) ≤ 20 * z774.toInt + 20; omega), (by show 0 ≤ (f 68).toInt; omega), (by show (f 68).toInt + 3 * z730.toInt + mg_p4 (((23 : Int), (0 : Int), (0 : Int), (0 : Int), []) :: (((29 : Int), (0 : Int), (0 : Int), (0 : Int), []) :: (((28 : Int), (0 : Int), (0 : Int), (0 : Int), []) :: (((21 : Int), z745.toInt, tw.toInt, (0 : Int), []) :: gs)))) ≤ 60 * z774.toInt + 60; omega), (by show 0 ≤ o716.toInt; omega), (by show o716.toInt + 64 * mj_n (g'801 16) z0.toNatClampNeg 3 ≤ 64 * z774.toInt; rw [show g'801 16 = g'792 16 from h805_ 16 (by decide), show g'792 16 = g'758 16 from h796_ 16 (by decide), show g'758 16 = g'749 16 from h762_ 16 (by decide), show g'749 16 = g'731 16 from h753_ 16 (by decide), show g'731 16 = g'718 16 from h735_ 16 (by decide), show g'718 16 = g 16 from h726_ 16 (by decide)]; omega), (by show 0 ≤ (f 44).toInt; omega), (by show (f 44).toInt ≤ z774.toInt; omega), (by show 0 ≤ (f 48).toInt; omega), (by show (f 48).toInt ≤ z774.toInt; omega), (by show 1 ≤ (f 53).toInt; omega), (by show (f 53).toInt ≤ z774.toInt + 1; omega), (by show 0 ≤ (f 19).toInt; omega), (by show (f 19).toInt ≤ 600; omega)⟩
                    · show 100 * ((f 0).toInt - z774.toInt) + mg_p3 (((23 : Int), (0 : Int), (0 : Int), (0 : Int), []) :: (((29 : Int), (0 : Int), (0 : Int), (0 : Int), []) :: (((28 : Int), (0 : Int), (0 : Int), (0 : Int), []) :: (((21 : Int), z745.toInt, tw.toInt, (0 : Int), []) :: gs)))) < 100 * ((f 0).toInt - (f 4).toInt) + (1 + mg_p3 gs); omega
                  · subst hv785
                    replace hS786 : MS S0 S773 (upd (upd (upd (upd (upd (upd (upd (upd f 4 z741) 6 a783) 7 b784) 10 0) 15 z0) 20 z730) 62 o716) 75 m717) g'758 := hS786
                    have hR807 := rj_clear0 hR763_
                    have hR808 : RJ (upd (upd (upd (upd (upd (upd (upd (upd f 4 z741) 6 a783) 7 b784) 10 0) 15 z0) 20 z730) 62 o716) 75 m717) g'758 [] bc [] 0 [] := hR807
                    show am_E _ _ _ _ [some (.ref 39)] [.int 0] _ _
                    refine am_e12t hi_201_37 (by decide) ?_
                    refine am_e35 hi_201_54 ?_
                    show am_E _ _ _ _ [some (.ref 39), some (.int on), some (.int tw), some (.int (g 16 z0.toNatClampNeg)), some (.int r3), some (.int 1), some (.int (g 18 z0.toNatClampNeg)), some (.int r719)] [] _ _
                    refine am_e18 hi_264_226 ?_
                    refine am_e35 hi_264_244 ?_
                    show am_E _ _ _ _ [some (.ref 39), some (.int 21), some (.int on), some (.int tw), some (.int th)] [] _ _
                    refine am_e18 hi_180_362 ?_
                    refine am_e35 hi_180_371 ?_
                    have hRc := rj_clear0 hR808
                    refine ⟨_, _, [], _, rfl, hS786, Or.inr ⟨hRc, rfl, (by show 0 ≤ z741.toInt; omega), (by show z741.toInt ≤ (f 0).toInt; omega), (by show 0 ≤ (f 32).toInt; omega), (by show (f 32).toInt ≤ 63; omega), (by show 1 ≤ (f 53).toInt; omega), (by show (f 53).toInt ≤ 600; omega), (by show 0 ≤ (f 68).toInt; omega), (by show (f 68).toInt ≤ 60000; omega), (by show 0 ≤ (f 48).toInt; omega), (by show (f 48).toInt ≤ 8000; omega), (by show 0 ≤ (f 37).toInt; omega), (by show (f 37).toInt ≤ 128; omega), (by show 0 ≤ o716.toInt; omega), (by show o716.toInt ≤ 65000; omega), (by show 0 ≤ (f 19).toInt; omega), (by show (f 19).toInt ≤ 600; omega)⟩⟩
                · refine am_e13f hi_201_5 (am_cF (m := r766.toInt) (n := (1 : Int)) rfl (by decide) c771) ?_
                  refine am_e2 (v := 39) hi_201_8 rfl ?_
                  refine am_e0 hi_201_9 ?_
                  refine am_e0 hi_201_10 ?_
                  refine am_e2 (v := 39) hi_201_11 rfl ?_
                  refine mm_20 (v := .int z741) hS768 hi_201_12 rfl ?_
                  refine am_e32n (as := [.ref 39, .int 3, .int 0, .int z741]) (la := [some (.ref 39), some (.int 3), some (.int 0), some (.int z741)]) (rest := []) hi_201_15 (am_hd0 (M := 201) (by decide) 15) (Nat.le_of_ble_eq_true rfl) (Nat.le_of_ble_eq_true rfl) (show 4 ≤ am_P0.2.2.1 190 from by decide +kernel) rfl (am_recv_ok hS768.fs) rfl rfl (ct_value (d := (d + 5)) hS768 hR763_ (fun _ => ⟨by omega, by omega⟩) (fun h => absurd h (by decide)) (by show (0 : Int) ≤ z0.toInt; omega) (by show z0.toInt ≤ (32767 : Int); omega)) ?_
                  rintro v809 S810 (⟨z811, g'812, hv813, hS814, hR819, h815, h816, h817, h818⟩)
                  subst hv813
                  have h815_ : z811.toInt = z0.toInt + 1 := h815
                  have h816_ : ∀ j, j ∉ [16, 17, 18] → g'812 j = g'758 j := h816
                  have h817_ : mj_n (g'812 16) z811.toNatClampNeg 3 ≤ mj_n (g 16) z0.toNatClampNeg 3 + 1 := by rw [show g'758 16 = g'749 16 from h762_ 16 (by decide), show g'749 16 = g'731 16 from h753_ 16 (by decide), show g'731 16 = g'718 16 from h735_ 16 (by decide), show g'718 16 = g 16 from h726_ 16 (by decide)] at h817; exact h817
                  have h818_ : (3 : Int) = 3 ∨ mj_n (g'812 16) z811.toNatClampNeg 3 ≤ mj_n (g 16) z0.toNatClampNeg 3 := by rw [show g'758 16 = g'749 16 from h762_ 16 (by decide), show g'749 16 = g'731 16 from h753_ 16 (by decide), show g'731 16 = g'718 16 from h735_ 16 (by decide), show g'718 16 = g 16 from h726_ 16 (by decide)] at h818; exact h818
                  replace hS814 : MS S0 S810 (upd (upd (upd (upd (upd (upd f 4 z741) 10 z757) 15 z811) 20 z730) 62 o716) 75 m717) g'812 := hS814
                  have hR819_ : RJ (upd (upd (upd (upd (upd (upd f 4 z741) 10 z757) 15 z811) 20 z730) 62 o716) 75 m717) g'812 (((28 : Int), (0 : Int), (0 : Int), (0 : Int), []) :: (((21 : Int), z745.toInt, tw.toInt, (0 : Int), []) :: gs)) bc [] 0 [] := hR819
                  show am_E _ _ _ _ [some (.ref 39)] [] _ _
                  refine am_e2 (v := 39) hi_201_18 rfl ?_
                  refine am_e7 hi_201_19 ?_
                  refine mm_20 (v := .int z741) hS814 hi_201_20 rfl ?_
                  refine am_e0 hi_201_23 ?_
                  obtain ⟨z820, hz820, tz820⟩ := am_addI (x := z741) (y := 1) (m := z741.toInt) (n := (1 : Int)) rfl (by decide) (by omega) (by omega)
                  refine am_e10 (z := z820) hi_201_24 hz820 ?_
                  refine mm_21 (v := z820) hS814 hi_201_25 rfl (Nat.le_of_ble_eq_true rfl) ms_4 ?_
                  intro S821 hS822
                  replace hS822 : MS S0 S821 (upd (upd (upd (upd (upd (upd f 4 z820) 10 z757) 15 z811) 20 z730) 62 o716) 75 m717) g'812 := hS822
                  have hR823 : RJ (upd (upd (upd (upd (upd (upd f 4 z820) 10 z757) 15 z811) 20 z730) 62 o716) 75 m717) g'812 (((28 : Int), (0 : Int), (0 : Int), (0 : Int), []) :: (((21 : Int), z745.toInt, tw.toInt, (0 : Int), []) :: gs)) bc [] 0 [] := RJ.at hR819_ (by show z741.toInt ≤ z820.toInt; omega)
                  refine am_e18 hi_201_28 ?_
                  refine am_e35 hi_201_54 ?_
                  show am_E _ _ _ _ [some (.ref 39), some (.int on), some (.int tw), some (.int (g 16 z0.toNatClampNeg)), some (.int r3), some (.int 1), some (.int (g 18 z0.toNatClampNeg)), some (.int r719)] [] _ _
                  refine am_e18 hi_264_226 ?_
                  refine am_e35 hi_264_244 ?_
                  show am_E _ _ _ _ [some (.ref 39), some (.int 21), some (.int on), some (.int tw), some (.int th)] [] _ _
                  refine am_e18 hi_180_362 ?_
                  refine am_e35 hi_180_371 ?_
                  have q1 : mg_p1 (((28 : Int), (0 : Int), (0 : Int), (0 : Int), []) :: (((21 : Int), z745.toInt, tw.toInt, (0 : Int), []) :: gs)) = 0 + (0 + (mg_p1 gs)) := rfl
                  have q2 : mg_p2 (((28 : Int), (0 : Int), (0 : Int), (0 : Int), []) :: (((21 : Int), z745.toInt, tw.toInt, (0 : Int), []) :: gs)) = 0 + (0 + (mg_p2 gs)) := rfl
                  have q3 : mg_p3 (((28 : Int), (0 : Int), (0 : Int), (0 : Int), []) :: (((21 : Int), z745.toInt, tw.toInt, (0 : Int), []) :: gs)) = 1 + (1 + (mg_p3 gs)) := rfl
                  have q4 : mg_p4 (((28 : Int), (0 : Int), (0 : Int), (0 : Int), []) :: (((21 : Int), z745.toInt, tw.toInt, (0 : Int), []) :: gs)) = 0 + (0 + (mg_p4 gs)) := rfl
                  refine ⟨_, _, _, bc, rfl, hS822, Or.inl ⟨⟨hR823, ?_, ?_⟩, rfl, ?_⟩⟩
                  · exact (⟨⟨(show mg_k 28 from by decide), (show (1 : Int) ≤ z811.toInt from by omega), (show 0 ≤ z730.toInt from by omega), (show 1 ≤ (f 37).toInt from by omega), (show 0 ≤ (f 32).toInt from by omega), (show (f 32).toInt ≤ (f 5).toInt from by omega), (show (f 5).toInt ≤ 48 from by omega), (show (f 37).toInt ≤ 2 * ((f 5).toInt) + 2 from by omega), trivial⟩, ⟨⟨(show mg_k 21 from by decide), (show (1 : Int) ≤ z811.toInt + 0 from by omega), (show 0 ≤ z730.toInt from by omega), (show 1 ≤ (f 37).toInt + 0 from by omega), (show 0 ≤ (f 32).toInt + 0 from by omega), (show (f 32).toInt + 0 ≤ (f 5).toInt + 0 from by omega), (show (f 5).toInt + 0 ≤ 48 from by omega), (show (f 37).toInt + 0 ≤ 2 * ((f 5).toInt + 0) + 1 from by omega), ⟨(show 0 ≤ z745.toInt from by omega), (show 0 ≤ tw.toInt from by omega), (show z730.toInt = tw.toInt + z745.toInt from by omega)⟩⟩, mg_cast (mg_good_ext _ _ _ _ _ _ (fun i _ => by show g'812 34 i = g 34 i; rw [show g'812 34 = g'758 34 from h816_ 34 (by decide), show g'758 34 = g'749 34 from h762_ 34 (by decide), show g'749 34 = g'731 34 from h753_ 34 (by decide), show g'731 34 = g'718 34 from h735_ 34 (by decide), show g'718 34 = g 34 from h726_ 34 (by decide)]) (fun i _ => by show g'812 38 i = g 38 i; rw [show g'812 38 = g'758 38 from h816_ 38 (by decide), show g'758 38 = g'749 38 from h762_ 38 (by decide), show g'749 38 = g'731 38 from h753_ 38 (by decide), show g'731 38 = g'718 38 from h735_ 38 (by decide), show g'718 38 = g 38 from h726_ 38 (by decide)]) (fun i hi => by show g'812 23 i = g 23 i; rw [show g'812 23 = g'758 23 from h816_ 23 (by decide), show g'758 23 = g'749 23 from h762_ 23 (by decide), show g'749 23 = g'731 23 from h753_ 23 (by decide), h736_, show g'718 23 = g 23 from h726_ 23 (by decide)]; exact upd_ne (by rw [cl_toNat]; omega)) hrest) (by show (f 15).toInt + -1 = z811.toInt + 0 + -1; omega) (by show tw.toInt = tw.toInt; omega) (by show (f 37).toInt + 0 = (f 37).toInt + 0 + 0; omega) (by show (f 32).toInt + 0 = (f 32).toInt + 0 + 0; omega) (by show (f 5).toInt + 0 = (f 5).toInt + 0 + 0; omega)⟩⟩ : mg_good (g'812 34) (g'812 38) (g'812 23) (((28 : Int), (0 : Int), (0 : Int), (0 : Int), []) :: (((21 : Int), z745.toInt, tw.toInt, (0 : Int), []) :: gs)) (z811.toInt) (z730.toInt) ((f 37).toInt) ((f 32).toInt) ((f 5).toInt))
                  · exact ⟨(by show 0 ≤ z820.toInt; omega), (by show z820.toInt ≤ (f 0).toInt; omega), (by show (f 0).toInt ≤ 512; omega), (by show 0 ≤ (f 24).toInt; omega), (by show (f 24).toInt + z730.toInt + mg_p1 (((28 : Int), (0 : Int), (0 : Int), (0 : Int), []) :: (((21 : Int), z745.toInt, tw.toInt, (0 : Int), []) :: gs)) ≤ 4 * z820.toInt; omega), (by show z730.toInt ≤ z820.toInt; omega), (by show z811.toInt + mg_p2 (((28 : Int), (0 : Int), (0 : Int), (0 : Int), []) :: (((21 : Int), z745.toInt, tw.toInt, (0 : Int), []) :: gs)) ≤ z820.toInt; omega), (by show mg_p3 (((28 : Int), (0 : Int), (0 : Int), (0 : Int), []) :: (((21 : Int), z745.toInt, tw.toInt, (0 : Int), []) :: gs)) ≤ 20 * z820.toInt + 20; omega), (by show 0 ≤ (f 68).toInt; omega), (by show (f 68).toInt + 3 * z730.toInt + mg_p4 (((28 : Int), (0 : Int), (0 : Int), (0 : Int), []) :: (((21 : Int), z745.toInt, tw.toInt, (0 : Int), []) :: gs)) ≤ 60 * z820.toInt + 60; omega), (by show 0 ≤ o716.toInt; omega), (by show o716.toInt + 64 * mj_n (g'812 16) z811.toNatClampNeg 3 ≤ 64 * z820.toInt; omega), (by show 0 ≤ (f 44).toInt; omega), (by show (f 44).toInt ≤ z820.toInt; omega), (by show 0 ≤ (f 48).toInt; omega), (by show (f 48).toInt ≤ z820.toInt; omega), (by show 1 ≤ (f 53).toInt; omega), (by show (f 53).toInt ≤ z820.toInt + 1; omega), (by show 0 ≤ (f 19).toInt; omega), (by show (f 19).toInt ≤ 600; omega)⟩
                  · show 100 * ((f 0).toInt - z820.toInt) + mg_p3 (((28 : Int), (0 : Int), (0 : Int), (0 : Int), []) :: (((21 : Int), z745.toInt, tw.toInt, (0 : Int), []) :: gs)) < 100 * ((f 0).toInt - (f 4).toInt) + (1 + mg_p3 gs); omega
              · refine am_e12f hi_237_21 (am_cF (m := (g 29 r596.toNatClampNeg).toInt) (n := (0 : Int)) rfl (by decide) c713) ?_
                refine am_e2 (v := 39) hi_237_24 rfl ?_
                refine am_e0 hi_237_25 ?_
                refine am_e1 (v := g 18 z0.toNatClampNeg) hi_237_27 rfl ?_
                refine am_e32n (as := [.ref 39, .int 10, .int (g 18 z0.toNatClampNeg)]) (la := [some (.ref 39), some (.int 10), some (.int (g 18 z0.toNatClampNeg))]) (rest := []) hi_237_28 (am_hd0 (M := 237) (by decide) 28) (Nat.le_of_ble_eq_true rfl) (Nat.le_of_ble_eq_true rfl) (show 3 ≤ am_P0.2.2.1 191 from by decide +kernel) rfl (am_recv_ok hS598.fs) rfl rfl (ct_failName (d := (d + 5)) hS598   ) ?_
                rintro v824 S825 (⟨a826, b827, hv828, hS829⟩)
                subst hv828
                show am_E _ _ _ _ [some (.ref 39), some (.int (g 18 z0.toNatClampNeg)), some (.int r596)] [] _ _
                refine am_e2 (v := 39) hi_237_31 rfl ?_
                refine am_e1 (v := g 18 z0.toNatClampNeg) hi_237_32 rfl ?_
                refine am_e32n (as := [.ref 39, .int (g 18 z0.toNatClampNeg)]) (la := [some (.ref 39), some (.int (g 18 z0.toNatClampNeg)), none, none, none]) (rest := []) hi_237_33 (am_hd0 (M := 237) (by decide) 33) (Nat.le_of_ble_eq_true rfl) (Nat.le_of_ble_eq_true rfl) (show 2 ≤ am_P0.2.2.1 205 from by decide +kernel) rfl (am_recv_ok hS829.fs) rfl rfl (ct_resolve (d := (d + 4)) hS829 hR  (by show (0 : Int) ≤ (f 32).toInt; omega) (by show (f 32).toInt ≤ (63 : Int); omega) (by show (f 53).toInt ≤ (4096 : Int); omega) (by show (0 : Int) ≤ (f 24).toInt; omega) (by show (f 24).toInt ≤ (16384 : Int); omega) (by show (0 : Int) ≤ (f 62).toInt; omega) (by show (f 62).toInt ≤ (65000 : Int); omega) (by show (0 : Int) ≤ (g 18 z0.toNatClampNeg).toInt; omega) (by show (g 18 z0.toNatClampNeg).toInt ≤ (16383 : Int); omega)) ?_
                rintro v831 S832 (⟨o833, m834, g'835, r836, hv837, hS838, hR844, h839, h840, h841, h842, h843⟩)
                subst hv837
                have h839_ : (f 62).toInt ≤ o833.toInt := h839
                have h840_ : o833.toInt ≤ (f 62).toInt + 64 := h840
                have h841_ : (0 : Int) ≤ r836.toInt := h841
                have h842_ : r836.toInt ≤ (2 : Int) := h842
                have h843_ : ∀ j, j ∉ [63, 64, 65, 66, 67] → g'835 j = g j := h843
                have hR844_ : RJ (upd (upd (upd (upd f 8 a826) 9 b827) 62 o833) 75 m834) g'835 gs bc [] 0 [] := hR844
                show am_E _ _ _ _ [some (.ref 39), some (.int (g 18 z0.toNatClampNeg)), some (.int r596)] [.int r836] _ _
                refine am_e33 hi_237_36 ?_
                show am_E _ _ _ _ [some (.ref 39), some (.int on), some (.int tw), some (.int (g 16 z0.toNatClampNeg)), some (.int r3), some (.int 1), some (.int (g 18 z0.toNatClampNeg)), none] [.int r836] _ _
                refine am_e3 (ls' := [some (.ref 39), some (.int on), some (.int tw), some (.int (g 16 z0.toNatClampNeg)), some (.int r3), some (.int 1), some (.int (g 18 z0.toNatClampNeg)), some (.int r836)]) hi_264_126 (Nat.le_of_ble_eq_true rfl) rfl ?_
                refine am_e2 (v := 39) hi_264_128 rfl ?_
                refine am_e1 (v := r836) hi_264_129 rfl ?_
                refine am_e2 (v := 39) hi_264_131 rfl ?_
                refine mm_20 (v := .int m834) hS838 hi_264_132 rfl ?_
                refine am_e1 (v := g 18 z0.toNatClampNeg) hi_264_135 rfl ?_
                refine am_e32n (as := [.ref 39, .int r836, .int m834, .int (g 18 z0.toNatClampNeg)]) (la := [some (.ref 39), some (.int r836), some (.int m834), some (.int (g 18 z0.toNatClampNeg))]) (rest := []) hi_264_137 (am_hd0 (M := 264) (by decide) 137) (Nat.le_of_ble_eq_true rfl) (Nat.le_of_ble_eq_true rfl) (show 4 ≤ am_P0.2.2.1 239 from by decide +kernel) rfl (am_recv_ok hS838.fs) rfl rfl (ct_keep2 (d := (d + 6)) hS838 hR844_  (by show (0 : Int) ≤ (f 20).toInt; omega) (by show (f 20).toInt ≤ (16383 : Int); omega)) ?_
                rintro v845 S846 (⟨z847, g'848, hv849, hS850, hR854, h851, h852, h853⟩)
                subst hv849
                have h851_ : z847.toInt = (f 20).toInt + 1 := h851
                have h852_ : ∀ j, j ∉ [21, 22, 23] → g'848 j = g'835 j := h852
                have h853_ : g'848 23 = upd (g'835 23) (f 20).toNatClampNeg (g 18 z0.toNatClampNeg) := h853
                replace hS850 : MS S0 S846 (upd (upd (upd (upd (upd f 8 a826) 9 b827) 20 z847) 62 o833) 75 m834) g'848 := hS850
                have hR854_ : RJ (upd (upd (upd (upd (upd f 8 a826) 9 b827) 20 z847) 62 o833) 75 m834) g'848 gs bc [] 0 [] := hR854
                show am_E _ _ _ _ [some (.ref 39), some (.int on), some (.int tw), some (.int (g 16 z0.toNatClampNeg)), some (.int r3), some (.int 1), some (.int (g 18 z0.toNatClampNeg)), some (.int r836)] [] _ _
                refine am_e18 hi_264_140 ?_
                refine am_e2 (v := 39) hi_264_175 rfl ?_
                refine am_e7 hi_264_176 ?_
                refine mm_20 (v := .int (f 15)) hS850 hi_264_177 rfl ?_
                refine am_e0 hi_264_180 ?_
                refine am_e10 (z := z0) hi_264_181 hz0 ?_
                refine mm_21 (v := z0) hS850 hi_264_182 rfl (Nat.le_of_ble_eq_true rfl) ms_15 ?_
                intro S855 hS856
                replace hS856 : MS S0 S855 (upd (upd (upd (upd (upd (upd f 8 a826) 9 b827) 15 z0) 20 z847) 62 o833) 75 m834) g'848 := hS856
                have hp857 : mj_n (g 16) (f 15).toNatClampNeg 3 = mj_n (g 16) z0.toNatClampNeg 3 + if (g 16 z0.toNatClampNeg).toInt = 3 then 1 else 0 := mj_pop (by rw [cl_toNat, cl_toNat]; omega)
                have hp8571 : mj_n (g 16) z0.toNatClampNeg 3 ≤ mj_n (g 16) (f 15).toNatClampNeg 3 := by rw [hp857]; split <;> omega
                have hp8572 : (g 16 z0.toNatClampNeg).toInt = 3 → mj_n (g 16) z0.toNatClampNeg 3 + 1 ≤ mj_n (g 16) (f 15).toNatClampNeg 3 := fun q => by rw [hp857, if_pos q]; exact Int.le_refl _
                refine am_e2 (v := 39) hi_264_185 rfl ?_
                refine am_e7 hi_264_186 ?_
                refine mm_20 (v := .int (f 4)) hS856 hi_264_187 rfl ?_
                refine am_e0 hi_264_190 ?_
                obtain ⟨z858, hz858, tz858⟩ := am_addI (x := f 4) (y := 1) (m := (f 4).toInt) (n := (1 : Int)) rfl (by decide) (by omega) (by omega)
                refine am_e10 (z := z858) hi_264_191 hz858 ?_
                refine mm_21 (v := z858) hS856 hi_264_192 rfl (Nat.le_of_ble_eq_true rfl) ms_4 ?_
                intro S859 hS860
                replace hS860 : MS S0 S859 (upd (upd (upd (upd (upd (upd (upd f 4 z858) 8 a826) 9 b827) 15 z0) 20 z847) 62 o833) 75 m834) g'848 := hS860
                have hR861 : RJ (upd (upd (upd (upd (upd (upd (upd f 4 z858) 8 a826) 9 b827) 15 z0) 20 z847) 62 o833) 75 m834) g'848 gs bc [] 0 [] := RJ.at hR854_ (by show (f 4).toInt ≤ z858.toInt; omega)
                refine am_e1 (v := r3) hi_264_195 rfl ?_
                refine am_e0 hi_264_197 ?_
                refine am_e13f hi_264_199 (am_cF (m := r3.toInt) (n := (69 : Int)) rfl (by decide) (by simp only [am_cI]; omega)) ?_
                refine am_e2 (v := 39) hi_264_202 rfl ?_
                refine am_e0 hi_264_203 ?_
                refine am_e1 (v := on) hi_264_205 rfl ?_
                refine am_e0 hi_264_206 ?_
                obtain ⟨z862, hz862, tz862⟩ := am_addI (x := on) (y := 1) (m := on.toInt) (n := (1 : Int)) rfl (by decide) (by omega) (by omega)
                refine am_e10 (z := z862) hi_264_207 hz862 ?_
                refine am_e1 (v := tw) hi_264_208 rfl ?_
                refine am_e0 hi_264_209 ?_
                refine am_e32n (as := [.ref 39, .int 21, .int z862, .int tw, .int 0]) (la := [some (.ref 39), some (.int 21), some (.int z862), some (.int tw), some (.int 0)]) (rest := []) hi_264_210 (am_hd0 (M := 264) (by decide) 210) (Nat.le_of_ble_eq_true rfl) (Nat.le_of_ble_eq_true rfl) (show 5 ≤ am_P0.2.2.1 179 from by decide +kernel) rfl (am_recv_ok hS860.fs) rfl rfl (ct_pile (d := (d + 6)) hS860 hR861 (mj_e_plain (by decide)) (by show (0 : Int) ≤ (f 10).toInt; omega) (by show (f 10).toInt ≤ (65535 : Int); omega)) ?_
                rintro v863 S864 (⟨z865, g'866, hv867, hS868, hR871, h869, h870⟩)
                subst hv867
                have h869_ : z865.toInt = (f 10).toInt + 1 := h869
                have h870_ : ∀ j, j ∉ [11, 12, 13, 14] → g'866 j = g'848 j := h870
                replace hS868 : MS S0 S864 (upd (upd (upd (upd (upd (upd (upd (upd f 4 z858) 8 a826) 9 b827) 10 z865) 15 z0) 20 z847) 62 o833) 75 m834) g'866 := hS868
                have hR871_ : RJ (upd (upd (upd (upd (upd (upd (upd (upd f 4 z858) 8 a826) 9 b827) 10 z865) 15 z0) 20 z847) 62 o833) 75 m834) g'866 (((21 : Int), z862.toInt, tw.toInt, (0 : Int), []) :: gs) bc [] 0 [] := hR871
                show am_E _ _ _ _ [some (.ref 39), some (.int on), some (.int tw), some (.int (g 16 z0.toNatClampNeg)), some (.int r3), some (.int 1), some (.int (g 18 z0.toNatClampNeg)), some (.int r836)] [] _ _
                refine am_e2 (v := 39) hi_264_213 rfl ?_
                refine am_e0 hi_264_214 ?_
                refine am_e0 hi_264_216 ?_
                refine am_e0 hi_264_217 ?_
                refine am_e0 hi_264_218 ?_
                refine am_e32n (as := [.ref 39, .int 28, .int 0, .int 0, .int 0]) (la := [some (.ref 39), some (.int 28), some (.int 0), some (.int 0), some (.int 0)]) (rest := []) hi_264_219 (am_hd0 (M := 264) (by decide) 219) (Nat.le_of_ble_eq_true rfl) (Nat.le_of_ble_eq_true rfl) (show 5 ≤ am_P0.2.2.1 179 from by decide +kernel) rfl (am_recv_ok hS868.fs) rfl rfl (ct_pile (d := (d + 6)) hS868 hR871_ (mj_e_plain (by decide)) (by show (0 : Int) ≤ z865.toInt; omega) (by show z865.toInt ≤ (65535 : Int); omega)) ?_
                rintro v872 S873 (⟨z874, g'875, hv876, hS877, hR880, h878, h879⟩)
                subst hv876
                have h878_ : z874.toInt = z865.toInt + 1 := h878
                have h879_ : ∀ j, j ∉ [11, 12, 13, 14] → g'875 j = g'866 j := h879
                replace hS877 : MS S0 S873 (upd (upd (upd (upd (upd (upd (upd (upd f 4 z858) 8 a826) 9 b827) 10 z874) 15 z0) 20 z847) 62 o833) 75 m834) g'875 := hS877
                have hR880_ : RJ (upd (upd (upd (upd (upd (upd (upd (upd f 4 z858) 8 a826) 9 b827) 10 z874) 15 z0) 20 z847) 62 o833) 75 m834) g'875 (((28 : Int), (0 : Int), (0 : Int), (0 : Int), []) :: (((21 : Int), z862.toInt, tw.toInt, (0 : Int), []) :: gs)) bc [] 0 [] := hR880
                show am_E _ _ _ _ [some (.ref 39), some (.int on), some (.int tw), some (.int (g 16 z0.toNatClampNeg)), some (.int r3), some (.int 1), some (.int (g 18 z0.toNatClampNeg)), some (.int r836)] [] _ _
                refine am_e2 (v := 39) hi_264_222 rfl ?_
                refine am_e32w (as := [.ref 39]) (la := [some (.ref 39)]) (rest := []) hi_264_223 (am_hd0 (M := 264) (by decide) 223) (Nat.le_of_ble_eq_true rfl) (Nat.le_of_ble_eq_true rfl) (show 1 ≤ am_P0.2.2.1 201 from by decide +kernel) rfl (am_recv_ok hS877.fs) rfl rfl ?_
                refine am_e2 (v := 39) hi_201_0 rfl ?_
                refine am_e32n (as := [.ref 39]) (la := [some (.ref 39)]) (rest := []) hi_201_1 (am_hd0 (M := 201) (by decide) 1) (Nat.le_of_ble_eq_true rfl) (Nat.le_of_ble_eq_true rfl) (show 1 ≤ am_P0.2.2.1 183 from by decide +kernel) rfl (am_recv_ok hS877.fs) rfl rfl (ct_next (d := (d + 4)) hS877   (by show (0 : Int) ≤ z858.toInt; omega) (by show (f 0).toInt ≤ (16384 : Int); omega)) ?_
                rintro v881 S882 (⟨r883, hv884, hS885, h886⟩)
                subst hv884
                have h886_ : z858.toInt < (f 0).toInt ∨ r883.toInt = (-1 : Int) := h886
                show am_E _ _ _ _ [some (.ref 39)] [.int r883] _ _
                refine am_e0 hi_201_4 ?_
                by_cases c888 : ¬ r883.toInt = (1 : Int)
                · refine am_e13t hi_201_5 (am_cT (m := r883.toInt) (n := (1 : Int)) rfl (by decide) c888) ?_
                  refine am_e2 (v := 39) hi_201_31 rfl ?_
                  refine am_e0 hi_201_32 ?_
                  refine am_e32n (as := [.ref 39, .int 60]) (la := [some (.ref 39), some (.int 60)]) (rest := []) hi_201_34 (am_hd0 (M := 201) (by decide) 34) (Nat.le_of_ble_eq_true rfl) (Nat.le_of_ble_eq_true rfl) (show 2 ≤ am_P0.2.2.1 193 from by decide +kernel) rfl (am_recv_ok hS885.fs) rfl rfl (ct_enter (d := (d + 3)) hS885   (by show (0 : Int) ≤ z858.toInt; omega) (by show (f 0).toInt ≤ (16384 : Int); omega) (by show (0 : Int) ≤ (60 : Int); omega) (by show (0 : Int) ≤ (f 5).toInt; omega) (by show (f 5).toInt ≤ (48 : Int); omega)) ?_
                  rintro v889 S890 (⟨z891, y892, hv893, hS894, h895, h896, h897, h898⟩ | ⟨a900, b901, hv902, hS903⟩)
                  · subst hv893
                    have h895_ : z891.toInt = z858.toInt + 1 := h895
                    have h896_ : z858.toInt < (f 0).toInt := h896
                    have h897_ : y892.toInt = (f 5).toInt + 1 := h897
                    have h898_ : y892.toInt ≤ (48 : Int) := h898
                    replace hS894 : MS S0 S890 (upd (upd (upd (upd (upd (upd (upd (upd (upd f 4 z891) 5 y892) 8 a826) 9 b827) 10 z874) 15 z0) 20 z847) 62 o833) 75 m834) g'875 := hS894
                    have hR905 : RJ (upd (upd (upd (upd (upd (upd (upd (upd (upd f 4 z891) 5 y892) 8 a826) 9 b827) 10 z874) 15 z0) 20 z847) 62 o833) 75 m834) g'875 (((28 : Int), (0 : Int), (0 : Int), (0 : Int), []) :: (((21 : Int), z862.toInt, tw.toInt, (0 : Int), []) :: gs)) bc [] 0 [] := RJ.at hR880_ (by show z858.toInt ≤ z891.toInt; omega)
                    show am_E _ _ _ _ [some (.ref 39)] [.int 1] _ _
                    refine am_e12f hi_201_37 (by decide) ?_
                    refine am_e2 (v := 39) hi_201_40 rfl ?_
                    refine am_e0 hi_201_41 ?_
                    refine am_e0 hi_201_43 ?_
                    refine am_e0 hi_201_44 ?_
                    refine am_e0 hi_201_45 ?_
                    refine am_e32n (as := [.ref 39, .int 29, .int 0, .int 0, .int 0]) (la := [some (.ref 39), some (.int 29), some (.int 0), some (.int 0), some (.int 0)]) (rest := []) hi_201_46 (am_hd0 (M := 201) (by decide) 46) (Nat.le_of_ble_eq_true rfl) (Nat.le_of_ble_eq_true rfl) (show 5 ≤ am_P0.2.2.1 179 from by decide +kernel) rfl (am_recv_ok hS894.fs) rfl rfl (ct_pile (d := (d + 5)) hS894 hR905 (mj_e_plain (by decide)) (by show (0 : Int) ≤ z874.toInt; omega) (by show z874.toInt ≤ (65535 : Int); omega)) ?_
                    rintro v906 S907 (⟨z908, g'909, hv910, hS911, hR914, h912, h913⟩)
                    subst hv910
                    have h912_ : z908.toInt = z874.toInt + 1 := h912
                    have h913_ : ∀ j, j ∉ [11, 12, 13, 14] → g'909 j = g'875 j := h913
                    replace hS911 : MS S0 S907 (upd (upd (upd (upd (upd (upd (upd (upd (upd f 4 z891) 5 y892) 8 a826) 9 b827) 10 z908) 15 z0) 20 z847) 62 o833) 75 m834) g'909 := hS911
                    have hR914_ : RJ (upd (upd (upd (upd (upd (upd (upd (upd (upd f 4 z891) 5 y892) 8 a826) 9 b827) 10 z908) 15 z0) 20 z847) 62 o833) 75 m834) g'909 (((29 : Int), (0 : Int), (0 : Int), (0 : Int), []) :: (((28 : Int), (0 : Int), (0 : Int), (0 : Int), []) :: (((21 : Int), z862.toInt, tw.toInt, (0 : Int), []) :: gs))) bc [] 0 [] := hR914
                    show am_E _ _ _ _ [some (.ref 39)] [] _ _
                    refine am_e2 (v := 39) hi_201_49 rfl ?_
                    refine am_e0 hi_201_50 ?_
                    refine am_e32w (as := [.ref 39, .int 0]) (la := [some (.ref 39), some (.int 0)]) (rest := []) hi_201_51 (am_hd0 (M := 201) (by decide) 51) (Nat.le_of_ble_eq_true rfl) (Nat.le_of_ble_eq_true rfl) (show 2 ≤ am_P0.2.2.1 186 from by decide +kernel) rfl (am_recv_ok hS911.fs) rfl rfl ?_
                    refine am_e2 (v := 39) hi_186_0 rfl ?_
                    refine am_e0 hi_186_1 ?_
                    refine am_e1 (v := 0) hi_186_3 rfl ?_
                    refine am_e0 hi_186_4 ?_
                    refine am_e0 hi_186_5 ?_
                    refine am_e32n (as := [.ref 39, .int 23, .int 0, .int 0, .int 0]) (la := [some (.ref 39), some (.int 23), some (.int 0), some (.int 0), some (.int 0)]) (rest := []) hi_186_6 (am_hd0 (M := 186) (by decide) 6) (Nat.le_of_ble_eq_true rfl) (Nat.le_of_ble_eq_true rfl) (show 5 ≤ am_P0.2.2.1 179 from by decide +kernel) rfl (am_recv_ok hS911.fs) rfl rfl (ct_pile (d := (d + 4)) hS911 hR914_ (mj_e_plain (by decide)) (by show (0 : Int) ≤ z908.toInt; omega) (by show z908.toInt ≤ (65535 : Int); omega)) ?_
                    rintro v915 S916 (⟨z917, g'918, hv919, hS920, hR923, h921, h922⟩)
                    subst hv919
                    have h921_ : z917.toInt = z908.toInt + 1 := h921
                    have h922_ : ∀ j, j ∉ [11, 12, 13, 14] → g'918 j = g'909 j := h922
                    replace hS920 : MS S0 S916 (upd (upd (upd (upd (upd (upd (upd (upd (upd f 4 z891) 5 y892) 8 a826) 9 b827) 10 z917) 15 z0) 20 z847) 62 o833) 75 m834) g'918 := hS920
                    have hR923_ : RJ (upd (upd (upd (upd (upd (upd (upd (upd (upd f 4 z891) 5 y892) 8 a826) 9 b827) 10 z917) 15 z0) 20 z847) 62 o833) 75 m834) g'918 (((23 : Int), (0 : Int), (0 : Int), (0 : Int), []) :: (((29 : Int), (0 : Int), (0 : Int), (0 : Int), []) :: (((28 : Int), (0 : Int), (0 : Int), (0 : Int), []) :: (((21 : Int), z862.toInt, tw.toInt, (0 : Int), []) :: gs)))) bc [] 0 [] := hR923
                    show am_E _ _ _ _ [some (.ref 39), some (.int 0)] [] _ _
                    refine am_e35 hi_186_9 ?_
                    show am_E _ _ _ _ [some (.ref 39)] [] _ _
                    refine am_e35 hi_201_54 ?_
                    show am_E _ _ _ _ [some (.ref 39), some (.int on), some (.int tw), some (.int (g 16 z0.toNatClampNeg)), some (.int r3), some (.int 1), some (.int (g 18 z0.toNatClampNeg)), some (.int r836)] [] _ _
                    refine am_e18 hi_264_226 ?_
                    refine am_e35 hi_264_244 ?_
                    show am_E _ _ _ _ [some (.ref 39), some (.int 21), some (.int on), some (.int tw), some (.int th)] [] _ _
                    refine am_e18 hi_180_362 ?_
                    refine am_e35 hi_180_371 ?_
                    have q1 : mg_p1 (((23 : Int), (0 : Int), (0 : Int), (0 : Int), []) :: (((29 : Int), (0 : Int), (0 : Int), (0 : Int), []) :: (((28 : Int), (0 : Int), (0 : Int), (0 : Int), []) :: (((21 : Int), z862.toInt, tw.toInt, (0 : Int), []) :: gs)))) = 0 + (0 + (0 + (0 + (mg_p1 gs)))) := rfl
                    have q2 : mg_p2 (((23 : Int), (0 : Int), (0 : Int), (0 : Int), []) :: (((29 : Int), (0 : Int), (0 : Int), (0 : Int), []) :: (((28 : Int), (0 : Int), (0 : Int), (0 : Int), []) :: (((21 : Int), z862.toInt, tw.toInt, (0 : Int), []) :: gs)))) = 0 + (0 + (0 + (0 + (mg_p2 gs)))) := rfl
                    have q3 : mg_p3 (((23 : Int), (0 : Int), (0 : Int), (0 : Int), []) :: (((29 : Int), (0 : Int), (0 : Int), (0 : Int), []) :: (((28 : Int), (0 : Int), (0 : Int), (0 : Int), []) :: (((21 : Int), z862.toInt, tw.toInt, (0 : Int), []) :: gs)))) = 1 + (1 + (1 + (1 + (mg_p3 gs)))) := rfl
                    have q4 : mg_p4 (((23 : Int), (0 : Int), (0 : Int), (0 : Int), []) :: (((29 : Int), (0 : Int), (0 : Int), (0 : Int), []) :: (((28 : Int), (0 : Int), (0 : Int), (0 : Int), []) :: (((21 : Int), z862.toInt, tw.toInt, (0 : Int), []) :: gs)))) = 0 + (0 + (0 + (0 + (mg_p4 gs)))) := rfl
                    refine ⟨_, _, _, bc, rfl, hS920, Or.inl ⟨⟨hR923_, ?_, ?_⟩, rfl, ?_⟩⟩
                    · exact (⟨⟨(show mg_k 23 from by decide), (show (0 : Int) ≤ z0.toInt from by omega), (show 0 ≤ z847.toInt from by omega), (show 1 ≤ (f 37).toInt from by omega), (show 0 ≤ (f 32).toInt from by omega), (show (f 32).toInt ≤ y892.toInt from by omega), (show y892.toInt ≤ 48 from by omega), (show (f 37).toInt ≤ 2 * (y892.toInt) + 2 from by omega), (show 0 ≤ (0 : Int) from by omega)⟩, ⟨⟨(show mg_k 29 from by decide), (show (1 : Int) ≤ z0.toInt + 1 from by omega), (show 0 ≤ z847.toInt from by omega), (show 1 ≤ (f 37).toInt + 0 from by omega), (show 0 ≤ (f 32).toInt + 0 from by omega), (show (f 32).toInt + 0 ≤ y892.toInt + 0 from by omega), (show y892.toInt + 0 ≤ 48 from by omega), (show (f 37).toInt + 0 ≤ 2 * (y892.toInt + 0) + 2 from by omega), trivial⟩, ⟨⟨(show mg_k 28 from by decide), (show (1 : Int) ≤ z0.toInt + 1 + 0 from by omega), (show 0 ≤ z847.toInt from by omega), (show 1 ≤ (f 37).toInt + 0 + 0 from by omega), (show 0 ≤ (f 32).toInt + 0 + 0 from by omega), (show (f 32).toInt + 0 + 0 ≤ y892.toInt + 0 + -1 from by omega), (show y892.toInt + 0 + -1 ≤ 48 from by omega), (show (f 37).toInt + 0 + 0 ≤ 2 * (y892.toInt + 0 + -1) + 2 from by omega), trivial⟩, ⟨⟨(show mg_k 21 from by decide), (show (1 : Int) ≤ z0.toInt + 1 + 0 + 0 from by omega), (show 0 ≤ z847.toInt from by omega), (show 1 ≤ (f 37).toInt + 0 + 0 + 0 from by omega), (show 0 ≤ (f 32).toInt + 0 + 0 + 0 from by omega), (show (f 32).toInt + 0 + 0 + 0 ≤ y892.toInt + 0 + -1 + 0 from by omega), (show y892.toInt + 0 + -1 + 0 ≤ 48 from by omega), (show (f 37).toInt + 0 + 0 + 0 ≤ 2 * (y892.toInt + 0 + -1 + 0) + 1 from by omega), ⟨(show 0 ≤ z862.toInt from by omega), (show 0 ≤ tw.toInt from by omega), (show z847.toInt = tw.toInt + z862.toInt from by omega)⟩⟩, mg_cast (mg_good_ext _ _ _ _ _ _ (fun i _ => by show g'918 34 i = g 34 i; rw [show g'918 34 = g'909 34 from h922_ 34 (by decide), show g'909 34 = g'875 34 from h913_ 34 (by decide), show g'875 34 = g'866 34 from h879_ 34 (by decide), show g'866 34 = g'848 34 from h870_ 34 (by decide), show g'848 34 = g'835 34 from h852_ 34 (by decide), show g'835 34 = g 34 from h843_ 34 (by decide)]) (fun i _ => by show g'918 38 i = g 38 i; rw [show g'918 38 = g'909 38 from h922_ 38 (by decide), show g'909 38 = g'875 38 from h913_ 38 (by decide), show g'875 38 = g'866 38 from h879_ 38 (by decide), show g'866 38 = g'848 38 from h870_ 38 (by decide), show g'848 38 = g'835 38 from h852_ 38 (by decide), show g'835 38 = g 38 from h843_ 38 (by decide)]) (fun i hi => by show g'918 23 i = g 23 i; rw [show g'918 23 = g'909 23 from h922_ 23 (by decide), show g'909 23 = g'875 23 from h913_ 23 (by decide), show g'875 23 = g'866 23 from h879_ 23 (by decide), show g'866 23 = g'848 23 from h870_ 23 (by decide), h853_, show g'835 23 = g 23 from h843_ 23 (by decide)]; exact upd_ne (by rw [cl_toNat]; omega)) hrest) (by show (f 15).toInt + -1 = z0.toInt + 1 + 0 + 0 + -1; omega) (by show tw.toInt = tw.toInt; omega) (by show (f 37).toInt + 0 = (f 37).toInt + 0 + 0 + 0 + 0; omega) (by show (f 32).toInt + 0 = (f 32).toInt + 0 + 0 + 0 + 0; omega) (by show (f 5).toInt + 0 = y892.toInt + 0 + -1 + 0 + 0; omega)⟩⟩⟩⟩ : mg_good (g'918 34) (g'918 38) (g'918 23) (((23 : Int), (0 : Int), (0 : Int), (0 : Int), []) :: (((29 : Int), (0 : Int), (0 : Int), (0 : Int), []) :: (((28 : Int), (0 : Int), (0 : Int), (0 : Int), []) :: (((21 : Int), z862.toInt, tw.toInt, (0 : Int), []) :: gs)))) (z0.toInt) (z847.toInt) ((f 37).toInt) ((f 32).toInt) (y892.toInt))
                    · exact ⟨(by show 0 ≤ z891.toInt; omega), (by show z891.toInt ≤ (f 0).toInt; omega), (by show (f 0).toInt ≤ 512; omega), (by show 0 ≤ (f 24).toInt; omega), (by show (f 24).toInt + z847.toInt + mg_p1 (((23 : Int), (0 : Int), (0 : Int), (0 : Int), []) :: (((29 : Int), (0 : Int), (0 : Int), (0 : Int), []) :: (((28 : Int), (0 : Int), (0 : Int), (0 : Int), []) :: (((21 : Int), z862.toInt, tw.toInt, (0 : Int), []) :: gs)))) ≤ 4 * z891.toInt; omega), (by show z847.toInt ≤ z891.toInt; omega), (by show z0.toInt + mg_p2 (((23 : Int), (0 : Int), (0 : Int), (0 : Int), []) :: (((29 : Int), (0 : Int), (0 : Int), (0 : Int), []) :: (((28 : Int), (0 : Int), (0 : Int), (0 : Int), []) :: (((21 : Int), z862.toInt, tw.toInt, (0 : Int), []) :: gs)))) ≤ z891.toInt; omega), (by show mg_p3 (((23 : Int), (0 : Int), (0 : Int), (0 : Int), []) :: (((29 : Int), (0 : Int), (0 : Int), (0 : Int), []) :: (((28 : Int), (0 : Int), (0 : Int), (0 : Int), []) :: (((21 : Int), z862.toInt, tw.toInt, (0 : Int), []) :: gs)))) ≤ 20 * z891.toInt + 20; omega), (by show 0 ≤ (f 68).toInt; omega), (by show (f 68).toInt + 3 * z847.toInt + mg_p4 (((23 : Int), (0 : Int), (0 : Int), (0 : Int), []) :: (((29 : Int), (0 : Int), (0 : Int), (0 : Int), []) :: (((28 : Int), (0 : Int), (0 : Int), (0 : Int), []) :: (((21 : Int), z862.toInt, tw.toInt, (0 : Int), []) :: gs)))) ≤ 60 * z891.toInt + 60; omega), (by show 0 ≤ o833.toInt; omega), (by show o833.toInt + 64 * mj_n (g'918 16) z0.toNatClampNeg 3 ≤ 64 * z891.toInt; rw [show g'918 16 = g'909 16 from h922_ 16 (by decide), show g'909 16 = g'875 16 from h913_ 16 (by decide), show g'875 16 = g'866 16 from h879_ 16 (by decide), show g'866 16 = g'848 16 from h870_ 16 (by decide), show g'848 16 = g'835 16 from h852_ 16 (by decide), show g'835 16 = g 16 from h843_ 16 (by decide)]; omega), (by show 0 ≤ (f 44).toInt; omega), (by show (f 44).toInt ≤ z891.toInt; omega), (by show 0 ≤ (f 48).toInt; omega), (by show (f 48).toInt ≤ z891.toInt; omega), (by show 1 ≤ (f 53).toInt; omega), (by show (f 53).toInt ≤ z891.toInt + 1; omega), (by show 0 ≤ (f 19).toInt; omega), (by show (f 19).toInt ≤ 600; omega)⟩
                    · show 100 * ((f 0).toInt - z891.toInt) + mg_p3 (((23 : Int), (0 : Int), (0 : Int), (0 : Int), []) :: (((29 : Int), (0 : Int), (0 : Int), (0 : Int), []) :: (((28 : Int), (0 : Int), (0 : Int), (0 : Int), []) :: (((21 : Int), z862.toInt, tw.toInt, (0 : Int), []) :: gs)))) < 100 * ((f 0).toInt - (f 4).toInt) + (1 + mg_p3 gs); omega
                  · subst hv902
                    replace hS903 : MS S0 S890 (upd (upd (upd (upd (upd (upd (upd (upd (upd (upd f 4 z858) 6 a900) 7 b901) 8 a826) 9 b827) 10 0) 15 z0) 20 z847) 62 o833) 75 m834) g'875 := hS903
                    have hR924 := rj_clear0 hR880_
                    have hR925 : RJ (upd (upd (upd (upd (upd (upd (upd (upd (upd (upd f 4 z858) 6 a900) 7 b901) 8 a826) 9 b827) 10 0) 15 z0) 20 z847) 62 o833) 75 m834) g'875 [] bc [] 0 [] := hR924
                    show am_E _ _ _ _ [some (.ref 39)] [.int 0] _ _
                    refine am_e12t hi_201_37 (by decide) ?_
                    refine am_e35 hi_201_54 ?_
                    show am_E _ _ _ _ [some (.ref 39), some (.int on), some (.int tw), some (.int (g 16 z0.toNatClampNeg)), some (.int r3), some (.int 1), some (.int (g 18 z0.toNatClampNeg)), some (.int r836)] [] _ _
                    refine am_e18 hi_264_226 ?_
                    refine am_e35 hi_264_244 ?_
                    show am_E _ _ _ _ [some (.ref 39), some (.int 21), some (.int on), some (.int tw), some (.int th)] [] _ _
                    refine am_e18 hi_180_362 ?_
                    refine am_e35 hi_180_371 ?_
                    have hRc := rj_clear0 hR925
                    refine ⟨_, _, [], _, rfl, hS903, Or.inr ⟨hRc, rfl, (by show 0 ≤ z858.toInt; omega), (by show z858.toInt ≤ (f 0).toInt; omega), (by show 0 ≤ (f 32).toInt; omega), (by show (f 32).toInt ≤ 63; omega), (by show 1 ≤ (f 53).toInt; omega), (by show (f 53).toInt ≤ 600; omega), (by show 0 ≤ (f 68).toInt; omega), (by show (f 68).toInt ≤ 60000; omega), (by show 0 ≤ (f 48).toInt; omega), (by show (f 48).toInt ≤ 8000; omega), (by show 0 ≤ (f 37).toInt; omega), (by show (f 37).toInt ≤ 128; omega), (by show 0 ≤ o833.toInt; omega), (by show o833.toInt ≤ 65000; omega), (by show 0 ≤ (f 19).toInt; omega), (by show (f 19).toInt ≤ 600; omega)⟩⟩
                · refine am_e13f hi_201_5 (am_cF (m := r883.toInt) (n := (1 : Int)) rfl (by decide) c888) ?_
                  refine am_e2 (v := 39) hi_201_8 rfl ?_
                  refine am_e0 hi_201_9 ?_
                  refine am_e0 hi_201_10 ?_
                  refine am_e2 (v := 39) hi_201_11 rfl ?_
                  refine mm_20 (v := .int z858) hS885 hi_201_12 rfl ?_
                  refine am_e32n (as := [.ref 39, .int 3, .int 0, .int z858]) (la := [some (.ref 39), some (.int 3), some (.int 0), some (.int z858)]) (rest := []) hi_201_15 (am_hd0 (M := 201) (by decide) 15) (Nat.le_of_ble_eq_true rfl) (Nat.le_of_ble_eq_true rfl) (show 4 ≤ am_P0.2.2.1 190 from by decide +kernel) rfl (am_recv_ok hS885.fs) rfl rfl (ct_value (d := (d + 5)) hS885 hR880_ (fun _ => ⟨by omega, by omega⟩) (fun h => absurd h (by decide)) (by show (0 : Int) ≤ z0.toInt; omega) (by show z0.toInt ≤ (32767 : Int); omega)) ?_
                  rintro v926 S927 (⟨z928, g'929, hv930, hS931, hR936, h932, h933, h934, h935⟩)
                  subst hv930
                  have h932_ : z928.toInt = z0.toInt + 1 := h932
                  have h933_ : ∀ j, j ∉ [16, 17, 18] → g'929 j = g'875 j := h933
                  have h934_ : mj_n (g'929 16) z928.toNatClampNeg 3 ≤ mj_n (g 16) z0.toNatClampNeg 3 + 1 := by rw [show g'875 16 = g'866 16 from h879_ 16 (by decide), show g'866 16 = g'848 16 from h870_ 16 (by decide), show g'848 16 = g'835 16 from h852_ 16 (by decide), show g'835 16 = g 16 from h843_ 16 (by decide)] at h934; exact h934
                  have h935_ : (3 : Int) = 3 ∨ mj_n (g'929 16) z928.toNatClampNeg 3 ≤ mj_n (g 16) z0.toNatClampNeg 3 := by rw [show g'875 16 = g'866 16 from h879_ 16 (by decide), show g'866 16 = g'848 16 from h870_ 16 (by decide), show g'848 16 = g'835 16 from h852_ 16 (by decide), show g'835 16 = g 16 from h843_ 16 (by decide)] at h935; exact h935
                  replace hS931 : MS S0 S927 (upd (upd (upd (upd (upd (upd (upd (upd f 4 z858) 8 a826) 9 b827) 10 z874) 15 z928) 20 z847) 62 o833) 75 m834) g'929 := hS931
                  have hR936_ : RJ (upd (upd (upd (upd (upd (upd (upd (upd f 4 z858) 8 a826) 9 b827) 10 z874) 15 z928) 20 z847) 62 o833) 75 m834) g'929 (((28 : Int), (0 : Int), (0 : Int), (0 : Int), []) :: (((21 : Int), z862.toInt, tw.toInt, (0 : Int), []) :: gs)) bc [] 0 [] := hR936
                  show am_E _ _ _ _ [some (.ref 39)] [] _ _
                  refine am_e2 (v := 39) hi_201_18 rfl ?_
                  refine am_e7 hi_201_19 ?_
                  refine mm_20 (v := .int z858) hS931 hi_201_20 rfl ?_
                  refine am_e0 hi_201_23 ?_
                  obtain ⟨z937, hz937, tz937⟩ := am_addI (x := z858) (y := 1) (m := z858.toInt) (n := (1 : Int)) rfl (by decide) (by omega) (by omega)
                  refine am_e10 (z := z937) hi_201_24 hz937 ?_
                  refine mm_21 (v := z937) hS931 hi_201_25 rfl (Nat.le_of_ble_eq_true rfl) ms_4 ?_
                  intro S938 hS939
                  replace hS939 : MS S0 S938 (upd (upd (upd (upd (upd (upd (upd (upd f 4 z937) 8 a826) 9 b827) 10 z874) 15 z928) 20 z847) 62 o833) 75 m834) g'929 := hS939
                  have hR940 : RJ (upd (upd (upd (upd (upd (upd (upd (upd f 4 z937) 8 a826) 9 b827) 10 z874) 15 z928) 20 z847) 62 o833) 75 m834) g'929 (((28 : Int), (0 : Int), (0 : Int), (0 : Int), []) :: (((21 : Int), z862.toInt, tw.toInt, (0 : Int), []) :: gs)) bc [] 0 [] := RJ.at hR936_ (by show z858.toInt ≤ z937.toInt; omega)
                  refine am_e18 hi_201_28 ?_
                  refine am_e35 hi_201_54 ?_
                  show am_E _ _ _ _ [some (.ref 39), some (.int on), some (.int tw), some (.int (g 16 z0.toNatClampNeg)), some (.int r3), some (.int 1), some (.int (g 18 z0.toNatClampNeg)), some (.int r836)] [] _ _
                  refine am_e18 hi_264_226 ?_
                  refine am_e35 hi_264_244 ?_
                  show am_E _ _ _ _ [some (.ref 39), some (.int 21), some (.int on), some (.int tw), some (.int th)] [] _ _
                  refine am_e18 hi_180_362 ?_
                  refine am_e35 hi_180_371 ?_
                  have q1 : mg_p1 (((28 : Int), (0 : Int), (0 : Int), (0 : Int), []) :: (((21 : Int), z862.toInt, tw.toInt, (0 : Int), []) :: gs)) = 0 + (0 + (mg_p1 gs)) := rfl
                  have q2 : mg_p2 (((28 : Int), (0 : Int), (0 : Int), (0 : Int), []) :: (((21 : Int), z862.toInt, tw.toInt, (0 : Int), []) :: gs)) = 0 + (0 + (mg_p2 gs)) := rfl
                  have q3 : mg_p3 (((28 : Int), (0 : Int), (0 : Int), (0 : Int), []) :: (((21 : Int), z862.toInt, tw.toInt, (0 : Int), []) :: gs)) = 1 + (1 + (mg_p3 gs)) := rfl
                  have q4 : mg_p4 (((28 : Int), (0 : Int), (0 : Int), (0 : Int), []) :: (((21 : Int), z862.toInt, tw.toInt, (0 : Int), []) :: gs)) = 0 + (0 + (mg_p4 gs)) := rfl
                  refine ⟨_, _, _, bc, rfl, hS939, Or.inl ⟨⟨hR940, ?_, ?_⟩, rfl, ?_⟩⟩
                  · exact (⟨⟨(show mg_k 28 from by decide), (show (1 : Int) ≤ z928.toInt from by omega), (show 0 ≤ z847.toInt from by omega), (show 1 ≤ (f 37).toInt from by omega), (show 0 ≤ (f 32).toInt from by omega), (show (f 32).toInt ≤ (f 5).toInt from by omega), (show (f 5).toInt ≤ 48 from by omega), (show (f 37).toInt ≤ 2 * ((f 5).toInt) + 2 from by omega), trivial⟩, ⟨⟨(show mg_k 21 from by decide), (show (1 : Int) ≤ z928.toInt + 0 from by omega), (show 0 ≤ z847.toInt from by omega), (show 1 ≤ (f 37).toInt + 0 from by omega), (show 0 ≤ (f 32).toInt + 0 from by omega), (show (f 32).toInt + 0 ≤ (f 5).toInt + 0 from by omega), (show (f 5).toInt + 0 ≤ 48 from by omega), (show (f 37).toInt + 0 ≤ 2 * ((f 5).toInt + 0) + 1 from by omega), ⟨(show 0 ≤ z862.toInt from by omega), (show 0 ≤ tw.toInt from by omega), (show z847.toInt = tw.toInt + z862.toInt from by omega)⟩⟩, mg_cast (mg_good_ext _ _ _ _ _ _ (fun i _ => by show g'929 34 i = g 34 i; rw [show g'929 34 = g'875 34 from h933_ 34 (by decide), show g'875 34 = g'866 34 from h879_ 34 (by decide), show g'866 34 = g'848 34 from h870_ 34 (by decide), show g'848 34 = g'835 34 from h852_ 34 (by decide), show g'835 34 = g 34 from h843_ 34 (by decide)]) (fun i _ => by show g'929 38 i = g 38 i; rw [show g'929 38 = g'875 38 from h933_ 38 (by decide), show g'875 38 = g'866 38 from h879_ 38 (by decide), show g'866 38 = g'848 38 from h870_ 38 (by decide), show g'848 38 = g'835 38 from h852_ 38 (by decide), show g'835 38 = g 38 from h843_ 38 (by decide)]) (fun i hi => by show g'929 23 i = g 23 i; rw [show g'929 23 = g'875 23 from h933_ 23 (by decide), show g'875 23 = g'866 23 from h879_ 23 (by decide), show g'866 23 = g'848 23 from h870_ 23 (by decide), h853_, show g'835 23 = g 23 from h843_ 23 (by decide)]; exact upd_ne (by rw [cl_toNat]; omega)) hrest) (by show (f 15).toInt + -1 = z928.toInt + 0 + -1; omega) (by show tw.toInt = tw.toInt; omega) (by show (f 37).toInt + 0 = (f 37).toInt + 0 + 0; omega) (by show (f 32).toInt + 0 = (f 32).toInt + 0 + 0; omega) (by show (f 5).toInt + 0 = (f 5).toInt + 0 + 0; omega)⟩⟩ : mg_good (g'929 34) (g'929 38) (g'929 23) (((28 : Int), (0 : Int), (0 : Int), (0 : Int), []) :: (((21 : Int), z862.toInt, tw.toInt, (0 : Int), []) :: gs)) (z928.toInt) (z847.toInt) ((f 37).toInt) ((f 32).toInt) ((f 5).toInt))
                  · exact ⟨(by show 0 ≤ z937.toInt; omega), (by show z937.toInt ≤ (f 0).toInt; omega), (by show (f 0).toInt ≤ 512; omega), (by show 0 ≤ (f 24).toInt; omega), (by show (f 24).toInt + z847.toInt + mg_p1 (((28 : Int), (0 : Int), (0 : Int), (0 : Int), []) :: (((21 : Int), z862.toInt, tw.toInt, (0 : Int), []) :: gs)) ≤ 4 * z937.toInt; omega), (by show z847.toInt ≤ z937.toInt; omega), (by show z928.toInt + mg_p2 (((28 : Int), (0 : Int), (0 : Int), (0 : Int), []) :: (((21 : Int), z862.toInt, tw.toInt, (0 : Int), []) :: gs)) ≤ z937.toInt; omega), (by show mg_p3 (((28 : Int), (0 : Int), (0 : Int), (0 : Int), []) :: (((21 : Int), z862.toInt, tw.toInt, (0 : Int), []) :: gs)) ≤ 20 * z937.toInt + 20; omega), (by show 0 ≤ (f 68).toInt; omega), (by show (f 68).toInt + 3 * z847.toInt + mg_p4 (((28 : Int), (0 : Int), (0 : Int), (0 : Int), []) :: (((21 : Int), z862.toInt, tw.toInt, (0 : Int), []) :: gs)) ≤ 60 * z937.toInt + 60; omega), (by show 0 ≤ o833.toInt; omega), (by show o833.toInt + 64 * mj_n (g'929 16) z928.toNatClampNeg 3 ≤ 64 * z937.toInt; omega), (by show 0 ≤ (f 44).toInt; omega), (by show (f 44).toInt ≤ z937.toInt; omega), (by show 0 ≤ (f 48).toInt; omega), (by show (f 48).toInt ≤ z937.toInt; omega), (by show 1 ≤ (f 53).toInt; omega), (by show (f 53).toInt ≤ z937.toInt + 1; omega), (by show 0 ≤ (f 19).toInt; omega), (by show (f 19).toInt ≤ 600; omega)⟩
                  · show 100 * ((f 0).toInt - z937.toInt) + mg_p3 (((28 : Int), (0 : Int), (0 : Int), (0 : Int), []) :: (((21 : Int), z862.toInt, tw.toInt, (0 : Int), []) :: gs)) < 100 * ((f 0).toInt - (f 4).toInt) + (1 + mg_p3 gs); omega
      · refine am_e13f hi_264_41 (am_cF (m := (g 16 z0.toNatClampNeg).toInt) (n := (1 : Int)) rfl (by decide) c376) ?_
        refine am_e1 (v := on) hi_264_44 rfl ?_
        by_cases c941 : ¬ on.toInt = (0 : Int)
        · refine am_e12t hi_264_45 (am_cT (m := on.toInt) (n := (0 : Int)) rfl (by decide) c941) ?_
          refine am_e1 (v := g 16 z0.toNatClampNeg) hi_264_84 rfl ?_
          refine am_e0 hi_264_85 ?_
          refine am_e13t hi_264_86 (am_cT (m := (g 16 z0.toNatClampNeg).toInt) (n := (3 : Int)) rfl (by decide) (by simp only [am_cI]; omega)) ?_
          refine am_e2 (v := 39) hi_264_94 rfl ?_
          refine am_e0 hi_264_95 ?_
          refine am_e32n (as := [.ref 39, .int 7]) (la := [some (.ref 39), some (.int 7)]) (rest := []) hi_264_97 (am_hd0 (M := 264) (by decide) 97) (Nat.le_of_ble_eq_true rfl) (Nat.le_of_ble_eq_true rfl) (show 2 ≤ am_P0.2.2.1 194 from by decide +kernel) rfl (am_recv_ok hS5.fs) rfl rfl (ct_fail (d := (d + 6)) hS5   ) ?_
          rintro v942 S943 (⟨a944, b945, hv946, hS947⟩)
          subst hv946
          have hR949 := rj_clear0 hR
          have hR950 : RJ (upd (upd (upd f 6 a944) 7 b945) 10 0) g [] bc [] 0 [] := hR949
          show am_E _ _ _ _ [some (.ref 39), some (.int on), some (.int tw), some (.int (g 16 z0.toNatClampNeg)), some (.int r3), some (.int 1), none, none] [.int 0] _ _
          refine am_e6i hi_264_100 ?_
          refine am_e35 hi_264_101 ?_
          show am_E _ _ _ _ [some (.ref 39), some (.int 21), some (.int on), some (.int tw), some (.int th)] [] _ _
          refine am_e18 hi_180_362 ?_
          refine am_e35 hi_180_371 ?_
          have hRc := rj_clear0 hR950
          refine ⟨_, _, [], _, rfl, hS947, Or.inr ⟨hRc, rfl, (by show 0 ≤ (f 4).toInt; omega), (by show (f 4).toInt ≤ (f 0).toInt; omega), (by show 0 ≤ (f 32).toInt; omega), (by show (f 32).toInt ≤ 63; omega), (by show 1 ≤ (f 53).toInt; omega), (by show (f 53).toInt ≤ 600; omega), (by show 0 ≤ (f 68).toInt; omega), (by show (f 68).toInt ≤ 60000; omega), (by show 0 ≤ (f 48).toInt; omega), (by show (f 48).toInt ≤ 8000; omega), (by show 0 ≤ (f 37).toInt; omega), (by show (f 37).toInt ≤ 128; omega), (by show 0 ≤ (f 62).toInt; omega), (by show (f 62).toInt ≤ 65000; omega), (by show 0 ≤ (f 19).toInt; omega), (by show (f 19).toInt ≤ 600; omega)⟩⟩
        · refine am_e12f hi_264_45 (am_cF (m := on.toInt) (n := (0 : Int)) rfl (by decide) c941) ?_
          refine am_e1 (v := 1) hi_264_48 rfl ?_
          refine am_e12t hi_264_50 (by decide) ?_
          refine am_e1 (v := g 16 z0.toNatClampNeg) hi_264_84 rfl ?_
          refine am_e0 hi_264_85 ?_
          refine am_e13t hi_264_86 (am_cT (m := (g 16 z0.toNatClampNeg).toInt) (n := (3 : Int)) rfl (by decide) (by simp only [am_cI]; omega)) ?_
          refine am_e2 (v := 39) hi_264_94 rfl ?_
          refine am_e0 hi_264_95 ?_
          refine am_e32n (as := [.ref 39, .int 7]) (la := [some (.ref 39), some (.int 7)]) (rest := []) hi_264_97 (am_hd0 (M := 264) (by decide) 97) (Nat.le_of_ble_eq_true rfl) (Nat.le_of_ble_eq_true rfl) (show 2 ≤ am_P0.2.2.1 194 from by decide +kernel) rfl (am_recv_ok hS5.fs) rfl rfl (ct_fail (d := (d + 6)) hS5   ) ?_
          rintro v951 S952 (⟨a953, b954, hv955, hS956⟩)
          subst hv955
          have hR958 := rj_clear0 hR
          have hR959 : RJ (upd (upd (upd f 6 a953) 7 b954) 10 0) g [] bc [] 0 [] := hR958
          show am_E _ _ _ _ [some (.ref 39), some (.int on), some (.int tw), some (.int (g 16 z0.toNatClampNeg)), some (.int r3), some (.int 1), none, none] [.int 0] _ _
          refine am_e6i hi_264_100 ?_
          refine am_e35 hi_264_101 ?_
          show am_E _ _ _ _ [some (.ref 39), some (.int 21), some (.int on), some (.int tw), some (.int th)] [] _ _
          refine am_e18 hi_180_362 ?_
          refine am_e35 hi_180_371 ?_
          have hRc := rj_clear0 hR959
          refine ⟨_, _, [], _, rfl, hS956, Or.inr ⟨hRc, rfl, (by show 0 ≤ (f 4).toInt; omega), (by show (f 4).toInt ≤ (f 0).toInt; omega), (by show 0 ≤ (f 32).toInt; omega), (by show (f 32).toInt ≤ 63; omega), (by show 1 ≤ (f 53).toInt; omega), (by show (f 53).toInt ≤ 600; omega), (by show 0 ≤ (f 68).toInt; omega), (by show (f 68).toInt ≤ 60000; omega), (by show 0 ≤ (f 48).toInt; omega), (by show (f 48).toInt ≤ 8000; omega), (by show 0 ≤ (f 37).toInt; omega), (by show (f 37).toInt ≤ 128; omega), (by show 0 ≤ (f 62).toInt; omega), (by show (f 62).toInt ≤ 65000; omega), (by show 0 ≤ (f 19).toInt; omega), (by show (f 19).toInt ≤ 600; omega)⟩⟩
