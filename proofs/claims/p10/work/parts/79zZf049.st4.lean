/-! STEPS: prefixes (printed by wip/p2/st1.py) -/
set_option maxHeartbeats 16000000 in
theorem st_28 {sc : Nat × (Nat → Int32)} {d : Nat} {S0 S : am_S} {f : Nat → Int32} {g : Nat → Nat → Int32} {on : Int32} {tw : Int32} {th : Int32} {gs : List mg_E} {bc : List (List Nat)} (hS : MS S0 S f g) (hR : RJ f g gs bc [] 0 []) (hrest : mg_good (g 34) (g 38) (g 23) gs ((f 15).toInt + 0) ((f 20).toInt) ((f 37).toInt + 0) ((f 32).toInt + 0) ((f 5).toInt + 0)) (p0 : 0 ≤ (f 4).toInt) (p1 : (f 4).toInt ≤ (f 0).toInt) (p2 : (f 0).toInt ≤ 512) (p3 : 0 ≤ (f 24).toInt) (p4 : (f 24).toInt + (f 20).toInt + mg_p1 gs ≤ 4 * (f 4).toInt) (p5 : (f 20).toInt ≤ (f 4).toInt) (p6 : (f 15).toInt + 0 + mg_p2 gs ≤ (f 4).toInt) (p7 : 1 + mg_p3 gs ≤ 20 * (f 4).toInt + 20) (p8 : 0 ≤ (f 68).toInt) (p9 : (f 68).toInt + 3 * (f 20).toInt + 0 + mg_p4 gs ≤ 60 * (f 4).toInt + 60) (p10 : 0 ≤ (f 62).toInt) (p11 : (f 62).toInt + 64 * mj_n (g 16) (f 15).toNatClampNeg 3 ≤ 64 * (f 4).toInt) (p12 : 0 ≤ (f 44).toInt) (p13 : (f 44).toInt ≤ (f 4).toInt) (p14 : 0 ≤ (f 48).toInt) (p15 : (f 48).toInt ≤ (f 4).toInt) (p16 : 1 ≤ (f 53).toInt) (p17 : (f 53).toInt ≤ (f 4).toInt + 1) (p18 : 0 ≤ (f 19).toInt) (p19 : (f 19).toInt ≤ 600) (p20 : 0 ≤ (f 6).toInt) (p21 : 0 ≤ (f 8).toInt) (p22 : 0 ≤ mg_p1 gs) (p23 : 0 ≤ mg_p2 gs) (p24 : 0 ≤ mg_p4 gs) (p25 : 0 ≤ (f 10).toInt) (p26 : (f 10).toInt ≤ mg_p3 gs) (p27 : 0 ≤ mj_n (g 16) (f 15).toNatClampNeg 3) (p28 : 1 ≤ (f 15).toInt) (p29 : 0 ≤ (f 20).toInt) (p30 : 1 ≤ (f 37).toInt) (p31 : 0 ≤ (f 32).toInt) (p32 : (f 32).toInt ≤ (f 5).toInt) (p33 : (f 5).toInt ≤ 48) (p34 : (f 37).toInt ≤ 2 * (f 5).toInt + 2) : am_E (am_PP sc) (d + 8) 180 0 [some (.ref 39), some (.int 28), some (.int on), some (.int tw), some (.int th)] [] S (am_N fun v S1 => ∃ (f' : Nat → Int32) (g' : Nat → Nat → Int32) (gs' : List mg_E) (bc' : List (List Nat)), v = none ∧ MS S0 S1 f' g' ∧ (mg_on f (100 * ((f 0).toInt - (f 4).toInt) + (1 + mg_p3 gs)) f' g' gs' bc' ∨ mg_off f f' g' bc')) := by
  have hbs := mg_basic hrest
  refine am_e1 (v := 28) hi_180_0 rfl ?_
  refine am_e0 hi_180_1 ?_
  refine am_e13f hi_180_3 (by decide) ?_
  refine am_e2 (v := 39) hi_180_6 rfl ?_
  refine am_e1 (v := 28) hi_180_7 rfl ?_
  refine am_e1 (v := on) hi_180_8 rfl ?_
  refine am_e1 (v := tw) hi_180_9 rfl ?_
  refine am_e32w (as := [.ref 39, .int 28, .int on, .int tw]) (la := [some (.ref 39), some (.int 28), some (.int on), some (.int tw)]) (rest := []) hi_180_10 (am_hd0 (M := 180) (by decide) 10) (Nat.le_of_ble_eq_true rfl) (Nat.le_of_ble_eq_true rfl) (show 4 ≤ am_P0.2.2.1 181 from by decide +kernel) rfl (am_recv_ok hS.fs) rfl rfl ?_
  refine am_e1 (v := 28) hi_181_0 rfl ?_
  refine am_e19 (t := 176) hi_181_1 (by decide) ?_
  refine am_e2 (v := 39) hi_181_176 rfl ?_
  refine am_e32w (as := [.ref 39]) (la := [some (.ref 39), none, none, none]) (rest := []) hi_181_177 (am_hd0 (M := 181) (by decide) 177) (Nat.le_of_ble_eq_true rfl) (Nat.le_of_ble_eq_true rfl) (show 1 ≤ am_P0.2.2.1 211 from by decide +kernel) rfl (am_recv_ok hS.fs) rfl rfl ?_
  refine am_e2 (v := 39) hi_211_0 rfl ?_
  refine am_e32n (as := [.ref 39]) (la := [some (.ref 39)]) (rest := []) hi_211_1 (am_hd0 (M := 211) (by decide) 1) (Nat.le_of_ble_eq_true rfl) (Nat.le_of_ble_eq_true rfl) (show 1 ≤ am_P0.2.2.1 183 from by decide +kernel) rfl (am_recv_ok hS.fs) rfl rfl (ct_next (d := (d + 4)) hS   (by show (0 : Int) ≤ (f 4).toInt; omega) (by show (f 0).toInt ≤ (16384 : Int); omega)) ?_
  rintro v0 S1 (⟨r2, hv3, hS4, h5⟩)
  subst hv3
  have h5_ : (f 4).toInt < (f 0).toInt ∨ r2.toInt = (-1 : Int) := h5
  show am_E _ _ _ _ [some (.ref 39), none, none, none] [.int r2] _ _
  refine am_e3 (ls' := [some (.ref 39), some (.int r2), none, none]) hi_211_4 (Nat.le_of_ble_eq_true rfl) rfl ?_
  refine am_e2 (v := 39) hi_211_5 rfl ?_
  refine mm_20 (v := .int (f 4)) hS4 hi_211_6 rfl ?_
  refine am_e3 (ls' := [some (.ref 39), some (.int r2), some (.int (f 4)), none]) hi_211_9 (Nat.le_of_ble_eq_true rfl) rfl ?_
  refine am_e1 (v := r2) hi_211_10 rfl ?_
  refine am_e0 hi_211_11 ?_
  by_cases c7 : ¬ r2.toInt = (70 : Int)
  · refine am_e13t hi_211_13 (am_cT (m := r2.toInt) (n := (70 : Int)) rfl (by decide) c7) ?_
    refine am_e1 (v := r2) hi_211_75 rfl ?_
    refine am_e0 hi_211_76 ?_
    by_cases c8 : ¬ r2.toInt = (64 : Int)
    · refine am_e13t hi_211_78 (am_cT (m := r2.toInt) (n := (64 : Int)) rfl (by decide) c8) ?_
      refine am_e1 (v := r2) hi_211_121 rfl ?_
      refine am_e0 hi_211_122 ?_
      by_cases c9 : ¬ r2.toInt = (68 : Int)
      · refine am_e13t hi_211_124 (am_cT (m := r2.toInt) (n := (68 : Int)) rfl (by decide) c9) ?_
        refine am_e1 (v := r2) hi_211_214 rfl ?_
        refine am_e0 hi_211_215 ?_
        by_cases c10 : r2.toInt = (60 : Int)
        · refine am_e13t hi_211_217 (am_cT (m := r2.toInt) (n := (60 : Int)) rfl (by decide) c10) ?_
          refine am_e2 (v := 39) hi_211_231 rfl ?_
          refine am_e32n (as := [.ref 39]) (la := [some (.ref 39), none, none, none]) (rest := []) hi_211_232 (am_hd0 (M := 211) (by decide) 232) (Nat.le_of_ble_eq_true rfl) (Nat.le_of_ble_eq_true rfl) (show 1 ≤ am_P0.2.2.1 204 from by decide +kernel) rfl (am_recv_ok hS4.fs) rfl rfl (ct_load (d := (d + 3)) hS4 hR  (by show (0 : Int) ≤ (f 32).toInt; omega) (by show (f 32).toInt ≤ (63 : Int); omega) (by show (f 53).toInt ≤ (4096 : Int); omega) (by show (0 : Int) ≤ (f 68).toInt; omega) (by show (f 68).toInt ≤ (65534 : Int); omega) (by show (1 : Int) ≤ (f 15).toInt; omega) (by show (f 15).toInt ≤ (32767 : Int); omega) (by show (0 : Int) ≤ (f 24).toInt; omega) (by show (f 24).toInt ≤ (16384 : Int); omega) (by show (0 : Int) ≤ (f 62).toInt; omega) (by show (f 62).toInt ≤ (65000 : Int); omega)) ?_
          rintro v11 S12 (⟨o13, s14, m15, g'16, hv17, hS18, hR25, h19, h20, h21, h22, h23, h24⟩)
          subst hv17
          have h19_ : (f 62).toInt ≤ o13.toInt := h19
          have h20_ : o13.toInt ≤ (f 62).toInt + 64 := h20
          have h21_ : (f 68).toInt ≤ s14.toInt := h21
          have h22_ : s14.toInt ≤ (f 68).toInt + 1 := h22
          have h23_ : o13.toInt + 64 * mj_n (g'16 16) (f 15).toNatClampNeg 3 ≤ (f 62).toInt + 64 * mj_n (g 16) (f 15).toNatClampNeg 3 := h23
          have h24_ : ∀ j, j ∉ [16, 60, 63, 64, 65, 66, 67, 69, 70, 71, 72, 73] → g'16 j = g j := h24
          have hR25_ : RJ (upd (upd (upd f 62 o13) 68 s14) 75 m15) g'16 gs bc [] 0 [] := hR25
          show am_E _ _ _ _ [some (.ref 39), some (.int r2), some (.int (f 4)), none] [] _ _
          refine am_e2 (v := 39) hi_211_235 rfl ?_
          refine am_e0 hi_211_236 ?_
          refine am_e0 hi_211_238 ?_
          refine am_e0 hi_211_239 ?_
          refine am_e0 hi_211_240 ?_
          refine am_e32n (as := [.ref 39, .int 28, .int 0, .int 0, .int 0]) (la := [some (.ref 39), some (.int 28), some (.int 0), some (.int 0), some (.int 0)]) (rest := []) hi_211_241 (am_hd0 (M := 211) (by decide) 241) (Nat.le_of_ble_eq_true rfl) (Nat.le_of_ble_eq_true rfl) (show 5 ≤ am_P0.2.2.1 179 from by decide +kernel) rfl (am_recv_ok hS18.fs) rfl rfl (ct_pile (d := (d + 5)) hS18 hR25_ (mj_e_plain (by decide)) (by show (0 : Int) ≤ (f 10).toInt; omega) (by show (f 10).toInt ≤ (65535 : Int); omega)) ?_
          rintro v26 S27 (⟨z28, g'29, hv30, hS31, hR34, h32, h33⟩)
          subst hv30
          have h32_ : z28.toInt = (f 10).toInt + 1 := h32
          have h33_ : ∀ j, j ∉ [11, 12, 13, 14] → g'29 j = g'16 j := h33
          replace hS31 : MS S0 S27 (upd (upd (upd (upd f 10 z28) 62 o13) 68 s14) 75 m15) g'29 := hS31
          have hR34_ : RJ (upd (upd (upd (upd f 10 z28) 62 o13) 68 s14) 75 m15) g'29 (((28 : Int), (0 : Int), (0 : Int), (0 : Int), []) :: gs) bc [] 0 [] := hR34
          show am_E _ _ _ _ [some (.ref 39), some (.int r2), some (.int (f 4)), none] [] _ _
          refine am_e2 (v := 39) hi_211_244 rfl ?_
          refine am_e0 hi_211_245 ?_
          refine am_e32w (as := [.ref 39, .int 0]) (la := [some (.ref 39), some (.int 0), none]) (rest := []) hi_211_246 (am_hd0 (M := 211) (by decide) 246) (Nat.le_of_ble_eq_true rfl) (Nat.le_of_ble_eq_true rfl) (show 2 ≤ am_P0.2.2.1 212 from by decide +kernel) rfl (am_recv_ok hS31.fs) rfl rfl ?_
          refine am_e2 (v := 39) hi_212_0 rfl ?_
          refine mm_20 (v := .int (f 4)) hS31 hi_212_1 rfl ?_
          refine am_e3 (ls' := [some (.ref 39), some (.int 0), some (.int (f 4))]) hi_212_4 (Nat.le_of_ble_eq_true rfl) rfl ?_
          refine am_e2 (v := 39) hi_212_5 rfl ?_
          refine am_e32n (as := [.ref 39]) (la := [some (.ref 39)]) (rest := []) hi_212_6 (am_hd0 (M := 212) (by decide) 6) (Nat.le_of_ble_eq_true rfl) (Nat.le_of_ble_eq_true rfl) (show 1 ≤ am_P0.2.2.1 183 from by decide +kernel) rfl (am_recv_ok hS31.fs) rfl rfl (ct_next (d := (d + 3)) hS31   (by show (0 : Int) ≤ (f 4).toInt; omega) (by show (f 0).toInt ≤ (16384 : Int); omega)) ?_
          rintro v35 S36 (⟨r37, hv38, hS39, h40⟩)
          subst hv38
          have h40_ : (f 4).toInt < (f 0).toInt ∨ r37.toInt = (-1 : Int) := h40
          show am_E _ _ _ _ [some (.ref 39), some (.int 0), some (.int (f 4))] [.int r37] _ _
          refine am_e0 hi_212_9 ?_
          by_cases c42 : ¬ r37.toInt = (3 : Int)
          · refine am_e13t hi_212_10 (am_cT (m := r37.toInt) (n := (3 : Int)) rfl (by decide) c42) ?_
            refine am_e2 (v := 39) hi_212_52 rfl ?_
            refine am_e32n (as := [.ref 39]) (la := [some (.ref 39)]) (rest := []) hi_212_53 (am_hd0 (M := 212) (by decide) 53) (Nat.le_of_ble_eq_true rfl) (Nat.le_of_ble_eq_true rfl) (show 1 ≤ am_P0.2.2.1 183 from by decide +kernel) rfl (am_recv_ok hS39.fs) rfl rfl (ct_next (d := (d + 3)) hS39   (by show (0 : Int) ≤ (f 4).toInt; omega) (by show (f 0).toInt ≤ (16384 : Int); omega)) ?_
            rintro v43 S44 (⟨r45, hv46, hS47, h48⟩)
            subst hv46
            have h48_ : (f 4).toInt < (f 0).toInt ∨ r45.toInt = (-1 : Int) := h48
            show am_E _ _ _ _ [some (.ref 39), some (.int 0), some (.int (f 4))] [.int r45] _ _
            refine am_e0 hi_212_56 ?_
            by_cases c50 : ¬ r45.toInt = (62 : Int)
            · refine am_e13t hi_212_58 (am_cT (m := r45.toInt) (n := (62 : Int)) rfl (by decide) c50) ?_
              refine am_e2 (v := 39) hi_212_77 rfl ?_
              refine am_e0 hi_212_78 ?_
              refine am_e32n (as := [.ref 39, .int 60]) (la := [some (.ref 39), some (.int 60)]) (rest := []) hi_212_80 (am_hd0 (M := 212) (by decide) 80) (Nat.le_of_ble_eq_true rfl) (Nat.le_of_ble_eq_true rfl) (show 2 ≤ am_P0.2.2.1 193 from by decide +kernel) rfl (am_recv_ok hS47.fs) rfl rfl (ct_enter (d := (d + 2)) hS47   (by show (0 : Int) ≤ (f 4).toInt; omega) (by show (f 0).toInt ≤ (16384 : Int); omega) (by show (0 : Int) ≤ (60 : Int); omega) (by show (0 : Int) ≤ (f 5).toInt; omega) (by show (f 5).toInt ≤ (48 : Int); omega) (by show (0 : Int) ≤ (f 6).toInt; omega)) ?_
              rintro v51 S52 (⟨z53, y54, hv55, hS56, h57, h58, h59, h60⟩ | ⟨a62, b63, hv64, hS65, h66⟩)
              · subst hv55
                have h57_ : z53.toInt = (f 4).toInt + 1 := h57
                have h58_ : (f 4).toInt < (f 0).toInt := h58
                have h59_ : y54.toInt = (f 5).toInt + 1 := h59
                have h60_ : y54.toInt ≤ (48 : Int) := h60
                replace hS56 : MS S0 S52 (upd (upd (upd (upd (upd (upd f 4 z53) 5 y54) 10 z28) 62 o13) 68 s14) 75 m15) g'29 := hS56
                have hR68 : RJ (upd (upd (upd (upd (upd (upd f 4 z53) 5 y54) 10 z28) 62 o13) 68 s14) 75 m15) g'29 (((28 : Int), (0 : Int), (0 : Int), (0 : Int), []) :: gs) bc [] 0 [] := RJ.at hR34_ (by show (f 4).toInt ≤ z53.toInt; omega)
                show am_E _ _ _ _ [some (.ref 39), some (.int 0), some (.int (f 4))] [.int 1] _ _
                refine am_e12f hi_212_83 (by decide) ?_
                refine am_e2 (v := 39) hi_212_86 rfl ?_
                refine am_e32n (as := [.ref 39]) (la := [some (.ref 39)]) (rest := []) hi_212_87 (am_hd0 (M := 212) (by decide) 87) (Nat.le_of_ble_eq_true rfl) (Nat.le_of_ble_eq_true rfl) (show 1 ≤ am_P0.2.2.1 183 from by decide +kernel) rfl (am_recv_ok hS56.fs) rfl rfl (ct_next (d := (d + 3)) hS56   (by show (0 : Int) ≤ z53.toInt; omega) (by show (f 0).toInt ≤ (16384 : Int); omega)) ?_
                rintro v69 S70 (⟨r71, hv72, hS73, h74⟩)
                subst hv72
                have h74_ : z53.toInt < (f 0).toInt ∨ r71.toInt = (-1 : Int) := h74
                show am_E _ _ _ _ [some (.ref 39), some (.int 0), some (.int (f 4))] [.int r71] _ _
                refine am_e0 hi_212_90 ?_
                by_cases c76 : ¬ r71.toInt = (61 : Int)
                · refine am_e13t hi_212_92 (am_cT (m := r71.toInt) (n := (61 : Int)) rfl (by decide) c76) ?_
                  refine am_e2 (v := 39) hi_212_112 rfl ?_
                  refine am_e0 hi_212_113 ?_
                  refine am_e1 (v := 0) hi_212_115 rfl ?_
                  refine am_e1 (v := f 4) hi_212_116 rfl ?_
                  refine am_e0 hi_212_117 ?_
                  refine am_e32n (as := [.ref 39, .int 32, .int 0, .int (f 4), .int 0]) (la := [some (.ref 39), some (.int 32), some (.int 0), some (.int (f 4)), some (.int 0)]) (rest := []) hi_212_118 (am_hd0 (M := 212) (by decide) 118) (Nat.le_of_ble_eq_true rfl) (Nat.le_of_ble_eq_true rfl) (show 5 ≤ am_P0.2.2.1 179 from by decide +kernel) rfl (am_recv_ok hS73.fs) rfl rfl (ct_pile (d := (d + 4)) hS73 hR68 (mj_e_plain (by decide)) (by show (0 : Int) ≤ z28.toInt; omega) (by show z28.toInt ≤ (65535 : Int); omega)) ?_
                  rintro v77 S78 (⟨z79, g'80, hv81, hS82, hR85, h83, h84⟩)
                  subst hv81
                  have h83_ : z79.toInt = z28.toInt + 1 := h83
                  have h84_ : ∀ j, j ∉ [11, 12, 13, 14] → g'80 j = g'29 j := h84
                  replace hS82 : MS S0 S78 (upd (upd (upd (upd (upd (upd f 4 z53) 5 y54) 10 z79) 62 o13) 68 s14) 75 m15) g'80 := hS82
                  have hR85_ : RJ (upd (upd (upd (upd (upd (upd f 4 z53) 5 y54) 10 z79) 62 o13) 68 s14) 75 m15) g'80 (((32 : Int), (0 : Int), (f 4).toInt, (0 : Int), []) :: (((28 : Int), (0 : Int), (0 : Int), (0 : Int), []) :: gs)) bc [] 0 [] := hR85
                  show am_E _ _ _ _ [some (.ref 39), some (.int 0), some (.int (f 4))] [] _ _
                  refine am_e2 (v := 39) hi_212_121 rfl ?_
                  refine am_e32w (as := [.ref 39]) (la := [some (.ref 39)]) (rest := []) hi_212_122 (am_hd0 (M := 212) (by decide) 122) (Nat.le_of_ble_eq_true rfl) (Nat.le_of_ble_eq_true rfl) (show 1 ≤ am_P0.2.2.1 214 from by decide +kernel) rfl (am_recv_ok hS82.fs) rfl rfl ?_
                  refine am_e2 (v := 39) hi_214_0 rfl ?_
                  refine am_e0 hi_214_1 ?_
                  refine am_e0 hi_214_3 ?_
                  refine am_e0 hi_214_4 ?_
                  refine am_e0 hi_214_5 ?_
                  refine am_e32n (as := [.ref 39, .int 34, .int 1, .int 0, .int 0]) (la := [some (.ref 39), some (.int 34), some (.int 1), some (.int 0), some (.int 0)]) (rest := []) hi_214_6 (am_hd0 (M := 214) (by decide) 6) (Nat.le_of_ble_eq_true rfl) (Nat.le_of_ble_eq_true rfl) (show 5 ≤ am_P0.2.2.1 179 from by decide +kernel) rfl (am_recv_ok hS82.fs) rfl rfl (ct_pile (d := (d + 3)) hS82 hR85_ (mj_e_plain (by decide)) (by show (0 : Int) ≤ z79.toInt; omega) (by show z79.toInt ≤ (65535 : Int); omega)) ?_
                  rintro v86 S87 (⟨z88, g'89, hv90, hS91, hR94, h92, h93⟩)
                  subst hv90
                  have h92_ : z88.toInt = z79.toInt + 1 := h92
                  have h93_ : ∀ j, j ∉ [11, 12, 13, 14] → g'89 j = g'80 j := h93
                  replace hS91 : MS S0 S87 (upd (upd (upd (upd (upd (upd f 4 z53) 5 y54) 10 z88) 62 o13) 68 s14) 75 m15) g'89 := hS91
                  have hR94_ : RJ (upd (upd (upd (upd (upd (upd f 4 z53) 5 y54) 10 z88) 62 o13) 68 s14) 75 m15) g'89 (((34 : Int), (1 : Int), (0 : Int), (0 : Int), []) :: (((32 : Int), (0 : Int), (f 4).toInt, (0 : Int), []) :: (((28 : Int), (0 : Int), (0 : Int), (0 : Int), []) :: gs))) bc [] 0 [] := hR94
                  show am_E _ _ _ _ [some (.ref 39)] [] _ _
                  refine am_e2 (v := 39) hi_214_9 rfl ?_
                  refine am_e0 hi_214_10 ?_
                  refine am_e32w (as := [.ref 39, .int 0]) (la := [some (.ref 39), some (.int 0)]) (rest := []) hi_214_11 (am_hd0 (M := 214) (by decide) 11) (Nat.le_of_ble_eq_true rfl) (Nat.le_of_ble_eq_true rfl) (show 2 ≤ am_P0.2.2.1 186 from by decide +kernel) rfl (am_recv_ok hS91.fs) rfl rfl ?_
                  refine am_e2 (v := 39) hi_186_0 rfl ?_
                  refine am_e0 hi_186_1 ?_
                  refine am_e1 (v := 0) hi_186_3 rfl ?_
                  refine am_e0 hi_186_4 ?_
                  refine am_e0 hi_186_5 ?_
                  refine am_e32n (as := [.ref 39, .int 23, .int 0, .int 0, .int 0]) (la := [some (.ref 39), some (.int 23), some (.int 0), some (.int 0), some (.int 0)]) (rest := []) hi_186_6 (am_hd0 (M := 186) (by decide) 6) (Nat.le_of_ble_eq_true rfl) (Nat.le_of_ble_eq_true rfl) (show 5 ≤ am_P0.2.2.1 179 from by decide +kernel) rfl (am_recv_ok hS91.fs) rfl rfl (ct_pile (d := (d + 2)) hS91 hR94_ (mj_e_plain (by decide)) (by show (0 : Int) ≤ z88.toInt; omega) (by show z88.toInt ≤ (65535 : Int); omega)) ?_
                  rintro v95 S96 (⟨z97, g'98, hv99, hS100, hR103, h101, h102⟩)
                  subst hv99
                  have h101_ : z97.toInt = z88.toInt + 1 := h101
                  have h102_ : ∀ j, j ∉ [11, 12, 13, 14] → g'98 j = g'89 j := h102
                  replace hS100 : MS S0 S96 (upd (upd (upd (upd (upd (upd f 4 z53) 5 y54) 10 z97) 62 o13) 68 s14) 75 m15) g'98 := hS100
                  have hR103_ : RJ (upd (upd (upd (upd (upd (upd f 4 z53) 5 y54) 10 z97) 62 o13) 68 s14) 75 m15) g'98 (((23 : Int), (0 : Int), (0 : Int), (0 : Int), []) :: (((34 : Int), (1 : Int), (0 : Int), (0 : Int), []) :: (((32 : Int), (0 : Int), (f 4).toInt, (0 : Int), []) :: (((28 : Int), (0 : Int), (0 : Int), (0 : Int), []) :: gs)))) bc [] 0 [] := hR103
                  show am_E _ _ _ _ [some (.ref 39), some (.int 0)] [] _ _
                  refine am_e35 hi_186_9 ?_
                  show am_E _ _ _ _ [some (.ref 39)] [] _ _
                  refine am_e35 hi_214_14 ?_
                  show am_E _ _ _ _ [some (.ref 39), some (.int 0), some (.int (f 4))] [] _ _
                  refine am_e35 hi_212_125 ?_
                  show am_E _ _ _ _ [some (.ref 39), some (.int r2), some (.int (f 4)), none] [] _ _
                  refine am_e35 hi_211_249 ?_
                  show am_E _ _ _ _ [some (.ref 39), some (.int 28), some (.int on), some (.int tw)] [] _ _
                  refine am_e18 hi_181_180 ?_
                  refine am_e35 hi_181_397 ?_
                  show am_E _ _ _ _ [some (.ref 39), some (.int 28), some (.int on), some (.int tw), some (.int th)] [] _ _
                  refine am_e35 hi_180_13 ?_
                  have q1 : mg_p1 (((23 : Int), (0 : Int), (0 : Int), (0 : Int), []) :: (((34 : Int), (1 : Int), (0 : Int), (0 : Int), []) :: (((32 : Int), (0 : Int), (f 4).toInt, (0 : Int), []) :: (((28 : Int), (0 : Int), (0 : Int), (0 : Int), []) :: gs)))) = 0 + (0 + (0 + (0 + (mg_p1 gs)))) := rfl
                  have q2 : mg_p2 (((23 : Int), (0 : Int), (0 : Int), (0 : Int), []) :: (((34 : Int), (1 : Int), (0 : Int), (0 : Int), []) :: (((32 : Int), (0 : Int), (f 4).toInt, (0 : Int), []) :: (((28 : Int), (0 : Int), (0 : Int), (0 : Int), []) :: gs)))) = 0 + (((1 : Int) - 1) + (0 + (0 + (mg_p2 gs)))) := rfl
                  have q3 : mg_p3 (((23 : Int), (0 : Int), (0 : Int), (0 : Int), []) :: (((34 : Int), (1 : Int), (0 : Int), (0 : Int), []) :: (((32 : Int), (0 : Int), (f 4).toInt, (0 : Int), []) :: (((28 : Int), (0 : Int), (0 : Int), (0 : Int), []) :: gs)))) = 1 + (1 + (1 + (1 + (mg_p3 gs)))) := rfl
                  have q4 : mg_p4 (((23 : Int), (0 : Int), (0 : Int), (0 : Int), []) :: (((34 : Int), (1 : Int), (0 : Int), (0 : Int), []) :: (((32 : Int), (0 : Int), (f 4).toInt, (0 : Int), []) :: (((28 : Int), (0 : Int), (0 : Int), (0 : Int), []) :: gs)))) = 0 + (0 + (0 + (0 + (mg_p4 gs)))) := rfl
                  refine ⟨_, _, _, bc, rfl, hS100, Or.inl ⟨⟨hR103_, ?_, ?_⟩, rfl, ?_⟩⟩
                  · exact (⟨⟨(show mg_k 23 from by decide), (show (0 : Int) ≤ (f 15).toInt from by omega), (show 0 ≤ (f 20).toInt from by omega), (show 1 ≤ (f 37).toInt from by omega), (show 0 ≤ (f 32).toInt from by omega), (show (f 32).toInt ≤ y54.toInt from by omega), (show y54.toInt ≤ 48 from by omega), (show (f 37).toInt ≤ 2 * (y54.toInt) + 2 from by omega), (show 0 ≤ (0 : Int) from by omega)⟩, ⟨⟨(show mg_k 34 from by decide), (show (1 : Int) ≤ (f 15).toInt + 1 from by omega), (show 0 ≤ (f 20).toInt from by omega), (show 1 ≤ (f 37).toInt + 0 from by omega), (show 0 ≤ (f 32).toInt + 0 from by omega), (show (f 32).toInt + 0 ≤ y54.toInt + 0 from by omega), (show y54.toInt + 0 ≤ 48 from by omega), (show (f 37).toInt + 0 ≤ 2 * (y54.toInt + 0) + 2 from by omega), (show 1 ≤ (1 : Int) from by omega)⟩, ⟨⟨(show mg_k 32 from by decide), (show (2 : Int) ≤ (f 15).toInt + 1 + 0 from by omega), (show 0 ≤ (f 20).toInt from by omega), (show 1 ≤ (f 37).toInt + 0 + 0 from by omega), (show 0 ≤ (f 32).toInt + 0 + 0 from by omega), (show (f 32).toInt + 0 + 0 ≤ y54.toInt + 0 + 0 from by omega), (show y54.toInt + 0 + 0 ≤ 48 from by omega), (show (f 37).toInt + 0 + 0 ≤ 2 * (y54.toInt + 0 + 0) + 2 from by omega), trivial⟩, ⟨⟨(show mg_k 28 from by decide), (show (1 : Int) ≤ (f 15).toInt + 1 + 0 + -1 from by omega), (show 0 ≤ (f 20).toInt from by omega), (show 1 ≤ (f 37).toInt + 0 + 0 + 0 from by omega), (show 0 ≤ (f 32).toInt + 0 + 0 + 0 from by omega), (show (f 32).toInt + 0 + 0 + 0 ≤ y54.toInt + 0 + 0 + -1 from by omega), (show y54.toInt + 0 + 0 + -1 ≤ 48 from by omega), (show (f 37).toInt + 0 + 0 + 0 ≤ 2 * (y54.toInt + 0 + 0 + -1) + 2 from by omega), trivial⟩, mg_cast (mg_good_ext _ _ _ _ _ _ (fun i _ => by show g'98 34 i = g 34 i; rw [show g'98 34 = g'89 34 from h102_ 34 (by decide), show g'89 34 = g'80 34 from h93_ 34 (by decide), show g'80 34 = g'29 34 from h84_ 34 (by decide), show g'29 34 = g'16 34 from h33_ 34 (by decide), show g'16 34 = g 34 from h24_ 34 (by decide)]) (fun i _ => by show g'98 38 i = g 38 i; rw [show g'98 38 = g'89 38 from h102_ 38 (by decide), show g'89 38 = g'80 38 from h93_ 38 (by decide), show g'80 38 = g'29 38 from h84_ 38 (by decide), show g'29 38 = g'16 38 from h33_ 38 (by decide), show g'16 38 = g 38 from h24_ 38 (by decide)]) (fun i _ => by show g'98 23 i = g 23 i; rw [show g'98 23 = g'89 23 from h102_ 23 (by decide), show g'89 23 = g'80 23 from h93_ 23 (by decide), show g'80 23 = g'29 23 from h84_ 23 (by decide), show g'29 23 = g'16 23 from h33_ 23 (by decide), show g'16 23 = g 23 from h24_ 23 (by decide)]) hrest) (by show (f 15).toInt + 0 = (f 15).toInt + 1 + 0 + -1 + 0; omega) (by show (f 20).toInt = (f 20).toInt; omega) (by show (f 37).toInt + 0 = (f 37).toInt + 0 + 0 + 0 + 0; omega) (by show (f 32).toInt + 0 = (f 32).toInt + 0 + 0 + 0 + 0; omega) (by show (f 5).toInt + 0 = y54.toInt + 0 + 0 + -1 + 0; omega)⟩⟩⟩⟩ : mg_good (g'98 34) (g'98 38) (g'98 23) (((23 : Int), (0 : Int), (0 : Int), (0 : Int), []) :: (((34 : Int), (1 : Int), (0 : Int), (0 : Int), []) :: (((32 : Int), (0 : Int), (f 4).toInt, (0 : Int), []) :: (((28 : Int), (0 : Int), (0 : Int), (0 : Int), []) :: gs)))) ((f 15).toInt) ((f 20).toInt) ((f 37).toInt) ((f 32).toInt) (y54.toInt))
                  · exact ⟨(by show 0 ≤ z53.toInt; omega), (by show z53.toInt ≤ (f 0).toInt; omega), (by show (f 0).toInt ≤ 512; omega), (by show 0 ≤ (f 24).toInt; omega), (by show (f 24).toInt + (f 20).toInt + mg_p1 (((23 : Int), (0 : Int), (0 : Int), (0 : Int), []) :: (((34 : Int), (1 : Int), (0 : Int), (0 : Int), []) :: (((32 : Int), (0 : Int), (f 4).toInt, (0 : Int), []) :: (((28 : Int), (0 : Int), (0 : Int), (0 : Int), []) :: gs)))) ≤ 4 * z53.toInt; omega), (by show (f 20).toInt ≤ z53.toInt; omega), (by show (f 15).toInt + mg_p2 (((23 : Int), (0 : Int), (0 : Int), (0 : Int), []) :: (((34 : Int), (1 : Int), (0 : Int), (0 : Int), []) :: (((32 : Int), (0 : Int), (f 4).toInt, (0 : Int), []) :: (((28 : Int), (0 : Int), (0 : Int), (0 : Int), []) :: gs)))) ≤ z53.toInt; omega), (by show mg_p3 (((23 : Int), (0 : Int), (0 : Int), (0 : Int), []) :: (((34 : Int), (1 : Int), (0 : Int), (0 : Int), []) :: (((32 : Int), (0 : Int), (f 4).toInt, (0 : Int), []) :: (((28 : Int), (0 : Int), (0 : Int), (0 : Int), []) :: gs)))) ≤ 20 * z53.toInt + 20; omega), (by show 0 ≤ s14.toInt; omega), (by show s14.toInt + 3 * (f 20).toInt + mg_p4 (((23 : Int), (0 : Int), (0 : Int), (0 : Int), []) :: (((34 : Int), (1 : Int), (0 : Int), (0 : Int), []) :: (((32 : Int), (0 : Int), (f 4).toInt, (0 : Int), []) :: (((28 : Int), (0 : Int), (0 : Int), (0 : Int), []) :: gs)))) ≤ 60 * z53.toInt + 60; omega), (by show 0 ≤ o13.toInt; omega), (by show o13.toInt + 64 * mj_n (g'98 16) (f 15).toNatClampNeg 3 ≤ 64 * z53.toInt; rw [show g'98 16 = g'89 16 from h102_ 16 (by decide), show g'89 16 = g'80 16 from h93_ 16 (by decide), show g'80 16 = g'29 16 from h84_ 16 (by decide), show g'29 16 = g'16 16 from h33_ 16 (by decide)]; omega), (by show 0 ≤ (f 44).toInt; omega), (by show (f 44).toInt ≤ z53.toInt; omega), (by show 0 ≤ (f 48).toInt; omega), (by show (f 48).toInt ≤ z53.toInt; omega), (by show 1 ≤ (f 53).toInt; omega), (by show (f 53).toInt ≤ z53.toInt + 1; omega), (by show 0 ≤ (f 19).toInt; omega), (by show (f 19).toInt ≤ 600; omega), (by show 0 ≤ (f 6).toInt; omega), (by show 0 ≤ (f 8).toInt; omega)⟩
                  · show 100 * ((f 0).toInt - z53.toInt) + mg_p3 (((23 : Int), (0 : Int), (0 : Int), (0 : Int), []) :: (((34 : Int), (1 : Int), (0 : Int), (0 : Int), []) :: (((32 : Int), (0 : Int), (f 4).toInt, (0 : Int), []) :: (((28 : Int), (0 : Int), (0 : Int), (0 : Int), []) :: gs)))) < 100 * ((f 0).toInt - (f 4).toInt) + (1 + mg_p3 gs); omega
                · refine am_e13f hi_212_92 (am_cF (m := r71.toInt) (n := (61 : Int)) rfl (by decide) c76) ?_
                  refine am_e2 (v := 39) hi_212_95 rfl ?_
                  refine am_e0 hi_212_96 ?_
                  refine am_e32n (as := [.ref 39, .int 61]) (la := [some (.ref 39), some (.int 61)]) (rest := []) hi_212_98 (am_hd0 (M := 212) (by decide) 98) (Nat.le_of_ble_eq_true rfl) (Nat.le_of_ble_eq_true rfl) (show 2 ≤ am_P0.2.2.1 199 from by decide +kernel) rfl (am_recv_ok hS73.fs) rfl rfl (ct_leave (d := (d + 1)) hS73   (by show (0 : Int) ≤ z53.toInt; omega) (by show (f 0).toInt ≤ (16384 : Int); omega) (by show (0 : Int) ≤ (61 : Int); omega) (by show (0 : Int) ≤ y54.toInt; omega) (by show y54.toInt ≤ (48 : Int); omega) (by show (0 : Int) ≤ (f 6).toInt; omega)) ?_
                  rintro v104 S105 (⟨z106, y107, hv108, hS109, h110, h111, h112⟩ | ⟨a114, b115, hv116, hS117, h118⟩)
                  · subst hv108
                    have h110_ : z106.toInt = z53.toInt + 1 := h110
                    have h111_ : z53.toInt < (f 0).toInt := h111
                    have h112_ : y107.toInt = y54.toInt - 1 := h112
                    replace hS109 : MS S0 S105 (upd (upd (upd (upd (upd (upd f 4 z106) 5 y107) 10 z28) 62 o13) 68 s14) 75 m15) g'29 := hS109
                    have hR120 : RJ (upd (upd (upd (upd (upd (upd f 4 z106) 5 y107) 10 z28) 62 o13) 68 s14) 75 m15) g'29 (((28 : Int), (0 : Int), (0 : Int), (0 : Int), []) :: gs) bc [] 0 [] := RJ.at hR68 (by show z53.toInt ≤ z106.toInt; omega)
                    show am_E _ _ _ _ [some (.ref 39), some (.int 0), some (.int (f 4))] [.int 1] _ _
                    refine am_e6i hi_212_101 ?_
                    refine am_e2 (v := 39) hi_212_102 rfl ?_
                    refine am_e1 (v := 0) hi_212_103 rfl ?_
                    refine am_e0 hi_212_104 ?_
                    refine am_e1 (v := f 4) hi_212_105 rfl ?_
                    refine am_e32w (as := [.ref 39, .int 0, .int 0, .int (f 4)]) (la := [some (.ref 39), some (.int 0), some (.int 0), some (.int (f 4)), none]) (rest := []) hi_212_106 (am_hd0 (M := 212) (by decide) 106) (Nat.le_of_ble_eq_true rfl) (Nat.le_of_ble_eq_true rfl) (show 4 ≤ am_P0.2.2.1 213 from by decide +kernel) rfl (am_recv_ok hS109.fs) rfl rfl ?_
                    refine am_e2 (v := 39) hi_213_0 rfl ?_
                    refine am_e0 hi_213_1 ?_
                    refine am_e1 (v := 0) hi_213_3 rfl ?_
                    refine am_e1 (v := 0) hi_213_4 rfl ?_
                    refine am_e0 hi_213_5 ?_
                    refine am_e10 (z := 2) hi_213_6 (by decide) ?_
                    refine am_e1 (v := f 4) hi_213_7 rfl ?_
                    refine am_e32n (as := [.ref 39, .int 13, .int 0, .int 2, .int (f 4)]) (la := [some (.ref 39), some (.int 13), some (.int 0), some (.int 2), some (.int (f 4))]) (rest := []) hi_213_8 (am_hd0 (M := 213) (by decide) 8) (Nat.le_of_ble_eq_true rfl) (Nat.le_of_ble_eq_true rfl) (show 5 ≤ am_P0.2.2.1 189 from by decide +kernel) rfl (am_recv_ok hS109.fs) rfl rfl (ct_put (d := (d + 3)) hS109 hR120  (by show (0 : Int) ≤ (f 32).toInt; omega) (by show (f 32).toInt ≤ (63 : Int); omega) (by show (f 53).toInt ≤ (4096 : Int); omega) (by show (0 : Int) ≤ s14.toInt; omega) (by show s14.toInt ≤ (65534 : Int); omega)) ?_
                    rintro v121 S122 (⟨z123, r124, g'125, hv126, hS127, hR131, h128, h129, h130⟩)
                    subst hv126
                    have h128_ : z123.toInt = s14.toInt + 1 := h128
                    have h129_ : r124.toInt = s14.toInt := h129
                    have h130_ : ∀ j, j ∉ [60, 69, 70, 71, 72, 73] → g'125 j = g'29 j := h130
                    replace hS127 : MS S0 S122 (upd (upd (upd (upd (upd (upd f 4 z106) 5 y107) 10 z28) 62 o13) 68 z123) 75 m15) g'125 := hS127
                    have hR131_ : RJ (upd (upd (upd (upd (upd (upd f 4 z106) 5 y107) 10 z28) 62 o13) 68 z123) 75 m15) g'125 (((28 : Int), (0 : Int), (0 : Int), (0 : Int), []) :: gs) bc [] 0 (s14.toNatClampNeg :: []) := hR131
                    show am_E _ _ _ _ [some (.ref 39), some (.int 0), some (.int 0), some (.int (f 4)), none] [.int r124] _ _
                    refine am_e3 (ls' := [some (.ref 39), some (.int 0), some (.int 0), some (.int (f 4)), some (.int r124)]) hi_213_11 (Nat.le_of_ble_eq_true rfl) rfl ?_
                    refine am_e2 (v := 39) hi_213_13 rfl ?_
                    refine am_e7 hi_213_14 ?_
                    refine mm_20 (v := .int (f 15)) hS127 hi_213_15 rfl ?_
                    refine am_e0 hi_213_18 ?_
                    obtain ⟨z132, hz132, tz132⟩ := am_subI (x := f 15) (y := 1) (m := (f 15).toInt) (n := (1 : Int)) rfl (by decide) (by omega) (by omega)
                    refine am_e10 (z := z132) hi_213_19 hz132 ?_
                    refine mm_21 (v := z132) hS127 hi_213_20 rfl (Nat.le_of_ble_eq_true rfl) ms_15 ?_
                    intro S133 hS134
                    replace hS134 : MS S0 S133 (upd (upd (upd (upd (upd (upd (upd f 4 z106) 5 y107) 10 z28) 15 z132) 62 o13) 68 z123) 75 m15) g'125 := hS134
                    have hp135 : mj_n (g'16 16) (f 15).toNatClampNeg 3 = mj_n (g'16 16) z132.toNatClampNeg 3 + if (g'16 16 z132.toNatClampNeg).toInt = 3 then 1 else 0 := mj_pop (by rw [cl_toNat, cl_toNat]; omega)
                    have hp1351 : mj_n (g'16 16) z132.toNatClampNeg 3 ≤ mj_n (g'16 16) (f 15).toNatClampNeg 3 := by rw [hp135]; split <;> omega
                    have hp1352 : (g'16 16 z132.toNatClampNeg).toInt = 3 → mj_n (g'16 16) z132.toNatClampNeg 3 + 1 ≤ mj_n (g'16 16) (f 15).toNatClampNeg 3 := fun q => by rw [hp135, if_pos q]; exact Int.le_refl _
                    refine am_e2 (v := 39) hi_213_23 rfl ?_
                    refine am_e0 hi_213_24 ?_
                    refine am_e1 (v := r124) hi_213_25 rfl ?_
                    refine am_e1 (v := f 4) hi_213_27 rfl ?_
                    refine am_e32n (as := [.ref 39, .int 1, .int r124, .int (f 4)]) (la := [some (.ref 39), some (.int 1), some (.int r124), some (.int (f 4))]) (rest := []) hi_213_28 (am_hd0 (M := 213) (by decide) 28) (Nat.le_of_ble_eq_true rfl) (Nat.le_of_ble_eq_true rfl) (show 4 ≤ am_P0.2.2.1 190 from by decide +kernel) rfl (am_recv_ok hS134.fs) rfl rfl (ct_value (d := (d + 3)) hS134 hR131_ (fun h => absurd h (by decide)) (fun _ => ⟨by omega, by omega⟩) (by show (0 : Int) ≤ z132.toInt; omega) (by show z132.toInt ≤ (32767 : Int); omega)) ?_
                    rintro v136 S137 (⟨z138, g'139, hv140, hS141, hR146, h142, h143, h144, h145⟩)
                    subst hv140
                    have h142_ : z138.toInt = z132.toInt + 1 := h142
                    have h143_ : ∀ j, j ∉ [16, 17, 18] → g'139 j = g'125 j := h143
                    have h144_ : mj_n (g'139 16) z138.toNatClampNeg 3 ≤ mj_n (g'16 16) z132.toNatClampNeg 3 + 1 := by rw [show g'125 16 = g'29 16 from h130_ 16 (by decide), show g'29 16 = g'16 16 from h33_ 16 (by decide)] at h144; exact h144
                    have h145_ : (1 : Int) = 3 ∨ mj_n (g'139 16) z138.toNatClampNeg 3 ≤ mj_n (g'16 16) z132.toNatClampNeg 3 := by rw [show g'125 16 = g'29 16 from h130_ 16 (by decide), show g'29 16 = g'16 16 from h33_ 16 (by decide)] at h145; exact h145
                    replace hS141 : MS S0 S137 (upd (upd (upd (upd (upd (upd (upd f 4 z106) 5 y107) 10 z28) 15 z138) 62 o13) 68 z123) 75 m15) g'139 := hS141
                    have hR146_ : RJ (upd (upd (upd (upd (upd (upd (upd f 4 z106) 5 y107) 10 z28) 15 z138) 62 o13) 68 z123) 75 m15) g'139 (((28 : Int), (0 : Int), (0 : Int), (0 : Int), []) :: gs) bc [] 0 (s14.toNatClampNeg :: []) := hR146
                    show am_E _ _ _ _ [some (.ref 39), some (.int 0), some (.int 0), some (.int (f 4)), some (.int r124)] [] _ _
                    refine am_e35 hi_213_31 ?_
                    show am_E _ _ _ _ [some (.ref 39), some (.int 0), some (.int (f 4))] [] _ _
                    refine am_e18 hi_212_109 ?_
                    refine am_e35 hi_212_125 ?_
                    show am_E _ _ _ _ [some (.ref 39), some (.int r2), some (.int (f 4)), none] [] _ _
                    refine am_e35 hi_211_249 ?_
                    show am_E _ _ _ _ [some (.ref 39), some (.int 28), some (.int on), some (.int tw)] [] _ _
                    refine am_e18 hi_181_180 ?_
                    refine am_e35 hi_181_397 ?_
                    show am_E _ _ _ _ [some (.ref 39), some (.int 28), some (.int on), some (.int tw), some (.int th)] [] _ _
                    refine am_e35 hi_180_13 ?_
                    have q1 : mg_p1 (((28 : Int), (0 : Int), (0 : Int), (0 : Int), []) :: gs) = 0 + (mg_p1 gs) := rfl
                    have q2 : mg_p2 (((28 : Int), (0 : Int), (0 : Int), (0 : Int), []) :: gs) = 0 + (mg_p2 gs) := rfl
                    have q3 : mg_p3 (((28 : Int), (0 : Int), (0 : Int), (0 : Int), []) :: gs) = 1 + (mg_p3 gs) := rfl
                    have q4 : mg_p4 (((28 : Int), (0 : Int), (0 : Int), (0 : Int), []) :: gs) = 0 + (mg_p4 gs) := rfl
                    refine ⟨_, _, _, bc, rfl, hS141, Or.inl ⟨⟨(RJ.fewer (pj' := []) hR146_ (fun _ h => nomatch h)), ?_, ?_⟩, rfl, ?_⟩⟩
                    · exact (⟨⟨(show mg_k 28 from by decide), (show (1 : Int) ≤ z138.toInt from by omega), (show 0 ≤ (f 20).toInt from by omega), (show 1 ≤ (f 37).toInt from by omega), (show 0 ≤ (f 32).toInt from by omega), (show (f 32).toInt ≤ y107.toInt from by omega), (show y107.toInt ≤ 48 from by omega), (show (f 37).toInt ≤ 2 * (y107.toInt) + 2 from by omega), trivial⟩, mg_cast (mg_good_ext _ _ _ _ _ _ (fun i _ => by show g'139 34 i = g 34 i; rw [show g'139 34 = g'125 34 from h143_ 34 (by decide), show g'125 34 = g'29 34 from h130_ 34 (by decide), show g'29 34 = g'16 34 from h33_ 34 (by decide), show g'16 34 = g 34 from h24_ 34 (by decide)]) (fun i _ => by show g'139 38 i = g 38 i; rw [show g'139 38 = g'125 38 from h143_ 38 (by decide), show g'125 38 = g'29 38 from h130_ 38 (by decide), show g'29 38 = g'16 38 from h33_ 38 (by decide), show g'16 38 = g 38 from h24_ 38 (by decide)]) (fun i _ => by show g'139 23 i = g 23 i; rw [show g'139 23 = g'125 23 from h143_ 23 (by decide), show g'125 23 = g'29 23 from h130_ 23 (by decide), show g'29 23 = g'16 23 from h33_ 23 (by decide), show g'16 23 = g 23 from h24_ 23 (by decide)]) hrest) (by show (f 15).toInt + 0 = z138.toInt + 0; omega) (by show (f 20).toInt = (f 20).toInt; omega) (by show (f 37).toInt + 0 = (f 37).toInt + 0; omega) (by show (f 32).toInt + 0 = (f 32).toInt + 0; omega) (by show (f 5).toInt + 0 = y107.toInt + 0; omega)⟩ : mg_good (g'139 34) (g'139 38) (g'139 23) (((28 : Int), (0 : Int), (0 : Int), (0 : Int), []) :: gs) (z138.toInt) ((f 20).toInt) ((f 37).toInt) ((f 32).toInt) (y107.toInt))
                    · exact ⟨(by show 0 ≤ z106.toInt; omega), (by show z106.toInt ≤ (f 0).toInt; omega), (by show (f 0).toInt ≤ 512; omega), (by show 0 ≤ (f 24).toInt; omega), (by show (f 24).toInt + (f 20).toInt + mg_p1 (((28 : Int), (0 : Int), (0 : Int), (0 : Int), []) :: gs) ≤ 4 * z106.toInt; omega), (by show (f 20).toInt ≤ z106.toInt; omega), (by show z138.toInt + mg_p2 (((28 : Int), (0 : Int), (0 : Int), (0 : Int), []) :: gs) ≤ z106.toInt; omega), (by show mg_p3 (((28 : Int), (0 : Int), (0 : Int), (0 : Int), []) :: gs) ≤ 20 * z106.toInt + 20; omega), (by show 0 ≤ z123.toInt; omega), (by show z123.toInt + 3 * (f 20).toInt + mg_p4 (((28 : Int), (0 : Int), (0 : Int), (0 : Int), []) :: gs) ≤ 60 * z106.toInt + 60; omega), (by show 0 ≤ o13.toInt; omega), (by show o13.toInt + 64 * mj_n (g'139 16) z138.toNatClampNeg 3 ≤ 64 * z106.toInt; omega), (by show 0 ≤ (f 44).toInt; omega), (by show (f 44).toInt ≤ z106.toInt; omega), (by show 0 ≤ (f 48).toInt; omega), (by show (f 48).toInt ≤ z106.toInt; omega), (by show 1 ≤ (f 53).toInt; omega), (by show (f 53).toInt ≤ z106.toInt + 1; omega), (by show 0 ≤ (f 19).toInt; omega), (by show (f 19).toInt ≤ 600; omega), (by show 0 ≤ (f 6).toInt; omega), (by show 0 ≤ (f 8).toInt; omega)⟩
                    · show 100 * ((f 0).toInt - z106.toInt) + mg_p3 (((28 : Int), (0 : Int), (0 : Int), (0 : Int), []) :: gs) < 100 * ((f 0).toInt - (f 4).toInt) + (1 + mg_p3 gs); omega
                  · subst hv116
                    have h118_ : (0 : Int) ≤ a114.toInt := h118
                    replace hS117 : MS S0 S105 (upd (upd (upd (upd (upd (upd (upd (upd f 4 z53) 5 y54) 6 a114) 7 b115) 10 0) 62 o13) 68 s14) 75 m15) g'29 := hS117
                    have hR147 := rj_clear0 hR68
                    have hR148 : RJ (upd (upd (upd (upd (upd (upd (upd (upd f 4 z53) 5 y54) 6 a114) 7 b115) 10 0) 62 o13) 68 s14) 75 m15) g'29 [] bc [] 0 [] := hR147
                    show am_E _ _ _ _ [some (.ref 39), some (.int 0), some (.int (f 4))] [.int 0] _ _
                    refine am_e6i hi_212_101 ?_
                    refine am_e2 (v := 39) hi_212_102 rfl ?_
                    refine am_e1 (v := 0) hi_212_103 rfl ?_
                    refine am_e0 hi_212_104 ?_
                    refine am_e1 (v := f 4) hi_212_105 rfl ?_
                    refine am_e32w (as := [.ref 39, .int 0, .int 0, .int (f 4)]) (la := [some (.ref 39), some (.int 0), some (.int 0), some (.int (f 4)), none]) (rest := []) hi_212_106 (am_hd0 (M := 212) (by decide) 106) (Nat.le_of_ble_eq_true rfl) (Nat.le_of_ble_eq_true rfl) (show 4 ≤ am_P0.2.2.1 213 from by decide +kernel) rfl (am_recv_ok hS117.fs) rfl rfl ?_
                    refine am_e2 (v := 39) hi_213_0 rfl ?_
                    refine am_e0 hi_213_1 ?_
                    refine am_e1 (v := 0) hi_213_3 rfl ?_
                    refine am_e1 (v := 0) hi_213_4 rfl ?_
                    refine am_e0 hi_213_5 ?_
                    refine am_e10 (z := 2) hi_213_6 (by decide) ?_
                    refine am_e1 (v := f 4) hi_213_7 rfl ?_
                    refine am_e32n (as := [.ref 39, .int 13, .int 0, .int 2, .int (f 4)]) (la := [some (.ref 39), some (.int 13), some (.int 0), some (.int 2), some (.int (f 4))]) (rest := []) hi_213_8 (am_hd0 (M := 213) (by decide) 8) (Nat.le_of_ble_eq_true rfl) (Nat.le_of_ble_eq_true rfl) (show 5 ≤ am_P0.2.2.1 189 from by decide +kernel) rfl (am_recv_ok hS117.fs) rfl rfl (ct_put (d := (d + 3)) hS117 hR148  (by show (0 : Int) ≤ (f 32).toInt; omega) (by show (f 32).toInt ≤ (63 : Int); omega) (by show (f 53).toInt ≤ (4096 : Int); omega) (by show (0 : Int) ≤ s14.toInt; omega) (by show s14.toInt ≤ (65534 : Int); omega)) ?_
                    rintro v149 S150 (⟨z151, r152, g'153, hv154, hS155, hR159, h156, h157, h158⟩)
                    subst hv154
                    have h156_ : z151.toInt = s14.toInt + 1 := h156
                    have h157_ : r152.toInt = s14.toInt := h157
                    have h158_ : ∀ j, j ∉ [60, 69, 70, 71, 72, 73] → g'153 j = g'29 j := h158
                    replace hS155 : MS S0 S150 (upd (upd (upd (upd (upd (upd (upd (upd f 4 z53) 5 y54) 6 a114) 7 b115) 10 0) 62 o13) 68 z151) 75 m15) g'153 := hS155
                    have hR159_ : RJ (upd (upd (upd (upd (upd (upd (upd (upd f 4 z53) 5 y54) 6 a114) 7 b115) 10 0) 62 o13) 68 z151) 75 m15) g'153 [] bc [] 0 (s14.toNatClampNeg :: []) := hR159
                    show am_E _ _ _ _ [some (.ref 39), some (.int 0), some (.int 0), some (.int (f 4)), none] [.int r152] _ _
                    refine am_e3 (ls' := [some (.ref 39), some (.int 0), some (.int 0), some (.int (f 4)), some (.int r152)]) hi_213_11 (Nat.le_of_ble_eq_true rfl) rfl ?_
                    refine am_e2 (v := 39) hi_213_13 rfl ?_
                    refine am_e7 hi_213_14 ?_
                    refine mm_20 (v := .int (f 15)) hS155 hi_213_15 rfl ?_
                    refine am_e0 hi_213_18 ?_
                    obtain ⟨z160, hz160, tz160⟩ := am_subI (x := f 15) (y := 1) (m := (f 15).toInt) (n := (1 : Int)) rfl (by decide) (by omega) (by omega)
                    refine am_e10 (z := z160) hi_213_19 hz160 ?_
                    refine mm_21 (v := z160) hS155 hi_213_20 rfl (Nat.le_of_ble_eq_true rfl) ms_15 ?_
                    intro S161 hS162
                    replace hS162 : MS S0 S161 (upd (upd (upd (upd (upd (upd (upd (upd (upd f 4 z53) 5 y54) 6 a114) 7 b115) 10 0) 15 z160) 62 o13) 68 z151) 75 m15) g'153 := hS162
                    have hp163 : mj_n (g'16 16) (f 15).toNatClampNeg 3 = mj_n (g'16 16) z160.toNatClampNeg 3 + if (g'16 16 z160.toNatClampNeg).toInt = 3 then 1 else 0 := mj_pop (by rw [cl_toNat, cl_toNat]; omega)
                    have hp1631 : mj_n (g'16 16) z160.toNatClampNeg 3 ≤ mj_n (g'16 16) (f 15).toNatClampNeg 3 := by rw [hp163]; split <;> omega
                    have hp1632 : (g'16 16 z160.toNatClampNeg).toInt = 3 → mj_n (g'16 16) z160.toNatClampNeg 3 + 1 ≤ mj_n (g'16 16) (f 15).toNatClampNeg 3 := fun q => by rw [hp163, if_pos q]; exact Int.le_refl _
                    refine am_e2 (v := 39) hi_213_23 rfl ?_
                    refine am_e0 hi_213_24 ?_
                    refine am_e1 (v := r152) hi_213_25 rfl ?_
                    refine am_e1 (v := f 4) hi_213_27 rfl ?_
                    refine am_e32n (as := [.ref 39, .int 1, .int r152, .int (f 4)]) (la := [some (.ref 39), some (.int 1), some (.int r152), some (.int (f 4))]) (rest := []) hi_213_28 (am_hd0 (M := 213) (by decide) 28) (Nat.le_of_ble_eq_true rfl) (Nat.le_of_ble_eq_true rfl) (show 4 ≤ am_P0.2.2.1 190 from by decide +kernel) rfl (am_recv_ok hS162.fs) rfl rfl (ct_value (d := (d + 3)) hS162 hR159_ (fun h => absurd h (by decide)) (fun _ => ⟨by omega, by omega⟩) (by show (0 : Int) ≤ z160.toInt; omega) (by show z160.toInt ≤ (32767 : Int); omega)) ?_
                    rintro v164 S165 (⟨z166, g'167, hv168, hS169, hR174, h170, h171, h172, h173⟩)
                    subst hv168
                    have h170_ : z166.toInt = z160.toInt + 1 := h170
                    have h171_ : ∀ j, j ∉ [16, 17, 18] → g'167 j = g'153 j := h171
                    have h172_ : mj_n (g'167 16) z166.toNatClampNeg 3 ≤ mj_n (g'16 16) z160.toNatClampNeg 3 + 1 := by rw [show g'153 16 = g'29 16 from h158_ 16 (by decide), show g'29 16 = g'16 16 from h33_ 16 (by decide)] at h172; exact h172
                    have h173_ : (1 : Int) = 3 ∨ mj_n (g'167 16) z166.toNatClampNeg 3 ≤ mj_n (g'16 16) z160.toNatClampNeg 3 := by rw [show g'153 16 = g'29 16 from h158_ 16 (by decide), show g'29 16 = g'16 16 from h33_ 16 (by decide)] at h173; exact h173
                    replace hS169 : MS S0 S165 (upd (upd (upd (upd (upd (upd (upd (upd (upd f 4 z53) 5 y54) 6 a114) 7 b115) 10 0) 15 z166) 62 o13) 68 z151) 75 m15) g'167 := hS169
                    have hR174_ : RJ (upd (upd (upd (upd (upd (upd (upd (upd (upd f 4 z53) 5 y54) 6 a114) 7 b115) 10 0) 15 z166) 62 o13) 68 z151) 75 m15) g'167 [] bc [] 0 (s14.toNatClampNeg :: []) := hR174
                    show am_E _ _ _ _ [some (.ref 39), some (.int 0), some (.int 0), some (.int (f 4)), some (.int r152)] [] _ _
                    refine am_e35 hi_213_31 ?_
                    show am_E _ _ _ _ [some (.ref 39), some (.int 0), some (.int (f 4))] [] _ _
                    refine am_e18 hi_212_109 ?_
                    refine am_e35 hi_212_125 ?_
                    show am_E _ _ _ _ [some (.ref 39), some (.int r2), some (.int (f 4)), none] [] _ _
                    refine am_e35 hi_211_249 ?_
                    show am_E _ _ _ _ [some (.ref 39), some (.int 28), some (.int on), some (.int tw)] [] _ _
                    refine am_e18 hi_181_180 ?_
                    refine am_e35 hi_181_397 ?_
                    show am_E _ _ _ _ [some (.ref 39), some (.int 28), some (.int on), some (.int tw), some (.int th)] [] _ _
                    refine am_e35 hi_180_13 ?_
                    have hRc := rj_clear0 hR174_
                    refine ⟨_, _, [], _, rfl, hS169, Or.inr ⟨hRc, rfl, (by show 0 ≤ z53.toInt; omega), (by show z53.toInt ≤ (f 0).toInt; omega), (by show 0 ≤ (f 32).toInt; omega), (by show (f 32).toInt ≤ 63; omega), (by show 1 ≤ (f 53).toInt; omega), (by show (f 53).toInt ≤ 600; omega), (by show 0 ≤ z151.toInt; omega), (by show z151.toInt ≤ 60000; omega), (by show 0 ≤ (f 48).toInt; omega), (by show (f 48).toInt ≤ 8000; omega), (by show 0 ≤ (f 37).toInt; omega), (by show (f 37).toInt ≤ 128; omega), (by show 0 ≤ o13.toInt; omega), (by show o13.toInt ≤ 65000; omega), (by show 0 ≤ (f 19).toInt; omega), (by show (f 19).toInt ≤ 600; omega), (by show 0 ≤ a114.toInt; omega), (by show 0 ≤ (f 8).toInt; omega)⟩⟩
              · subst hv64
                have h66_ : (0 : Int) ≤ a62.toInt := h66
                replace hS65 : MS S0 S52 (upd (upd (upd (upd (upd (upd f 6 a62) 7 b63) 10 0) 62 o13) 68 s14) 75 m15) g'29 := hS65
                have hR175 := rj_clear0 hR34_
                have hR176 : RJ (upd (upd (upd (upd (upd (upd f 6 a62) 7 b63) 10 0) 62 o13) 68 s14) 75 m15) g'29 [] bc [] 0 [] := hR175
                show am_E _ _ _ _ [some (.ref 39), some (.int 0), some (.int (f 4))] [.int 0] _ _
                refine am_e12t hi_212_83 (by decide) ?_
                refine am_e35 hi_212_125 ?_
                show am_E _ _ _ _ [some (.ref 39), some (.int r2), some (.int (f 4)), none] [] _ _
                refine am_e35 hi_211_249 ?_
                show am_E _ _ _ _ [some (.ref 39), some (.int 28), some (.int on), some (.int tw)] [] _ _
                refine am_e18 hi_181_180 ?_
                refine am_e35 hi_181_397 ?_
                show am_E _ _ _ _ [some (.ref 39), some (.int 28), some (.int on), some (.int tw), some (.int th)] [] _ _
                refine am_e35 hi_180_13 ?_
                have hRc := rj_clear0 hR176
                refine ⟨_, _, [], _, rfl, hS65, Or.inr ⟨hRc, rfl, (by show 0 ≤ (f 4).toInt; omega), (by show (f 4).toInt ≤ (f 0).toInt; omega), (by show 0 ≤ (f 32).toInt; omega), (by show (f 32).toInt ≤ 63; omega), (by show 1 ≤ (f 53).toInt; omega), (by show (f 53).toInt ≤ 600; omega), (by show 0 ≤ s14.toInt; omega), (by show s14.toInt ≤ 60000; omega), (by show 0 ≤ (f 48).toInt; omega), (by show (f 48).toInt ≤ 8000; omega), (by show 0 ≤ (f 37).toInt; omega), (by show (f 37).toInt ≤ 128; omega), (by show 0 ≤ o13.toInt; omega), (by show o13.toInt ≤ 65000; omega), (by show 0 ≤ (f 19).toInt; omega), (by show (f 19).toInt ≤ 600; omega), (by show 0 ≤ a62.toInt; omega), (by show 0 ≤ (f 8).toInt; omega)⟩⟩
            · refine am_e13f hi_212_58 (am_cF (m := r45.toInt) (n := (62 : Int)) rfl (by decide) c50) ?_
              refine am_e2 (v := 39) hi_212_61 rfl ?_
              refine am_e0 hi_212_62 ?_
              refine am_e1 (v := 0) hi_212_64 rfl ?_
              refine am_e1 (v := f 4) hi_212_65 rfl ?_
              refine am_e0 hi_212_66 ?_
              refine am_e32n (as := [.ref 39, .int 33, .int 0, .int (f 4), .int 0]) (la := [some (.ref 39), some (.int 33), some (.int 0), some (.int (f 4)), some (.int 0)]) (rest := []) hi_212_67 (am_hd0 (M := 212) (by decide) 67) (Nat.le_of_ble_eq_true rfl) (Nat.le_of_ble_eq_true rfl) (show 5 ≤ am_P0.2.2.1 179 from by decide +kernel) rfl (am_recv_ok hS47.fs) rfl rfl (ct_pile (d := (d + 4)) hS47 hR34_ (mj_e_plain (by decide)) (by show (0 : Int) ≤ z28.toInt; omega) (by show z28.toInt ≤ (65535 : Int); omega)) ?_
              rintro v177 S178 (⟨z179, g'180, hv181, hS182, hR185, h183, h184⟩)
              subst hv181
              have h183_ : z179.toInt = z28.toInt + 1 := h183
              have h184_ : ∀ j, j ∉ [11, 12, 13, 14] → g'180 j = g'29 j := h184
              replace hS182 : MS S0 S178 (upd (upd (upd (upd f 10 z179) 62 o13) 68 s14) 75 m15) g'180 := hS182
              have hR185_ : RJ (upd (upd (upd (upd f 10 z179) 62 o13) 68 s14) 75 m15) g'180 (((33 : Int), (0 : Int), (f 4).toInt, (0 : Int), []) :: (((28 : Int), (0 : Int), (0 : Int), (0 : Int), []) :: gs)) bc [] 0 [] := hR185
              show am_E _ _ _ _ [some (.ref 39), some (.int 0), some (.int (f 4))] [] _ _
              refine am_e2 (v := 39) hi_212_70 rfl ?_
              refine am_e32w (as := [.ref 39]) (la := [some (.ref 39), none]) (rest := []) hi_212_71 (am_hd0 (M := 212) (by decide) 71) (Nat.le_of_ble_eq_true rfl) (Nat.le_of_ble_eq_true rfl) (show 1 ≤ am_P0.2.2.1 192 from by decide +kernel) rfl (am_recv_ok hS182.fs) rfl rfl ?_
              refine am_e2 (v := 39) hi_192_0 rfl ?_
              refine mm_20 (v := .int (f 4)) hS182 hi_192_1 rfl ?_
              refine am_e3 (ls' := [some (.ref 39), some (.int (f 4))]) hi_192_4 (Nat.le_of_ble_eq_true rfl) rfl ?_
              refine am_e2 (v := 39) hi_192_5 rfl ?_
              refine am_e0 hi_192_6 ?_
              refine am_e32n (as := [.ref 39, .int 62]) (la := [some (.ref 39), some (.int 62)]) (rest := []) hi_192_8 (am_hd0 (M := 192) (by decide) 8) (Nat.le_of_ble_eq_true rfl) (Nat.le_of_ble_eq_true rfl) (show 2 ≤ am_P0.2.2.1 193 from by decide +kernel) rfl (am_recv_ok hS182.fs) rfl rfl (ct_enter (d := (d + 1)) hS182   (by show (0 : Int) ≤ (f 4).toInt; omega) (by show (f 0).toInt ≤ (16384 : Int); omega) (by show (0 : Int) ≤ (62 : Int); omega) (by show (0 : Int) ≤ (f 5).toInt; omega) (by show (f 5).toInt ≤ (48 : Int); omega) (by show (0 : Int) ≤ (f 6).toInt; omega)) ?_
              rintro v186 S187 (⟨z188, y189, hv190, hS191, h192, h193, h194, h195⟩ | ⟨a197, b198, hv199, hS200, h201⟩)
              · subst hv190
                have h192_ : z188.toInt = (f 4).toInt + 1 := h192
                have h193_ : (f 4).toInt < (f 0).toInt := h193
                have h194_ : y189.toInt = (f 5).toInt + 1 := h194
                have h195_ : y189.toInt ≤ (48 : Int) := h195
                replace hS191 : MS S0 S187 (upd (upd (upd (upd (upd (upd f 4 z188) 5 y189) 10 z179) 62 o13) 68 s14) 75 m15) g'180 := hS191
                have hR203 : RJ (upd (upd (upd (upd (upd (upd f 4 z188) 5 y189) 10 z179) 62 o13) 68 s14) 75 m15) g'180 (((33 : Int), (0 : Int), (f 4).toInt, (0 : Int), []) :: (((28 : Int), (0 : Int), (0 : Int), (0 : Int), []) :: gs)) bc [] 0 [] := RJ.at hR185_ (by show (f 4).toInt ≤ z188.toInt; omega)
                show am_E _ _ _ _ [some (.ref 39), some (.int (f 4))] [.int 1] _ _
                refine am_e12t hi_192_11 (by decide) ?_
                refine am_e2 (v := 39) hi_192_15 rfl ?_
                refine am_e0 hi_192_16 ?_
                refine am_e0 hi_192_18 ?_
                refine am_e0 hi_192_19 ?_
                refine am_e1 (v := f 4) hi_192_20 rfl ?_
                refine am_e32n (as := [.ref 39, .int 20, .int 0, .int 0, .int (f 4)]) (la := [some (.ref 39), some (.int 20), some (.int 0), some (.int 0), some (.int (f 4))]) (rest := []) hi_192_21 (am_hd0 (M := 192) (by decide) 21) (Nat.le_of_ble_eq_true rfl) (Nat.le_of_ble_eq_true rfl) (show 5 ≤ am_P0.2.2.1 189 from by decide +kernel) rfl (am_recv_ok hS191.fs) rfl rfl (ct_put (d := (d + 3)) hS191 hR203  (by show (0 : Int) ≤ (f 32).toInt; omega) (by show (f 32).toInt ≤ (63 : Int); omega) (by show (f 53).toInt ≤ (4096 : Int); omega) (by show (0 : Int) ≤ s14.toInt; omega) (by show s14.toInt ≤ (65534 : Int); omega)) ?_
                rintro v204 S205 (⟨z206, r207, g'208, hv209, hS210, hR214, h211, h212, h213⟩)
                subst hv209
                have h211_ : z206.toInt = s14.toInt + 1 := h211
                have h212_ : r207.toInt = s14.toInt := h212
                have h213_ : ∀ j, j ∉ [60, 69, 70, 71, 72, 73] → g'208 j = g'180 j := h213
                replace hS210 : MS S0 S205 (upd (upd (upd (upd (upd (upd f 4 z188) 5 y189) 10 z179) 62 o13) 68 z206) 75 m15) g'208 := hS210
                have hR214_ : RJ (upd (upd (upd (upd (upd (upd f 4 z188) 5 y189) 10 z179) 62 o13) 68 z206) 75 m15) g'208 (((33 : Int), (0 : Int), (f 4).toInt, (0 : Int), []) :: (((28 : Int), (0 : Int), (0 : Int), (0 : Int), []) :: gs)) bc [] 0 (s14.toNatClampNeg :: []) := hR214
                show am_E _ _ _ _ [some (.ref 39), some (.int (f 4))] [.int r207] _ _
                refine am_e6i hi_192_24 ?_
                refine am_e2 (v := 39) hi_192_25 rfl ?_
                refine am_e0 hi_192_26 ?_
                refine am_e0 hi_192_27 ?_
                refine am_e0 hi_192_28 ?_
                refine am_e32n (as := [.ref 39, .int 0, .int 0, .int 0]) (la := [some (.ref 39), some (.int 0), some (.int 0), some (.int 0)]) (rest := []) hi_192_29 (am_hd0 (M := 192) (by decide) 29) (Nat.le_of_ble_eq_true rfl) (Nat.le_of_ble_eq_true rfl) (show 4 ≤ am_P0.2.2.1 190 from by decide +kernel) rfl (am_recv_ok hS210.fs) rfl rfl (ct_value (d := (d + 3)) hS210 hR214_ (fun h => absurd h (by decide)) (fun h => absurd h (by decide)) (by show (0 : Int) ≤ (f 15).toInt; omega) (by show (f 15).toInt ≤ (32767 : Int); omega)) ?_
                rintro v215 S216 (⟨z217, g'218, hv219, hS220, hR225, h221, h222, h223, h224⟩)
                subst hv219
                have h221_ : z217.toInt = (f 15).toInt + 1 := h221
                have h222_ : ∀ j, j ∉ [16, 17, 18] → g'218 j = g'208 j := h222
                have h223_ : mj_n (g'218 16) z217.toNatClampNeg 3 ≤ mj_n (g'16 16) (f 15).toNatClampNeg 3 + 1 := by rw [show g'208 16 = g'180 16 from h213_ 16 (by decide), show g'180 16 = g'29 16 from h184_ 16 (by decide), show g'29 16 = g'16 16 from h33_ 16 (by decide)] at h223; exact h223
                have h224_ : (0 : Int) = 3 ∨ mj_n (g'218 16) z217.toNatClampNeg 3 ≤ mj_n (g'16 16) (f 15).toNatClampNeg 3 := by rw [show g'208 16 = g'180 16 from h213_ 16 (by decide), show g'180 16 = g'29 16 from h184_ 16 (by decide), show g'29 16 = g'16 16 from h33_ 16 (by decide)] at h224; exact h224
                replace hS220 : MS S0 S216 (upd (upd (upd (upd (upd (upd (upd f 4 z188) 5 y189) 10 z179) 15 z217) 62 o13) 68 z206) 75 m15) g'218 := hS220
                have hR225_ : RJ (upd (upd (upd (upd (upd (upd (upd f 4 z188) 5 y189) 10 z179) 15 z217) 62 o13) 68 z206) 75 m15) g'218 (((33 : Int), (0 : Int), (f 4).toInt, (0 : Int), []) :: (((28 : Int), (0 : Int), (0 : Int), (0 : Int), []) :: gs)) bc [] 0 (s14.toNatClampNeg :: []) := hR225
                show am_E _ _ _ _ [some (.ref 39), some (.int (f 4))] [] _ _
                refine am_e2 (v := 39) hi_192_32 rfl ?_
                refine am_e0 hi_192_33 ?_
                refine am_e0 hi_192_35 ?_
                refine am_e0 hi_192_36 ?_
                refine am_e0 hi_192_37 ?_
                refine am_e32n (as := [.ref 39, .int 35, .int 0, .int 0, .int 0]) (la := [some (.ref 39), some (.int 35), some (.int 0), some (.int 0), some (.int 0)]) (rest := []) hi_192_38 (am_hd0 (M := 192) (by decide) 38) (Nat.le_of_ble_eq_true rfl) (Nat.le_of_ble_eq_true rfl) (show 5 ≤ am_P0.2.2.1 179 from by decide +kernel) rfl (am_recv_ok hS220.fs) rfl rfl (ct_pile (d := (d + 3)) hS220 hR225_ (mj_e_plain (by decide)) (by show (0 : Int) ≤ z179.toInt; omega) (by show z179.toInt ≤ (65535 : Int); omega)) ?_
                rintro v226 S227 (⟨z228, g'229, hv230, hS231, hR234, h232, h233⟩)
                subst hv230
                have h232_ : z228.toInt = z179.toInt + 1 := h232
                have h233_ : ∀ j, j ∉ [11, 12, 13, 14] → g'229 j = g'218 j := h233
                replace hS231 : MS S0 S227 (upd (upd (upd (upd (upd (upd (upd f 4 z188) 5 y189) 10 z228) 15 z217) 62 o13) 68 z206) 75 m15) g'229 := hS231
                have hR234_ : RJ (upd (upd (upd (upd (upd (upd (upd f 4 z188) 5 y189) 10 z228) 15 z217) 62 o13) 68 z206) 75 m15) g'229 (((35 : Int), (0 : Int), (0 : Int), (0 : Int), []) :: (((33 : Int), (0 : Int), (f 4).toInt, (0 : Int), []) :: (((28 : Int), (0 : Int), (0 : Int), (0 : Int), []) :: gs))) bc [] 0 (s14.toNatClampNeg :: []) := hR234
                show am_E _ _ _ _ [some (.ref 39), some (.int (f 4))] [] _ _
                refine am_e35 hi_192_41 ?_
                show am_E _ _ _ _ [some (.ref 39), some (.int 0), some (.int (f 4))] [] _ _
                refine am_e18 hi_212_74 ?_
                refine am_e35 hi_212_125 ?_
                show am_E _ _ _ _ [some (.ref 39), some (.int r2), some (.int (f 4)), none] [] _ _
                refine am_e35 hi_211_249 ?_
                show am_E _ _ _ _ [some (.ref 39), some (.int 28), some (.int on), some (.int tw)] [] _ _
                refine am_e18 hi_181_180 ?_
                refine am_e35 hi_181_397 ?_
                show am_E _ _ _ _ [some (.ref 39), some (.int 28), some (.int on), some (.int tw), some (.int th)] [] _ _
                refine am_e35 hi_180_13 ?_
                have q1 : mg_p1 (((35 : Int), (0 : Int), (0 : Int), (0 : Int), []) :: (((33 : Int), (0 : Int), (f 4).toInt, (0 : Int), []) :: (((28 : Int), (0 : Int), (0 : Int), (0 : Int), []) :: gs))) = 0 + (0 + (0 + (mg_p1 gs))) := rfl
                have q2 : mg_p2 (((35 : Int), (0 : Int), (0 : Int), (0 : Int), []) :: (((33 : Int), (0 : Int), (f 4).toInt, (0 : Int), []) :: (((28 : Int), (0 : Int), (0 : Int), (0 : Int), []) :: gs))) = 0 + (0 + (0 + (mg_p2 gs))) := rfl
                have q3 : mg_p3 (((35 : Int), (0 : Int), (0 : Int), (0 : Int), []) :: (((33 : Int), (0 : Int), (f 4).toInt, (0 : Int), []) :: (((28 : Int), (0 : Int), (0 : Int), (0 : Int), []) :: gs))) = 3 + (1 + (1 + (mg_p3 gs))) := rfl
                have q4 : mg_p4 (((35 : Int), (0 : Int), (0 : Int), (0 : Int), []) :: (((33 : Int), (0 : Int), (f 4).toInt, (0 : Int), []) :: (((28 : Int), (0 : Int), (0 : Int), (0 : Int), []) :: gs))) = 0 + (3 + (0 + (mg_p4 gs))) := rfl
                refine ⟨_, _, _, bc, rfl, hS231, Or.inl ⟨⟨(RJ.fewer (pj' := []) hR234_ (fun _ h => nomatch h)), ?_, ?_⟩, rfl, ?_⟩⟩
                · exact (⟨⟨(show mg_k 35 from by decide), (show (0 : Int) ≤ z217.toInt from by omega), (show 0 ≤ (f 20).toInt from by omega), (show 1 ≤ (f 37).toInt from by omega), (show 0 ≤ (f 32).toInt from by omega), (show (f 32).toInt ≤ y189.toInt from by omega), (show y189.toInt ≤ 48 from by omega), (show (f 37).toInt ≤ 2 * (y189.toInt) + 2 from by omega), trivial⟩, ⟨⟨(show mg_k 33 from by decide), (show (2 : Int) ≤ z217.toInt + 0 from by omega), (show 0 ≤ (f 20).toInt from by omega), (show 1 ≤ (f 37).toInt + 0 from by omega), (show 0 ≤ (f 32).toInt + 0 from by omega), (show (f 32).toInt + 0 ≤ y189.toInt + -1 from by omega), (show y189.toInt + -1 ≤ 48 from by omega), (show (f 37).toInt + 0 ≤ 2 * (y189.toInt + -1) + 2 from by omega), trivial⟩, ⟨⟨(show mg_k 28 from by decide), (show (1 : Int) ≤ z217.toInt + 0 + -1 from by omega), (show 0 ≤ (f 20).toInt from by omega), (show 1 ≤ (f 37).toInt + 0 + 0 from by omega), (show 0 ≤ (f 32).toInt + 0 + 0 from by omega), (show (f 32).toInt + 0 + 0 ≤ y189.toInt + -1 + 0 from by omega), (show y189.toInt + -1 + 0 ≤ 48 from by omega), (show (f 37).toInt + 0 + 0 ≤ 2 * (y189.toInt + -1 + 0) + 2 from by omega), trivial⟩, mg_cast (mg_good_ext _ _ _ _ _ _ (fun i _ => by show g'229 34 i = g 34 i; rw [show g'229 34 = g'218 34 from h233_ 34 (by decide), show g'218 34 = g'208 34 from h222_ 34 (by decide), show g'208 34 = g'180 34 from h213_ 34 (by decide), show g'180 34 = g'29 34 from h184_ 34 (by decide), show g'29 34 = g'16 34 from h33_ 34 (by decide), show g'16 34 = g 34 from h24_ 34 (by decide)]) (fun i _ => by show g'229 38 i = g 38 i; rw [show g'229 38 = g'218 38 from h233_ 38 (by decide), show g'218 38 = g'208 38 from h222_ 38 (by decide), show g'208 38 = g'180 38 from h213_ 38 (by decide), show g'180 38 = g'29 38 from h184_ 38 (by decide), show g'29 38 = g'16 38 from h33_ 38 (by decide), show g'16 38 = g 38 from h24_ 38 (by decide)]) (fun i _ => by show g'229 23 i = g 23 i; rw [show g'229 23 = g'218 23 from h233_ 23 (by decide), show g'218 23 = g'208 23 from h222_ 23 (by decide), show g'208 23 = g'180 23 from h213_ 23 (by decide), show g'180 23 = g'29 23 from h184_ 23 (by decide), show g'29 23 = g'16 23 from h33_ 23 (by decide), show g'16 23 = g 23 from h24_ 23 (by decide)]) hrest) (by show (f 15).toInt + 0 = z217.toInt + 0 + -1 + 0; omega) (by show (f 20).toInt = (f 20).toInt; omega) (by show (f 37).toInt + 0 = (f 37).toInt + 0 + 0 + 0; omega) (by show (f 32).toInt + 0 = (f 32).toInt + 0 + 0 + 0; omega) (by show (f 5).toInt + 0 = y189.toInt + -1 + 0 + 0; omega)⟩⟩⟩ : mg_good (g'229 34) (g'229 38) (g'229 23) (((35 : Int), (0 : Int), (0 : Int), (0 : Int), []) :: (((33 : Int), (0 : Int), (f 4).toInt, (0 : Int), []) :: (((28 : Int), (0 : Int), (0 : Int), (0 : Int), []) :: gs))) (z217.toInt) ((f 20).toInt) ((f 37).toInt) ((f 32).toInt) (y189.toInt))
                · exact ⟨(by show 0 ≤ z188.toInt; omega), (by show z188.toInt ≤ (f 0).toInt; omega), (by show (f 0).toInt ≤ 512; omega), (by show 0 ≤ (f 24).toInt; omega), (by show (f 24).toInt + (f 20).toInt + mg_p1 (((35 : Int), (0 : Int), (0 : Int), (0 : Int), []) :: (((33 : Int), (0 : Int), (f 4).toInt, (0 : Int), []) :: (((28 : Int), (0 : Int), (0 : Int), (0 : Int), []) :: gs))) ≤ 4 * z188.toInt; omega), (by show (f 20).toInt ≤ z188.toInt; omega), (by show z217.toInt + mg_p2 (((35 : Int), (0 : Int), (0 : Int), (0 : Int), []) :: (((33 : Int), (0 : Int), (f 4).toInt, (0 : Int), []) :: (((28 : Int), (0 : Int), (0 : Int), (0 : Int), []) :: gs))) ≤ z188.toInt; omega), (by show mg_p3 (((35 : Int), (0 : Int), (0 : Int), (0 : Int), []) :: (((33 : Int), (0 : Int), (f 4).toInt, (0 : Int), []) :: (((28 : Int), (0 : Int), (0 : Int), (0 : Int), []) :: gs))) ≤ 20 * z188.toInt + 20; omega), (by show 0 ≤ z206.toInt; omega), (by show z206.toInt + 3 * (f 20).toInt + mg_p4 (((35 : Int), (0 : Int), (0 : Int), (0 : Int), []) :: (((33 : Int), (0 : Int), (f 4).toInt, (0 : Int), []) :: (((28 : Int), (0 : Int), (0 : Int), (0 : Int), []) :: gs))) ≤ 60 * z188.toInt + 60; omega), (by show 0 ≤ o13.toInt; omega), (by show o13.toInt + 64 * mj_n (g'229 16) z217.toNatClampNeg 3 ≤ 64 * z188.toInt; rw [show g'229 16 = g'218 16 from h233_ 16 (by decide)]; omega), (by show 0 ≤ (f 44).toInt; omega), (by show (f 44).toInt ≤ z188.toInt; omega), (by show 0 ≤ (f 48).toInt; omega), (by show (f 48).toInt ≤ z188.toInt; omega), (by show 1 ≤ (f 53).toInt; omega), (by show (f 53).toInt ≤ z188.toInt + 1; omega), (by show 0 ≤ (f 19).toInt; omega), (by show (f 19).toInt ≤ 600; omega), (by show 0 ≤ (f 6).toInt; omega), (by show 0 ≤ (f 8).toInt; omega)⟩
                · show 100 * ((f 0).toInt - z188.toInt) + mg_p3 (((35 : Int), (0 : Int), (0 : Int), (0 : Int), []) :: (((33 : Int), (0 : Int), (f 4).toInt, (0 : Int), []) :: (((28 : Int), (0 : Int), (0 : Int), (0 : Int), []) :: gs))) < 100 * ((f 0).toInt - (f 4).toInt) + (1 + mg_p3 gs); omega
              · subst hv199
                have h201_ : (0 : Int) ≤ a197.toInt := h201
                replace hS200 : MS S0 S187 (upd (upd (upd (upd (upd (upd f 6 a197) 7 b198) 10 0) 62 o13) 68 s14) 75 m15) g'180 := hS200
                have hR235 := rj_clear0 hR185_
                have hR236 : RJ (upd (upd (upd (upd (upd (upd f 6 a197) 7 b198) 10 0) 62 o13) 68 s14) 75 m15) g'180 [] bc [] 0 [] := hR235
                show am_E _ _ _ _ [some (.ref 39), some (.int (f 4))] [.int 0] _ _
                refine am_e12f hi_192_11 (by decide) ?_
                refine am_e35 hi_192_14 ?_
                show am_E _ _ _ _ [some (.ref 39), some (.int 0), some (.int (f 4))] [] _ _
                refine am_e18 hi_212_74 ?_
                refine am_e35 hi_212_125 ?_
                show am_E _ _ _ _ [some (.ref 39), some (.int r2), some (.int (f 4)), none] [] _ _
                refine am_e35 hi_211_249 ?_
                show am_E _ _ _ _ [some (.ref 39), some (.int 28), some (.int on), some (.int tw)] [] _ _
                refine am_e18 hi_181_180 ?_
                refine am_e35 hi_181_397 ?_
                show am_E _ _ _ _ [some (.ref 39), some (.int 28), some (.int on), some (.int tw), some (.int th)] [] _ _
                refine am_e35 hi_180_13 ?_
                have hRc := rj_clear0 hR236
                refine ⟨_, _, [], _, rfl, hS200, Or.inr ⟨hRc, rfl, (by show 0 ≤ (f 4).toInt; omega), (by show (f 4).toInt ≤ (f 0).toInt; omega), (by show 0 ≤ (f 32).toInt; omega), (by show (f 32).toInt ≤ 63; omega), (by show 1 ≤ (f 53).toInt; omega), (by show (f 53).toInt ≤ 600; omega), (by show 0 ≤ s14.toInt; omega), (by show s14.toInt ≤ 60000; omega), (by show 0 ≤ (f 48).toInt; omega), (by show (f 48).toInt ≤ 8000; omega), (by show 0 ≤ (f 37).toInt; omega), (by show (f 37).toInt ≤ 128; omega), (by show 0 ≤ o13.toInt; omega), (by show o13.toInt ≤ 65000; omega), (by show 0 ≤ (f 19).toInt; omega), (by show (f 19).toInt ≤ 600; omega), (by show 0 ≤ a197.toInt; omega), (by show 0 ≤ (f 8).toInt; omega)⟩⟩
          · refine am_e13f hi_212_10 (am_cF (m := r37.toInt) (n := (3 : Int)) rfl (by decide) c42) ?_
            refine am_e2 (v := 39) hi_212_13 rfl ?_
            refine am_e0 hi_212_14 ?_
            refine am_e2 (v := 39) hi_212_15 rfl ?_
            refine mm_20 (v := .ref 41) hS39 hi_212_16 rfl ?_
            refine am_e2 (v := 39) hi_212_19 rfl ?_
            refine mm_20 (v := .int (f 4)) hS39 hi_212_20 rfl ?_
            refine mm_25 hS39 ma_2 hi_212_23 (by decide) (by omega) (by omega) ?_
            show am_E _ _ _ _ _ (.int (g'29 2 (f 4).toNatClampNeg) :: _) _ _
            rw [show g'29 2 = g'16 2 from h33_ 2 (by decide), show g'16 2 = g 2 from h24_ 2 (by decide)]
            show am_E _ _ _ _ [some (.ref 39), some (.int 0), some (.int (f 4))] [.int (g 2 (f 4).toNatClampNeg), .int 5, .ref 39] _ _
            refine am_e0 hi_212_24 ?_
            refine am_e0 hi_212_25 ?_
            refine am_e32n (as := [.ref 39, .int 5, .int (g 2 (f 4).toNatClampNeg), .int 0, .int 0]) (la := [some (.ref 39), some (.int 5), some (.int (g 2 (f 4).toNatClampNeg)), some (.int 0), some (.int 0)]) (rest := []) hi_212_26 (am_hd0 (M := 212) (by decide) 26) (Nat.le_of_ble_eq_true rfl) (Nat.le_of_ble_eq_true rfl) (show 5 ≤ am_P0.2.2.1 189 from by decide +kernel) rfl (am_recv_ok hS39.fs) rfl rfl (ct_put (d := (d + 4)) hS39 hR34_  (by show (0 : Int) ≤ (f 32).toInt; omega) (by show (f 32).toInt ≤ (63 : Int); omega) (by show (f 53).toInt ≤ (4096 : Int); omega) (by show (0 : Int) ≤ s14.toInt; omega) (by show s14.toInt ≤ (65534 : Int); omega)) ?_
            rintro v237 S238 (⟨z239, r240, g'241, hv242, hS243, hR247, h244, h245, h246⟩)
            subst hv242
            have h244_ : z239.toInt = s14.toInt + 1 := h244
            have h245_ : r240.toInt = s14.toInt := h245
            have h246_ : ∀ j, j ∉ [60, 69, 70, 71, 72, 73] → g'241 j = g'29 j := h246
            replace hS243 : MS S0 S238 (upd (upd (upd (upd f 10 z28) 62 o13) 68 z239) 75 m15) g'241 := hS243
            have hR247_ : RJ (upd (upd (upd (upd f 10 z28) 62 o13) 68 z239) 75 m15) g'241 (((28 : Int), (0 : Int), (0 : Int), (0 : Int), []) :: gs) bc [] 0 (s14.toNatClampNeg :: []) := hR247
            show am_E _ _ _ _ [some (.ref 39), some (.int 0), some (.int (f 4))] [.int r240] _ _
            refine am_e6i hi_212_29 ?_
            refine am_e2 (v := 39) hi_212_30 rfl ?_
            refine am_e7 hi_212_31 ?_
            refine mm_20 (v := .int (f 4)) hS243 hi_212_32 rfl ?_
            refine am_e0 hi_212_35 ?_
            obtain ⟨z248, hz248, tz248⟩ := am_addI (x := f 4) (y := 1) (m := (f 4).toInt) (n := (1 : Int)) rfl (by decide) (by omega) (by omega)
            refine am_e10 (z := z248) hi_212_36 hz248 ?_
            refine mm_21 (v := z248) hS243 hi_212_37 rfl (Nat.le_of_ble_eq_true rfl) ms_4 ?_
            intro S249 hS250
            replace hS250 : MS S0 S249 (upd (upd (upd (upd (upd f 4 z248) 10 z28) 62 o13) 68 z239) 75 m15) g'241 := hS250
            have hR251 : RJ (upd (upd (upd (upd (upd f 4 z248) 10 z28) 62 o13) 68 z239) 75 m15) g'241 (((28 : Int), (0 : Int), (0 : Int), (0 : Int), []) :: gs) bc [] 0 (s14.toNatClampNeg :: []) := RJ.at hR247_ (by show (f 4).toInt ≤ z248.toInt; omega)
            refine am_e2 (v := 39) hi_212_40 rfl ?_
            refine am_e0 hi_212_41 ?_
            refine am_e1 (v := 0) hi_212_42 rfl ?_
            refine am_e10 (z := 1) hi_212_43 (by decide) ?_
            refine am_e0 hi_212_44 ?_
            refine am_e1 (v := f 4) hi_212_45 rfl ?_
            refine am_e32w (as := [.ref 39, .int 1, .int 0, .int (f 4)]) (la := [some (.ref 39), some (.int 1), some (.int 0), some (.int (f 4)), none]) (rest := []) hi_212_46 (am_hd0 (M := 212) (by decide) 46) (Nat.le_of_ble_eq_true rfl) (Nat.le_of_ble_eq_true rfl) (show 4 ≤ am_P0.2.2.1 213 from by decide +kernel) rfl (am_recv_ok hS250.fs) rfl rfl ?_
            refine am_e2 (v := 39) hi_213_0 rfl ?_
            refine am_e0 hi_213_1 ?_
            refine am_e1 (v := 1) hi_213_3 rfl ?_
            refine am_e1 (v := 0) hi_213_4 rfl ?_
            refine am_e0 hi_213_5 ?_
            refine am_e10 (z := 2) hi_213_6 (by decide) ?_
            refine am_e1 (v := f 4) hi_213_7 rfl ?_
            refine am_e32n (as := [.ref 39, .int 13, .int 1, .int 2, .int (f 4)]) (la := [some (.ref 39), some (.int 13), some (.int 1), some (.int 2), some (.int (f 4))]) (rest := []) hi_213_8 (am_hd0 (M := 213) (by decide) 8) (Nat.le_of_ble_eq_true rfl) (Nat.le_of_ble_eq_true rfl) (show 5 ≤ am_P0.2.2.1 189 from by decide +kernel) rfl (am_recv_ok hS250.fs) rfl rfl (ct_put (d := (d + 3)) hS250 hR251  (by show (0 : Int) ≤ (f 32).toInt; omega) (by show (f 32).toInt ≤ (63 : Int); omega) (by show (f 53).toInt ≤ (4096 : Int); omega) (by show (0 : Int) ≤ z239.toInt; omega) (by show z239.toInt ≤ (65534 : Int); omega)) ?_
            rintro v252 S253 (⟨z254, r255, g'256, hv257, hS258, hR262, h259, h260, h261⟩)
            subst hv257
            have h259_ : z254.toInt = z239.toInt + 1 := h259
            have h260_ : r255.toInt = z239.toInt := h260
            have h261_ : ∀ j, j ∉ [60, 69, 70, 71, 72, 73] → g'256 j = g'241 j := h261
            replace hS258 : MS S0 S253 (upd (upd (upd (upd (upd f 4 z248) 10 z28) 62 o13) 68 z254) 75 m15) g'256 := hS258
            have hR262_ : RJ (upd (upd (upd (upd (upd f 4 z248) 10 z28) 62 o13) 68 z254) 75 m15) g'256 (((28 : Int), (0 : Int), (0 : Int), (0 : Int), []) :: gs) bc [] 0 (z239.toNatClampNeg :: (s14.toNatClampNeg :: [])) := hR262
            show am_E _ _ _ _ [some (.ref 39), some (.int 1), some (.int 0), some (.int (f 4)), none] [.int r255] _ _
            refine am_e3 (ls' := [some (.ref 39), some (.int 1), some (.int 0), some (.int (f 4)), some (.int r255)]) hi_213_11 (Nat.le_of_ble_eq_true rfl) rfl ?_
            refine am_e2 (v := 39) hi_213_13 rfl ?_
            refine am_e7 hi_213_14 ?_
            refine mm_20 (v := .int (f 15)) hS258 hi_213_15 rfl ?_
            refine am_e0 hi_213_18 ?_
            obtain ⟨z263, hz263, tz263⟩ := am_subI (x := f 15) (y := 1) (m := (f 15).toInt) (n := (1 : Int)) rfl (by decide) (by omega) (by omega)
            refine am_e10 (z := z263) hi_213_19 hz263 ?_
            refine mm_21 (v := z263) hS258 hi_213_20 rfl (Nat.le_of_ble_eq_true rfl) ms_15 ?_
            intro S264 hS265
            replace hS265 : MS S0 S264 (upd (upd (upd (upd (upd (upd f 4 z248) 10 z28) 15 z263) 62 o13) 68 z254) 75 m15) g'256 := hS265
            have hp266 : mj_n (g'16 16) (f 15).toNatClampNeg 3 = mj_n (g'16 16) z263.toNatClampNeg 3 + if (g'16 16 z263.toNatClampNeg).toInt = 3 then 1 else 0 := mj_pop (by rw [cl_toNat, cl_toNat]; omega)
            have hp2661 : mj_n (g'16 16) z263.toNatClampNeg 3 ≤ mj_n (g'16 16) (f 15).toNatClampNeg 3 := by rw [hp266]; split <;> omega
            have hp2662 : (g'16 16 z263.toNatClampNeg).toInt = 3 → mj_n (g'16 16) z263.toNatClampNeg 3 + 1 ≤ mj_n (g'16 16) (f 15).toNatClampNeg 3 := fun q => by rw [hp266, if_pos q]; exact Int.le_refl _
            refine am_e2 (v := 39) hi_213_23 rfl ?_
            refine am_e0 hi_213_24 ?_
            refine am_e1 (v := r255) hi_213_25 rfl ?_
            refine am_e1 (v := f 4) hi_213_27 rfl ?_
            refine am_e32n (as := [.ref 39, .int 1, .int r255, .int (f 4)]) (la := [some (.ref 39), some (.int 1), some (.int r255), some (.int (f 4))]) (rest := []) hi_213_28 (am_hd0 (M := 213) (by decide) 28) (Nat.le_of_ble_eq_true rfl) (Nat.le_of_ble_eq_true rfl) (show 4 ≤ am_P0.2.2.1 190 from by decide +kernel) rfl (am_recv_ok hS265.fs) rfl rfl (ct_value (d := (d + 3)) hS265 hR262_ (fun h => absurd h (by decide)) (fun _ => ⟨by omega, by omega⟩) (by show (0 : Int) ≤ z263.toInt; omega) (by show z263.toInt ≤ (32767 : Int); omega)) ?_
            rintro v267 S268 (⟨z269, g'270, hv271, hS272, hR277, h273, h274, h275, h276⟩)
            subst hv271
            have h273_ : z269.toInt = z263.toInt + 1 := h273
            have h274_ : ∀ j, j ∉ [16, 17, 18] → g'270 j = g'256 j := h274
            have h275_ : mj_n (g'270 16) z269.toNatClampNeg 3 ≤ mj_n (g'16 16) z263.toNatClampNeg 3 + 1 := by rw [show g'256 16 = g'241 16 from h261_ 16 (by decide), show g'241 16 = g'29 16 from h246_ 16 (by decide), show g'29 16 = g'16 16 from h33_ 16 (by decide)] at h275; exact h275
            have h276_ : (1 : Int) = 3 ∨ mj_n (g'270 16) z269.toNatClampNeg 3 ≤ mj_n (g'16 16) z263.toNatClampNeg 3 := by rw [show g'256 16 = g'241 16 from h261_ 16 (by decide), show g'241 16 = g'29 16 from h246_ 16 (by decide), show g'29 16 = g'16 16 from h33_ 16 (by decide)] at h276; exact h276
            replace hS272 : MS S0 S268 (upd (upd (upd (upd (upd (upd f 4 z248) 10 z28) 15 z269) 62 o13) 68 z254) 75 m15) g'270 := hS272
            have hR277_ : RJ (upd (upd (upd (upd (upd (upd f 4 z248) 10 z28) 15 z269) 62 o13) 68 z254) 75 m15) g'270 (((28 : Int), (0 : Int), (0 : Int), (0 : Int), []) :: gs) bc [] 0 (z239.toNatClampNeg :: (s14.toNatClampNeg :: [])) := hR277
            show am_E _ _ _ _ [some (.ref 39), some (.int 1), some (.int 0), some (.int (f 4)), some (.int r255)] [] _ _
            refine am_e35 hi_213_31 ?_
            show am_E _ _ _ _ [some (.ref 39), some (.int 0), some (.int (f 4))] [] _ _
            refine am_e18 hi_212_49 ?_
            refine am_e35 hi_212_125 ?_
            show am_E _ _ _ _ [some (.ref 39), some (.int r2), some (.int (f 4)), none] [] _ _
            refine am_e35 hi_211_249 ?_
            show am_E _ _ _ _ [some (.ref 39), some (.int 28), some (.int on), some (.int tw)] [] _ _
            refine am_e18 hi_181_180 ?_
            refine am_e35 hi_181_397 ?_
            show am_E _ _ _ _ [some (.ref 39), some (.int 28), some (.int on), some (.int tw), some (.int th)] [] _ _
            refine am_e35 hi_180_13 ?_
            have q1 : mg_p1 (((28 : Int), (0 : Int), (0 : Int), (0 : Int), []) :: gs) = 0 + (mg_p1 gs) := rfl
            have q2 : mg_p2 (((28 : Int), (0 : Int), (0 : Int), (0 : Int), []) :: gs) = 0 + (mg_p2 gs) := rfl
            have q3 : mg_p3 (((28 : Int), (0 : Int), (0 : Int), (0 : Int), []) :: gs) = 1 + (mg_p3 gs) := rfl
            have q4 : mg_p4 (((28 : Int), (0 : Int), (0 : Int), (0 : Int), []) :: gs) = 0 + (mg_p4 gs) := rfl
            refine ⟨_, _, _, bc, rfl, hS272, Or.inl ⟨⟨(RJ.fewer (pj' := []) hR277_ (fun _ h => nomatch h)), ?_, ?_⟩, rfl, ?_⟩⟩
            · exact (⟨⟨(show mg_k 28 from by decide), (show (1 : Int) ≤ z269.toInt from by omega), (show 0 ≤ (f 20).toInt from by omega), (show 1 ≤ (f 37).toInt from by omega), (show 0 ≤ (f 32).toInt from by omega), (show (f 32).toInt ≤ (f 5).toInt from by omega), (show (f 5).toInt ≤ 48 from by omega), (show (f 37).toInt ≤ 2 * ((f 5).toInt) + 2 from by omega), trivial⟩, mg_cast (mg_good_ext _ _ _ _ _ _ (fun i _ => by show g'270 34 i = g 34 i; rw [show g'270 34 = g'256 34 from h274_ 34 (by decide), show g'256 34 = g'241 34 from h261_ 34 (by decide), show g'241 34 = g'29 34 from h246_ 34 (by decide), show g'29 34 = g'16 34 from h33_ 34 (by decide), show g'16 34 = g 34 from h24_ 34 (by decide)]) (fun i _ => by show g'270 38 i = g 38 i; rw [show g'270 38 = g'256 38 from h274_ 38 (by decide), show g'256 38 = g'241 38 from h261_ 38 (by decide), show g'241 38 = g'29 38 from h246_ 38 (by decide), show g'29 38 = g'16 38 from h33_ 38 (by decide), show g'16 38 = g 38 from h24_ 38 (by decide)]) (fun i _ => by show g'270 23 i = g 23 i; rw [show g'270 23 = g'256 23 from h274_ 23 (by decide), show g'256 23 = g'241 23 from h261_ 23 (by decide), show g'241 23 = g'29 23 from h246_ 23 (by decide), show g'29 23 = g'16 23 from h33_ 23 (by decide), show g'16 23 = g 23 from h24_ 23 (by decide)]) hrest) (by show (f 15).toInt + 0 = z269.toInt + 0; omega) (by show (f 20).toInt = (f 20).toInt; omega) (by show (f 37).toInt + 0 = (f 37).toInt + 0; omega) (by show (f 32).toInt + 0 = (f 32).toInt + 0; omega) (by show (f 5).toInt + 0 = (f 5).toInt + 0; omega)⟩ : mg_good (g'270 34) (g'270 38) (g'270 23) (((28 : Int), (0 : Int), (0 : Int), (0 : Int), []) :: gs) (z269.toInt) ((f 20).toInt) ((f 37).toInt) ((f 32).toInt) ((f 5).toInt))
            · exact ⟨(by show 0 ≤ z248.toInt; omega), (by show z248.toInt ≤ (f 0).toInt; omega), (by show (f 0).toInt ≤ 512; omega), (by show 0 ≤ (f 24).toInt; omega), (by show (f 24).toInt + (f 20).toInt + mg_p1 (((28 : Int), (0 : Int), (0 : Int), (0 : Int), []) :: gs) ≤ 4 * z248.toInt; omega), (by show (f 20).toInt ≤ z248.toInt; omega), (by show z269.toInt + mg_p2 (((28 : Int), (0 : Int), (0 : Int), (0 : Int), []) :: gs) ≤ z248.toInt; omega), (by show mg_p3 (((28 : Int), (0 : Int), (0 : Int), (0 : Int), []) :: gs) ≤ 20 * z248.toInt + 20; omega), (by show 0 ≤ z254.toInt; omega), (by show z254.toInt + 3 * (f 20).toInt + mg_p4 (((28 : Int), (0 : Int), (0 : Int), (0 : Int), []) :: gs) ≤ 60 * z248.toInt + 60; omega), (by show 0 ≤ o13.toInt; omega), (by show o13.toInt + 64 * mj_n (g'270 16) z269.toNatClampNeg 3 ≤ 64 * z248.toInt; omega), (by show 0 ≤ (f 44).toInt; omega), (by show (f 44).toInt ≤ z248.toInt; omega), (by show 0 ≤ (f 48).toInt; omega), (by show (f 48).toInt ≤ z248.toInt; omega), (by show 1 ≤ (f 53).toInt; omega), (by show (f 53).toInt ≤ z248.toInt + 1; omega), (by show 0 ≤ (f 19).toInt; omega), (by show (f 19).toInt ≤ 600; omega), (by show 0 ≤ (f 6).toInt; omega), (by show 0 ≤ (f 8).toInt; omega)⟩
            · show 100 * ((f 0).toInt - z248.toInt) + mg_p3 (((28 : Int), (0 : Int), (0 : Int), (0 : Int), []) :: gs) < 100 * ((f 0).toInt - (f 4).toInt) + (1 + mg_p3 gs); omega
        · refine am_e13f hi_211_217 (am_cF (m := r2.toInt) (n := (60 : Int)) rfl (by decide) c10) ?_
          refine am_e1 (v := r2) hi_211_220 rfl ?_
          refine am_e0 hi_211_221 ?_
          by_cases c278 : r2.toInt = (3 : Int)
          · refine am_e13t hi_211_222 (am_cT (m := r2.toInt) (n := (3 : Int)) rfl (by decide) c278) ?_
            refine am_e2 (v := 39) hi_211_231 rfl ?_
            refine am_e32n (as := [.ref 39]) (la := [some (.ref 39), none, none, none]) (rest := []) hi_211_232 (am_hd0 (M := 211) (by decide) 232) (Nat.le_of_ble_eq_true rfl) (Nat.le_of_ble_eq_true rfl) (show 1 ≤ am_P0.2.2.1 204 from by decide +kernel) rfl (am_recv_ok hS4.fs) rfl rfl (ct_load (d := (d + 3)) hS4 hR  (by show (0 : Int) ≤ (f 32).toInt; omega) (by show (f 32).toInt ≤ (63 : Int); omega) (by show (f 53).toInt ≤ (4096 : Int); omega) (by show (0 : Int) ≤ (f 68).toInt; omega) (by show (f 68).toInt ≤ (65534 : Int); omega) (by show (1 : Int) ≤ (f 15).toInt; omega) (by show (f 15).toInt ≤ (32767 : Int); omega) (by show (0 : Int) ≤ (f 24).toInt; omega) (by show (f 24).toInt ≤ (16384 : Int); omega) (by show (0 : Int) ≤ (f 62).toInt; omega) (by show (f 62).toInt ≤ (65000 : Int); omega)) ?_
            rintro v279 S280 (⟨o281, s282, m283, g'284, hv285, hS286, hR293, h287, h288, h289, h290, h291, h292⟩)
            subst hv285
            have h287_ : (f 62).toInt ≤ o281.toInt := h287
            have h288_ : o281.toInt ≤ (f 62).toInt + 64 := h288
            have h289_ : (f 68).toInt ≤ s282.toInt := h289
            have h290_ : s282.toInt ≤ (f 68).toInt + 1 := h290
            have h291_ : o281.toInt + 64 * mj_n (g'284 16) (f 15).toNatClampNeg 3 ≤ (f 62).toInt + 64 * mj_n (g 16) (f 15).toNatClampNeg 3 := h291
            have h292_ : ∀ j, j ∉ [16, 60, 63, 64, 65, 66, 67, 69, 70, 71, 72, 73] → g'284 j = g j := h292
            have hR293_ : RJ (upd (upd (upd f 62 o281) 68 s282) 75 m283) g'284 gs bc [] 0 [] := hR293
            show am_E _ _ _ _ [some (.ref 39), some (.int r2), some (.int (f 4)), none] [] _ _
            refine am_e2 (v := 39) hi_211_235 rfl ?_
            refine am_e0 hi_211_236 ?_
            refine am_e0 hi_211_238 ?_
            refine am_e0 hi_211_239 ?_
            refine am_e0 hi_211_240 ?_
            refine am_e32n (as := [.ref 39, .int 28, .int 0, .int 0, .int 0]) (la := [some (.ref 39), some (.int 28), some (.int 0), some (.int 0), some (.int 0)]) (rest := []) hi_211_241 (am_hd0 (M := 211) (by decide) 241) (Nat.le_of_ble_eq_true rfl) (Nat.le_of_ble_eq_true rfl) (show 5 ≤ am_P0.2.2.1 179 from by decide +kernel) rfl (am_recv_ok hS286.fs) rfl rfl (ct_pile (d := (d + 5)) hS286 hR293_ (mj_e_plain (by decide)) (by show (0 : Int) ≤ (f 10).toInt; omega) (by show (f 10).toInt ≤ (65535 : Int); omega)) ?_
            rintro v294 S295 (⟨z296, g'297, hv298, hS299, hR302, h300, h301⟩)
            subst hv298
            have h300_ : z296.toInt = (f 10).toInt + 1 := h300
            have h301_ : ∀ j, j ∉ [11, 12, 13, 14] → g'297 j = g'284 j := h301
            replace hS299 : MS S0 S295 (upd (upd (upd (upd f 10 z296) 62 o281) 68 s282) 75 m283) g'297 := hS299
            have hR302_ : RJ (upd (upd (upd (upd f 10 z296) 62 o281) 68 s282) 75 m283) g'297 (((28 : Int), (0 : Int), (0 : Int), (0 : Int), []) :: gs) bc [] 0 [] := hR302
            show am_E _ _ _ _ [some (.ref 39), some (.int r2), some (.int (f 4)), none] [] _ _
            refine am_e2 (v := 39) hi_211_244 rfl ?_
            refine am_e0 hi_211_245 ?_
            refine am_e32w (as := [.ref 39, .int 0]) (la := [some (.ref 39), some (.int 0), none]) (rest := []) hi_211_246 (am_hd0 (M := 211) (by decide) 246) (Nat.le_of_ble_eq_true rfl) (Nat.le_of_ble_eq_true rfl) (show 2 ≤ am_P0.2.2.1 212 from by decide +kernel) rfl (am_recv_ok hS299.fs) rfl rfl ?_
            refine am_e2 (v := 39) hi_212_0 rfl ?_
            refine mm_20 (v := .int (f 4)) hS299 hi_212_1 rfl ?_
            refine am_e3 (ls' := [some (.ref 39), some (.int 0), some (.int (f 4))]) hi_212_4 (Nat.le_of_ble_eq_true rfl) rfl ?_
            refine am_e2 (v := 39) hi_212_5 rfl ?_
            refine am_e32n (as := [.ref 39]) (la := [some (.ref 39)]) (rest := []) hi_212_6 (am_hd0 (M := 212) (by decide) 6) (Nat.le_of_ble_eq_true rfl) (Nat.le_of_ble_eq_true rfl) (show 1 ≤ am_P0.2.2.1 183 from by decide +kernel) rfl (am_recv_ok hS299.fs) rfl rfl (ct_next (d := (d + 3)) hS299   (by show (0 : Int) ≤ (f 4).toInt; omega) (by show (f 0).toInt ≤ (16384 : Int); omega)) ?_
            rintro v303 S304 (⟨r305, hv306, hS307, h308⟩)
            subst hv306
            have h308_ : (f 4).toInt < (f 0).toInt ∨ r305.toInt = (-1 : Int) := h308
            show am_E _ _ _ _ [some (.ref 39), some (.int 0), some (.int (f 4))] [.int r305] _ _
            refine am_e0 hi_212_9 ?_
            by_cases c310 : ¬ r305.toInt = (3 : Int)
            · refine am_e13t hi_212_10 (am_cT (m := r305.toInt) (n := (3 : Int)) rfl (by decide) c310) ?_
              refine am_e2 (v := 39) hi_212_52 rfl ?_
              refine am_e32n (as := [.ref 39]) (la := [some (.ref 39)]) (rest := []) hi_212_53 (am_hd0 (M := 212) (by decide) 53) (Nat.le_of_ble_eq_true rfl) (Nat.le_of_ble_eq_true rfl) (show 1 ≤ am_P0.2.2.1 183 from by decide +kernel) rfl (am_recv_ok hS307.fs) rfl rfl (ct_next (d := (d + 3)) hS307   (by show (0 : Int) ≤ (f 4).toInt; omega) (by show (f 0).toInt ≤ (16384 : Int); omega)) ?_
              rintro v311 S312 (⟨r313, hv314, hS315, h316⟩)
              subst hv314
              have h316_ : (f 4).toInt < (f 0).toInt ∨ r313.toInt = (-1 : Int) := h316
              show am_E _ _ _ _ [some (.ref 39), some (.int 0), some (.int (f 4))] [.int r313] _ _
              refine am_e0 hi_212_56 ?_
              by_cases c318 : ¬ r313.toInt = (62 : Int)
              · refine am_e13t hi_212_58 (am_cT (m := r313.toInt) (n := (62 : Int)) rfl (by decide) c318) ?_
                refine am_e2 (v := 39) hi_212_77 rfl ?_
                refine am_e0 hi_212_78 ?_
                refine am_e32n (as := [.ref 39, .int 60]) (la := [some (.ref 39), some (.int 60)]) (rest := []) hi_212_80 (am_hd0 (M := 212) (by decide) 80) (Nat.le_of_ble_eq_true rfl) (Nat.le_of_ble_eq_true rfl) (show 2 ≤ am_P0.2.2.1 193 from by decide +kernel) rfl (am_recv_ok hS315.fs) rfl rfl (ct_enter (d := (d + 2)) hS315   (by show (0 : Int) ≤ (f 4).toInt; omega) (by show (f 0).toInt ≤ (16384 : Int); omega) (by show (0 : Int) ≤ (60 : Int); omega) (by show (0 : Int) ≤ (f 5).toInt; omega) (by show (f 5).toInt ≤ (48 : Int); omega) (by show (0 : Int) ≤ (f 6).toInt; omega)) ?_
                rintro v319 S320 (⟨z321, y322, hv323, hS324, h325, h326, h327, h328⟩ | ⟨a330, b331, hv332, hS333, h334⟩)
                · subst hv323
                  have h325_ : z321.toInt = (f 4).toInt + 1 := h325
                  have h326_ : (f 4).toInt < (f 0).toInt := h326
                  have h327_ : y322.toInt = (f 5).toInt + 1 := h327
                  have h328_ : y322.toInt ≤ (48 : Int) := h328
                  replace hS324 : MS S0 S320 (upd (upd (upd (upd (upd (upd f 4 z321) 5 y322) 10 z296) 62 o281) 68 s282) 75 m283) g'297 := hS324
                  have hR336 : RJ (upd (upd (upd (upd (upd (upd f 4 z321) 5 y322) 10 z296) 62 o281) 68 s282) 75 m283) g'297 (((28 : Int), (0 : Int), (0 : Int), (0 : Int), []) :: gs) bc [] 0 [] := RJ.at hR302_ (by show (f 4).toInt ≤ z321.toInt; omega)
                  show am_E _ _ _ _ [some (.ref 39), some (.int 0), some (.int (f 4))] [.int 1] _ _
                  refine am_e12f hi_212_83 (by decide) ?_
                  refine am_e2 (v := 39) hi_212_86 rfl ?_
                  refine am_e32n (as := [.ref 39]) (la := [some (.ref 39)]) (rest := []) hi_212_87 (am_hd0 (M := 212) (by decide) 87) (Nat.le_of_ble_eq_true rfl) (Nat.le_of_ble_eq_true rfl) (show 1 ≤ am_P0.2.2.1 183 from by decide +kernel) rfl (am_recv_ok hS324.fs) rfl rfl (ct_next (d := (d + 3)) hS324   (by show (0 : Int) ≤ z321.toInt; omega) (by show (f 0).toInt ≤ (16384 : Int); omega)) ?_
                  rintro v337 S338 (⟨r339, hv340, hS341, h342⟩)
                  subst hv340
                  have h342_ : z321.toInt < (f 0).toInt ∨ r339.toInt = (-1 : Int) := h342
                  show am_E _ _ _ _ [some (.ref 39), some (.int 0), some (.int (f 4))] [.int r339] _ _
                  refine am_e0 hi_212_90 ?_
                  by_cases c344 : ¬ r339.toInt = (61 : Int)
                  · refine am_e13t hi_212_92 (am_cT (m := r339.toInt) (n := (61 : Int)) rfl (by decide) c344) ?_
                    refine am_e2 (v := 39) hi_212_112 rfl ?_
                    refine am_e0 hi_212_113 ?_
                    refine am_e1 (v := 0) hi_212_115 rfl ?_
                    refine am_e1 (v := f 4) hi_212_116 rfl ?_
                    refine am_e0 hi_212_117 ?_
                    refine am_e32n (as := [.ref 39, .int 32, .int 0, .int (f 4), .int 0]) (la := [some (.ref 39), some (.int 32), some (.int 0), some (.int (f 4)), some (.int 0)]) (rest := []) hi_212_118 (am_hd0 (M := 212) (by decide) 118) (Nat.le_of_ble_eq_true rfl) (Nat.le_of_ble_eq_true rfl) (show 5 ≤ am_P0.2.2.1 179 from by decide +kernel) rfl (am_recv_ok hS341.fs) rfl rfl (ct_pile (d := (d + 4)) hS341 hR336 (mj_e_plain (by decide)) (by show (0 : Int) ≤ z296.toInt; omega) (by show z296.toInt ≤ (65535 : Int); omega)) ?_
                    rintro v345 S346 (⟨z347, g'348, hv349, hS350, hR353, h351, h352⟩)
                    subst hv349
                    have h351_ : z347.toInt = z296.toInt + 1 := h351
                    have h352_ : ∀ j, j ∉ [11, 12, 13, 14] → g'348 j = g'297 j := h352
                    replace hS350 : MS S0 S346 (upd (upd (upd (upd (upd (upd f 4 z321) 5 y322) 10 z347) 62 o281) 68 s282) 75 m283) g'348 := hS350
                    have hR353_ : RJ (upd (upd (upd (upd (upd (upd f 4 z321) 5 y322) 10 z347) 62 o281) 68 s282) 75 m283) g'348 (((32 : Int), (0 : Int), (f 4).toInt, (0 : Int), []) :: (((28 : Int), (0 : Int), (0 : Int), (0 : Int), []) :: gs)) bc [] 0 [] := hR353
                    show am_E _ _ _ _ [some (.ref 39), some (.int 0), some (.int (f 4))] [] _ _
                    refine am_e2 (v := 39) hi_212_121 rfl ?_
                    refine am_e32w (as := [.ref 39]) (la := [some (.ref 39)]) (rest := []) hi_212_122 (am_hd0 (M := 212) (by decide) 122) (Nat.le_of_ble_eq_true rfl) (Nat.le_of_ble_eq_true rfl) (show 1 ≤ am_P0.2.2.1 214 from by decide +kernel) rfl (am_recv_ok hS350.fs) rfl rfl ?_
                    refine am_e2 (v := 39) hi_214_0 rfl ?_
                    refine am_e0 hi_214_1 ?_
                    refine am_e0 hi_214_3 ?_
                    refine am_e0 hi_214_4 ?_
                    refine am_e0 hi_214_5 ?_
                    refine am_e32n (as := [.ref 39, .int 34, .int 1, .int 0, .int 0]) (la := [some (.ref 39), some (.int 34), some (.int 1), some (.int 0), some (.int 0)]) (rest := []) hi_214_6 (am_hd0 (M := 214) (by decide) 6) (Nat.le_of_ble_eq_true rfl) (Nat.le_of_ble_eq_true rfl) (show 5 ≤ am_P0.2.2.1 179 from by decide +kernel) rfl (am_recv_ok hS350.fs) rfl rfl (ct_pile (d := (d + 3)) hS350 hR353_ (mj_e_plain (by decide)) (by show (0 : Int) ≤ z347.toInt; omega) (by show z347.toInt ≤ (65535 : Int); omega)) ?_
                    rintro v354 S355 (⟨z356, g'357, hv358, hS359, hR362, h360, h361⟩)
                    subst hv358
                    have h360_ : z356.toInt = z347.toInt + 1 := h360
                    have h361_ : ∀ j, j ∉ [11, 12, 13, 14] → g'357 j = g'348 j := h361
                    replace hS359 : MS S0 S355 (upd (upd (upd (upd (upd (upd f 4 z321) 5 y322) 10 z356) 62 o281) 68 s282) 75 m283) g'357 := hS359
                    have hR362_ : RJ (upd (upd (upd (upd (upd (upd f 4 z321) 5 y322) 10 z356) 62 o281) 68 s282) 75 m283) g'357 (((34 : Int), (1 : Int), (0 : Int), (0 : Int), []) :: (((32 : Int), (0 : Int), (f 4).toInt, (0 : Int), []) :: (((28 : Int), (0 : Int), (0 : Int), (0 : Int), []) :: gs))) bc [] 0 [] := hR362
                    show am_E _ _ _ _ [some (.ref 39)] [] _ _
                    refine am_e2 (v := 39) hi_214_9 rfl ?_
                    refine am_e0 hi_214_10 ?_
                    refine am_e32w (as := [.ref 39, .int 0]) (la := [some (.ref 39), some (.int 0)]) (rest := []) hi_214_11 (am_hd0 (M := 214) (by decide) 11) (Nat.le_of_ble_eq_true rfl) (Nat.le_of_ble_eq_true rfl) (show 2 ≤ am_P0.2.2.1 186 from by decide +kernel) rfl (am_recv_ok hS359.fs) rfl rfl ?_
                    refine am_e2 (v := 39) hi_186_0 rfl ?_
                    refine am_e0 hi_186_1 ?_
                    refine am_e1 (v := 0) hi_186_3 rfl ?_
                    refine am_e0 hi_186_4 ?_
                    refine am_e0 hi_186_5 ?_
                    refine am_e32n (as := [.ref 39, .int 23, .int 0, .int 0, .int 0]) (la := [some (.ref 39), some (.int 23), some (.int 0), some (.int 0), some (.int 0)]) (rest := []) hi_186_6 (am_hd0 (M := 186) (by decide) 6) (Nat.le_of_ble_eq_true rfl) (Nat.le_of_ble_eq_true rfl) (show 5 ≤ am_P0.2.2.1 179 from by decide +kernel) rfl (am_recv_ok hS359.fs) rfl rfl (ct_pile (d := (d + 2)) hS359 hR362_ (mj_e_plain (by decide)) (by show (0 : Int) ≤ z356.toInt; omega) (by show z356.toInt ≤ (65535 : Int); omega)) ?_
                    rintro v363 S364 (⟨z365, g'366, hv367, hS368, hR371, h369, h370⟩)
                    subst hv367
                    have h369_ : z365.toInt = z356.toInt + 1 := h369
                    have h370_ : ∀ j, j ∉ [11, 12, 13, 14] → g'366 j = g'357 j := h370
                    replace hS368 : MS S0 S364 (upd (upd (upd (upd (upd (upd f 4 z321) 5 y322) 10 z365) 62 o281) 68 s282) 75 m283) g'366 := hS368
                    have hR371_ : RJ (upd (upd (upd (upd (upd (upd f 4 z321) 5 y322) 10 z365) 62 o281) 68 s282) 75 m283) g'366 (((23 : Int), (0 : Int), (0 : Int), (0 : Int), []) :: (((34 : Int), (1 : Int), (0 : Int), (0 : Int), []) :: (((32 : Int), (0 : Int), (f 4).toInt, (0 : Int), []) :: (((28 : Int), (0 : Int), (0 : Int), (0 : Int), []) :: gs)))) bc [] 0 [] := hR371
                    show am_E _ _ _ _ [some (.ref 39), some (.int 0)] [] _ _
                    refine am_e35 hi_186_9 ?_
                    show am_E _ _ _ _ [some (.ref 39)] [] _ _
                    refine am_e35 hi_214_14 ?_
                    show am_E _ _ _ _ [some (.ref 39), some (.int 0), some (.int (f 4))] [] _ _
                    refine am_e35 hi_212_125 ?_
                    show am_E _ _ _ _ [some (.ref 39), some (.int r2), some (.int (f 4)), none] [] _ _
                    refine am_e35 hi_211_249 ?_
                    show am_E _ _ _ _ [some (.ref 39), some (.int 28), some (.int on), some (.int tw)] [] _ _
                    refine am_e18 hi_181_180 ?_
                    refine am_e35 hi_181_397 ?_
                    show am_E _ _ _ _ [some (.ref 39), some (.int 28), some (.int on), some (.int tw), some (.int th)] [] _ _
                    refine am_e35 hi_180_13 ?_
                    have q1 : mg_p1 (((23 : Int), (0 : Int), (0 : Int), (0 : Int), []) :: (((34 : Int), (1 : Int), (0 : Int), (0 : Int), []) :: (((32 : Int), (0 : Int), (f 4).toInt, (0 : Int), []) :: (((28 : Int), (0 : Int), (0 : Int), (0 : Int), []) :: gs)))) = 0 + (0 + (0 + (0 + (mg_p1 gs)))) := rfl
                    have q2 : mg_p2 (((23 : Int), (0 : Int), (0 : Int), (0 : Int), []) :: (((34 : Int), (1 : Int), (0 : Int), (0 : Int), []) :: (((32 : Int), (0 : Int), (f 4).toInt, (0 : Int), []) :: (((28 : Int), (0 : Int), (0 : Int), (0 : Int), []) :: gs)))) = 0 + (((1 : Int) - 1) + (0 + (0 + (mg_p2 gs)))) := rfl
                    have q3 : mg_p3 (((23 : Int), (0 : Int), (0 : Int), (0 : Int), []) :: (((34 : Int), (1 : Int), (0 : Int), (0 : Int), []) :: (((32 : Int), (0 : Int), (f 4).toInt, (0 : Int), []) :: (((28 : Int), (0 : Int), (0 : Int), (0 : Int), []) :: gs)))) = 1 + (1 + (1 + (1 + (mg_p3 gs)))) := rfl
                    have q4 : mg_p4 (((23 : Int), (0 : Int), (0 : Int), (0 : Int), []) :: (((34 : Int), (1 : Int), (0 : Int), (0 : Int), []) :: (((32 : Int), (0 : Int), (f 4).toInt, (0 : Int), []) :: (((28 : Int), (0 : Int), (0 : Int), (0 : Int), []) :: gs)))) = 0 + (0 + (0 + (0 + (mg_p4 gs)))) := rfl
                    refine ⟨_, _, _, bc, rfl, hS368, Or.inl ⟨⟨hR371_, ?_, ?_⟩, rfl, ?_⟩⟩
                    · exact (⟨⟨(show mg_k 23 from by decide), (show (0 : Int) ≤ (f 15).toInt from by omega), (show 0 ≤ (f 20).toInt from by omega), (show 1 ≤ (f 37).toInt from by omega), (show 0 ≤ (f 32).toInt from by omega), (show (f 32).toInt ≤ y322.toInt from by omega), (show y322.toInt ≤ 48 from by omega), (show (f 37).toInt ≤ 2 * (y322.toInt) + 2 from by omega), (show 0 ≤ (0 : Int) from by omega)⟩, ⟨⟨(show mg_k 34 from by decide), (show (1 : Int) ≤ (f 15).toInt + 1 from by omega), (show 0 ≤ (f 20).toInt from by omega), (show 1 ≤ (f 37).toInt + 0 from by omega), (show 0 ≤ (f 32).toInt + 0 from by omega), (show (f 32).toInt + 0 ≤ y322.toInt + 0 from by omega), (show y322.toInt + 0 ≤ 48 from by omega), (show (f 37).toInt + 0 ≤ 2 * (y322.toInt + 0) + 2 from by omega), (show 1 ≤ (1 : Int) from by omega)⟩, ⟨⟨(show mg_k 32 from by decide), (show (2 : Int) ≤ (f 15).toInt + 1 + 0 from by omega), (show 0 ≤ (f 20).toInt from by omega), (show 1 ≤ (f 37).toInt + 0 + 0 from by omega), (show 0 ≤ (f 32).toInt + 0 + 0 from by omega), (show (f 32).toInt + 0 + 0 ≤ y322.toInt + 0 + 0 from by omega), (show y322.toInt + 0 + 0 ≤ 48 from by omega), (show (f 37).toInt + 0 + 0 ≤ 2 * (y322.toInt + 0 + 0) + 2 from by omega), trivial⟩, ⟨⟨(show mg_k 28 from by decide), (show (1 : Int) ≤ (f 15).toInt + 1 + 0 + -1 from by omega), (show 0 ≤ (f 20).toInt from by omega), (show 1 ≤ (f 37).toInt + 0 + 0 + 0 from by omega), (show 0 ≤ (f 32).toInt + 0 + 0 + 0 from by omega), (show (f 32).toInt + 0 + 0 + 0 ≤ y322.toInt + 0 + 0 + -1 from by omega), (show y322.toInt + 0 + 0 + -1 ≤ 48 from by omega), (show (f 37).toInt + 0 + 0 + 0 ≤ 2 * (y322.toInt + 0 + 0 + -1) + 2 from by omega), trivial⟩, mg_cast (mg_good_ext _ _ _ _ _ _ (fun i _ => by show g'366 34 i = g 34 i; rw [show g'366 34 = g'357 34 from h370_ 34 (by decide), show g'357 34 = g'348 34 from h361_ 34 (by decide), show g'348 34 = g'297 34 from h352_ 34 (by decide), show g'297 34 = g'284 34 from h301_ 34 (by decide), show g'284 34 = g 34 from h292_ 34 (by decide)]) (fun i _ => by show g'366 38 i = g 38 i; rw [show g'366 38 = g'357 38 from h370_ 38 (by decide), show g'357 38 = g'348 38 from h361_ 38 (by decide), show g'348 38 = g'297 38 from h352_ 38 (by decide), show g'297 38 = g'284 38 from h301_ 38 (by decide), show g'284 38 = g 38 from h292_ 38 (by decide)]) (fun i _ => by show g'366 23 i = g 23 i; rw [show g'366 23 = g'357 23 from h370_ 23 (by decide), show g'357 23 = g'348 23 from h361_ 23 (by decide), show g'348 23 = g'297 23 from h352_ 23 (by decide), show g'297 23 = g'284 23 from h301_ 23 (by decide), show g'284 23 = g 23 from h292_ 23 (by decide)]) hrest) (by show (f 15).toInt + 0 = (f 15).toInt + 1 + 0 + -1 + 0; omega) (by show (f 20).toInt = (f 20).toInt; omega) (by show (f 37).toInt + 0 = (f 37).toInt + 0 + 0 + 0 + 0; omega) (by show (f 32).toInt + 0 = (f 32).toInt + 0 + 0 + 0 + 0; omega) (by show (f 5).toInt + 0 = y322.toInt + 0 + 0 + -1 + 0; omega)⟩⟩⟩⟩ : mg_good (g'366 34) (g'366 38) (g'366 23) (((23 : Int), (0 : Int), (0 : Int), (0 : Int), []) :: (((34 : Int), (1 : Int), (0 : Int), (0 : Int), []) :: (((32 : Int), (0 : Int), (f 4).toInt, (0 : Int), []) :: (((28 : Int), (0 : Int), (0 : Int), (0 : Int), []) :: gs)))) ((f 15).toInt) ((f 20).toInt) ((f 37).toInt) ((f 32).toInt) (y322.toInt))
                    · exact ⟨(by show 0 ≤ z321.toInt; omega), (by show z321.toInt ≤ (f 0).toInt; omega), (by show (f 0).toInt ≤ 512; omega), (by show 0 ≤ (f 24).toInt; omega), (by show (f 24).toInt + (f 20).toInt + mg_p1 (((23 : Int), (0 : Int), (0 : Int), (0 : Int), []) :: (((34 : Int), (1 : Int), (0 : Int), (0 : Int), []) :: (((32 : Int), (0 : Int), (f 4).toInt, (0 : Int), []) :: (((28 : Int), (0 : Int), (0 : Int), (0 : Int), []) :: gs)))) ≤ 4 * z321.toInt; omega), (by show (f 20).toInt ≤ z321.toInt; omega), (by show (f 15).toInt + mg_p2 (((23 : Int), (0 : Int), (0 : Int), (0 : Int), []) :: (((34 : Int), (1 : Int), (0 : Int), (0 : Int), []) :: (((32 : Int), (0 : Int), (f 4).toInt, (0 : Int), []) :: (((28 : Int), (0 : Int), (0 : Int), (0 : Int), []) :: gs)))) ≤ z321.toInt; omega), (by show mg_p3 (((23 : Int), (0 : Int), (0 : Int), (0 : Int), []) :: (((34 : Int), (1 : Int), (0 : Int), (0 : Int), []) :: (((32 : Int), (0 : Int), (f 4).toInt, (0 : Int), []) :: (((28 : Int), (0 : Int), (0 : Int), (0 : Int), []) :: gs)))) ≤ 20 * z321.toInt + 20; omega), (by show 0 ≤ s282.toInt; omega), (by show s282.toInt + 3 * (f 20).toInt + mg_p4 (((23 : Int), (0 : Int), (0 : Int), (0 : Int), []) :: (((34 : Int), (1 : Int), (0 : Int), (0 : Int), []) :: (((32 : Int), (0 : Int), (f 4).toInt, (0 : Int), []) :: (((28 : Int), (0 : Int), (0 : Int), (0 : Int), []) :: gs)))) ≤ 60 * z321.toInt + 60; omega), (by show 0 ≤ o281.toInt; omega), (by show o281.toInt + 64 * mj_n (g'366 16) (f 15).toNatClampNeg 3 ≤ 64 * z321.toInt; rw [show g'366 16 = g'357 16 from h370_ 16 (by decide), show g'357 16 = g'348 16 from h361_ 16 (by decide), show g'348 16 = g'297 16 from h352_ 16 (by decide), show g'297 16 = g'284 16 from h301_ 16 (by decide)]; omega), (by show 0 ≤ (f 44).toInt; omega), (by show (f 44).toInt ≤ z321.toInt; omega), (by show 0 ≤ (f 48).toInt; omega), (by show (f 48).toInt ≤ z321.toInt; omega), (by show 1 ≤ (f 53).toInt; omega), (by show (f 53).toInt ≤ z321.toInt + 1; omega), (by show 0 ≤ (f 19).toInt; omega), (by show (f 19).toInt ≤ 600; omega), (by show 0 ≤ (f 6).toInt; omega), (by show 0 ≤ (f 8).toInt; omega)⟩
                    · show 100 * ((f 0).toInt - z321.toInt) + mg_p3 (((23 : Int), (0 : Int), (0 : Int), (0 : Int), []) :: (((34 : Int), (1 : Int), (0 : Int), (0 : Int), []) :: (((32 : Int), (0 : Int), (f 4).toInt, (0 : Int), []) :: (((28 : Int), (0 : Int), (0 : Int), (0 : Int), []) :: gs)))) < 100 * ((f 0).toInt - (f 4).toInt) + (1 + mg_p3 gs); omega
                  · refine am_e13f hi_212_92 (am_cF (m := r339.toInt) (n := (61 : Int)) rfl (by decide) c344) ?_
                    refine am_e2 (v := 39) hi_212_95 rfl ?_
                    refine am_e0 hi_212_96 ?_
                    refine am_e32n (as := [.ref 39, .int 61]) (la := [some (.ref 39), some (.int 61)]) (rest := []) hi_212_98 (am_hd0 (M := 212) (by decide) 98) (Nat.le_of_ble_eq_true rfl) (Nat.le_of_ble_eq_true rfl) (show 2 ≤ am_P0.2.2.1 199 from by decide +kernel) rfl (am_recv_ok hS341.fs) rfl rfl (ct_leave (d := (d + 1)) hS341   (by show (0 : Int) ≤ z321.toInt; omega) (by show (f 0).toInt ≤ (16384 : Int); omega) (by show (0 : Int) ≤ (61 : Int); omega) (by show (0 : Int) ≤ y322.toInt; omega) (by show y322.toInt ≤ (48 : Int); omega) (by show (0 : Int) ≤ (f 6).toInt; omega)) ?_
                    rintro v372 S373 (⟨z374, y375, hv376, hS377, h378, h379, h380⟩ | ⟨a382, b383, hv384, hS385, h386⟩)
                    · subst hv376
                      have h378_ : z374.toInt = z321.toInt + 1 := h378
                      have h379_ : z321.toInt < (f 0).toInt := h379
                      have h380_ : y375.toInt = y322.toInt - 1 := h380
                      replace hS377 : MS S0 S373 (upd (upd (upd (upd (upd (upd f 4 z374) 5 y375) 10 z296) 62 o281) 68 s282) 75 m283) g'297 := hS377
                      have hR388 : RJ (upd (upd (upd (upd (upd (upd f 4 z374) 5 y375) 10 z296) 62 o281) 68 s282) 75 m283) g'297 (((28 : Int), (0 : Int), (0 : Int), (0 : Int), []) :: gs) bc [] 0 [] := RJ.at hR336 (by show z321.toInt ≤ z374.toInt; omega)
                      show am_E _ _ _ _ [some (.ref 39), some (.int 0), some (.int (f 4))] [.int 1] _ _
                      refine am_e6i hi_212_101 ?_
                      refine am_e2 (v := 39) hi_212_102 rfl ?_
                      refine am_e1 (v := 0) hi_212_103 rfl ?_
                      refine am_e0 hi_212_104 ?_
                      refine am_e1 (v := f 4) hi_212_105 rfl ?_
                      refine am_e32w (as := [.ref 39, .int 0, .int 0, .int (f 4)]) (la := [some (.ref 39), some (.int 0), some (.int 0), some (.int (f 4)), none]) (rest := []) hi_212_106 (am_hd0 (M := 212) (by decide) 106) (Nat.le_of_ble_eq_true rfl) (Nat.le_of_ble_eq_true rfl) (show 4 ≤ am_P0.2.2.1 213 from by decide +kernel) rfl (am_recv_ok hS377.fs) rfl rfl ?_
                      refine am_e2 (v := 39) hi_213_0 rfl ?_
                      refine am_e0 hi_213_1 ?_
                      refine am_e1 (v := 0) hi_213_3 rfl ?_
                      refine am_e1 (v := 0) hi_213_4 rfl ?_
                      refine am_e0 hi_213_5 ?_
                      refine am_e10 (z := 2) hi_213_6 (by decide) ?_
                      refine am_e1 (v := f 4) hi_213_7 rfl ?_
                      refine am_e32n (as := [.ref 39, .int 13, .int 0, .int 2, .int (f 4)]) (la := [some (.ref 39), some (.int 13), some (.int 0), some (.int 2), some (.int (f 4))]) (rest := []) hi_213_8 (am_hd0 (M := 213) (by decide) 8) (Nat.le_of_ble_eq_true rfl) (Nat.le_of_ble_eq_true rfl) (show 5 ≤ am_P0.2.2.1 189 from by decide +kernel) rfl (am_recv_ok hS377.fs) rfl rfl (ct_put (d := (d + 3)) hS377 hR388  (by show (0 : Int) ≤ (f 32).toInt; omega) (by show (f 32).toInt ≤ (63 : Int); omega) (by show (f 53).toInt ≤ (4096 : Int); omega) (by show (0 : Int) ≤ s282.toInt; omega) (by show s282.toInt ≤ (65534 : Int); omega)) ?_
                      rintro v389 S390 (⟨z391, r392, g'393, hv394, hS395, hR399, h396, h397, h398⟩)
                      subst hv394
                      have h396_ : z391.toInt = s282.toInt + 1 := h396
                      have h397_ : r392.toInt = s282.toInt := h397
                      have h398_ : ∀ j, j ∉ [60, 69, 70, 71, 72, 73] → g'393 j = g'297 j := h398
                      replace hS395 : MS S0 S390 (upd (upd (upd (upd (upd (upd f 4 z374) 5 y375) 10 z296) 62 o281) 68 z391) 75 m283) g'393 := hS395
                      have hR399_ : RJ (upd (upd (upd (upd (upd (upd f 4 z374) 5 y375) 10 z296) 62 o281) 68 z391) 75 m283) g'393 (((28 : Int), (0 : Int), (0 : Int), (0 : Int), []) :: gs) bc [] 0 (s282.toNatClampNeg :: []) := hR399
                      show am_E _ _ _ _ [some (.ref 39), some (.int 0), some (.int 0), some (.int (f 4)), none] [.int r392] _ _
                      refine am_e3 (ls' := [some (.ref 39), some (.int 0), some (.int 0), some (.int (f 4)), some (.int r392)]) hi_213_11 (Nat.le_of_ble_eq_true rfl) rfl ?_
                      refine am_e2 (v := 39) hi_213_13 rfl ?_
                      refine am_e7 hi_213_14 ?_
                      refine mm_20 (v := .int (f 15)) hS395 hi_213_15 rfl ?_
                      refine am_e0 hi_213_18 ?_
                      obtain ⟨z400, hz400, tz400⟩ := am_subI (x := f 15) (y := 1) (m := (f 15).toInt) (n := (1 : Int)) rfl (by decide) (by omega) (by omega)
                      refine am_e10 (z := z400) hi_213_19 hz400 ?_
                      refine mm_21 (v := z400) hS395 hi_213_20 rfl (Nat.le_of_ble_eq_true rfl) ms_15 ?_
                      intro S401 hS402
                      replace hS402 : MS S0 S401 (upd (upd (upd (upd (upd (upd (upd f 4 z374) 5 y375) 10 z296) 15 z400) 62 o281) 68 z391) 75 m283) g'393 := hS402
                      have hp403 : mj_n (g'284 16) (f 15).toNatClampNeg 3 = mj_n (g'284 16) z400.toNatClampNeg 3 + if (g'284 16 z400.toNatClampNeg).toInt = 3 then 1 else 0 := mj_pop (by rw [cl_toNat, cl_toNat]; omega)
                      have hp4031 : mj_n (g'284 16) z400.toNatClampNeg 3 ≤ mj_n (g'284 16) (f 15).toNatClampNeg 3 := by rw [hp403]; split <;> omega
                      have hp4032 : (g'284 16 z400.toNatClampNeg).toInt = 3 → mj_n (g'284 16) z400.toNatClampNeg 3 + 1 ≤ mj_n (g'284 16) (f 15).toNatClampNeg 3 := fun q => by rw [hp403, if_pos q]; exact Int.le_refl _
                      refine am_e2 (v := 39) hi_213_23 rfl ?_
                      refine am_e0 hi_213_24 ?_
                      refine am_e1 (v := r392) hi_213_25 rfl ?_
                      refine am_e1 (v := f 4) hi_213_27 rfl ?_
                      refine am_e32n (as := [.ref 39, .int 1, .int r392, .int (f 4)]) (la := [some (.ref 39), some (.int 1), some (.int r392), some (.int (f 4))]) (rest := []) hi_213_28 (am_hd0 (M := 213) (by decide) 28) (Nat.le_of_ble_eq_true rfl) (Nat.le_of_ble_eq_true rfl) (show 4 ≤ am_P0.2.2.1 190 from by decide +kernel) rfl (am_recv_ok hS402.fs) rfl rfl (ct_value (d := (d + 3)) hS402 hR399_ (fun h => absurd h (by decide)) (fun _ => ⟨by omega, by omega⟩) (by show (0 : Int) ≤ z400.toInt; omega) (by show z400.toInt ≤ (32767 : Int); omega)) ?_
                      rintro v404 S405 (⟨z406, g'407, hv408, hS409, hR414, h410, h411, h412, h413⟩)
                      subst hv408
                      have h410_ : z406.toInt = z400.toInt + 1 := h410
                      have h411_ : ∀ j, j ∉ [16, 17, 18] → g'407 j = g'393 j := h411
                      have h412_ : mj_n (g'407 16) z406.toNatClampNeg 3 ≤ mj_n (g'284 16) z400.toNatClampNeg 3 + 1 := by rw [show g'393 16 = g'297 16 from h398_ 16 (by decide), show g'297 16 = g'284 16 from h301_ 16 (by decide)] at h412; exact h412
                      have h413_ : (1 : Int) = 3 ∨ mj_n (g'407 16) z406.toNatClampNeg 3 ≤ mj_n (g'284 16) z400.toNatClampNeg 3 := by rw [show g'393 16 = g'297 16 from h398_ 16 (by decide), show g'297 16 = g'284 16 from h301_ 16 (by decide)] at h413; exact h413
                      replace hS409 : MS S0 S405 (upd (upd (upd (upd (upd (upd (upd f 4 z374) 5 y375) 10 z296) 15 z406) 62 o281) 68 z391) 75 m283) g'407 := hS409
                      have hR414_ : RJ (upd (upd (upd (upd (upd (upd (upd f 4 z374) 5 y375) 10 z296) 15 z406) 62 o281) 68 z391) 75 m283) g'407 (((28 : Int), (0 : Int), (0 : Int), (0 : Int), []) :: gs) bc [] 0 (s282.toNatClampNeg :: []) := hR414
                      show am_E _ _ _ _ [some (.ref 39), some (.int 0), some (.int 0), some (.int (f 4)), some (.int r392)] [] _ _
                      refine am_e35 hi_213_31 ?_
                      show am_E _ _ _ _ [some (.ref 39), some (.int 0), some (.int (f 4))] [] _ _
                      refine am_e18 hi_212_109 ?_
                      refine am_e35 hi_212_125 ?_
                      show am_E _ _ _ _ [some (.ref 39), some (.int r2), some (.int (f 4)), none] [] _ _
                      refine am_e35 hi_211_249 ?_
                      show am_E _ _ _ _ [some (.ref 39), some (.int 28), some (.int on), some (.int tw)] [] _ _
                      refine am_e18 hi_181_180 ?_
                      refine am_e35 hi_181_397 ?_
                      show am_E _ _ _ _ [some (.ref 39), some (.int 28), some (.int on), some (.int tw), some (.int th)] [] _ _
                      refine am_e35 hi_180_13 ?_
                      have q1 : mg_p1 (((28 : Int), (0 : Int), (0 : Int), (0 : Int), []) :: gs) = 0 + (mg_p1 gs) := rfl
                      have q2 : mg_p2 (((28 : Int), (0 : Int), (0 : Int), (0 : Int), []) :: gs) = 0 + (mg_p2 gs) := rfl
                      have q3 : mg_p3 (((28 : Int), (0 : Int), (0 : Int), (0 : Int), []) :: gs) = 1 + (mg_p3 gs) := rfl
                      have q4 : mg_p4 (((28 : Int), (0 : Int), (0 : Int), (0 : Int), []) :: gs) = 0 + (mg_p4 gs) := rfl
                      refine ⟨_, _, _, bc, rfl, hS409, Or.inl ⟨⟨(RJ.fewer (pj' := []) hR414_ (fun _ h => nomatch h)), ?_, ?_⟩, rfl, ?_⟩⟩
                      · exact (⟨⟨(show mg_k 28 from by decide), (show (1 : Int) ≤ z406.toInt from by omega), (show 0 ≤ (f 20).toInt from by omega), (show 1 ≤ (f 37).toInt from by omega), (show 0 ≤ (f 32).toInt from by omega), (show (f 32).toInt ≤ y375.toInt from by omega), (show y375.toInt ≤ 48 from by omega), (show (f 37).toInt ≤ 2 * (y375.toInt) + 2 from by omega), trivial⟩, mg_cast (mg_good_ext _ _ _ _ _ _ (fun i _ => by show g'407 34 i = g 34 i; rw [show g'407 34 = g'393 34 from h411_ 34 (by decide), show g'393 34 = g'297 34 from h398_ 34 (by decide), show g'297 34 = g'284 34 from h301_ 34 (by decide), show g'284 34 = g 34 from h292_ 34 (by decide)]) (fun i _ => by show g'407 38 i = g 38 i; rw [show g'407 38 = g'393 38 from h411_ 38 (by decide), show g'393 38 = g'297 38 from h398_ 38 (by decide), show g'297 38 = g'284 38 from h301_ 38 (by decide), show g'284 38 = g 38 from h292_ 38 (by decide)]) (fun i _ => by show g'407 23 i = g 23 i; rw [show g'407 23 = g'393 23 from h411_ 23 (by decide), show g'393 23 = g'297 23 from h398_ 23 (by decide), show g'297 23 = g'284 23 from h301_ 23 (by decide), show g'284 23 = g 23 from h292_ 23 (by decide)]) hrest) (by show (f 15).toInt + 0 = z406.toInt + 0; omega) (by show (f 20).toInt = (f 20).toInt; omega) (by show (f 37).toInt + 0 = (f 37).toInt + 0; omega) (by show (f 32).toInt + 0 = (f 32).toInt + 0; omega) (by show (f 5).toInt + 0 = y375.toInt + 0; omega)⟩ : mg_good (g'407 34) (g'407 38) (g'407 23) (((28 : Int), (0 : Int), (0 : Int), (0 : Int), []) :: gs) (z406.toInt) ((f 20).toInt) ((f 37).toInt) ((f 32).toInt) (y375.toInt))
                      · exact ⟨(by show 0 ≤ z374.toInt; omega), (by show z374.toInt ≤ (f 0).toInt; omega), (by show (f 0).toInt ≤ 512; omega), (by show 0 ≤ (f 24).toInt; omega), (by show (f 24).toInt + (f 20).toInt + mg_p1 (((28 : Int), (0 : Int), (0 : Int), (0 : Int), []) :: gs) ≤ 4 * z374.toInt; omega), (by show (f 20).toInt ≤ z374.toInt; omega), (by show z406.toInt + mg_p2 (((28 : Int), (0 : Int), (0 : Int), (0 : Int), []) :: gs) ≤ z374.toInt; omega), (by show mg_p3 (((28 : Int), (0 : Int), (0 : Int), (0 : Int), []) :: gs) ≤ 20 * z374.toInt + 20; omega), (by show 0 ≤ z391.toInt; omega), (by show z391.toInt + 3 * (f 20).toInt + mg_p4 (((28 : Int), (0 : Int), (0 : Int), (0 : Int), []) :: gs) ≤ 60 * z374.toInt + 60; omega), (by show 0 ≤ o281.toInt; omega), (by show o281.toInt + 64 * mj_n (g'407 16) z406.toNatClampNeg 3 ≤ 64 * z374.toInt; omega), (by show 0 ≤ (f 44).toInt; omega), (by show (f 44).toInt ≤ z374.toInt; omega), (by show 0 ≤ (f 48).toInt; omega), (by show (f 48).toInt ≤ z374.toInt; omega), (by show 1 ≤ (f 53).toInt; omega), (by show (f 53).toInt ≤ z374.toInt + 1; omega), (by show 0 ≤ (f 19).toInt; omega), (by show (f 19).toInt ≤ 600; omega), (by show 0 ≤ (f 6).toInt; omega), (by show 0 ≤ (f 8).toInt; omega)⟩
                      · show 100 * ((f 0).toInt - z374.toInt) + mg_p3 (((28 : Int), (0 : Int), (0 : Int), (0 : Int), []) :: gs) < 100 * ((f 0).toInt - (f 4).toInt) + (1 + mg_p3 gs); omega
                    · subst hv384
                      have h386_ : (0 : Int) ≤ a382.toInt := h386
                      replace hS385 : MS S0 S373 (upd (upd (upd (upd (upd (upd (upd (upd f 4 z321) 5 y322) 6 a382) 7 b383) 10 0) 62 o281) 68 s282) 75 m283) g'297 := hS385
                      have hR415 := rj_clear0 hR336
                      have hR416 : RJ (upd (upd (upd (upd (upd (upd (upd (upd f 4 z321) 5 y322) 6 a382) 7 b383) 10 0) 62 o281) 68 s282) 75 m283) g'297 [] bc [] 0 [] := hR415
                      show am_E _ _ _ _ [some (.ref 39), some (.int 0), some (.int (f 4))] [.int 0] _ _
                      refine am_e6i hi_212_101 ?_
                      refine am_e2 (v := 39) hi_212_102 rfl ?_
                      refine am_e1 (v := 0) hi_212_103 rfl ?_
                      refine am_e0 hi_212_104 ?_
                      refine am_e1 (v := f 4) hi_212_105 rfl ?_
                      refine am_e32w (as := [.ref 39, .int 0, .int 0, .int (f 4)]) (la := [some (.ref 39), some (.int 0), some (.int 0), some (.int (f 4)), none]) (rest := []) hi_212_106 (am_hd0 (M := 212) (by decide) 106) (Nat.le_of_ble_eq_true rfl) (Nat.le_of_ble_eq_true rfl) (show 4 ≤ am_P0.2.2.1 213 from by decide +kernel) rfl (am_recv_ok hS385.fs) rfl rfl ?_
                      refine am_e2 (v := 39) hi_213_0 rfl ?_
                      refine am_e0 hi_213_1 ?_
                      refine am_e1 (v := 0) hi_213_3 rfl ?_
                      refine am_e1 (v := 0) hi_213_4 rfl ?_
                      refine am_e0 hi_213_5 ?_
                      refine am_e10 (z := 2) hi_213_6 (by decide) ?_
                      refine am_e1 (v := f 4) hi_213_7 rfl ?_
                      refine am_e32n (as := [.ref 39, .int 13, .int 0, .int 2, .int (f 4)]) (la := [some (.ref 39), some (.int 13), some (.int 0), some (.int 2), some (.int (f 4))]) (rest := []) hi_213_8 (am_hd0 (M := 213) (by decide) 8) (Nat.le_of_ble_eq_true rfl) (Nat.le_of_ble_eq_true rfl) (show 5 ≤ am_P0.2.2.1 189 from by decide +kernel) rfl (am_recv_ok hS385.fs) rfl rfl (ct_put (d := (d + 3)) hS385 hR416  (by show (0 : Int) ≤ (f 32).toInt; omega) (by show (f 32).toInt ≤ (63 : Int); omega) (by show (f 53).toInt ≤ (4096 : Int); omega) (by show (0 : Int) ≤ s282.toInt; omega) (by show s282.toInt ≤ (65534 : Int); omega)) ?_
                      rintro v417 S418 (⟨z419, r420, g'421, hv422, hS423, hR427, h424, h425, h426⟩)
                      subst hv422
                      have h424_ : z419.toInt = s282.toInt + 1 := h424
                      have h425_ : r420.toInt = s282.toInt := h425
                      have h426_ : ∀ j, j ∉ [60, 69, 70, 71, 72, 73] → g'421 j = g'297 j := h426
                      replace hS423 : MS S0 S418 (upd (upd (upd (upd (upd (upd (upd (upd f 4 z321) 5 y322) 6 a382) 7 b383) 10 0) 62 o281) 68 z419) 75 m283) g'421 := hS423
                      have hR427_ : RJ (upd (upd (upd (upd (upd (upd (upd (upd f 4 z321) 5 y322) 6 a382) 7 b383) 10 0) 62 o281) 68 z419) 75 m283) g'421 [] bc [] 0 (s282.toNatClampNeg :: []) := hR427
                      show am_E _ _ _ _ [some (.ref 39), some (.int 0), some (.int 0), some (.int (f 4)), none] [.int r420] _ _
                      refine am_e3 (ls' := [some (.ref 39), some (.int 0), some (.int 0), some (.int (f 4)), some (.int r420)]) hi_213_11 (Nat.le_of_ble_eq_true rfl) rfl ?_
                      refine am_e2 (v := 39) hi_213_13 rfl ?_
                      refine am_e7 hi_213_14 ?_
                      refine mm_20 (v := .int (f 15)) hS423 hi_213_15 rfl ?_
                      refine am_e0 hi_213_18 ?_
                      obtain ⟨z428, hz428, tz428⟩ := am_subI (x := f 15) (y := 1) (m := (f 15).toInt) (n := (1 : Int)) rfl (by decide) (by omega) (by omega)
                      refine am_e10 (z := z428) hi_213_19 hz428 ?_
                      refine mm_21 (v := z428) hS423 hi_213_20 rfl (Nat.le_of_ble_eq_true rfl) ms_15 ?_
                      intro S429 hS430
                      replace hS430 : MS S0 S429 (upd (upd (upd (upd (upd (upd (upd (upd (upd f 4 z321) 5 y322) 6 a382) 7 b383) 10 0) 15 z428) 62 o281) 68 z419) 75 m283) g'421 := hS430
                      have hp431 : mj_n (g'284 16) (f 15).toNatClampNeg 3 = mj_n (g'284 16) z428.toNatClampNeg 3 + if (g'284 16 z428.toNatClampNeg).toInt = 3 then 1 else 0 := mj_pop (by rw [cl_toNat, cl_toNat]; omega)
                      have hp4311 : mj_n (g'284 16) z428.toNatClampNeg 3 ≤ mj_n (g'284 16) (f 15).toNatClampNeg 3 := by rw [hp431]; split <;> omega
                      have hp4312 : (g'284 16 z428.toNatClampNeg).toInt = 3 → mj_n (g'284 16) z428.toNatClampNeg 3 + 1 ≤ mj_n (g'284 16) (f 15).toNatClampNeg 3 := fun q => by rw [hp431, if_pos q]; exact Int.le_refl _
                      refine am_e2 (v := 39) hi_213_23 rfl ?_
                      refine am_e0 hi_213_24 ?_
                      refine am_e1 (v := r420) hi_213_25 rfl ?_
                      refine am_e1 (v := f 4) hi_213_27 rfl ?_
                      refine am_e32n (as := [.ref 39, .int 1, .int r420, .int (f 4)]) (la := [some (.ref 39), some (.int 1), some (.int r420), some (.int (f 4))]) (rest := []) hi_213_28 (am_hd0 (M := 213) (by decide) 28) (Nat.le_of_ble_eq_true rfl) (Nat.le_of_ble_eq_true rfl) (show 4 ≤ am_P0.2.2.1 190 from by decide +kernel) rfl (am_recv_ok hS430.fs) rfl rfl (ct_value (d := (d + 3)) hS430 hR427_ (fun h => absurd h (by decide)) (fun _ => ⟨by omega, by omega⟩) (by show (0 : Int) ≤ z428.toInt; omega) (by show z428.toInt ≤ (32767 : Int); omega)) ?_
                      rintro v432 S433 (⟨z434, g'435, hv436, hS437, hR442, h438, h439, h440, h441⟩)
                      subst hv436
                      have h438_ : z434.toInt = z428.toInt + 1 := h438
                      have h439_ : ∀ j, j ∉ [16, 17, 18] → g'435 j = g'421 j := h439
                      have h440_ : mj_n (g'435 16) z434.toNatClampNeg 3 ≤ mj_n (g'284 16) z428.toNatClampNeg 3 + 1 := by rw [show g'421 16 = g'297 16 from h426_ 16 (by decide), show g'297 16 = g'284 16 from h301_ 16 (by decide)] at h440; exact h440
                      have h441_ : (1 : Int) = 3 ∨ mj_n (g'435 16) z434.toNatClampNeg 3 ≤ mj_n (g'284 16) z428.toNatClampNeg 3 := by rw [show g'421 16 = g'297 16 from h426_ 16 (by decide), show g'297 16 = g'284 16 from h301_ 16 (by decide)] at h441; exact h441
                      replace hS437 : MS S0 S433 (upd (upd (upd (upd (upd (upd (upd (upd (upd f 4 z321) 5 y322) 6 a382) 7 b383) 10 0) 15 z434) 62 o281) 68 z419) 75 m283) g'435 := hS437
                      have hR442_ : RJ (upd (upd (upd (upd (upd (upd (upd (upd (upd f 4 z321) 5 y322) 6 a382) 7 b383) 10 0) 15 z434) 62 o281) 68 z419) 75 m283) g'435 [] bc [] 0 (s282.toNatClampNeg :: []) := hR442
                      show am_E _ _ _ _ [some (.ref 39), some (.int 0), some (.int 0), some (.int (f 4)), some (.int r420)] [] _ _
                      refine am_e35 hi_213_31 ?_
                      show am_E _ _ _ _ [some (.ref 39), some (.int 0), some (.int (f 4))] [] _ _
                      refine am_e18 hi_212_109 ?_
                      refine am_e35 hi_212_125 ?_
                      show am_E _ _ _ _ [some (.ref 39), some (.int r2), some (.int (f 4)), none] [] _ _
                      refine am_e35 hi_211_249 ?_
                      show am_E _ _ _ _ [some (.ref 39), some (.int 28), some (.int on), some (.int tw)] [] _ _
                      refine am_e18 hi_181_180 ?_
                      refine am_e35 hi_181_397 ?_
                      show am_E _ _ _ _ [some (.ref 39), some (.int 28), some (.int on), some (.int tw), some (.int th)] [] _ _
                      refine am_e35 hi_180_13 ?_
                      have hRc := rj_clear0 hR442_
                      refine ⟨_, _, [], _, rfl, hS437, Or.inr ⟨hRc, rfl, (by show 0 ≤ z321.toInt; omega), (by show z321.toInt ≤ (f 0).toInt; omega), (by show 0 ≤ (f 32).toInt; omega), (by show (f 32).toInt ≤ 63; omega), (by show 1 ≤ (f 53).toInt; omega), (by show (f 53).toInt ≤ 600; omega), (by show 0 ≤ z419.toInt; omega), (by show z419.toInt ≤ 60000; omega), (by show 0 ≤ (f 48).toInt; omega), (by show (f 48).toInt ≤ 8000; omega), (by show 0 ≤ (f 37).toInt; omega), (by show (f 37).toInt ≤ 128; omega), (by show 0 ≤ o281.toInt; omega), (by show o281.toInt ≤ 65000; omega), (by show 0 ≤ (f 19).toInt; omega), (by show (f 19).toInt ≤ 600; omega), (by show 0 ≤ a382.toInt; omega), (by show 0 ≤ (f 8).toInt; omega)⟩⟩
                · subst hv332
                  have h334_ : (0 : Int) ≤ a330.toInt := h334
                  replace hS333 : MS S0 S320 (upd (upd (upd (upd (upd (upd f 6 a330) 7 b331) 10 0) 62 o281) 68 s282) 75 m283) g'297 := hS333
                  have hR443 := rj_clear0 hR302_
                  have hR444 : RJ (upd (upd (upd (upd (upd (upd f 6 a330) 7 b331) 10 0) 62 o281) 68 s282) 75 m283) g'297 [] bc [] 0 [] := hR443
                  show am_E _ _ _ _ [some (.ref 39), some (.int 0), some (.int (f 4))] [.int 0] _ _
                  refine am_e12t hi_212_83 (by decide) ?_
                  refine am_e35 hi_212_125 ?_
                  show am_E _ _ _ _ [some (.ref 39), some (.int r2), some (.int (f 4)), none] [] _ _
                  refine am_e35 hi_211_249 ?_
                  show am_E _ _ _ _ [some (.ref 39), some (.int 28), some (.int on), some (.int tw)] [] _ _
                  refine am_e18 hi_181_180 ?_
                  refine am_e35 hi_181_397 ?_
                  show am_E _ _ _ _ [some (.ref 39), some (.int 28), some (.int on), some (.int tw), some (.int th)] [] _ _
                  refine am_e35 hi_180_13 ?_
                  have hRc := rj_clear0 hR444
                  refine ⟨_, _, [], _, rfl, hS333, Or.inr ⟨hRc, rfl, (by show 0 ≤ (f 4).toInt; omega), (by show (f 4).toInt ≤ (f 0).toInt; omega), (by show 0 ≤ (f 32).toInt; omega), (by show (f 32).toInt ≤ 63; omega), (by show 1 ≤ (f 53).toInt; omega), (by show (f 53).toInt ≤ 600; omega), (by show 0 ≤ s282.toInt; omega), (by show s282.toInt ≤ 60000; omega), (by show 0 ≤ (f 48).toInt; omega), (by show (f 48).toInt ≤ 8000; omega), (by show 0 ≤ (f 37).toInt; omega), (by show (f 37).toInt ≤ 128; omega), (by show 0 ≤ o281.toInt; omega), (by show o281.toInt ≤ 65000; omega), (by show 0 ≤ (f 19).toInt; omega), (by show (f 19).toInt ≤ 600; omega), (by show 0 ≤ a330.toInt; omega), (by show 0 ≤ (f 8).toInt; omega)⟩⟩
              · refine am_e13f hi_212_58 (am_cF (m := r313.toInt) (n := (62 : Int)) rfl (by decide) c318) ?_
                refine am_e2 (v := 39) hi_212_61 rfl ?_
                refine am_e0 hi_212_62 ?_
                refine am_e1 (v := 0) hi_212_64 rfl ?_
                refine am_e1 (v := f 4) hi_212_65 rfl ?_
                refine am_e0 hi_212_66 ?_
                refine am_e32n (as := [.ref 39, .int 33, .int 0, .int (f 4), .int 0]) (la := [some (.ref 39), some (.int 33), some (.int 0), some (.int (f 4)), some (.int 0)]) (rest := []) hi_212_67 (am_hd0 (M := 212) (by decide) 67) (Nat.le_of_ble_eq_true rfl) (Nat.le_of_ble_eq_true rfl) (show 5 ≤ am_P0.2.2.1 179 from by decide +kernel) rfl (am_recv_ok hS315.fs) rfl rfl (ct_pile (d := (d + 4)) hS315 hR302_ (mj_e_plain (by decide)) (by show (0 : Int) ≤ z296.toInt; omega) (by show z296.toInt ≤ (65535 : Int); omega)) ?_
                rintro v445 S446 (⟨z447, g'448, hv449, hS450, hR453, h451, h452⟩)
                subst hv449
                have h451_ : z447.toInt = z296.toInt + 1 := h451
                have h452_ : ∀ j, j ∉ [11, 12, 13, 14] → g'448 j = g'297 j := h452
                replace hS450 : MS S0 S446 (upd (upd (upd (upd f 10 z447) 62 o281) 68 s282) 75 m283) g'448 := hS450
                have hR453_ : RJ (upd (upd (upd (upd f 10 z447) 62 o281) 68 s282) 75 m283) g'448 (((33 : Int), (0 : Int), (f 4).toInt, (0 : Int), []) :: (((28 : Int), (0 : Int), (0 : Int), (0 : Int), []) :: gs)) bc [] 0 [] := hR453
                show am_E _ _ _ _ [some (.ref 39), some (.int 0), some (.int (f 4))] [] _ _
                refine am_e2 (v := 39) hi_212_70 rfl ?_
                refine am_e32w (as := [.ref 39]) (la := [some (.ref 39), none]) (rest := []) hi_212_71 (am_hd0 (M := 212) (by decide) 71) (Nat.le_of_ble_eq_true rfl) (Nat.le_of_ble_eq_true rfl) (show 1 ≤ am_P0.2.2.1 192 from by decide +kernel) rfl (am_recv_ok hS450.fs) rfl rfl ?_
                refine am_e2 (v := 39) hi_192_0 rfl ?_
                refine mm_20 (v := .int (f 4)) hS450 hi_192_1 rfl ?_
                refine am_e3 (ls' := [some (.ref 39), some (.int (f 4))]) hi_192_4 (Nat.le_of_ble_eq_true rfl) rfl ?_
                refine am_e2 (v := 39) hi_192_5 rfl ?_
                refine am_e0 hi_192_6 ?_
                refine am_e32n (as := [.ref 39, .int 62]) (la := [some (.ref 39), some (.int 62)]) (rest := []) hi_192_8 (am_hd0 (M := 192) (by decide) 8) (Nat.le_of_ble_eq_true rfl) (Nat.le_of_ble_eq_true rfl) (show 2 ≤ am_P0.2.2.1 193 from by decide +kernel) rfl (am_recv_ok hS450.fs) rfl rfl (ct_enter (d := (d + 1)) hS450   (by show (0 : Int) ≤ (f 4).toInt; omega) (by show (f 0).toInt ≤ (16384 : Int); omega) (by show (0 : Int) ≤ (62 : Int); omega) (by show (0 : Int) ≤ (f 5).toInt; omega) (by show (f 5).toInt ≤ (48 : Int); omega) (by show (0 : Int) ≤ (f 6).toInt; omega)) ?_
                rintro v454 S455 (⟨z456, y457, hv458, hS459, h460, h461, h462, h463⟩ | ⟨a465, b466, hv467, hS468, h469⟩)
                · subst hv458
                  have h460_ : z456.toInt = (f 4).toInt + 1 := h460
                  have h461_ : (f 4).toInt < (f 0).toInt := h461
                  have h462_ : y457.toInt = (f 5).toInt + 1 := h462
                  have h463_ : y457.toInt ≤ (48 : Int) := h463
                  replace hS459 : MS S0 S455 (upd (upd (upd (upd (upd (upd f 4 z456) 5 y457) 10 z447) 62 o281) 68 s282) 75 m283) g'448 := hS459
                  have hR471 : RJ (upd (upd (upd (upd (upd (upd f 4 z456) 5 y457) 10 z447) 62 o281) 68 s282) 75 m283) g'448 (((33 : Int), (0 : Int), (f 4).toInt, (0 : Int), []) :: (((28 : Int), (0 : Int), (0 : Int), (0 : Int), []) :: gs)) bc [] 0 [] := RJ.at hR453_ (by show (f 4).toInt ≤ z456.toInt; omega)
                  show am_E _ _ _ _ [some (.ref 39), some (.int (f 4))] [.int 1] _ _
                  refine am_e12t hi_192_11 (by decide) ?_
                  refine am_e2 (v := 39) hi_192_15 rfl ?_
                  refine am_e0 hi_192_16 ?_
                  refine am_e0 hi_192_18 ?_
                  refine am_e0 hi_192_19 ?_
                  refine am_e1 (v := f 4) hi_192_20 rfl ?_
                  refine am_e32n (as := [.ref 39, .int 20, .int 0, .int 0, .int (f 4)]) (la := [some (.ref 39), some (.int 20), some (.int 0), some (.int 0), some (.int (f 4))]) (rest := []) hi_192_21 (am_hd0 (M := 192) (by decide) 21) (Nat.le_of_ble_eq_true rfl) (Nat.le_of_ble_eq_true rfl) (show 5 ≤ am_P0.2.2.1 189 from by decide +kernel) rfl (am_recv_ok hS459.fs) rfl rfl (ct_put (d := (d + 3)) hS459 hR471  (by show (0 : Int) ≤ (f 32).toInt; omega) (by show (f 32).toInt ≤ (63 : Int); omega) (by show (f 53).toInt ≤ (4096 : Int); omega) (by show (0 : Int) ≤ s282.toInt; omega) (by show s282.toInt ≤ (65534 : Int); omega)) ?_
                  rintro v472 S473 (⟨z474, r475, g'476, hv477, hS478, hR482, h479, h480, h481⟩)
                  subst hv477
                  have h479_ : z474.toInt = s282.toInt + 1 := h479
                  have h480_ : r475.toInt = s282.toInt := h480
                  have h481_ : ∀ j, j ∉ [60, 69, 70, 71, 72, 73] → g'476 j = g'448 j := h481
                  replace hS478 : MS S0 S473 (upd (upd (upd (upd (upd (upd f 4 z456) 5 y457) 10 z447) 62 o281) 68 z474) 75 m283) g'476 := hS478
                  have hR482_ : RJ (upd (upd (upd (upd (upd (upd f 4 z456) 5 y457) 10 z447) 62 o281) 68 z474) 75 m283) g'476 (((33 : Int), (0 : Int), (f 4).toInt, (0 : Int), []) :: (((28 : Int), (0 : Int), (0 : Int), (0 : Int), []) :: gs)) bc [] 0 (s282.toNatClampNeg :: []) := hR482
                  show am_E _ _ _ _ [some (.ref 39), some (.int (f 4))] [.int r475] _ _
                  refine am_e6i hi_192_24 ?_
                  refine am_e2 (v := 39) hi_192_25 rfl ?_
                  refine am_e0 hi_192_26 ?_
                  refine am_e0 hi_192_27 ?_
                  refine am_e0 hi_192_28 ?_
                  refine am_e32n (as := [.ref 39, .int 0, .int 0, .int 0]) (la := [some (.ref 39), some (.int 0), some (.int 0), some (.int 0)]) (rest := []) hi_192_29 (am_hd0 (M := 192) (by decide) 29) (Nat.le_of_ble_eq_true rfl) (Nat.le_of_ble_eq_true rfl) (show 4 ≤ am_P0.2.2.1 190 from by decide +kernel) rfl (am_recv_ok hS478.fs) rfl rfl (ct_value (d := (d + 3)) hS478 hR482_ (fun h => absurd h (by decide)) (fun h => absurd h (by decide)) (by show (0 : Int) ≤ (f 15).toInt; omega) (by show (f 15).toInt ≤ (32767 : Int); omega)) ?_
                  rintro v483 S484 (⟨z485, g'486, hv487, hS488, hR493, h489, h490, h491, h492⟩)
                  subst hv487
                  have h489_ : z485.toInt = (f 15).toInt + 1 := h489
                  have h490_ : ∀ j, j ∉ [16, 17, 18] → g'486 j = g'476 j := h490
                  have h491_ : mj_n (g'486 16) z485.toNatClampNeg 3 ≤ mj_n (g'284 16) (f 15).toNatClampNeg 3 + 1 := by rw [show g'476 16 = g'448 16 from h481_ 16 (by decide), show g'448 16 = g'297 16 from h452_ 16 (by decide), show g'297 16 = g'284 16 from h301_ 16 (by decide)] at h491; exact h491
                  have h492_ : (0 : Int) = 3 ∨ mj_n (g'486 16) z485.toNatClampNeg 3 ≤ mj_n (g'284 16) (f 15).toNatClampNeg 3 := by rw [show g'476 16 = g'448 16 from h481_ 16 (by decide), show g'448 16 = g'297 16 from h452_ 16 (by decide), show g'297 16 = g'284 16 from h301_ 16 (by decide)] at h492; exact h492
                  replace hS488 : MS S0 S484 (upd (upd (upd (upd (upd (upd (upd f 4 z456) 5 y457) 10 z447) 15 z485) 62 o281) 68 z474) 75 m283) g'486 := hS488
                  have hR493_ : RJ (upd (upd (upd (upd (upd (upd (upd f 4 z456) 5 y457) 10 z447) 15 z485) 62 o281) 68 z474) 75 m283) g'486 (((33 : Int), (0 : Int), (f 4).toInt, (0 : Int), []) :: (((28 : Int), (0 : Int), (0 : Int), (0 : Int), []) :: gs)) bc [] 0 (s282.toNatClampNeg :: []) := hR493
                  show am_E _ _ _ _ [some (.ref 39), some (.int (f 4))] [] _ _
                  refine am_e2 (v := 39) hi_192_32 rfl ?_
                  refine am_e0 hi_192_33 ?_
                  refine am_e0 hi_192_35 ?_
                  refine am_e0 hi_192_36 ?_
                  refine am_e0 hi_192_37 ?_
                  refine am_e32n (as := [.ref 39, .int 35, .int 0, .int 0, .int 0]) (la := [some (.ref 39), some (.int 35), some (.int 0), some (.int 0), some (.int 0)]) (rest := []) hi_192_38 (am_hd0 (M := 192) (by decide) 38) (Nat.le_of_ble_eq_true rfl) (Nat.le_of_ble_eq_true rfl) (show 5 ≤ am_P0.2.2.1 179 from by decide +kernel) rfl (am_recv_ok hS488.fs) rfl rfl (ct_pile (d := (d + 3)) hS488 hR493_ (mj_e_plain (by decide)) (by show (0 : Int) ≤ z447.toInt; omega) (by show z447.toInt ≤ (65535 : Int); omega)) ?_
                  rintro v494 S495 (⟨z496, g'497, hv498, hS499, hR502, h500, h501⟩)
                  subst hv498
                  have h500_ : z496.toInt = z447.toInt + 1 := h500
                  have h501_ : ∀ j, j ∉ [11, 12, 13, 14] → g'497 j = g'486 j := h501
                  replace hS499 : MS S0 S495 (upd (upd (upd (upd (upd (upd (upd f 4 z456) 5 y457) 10 z496) 15 z485) 62 o281) 68 z474) 75 m283) g'497 := hS499
                  have hR502_ : RJ (upd (upd (upd (upd (upd (upd (upd f 4 z456) 5 y457) 10 z496) 15 z485) 62 o281) 68 z474) 75 m283) g'497 (((35 : Int), (0 : Int), (0 : Int), (0 : Int), []) :: (((33 : Int), (0 : Int), (f 4).toInt, (0 : Int), []) :: (((28 : Int), (0 : Int), (0 : Int), (0 : Int), []) :: gs))) bc [] 0 (s282.toNatClampNeg :: []) := hR502
                  show am_E _ _ _ _ [some (.ref 39), some (.int (f 4))] [] _ _
                  refine am_e35 hi_192_41 ?_
                  show am_E _ _ _ _ [some (.ref 39), some (.int 0), some (.int (f 4))] [] _ _
                  refine am_e18 hi_212_74 ?_
                  refine am_e35 hi_212_125 ?_
                  show am_E _ _ _ _ [some (.ref 39), some (.int r2), some (.int (f 4)), none] [] _ _
                  refine am_e35 hi_211_249 ?_
                  show am_E _ _ _ _ [some (.ref 39), some (.int 28), some (.int on), some (.int tw)] [] _ _
                  refine am_e18 hi_181_180 ?_
                  refine am_e35 hi_181_397 ?_
                  show am_E _ _ _ _ [some (.ref 39), some (.int 28), some (.int on), some (.int tw), some (.int th)] [] _ _
                  refine am_e35 hi_180_13 ?_
                  have q1 : mg_p1 (((35 : Int), (0 : Int), (0 : Int), (0 : Int), []) :: (((33 : Int), (0 : Int), (f 4).toInt, (0 : Int), []) :: (((28 : Int), (0 : Int), (0 : Int), (0 : Int), []) :: gs))) = 0 + (0 + (0 + (mg_p1 gs))) := rfl
                  have q2 : mg_p2 (((35 : Int), (0 : Int), (0 : Int), (0 : Int), []) :: (((33 : Int), (0 : Int), (f 4).toInt, (0 : Int), []) :: (((28 : Int), (0 : Int), (0 : Int), (0 : Int), []) :: gs))) = 0 + (0 + (0 + (mg_p2 gs))) := rfl
                  have q3 : mg_p3 (((35 : Int), (0 : Int), (0 : Int), (0 : Int), []) :: (((33 : Int), (0 : Int), (f 4).toInt, (0 : Int), []) :: (((28 : Int), (0 : Int), (0 : Int), (0 : Int), []) :: gs))) = 3 + (1 + (1 + (mg_p3 gs))) := rfl
                  have q4 : mg_p4 (((35 : Int), (0 : Int), (0 : Int), (0 : Int), []) :: (((33 : Int), (0 : Int), (f 4).toInt, (0 : Int), []) :: (((28 : Int), (0 : Int), (0 : Int), (0 : Int), []) :: gs))) = 0 + (3 + (0 + (mg_p4 gs))) := rfl
                  refine ⟨_, _, _, bc, rfl, hS499, Or.inl ⟨⟨(RJ.fewer (pj' := []) hR502_ (fun _ h => nomatch h)), ?_, ?_⟩, rfl, ?_⟩⟩
                  · exact (⟨⟨(show mg_k 35 from by decide), (show (0 : Int) ≤ z485.toInt from by omega), (show 0 ≤ (f 20).toInt from by omega), (show 1 ≤ (f 37).toInt from by omega), (show 0 ≤ (f 32).toInt from by omega), (show (f 32).toInt ≤ y457.toInt from by omega), (show y457.toInt ≤ 48 from by omega), (show (f 37).toInt ≤ 2 * (y457.toInt) + 2 from by omega), trivial⟩, ⟨⟨(show mg_k 33 from by decide), (show (2 : Int) ≤ z485.toInt + 0 from by omega), (show 0 ≤ (f 20).toInt from by omega), (show 1 ≤ (f 37).toInt + 0 from by omega), (show 0 ≤ (f 32).toInt + 0 from by omega), (show (f 32).toInt + 0 ≤ y457.toInt + -1 from by omega), (show y457.toInt + -1 ≤ 48 from by omega), (show (f 37).toInt + 0 ≤ 2 * (y457.toInt + -1) + 2 from by omega), trivial⟩, ⟨⟨(show mg_k 28 from by decide), (show (1 : Int) ≤ z485.toInt + 0 + -1 from by omega), (show 0 ≤ (f 20).toInt from by omega), (show 1 ≤ (f 37).toInt + 0 + 0 from by omega), (show 0 ≤ (f 32).toInt + 0 + 0 from by omega), (show (f 32).toInt + 0 + 0 ≤ y457.toInt + -1 + 0 from by omega), (show y457.toInt + -1 + 0 ≤ 48 from by omega), (show (f 37).toInt + 0 + 0 ≤ 2 * (y457.toInt + -1 + 0) + 2 from by omega), trivial⟩, mg_cast (mg_good_ext _ _ _ _ _ _ (fun i _ => by show g'497 34 i = g 34 i; rw [show g'497 34 = g'486 34 from h501_ 34 (by decide), show g'486 34 = g'476 34 from h490_ 34 (by decide), show g'476 34 = g'448 34 from h481_ 34 (by decide), show g'448 34 = g'297 34 from h452_ 34 (by decide), show g'297 34 = g'284 34 from h301_ 34 (by decide), show g'284 34 = g 34 from h292_ 34 (by decide)]) (fun i _ => by show g'497 38 i = g 38 i; rw [show g'497 38 = g'486 38 from h501_ 38 (by decide), show g'486 38 = g'476 38 from h490_ 38 (by decide), show g'476 38 = g'448 38 from h481_ 38 (by decide), show g'448 38 = g'297 38 from h452_ 38 (by decide), show g'297 38 = g'284 38 from h301_ 38 (by decide), show g'284 38 = g 38 from h292_ 38 (by decide)]) (fun i _ => by show g'497 23 i = g 23 i; rw [show g'497 23 = g'486 23 from h501_ 23 (by decide), show g'486 23 = g'476 23 from h490_ 23 (by decide), show g'476 23 = g'448 23 from h481_ 23 (by decide), show g'448 23 = g'297 23 from h452_ 23 (by decide), show g'297 23 = g'284 23 from h301_ 23 (by decide), show g'284 23 = g 23 from h292_ 23 (by decide)]) hrest) (by show (f 15).toInt + 0 = z485.toInt + 0 + -1 + 0; omega) (by show (f 20).toInt = (f 20).toInt; omega) (by show (f 37).toInt + 0 = (f 37).toInt + 0 + 0 + 0; omega) (by show (f 32).toInt + 0 = (f 32).toInt + 0 + 0 + 0; omega) (by show (f 5).toInt + 0 = y457.toInt + -1 + 0 + 0; omega)⟩⟩⟩ : mg_good (g'497 34) (g'497 38) (g'497 23) (((35 : Int), (0 : Int), (0 : Int), (0 : Int), []) :: (((33 : Int), (0 : Int), (f 4).toInt, (0 : Int), []) :: (((28 : Int), (0 : Int), (0 : Int), (0 : Int), []) :: gs))) (z485.toInt) ((f 20).toInt) ((f 37).toInt) ((f 32).toInt) (y457.toInt))
                  · exact ⟨(by show 0 ≤ z456.toInt; omega), (by show z456.toInt ≤ (f 0).toInt; omega), (by show (f 0).toInt ≤ 512; omega), (by show 0 ≤ (f 24).toInt; omega), (by show (f 24).toInt + (f 20).toInt + mg_p1 (((35 : Int), (0 : Int), (0 : Int), (0 : Int), []) :: (((33 : Int), (0 : Int), (f 4).toInt, (0 : Int), []) :: (((28 : Int), (0 : Int), (0 : Int), (0 : Int), []) :: gs))) ≤ 4 * z456.toInt; omega), (by show (f 20).toInt ≤ z456.toInt; omega), (by show z485.toInt + mg_p2 (((35 : Int), (0 : Int), (0 : Int), (0 : Int), []) :: (((33 : Int), (0 : Int), (f 4).toInt, (0 : Int), []) :: (((28 : Int), (0 : Int), (0 : Int), (0 : Int), []) :: gs))) ≤ z456.toInt; omega), (by show mg_p3 (((35 : Int), (0 : Int), (0 : Int), (0 : Int), []) :: (((33 : Int), (0 : Int), (f 4).toInt, (0 : Int), []) :: (((28 : Int), (0 : Int), (0 : Int), (0 : Int), []) :: gs))) ≤ 20 * z456.toInt + 20; omega), (by show 0 ≤ z474.toInt; omega), (by show z474.toInt + 3 * (f 20).toInt + mg_p4 (((35 : Int), (0 : Int), (0 : Int), (0 : Int), []) :: (((33 : Int), (0 : Int), (f 4).toInt, (0 : Int), []) :: (((28 : Int), (0 : Int), (0 : Int), (0 : Int), []) :: gs))) ≤ 60 * z456.toInt + 60; omega), (by show 0 ≤ o281.toInt; omega), (by show o281.toInt + 64 * mj_n (g'497 16) z485.toNatClampNeg 3 ≤ 64 * z456.toInt; rw [show g'497 16 = g'486 16 from h501_ 16 (by decide)]; omega), (by show 0 ≤ (f 44).toInt; omega), (by show (f 44).toInt ≤ z456.toInt; omega), (by show 0 ≤ (f 48).toInt; omega), (by show (f 48).toInt ≤ z456.toInt; omega), (by show 1 ≤ (f 53).toInt; omega), (by show (f 53).toInt ≤ z456.toInt + 1; omega), (by show 0 ≤ (f 19).toInt; omega), (by show (f 19).toInt ≤ 600; omega), (by show 0 ≤ (f 6).toInt; omega), (by show 0 ≤ (f 8).toInt; omega)⟩
                  · show 100 * ((f 0).toInt - z456.toInt) + mg_p3 (((35 : Int), (0 : Int), (0 : Int), (0 : Int), []) :: (((33 : Int), (0 : Int), (f 4).toInt, (0 : Int), []) :: (((28 : Int), (0 : Int), (0 : Int), (0 : Int), []) :: gs))) < 100 * ((f 0).toInt - (f 4).toInt) + (1 + mg_p3 gs); omega
                · subst hv467
                  have h469_ : (0 : Int) ≤ a465.toInt := h469
                  replace hS468 : MS S0 S455 (upd (upd (upd (upd (upd (upd f 6 a465) 7 b466) 10 0) 62 o281) 68 s282) 75 m283) g'448 := hS468
                  have hR503 := rj_clear0 hR453_
                  have hR504 : RJ (upd (upd (upd (upd (upd (upd f 6 a465) 7 b466) 10 0) 62 o281) 68 s282) 75 m283) g'448 [] bc [] 0 [] := hR503
                  show am_E _ _ _ _ [some (.ref 39), some (.int (f 4))] [.int 0] _ _
                  refine am_e12f hi_192_11 (by decide) ?_
                  refine am_e35 hi_192_14 ?_
                  show am_E _ _ _ _ [some (.ref 39), some (.int 0), some (.int (f 4))] [] _ _
                  refine am_e18 hi_212_74 ?_
                  refine am_e35 hi_212_125 ?_
                  show am_E _ _ _ _ [some (.ref 39), some (.int r2), some (.int (f 4)), none] [] _ _
                  refine am_e35 hi_211_249 ?_
                  show am_E _ _ _ _ [some (.ref 39), some (.int 28), some (.int on), some (.int tw)] [] _ _
                  refine am_e18 hi_181_180 ?_
                  refine am_e35 hi_181_397 ?_
                  show am_E _ _ _ _ [some (.ref 39), some (.int 28), some (.int on), some (.int tw), some (.int th)] [] _ _
                  refine am_e35 hi_180_13 ?_
                  have hRc := rj_clear0 hR504
                  refine ⟨_, _, [], _, rfl, hS468, Or.inr ⟨hRc, rfl, (by show 0 ≤ (f 4).toInt; omega), (by show (f 4).toInt ≤ (f 0).toInt; omega), (by show 0 ≤ (f 32).toInt; omega), (by show (f 32).toInt ≤ 63; omega), (by show 1 ≤ (f 53).toInt; omega), (by show (f 53).toInt ≤ 600; omega), (by show 0 ≤ s282.toInt; omega), (by show s282.toInt ≤ 60000; omega), (by show 0 ≤ (f 48).toInt; omega), (by show (f 48).toInt ≤ 8000; omega), (by show 0 ≤ (f 37).toInt; omega), (by show (f 37).toInt ≤ 128; omega), (by show 0 ≤ o281.toInt; omega), (by show o281.toInt ≤ 65000; omega), (by show 0 ≤ (f 19).toInt; omega), (by show (f 19).toInt ≤ 600; omega), (by show 0 ≤ a465.toInt; omega), (by show 0 ≤ (f 8).toInt; omega)⟩⟩
            · refine am_e13f hi_212_10 (am_cF (m := r305.toInt) (n := (3 : Int)) rfl (by decide) c310) ?_
              refine am_e2 (v := 39) hi_212_13 rfl ?_
              refine am_e0 hi_212_14 ?_
              refine am_e2 (v := 39) hi_212_15 rfl ?_
              refine mm_20 (v := .ref 41) hS307 hi_212_16 rfl ?_
              refine am_e2 (v := 39) hi_212_19 rfl ?_
              refine mm_20 (v := .int (f 4)) hS307 hi_212_20 rfl ?_
              refine mm_25 hS307 ma_2 hi_212_23 (by decide) (by omega) (by omega) ?_
              show am_E _ _ _ _ _ (.int (g'297 2 (f 4).toNatClampNeg) :: _) _ _
              rw [show g'297 2 = g'284 2 from h301_ 2 (by decide), show g'284 2 = g 2 from h292_ 2 (by decide)]
              show am_E _ _ _ _ [some (.ref 39), some (.int 0), some (.int (f 4))] [.int (g 2 (f 4).toNatClampNeg), .int 5, .ref 39] _ _
              refine am_e0 hi_212_24 ?_
              refine am_e0 hi_212_25 ?_
              refine am_e32n (as := [.ref 39, .int 5, .int (g 2 (f 4).toNatClampNeg), .int 0, .int 0]) (la := [some (.ref 39), some (.int 5), some (.int (g 2 (f 4).toNatClampNeg)), some (.int 0), some (.int 0)]) (rest := []) hi_212_26 (am_hd0 (M := 212) (by decide) 26) (Nat.le_of_ble_eq_true rfl) (Nat.le_of_ble_eq_true rfl) (show 5 ≤ am_P0.2.2.1 189 from by decide +kernel) rfl (am_recv_ok hS307.fs) rfl rfl (ct_put (d := (d + 4)) hS307 hR302_  (by show (0 : Int) ≤ (f 32).toInt; omega) (by show (f 32).toInt ≤ (63 : Int); omega) (by show (f 53).toInt ≤ (4096 : Int); omega) (by show (0 : Int) ≤ s282.toInt; omega) (by show s282.toInt ≤ (65534 : Int); omega)) ?_
              rintro v505 S506 (⟨z507, r508, g'509, hv510, hS511, hR515, h512, h513, h514⟩)
              subst hv510
              have h512_ : z507.toInt = s282.toInt + 1 := h512
              have h513_ : r508.toInt = s282.toInt := h513
              have h514_ : ∀ j, j ∉ [60, 69, 70, 71, 72, 73] → g'509 j = g'297 j := h514
              replace hS511 : MS S0 S506 (upd (upd (upd (upd f 10 z296) 62 o281) 68 z507) 75 m283) g'509 := hS511
              have hR515_ : RJ (upd (upd (upd (upd f 10 z296) 62 o281) 68 z507) 75 m283) g'509 (((28 : Int), (0 : Int), (0 : Int), (0 : Int), []) :: gs) bc [] 0 (s282.toNatClampNeg :: []) := hR515
              show am_E _ _ _ _ [some (.ref 39), some (.int 0), some (.int (f 4))] [.int r508] _ _
              refine am_e6i hi_212_29 ?_
              refine am_e2 (v := 39) hi_212_30 rfl ?_
              refine am_e7 hi_212_31 ?_
              refine mm_20 (v := .int (f 4)) hS511 hi_212_32 rfl ?_
              refine am_e0 hi_212_35 ?_
              obtain ⟨z516, hz516, tz516⟩ := am_addI (x := f 4) (y := 1) (m := (f 4).toInt) (n := (1 : Int)) rfl (by decide) (by omega) (by omega)
              refine am_e10 (z := z516) hi_212_36 hz516 ?_
              refine mm_21 (v := z516) hS511 hi_212_37 rfl (Nat.le_of_ble_eq_true rfl) ms_4 ?_
              intro S517 hS518
              replace hS518 : MS S0 S517 (upd (upd (upd (upd (upd f 4 z516) 10 z296) 62 o281) 68 z507) 75 m283) g'509 := hS518
              have hR519 : RJ (upd (upd (upd (upd (upd f 4 z516) 10 z296) 62 o281) 68 z507) 75 m283) g'509 (((28 : Int), (0 : Int), (0 : Int), (0 : Int), []) :: gs) bc [] 0 (s282.toNatClampNeg :: []) := RJ.at hR515_ (by show (f 4).toInt ≤ z516.toInt; omega)
              refine am_e2 (v := 39) hi_212_40 rfl ?_
              refine am_e0 hi_212_41 ?_
              refine am_e1 (v := 0) hi_212_42 rfl ?_
              refine am_e10 (z := 1) hi_212_43 (by decide) ?_
              refine am_e0 hi_212_44 ?_
              refine am_e1 (v := f 4) hi_212_45 rfl ?_
              refine am_e32w (as := [.ref 39, .int 1, .int 0, .int (f 4)]) (la := [some (.ref 39), some (.int 1), some (.int 0), some (.int (f 4)), none]) (rest := []) hi_212_46 (am_hd0 (M := 212) (by decide) 46) (Nat.le_of_ble_eq_true rfl) (Nat.le_of_ble_eq_true rfl) (show 4 ≤ am_P0.2.2.1 213 from by decide +kernel) rfl (am_recv_ok hS518.fs) rfl rfl ?_
              refine am_e2 (v := 39) hi_213_0 rfl ?_
              refine am_e0 hi_213_1 ?_
              refine am_e1 (v := 1) hi_213_3 rfl ?_
              refine am_e1 (v := 0) hi_213_4 rfl ?_
              refine am_e0 hi_213_5 ?_
              refine am_e10 (z := 2) hi_213_6 (by decide) ?_
              refine am_e1 (v := f 4) hi_213_7 rfl ?_
              refine am_e32n (as := [.ref 39, .int 13, .int 1, .int 2, .int (f 4)]) (la := [some (.ref 39), some (.int 13), some (.int 1), some (.int 2), some (.int (f 4))]) (rest := []) hi_213_8 (am_hd0 (M := 213) (by decide) 8) (Nat.le_of_ble_eq_true rfl) (Nat.le_of_ble_eq_true rfl) (show 5 ≤ am_P0.2.2.1 189 from by decide +kernel) rfl (am_recv_ok hS518.fs) rfl rfl (ct_put (d := (d + 3)) hS518 hR519  (by show (0 : Int) ≤ (f 32).toInt; omega) (by show (f 32).toInt ≤ (63 : Int); omega) (by show (f 53).toInt ≤ (4096 : Int); omega) (by show (0 : Int) ≤ z507.toInt; omega) (by show z507.toInt ≤ (65534 : Int); omega)) ?_
              rintro v520 S521 (⟨z522, r523, g'524, hv525, hS526, hR530, h527, h528, h529⟩)
              subst hv525
              have h527_ : z522.toInt = z507.toInt + 1 := h527
              have h528_ : r523.toInt = z507.toInt := h528
              have h529_ : ∀ j, j ∉ [60, 69, 70, 71, 72, 73] → g'524 j = g'509 j := h529
              replace hS526 : MS S0 S521 (upd (upd (upd (upd (upd f 4 z516) 10 z296) 62 o281) 68 z522) 75 m283) g'524 := hS526
              have hR530_ : RJ (upd (upd (upd (upd (upd f 4 z516) 10 z296) 62 o281) 68 z522) 75 m283) g'524 (((28 : Int), (0 : Int), (0 : Int), (0 : Int), []) :: gs) bc [] 0 (z507.toNatClampNeg :: (s282.toNatClampNeg :: [])) := hR530
              show am_E _ _ _ _ [some (.ref 39), some (.int 1), some (.int 0), some (.int (f 4)), none] [.int r523] _ _
              refine am_e3 (ls' := [some (.ref 39), some (.int 1), some (.int 0), some (.int (f 4)), some (.int r523)]) hi_213_11 (Nat.le_of_ble_eq_true rfl) rfl ?_
              refine am_e2 (v := 39) hi_213_13 rfl ?_
              refine am_e7 hi_213_14 ?_
              refine mm_20 (v := .int (f 15)) hS526 hi_213_15 rfl ?_
              refine am_e0 hi_213_18 ?_
              obtain ⟨z531, hz531, tz531⟩ := am_subI (x := f 15) (y := 1) (m := (f 15).toInt) (n := (1 : Int)) rfl (by decide) (by omega) (by omega)
              refine am_e10 (z := z531) hi_213_19 hz531 ?_
              refine mm_21 (v := z531) hS526 hi_213_20 rfl (Nat.le_of_ble_eq_true rfl) ms_15 ?_
              intro S532 hS533
              replace hS533 : MS S0 S532 (upd (upd (upd (upd (upd (upd f 4 z516) 10 z296) 15 z531) 62 o281) 68 z522) 75 m283) g'524 := hS533
              have hp534 : mj_n (g'284 16) (f 15).toNatClampNeg 3 = mj_n (g'284 16) z531.toNatClampNeg 3 + if (g'284 16 z531.toNatClampNeg).toInt = 3 then 1 else 0 := mj_pop (by rw [cl_toNat, cl_toNat]; omega)
              have hp5341 : mj_n (g'284 16) z531.toNatClampNeg 3 ≤ mj_n (g'284 16) (f 15).toNatClampNeg 3 := by rw [hp534]; split <;> omega
              have hp5342 : (g'284 16 z531.toNatClampNeg).toInt = 3 → mj_n (g'284 16) z531.toNatClampNeg 3 + 1 ≤ mj_n (g'284 16) (f 15).toNatClampNeg 3 := fun q => by rw [hp534, if_pos q]; exact Int.le_refl _
              refine am_e2 (v := 39) hi_213_23 rfl ?_
              refine am_e0 hi_213_24 ?_
              refine am_e1 (v := r523) hi_213_25 rfl ?_
              refine am_e1 (v := f 4) hi_213_27 rfl ?_
              refine am_e32n (as := [.ref 39, .int 1, .int r523, .int (f 4)]) (la := [some (.ref 39), some (.int 1), some (.int r523), some (.int (f 4))]) (rest := []) hi_213_28 (am_hd0 (M := 213) (by decide) 28) (Nat.le_of_ble_eq_true rfl) (Nat.le_of_ble_eq_true rfl) (show 4 ≤ am_P0.2.2.1 190 from by decide +kernel) rfl (am_recv_ok hS533.fs) rfl rfl (ct_value (d := (d + 3)) hS533 hR530_ (fun h => absurd h (by decide)) (fun _ => ⟨by omega, by omega⟩) (by show (0 : Int) ≤ z531.toInt; omega) (by show z531.toInt ≤ (32767 : Int); omega)) ?_
              rintro v535 S536 (⟨z537, g'538, hv539, hS540, hR545, h541, h542, h543, h544⟩)
              subst hv539
              have h541_ : z537.toInt = z531.toInt + 1 := h541
              have h542_ : ∀ j, j ∉ [16, 17, 18] → g'538 j = g'524 j := h542
              have h543_ : mj_n (g'538 16) z537.toNatClampNeg 3 ≤ mj_n (g'284 16) z531.toNatClampNeg 3 + 1 := by rw [show g'524 16 = g'509 16 from h529_ 16 (by decide), show g'509 16 = g'297 16 from h514_ 16 (by decide), show g'297 16 = g'284 16 from h301_ 16 (by decide)] at h543; exact h543
              have h544_ : (1 : Int) = 3 ∨ mj_n (g'538 16) z537.toNatClampNeg 3 ≤ mj_n (g'284 16) z531.toNatClampNeg 3 := by rw [show g'524 16 = g'509 16 from h529_ 16 (by decide), show g'509 16 = g'297 16 from h514_ 16 (by decide), show g'297 16 = g'284 16 from h301_ 16 (by decide)] at h544; exact h544
              replace hS540 : MS S0 S536 (upd (upd (upd (upd (upd (upd f 4 z516) 10 z296) 15 z537) 62 o281) 68 z522) 75 m283) g'538 := hS540
              have hR545_ : RJ (upd (upd (upd (upd (upd (upd f 4 z516) 10 z296) 15 z537) 62 o281) 68 z522) 75 m283) g'538 (((28 : Int), (0 : Int), (0 : Int), (0 : Int), []) :: gs) bc [] 0 (z507.toNatClampNeg :: (s282.toNatClampNeg :: [])) := hR545
              show am_E _ _ _ _ [some (.ref 39), some (.int 1), some (.int 0), some (.int (f 4)), some (.int r523)] [] _ _
              refine am_e35 hi_213_31 ?_
              show am_E _ _ _ _ [some (.ref 39), some (.int 0), some (.int (f 4))] [] _ _
              refine am_e18 hi_212_49 ?_
              refine am_e35 hi_212_125 ?_
              show am_E _ _ _ _ [some (.ref 39), some (.int r2), some (.int (f 4)), none] [] _ _
              refine am_e35 hi_211_249 ?_
              show am_E _ _ _ _ [some (.ref 39), some (.int 28), some (.int on), some (.int tw)] [] _ _
              refine am_e18 hi_181_180 ?_
              refine am_e35 hi_181_397 ?_
              show am_E _ _ _ _ [some (.ref 39), some (.int 28), some (.int on), some (.int tw), some (.int th)] [] _ _
              refine am_e35 hi_180_13 ?_
              have q1 : mg_p1 (((28 : Int), (0 : Int), (0 : Int), (0 : Int), []) :: gs) = 0 + (mg_p1 gs) := rfl
              have q2 : mg_p2 (((28 : Int), (0 : Int), (0 : Int), (0 : Int), []) :: gs) = 0 + (mg_p2 gs) := rfl
              have q3 : mg_p3 (((28 : Int), (0 : Int), (0 : Int), (0 : Int), []) :: gs) = 1 + (mg_p3 gs) := rfl
              have q4 : mg_p4 (((28 : Int), (0 : Int), (0 : Int), (0 : Int), []) :: gs) = 0 + (mg_p4 gs) := rfl
              refine ⟨_, _, _, bc, rfl, hS540, Or.inl ⟨⟨(RJ.fewer (pj' := []) hR545_ (fun _ h => nomatch h)), ?_, ?_⟩, rfl, ?_⟩⟩
              · exact (⟨⟨(show mg_k 28 from by decide), (show (1 : Int) ≤ z537.toInt from by omega), (show 0 ≤ (f 20).toInt from by omega), (show 1 ≤ (f 37).toInt from by omega), (show 0 ≤ (f 32).toInt from by omega), (show (f 32).toInt ≤ (f 5).toInt from by omega), (show (f 5).toInt ≤ 48 from by omega), (show (f 37).toInt ≤ 2 * ((f 5).toInt) + 2 from by omega), trivial⟩, mg_cast (mg_good_ext _ _ _ _ _ _ (fun i _ => by show g'538 34 i = g 34 i; rw [show g'538 34 = g'524 34 from h542_ 34 (by decide), show g'524 34 = g'509 34 from h529_ 34 (by decide), show g'509 34 = g'297 34 from h514_ 34 (by decide), show g'297 34 = g'284 34 from h301_ 34 (by decide), show g'284 34 = g 34 from h292_ 34 (by decide)]) (fun i _ => by show g'538 38 i = g 38 i; rw [show g'538 38 = g'524 38 from h542_ 38 (by decide), show g'524 38 = g'509 38 from h529_ 38 (by decide), show g'509 38 = g'297 38 from h514_ 38 (by decide), show g'297 38 = g'284 38 from h301_ 38 (by decide), show g'284 38 = g 38 from h292_ 38 (by decide)]) (fun i _ => by show g'538 23 i = g 23 i; rw [show g'538 23 = g'524 23 from h542_ 23 (by decide), show g'524 23 = g'509 23 from h529_ 23 (by decide), show g'509 23 = g'297 23 from h514_ 23 (by decide), show g'297 23 = g'284 23 from h301_ 23 (by decide), show g'284 23 = g 23 from h292_ 23 (by decide)]) hrest) (by show (f 15).toInt + 0 = z537.toInt + 0; omega) (by show (f 20).toInt = (f 20).toInt; omega) (by show (f 37).toInt + 0 = (f 37).toInt + 0; omega) (by show (f 32).toInt + 0 = (f 32).toInt + 0; omega) (by show (f 5).toInt + 0 = (f 5).toInt + 0; omega)⟩ : mg_good (g'538 34) (g'538 38) (g'538 23) (((28 : Int), (0 : Int), (0 : Int), (0 : Int), []) :: gs) (z537.toInt) ((f 20).toInt) ((f 37).toInt) ((f 32).toInt) ((f 5).toInt))
              · exact ⟨(by show 0 ≤ z516.toInt; omega), (by show z516.toInt ≤ (f 0).toInt; omega), (by show (f 0).toInt ≤ 512; omega), (by show 0 ≤ (f 24).toInt; omega), (by show (f 24).toInt + (f 20).toInt + mg_p1 (((28 : Int), (0 : Int), (0 : Int), (0 : Int), []) :: gs) ≤ 4 * z516.toInt; omega), (by show (f 20).toInt ≤ z516.toInt; omega), (by show z537.toInt + mg_p2 (((28 : Int), (0 : Int), (0 : Int), (0 : Int), []) :: gs) ≤ z516.toInt; omega), (by show mg_p3 (((28 : Int), (0 : Int), (0 : Int), (0 : Int), []) :: gs) ≤ 20 * z516.toInt + 20; omega), (by show 0 ≤ z522.toInt; omega), (by show z522.toInt + 3 * (f 20).toInt + mg_p4 (((28 : Int), (0 : Int), (0 : Int), (0 : Int), []) :: gs) ≤ 60 * z516.toInt + 60; omega), (by show 0 ≤ o281.toInt; omega), (by show o281.toInt + 64 * mj_n (g'538 16) z537.toNatClampNeg 3 ≤ 64 * z516.toInt; omega), (by show 0 ≤ (f 44).toInt; omega), (by show (f 44).toInt ≤ z516.toInt; omega), (by show 0 ≤ (f 48).toInt; omega), (by show (f 48).toInt ≤ z516.toInt; omega), (by show 1 ≤ (f 53).toInt; omega), (by show (f 53).toInt ≤ z516.toInt + 1; omega), (by show 0 ≤ (f 19).toInt; omega), (by show (f 19).toInt ≤ 600; omega), (by show 0 ≤ (f 6).toInt; omega), (by show 0 ≤ (f 8).toInt; omega)⟩
              · show 100 * ((f 0).toInt - z516.toInt) + mg_p3 (((28 : Int), (0 : Int), (0 : Int), (0 : Int), []) :: gs) < 100 * ((f 0).toInt - (f 4).toInt) + (1 + mg_p3 gs); omega
          · refine am_e13f hi_211_222 (am_cF (m := r2.toInt) (n := (3 : Int)) rfl (by decide) c278) ?_
            refine am_e1 (v := r2) hi_211_225 rfl ?_
            refine am_e0 hi_211_226 ?_
            by_cases c546 : ¬ r2.toInt = (62 : Int)
            · refine am_e13t hi_211_228 (am_cT (m := r2.toInt) (n := (62 : Int)) rfl (by decide) c546) ?_
              refine am_e35 hi_211_249 ?_
              show am_E _ _ _ _ [some (.ref 39), some (.int 28), some (.int on), some (.int tw)] [] _ _
              refine am_e18 hi_181_180 ?_
              refine am_e35 hi_181_397 ?_
              show am_E _ _ _ _ [some (.ref 39), some (.int 28), some (.int on), some (.int tw), some (.int th)] [] _ _
              refine am_e35 hi_180_13 ?_
              have q1 : mg_p1 gs = mg_p1 gs := rfl
              have q2 : mg_p2 gs = mg_p2 gs := rfl
              have q3 : mg_p3 gs = mg_p3 gs := rfl
              have q4 : mg_p4 gs = mg_p4 gs := rfl
              refine ⟨_, _, _, bc, rfl, hS4, Or.inl ⟨⟨hR, ?_, ?_⟩, rfl, ?_⟩⟩
              · exact (mg_cast (mg_good_ext _ _ _ _ _ _ (fun _ _ => rfl) (fun _ _ => rfl) (fun _ _ => rfl) hrest) (by show (f 15).toInt + 0 = (f 15).toInt; omega) (by show (f 20).toInt = (f 20).toInt; omega) (by show (f 37).toInt + 0 = (f 37).toInt; omega) (by show (f 32).toInt + 0 = (f 32).toInt; omega) (by show (f 5).toInt + 0 = (f 5).toInt; omega) : mg_good (g 34) (g 38) (g 23) gs ((f 15).toInt) ((f 20).toInt) ((f 37).toInt) ((f 32).toInt) ((f 5).toInt))
              · exact ⟨(by show 0 ≤ (f 4).toInt; omega), (by show (f 4).toInt ≤ (f 0).toInt; omega), (by show (f 0).toInt ≤ 512; omega), (by show 0 ≤ (f 24).toInt; omega), (by show (f 24).toInt + (f 20).toInt + mg_p1 gs ≤ 4 * (f 4).toInt; omega), (by show (f 20).toInt ≤ (f 4).toInt; omega), (by show (f 15).toInt + mg_p2 gs ≤ (f 4).toInt; omega), (by show mg_p3 gs ≤ 20 * (f 4).toInt + 20; omega), (by show 0 ≤ (f 68).toInt; omega), (by show (f 68).toInt + 3 * (f 20).toInt + mg_p4 gs ≤ 60 * (f 4).toInt + 60; omega), (by show 0 ≤ (f 62).toInt; omega), (by show (f 62).toInt + 64 * mj_n (g 16) (f 15).toNatClampNeg 3 ≤ 64 * (f 4).toInt; omega), (by show 0 ≤ (f 44).toInt; omega), (by show (f 44).toInt ≤ (f 4).toInt; omega), (by show 0 ≤ (f 48).toInt; omega), (by show (f 48).toInt ≤ (f 4).toInt; omega), (by show 1 ≤ (f 53).toInt; omega), (by show (f 53).toInt ≤ (f 4).toInt + 1; omega), (by show 0 ≤ (f 19).toInt; omega), (by show (f 19).toInt ≤ 600; omega), (by show 0 ≤ (f 6).toInt; omega), (by show 0 ≤ (f 8).toInt; omega)⟩
              · show 100 * ((f 0).toInt - (f 4).toInt) + mg_p3 gs < 100 * ((f 0).toInt - (f 4).toInt) + (1 + mg_p3 gs); omega
            · refine am_e13f hi_211_228 (am_cF (m := r2.toInt) (n := (62 : Int)) rfl (by decide) c546) ?_
              refine am_e2 (v := 39) hi_211_231 rfl ?_
              refine am_e32n (as := [.ref 39]) (la := [some (.ref 39), none, none, none]) (rest := []) hi_211_232 (am_hd0 (M := 211) (by decide) 232) (Nat.le_of_ble_eq_true rfl) (Nat.le_of_ble_eq_true rfl) (show 1 ≤ am_P0.2.2.1 204 from by decide +kernel) rfl (am_recv_ok hS4.fs) rfl rfl (ct_load (d := (d + 3)) hS4 hR  (by show (0 : Int) ≤ (f 32).toInt; omega) (by show (f 32).toInt ≤ (63 : Int); omega) (by show (f 53).toInt ≤ (4096 : Int); omega) (by show (0 : Int) ≤ (f 68).toInt; omega) (by show (f 68).toInt ≤ (65534 : Int); omega) (by show (1 : Int) ≤ (f 15).toInt; omega) (by show (f 15).toInt ≤ (32767 : Int); omega) (by show (0 : Int) ≤ (f 24).toInt; omega) (by show (f 24).toInt ≤ (16384 : Int); omega) (by show (0 : Int) ≤ (f 62).toInt; omega) (by show (f 62).toInt ≤ (65000 : Int); omega)) ?_
              rintro v547 S548 (⟨o549, s550, m551, g'552, hv553, hS554, hR561, h555, h556, h557, h558, h559, h560⟩)
              subst hv553
              have h555_ : (f 62).toInt ≤ o549.toInt := h555
              have h556_ : o549.toInt ≤ (f 62).toInt + 64 := h556
              have h557_ : (f 68).toInt ≤ s550.toInt := h557
              have h558_ : s550.toInt ≤ (f 68).toInt + 1 := h558
              have h559_ : o549.toInt + 64 * mj_n (g'552 16) (f 15).toNatClampNeg 3 ≤ (f 62).toInt + 64 * mj_n (g 16) (f 15).toNatClampNeg 3 := h559
              have h560_ : ∀ j, j ∉ [16, 60, 63, 64, 65, 66, 67, 69, 70, 71, 72, 73] → g'552 j = g j := h560
              have hR561_ : RJ (upd (upd (upd f 62 o549) 68 s550) 75 m551) g'552 gs bc [] 0 [] := hR561
              show am_E _ _ _ _ [some (.ref 39), some (.int r2), some (.int (f 4)), none] [] _ _
              refine am_e2 (v := 39) hi_211_235 rfl ?_
              refine am_e0 hi_211_236 ?_
              refine am_e0 hi_211_238 ?_
              refine am_e0 hi_211_239 ?_
              refine am_e0 hi_211_240 ?_
              refine am_e32n (as := [.ref 39, .int 28, .int 0, .int 0, .int 0]) (la := [some (.ref 39), some (.int 28), some (.int 0), some (.int 0), some (.int 0)]) (rest := []) hi_211_241 (am_hd0 (M := 211) (by decide) 241) (Nat.le_of_ble_eq_true rfl) (Nat.le_of_ble_eq_true rfl) (show 5 ≤ am_P0.2.2.1 179 from by decide +kernel) rfl (am_recv_ok hS554.fs) rfl rfl (ct_pile (d := (d + 5)) hS554 hR561_ (mj_e_plain (by decide)) (by show (0 : Int) ≤ (f 10).toInt; omega) (by show (f 10).toInt ≤ (65535 : Int); omega)) ?_
              rintro v562 S563 (⟨z564, g'565, hv566, hS567, hR570, h568, h569⟩)
              subst hv566
              have h568_ : z564.toInt = (f 10).toInt + 1 := h568
              have h569_ : ∀ j, j ∉ [11, 12, 13, 14] → g'565 j = g'552 j := h569
              replace hS567 : MS S0 S563 (upd (upd (upd (upd f 10 z564) 62 o549) 68 s550) 75 m551) g'565 := hS567
              have hR570_ : RJ (upd (upd (upd (upd f 10 z564) 62 o549) 68 s550) 75 m551) g'565 (((28 : Int), (0 : Int), (0 : Int), (0 : Int), []) :: gs) bc [] 0 [] := hR570
              show am_E _ _ _ _ [some (.ref 39), some (.int r2), some (.int (f 4)), none] [] _ _
              refine am_e2 (v := 39) hi_211_244 rfl ?_
              refine am_e0 hi_211_245 ?_
              refine am_e32w (as := [.ref 39, .int 0]) (la := [some (.ref 39), some (.int 0), none]) (rest := []) hi_211_246 (am_hd0 (M := 211) (by decide) 246) (Nat.le_of_ble_eq_true rfl) (Nat.le_of_ble_eq_true rfl) (show 2 ≤ am_P0.2.2.1 212 from by decide +kernel) rfl (am_recv_ok hS567.fs) rfl rfl ?_
              refine am_e2 (v := 39) hi_212_0 rfl ?_
              refine mm_20 (v := .int (f 4)) hS567 hi_212_1 rfl ?_
              refine am_e3 (ls' := [some (.ref 39), some (.int 0), some (.int (f 4))]) hi_212_4 (Nat.le_of_ble_eq_true rfl) rfl ?_
              refine am_e2 (v := 39) hi_212_5 rfl ?_
              refine am_e32n (as := [.ref 39]) (la := [some (.ref 39)]) (rest := []) hi_212_6 (am_hd0 (M := 212) (by decide) 6) (Nat.le_of_ble_eq_true rfl) (Nat.le_of_ble_eq_true rfl) (show 1 ≤ am_P0.2.2.1 183 from by decide +kernel) rfl (am_recv_ok hS567.fs) rfl rfl (ct_next (d := (d + 3)) hS567   (by show (0 : Int) ≤ (f 4).toInt; omega) (by show (f 0).toInt ≤ (16384 : Int); omega)) ?_
              rintro v571 S572 (⟨r573, hv574, hS575, h576⟩)
              subst hv574
              have h576_ : (f 4).toInt < (f 0).toInt ∨ r573.toInt = (-1 : Int) := h576
              show am_E _ _ _ _ [some (.ref 39), some (.int 0), some (.int (f 4))] [.int r573] _ _
              refine am_e0 hi_212_9 ?_
              by_cases c578 : ¬ r573.toInt = (3 : Int)
              · refine am_e13t hi_212_10 (am_cT (m := r573.toInt) (n := (3 : Int)) rfl (by decide) c578) ?_
                refine am_e2 (v := 39) hi_212_52 rfl ?_
                refine am_e32n (as := [.ref 39]) (la := [some (.ref 39)]) (rest := []) hi_212_53 (am_hd0 (M := 212) (by decide) 53) (Nat.le_of_ble_eq_true rfl) (Nat.le_of_ble_eq_true rfl) (show 1 ≤ am_P0.2.2.1 183 from by decide +kernel) rfl (am_recv_ok hS575.fs) rfl rfl (ct_next (d := (d + 3)) hS575   (by show (0 : Int) ≤ (f 4).toInt; omega) (by show (f 0).toInt ≤ (16384 : Int); omega)) ?_
                rintro v579 S580 (⟨r581, hv582, hS583, h584⟩)
                subst hv582
                have h584_ : (f 4).toInt < (f 0).toInt ∨ r581.toInt = (-1 : Int) := h584
                show am_E _ _ _ _ [some (.ref 39), some (.int 0), some (.int (f 4))] [.int r581] _ _
                refine am_e0 hi_212_56 ?_
                by_cases c586 : ¬ r581.toInt = (62 : Int)
                · refine am_e13t hi_212_58 (am_cT (m := r581.toInt) (n := (62 : Int)) rfl (by decide) c586) ?_
                  refine am_e2 (v := 39) hi_212_77 rfl ?_
                  refine am_e0 hi_212_78 ?_
                  refine am_e32n (as := [.ref 39, .int 60]) (la := [some (.ref 39), some (.int 60)]) (rest := []) hi_212_80 (am_hd0 (M := 212) (by decide) 80) (Nat.le_of_ble_eq_true rfl) (Nat.le_of_ble_eq_true rfl) (show 2 ≤ am_P0.2.2.1 193 from by decide +kernel) rfl (am_recv_ok hS583.fs) rfl rfl (ct_enter (d := (d + 2)) hS583   (by show (0 : Int) ≤ (f 4).toInt; omega) (by show (f 0).toInt ≤ (16384 : Int); omega) (by show (0 : Int) ≤ (60 : Int); omega) (by show (0 : Int) ≤ (f 5).toInt; omega) (by show (f 5).toInt ≤ (48 : Int); omega) (by show (0 : Int) ≤ (f 6).toInt; omega)) ?_
                  rintro v587 S588 (⟨z589, y590, hv591, hS592, h593, h594, h595, h596⟩ | ⟨a598, b599, hv600, hS601, h602⟩)
                  · subst hv591
                    have h593_ : z589.toInt = (f 4).toInt + 1 := h593
                    have h594_ : (f 4).toInt < (f 0).toInt := h594
                    have h595_ : y590.toInt = (f 5).toInt + 1 := h595
                    have h596_ : y590.toInt ≤ (48 : Int) := h596
                    replace hS592 : MS S0 S588 (upd (upd (upd (upd (upd (upd f 4 z589) 5 y590) 10 z564) 62 o549) 68 s550) 75 m551) g'565 := hS592
                    have hR604 : RJ (upd (upd (upd (upd (upd (upd f 4 z589) 5 y590) 10 z564) 62 o549) 68 s550) 75 m551) g'565 (((28 : Int), (0 : Int), (0 : Int), (0 : Int), []) :: gs) bc [] 0 [] := RJ.at hR570_ (by show (f 4).toInt ≤ z589.toInt; omega)
                    show am_E _ _ _ _ [some (.ref 39), some (.int 0), some (.int (f 4))] [.int 1] _ _
                    refine am_e12f hi_212_83 (by decide) ?_
                    refine am_e2 (v := 39) hi_212_86 rfl ?_
                    refine am_e32n (as := [.ref 39]) (la := [some (.ref 39)]) (rest := []) hi_212_87 (am_hd0 (M := 212) (by decide) 87) (Nat.le_of_ble_eq_true rfl) (Nat.le_of_ble_eq_true rfl) (show 1 ≤ am_P0.2.2.1 183 from by decide +kernel) rfl (am_recv_ok hS592.fs) rfl rfl (ct_next (d := (d + 3)) hS592   (by show (0 : Int) ≤ z589.toInt; omega) (by show (f 0).toInt ≤ (16384 : Int); omega)) ?_
                    rintro v605 S606 (⟨r607, hv608, hS609, h610⟩)
                    subst hv608
                    have h610_ : z589.toInt < (f 0).toInt ∨ r607.toInt = (-1 : Int) := h610
                    show am_E _ _ _ _ [some (.ref 39), some (.int 0), some (.int (f 4))] [.int r607] _ _
                    refine am_e0 hi_212_90 ?_
                    by_cases c612 : ¬ r607.toInt = (61 : Int)
                    · refine am_e13t hi_212_92 (am_cT (m := r607.toInt) (n := (61 : Int)) rfl (by decide) c612) ?_
                      refine am_e2 (v := 39) hi_212_112 rfl ?_
                      refine am_e0 hi_212_113 ?_
                      refine am_e1 (v := 0) hi_212_115 rfl ?_
                      refine am_e1 (v := f 4) hi_212_116 rfl ?_
                      refine am_e0 hi_212_117 ?_
                      refine am_e32n (as := [.ref 39, .int 32, .int 0, .int (f 4), .int 0]) (la := [some (.ref 39), some (.int 32), some (.int 0), some (.int (f 4)), some (.int 0)]) (rest := []) hi_212_118 (am_hd0 (M := 212) (by decide) 118) (Nat.le_of_ble_eq_true rfl) (Nat.le_of_ble_eq_true rfl) (show 5 ≤ am_P0.2.2.1 179 from by decide +kernel) rfl (am_recv_ok hS609.fs) rfl rfl (ct_pile (d := (d + 4)) hS609 hR604 (mj_e_plain (by decide)) (by show (0 : Int) ≤ z564.toInt; omega) (by show z564.toInt ≤ (65535 : Int); omega)) ?_
                      rintro v613 S614 (⟨z615, g'616, hv617, hS618, hR621, h619, h620⟩)
                      subst hv617
                      have h619_ : z615.toInt = z564.toInt + 1 := h619
                      have h620_ : ∀ j, j ∉ [11, 12, 13, 14] → g'616 j = g'565 j := h620
                      replace hS618 : MS S0 S614 (upd (upd (upd (upd (upd (upd f 4 z589) 5 y590) 10 z615) 62 o549) 68 s550) 75 m551) g'616 := hS618
                      have hR621_ : RJ (upd (upd (upd (upd (upd (upd f 4 z589) 5 y590) 10 z615) 62 o549) 68 s550) 75 m551) g'616 (((32 : Int), (0 : Int), (f 4).toInt, (0 : Int), []) :: (((28 : Int), (0 : Int), (0 : Int), (0 : Int), []) :: gs)) bc [] 0 [] := hR621
                      show am_E _ _ _ _ [some (.ref 39), some (.int 0), some (.int (f 4))] [] _ _
                      refine am_e2 (v := 39) hi_212_121 rfl ?_
                      refine am_e32w (as := [.ref 39]) (la := [some (.ref 39)]) (rest := []) hi_212_122 (am_hd0 (M := 212) (by decide) 122) (Nat.le_of_ble_eq_true rfl) (Nat.le_of_ble_eq_true rfl) (show 1 ≤ am_P0.2.2.1 214 from by decide +kernel) rfl (am_recv_ok hS618.fs) rfl rfl ?_
                      refine am_e2 (v := 39) hi_214_0 rfl ?_
                      refine am_e0 hi_214_1 ?_
                      refine am_e0 hi_214_3 ?_
                      refine am_e0 hi_214_4 ?_
                      refine am_e0 hi_214_5 ?_
                      refine am_e32n (as := [.ref 39, .int 34, .int 1, .int 0, .int 0]) (la := [some (.ref 39), some (.int 34), some (.int 1), some (.int 0), some (.int 0)]) (rest := []) hi_214_6 (am_hd0 (M := 214) (by decide) 6) (Nat.le_of_ble_eq_true rfl) (Nat.le_of_ble_eq_true rfl) (show 5 ≤ am_P0.2.2.1 179 from by decide +kernel) rfl (am_recv_ok hS618.fs) rfl rfl (ct_pile (d := (d + 3)) hS618 hR621_ (mj_e_plain (by decide)) (by show (0 : Int) ≤ z615.toInt; omega) (by show z615.toInt ≤ (65535 : Int); omega)) ?_
                      rintro v622 S623 (⟨z624, g'625, hv626, hS627, hR630, h628, h629⟩)
                      subst hv626
                      have h628_ : z624.toInt = z615.toInt + 1 := h628
                      have h629_ : ∀ j, j ∉ [11, 12, 13, 14] → g'625 j = g'616 j := h629
                      replace hS627 : MS S0 S623 (upd (upd (upd (upd (upd (upd f 4 z589) 5 y590) 10 z624) 62 o549) 68 s550) 75 m551) g'625 := hS627
                      have hR630_ : RJ (upd (upd (upd (upd (upd (upd f 4 z589) 5 y590) 10 z624) 62 o549) 68 s550) 75 m551) g'625 (((34 : Int), (1 : Int), (0 : Int), (0 : Int), []) :: (((32 : Int), (0 : Int), (f 4).toInt, (0 : Int), []) :: (((28 : Int), (0 : Int), (0 : Int), (0 : Int), []) :: gs))) bc [] 0 [] := hR630
                      show am_E _ _ _ _ [some (.ref 39)] [] _ _
                      refine am_e2 (v := 39) hi_214_9 rfl ?_
                      refine am_e0 hi_214_10 ?_
                      refine am_e32w (as := [.ref 39, .int 0]) (la := [some (.ref 39), some (.int 0)]) (rest := []) hi_214_11 (am_hd0 (M := 214) (by decide) 11) (Nat.le_of_ble_eq_true rfl) (Nat.le_of_ble_eq_true rfl) (show 2 ≤ am_P0.2.2.1 186 from by decide +kernel) rfl (am_recv_ok hS627.fs) rfl rfl ?_
                      refine am_e2 (v := 39) hi_186_0 rfl ?_
                      refine am_e0 hi_186_1 ?_
                      refine am_e1 (v := 0) hi_186_3 rfl ?_
                      refine am_e0 hi_186_4 ?_
                      refine am_e0 hi_186_5 ?_
                      refine am_e32n (as := [.ref 39, .int 23, .int 0, .int 0, .int 0]) (la := [some (.ref 39), some (.int 23), some (.int 0), some (.int 0), some (.int 0)]) (rest := []) hi_186_6 (am_hd0 (M := 186) (by decide) 6) (Nat.le_of_ble_eq_true rfl) (Nat.le_of_ble_eq_true rfl) (show 5 ≤ am_P0.2.2.1 179 from by decide +kernel) rfl (am_recv_ok hS627.fs) rfl rfl (ct_pile (d := (d + 2)) hS627 hR630_ (mj_e_plain (by decide)) (by show (0 : Int) ≤ z624.toInt; omega) (by show z624.toInt ≤ (65535 : Int); omega)) ?_
                      rintro v631 S632 (⟨z633, g'634, hv635, hS636, hR639, h637, h638⟩)
                      subst hv635
                      have h637_ : z633.toInt = z624.toInt + 1 := h637
                      have h638_ : ∀ j, j ∉ [11, 12, 13, 14] → g'634 j = g'625 j := h638
                      replace hS636 : MS S0 S632 (upd (upd (upd (upd (upd (upd f 4 z589) 5 y590) 10 z633) 62 o549) 68 s550) 75 m551) g'634 := hS636
                      have hR639_ : RJ (upd (upd (upd (upd (upd (upd f 4 z589) 5 y590) 10 z633) 62 o549) 68 s550) 75 m551) g'634 (((23 : Int), (0 : Int), (0 : Int), (0 : Int), []) :: (((34 : Int), (1 : Int), (0 : Int), (0 : Int), []) :: (((32 : Int), (0 : Int), (f 4).toInt, (0 : Int), []) :: (((28 : Int), (0 : Int), (0 : Int), (0 : Int), []) :: gs)))) bc [] 0 [] := hR639
                      show am_E _ _ _ _ [some (.ref 39), some (.int 0)] [] _ _
                      refine am_e35 hi_186_9 ?_
                      show am_E _ _ _ _ [some (.ref 39)] [] _ _
                      refine am_e35 hi_214_14 ?_
                      show am_E _ _ _ _ [some (.ref 39), some (.int 0), some (.int (f 4))] [] _ _
                      refine am_e35 hi_212_125 ?_
                      show am_E _ _ _ _ [some (.ref 39), some (.int r2), some (.int (f 4)), none] [] _ _
                      refine am_e35 hi_211_249 ?_
                      show am_E _ _ _ _ [some (.ref 39), some (.int 28), some (.int on), some (.int tw)] [] _ _
                      refine am_e18 hi_181_180 ?_
                      refine am_e35 hi_181_397 ?_
                      show am_E _ _ _ _ [some (.ref 39), some (.int 28), some (.int on), some (.int tw), some (.int th)] [] _ _
                      refine am_e35 hi_180_13 ?_
                      have q1 : mg_p1 (((23 : Int), (0 : Int), (0 : Int), (0 : Int), []) :: (((34 : Int), (1 : Int), (0 : Int), (0 : Int), []) :: (((32 : Int), (0 : Int), (f 4).toInt, (0 : Int), []) :: (((28 : Int), (0 : Int), (0 : Int), (0 : Int), []) :: gs)))) = 0 + (0 + (0 + (0 + (mg_p1 gs)))) := rfl
                      have q2 : mg_p2 (((23 : Int), (0 : Int), (0 : Int), (0 : Int), []) :: (((34 : Int), (1 : Int), (0 : Int), (0 : Int), []) :: (((32 : Int), (0 : Int), (f 4).toInt, (0 : Int), []) :: (((28 : Int), (0 : Int), (0 : Int), (0 : Int), []) :: gs)))) = 0 + (((1 : Int) - 1) + (0 + (0 + (mg_p2 gs)))) := rfl
                      have q3 : mg_p3 (((23 : Int), (0 : Int), (0 : Int), (0 : Int), []) :: (((34 : Int), (1 : Int), (0 : Int), (0 : Int), []) :: (((32 : Int), (0 : Int), (f 4).toInt, (0 : Int), []) :: (((28 : Int), (0 : Int), (0 : Int), (0 : Int), []) :: gs)))) = 1 + (1 + (1 + (1 + (mg_p3 gs)))) := rfl
                      have q4 : mg_p4 (((23 : Int), (0 : Int), (0 : Int), (0 : Int), []) :: (((34 : Int), (1 : Int), (0 : Int), (0 : Int), []) :: (((32 : Int), (0 : Int), (f 4).toInt, (0 : Int), []) :: (((28 : Int), (0 : Int), (0 : Int), (0 : Int), []) :: gs)))) = 0 + (0 + (0 + (0 + (mg_p4 gs)))) := rfl
                      refine ⟨_, _, _, bc, rfl, hS636, Or.inl ⟨⟨hR639_, ?_, ?_⟩, rfl, ?_⟩⟩
                      · exact (⟨⟨(show mg_k 23 from by decide), (show (0 : Int) ≤ (f 15).toInt from by omega), (show 0 ≤ (f 20).toInt from by omega), (show 1 ≤ (f 37).toInt from by omega), (show 0 ≤ (f 32).toInt from by omega), (show (f 32).toInt ≤ y590.toInt from by omega), (show y590.toInt ≤ 48 from by omega), (show (f 37).toInt ≤ 2 * (y590.toInt) + 2 from by omega), (show 0 ≤ (0 : Int) from by omega)⟩, ⟨⟨(show mg_k 34 from by decide), (show (1 : Int) ≤ (f 15).toInt + 1 from by omega), (show 0 ≤ (f 20).toInt from by omega), (show 1 ≤ (f 37).toInt + 0 from by omega), (show 0 ≤ (f 32).toInt + 0 from by omega), (show (f 32).toInt + 0 ≤ y590.toInt + 0 from by omega), (show y590.toInt + 0 ≤ 48 from by omega), (show (f 37).toInt + 0 ≤ 2 * (y590.toInt + 0) + 2 from by omega), (show 1 ≤ (1 : Int) from by omega)⟩, ⟨⟨(show mg_k 32 from by decide), (show (2 : Int) ≤ (f 15).toInt + 1 + 0 from by omega), (show 0 ≤ (f 20).toInt from by omega), (show 1 ≤ (f 37).toInt + 0 + 0 from by omega), (show 0 ≤ (f 32).toInt + 0 + 0 from by omega), (show (f 32).toInt + 0 + 0 ≤ y590.toInt + 0 + 0 from by omega), (show y590.toInt + 0 + 0 ≤ 48 from by omega), (show (f 37).toInt + 0 + 0 ≤ 2 * (y590.toInt + 0 + 0) + 2 from by omega), trivial⟩, ⟨⟨(show mg_k 28 from by decide), (show (1 : Int) ≤ (f 15).toInt + 1 + 0 + -1 from by omega), (show 0 ≤ (f 20).toInt from by omega), (show 1 ≤ (f 37).toInt + 0 + 0 + 0 from by omega), (show 0 ≤ (f 32).toInt + 0 + 0 + 0 from by omega), (show (f 32).toInt + 0 + 0 + 0 ≤ y590.toInt + 0 + 0 + -1 from by omega), (show y590.toInt + 0 + 0 + -1 ≤ 48 from by omega), (show (f 37).toInt + 0 + 0 + 0 ≤ 2 * (y590.toInt + 0 + 0 + -1) + 2 from by omega), trivial⟩, mg_cast (mg_good_ext _ _ _ _ _ _ (fun i _ => by show g'634 34 i = g 34 i; rw [show g'634 34 = g'625 34 from h638_ 34 (by decide), show g'625 34 = g'616 34 from h629_ 34 (by decide), show g'616 34 = g'565 34 from h620_ 34 (by decide), show g'565 34 = g'552 34 from h569_ 34 (by decide), show g'552 34 = g 34 from h560_ 34 (by decide)]) (fun i _ => by show g'634 38 i = g 38 i; rw [show g'634 38 = g'625 38 from h638_ 38 (by decide), show g'625 38 = g'616 38 from h629_ 38 (by decide), show g'616 38 = g'565 38 from h620_ 38 (by decide), show g'565 38 = g'552 38 from h569_ 38 (by decide), show g'552 38 = g 38 from h560_ 38 (by decide)]) (fun i _ => by show g'634 23 i = g 23 i; rw [show g'634 23 = g'625 23 from h638_ 23 (by decide), show g'625 23 = g'616 23 from h629_ 23 (by decide), show g'616 23 = g'565 23 from h620_ 23 (by decide), show g'565 23 = g'552 23 from h569_ 23 (by decide), show g'552 23 = g 23 from h560_ 23 (by decide)]) hrest) (by show (f 15).toInt + 0 = (f 15).toInt + 1 + 0 + -1 + 0; omega) (by show (f 20).toInt = (f 20).toInt; omega) (by show (f 37).toInt + 0 = (f 37).toInt + 0 + 0 + 0 + 0; omega) (by show (f 32).toInt + 0 = (f 32).toInt + 0 + 0 + 0 + 0; omega) (by show (f 5).toInt + 0 = y590.toInt + 0 + 0 + -1 + 0; omega)⟩⟩⟩⟩ : mg_good (g'634 34) (g'634 38) (g'634 23) (((23 : Int), (0 : Int), (0 : Int), (0 : Int), []) :: (((34 : Int), (1 : Int), (0 : Int), (0 : Int), []) :: (((32 : Int), (0 : Int), (f 4).toInt, (0 : Int), []) :: (((28 : Int), (0 : Int), (0 : Int), (0 : Int), []) :: gs)))) ((f 15).toInt) ((f 20).toInt) ((f 37).toInt) ((f 32).toInt) (y590.toInt))
                      · exact ⟨(by show 0 ≤ z589.toInt; omega), (by show z589.toInt ≤ (f 0).toInt; omega), (by show (f 0).toInt ≤ 512; omega), (by show 0 ≤ (f 24).toInt; omega), (by show (f 24).toInt + (f 20).toInt + mg_p1 (((23 : Int), (0 : Int), (0 : Int), (0 : Int), []) :: (((34 : Int), (1 : Int), (0 : Int), (0 : Int), []) :: (((32 : Int), (0 : Int), (f 4).toInt, (0 : Int), []) :: (((28 : Int), (0 : Int), (0 : Int), (0 : Int), []) :: gs)))) ≤ 4 * z589.toInt; omega), (by show (f 20).toInt ≤ z589.toInt; omega), (by show (f 15).toInt + mg_p2 (((23 : Int), (0 : Int), (0 : Int), (0 : Int), []) :: (((34 : Int), (1 : Int), (0 : Int), (0 : Int), []) :: (((32 : Int), (0 : Int), (f 4).toInt, (0 : Int), []) :: (((28 : Int), (0 : Int), (0 : Int), (0 : Int), []) :: gs)))) ≤ z589.toInt; omega), (by show mg_p3 (((23 : Int), (0 : Int), (0 : Int), (0 : Int), []) :: (((34 : Int), (1 : Int), (0 : Int), (0 : Int), []) :: (((32 : Int), (0 : Int), (f 4).toInt, (0 : Int), []) :: (((28 : Int), (0 : Int), (0 : Int), (0 : Int), []) :: gs)))) ≤ 20 * z589.toInt + 20; omega), (by show 0 ≤ s550.toInt; omega), (by show s550.toInt + 3 * (f 20).toInt + mg_p4 (((23 : Int), (0 : Int), (0 : Int), (0 : Int), []) :: (((34 : Int), (1 : Int), (0 : Int), (0 : Int), []) :: (((32 : Int), (0 : Int), (f 4).toInt, (0 : Int), []) :: (((28 : Int), (0 : Int), (0 : Int), (0 : Int), []) :: gs)))) ≤ 60 * z589.toInt + 60; omega), (by show 0 ≤ o549.toInt; omega), (by show o549.toInt + 64 * mj_n (g'634 16) (f 15).toNatClampNeg 3 ≤ 64 * z589.toInt; rw [show g'634 16 = g'625 16 from h638_ 16 (by decide), show g'625 16 = g'616 16 from h629_ 16 (by decide), show g'616 16 = g'565 16 from h620_ 16 (by decide), show g'565 16 = g'552 16 from h569_ 16 (by decide)]; omega), (by show 0 ≤ (f 44).toInt; omega), (by show (f 44).toInt ≤ z589.toInt; omega), (by show 0 ≤ (f 48).toInt; omega), (by show (f 48).toInt ≤ z589.toInt; omega), (by show 1 ≤ (f 53).toInt; omega), (by show (f 53).toInt ≤ z589.toInt + 1; omega), (by show 0 ≤ (f 19).toInt; omega), (by show (f 19).toInt ≤ 600; omega), (by show 0 ≤ (f 6).toInt; omega), (by show 0 ≤ (f 8).toInt; omega)⟩
                      · show 100 * ((f 0).toInt - z589.toInt) + mg_p3 (((23 : Int), (0 : Int), (0 : Int), (0 : Int), []) :: (((34 : Int), (1 : Int), (0 : Int), (0 : Int), []) :: (((32 : Int), (0 : Int), (f 4).toInt, (0 : Int), []) :: (((28 : Int), (0 : Int), (0 : Int), (0 : Int), []) :: gs)))) < 100 * ((f 0).toInt - (f 4).toInt) + (1 + mg_p3 gs); omega
                    · refine am_e13f hi_212_92 (am_cF (m := r607.toInt) (n := (61 : Int)) rfl (by decide) c612) ?_
                      refine am_e2 (v := 39) hi_212_95 rfl ?_
                      refine am_e0 hi_212_96 ?_
                      refine am_e32n (as := [.ref 39, .int 61]) (la := [some (.ref 39), some (.int 61)]) (rest := []) hi_212_98 (am_hd0 (M := 212) (by decide) 98) (Nat.le_of_ble_eq_true rfl) (Nat.le_of_ble_eq_true rfl) (show 2 ≤ am_P0.2.2.1 199 from by decide +kernel) rfl (am_recv_ok hS609.fs) rfl rfl (ct_leave (d := (d + 1)) hS609   (by show (0 : Int) ≤ z589.toInt; omega) (by show (f 0).toInt ≤ (16384 : Int); omega) (by show (0 : Int) ≤ (61 : Int); omega) (by show (0 : Int) ≤ y590.toInt; omega) (by show y590.toInt ≤ (48 : Int); omega) (by show (0 : Int) ≤ (f 6).toInt; omega)) ?_
                      rintro v640 S641 (⟨z642, y643, hv644, hS645, h646, h647, h648⟩ | ⟨a650, b651, hv652, hS653, h654⟩)
                      · subst hv644
                        have h646_ : z642.toInt = z589.toInt + 1 := h646
                        have h647_ : z589.toInt < (f 0).toInt := h647
                        have h648_ : y643.toInt = y590.toInt - 1 := h648
                        replace hS645 : MS S0 S641 (upd (upd (upd (upd (upd (upd f 4 z642) 5 y643) 10 z564) 62 o549) 68 s550) 75 m551) g'565 := hS645
                        have hR656 : RJ (upd (upd (upd (upd (upd (upd f 4 z642) 5 y643) 10 z564) 62 o549) 68 s550) 75 m551) g'565 (((28 : Int), (0 : Int), (0 : Int), (0 : Int), []) :: gs) bc [] 0 [] := RJ.at hR604 (by show z589.toInt ≤ z642.toInt; omega)
                        show am_E _ _ _ _ [some (.ref 39), some (.int 0), some (.int (f 4))] [.int 1] _ _
                        refine am_e6i hi_212_101 ?_
                        refine am_e2 (v := 39) hi_212_102 rfl ?_
                        refine am_e1 (v := 0) hi_212_103 rfl ?_
                        refine am_e0 hi_212_104 ?_
                        refine am_e1 (v := f 4) hi_212_105 rfl ?_
                        refine am_e32w (as := [.ref 39, .int 0, .int 0, .int (f 4)]) (la := [some (.ref 39), some (.int 0), some (.int 0), some (.int (f 4)), none]) (rest := []) hi_212_106 (am_hd0 (M := 212) (by decide) 106) (Nat.le_of_ble_eq_true rfl) (Nat.le_of_ble_eq_true rfl) (show 4 ≤ am_P0.2.2.1 213 from by decide +kernel) rfl (am_recv_ok hS645.fs) rfl rfl ?_
                        refine am_e2 (v := 39) hi_213_0 rfl ?_
                        refine am_e0 hi_213_1 ?_
                        refine am_e1 (v := 0) hi_213_3 rfl ?_
                        refine am_e1 (v := 0) hi_213_4 rfl ?_
                        refine am_e0 hi_213_5 ?_
                        refine am_e10 (z := 2) hi_213_6 (by decide) ?_
                        refine am_e1 (v := f 4) hi_213_7 rfl ?_
                        refine am_e32n (as := [.ref 39, .int 13, .int 0, .int 2, .int (f 4)]) (la := [some (.ref 39), some (.int 13), some (.int 0), some (.int 2), some (.int (f 4))]) (rest := []) hi_213_8 (am_hd0 (M := 213) (by decide) 8) (Nat.le_of_ble_eq_true rfl) (Nat.le_of_ble_eq_true rfl) (show 5 ≤ am_P0.2.2.1 189 from by decide +kernel) rfl (am_recv_ok hS645.fs) rfl rfl (ct_put (d := (d + 3)) hS645 hR656  (by show (0 : Int) ≤ (f 32).toInt; omega) (by show (f 32).toInt ≤ (63 : Int); omega) (by show (f 53).toInt ≤ (4096 : Int); omega) (by show (0 : Int) ≤ s550.toInt; omega) (by show s550.toInt ≤ (65534 : Int); omega)) ?_
                        rintro v657 S658 (⟨z659, r660, g'661, hv662, hS663, hR667, h664, h665, h666⟩)
                        subst hv662
                        have h664_ : z659.toInt = s550.toInt + 1 := h664
                        have h665_ : r660.toInt = s550.toInt := h665
                        have h666_ : ∀ j, j ∉ [60, 69, 70, 71, 72, 73] → g'661 j = g'565 j := h666
                        replace hS663 : MS S0 S658 (upd (upd (upd (upd (upd (upd f 4 z642) 5 y643) 10 z564) 62 o549) 68 z659) 75 m551) g'661 := hS663
                        have hR667_ : RJ (upd (upd (upd (upd (upd (upd f 4 z642) 5 y643) 10 z564) 62 o549) 68 z659) 75 m551) g'661 (((28 : Int), (0 : Int), (0 : Int), (0 : Int), []) :: gs) bc [] 0 (s550.toNatClampNeg :: []) := hR667
                        show am_E _ _ _ _ [some (.ref 39), some (.int 0), some (.int 0), some (.int (f 4)), none] [.int r660] _ _
                        refine am_e3 (ls' := [some (.ref 39), some (.int 0), some (.int 0), some (.int (f 4)), some (.int r660)]) hi_213_11 (Nat.le_of_ble_eq_true rfl) rfl ?_
                        refine am_e2 (v := 39) hi_213_13 rfl ?_
                        refine am_e7 hi_213_14 ?_
                        refine mm_20 (v := .int (f 15)) hS663 hi_213_15 rfl ?_
                        refine am_e0 hi_213_18 ?_
                        obtain ⟨z668, hz668, tz668⟩ := am_subI (x := f 15) (y := 1) (m := (f 15).toInt) (n := (1 : Int)) rfl (by decide) (by omega) (by omega)
                        refine am_e10 (z := z668) hi_213_19 hz668 ?_
                        refine mm_21 (v := z668) hS663 hi_213_20 rfl (Nat.le_of_ble_eq_true rfl) ms_15 ?_
                        intro S669 hS670
                        replace hS670 : MS S0 S669 (upd (upd (upd (upd (upd (upd (upd f 4 z642) 5 y643) 10 z564) 15 z668) 62 o549) 68 z659) 75 m551) g'661 := hS670
                        have hp671 : mj_n (g'552 16) (f 15).toNatClampNeg 3 = mj_n (g'552 16) z668.toNatClampNeg 3 + if (g'552 16 z668.toNatClampNeg).toInt = 3 then 1 else 0 := mj_pop (by rw [cl_toNat, cl_toNat]; omega)
                        have hp6711 : mj_n (g'552 16) z668.toNatClampNeg 3 ≤ mj_n (g'552 16) (f 15).toNatClampNeg 3 := by rw [hp671]; split <;> omega
                        have hp6712 : (g'552 16 z668.toNatClampNeg).toInt = 3 → mj_n (g'552 16) z668.toNatClampNeg 3 + 1 ≤ mj_n (g'552 16) (f 15).toNatClampNeg 3 := fun q => by rw [hp671, if_pos q]; exact Int.le_refl _
                        refine am_e2 (v := 39) hi_213_23 rfl ?_
                        refine am_e0 hi_213_24 ?_
                        refine am_e1 (v := r660) hi_213_25 rfl ?_
                        refine am_e1 (v := f 4) hi_213_27 rfl ?_
                        refine am_e32n (as := [.ref 39, .int 1, .int r660, .int (f 4)]) (la := [some (.ref 39), some (.int 1), some (.int r660), some (.int (f 4))]) (rest := []) hi_213_28 (am_hd0 (M := 213) (by decide) 28) (Nat.le_of_ble_eq_true rfl) (Nat.le_of_ble_eq_true rfl) (show 4 ≤ am_P0.2.2.1 190 from by decide +kernel) rfl (am_recv_ok hS670.fs) rfl rfl (ct_value (d := (d + 3)) hS670 hR667_ (fun h => absurd h (by decide)) (fun _ => ⟨by omega, by omega⟩) (by show (0 : Int) ≤ z668.toInt; omega) (by show z668.toInt ≤ (32767 : Int); omega)) ?_
                        rintro v672 S673 (⟨z674, g'675, hv676, hS677, hR682, h678, h679, h680, h681⟩)
                        subst hv676
                        have h678_ : z674.toInt = z668.toInt + 1 := h678
                        have h679_ : ∀ j, j ∉ [16, 17, 18] → g'675 j = g'661 j := h679
                        have h680_ : mj_n (g'675 16) z674.toNatClampNeg 3 ≤ mj_n (g'552 16) z668.toNatClampNeg 3 + 1 := by rw [show g'661 16 = g'565 16 from h666_ 16 (by decide), show g'565 16 = g'552 16 from h569_ 16 (by decide)] at h680; exact h680
                        have h681_ : (1 : Int) = 3 ∨ mj_n (g'675 16) z674.toNatClampNeg 3 ≤ mj_n (g'552 16) z668.toNatClampNeg 3 := by rw [show g'661 16 = g'565 16 from h666_ 16 (by decide), show g'565 16 = g'552 16 from h569_ 16 (by decide)] at h681; exact h681
                        replace hS677 : MS S0 S673 (upd (upd (upd (upd (upd (upd (upd f 4 z642) 5 y643) 10 z564) 15 z674) 62 o549) 68 z659) 75 m551) g'675 := hS677
                        have hR682_ : RJ (upd (upd (upd (upd (upd (upd (upd f 4 z642) 5 y643) 10 z564) 15 z674) 62 o549) 68 z659) 75 m551) g'675 (((28 : Int), (0 : Int), (0 : Int), (0 : Int), []) :: gs) bc [] 0 (s550.toNatClampNeg :: []) := hR682
                        show am_E _ _ _ _ [some (.ref 39), some (.int 0), some (.int 0), some (.int (f 4)), some (.int r660)] [] _ _
                        refine am_e35 hi_213_31 ?_
                        show am_E _ _ _ _ [some (.ref 39), some (.int 0), some (.int (f 4))] [] _ _
                        refine am_e18 hi_212_109 ?_
                        refine am_e35 hi_212_125 ?_
                        show am_E _ _ _ _ [some (.ref 39), some (.int r2), some (.int (f 4)), none] [] _ _
                        refine am_e35 hi_211_249 ?_
                        show am_E _ _ _ _ [some (.ref 39), some (.int 28), some (.int on), some (.int tw)] [] _ _
                        refine am_e18 hi_181_180 ?_
                        refine am_e35 hi_181_397 ?_
                        show am_E _ _ _ _ [some (.ref 39), some (.int 28), some (.int on), some (.int tw), some (.int th)] [] _ _
                        refine am_e35 hi_180_13 ?_
                        have q1 : mg_p1 (((28 : Int), (0 : Int), (0 : Int), (0 : Int), []) :: gs) = 0 + (mg_p1 gs) := rfl
                        have q2 : mg_p2 (((28 : Int), (0 : Int), (0 : Int), (0 : Int), []) :: gs) = 0 + (mg_p2 gs) := rfl
                        have q3 : mg_p3 (((28 : Int), (0 : Int), (0 : Int), (0 : Int), []) :: gs) = 1 + (mg_p3 gs) := rfl
                        have q4 : mg_p4 (((28 : Int), (0 : Int), (0 : Int), (0 : Int), []) :: gs) = 0 + (mg_p4 gs) := rfl
                        refine ⟨_, _, _, bc, rfl, hS677, Or.inl ⟨⟨(RJ.fewer (pj' := []) hR682_ (fun _ h => nomatch h)), ?_, ?_⟩, rfl, ?_⟩⟩
                        · exact (⟨⟨(show mg_k 28 from by decide), (show (1 : Int) ≤ z674.toInt from by omega), (show 0 ≤ (f 20).toInt from by omega), (show 1 ≤ (f 37).toInt from by omega), (show 0 ≤ (f 32).toInt from by omega), (show (f 32).toInt ≤ y643.toInt from by omega), (show y643.toInt ≤ 48 from by omega), (show (f 37).toInt ≤ 2 * (y643.toInt) + 2 from by omega), trivial⟩, mg_cast (mg_good_ext _ _ _ _ _ _ (fun i _ => by show g'675 34 i = g 34 i; rw [show g'675 34 = g'661 34 from h679_ 34 (by decide), show g'661 34 = g'565 34 from h666_ 34 (by decide), show g'565 34 = g'552 34 from h569_ 34 (by decide), show g'552 34 = g 34 from h560_ 34 (by decide)]) (fun i _ => by show g'675 38 i = g 38 i; rw [show g'675 38 = g'661 38 from h679_ 38 (by decide), show g'661 38 = g'565 38 from h666_ 38 (by decide), show g'565 38 = g'552 38 from h569_ 38 (by decide), show g'552 38 = g 38 from h560_ 38 (by decide)]) (fun i _ => by show g'675 23 i = g 23 i; rw [show g'675 23 = g'661 23 from h679_ 23 (by decide), show g'661 23 = g'565 23 from h666_ 23 (by decide), show g'565 23 = g'552 23 from h569_ 23 (by decide), show g'552 23 = g 23 from h560_ 23 (by decide)]) hrest) (by show (f 15).toInt + 0 = z674.toInt + 0; omega) (by show (f 20).toInt = (f 20).toInt; omega) (by show (f 37).toInt + 0 = (f 37).toInt + 0; omega) (by show (f 32).toInt + 0 = (f 32).toInt + 0; omega) (by show (f 5).toInt + 0 = y643.toInt + 0; omega)⟩ : mg_good (g'675 34) (g'675 38) (g'675 23) (((28 : Int), (0 : Int), (0 : Int), (0 : Int), []) :: gs) (z674.toInt) ((f 20).toInt) ((f 37).toInt) ((f 32).toInt) (y643.toInt))
                        · exact ⟨(by show 0 ≤ z642.toInt; omega), (by show z642.toInt ≤ (f 0).toInt; omega), (by show (f 0).toInt ≤ 512; omega), (by show 0 ≤ (f 24).toInt; omega), (by show (f 24).toInt + (f 20).toInt + mg_p1 (((28 : Int), (0 : Int), (0 : Int), (0 : Int), []) :: gs) ≤ 4 * z642.toInt; omega), (by show (f 20).toInt ≤ z642.toInt; omega), (by show z674.toInt + mg_p2 (((28 : Int), (0 : Int), (0 : Int), (0 : Int), []) :: gs) ≤ z642.toInt; omega), (by show mg_p3 (((28 : Int), (0 : Int), (0 : Int), (0 : Int), []) :: gs) ≤ 20 * z642.toInt + 20; omega), (by show 0 ≤ z659.toInt; omega), (by show z659.toInt + 3 * (f 20).toInt + mg_p4 (((28 : Int), (0 : Int), (0 : Int), (0 : Int), []) :: gs) ≤ 60 * z642.toInt + 60; omega), (by show 0 ≤ o549.toInt; omega), (by show o549.toInt + 64 * mj_n (g'675 16) z674.toNatClampNeg 3 ≤ 64 * z642.toInt; omega), (by show 0 ≤ (f 44).toInt; omega), (by show (f 44).toInt ≤ z642.toInt; omega), (by show 0 ≤ (f 48).toInt; omega), (by show (f 48).toInt ≤ z642.toInt; omega), (by show 1 ≤ (f 53).toInt; omega), (by show (f 53).toInt ≤ z642.toInt + 1; omega), (by show 0 ≤ (f 19).toInt; omega), (by show (f 19).toInt ≤ 600; omega), (by show 0 ≤ (f 6).toInt; omega), (by show 0 ≤ (f 8).toInt; omega)⟩
                        · show 100 * ((f 0).toInt - z642.toInt) + mg_p3 (((28 : Int), (0 : Int), (0 : Int), (0 : Int), []) :: gs) < 100 * ((f 0).toInt - (f 4).toInt) + (1 + mg_p3 gs); omega
                      · subst hv652
                        have h654_ : (0 : Int) ≤ a650.toInt := h654
                        replace hS653 : MS S0 S641 (upd (upd (upd (upd (upd (upd (upd (upd f 4 z589) 5 y590) 6 a650) 7 b651) 10 0) 62 o549) 68 s550) 75 m551) g'565 := hS653
                        have hR683 := rj_clear0 hR604
                        have hR684 : RJ (upd (upd (upd (upd (upd (upd (upd (upd f 4 z589) 5 y590) 6 a650) 7 b651) 10 0) 62 o549) 68 s550) 75 m551) g'565 [] bc [] 0 [] := hR683
                        show am_E _ _ _ _ [some (.ref 39), some (.int 0), some (.int (f 4))] [.int 0] _ _
                        refine am_e6i hi_212_101 ?_
                        refine am_e2 (v := 39) hi_212_102 rfl ?_
                        refine am_e1 (v := 0) hi_212_103 rfl ?_
                        refine am_e0 hi_212_104 ?_
                        refine am_e1 (v := f 4) hi_212_105 rfl ?_
                        refine am_e32w (as := [.ref 39, .int 0, .int 0, .int (f 4)]) (la := [some (.ref 39), some (.int 0), some (.int 0), some (.int (f 4)), none]) (rest := []) hi_212_106 (am_hd0 (M := 212) (by decide) 106) (Nat.le_of_ble_eq_true rfl) (Nat.le_of_ble_eq_true rfl) (show 4 ≤ am_P0.2.2.1 213 from by decide +kernel) rfl (am_recv_ok hS653.fs) rfl rfl ?_
                        refine am_e2 (v := 39) hi_213_0 rfl ?_
                        refine am_e0 hi_213_1 ?_
                        refine am_e1 (v := 0) hi_213_3 rfl ?_
                        refine am_e1 (v := 0) hi_213_4 rfl ?_
                        refine am_e0 hi_213_5 ?_
                        refine am_e10 (z := 2) hi_213_6 (by decide) ?_
                        refine am_e1 (v := f 4) hi_213_7 rfl ?_
                        refine am_e32n (as := [.ref 39, .int 13, .int 0, .int 2, .int (f 4)]) (la := [some (.ref 39), some (.int 13), some (.int 0), some (.int 2), some (.int (f 4))]) (rest := []) hi_213_8 (am_hd0 (M := 213) (by decide) 8) (Nat.le_of_ble_eq_true rfl) (Nat.le_of_ble_eq_true rfl) (show 5 ≤ am_P0.2.2.1 189 from by decide +kernel) rfl (am_recv_ok hS653.fs) rfl rfl (ct_put (d := (d + 3)) hS653 hR684  (by show (0 : Int) ≤ (f 32).toInt; omega) (by show (f 32).toInt ≤ (63 : Int); omega) (by show (f 53).toInt ≤ (4096 : Int); omega) (by show (0 : Int) ≤ s550.toInt; omega) (by show s550.toInt ≤ (65534 : Int); omega)) ?_
                        rintro v685 S686 (⟨z687, r688, g'689, hv690, hS691, hR695, h692, h693, h694⟩)
                        subst hv690
                        have h692_ : z687.toInt = s550.toInt + 1 := h692
                        have h693_ : r688.toInt = s550.toInt := h693
                        have h694_ : ∀ j, j ∉ [60, 69, 70, 71, 72, 73] → g'689 j = g'565 j := h694
                        replace hS691 : MS S0 S686 (upd (upd (upd (upd (upd (upd (upd (upd f 4 z589) 5 y590) 6 a650) 7 b651) 10 0) 62 o549) 68 z687) 75 m551) g'689 := hS691
                        have hR695_ : RJ (upd (upd (upd (upd (upd (upd (upd (upd f 4 z589) 5 y590) 6 a650) 7 b651) 10 0) 62 o549) 68 z687) 75 m551) g'689 [] bc [] 0 (s550.toNatClampNeg :: []) := hR695
                        show am_E _ _ _ _ [some (.ref 39), some (.int 0), some (.int 0), some (.int (f 4)), none] [.int r688] _ _
                        refine am_e3 (ls' := [some (.ref 39), some (.int 0), some (.int 0), some (.int (f 4)), some (.int r688)]) hi_213_11 (Nat.le_of_ble_eq_true rfl) rfl ?_
                        refine am_e2 (v := 39) hi_213_13 rfl ?_
                        refine am_e7 hi_213_14 ?_
                        refine mm_20 (v := .int (f 15)) hS691 hi_213_15 rfl ?_
                        refine am_e0 hi_213_18 ?_
                        obtain ⟨z696, hz696, tz696⟩ := am_subI (x := f 15) (y := 1) (m := (f 15).toInt) (n := (1 : Int)) rfl (by decide) (by omega) (by omega)
                        refine am_e10 (z := z696) hi_213_19 hz696 ?_
                        refine mm_21 (v := z696) hS691 hi_213_20 rfl (Nat.le_of_ble_eq_true rfl) ms_15 ?_
                        intro S697 hS698
                        replace hS698 : MS S0 S697 (upd (upd (upd (upd (upd (upd (upd (upd (upd f 4 z589) 5 y590) 6 a650) 7 b651) 10 0) 15 z696) 62 o549) 68 z687) 75 m551) g'689 := hS698
                        have hp699 : mj_n (g'552 16) (f 15).toNatClampNeg 3 = mj_n (g'552 16) z696.toNatClampNeg 3 + if (g'552 16 z696.toNatClampNeg).toInt = 3 then 1 else 0 := mj_pop (by rw [cl_toNat, cl_toNat]; omega)
                        have hp6991 : mj_n (g'552 16) z696.toNatClampNeg 3 ≤ mj_n (g'552 16) (f 15).toNatClampNeg 3 := by rw [hp699]; split <;> omega
                        have hp6992 : (g'552 16 z696.toNatClampNeg).toInt = 3 → mj_n (g'552 16) z696.toNatClampNeg 3 + 1 ≤ mj_n (g'552 16) (f 15).toNatClampNeg 3 := fun q => by rw [hp699, if_pos q]; exact Int.le_refl _
                        refine am_e2 (v := 39) hi_213_23 rfl ?_
                        refine am_e0 hi_213_24 ?_
                        refine am_e1 (v := r688) hi_213_25 rfl ?_
                        refine am_e1 (v := f 4) hi_213_27 rfl ?_
                        refine am_e32n (as := [.ref 39, .int 1, .int r688, .int (f 4)]) (la := [some (.ref 39), some (.int 1), some (.int r688), some (.int (f 4))]) (rest := []) hi_213_28 (am_hd0 (M := 213) (by decide) 28) (Nat.le_of_ble_eq_true rfl) (Nat.le_of_ble_eq_true rfl) (show 4 ≤ am_P0.2.2.1 190 from by decide +kernel) rfl (am_recv_ok hS698.fs) rfl rfl (ct_value (d := (d + 3)) hS698 hR695_ (fun h => absurd h (by decide)) (fun _ => ⟨by omega, by omega⟩) (by show (0 : Int) ≤ z696.toInt; omega) (by show z696.toInt ≤ (32767 : Int); omega)) ?_
                        rintro v700 S701 (⟨z702, g'703, hv704, hS705, hR710, h706, h707, h708, h709⟩)
                        subst hv704
                        have h706_ : z702.toInt = z696.toInt + 1 := h706
                        have h707_ : ∀ j, j ∉ [16, 17, 18] → g'703 j = g'689 j := h707
                        have h708_ : mj_n (g'703 16) z702.toNatClampNeg 3 ≤ mj_n (g'552 16) z696.toNatClampNeg 3 + 1 := by rw [show g'689 16 = g'565 16 from h694_ 16 (by decide), show g'565 16 = g'552 16 from h569_ 16 (by decide)] at h708; exact h708
                        have h709_ : (1 : Int) = 3 ∨ mj_n (g'703 16) z702.toNatClampNeg 3 ≤ mj_n (g'552 16) z696.toNatClampNeg 3 := by rw [show g'689 16 = g'565 16 from h694_ 16 (by decide), show g'565 16 = g'552 16 from h569_ 16 (by decide)] at h709; exact h709
                        replace hS705 : MS S0 S701 (upd (upd (upd (upd (upd (upd (upd (upd (upd f 4 z589) 5 y590) 6 a650) 7 b651) 10 0) 15 z702) 62 o549) 68 z687) 75 m551) g'703 := hS705
                        have hR710_ : RJ (upd (upd (upd (upd (upd (upd (upd (upd (upd f 4 z589) 5 y590) 6 a650) 7 b651) 10 0) 15 z702) 62 o549) 68 z687) 75 m551) g'703 [] bc [] 0 (s550.toNatClampNeg :: []) := hR710
                        show am_E _ _ _ _ [some (.ref 39), some (.int 0), some (.int 0), some (.int (f 4)), some (.int r688)] [] _ _
                        refine am_e35 hi_213_31 ?_
                        show am_E _ _ _ _ [some (.ref 39), some (.int 0), some (.int (f 4))] [] _ _
                        refine am_e18 hi_212_109 ?_
                        refine am_e35 hi_212_125 ?_
                        show am_E _ _ _ _ [some (.ref 39), some (.int r2), some (.int (f 4)), none] [] _ _
                        refine am_e35 hi_211_249 ?_
                        show am_E _ _ _ _ [some (.ref 39), some (.int 28), some (.int on), some (.int tw)] [] _ _
                        refine am_e18 hi_181_180 ?_
                        refine am_e35 hi_181_397 ?_
                        show am_E _ _ _ _ [some (.ref 39), some (.int 28), some (.int on), some (.int tw), some (.int th)] [] _ _
                        refine am_e35 hi_180_13 ?_
                        have hRc := rj_clear0 hR710_
                        refine ⟨_, _, [], _, rfl, hS705, Or.inr ⟨hRc, rfl, (by show 0 ≤ z589.toInt; omega), (by show z589.toInt ≤ (f 0).toInt; omega), (by show 0 ≤ (f 32).toInt; omega), (by show (f 32).toInt ≤ 63; omega), (by show 1 ≤ (f 53).toInt; omega), (by show (f 53).toInt ≤ 600; omega), (by show 0 ≤ z687.toInt; omega), (by show z687.toInt ≤ 60000; omega), (by show 0 ≤ (f 48).toInt; omega), (by show (f 48).toInt ≤ 8000; omega), (by show 0 ≤ (f 37).toInt; omega), (by show (f 37).toInt ≤ 128; omega), (by show 0 ≤ o549.toInt; omega), (by show o549.toInt ≤ 65000; omega), (by show 0 ≤ (f 19).toInt; omega), (by show (f 19).toInt ≤ 600; omega), (by show 0 ≤ a650.toInt; omega), (by show 0 ≤ (f 8).toInt; omega)⟩⟩
                  · subst hv600
                    have h602_ : (0 : Int) ≤ a598.toInt := h602
                    replace hS601 : MS S0 S588 (upd (upd (upd (upd (upd (upd f 6 a598) 7 b599) 10 0) 62 o549) 68 s550) 75 m551) g'565 := hS601
                    have hR711 := rj_clear0 hR570_
                    have hR712 : RJ (upd (upd (upd (upd (upd (upd f 6 a598) 7 b599) 10 0) 62 o549) 68 s550) 75 m551) g'565 [] bc [] 0 [] := hR711
                    show am_E _ _ _ _ [some (.ref 39), some (.int 0), some (.int (f 4))] [.int 0] _ _
                    refine am_e12t hi_212_83 (by decide) ?_
                    refine am_e35 hi_212_125 ?_
                    show am_E _ _ _ _ [some (.ref 39), some (.int r2), some (.int (f 4)), none] [] _ _
                    refine am_e35 hi_211_249 ?_
                    show am_E _ _ _ _ [some (.ref 39), some (.int 28), some (.int on), some (.int tw)] [] _ _
                    refine am_e18 hi_181_180 ?_
                    refine am_e35 hi_181_397 ?_
                    show am_E _ _ _ _ [some (.ref 39), some (.int 28), some (.int on), some (.int tw), some (.int th)] [] _ _
                    refine am_e35 hi_180_13 ?_
                    have hRc := rj_clear0 hR712
                    refine ⟨_, _, [], _, rfl, hS601, Or.inr ⟨hRc, rfl, (by show 0 ≤ (f 4).toInt; omega), (by show (f 4).toInt ≤ (f 0).toInt; omega), (by show 0 ≤ (f 32).toInt; omega), (by show (f 32).toInt ≤ 63; omega), (by show 1 ≤ (f 53).toInt; omega), (by show (f 53).toInt ≤ 600; omega), (by show 0 ≤ s550.toInt; omega), (by show s550.toInt ≤ 60000; omega), (by show 0 ≤ (f 48).toInt; omega), (by show (f 48).toInt ≤ 8000; omega), (by show 0 ≤ (f 37).toInt; omega), (by show (f 37).toInt ≤ 128; omega), (by show 0 ≤ o549.toInt; omega), (by show o549.toInt ≤ 65000; omega), (by show 0 ≤ (f 19).toInt; omega), (by show (f 19).toInt ≤ 600; omega), (by show 0 ≤ a598.toInt; omega), (by show 0 ≤ (f 8).toInt; omega)⟩⟩
                · refine am_e13f hi_212_58 (am_cF (m := r581.toInt) (n := (62 : Int)) rfl (by decide) c586) ?_
                  refine am_e2 (v := 39) hi_212_61 rfl ?_
                  refine am_e0 hi_212_62 ?_
                  refine am_e1 (v := 0) hi_212_64 rfl ?_
                  refine am_e1 (v := f 4) hi_212_65 rfl ?_
                  refine am_e0 hi_212_66 ?_
                  refine am_e32n (as := [.ref 39, .int 33, .int 0, .int (f 4), .int 0]) (la := [some (.ref 39), some (.int 33), some (.int 0), some (.int (f 4)), some (.int 0)]) (rest := []) hi_212_67 (am_hd0 (M := 212) (by decide) 67) (Nat.le_of_ble_eq_true rfl) (Nat.le_of_ble_eq_true rfl) (show 5 ≤ am_P0.2.2.1 179 from by decide +kernel) rfl (am_recv_ok hS583.fs) rfl rfl (ct_pile (d := (d + 4)) hS583 hR570_ (mj_e_plain (by decide)) (by show (0 : Int) ≤ z564.toInt; omega) (by show z564.toInt ≤ (65535 : Int); omega)) ?_
                  rintro v713 S714 (⟨z715, g'716, hv717, hS718, hR721, h719, h720⟩)
                  subst hv717
                  have h719_ : z715.toInt = z564.toInt + 1 := h719
                  have h720_ : ∀ j, j ∉ [11, 12, 13, 14] → g'716 j = g'565 j := h720
                  replace hS718 : MS S0 S714 (upd (upd (upd (upd f 10 z715) 62 o549) 68 s550) 75 m551) g'716 := hS718
                  have hR721_ : RJ (upd (upd (upd (upd f 10 z715) 62 o549) 68 s550) 75 m551) g'716 (((33 : Int), (0 : Int), (f 4).toInt, (0 : Int), []) :: (((28 : Int), (0 : Int), (0 : Int), (0 : Int), []) :: gs)) bc [] 0 [] := hR721
                  show am_E _ _ _ _ [some (.ref 39), some (.int 0), some (.int (f 4))] [] _ _
                  refine am_e2 (v := 39) hi_212_70 rfl ?_
                  refine am_e32w (as := [.ref 39]) (la := [some (.ref 39), none]) (rest := []) hi_212_71 (am_hd0 (M := 212) (by decide) 71) (Nat.le_of_ble_eq_true rfl) (Nat.le_of_ble_eq_true rfl) (show 1 ≤ am_P0.2.2.1 192 from by decide +kernel) rfl (am_recv_ok hS718.fs) rfl rfl ?_
                  refine am_e2 (v := 39) hi_192_0 rfl ?_
                  refine mm_20 (v := .int (f 4)) hS718 hi_192_1 rfl ?_
                  refine am_e3 (ls' := [some (.ref 39), some (.int (f 4))]) hi_192_4 (Nat.le_of_ble_eq_true rfl) rfl ?_
                  refine am_e2 (v := 39) hi_192_5 rfl ?_
                  refine am_e0 hi_192_6 ?_
                  refine am_e32n (as := [.ref 39, .int 62]) (la := [some (.ref 39), some (.int 62)]) (rest := []) hi_192_8 (am_hd0 (M := 192) (by decide) 8) (Nat.le_of_ble_eq_true rfl) (Nat.le_of_ble_eq_true rfl) (show 2 ≤ am_P0.2.2.1 193 from by decide +kernel) rfl (am_recv_ok hS718.fs) rfl rfl (ct_enter (d := (d + 1)) hS718   (by show (0 : Int) ≤ (f 4).toInt; omega) (by show (f 0).toInt ≤ (16384 : Int); omega) (by show (0 : Int) ≤ (62 : Int); omega) (by show (0 : Int) ≤ (f 5).toInt; omega) (by show (f 5).toInt ≤ (48 : Int); omega) (by show (0 : Int) ≤ (f 6).toInt; omega)) ?_
                  rintro v722 S723 (⟨z724, y725, hv726, hS727, h728, h729, h730, h731⟩ | ⟨a733, b734, hv735, hS736, h737⟩)
                  · subst hv726
                    have h728_ : z724.toInt = (f 4).toInt + 1 := h728
                    have h729_ : (f 4).toInt < (f 0).toInt := h729
                    have h730_ : y725.toInt = (f 5).toInt + 1 := h730
                    have h731_ : y725.toInt ≤ (48 : Int) := h731
                    replace hS727 : MS S0 S723 (upd (upd (upd (upd (upd (upd f 4 z724) 5 y725) 10 z715) 62 o549) 68 s550) 75 m551) g'716 := hS727
                    have hR739 : RJ (upd (upd (upd (upd (upd (upd f 4 z724) 5 y725) 10 z715) 62 o549) 68 s550) 75 m551) g'716 (((33 : Int), (0 : Int), (f 4).toInt, (0 : Int), []) :: (((28 : Int), (0 : Int), (0 : Int), (0 : Int), []) :: gs)) bc [] 0 [] := RJ.at hR721_ (by show (f 4).toInt ≤ z724.toInt; omega)
                    show am_E _ _ _ _ [some (.ref 39), some (.int (f 4))] [.int 1] _ _
                    refine am_e12t hi_192_11 (by decide) ?_
                    refine am_e2 (v := 39) hi_192_15 rfl ?_
                    refine am_e0 hi_192_16 ?_
                    refine am_e0 hi_192_18 ?_
                    refine am_e0 hi_192_19 ?_
                    refine am_e1 (v := f 4) hi_192_20 rfl ?_
                    refine am_e32n (as := [.ref 39, .int 20, .int 0, .int 0, .int (f 4)]) (la := [some (.ref 39), some (.int 20), some (.int 0), some (.int 0), some (.int (f 4))]) (rest := []) hi_192_21 (am_hd0 (M := 192) (by decide) 21) (Nat.le_of_ble_eq_true rfl) (Nat.le_of_ble_eq_true rfl) (show 5 ≤ am_P0.2.2.1 189 from by decide +kernel) rfl (am_recv_ok hS727.fs) rfl rfl (ct_put (d := (d + 3)) hS727 hR739  (by show (0 : Int) ≤ (f 32).toInt; omega) (by show (f 32).toInt ≤ (63 : Int); omega) (by show (f 53).toInt ≤ (4096 : Int); omega) (by show (0 : Int) ≤ s550.toInt; omega) (by show s550.toInt ≤ (65534 : Int); omega)) ?_
                    rintro v740 S741 (⟨z742, r743, g'744, hv745, hS746, hR750, h747, h748, h749⟩)
                    subst hv745
                    have h747_ : z742.toInt = s550.toInt + 1 := h747
                    have h748_ : r743.toInt = s550.toInt := h748
                    have h749_ : ∀ j, j ∉ [60, 69, 70, 71, 72, 73] → g'744 j = g'716 j := h749
                    replace hS746 : MS S0 S741 (upd (upd (upd (upd (upd (upd f 4 z724) 5 y725) 10 z715) 62 o549) 68 z742) 75 m551) g'744 := hS746
                    have hR750_ : RJ (upd (upd (upd (upd (upd (upd f 4 z724) 5 y725) 10 z715) 62 o549) 68 z742) 75 m551) g'744 (((33 : Int), (0 : Int), (f 4).toInt, (0 : Int), []) :: (((28 : Int), (0 : Int), (0 : Int), (0 : Int), []) :: gs)) bc [] 0 (s550.toNatClampNeg :: []) := hR750
                    show am_E _ _ _ _ [some (.ref 39), some (.int (f 4))] [.int r743] _ _
                    refine am_e6i hi_192_24 ?_
                    refine am_e2 (v := 39) hi_192_25 rfl ?_
                    refine am_e0 hi_192_26 ?_
                    refine am_e0 hi_192_27 ?_
                    refine am_e0 hi_192_28 ?_
                    refine am_e32n (as := [.ref 39, .int 0, .int 0, .int 0]) (la := [some (.ref 39), some (.int 0), some (.int 0), some (.int 0)]) (rest := []) hi_192_29 (am_hd0 (M := 192) (by decide) 29) (Nat.le_of_ble_eq_true rfl) (Nat.le_of_ble_eq_true rfl) (show 4 ≤ am_P0.2.2.1 190 from by decide +kernel) rfl (am_recv_ok hS746.fs) rfl rfl (ct_value (d := (d + 3)) hS746 hR750_ (fun h => absurd h (by decide)) (fun h => absurd h (by decide)) (by show (0 : Int) ≤ (f 15).toInt; omega) (by show (f 15).toInt ≤ (32767 : Int); omega)) ?_
                    rintro v751 S752 (⟨z753, g'754, hv755, hS756, hR761, h757, h758, h759, h760⟩)
                    subst hv755
                    have h757_ : z753.toInt = (f 15).toInt + 1 := h757
                    have h758_ : ∀ j, j ∉ [16, 17, 18] → g'754 j = g'744 j := h758
                    have h759_ : mj_n (g'754 16) z753.toNatClampNeg 3 ≤ mj_n (g'552 16) (f 15).toNatClampNeg 3 + 1 := by rw [show g'744 16 = g'716 16 from h749_ 16 (by decide), show g'716 16 = g'565 16 from h720_ 16 (by decide), show g'565 16 = g'552 16 from h569_ 16 (by decide)] at h759; exact h759
                    have h760_ : (0 : Int) = 3 ∨ mj_n (g'754 16) z753.toNatClampNeg 3 ≤ mj_n (g'552 16) (f 15).toNatClampNeg 3 := by rw [show g'744 16 = g'716 16 from h749_ 16 (by decide), show g'716 16 = g'565 16 from h720_ 16 (by decide), show g'565 16 = g'552 16 from h569_ 16 (by decide)] at h760; exact h760
                    replace hS756 : MS S0 S752 (upd (upd (upd (upd (upd (upd (upd f 4 z724) 5 y725) 10 z715) 15 z753) 62 o549) 68 z742) 75 m551) g'754 := hS756
                    have hR761_ : RJ (upd (upd (upd (upd (upd (upd (upd f 4 z724) 5 y725) 10 z715) 15 z753) 62 o549) 68 z742) 75 m551) g'754 (((33 : Int), (0 : Int), (f 4).toInt, (0 : Int), []) :: (((28 : Int), (0 : Int), (0 : Int), (0 : Int), []) :: gs)) bc [] 0 (s550.toNatClampNeg :: []) := hR761
                    show am_E _ _ _ _ [some (.ref 39), some (.int (f 4))] [] _ _
                    refine am_e2 (v := 39) hi_192_32 rfl ?_
                    refine am_e0 hi_192_33 ?_
                    refine am_e0 hi_192_35 ?_
                    refine am_e0 hi_192_36 ?_
                    refine am_e0 hi_192_37 ?_
                    refine am_e32n (as := [.ref 39, .int 35, .int 0, .int 0, .int 0]) (la := [some (.ref 39), some (.int 35), some (.int 0), some (.int 0), some (.int 0)]) (rest := []) hi_192_38 (am_hd0 (M := 192) (by decide) 38) (Nat.le_of_ble_eq_true rfl) (Nat.le_of_ble_eq_true rfl) (show 5 ≤ am_P0.2.2.1 179 from by decide +kernel) rfl (am_recv_ok hS756.fs) rfl rfl (ct_pile (d := (d + 3)) hS756 hR761_ (mj_e_plain (by decide)) (by show (0 : Int) ≤ z715.toInt; omega) (by show z715.toInt ≤ (65535 : Int); omega)) ?_
                    rintro v762 S763 (⟨z764, g'765, hv766, hS767, hR770, h768, h769⟩)
                    subst hv766
                    have h768_ : z764.toInt = z715.toInt + 1 := h768
                    have h769_ : ∀ j, j ∉ [11, 12, 13, 14] → g'765 j = g'754 j := h769
                    replace hS767 : MS S0 S763 (upd (upd (upd (upd (upd (upd (upd f 4 z724) 5 y725) 10 z764) 15 z753) 62 o549) 68 z742) 75 m551) g'765 := hS767
                    have hR770_ : RJ (upd (upd (upd (upd (upd (upd (upd f 4 z724) 5 y725) 10 z764) 15 z753) 62 o549) 68 z742) 75 m551) g'765 (((35 : Int), (0 : Int), (0 : Int), (0 : Int), []) :: (((33 : Int), (0 : Int), (f 4).toInt, (0 : Int), []) :: (((28 : Int), (0 : Int), (0 : Int), (0 : Int), []) :: gs))) bc [] 0 (s550.toNatClampNeg :: []) := hR770
                    show am_E _ _ _ _ [some (.ref 39), some (.int (f 4))] [] _ _
                    refine am_e35 hi_192_41 ?_
                    show am_E _ _ _ _ [some (.ref 39), some (.int 0), some (.int (f 4))] [] _ _
                    refine am_e18 hi_212_74 ?_
                    refine am_e35 hi_212_125 ?_
                    show am_E _ _ _ _ [some (.ref 39), some (.int r2), some (.int (f 4)), none] [] _ _
                    refine am_e35 hi_211_249 ?_
                    show am_E _ _ _ _ [some (.ref 39), some (.int 28), some (.int on), some (.int tw)] [] _ _
                    refine am_e18 hi_181_180 ?_
                    refine am_e35 hi_181_397 ?_
                    show am_E _ _ _ _ [some (.ref 39), some (.int 28), some (.int on), some (.int tw), some (.int th)] [] _ _
                    refine am_e35 hi_180_13 ?_
                    have q1 : mg_p1 (((35 : Int), (0 : Int), (0 : Int), (0 : Int), []) :: (((33 : Int), (0 : Int), (f 4).toInt, (0 : Int), []) :: (((28 : Int), (0 : Int), (0 : Int), (0 : Int), []) :: gs))) = 0 + (0 + (0 + (mg_p1 gs))) := rfl
                    have q2 : mg_p2 (((35 : Int), (0 : Int), (0 : Int), (0 : Int), []) :: (((33 : Int), (0 : Int), (f 4).toInt, (0 : Int), []) :: (((28 : Int), (0 : Int), (0 : Int), (0 : Int), []) :: gs))) = 0 + (0 + (0 + (mg_p2 gs))) := rfl
                    have q3 : mg_p3 (((35 : Int), (0 : Int), (0 : Int), (0 : Int), []) :: (((33 : Int), (0 : Int), (f 4).toInt, (0 : Int), []) :: (((28 : Int), (0 : Int), (0 : Int), (0 : Int), []) :: gs))) = 3 + (1 + (1 + (mg_p3 gs))) := rfl
                    have q4 : mg_p4 (((35 : Int), (0 : Int), (0 : Int), (0 : Int), []) :: (((33 : Int), (0 : Int), (f 4).toInt, (0 : Int), []) :: (((28 : Int), (0 : Int), (0 : Int), (0 : Int), []) :: gs))) = 0 + (3 + (0 + (mg_p4 gs))) := rfl
                    refine ⟨_, _, _, bc, rfl, hS767, Or.inl ⟨⟨(RJ.fewer (pj' := []) hR770_ (fun _ h => nomatch h)), ?_, ?_⟩, rfl, ?_⟩⟩
                    · exact (⟨⟨(show mg_k 35 from by decide), (show (0 : Int) ≤ z753.toInt from by omega), (show 0 ≤ (f 20).toInt from by omega), (show 1 ≤ (f 37).toInt from by omega), (show 0 ≤ (f 32).toInt from by omega), (show (f 32).toInt ≤ y725.toInt from by omega), (show y725.toInt ≤ 48 from by omega), (show (f 37).toInt ≤ 2 * (y725.toInt) + 2 from by omega), trivial⟩, ⟨⟨(show mg_k 33 from by decide), (show (2 : Int) ≤ z753.toInt + 0 from by omega), (show 0 ≤ (f 20).toInt from by omega), (show 1 ≤ (f 37).toInt + 0 from by omega), (show 0 ≤ (f 32).toInt + 0 from by omega), (show (f 32).toInt + 0 ≤ y725.toInt + -1 from by omega), (show y725.toInt + -1 ≤ 48 from by omega), (show (f 37).toInt + 0 ≤ 2 * (y725.toInt + -1) + 2 from by omega), trivial⟩, ⟨⟨(show mg_k 28 from by decide), (show (1 : Int) ≤ z753.toInt + 0 + -1 from by omega), (show 0 ≤ (f 20).toInt from by omega), (show 1 ≤ (f 37).toInt + 0 + 0 from by omega), (show 0 ≤ (f 32).toInt + 0 + 0 from by omega), (show (f 32).toInt + 0 + 0 ≤ y725.toInt + -1 + 0 from by omega), (show y725.toInt + -1 + 0 ≤ 48 from by omega), (show (f 37).toInt + 0 + 0 ≤ 2 * (y725.toInt + -1 + 0) + 2 from by omega), trivial⟩, mg_cast (mg_good_ext _ _ _ _ _ _ (fun i _ => by show g'765 34 i = g 34 i; rw [show g'765 34 = g'754 34 from h769_ 34 (by decide), show g'754 34 = g'744 34 from h758_ 34 (by decide), show g'744 34 = g'716 34 from h749_ 34 (by decide), show g'716 34 = g'565 34 from h720_ 34 (by decide), show g'565 34 = g'552 34 from h569_ 34 (by decide), show g'552 34 = g 34 from h560_ 34 (by decide)]) (fun i _ => by show g'765 38 i = g 38 i; rw [show g'765 38 = g'754 38 from h769_ 38 (by decide), show g'754 38 = g'744 38 from h758_ 38 (by decide), show g'744 38 = g'716 38 from h749_ 38 (by decide), show g'716 38 = g'565 38 from h720_ 38 (by decide), show g'565 38 = g'552 38 from h569_ 38 (by decide), show g'552 38 = g 38 from h560_ 38 (by decide)]) (fun i _ => by show g'765 23 i = g 23 i; rw [show g'765 23 = g'754 23 from h769_ 23 (by decide), show g'754 23 = g'744 23 from h758_ 23 (by decide), show g'744 23 = g'716 23 from h749_ 23 (by decide), show g'716 23 = g'565 23 from h720_ 23 (by decide), show g'565 23 = g'552 23 from h569_ 23 (by decide), show g'552 23 = g 23 from h560_ 23 (by decide)]) hrest) (by show (f 15).toInt + 0 = z753.toInt + 0 + -1 + 0; omega) (by show (f 20).toInt = (f 20).toInt; omega) (by show (f 37).toInt + 0 = (f 37).toInt + 0 + 0 + 0; omega) (by show (f 32).toInt + 0 = (f 32).toInt + 0 + 0 + 0; omega) (by show (f 5).toInt + 0 = y725.toInt + -1 + 0 + 0; omega)⟩⟩⟩ : mg_good (g'765 34) (g'765 38) (g'765 23) (((35 : Int), (0 : Int), (0 : Int), (0 : Int), []) :: (((33 : Int), (0 : Int), (f 4).toInt, (0 : Int), []) :: (((28 : Int), (0 : Int), (0 : Int), (0 : Int), []) :: gs))) (z753.toInt) ((f 20).toInt) ((f 37).toInt) ((f 32).toInt) (y725.toInt))
                    · exact ⟨(by show 0 ≤ z724.toInt; omega), (by show z724.toInt ≤ (f 0).toInt; omega), (by show (f 0).toInt ≤ 512; omega), (by show 0 ≤ (f 24).toInt; omega), (by show (f 24).toInt + (f 20).toInt + mg_p1 (((35 : Int), (0 : Int), (0 : Int), (0 : Int), []) :: (((33 : Int), (0 : Int), (f 4).toInt, (0 : Int), []) :: (((28 : Int), (0 : Int), (0 : Int), (0 : Int), []) :: gs))) ≤ 4 * z724.toInt; omega), (by show (f 20).toInt ≤ z724.toInt; omega), (by show z753.toInt + mg_p2 (((35 : Int), (0 : Int), (0 : Int), (0 : Int), []) :: (((33 : Int), (0 : Int), (f 4).toInt, (0 : Int), []) :: (((28 : Int), (0 : Int), (0 : Int), (0 : Int), []) :: gs))) ≤ z724.toInt; omega), (by show mg_p3 (((35 : Int), (0 : Int), (0 : Int), (0 : Int), []) :: (((33 : Int), (0 : Int), (f 4).toInt, (0 : Int), []) :: (((28 : Int), (0 : Int), (0 : Int), (0 : Int), []) :: gs))) ≤ 20 * z724.toInt + 20; omega), (by show 0 ≤ z742.toInt; omega), (by show z742.toInt + 3 * (f 20).toInt + mg_p4 (((35 : Int), (0 : Int), (0 : Int), (0 : Int), []) :: (((33 : Int), (0 : Int), (f 4).toInt, (0 : Int), []) :: (((28 : Int), (0 : Int), (0 : Int), (0 : Int), []) :: gs))) ≤ 60 * z724.toInt + 60; omega), (by show 0 ≤ o549.toInt; omega), (by show o549.toInt + 64 * mj_n (g'765 16) z753.toNatClampNeg 3 ≤ 64 * z724.toInt; rw [show g'765 16 = g'754 16 from h769_ 16 (by decide)]; omega), (by show 0 ≤ (f 44).toInt; omega), (by show (f 44).toInt ≤ z724.toInt; omega), (by show 0 ≤ (f 48).toInt; omega), (by show (f 48).toInt ≤ z724.toInt; omega), (by show 1 ≤ (f 53).toInt; omega), (by show (f 53).toInt ≤ z724.toInt + 1; omega), (by show 0 ≤ (f 19).toInt; omega), (by show (f 19).toInt ≤ 600; omega), (by show 0 ≤ (f 6).toInt; omega), (by show 0 ≤ (f 8).toInt; omega)⟩
                    · show 100 * ((f 0).toInt - z724.toInt) + mg_p3 (((35 : Int), (0 : Int), (0 : Int), (0 : Int), []) :: (((33 : Int), (0 : Int), (f 4).toInt, (0 : Int), []) :: (((28 : Int), (0 : Int), (0 : Int), (0 : Int), []) :: gs))) < 100 * ((f 0).toInt - (f 4).toInt) + (1 + mg_p3 gs); omega
                  · subst hv735
                    have h737_ : (0 : Int) ≤ a733.toInt := h737
                    replace hS736 : MS S0 S723 (upd (upd (upd (upd (upd (upd f 6 a733) 7 b734) 10 0) 62 o549) 68 s550) 75 m551) g'716 := hS736
                    have hR771 := rj_clear0 hR721_
                    have hR772 : RJ (upd (upd (upd (upd (upd (upd f 6 a733) 7 b734) 10 0) 62 o549) 68 s550) 75 m551) g'716 [] bc [] 0 [] := hR771
                    show am_E _ _ _ _ [some (.ref 39), some (.int (f 4))] [.int 0] _ _
                    refine am_e12f hi_192_11 (by decide) ?_
                    refine am_e35 hi_192_14 ?_
                    show am_E _ _ _ _ [some (.ref 39), some (.int 0), some (.int (f 4))] [] _ _
                    refine am_e18 hi_212_74 ?_
                    refine am_e35 hi_212_125 ?_
                    show am_E _ _ _ _ [some (.ref 39), some (.int r2), some (.int (f 4)), none] [] _ _
                    refine am_e35 hi_211_249 ?_
                    show am_E _ _ _ _ [some (.ref 39), some (.int 28), some (.int on), some (.int tw)] [] _ _
                    refine am_e18 hi_181_180 ?_
                    refine am_e35 hi_181_397 ?_
                    show am_E _ _ _ _ [some (.ref 39), some (.int 28), some (.int on), some (.int tw), some (.int th)] [] _ _
                    refine am_e35 hi_180_13 ?_
                    have hRc := rj_clear0 hR772
                    refine ⟨_, _, [], _, rfl, hS736, Or.inr ⟨hRc, rfl, (by show 0 ≤ (f 4).toInt; omega), (by show (f 4).toInt ≤ (f 0).toInt; omega), (by show 0 ≤ (f 32).toInt; omega), (by show (f 32).toInt ≤ 63; omega), (by show 1 ≤ (f 53).toInt; omega), (by show (f 53).toInt ≤ 600; omega), (by show 0 ≤ s550.toInt; omega), (by show s550.toInt ≤ 60000; omega), (by show 0 ≤ (f 48).toInt; omega), (by show (f 48).toInt ≤ 8000; omega), (by show 0 ≤ (f 37).toInt; omega), (by show (f 37).toInt ≤ 128; omega), (by show 0 ≤ o549.toInt; omega), (by show o549.toInt ≤ 65000; omega), (by show 0 ≤ (f 19).toInt; omega), (by show (f 19).toInt ≤ 600; omega), (by show 0 ≤ a733.toInt; omega), (by show 0 ≤ (f 8).toInt; omega)⟩⟩
              · refine am_e13f hi_212_10 (am_cF (m := r573.toInt) (n := (3 : Int)) rfl (by decide) c578) ?_
                refine am_e2 (v := 39) hi_212_13 rfl ?_
                refine am_e0 hi_212_14 ?_
                refine am_e2 (v := 39) hi_212_15 rfl ?_
                refine mm_20 (v := .ref 41) hS575 hi_212_16 rfl ?_
                refine am_e2 (v := 39) hi_212_19 rfl ?_
                refine mm_20 (v := .int (f 4)) hS575 hi_212_20 rfl ?_
                refine mm_25 hS575 ma_2 hi_212_23 (by decide) (by omega) (by omega) ?_
                show am_E _ _ _ _ _ (.int (g'565 2 (f 4).toNatClampNeg) :: _) _ _
                rw [show g'565 2 = g'552 2 from h569_ 2 (by decide), show g'552 2 = g 2 from h560_ 2 (by decide)]
                show am_E _ _ _ _ [some (.ref 39), some (.int 0), some (.int (f 4))] [.int (g 2 (f 4).toNatClampNeg), .int 5, .ref 39] _ _
                refine am_e0 hi_212_24 ?_
                refine am_e0 hi_212_25 ?_
                refine am_e32n (as := [.ref 39, .int 5, .int (g 2 (f 4).toNatClampNeg), .int 0, .int 0]) (la := [some (.ref 39), some (.int 5), some (.int (g 2 (f 4).toNatClampNeg)), some (.int 0), some (.int 0)]) (rest := []) hi_212_26 (am_hd0 (M := 212) (by decide) 26) (Nat.le_of_ble_eq_true rfl) (Nat.le_of_ble_eq_true rfl) (show 5 ≤ am_P0.2.2.1 189 from by decide +kernel) rfl (am_recv_ok hS575.fs) rfl rfl (ct_put (d := (d + 4)) hS575 hR570_  (by show (0 : Int) ≤ (f 32).toInt; omega) (by show (f 32).toInt ≤ (63 : Int); omega) (by show (f 53).toInt ≤ (4096 : Int); omega) (by show (0 : Int) ≤ s550.toInt; omega) (by show s550.toInt ≤ (65534 : Int); omega)) ?_
                rintro v773 S774 (⟨z775, r776, g'777, hv778, hS779, hR783, h780, h781, h782⟩)
                subst hv778
                have h780_ : z775.toInt = s550.toInt + 1 := h780
                have h781_ : r776.toInt = s550.toInt := h781
                have h782_ : ∀ j, j ∉ [60, 69, 70, 71, 72, 73] → g'777 j = g'565 j := h782
                replace hS779 : MS S0 S774 (upd (upd (upd (upd f 10 z564) 62 o549) 68 z775) 75 m551) g'777 := hS779
                have hR783_ : RJ (upd (upd (upd (upd f 10 z564) 62 o549) 68 z775) 75 m551) g'777 (((28 : Int), (0 : Int), (0 : Int), (0 : Int), []) :: gs) bc [] 0 (s550.toNatClampNeg :: []) := hR783
                show am_E _ _ _ _ [some (.ref 39), some (.int 0), some (.int (f 4))] [.int r776] _ _
                refine am_e6i hi_212_29 ?_
                refine am_e2 (v := 39) hi_212_30 rfl ?_
                refine am_e7 hi_212_31 ?_
                refine mm_20 (v := .int (f 4)) hS779 hi_212_32 rfl ?_
                refine am_e0 hi_212_35 ?_
                obtain ⟨z784, hz784, tz784⟩ := am_addI (x := f 4) (y := 1) (m := (f 4).toInt) (n := (1 : Int)) rfl (by decide) (by omega) (by omega)
                refine am_e10 (z := z784) hi_212_36 hz784 ?_
                refine mm_21 (v := z784) hS779 hi_212_37 rfl (Nat.le_of_ble_eq_true rfl) ms_4 ?_
                intro S785 hS786
                replace hS786 : MS S0 S785 (upd (upd (upd (upd (upd f 4 z784) 10 z564) 62 o549) 68 z775) 75 m551) g'777 := hS786
                have hR787 : RJ (upd (upd (upd (upd (upd f 4 z784) 10 z564) 62 o549) 68 z775) 75 m551) g'777 (((28 : Int), (0 : Int), (0 : Int), (0 : Int), []) :: gs) bc [] 0 (s550.toNatClampNeg :: []) := RJ.at hR783_ (by show (f 4).toInt ≤ z784.toInt; omega)
                refine am_e2 (v := 39) hi_212_40 rfl ?_
                refine am_e0 hi_212_41 ?_
                refine am_e1 (v := 0) hi_212_42 rfl ?_
                refine am_e10 (z := 1) hi_212_43 (by decide) ?_
                refine am_e0 hi_212_44 ?_
                refine am_e1 (v := f 4) hi_212_45 rfl ?_
                refine am_e32w (as := [.ref 39, .int 1, .int 0, .int (f 4)]) (la := [some (.ref 39), some (.int 1), some (.int 0), some (.int (f 4)), none]) (rest := []) hi_212_46 (am_hd0 (M := 212) (by decide) 46) (Nat.le_of_ble_eq_true rfl) (Nat.le_of_ble_eq_true rfl) (show 4 ≤ am_P0.2.2.1 213 from by decide +kernel) rfl (am_recv_ok hS786.fs) rfl rfl ?_
                refine am_e2 (v := 39) hi_213_0 rfl ?_
                refine am_e0 hi_213_1 ?_
                refine am_e1 (v := 1) hi_213_3 rfl ?_
                refine am_e1 (v := 0) hi_213_4 rfl ?_
                refine am_e0 hi_213_5 ?_
                refine am_e10 (z := 2) hi_213_6 (by decide) ?_
                refine am_e1 (v := f 4) hi_213_7 rfl ?_
                refine am_e32n (as := [.ref 39, .int 13, .int 1, .int 2, .int (f 4)]) (la := [some (.ref 39), some (.int 13), some (.int 1), some (.int 2), some (.int (f 4))]) (rest := []) hi_213_8 (am_hd0 (M := 213) (by decide) 8) (Nat.le_of_ble_eq_true rfl) (Nat.le_of_ble_eq_true rfl) (show 5 ≤ am_P0.2.2.1 189 from by decide +kernel) rfl (am_recv_ok hS786.fs) rfl rfl (ct_put (d := (d + 3)) hS786 hR787  (by show (0 : Int) ≤ (f 32).toInt; omega) (by show (f 32).toInt ≤ (63 : Int); omega) (by show (f 53).toInt ≤ (4096 : Int); omega) (by show (0 : Int) ≤ z775.toInt; omega) (by show z775.toInt ≤ (65534 : Int); omega)) ?_
                rintro v788 S789 (⟨z790, r791, g'792, hv793, hS794, hR798, h795, h796, h797⟩)
                subst hv793
                have h795_ : z790.toInt = z775.toInt + 1 := h795
                have h796_ : r791.toInt = z775.toInt := h796
                have h797_ : ∀ j, j ∉ [60, 69, 70, 71, 72, 73] → g'792 j = g'777 j := h797
                replace hS794 : MS S0 S789 (upd (upd (upd (upd (upd f 4 z784) 10 z564) 62 o549) 68 z790) 75 m551) g'792 := hS794
                have hR798_ : RJ (upd (upd (upd (upd (upd f 4 z784) 10 z564) 62 o549) 68 z790) 75 m551) g'792 (((28 : Int), (0 : Int), (0 : Int), (0 : Int), []) :: gs) bc [] 0 (z775.toNatClampNeg :: (s550.toNatClampNeg :: [])) := hR798
                show am_E _ _ _ _ [some (.ref 39), some (.int 1), some (.int 0), some (.int (f 4)), none] [.int r791] _ _
                refine am_e3 (ls' := [some (.ref 39), some (.int 1), some (.int 0), some (.int (f 4)), some (.int r791)]) hi_213_11 (Nat.le_of_ble_eq_true rfl) rfl ?_
                refine am_e2 (v := 39) hi_213_13 rfl ?_
                refine am_e7 hi_213_14 ?_
                refine mm_20 (v := .int (f 15)) hS794 hi_213_15 rfl ?_
                refine am_e0 hi_213_18 ?_
                obtain ⟨z799, hz799, tz799⟩ := am_subI (x := f 15) (y := 1) (m := (f 15).toInt) (n := (1 : Int)) rfl (by decide) (by omega) (by omega)
                refine am_e10 (z := z799) hi_213_19 hz799 ?_
                refine mm_21 (v := z799) hS794 hi_213_20 rfl (Nat.le_of_ble_eq_true rfl) ms_15 ?_
                intro S800 hS801
                replace hS801 : MS S0 S800 (upd (upd (upd (upd (upd (upd f 4 z784) 10 z564) 15 z799) 62 o549) 68 z790) 75 m551) g'792 := hS801
                have hp802 : mj_n (g'552 16) (f 15).toNatClampNeg 3 = mj_n (g'552 16) z799.toNatClampNeg 3 + if (g'552 16 z799.toNatClampNeg).toInt = 3 then 1 else 0 := mj_pop (by rw [cl_toNat, cl_toNat]; omega)
                have hp8021 : mj_n (g'552 16) z799.toNatClampNeg 3 ≤ mj_n (g'552 16) (f 15).toNatClampNeg 3 := by rw [hp802]; split <;> omega
                have hp8022 : (g'552 16 z799.toNatClampNeg).toInt = 3 → mj_n (g'552 16) z799.toNatClampNeg 3 + 1 ≤ mj_n (g'552 16) (f 15).toNatClampNeg 3 := fun q => by rw [hp802, if_pos q]; exact Int.le_refl _
                refine am_e2 (v := 39) hi_213_23 rfl ?_
                refine am_e0 hi_213_24 ?_
                refine am_e1 (v := r791) hi_213_25 rfl ?_
                refine am_e1 (v := f 4) hi_213_27 rfl ?_
                refine am_e32n (as := [.ref 39, .int 1, .int r791, .int (f 4)]) (la := [some (.ref 39), some (.int 1), some (.int r791), some (.int (f 4))]) (rest := []) hi_213_28 (am_hd0 (M := 213) (by decide) 28) (Nat.le_of_ble_eq_true rfl) (Nat.le_of_ble_eq_true rfl) (show 4 ≤ am_P0.2.2.1 190 from by decide +kernel) rfl (am_recv_ok hS801.fs) rfl rfl (ct_value (d := (d + 3)) hS801 hR798_ (fun h => absurd h (by decide)) (fun _ => ⟨by omega, by omega⟩) (by show (0 : Int) ≤ z799.toInt; omega) (by show z799.toInt ≤ (32767 : Int); omega)) ?_
                rintro v803 S804 (⟨z805, g'806, hv807, hS808, hR813, h809, h810, h811, h812⟩)
                subst hv807
                have h809_ : z805.toInt = z799.toInt + 1 := h809
                have h810_ : ∀ j, j ∉ [16, 17, 18] → g'806 j = g'792 j := h810
                have h811_ : mj_n (g'806 16) z805.toNatClampNeg 3 ≤ mj_n (g'552 16) z799.toNatClampNeg 3 + 1 := by rw [show g'792 16 = g'777 16 from h797_ 16 (by decide), show g'777 16 = g'565 16 from h782_ 16 (by decide), show g'565 16 = g'552 16 from h569_ 16 (by decide)] at h811; exact h811
                have h812_ : (1 : Int) = 3 ∨ mj_n (g'806 16) z805.toNatClampNeg 3 ≤ mj_n (g'552 16) z799.toNatClampNeg 3 := by rw [show g'792 16 = g'777 16 from h797_ 16 (by decide), show g'777 16 = g'565 16 from h782_ 16 (by decide), show g'565 16 = g'552 16 from h569_ 16 (by decide)] at h812; exact h812
                replace hS808 : MS S0 S804 (upd (upd (upd (upd (upd (upd f 4 z784) 10 z564) 15 z805) 62 o549) 68 z790) 75 m551) g'806 := hS808
                have hR813_ : RJ (upd (upd (upd (upd (upd (upd f 4 z784) 10 z564) 15 z805) 62 o549) 68 z790) 75 m551) g'806 (((28 : Int), (0 : Int), (0 : Int), (0 : Int), []) :: gs) bc [] 0 (z775.toNatClampNeg :: (s550.toNatClampNeg :: [])) := hR813
                show am_E _ _ _ _ [some (.ref 39), some (.int 1), some (.int 0), some (.int (f 4)), some (.int r791)] [] _ _
                refine am_e35 hi_213_31 ?_
                show am_E _ _ _ _ [some (.ref 39), some (.int 0), some (.int (f 4))] [] _ _
                refine am_e18 hi_212_49 ?_
                refine am_e35 hi_212_125 ?_
                show am_E _ _ _ _ [some (.ref 39), some (.int r2), some (.int (f 4)), none] [] _ _
                refine am_e35 hi_211_249 ?_
                show am_E _ _ _ _ [some (.ref 39), some (.int 28), some (.int on), some (.int tw)] [] _ _
                refine am_e18 hi_181_180 ?_
                refine am_e35 hi_181_397 ?_
                show am_E _ _ _ _ [some (.ref 39), some (.int 28), some (.int on), some (.int tw), some (.int th)] [] _ _
                refine am_e35 hi_180_13 ?_
                have q1 : mg_p1 (((28 : Int), (0 : Int), (0 : Int), (0 : Int), []) :: gs) = 0 + (mg_p1 gs) := rfl
                have q2 : mg_p2 (((28 : Int), (0 : Int), (0 : Int), (0 : Int), []) :: gs) = 0 + (mg_p2 gs) := rfl
                have q3 : mg_p3 (((28 : Int), (0 : Int), (0 : Int), (0 : Int), []) :: gs) = 1 + (mg_p3 gs) := rfl
                have q4 : mg_p4 (((28 : Int), (0 : Int), (0 : Int), (0 : Int), []) :: gs) = 0 + (mg_p4 gs) := rfl
                refine ⟨_, _, _, bc, rfl, hS808, Or.inl ⟨⟨(RJ.fewer (pj' := []) hR813_ (fun _ h => nomatch h)), ?_, ?_⟩, rfl, ?_⟩⟩
                · exact (⟨⟨(show mg_k 28 from by decide), (show (1 : Int) ≤ z805.toInt from by omega), (show 0 ≤ (f 20).toInt from by omega), (show 1 ≤ (f 37).toInt from by omega), (show 0 ≤ (f 32).toInt from by omega), (show (f 32).toInt ≤ (f 5).toInt from by omega), (show (f 5).toInt ≤ 48 from by omega), (show (f 37).toInt ≤ 2 * ((f 5).toInt) + 2 from by omega), trivial⟩, mg_cast (mg_good_ext _ _ _ _ _ _ (fun i _ => by show g'806 34 i = g 34 i; rw [show g'806 34 = g'792 34 from h810_ 34 (by decide), show g'792 34 = g'777 34 from h797_ 34 (by decide), show g'777 34 = g'565 34 from h782_ 34 (by decide), show g'565 34 = g'552 34 from h569_ 34 (by decide), show g'552 34 = g 34 from h560_ 34 (by decide)]) (fun i _ => by show g'806 38 i = g 38 i; rw [show g'806 38 = g'792 38 from h810_ 38 (by decide), show g'792 38 = g'777 38 from h797_ 38 (by decide), show g'777 38 = g'565 38 from h782_ 38 (by decide), show g'565 38 = g'552 38 from h569_ 38 (by decide), show g'552 38 = g 38 from h560_ 38 (by decide)]) (fun i _ => by show g'806 23 i = g 23 i; rw [show g'806 23 = g'792 23 from h810_ 23 (by decide), show g'792 23 = g'777 23 from h797_ 23 (by decide), show g'777 23 = g'565 23 from h782_ 23 (by decide), show g'565 23 = g'552 23 from h569_ 23 (by decide), show g'552 23 = g 23 from h560_ 23 (by decide)]) hrest) (by show (f 15).toInt + 0 = z805.toInt + 0; omega) (by show (f 20).toInt = (f 20).toInt; omega) (by show (f 37).toInt + 0 = (f 37).toInt + 0; omega) (by show (f 32).toInt + 0 = (f 32).toInt + 0; omega) (by show (f 5).toInt + 0 = (f 5).toInt + 0; omega)⟩ : mg_good (g'806 34) (g'806 38) (g'806 23) (((28 : Int), (0 : Int), (0 : Int), (0 : Int), []) :: gs) (z805.toInt) ((f 20).toInt) ((f 37).toInt) ((f 32).toInt) ((f 5).toInt))
                · exact ⟨(by show 0 ≤ z784.toInt; omega), (by show z784.toInt ≤ (f 0).toInt; omega), (by show (f 0).toInt ≤ 512; omega), (by show 0 ≤ (f 24).toInt; omega), (by show (f 24).toInt + (f 20).toInt + mg_p1 (((28 : Int), (0 : Int), (0 : Int), (0 : Int), []) :: gs) ≤ 4 * z784.toInt; omega), (by show (f 20).toInt ≤ z784.toInt; omega), (by show z805.toInt + mg_p2 (((28 : Int), (0 : Int), (0 : Int), (0 : Int), []) :: gs) ≤ z784.toInt; omega), (by show mg_p3 (((28 : Int), (0 : Int), (0 : Int), (0 : Int), []) :: gs) ≤ 20 * z784.toInt + 20; omega), (by show 0 ≤ z790.toInt; omega), (by show z790.toInt + 3 * (f 20).toInt + mg_p4 (((28 : Int), (0 : Int), (0 : Int), (0 : Int), []) :: gs) ≤ 60 * z784.toInt + 60; omega), (by show 0 ≤ o549.toInt; omega), (by show o549.toInt + 64 * mj_n (g'806 16) z805.toNatClampNeg 3 ≤ 64 * z784.toInt; omega), (by show 0 ≤ (f 44).toInt; omega), (by show (f 44).toInt ≤ z784.toInt; omega), (by show 0 ≤ (f 48).toInt; omega), (by show (f 48).toInt ≤ z784.toInt; omega), (by show 1 ≤ (f 53).toInt; omega), (by show (f 53).toInt ≤ z784.toInt + 1; omega), (by show 0 ≤ (f 19).toInt; omega), (by show (f 19).toInt ≤ 600; omega), (by show 0 ≤ (f 6).toInt; omega), (by show 0 ≤ (f 8).toInt; omega)⟩
                · show 100 * ((f 0).toInt - z784.toInt) + mg_p3 (((28 : Int), (0 : Int), (0 : Int), (0 : Int), []) :: gs) < 100 * ((f 0).toInt - (f 4).toInt) + (1 + mg_p3 gs); omega
      · refine am_e13f hi_211_124 (am_cF (m := r2.toInt) (n := (68 : Int)) rfl (by decide) c9) ?_
        refine am_e2 (v := 39) hi_211_127 rfl ?_
        refine am_e32n (as := [.ref 39]) (la := [some (.ref 39), none, none, none]) (rest := []) hi_211_128 (am_hd0 (M := 211) (by decide) 128) (Nat.le_of_ble_eq_true rfl) (Nat.le_of_ble_eq_true rfl) (show 1 ≤ am_P0.2.2.1 204 from by decide +kernel) rfl (am_recv_ok hS4.fs) rfl rfl (ct_load (d := (d + 3)) hS4 hR  (by show (0 : Int) ≤ (f 32).toInt; omega) (by show (f 32).toInt ≤ (63 : Int); omega) (by show (f 53).toInt ≤ (4096 : Int); omega) (by show (0 : Int) ≤ (f 68).toInt; omega) (by show (f 68).toInt ≤ (65534 : Int); omega) (by show (1 : Int) ≤ (f 15).toInt; omega) (by show (f 15).toInt ≤ (32767 : Int); omega) (by show (0 : Int) ≤ (f 24).toInt; omega) (by show (f 24).toInt ≤ (16384 : Int); omega) (by show (0 : Int) ≤ (f 62).toInt; omega) (by show (f 62).toInt ≤ (65000 : Int); omega)) ?_
        rintro v814 S815 (⟨o816, s817, m818, g'819, hv820, hS821, hR828, h822, h823, h824, h825, h826, h827⟩)
        subst hv820
        have h822_ : (f 62).toInt ≤ o816.toInt := h822
        have h823_ : o816.toInt ≤ (f 62).toInt + 64 := h823
        have h824_ : (f 68).toInt ≤ s817.toInt := h824
        have h825_ : s817.toInt ≤ (f 68).toInt + 1 := h825
        have h826_ : o816.toInt + 64 * mj_n (g'819 16) (f 15).toNatClampNeg 3 ≤ (f 62).toInt + 64 * mj_n (g 16) (f 15).toNatClampNeg 3 := h826
        have h827_ : ∀ j, j ∉ [16, 60, 63, 64, 65, 66, 67, 69, 70, 71, 72, 73] → g'819 j = g j := h827
        have hR828_ : RJ (upd (upd (upd f 62 o816) 68 s817) 75 m818) g'819 gs bc [] 0 [] := hR828
        show am_E _ _ _ _ [some (.ref 39), some (.int r2), some (.int (f 4)), none] [] _ _
        refine am_e2 (v := 39) hi_211_131 rfl ?_
        refine am_e7 hi_211_132 ?_
        refine mm_20 (v := .int (f 4)) hS821 hi_211_133 rfl ?_
        refine am_e0 hi_211_136 ?_
        obtain ⟨z829, hz829, tz829⟩ := am_addI (x := f 4) (y := 1) (m := (f 4).toInt) (n := (1 : Int)) rfl (by decide) (by omega) (by omega)
        refine am_e10 (z := z829) hi_211_137 hz829 ?_
        refine mm_21 (v := z829) hS821 hi_211_138 rfl (Nat.le_of_ble_eq_true rfl) ms_4 ?_
        intro S830 hS831
        replace hS831 : MS S0 S830 (upd (upd (upd (upd f 4 z829) 62 o816) 68 s817) 75 m818) g'819 := hS831
        have hR832 : RJ (upd (upd (upd (upd f 4 z829) 62 o816) 68 s817) 75 m818) g'819 gs bc [] 0 [] := RJ.at hR828_ (by show (f 4).toInt ≤ z829.toInt; omega)
        refine am_e2 (v := 39) hi_211_141 rfl ?_
        refine am_e0 hi_211_142 ?_
        refine am_e32n (as := [.ref 39, .int 1]) (la := [some (.ref 39), some (.int 1)]) (rest := []) hi_211_143 (am_hd0 (M := 211) (by decide) 143) (Nat.le_of_ble_eq_true rfl) (Nat.le_of_ble_eq_true rfl) (show 2 ≤ am_P0.2.2.1 200 from by decide +kernel) rfl (am_recv_ok hS831.fs) rfl rfl (ct_take (d := (d + 3)) hS831   (by show (0 : Int) ≤ z829.toInt; omega) (by show (f 0).toInt ≤ (16384 : Int); omega) (by show (0 : Int) ≤ (1 : Int); omega) (by show (0 : Int) ≤ (f 6).toInt; omega)) ?_
        rintro v833 S834 (⟨z835, hv836, hS837, h838, h839⟩ | ⟨a841, b842, hv843, hS844, h845⟩)
        · subst hv836
          have h838_ : z835.toInt = z829.toInt + 1 := h838
          have h839_ : z829.toInt < (f 0).toInt := h839
          replace hS837 : MS S0 S834 (upd (upd (upd (upd f 4 z835) 62 o816) 68 s817) 75 m818) g'819 := hS837
          have hR847 : RJ (upd (upd (upd (upd f 4 z835) 62 o816) 68 s817) 75 m818) g'819 gs bc [] 0 [] := RJ.at hR832 (by show z829.toInt ≤ z835.toInt; omega)
          show am_E _ _ _ _ [some (.ref 39), some (.int r2), some (.int (f 4)), none] [.int 1] _ _
          refine am_e12t hi_211_146 (by decide) ?_
          refine am_e2 (v := 39) hi_211_150 rfl ?_
          refine am_e0 hi_211_151 ?_
          refine am_e2 (v := 39) hi_211_153 rfl ?_
          refine mm_20 (v := .ref 41) hS837 hi_211_154 rfl ?_
          refine am_e1 (v := f 4) hi_211_157 rfl ?_
          refine am_e0 hi_211_158 ?_
          refine am_e10 (z := z829) hi_211_159 hz829 ?_
          refine mm_25 hS837 ma_2 hi_211_160 (by decide) (by omega) (by omega) ?_
          show am_E _ _ _ _ _ (.int (g'819 2 z829.toNatClampNeg) :: _) _ _
          rw [show g'819 2 = g 2 from h827_ 2 (by decide)]
          show am_E _ _ _ _ [some (.ref 39), some (.int r2), some (.int (f 4)), none] [.int (g 2 z829.toNatClampNeg), .int 14, .ref 39] _ _
          refine am_e0 hi_211_161 ?_
          refine am_e1 (v := f 4) hi_211_162 rfl ?_
          refine am_e32n (as := [.ref 39, .int 14, .int (g 2 z829.toNatClampNeg), .int 0, .int (f 4)]) (la := [some (.ref 39), some (.int 14), some (.int (g 2 z829.toNatClampNeg)), some (.int 0), some (.int (f 4))]) (rest := []) hi_211_163 (am_hd0 (M := 211) (by decide) 163) (Nat.le_of_ble_eq_true rfl) (Nat.le_of_ble_eq_true rfl) (show 5 ≤ am_P0.2.2.1 189 from by decide +kernel) rfl (am_recv_ok hS837.fs) rfl rfl (ct_put (d := (d + 5)) hS837 hR847  (by show (0 : Int) ≤ (f 32).toInt; omega) (by show (f 32).toInt ≤ (63 : Int); omega) (by show (f 53).toInt ≤ (4096 : Int); omega) (by show (0 : Int) ≤ s817.toInt; omega) (by show s817.toInt ≤ (65534 : Int); omega)) ?_
          rintro v848 S849 (⟨z850, r851, g'852, hv853, hS854, hR858, h855, h856, h857⟩)
          subst hv853
          have h855_ : z850.toInt = s817.toInt + 1 := h855
          have h856_ : r851.toInt = s817.toInt := h856
          have h857_ : ∀ j, j ∉ [60, 69, 70, 71, 72, 73] → g'852 j = g'819 j := h857
          replace hS854 : MS S0 S849 (upd (upd (upd (upd f 4 z835) 62 o816) 68 z850) 75 m818) g'852 := hS854
          have hR858_ : RJ (upd (upd (upd (upd f 4 z835) 62 o816) 68 z850) 75 m818) g'852 gs bc [] 0 (s817.toNatClampNeg :: []) := hR858
          show am_E _ _ _ _ [some (.ref 39), some (.int r2), some (.int (f 4)), none] [.int r851] _ _
          refine am_e6i hi_211_166 ?_
          refine am_e2 (v := 39) hi_211_167 rfl ?_
          refine am_e32n (as := [.ref 39]) (la := [some (.ref 39)]) (rest := []) hi_211_168 (am_hd0 (M := 211) (by decide) 168) (Nat.le_of_ble_eq_true rfl) (Nat.le_of_ble_eq_true rfl) (show 1 ≤ am_P0.2.2.1 183 from by decide +kernel) rfl (am_recv_ok hS854.fs) rfl rfl (ct_next (d := (d + 4)) hS854   (by show (0 : Int) ≤ z835.toInt; omega) (by show (f 0).toInt ≤ (16384 : Int); omega)) ?_
          rintro v859 S860 (⟨r861, hv862, hS863, h864⟩)
          subst hv862
          have h864_ : z835.toInt < (f 0).toInt ∨ r861.toInt = (-1 : Int) := h864
          show am_E _ _ _ _ [some (.ref 39), some (.int r2), some (.int (f 4)), none] [.int r861] _ _
          refine am_e3 (ls' := [some (.ref 39), some (.int r2), some (.int (f 4)), some (.int r861)]) hi_211_171 (Nat.le_of_ble_eq_true rfl) rfl ?_
          refine am_e1 (v := r861) hi_211_172 rfl ?_
          refine am_e0 hi_211_173 ?_
          by_cases c866 : r861.toInt = (60 : Int)
          · refine am_e13t hi_211_175 (am_cT (m := r861.toInt) (n := (60 : Int)) rfl (by decide) c866) ?_
            refine am_e2 (v := 39) hi_211_197 rfl ?_
            refine am_e0 hi_211_198 ?_
            refine am_e0 hi_211_200 ?_
            refine am_e0 hi_211_201 ?_
            refine am_e0 hi_211_202 ?_
            refine am_e32n (as := [.ref 39, .int 28, .int 0, .int 0, .int 0]) (la := [some (.ref 39), some (.int 28), some (.int 0), some (.int 0), some (.int 0)]) (rest := []) hi_211_203 (am_hd0 (M := 211) (by decide) 203) (Nat.le_of_ble_eq_true rfl) (Nat.le_of_ble_eq_true rfl) (show 5 ≤ am_P0.2.2.1 179 from by decide +kernel) rfl (am_recv_ok hS863.fs) rfl rfl (ct_pile (d := (d + 5)) hS863 hR858_ (mj_e_plain (by decide)) (by show (0 : Int) ≤ (f 10).toInt; omega) (by show (f 10).toInt ≤ (65535 : Int); omega)) ?_
            rintro v867 S868 (⟨z869, g'870, hv871, hS872, hR875, h873, h874⟩)
            subst hv871
            have h873_ : z869.toInt = (f 10).toInt + 1 := h873
            have h874_ : ∀ j, j ∉ [11, 12, 13, 14] → g'870 j = g'852 j := h874
            replace hS872 : MS S0 S868 (upd (upd (upd (upd (upd f 4 z835) 10 z869) 62 o816) 68 z850) 75 m818) g'870 := hS872
            have hR875_ : RJ (upd (upd (upd (upd (upd f 4 z835) 10 z869) 62 o816) 68 z850) 75 m818) g'870 (((28 : Int), (0 : Int), (0 : Int), (0 : Int), []) :: gs) bc [] 0 (s817.toNatClampNeg :: []) := hR875
            show am_E _ _ _ _ [some (.ref 39), some (.int r2), some (.int (f 4)), some (.int r861)] [] _ _
            refine am_e2 (v := 39) hi_211_206 rfl ?_
            refine am_e0 hi_211_207 ?_
            refine am_e32w (as := [.ref 39, .int 1]) (la := [some (.ref 39), some (.int 1), none]) (rest := []) hi_211_208 (am_hd0 (M := 211) (by decide) 208) (Nat.le_of_ble_eq_true rfl) (Nat.le_of_ble_eq_true rfl) (show 2 ≤ am_P0.2.2.1 212 from by decide +kernel) rfl (am_recv_ok hS872.fs) rfl rfl ?_
            refine am_e2 (v := 39) hi_212_0 rfl ?_
            refine mm_20 (v := .int z835) hS872 hi_212_1 rfl ?_
            refine am_e3 (ls' := [some (.ref 39), some (.int 1), some (.int z835)]) hi_212_4 (Nat.le_of_ble_eq_true rfl) rfl ?_
            refine am_e2 (v := 39) hi_212_5 rfl ?_
            refine am_e32n (as := [.ref 39]) (la := [some (.ref 39)]) (rest := []) hi_212_6 (am_hd0 (M := 212) (by decide) 6) (Nat.le_of_ble_eq_true rfl) (Nat.le_of_ble_eq_true rfl) (show 1 ≤ am_P0.2.2.1 183 from by decide +kernel) rfl (am_recv_ok hS872.fs) rfl rfl (ct_next (d := (d + 3)) hS872   (by show (0 : Int) ≤ z835.toInt; omega) (by show (f 0).toInt ≤ (16384 : Int); omega)) ?_
            rintro v876 S877 (⟨r878, hv879, hS880, h881⟩)
            subst hv879
            have h881_ : z835.toInt < (f 0).toInt ∨ r878.toInt = (-1 : Int) := h881
            show am_E _ _ _ _ [some (.ref 39), some (.int 1), some (.int z835)] [.int r878] _ _
            refine am_e0 hi_212_9 ?_
            by_cases c883 : ¬ r878.toInt = (3 : Int)
            · refine am_e13t hi_212_10 (am_cT (m := r878.toInt) (n := (3 : Int)) rfl (by decide) c883) ?_
              refine am_e2 (v := 39) hi_212_52 rfl ?_
              refine am_e32n (as := [.ref 39]) (la := [some (.ref 39)]) (rest := []) hi_212_53 (am_hd0 (M := 212) (by decide) 53) (Nat.le_of_ble_eq_true rfl) (Nat.le_of_ble_eq_true rfl) (show 1 ≤ am_P0.2.2.1 183 from by decide +kernel) rfl (am_recv_ok hS880.fs) rfl rfl (ct_next (d := (d + 3)) hS880   (by show (0 : Int) ≤ z835.toInt; omega) (by show (f 0).toInt ≤ (16384 : Int); omega)) ?_
              rintro v884 S885 (⟨r886, hv887, hS888, h889⟩)
              subst hv887
              have h889_ : z835.toInt < (f 0).toInt ∨ r886.toInt = (-1 : Int) := h889
              show am_E _ _ _ _ [some (.ref 39), some (.int 1), some (.int z835)] [.int r886] _ _
              refine am_e0 hi_212_56 ?_
              by_cases c891 : ¬ r886.toInt = (62 : Int)
              · refine am_e13t hi_212_58 (am_cT (m := r886.toInt) (n := (62 : Int)) rfl (by decide) c891) ?_
                refine am_e2 (v := 39) hi_212_77 rfl ?_
                refine am_e0 hi_212_78 ?_
                refine am_e32n (as := [.ref 39, .int 60]) (la := [some (.ref 39), some (.int 60)]) (rest := []) hi_212_80 (am_hd0 (M := 212) (by decide) 80) (Nat.le_of_ble_eq_true rfl) (Nat.le_of_ble_eq_true rfl) (show 2 ≤ am_P0.2.2.1 193 from by decide +kernel) rfl (am_recv_ok hS888.fs) rfl rfl (ct_enter (d := (d + 2)) hS888   (by show (0 : Int) ≤ z835.toInt; omega) (by show (f 0).toInt ≤ (16384 : Int); omega) (by show (0 : Int) ≤ (60 : Int); omega) (by show (0 : Int) ≤ (f 5).toInt; omega) (by show (f 5).toInt ≤ (48 : Int); omega) (by show (0 : Int) ≤ (f 6).toInt; omega)) ?_
                rintro v892 S893 (⟨z894, y895, hv896, hS897, h898, h899, h900, h901⟩ | ⟨a903, b904, hv905, hS906, h907⟩)
                · subst hv896
                  have h898_ : z894.toInt = z835.toInt + 1 := h898
                  have h899_ : z835.toInt < (f 0).toInt := h899
                  have h900_ : y895.toInt = (f 5).toInt + 1 := h900
                  have h901_ : y895.toInt ≤ (48 : Int) := h901
                  replace hS897 : MS S0 S893 (upd (upd (upd (upd (upd (upd f 4 z894) 5 y895) 10 z869) 62 o816) 68 z850) 75 m818) g'870 := hS897
                  have hR909 : RJ (upd (upd (upd (upd (upd (upd f 4 z894) 5 y895) 10 z869) 62 o816) 68 z850) 75 m818) g'870 (((28 : Int), (0 : Int), (0 : Int), (0 : Int), []) :: gs) bc [] 0 (s817.toNatClampNeg :: []) := RJ.at hR875_ (by show z835.toInt ≤ z894.toInt; omega)
                  show am_E _ _ _ _ [some (.ref 39), some (.int 1), some (.int z835)] [.int 1] _ _
                  refine am_e12f hi_212_83 (by decide) ?_
                  refine am_e2 (v := 39) hi_212_86 rfl ?_
                  refine am_e32n (as := [.ref 39]) (la := [some (.ref 39)]) (rest := []) hi_212_87 (am_hd0 (M := 212) (by decide) 87) (Nat.le_of_ble_eq_true rfl) (Nat.le_of_ble_eq_true rfl) (show 1 ≤ am_P0.2.2.1 183 from by decide +kernel) rfl (am_recv_ok hS897.fs) rfl rfl (ct_next (d := (d + 3)) hS897   (by show (0 : Int) ≤ z894.toInt; omega) (by show (f 0).toInt ≤ (16384 : Int); omega)) ?_
                  rintro v910 S911 (⟨r912, hv913, hS914, h915⟩)
                  subst hv913
                  have h915_ : z894.toInt < (f 0).toInt ∨ r912.toInt = (-1 : Int) := h915
                  show am_E _ _ _ _ [some (.ref 39), some (.int 1), some (.int z835)] [.int r912] _ _
                  refine am_e0 hi_212_90 ?_
                  by_cases c917 : ¬ r912.toInt = (61 : Int)
                  · refine am_e13t hi_212_92 (am_cT (m := r912.toInt) (n := (61 : Int)) rfl (by decide) c917) ?_
                    refine am_e2 (v := 39) hi_212_112 rfl ?_
                    refine am_e0 hi_212_113 ?_
                    refine am_e1 (v := 1) hi_212_115 rfl ?_
                    refine am_e1 (v := z835) hi_212_116 rfl ?_
                    refine am_e0 hi_212_117 ?_
                    refine am_e32n (as := [.ref 39, .int 32, .int 1, .int z835, .int 0]) (la := [some (.ref 39), some (.int 32), some (.int 1), some (.int z835), some (.int 0)]) (rest := []) hi_212_118 (am_hd0 (M := 212) (by decide) 118) (Nat.le_of_ble_eq_true rfl) (Nat.le_of_ble_eq_true rfl) (show 5 ≤ am_P0.2.2.1 179 from by decide +kernel) rfl (am_recv_ok hS914.fs) rfl rfl (ct_pile (d := (d + 4)) hS914 hR909 (mj_e_plain (by decide)) (by show (0 : Int) ≤ z869.toInt; omega) (by show z869.toInt ≤ (65535 : Int); omega)) ?_
                    rintro v918 S919 (⟨z920, g'921, hv922, hS923, hR926, h924, h925⟩)
                    subst hv922
                    have h924_ : z920.toInt = z869.toInt + 1 := h924
                    have h925_ : ∀ j, j ∉ [11, 12, 13, 14] → g'921 j = g'870 j := h925
                    replace hS923 : MS S0 S919 (upd (upd (upd (upd (upd (upd f 4 z894) 5 y895) 10 z920) 62 o816) 68 z850) 75 m818) g'921 := hS923
                    have hR926_ : RJ (upd (upd (upd (upd (upd (upd f 4 z894) 5 y895) 10 z920) 62 o816) 68 z850) 75 m818) g'921 (((32 : Int), (1 : Int), z835.toInt, (0 : Int), []) :: (((28 : Int), (0 : Int), (0 : Int), (0 : Int), []) :: gs)) bc [] 0 (s817.toNatClampNeg :: []) := hR926
                    show am_E _ _ _ _ [some (.ref 39), some (.int 1), some (.int z835)] [] _ _
                    refine am_e2 (v := 39) hi_212_121 rfl ?_
                    refine am_e32w (as := [.ref 39]) (la := [some (.ref 39)]) (rest := []) hi_212_122 (am_hd0 (M := 212) (by decide) 122) (Nat.le_of_ble_eq_true rfl) (Nat.le_of_ble_eq_true rfl) (show 1 ≤ am_P0.2.2.1 214 from by decide +kernel) rfl (am_recv_ok hS923.fs) rfl rfl ?_
                    refine am_e2 (v := 39) hi_214_0 rfl ?_
                    refine am_e0 hi_214_1 ?_
                    refine am_e0 hi_214_3 ?_
                    refine am_e0 hi_214_4 ?_
                    refine am_e0 hi_214_5 ?_
                    refine am_e32n (as := [.ref 39, .int 34, .int 1, .int 0, .int 0]) (la := [some (.ref 39), some (.int 34), some (.int 1), some (.int 0), some (.int 0)]) (rest := []) hi_214_6 (am_hd0 (M := 214) (by decide) 6) (Nat.le_of_ble_eq_true rfl) (Nat.le_of_ble_eq_true rfl) (show 5 ≤ am_P0.2.2.1 179 from by decide +kernel) rfl (am_recv_ok hS923.fs) rfl rfl (ct_pile (d := (d + 3)) hS923 hR926_ (mj_e_plain (by decide)) (by show (0 : Int) ≤ z920.toInt; omega) (by show z920.toInt ≤ (65535 : Int); omega)) ?_
                    rintro v927 S928 (⟨z929, g'930, hv931, hS932, hR935, h933, h934⟩)
                    subst hv931
                    have h933_ : z929.toInt = z920.toInt + 1 := h933
                    have h934_ : ∀ j, j ∉ [11, 12, 13, 14] → g'930 j = g'921 j := h934
                    replace hS932 : MS S0 S928 (upd (upd (upd (upd (upd (upd f 4 z894) 5 y895) 10 z929) 62 o816) 68 z850) 75 m818) g'930 := hS932
                    have hR935_ : RJ (upd (upd (upd (upd (upd (upd f 4 z894) 5 y895) 10 z929) 62 o816) 68 z850) 75 m818) g'930 (((34 : Int), (1 : Int), (0 : Int), (0 : Int), []) :: (((32 : Int), (1 : Int), z835.toInt, (0 : Int), []) :: (((28 : Int), (0 : Int), (0 : Int), (0 : Int), []) :: gs))) bc [] 0 (s817.toNatClampNeg :: []) := hR935
                    show am_E _ _ _ _ [some (.ref 39)] [] _ _
                    refine am_e2 (v := 39) hi_214_9 rfl ?_
                    refine am_e0 hi_214_10 ?_
                    refine am_e32w (as := [.ref 39, .int 0]) (la := [some (.ref 39), some (.int 0)]) (rest := []) hi_214_11 (am_hd0 (M := 214) (by decide) 11) (Nat.le_of_ble_eq_true rfl) (Nat.le_of_ble_eq_true rfl) (show 2 ≤ am_P0.2.2.1 186 from by decide +kernel) rfl (am_recv_ok hS932.fs) rfl rfl ?_
                    refine am_e2 (v := 39) hi_186_0 rfl ?_
                    refine am_e0 hi_186_1 ?_
                    refine am_e1 (v := 0) hi_186_3 rfl ?_
                    refine am_e0 hi_186_4 ?_
                    refine am_e0 hi_186_5 ?_
                    refine am_e32n (as := [.ref 39, .int 23, .int 0, .int 0, .int 0]) (la := [some (.ref 39), some (.int 23), some (.int 0), some (.int 0), some (.int 0)]) (rest := []) hi_186_6 (am_hd0 (M := 186) (by decide) 6) (Nat.le_of_ble_eq_true rfl) (Nat.le_of_ble_eq_true rfl) (show 5 ≤ am_P0.2.2.1 179 from by decide +kernel) rfl (am_recv_ok hS932.fs) rfl rfl (ct_pile (d := (d + 2)) hS932 hR935_ (mj_e_plain (by decide)) (by show (0 : Int) ≤ z929.toInt; omega) (by show z929.toInt ≤ (65535 : Int); omega)) ?_
                    rintro v936 S937 (⟨z938, g'939, hv940, hS941, hR944, h942, h943⟩)
                    subst hv940
                    have h942_ : z938.toInt = z929.toInt + 1 := h942
                    have h943_ : ∀ j, j ∉ [11, 12, 13, 14] → g'939 j = g'930 j := h943
                    replace hS941 : MS S0 S937 (upd (upd (upd (upd (upd (upd f 4 z894) 5 y895) 10 z938) 62 o816) 68 z850) 75 m818) g'939 := hS941
                    have hR944_ : RJ (upd (upd (upd (upd (upd (upd f 4 z894) 5 y895) 10 z938) 62 o816) 68 z850) 75 m818) g'939 (((23 : Int), (0 : Int), (0 : Int), (0 : Int), []) :: (((34 : Int), (1 : Int), (0 : Int), (0 : Int), []) :: (((32 : Int), (1 : Int), z835.toInt, (0 : Int), []) :: (((28 : Int), (0 : Int), (0 : Int), (0 : Int), []) :: gs)))) bc [] 0 (s817.toNatClampNeg :: []) := hR944
                    show am_E _ _ _ _ [some (.ref 39), some (.int 0)] [] _ _
                    refine am_e35 hi_186_9 ?_
                    show am_E _ _ _ _ [some (.ref 39)] [] _ _
                    refine am_e35 hi_214_14 ?_
                    show am_E _ _ _ _ [some (.ref 39), some (.int 1), some (.int z835)] [] _ _
                    refine am_e35 hi_212_125 ?_
                    show am_E _ _ _ _ [some (.ref 39), some (.int r2), some (.int (f 4)), some (.int r861)] [] _ _
                    refine am_e18 hi_211_211 ?_
                    refine am_e35 hi_211_249 ?_
                    show am_E _ _ _ _ [some (.ref 39), some (.int 28), some (.int on), some (.int tw)] [] _ _
                    refine am_e18 hi_181_180 ?_
                    refine am_e35 hi_181_397 ?_
                    show am_E _ _ _ _ [some (.ref 39), some (.int 28), some (.int on), some (.int tw), some (.int th)] [] _ _
                    refine am_e35 hi_180_13 ?_
                    have q1 : mg_p1 (((23 : Int), (0 : Int), (0 : Int), (0 : Int), []) :: (((34 : Int), (1 : Int), (0 : Int), (0 : Int), []) :: (((32 : Int), (1 : Int), z835.toInt, (0 : Int), []) :: (((28 : Int), (0 : Int), (0 : Int), (0 : Int), []) :: gs)))) = 0 + (0 + (0 + (0 + (mg_p1 gs)))) := rfl
                    have q2 : mg_p2 (((23 : Int), (0 : Int), (0 : Int), (0 : Int), []) :: (((34 : Int), (1 : Int), (0 : Int), (0 : Int), []) :: (((32 : Int), (1 : Int), z835.toInt, (0 : Int), []) :: (((28 : Int), (0 : Int), (0 : Int), (0 : Int), []) :: gs)))) = 0 + (((1 : Int) - 1) + (0 + (0 + (mg_p2 gs)))) := rfl
                    have q3 : mg_p3 (((23 : Int), (0 : Int), (0 : Int), (0 : Int), []) :: (((34 : Int), (1 : Int), (0 : Int), (0 : Int), []) :: (((32 : Int), (1 : Int), z835.toInt, (0 : Int), []) :: (((28 : Int), (0 : Int), (0 : Int), (0 : Int), []) :: gs)))) = 1 + (1 + (1 + (1 + (mg_p3 gs)))) := rfl
                    have q4 : mg_p4 (((23 : Int), (0 : Int), (0 : Int), (0 : Int), []) :: (((34 : Int), (1 : Int), (0 : Int), (0 : Int), []) :: (((32 : Int), (1 : Int), z835.toInt, (0 : Int), []) :: (((28 : Int), (0 : Int), (0 : Int), (0 : Int), []) :: gs)))) = 0 + (0 + (0 + (0 + (mg_p4 gs)))) := rfl
                    refine ⟨_, _, _, bc, rfl, hS941, Or.inl ⟨⟨(RJ.fewer (pj' := []) hR944_ (fun _ h => nomatch h)), ?_, ?_⟩, rfl, ?_⟩⟩
                    · exact (⟨⟨(show mg_k 23 from by decide), (show (0 : Int) ≤ (f 15).toInt from by omega), (show 0 ≤ (f 20).toInt from by omega), (show 1 ≤ (f 37).toInt from by omega), (show 0 ≤ (f 32).toInt from by omega), (show (f 32).toInt ≤ y895.toInt from by omega), (show y895.toInt ≤ 48 from by omega), (show (f 37).toInt ≤ 2 * (y895.toInt) + 2 from by omega), (show 0 ≤ (0 : Int) from by omega)⟩, ⟨⟨(show mg_k 34 from by decide), (show (1 : Int) ≤ (f 15).toInt + 1 from by omega), (show 0 ≤ (f 20).toInt from by omega), (show 1 ≤ (f 37).toInt + 0 from by omega), (show 0 ≤ (f 32).toInt + 0 from by omega), (show (f 32).toInt + 0 ≤ y895.toInt + 0 from by omega), (show y895.toInt + 0 ≤ 48 from by omega), (show (f 37).toInt + 0 ≤ 2 * (y895.toInt + 0) + 2 from by omega), (show 1 ≤ (1 : Int) from by omega)⟩, ⟨⟨(show mg_k 32 from by decide), (show (2 : Int) ≤ (f 15).toInt + 1 + 0 from by omega), (show 0 ≤ (f 20).toInt from by omega), (show 1 ≤ (f 37).toInt + 0 + 0 from by omega), (show 0 ≤ (f 32).toInt + 0 + 0 from by omega), (show (f 32).toInt + 0 + 0 ≤ y895.toInt + 0 + 0 from by omega), (show y895.toInt + 0 + 0 ≤ 48 from by omega), (show (f 37).toInt + 0 + 0 ≤ 2 * (y895.toInt + 0 + 0) + 2 from by omega), trivial⟩, ⟨⟨(show mg_k 28 from by decide), (show (1 : Int) ≤ (f 15).toInt + 1 + 0 + -1 from by omega), (show 0 ≤ (f 20).toInt from by omega), (show 1 ≤ (f 37).toInt + 0 + 0 + 0 from by omega), (show 0 ≤ (f 32).toInt + 0 + 0 + 0 from by omega), (show (f 32).toInt + 0 + 0 + 0 ≤ y895.toInt + 0 + 0 + -1 from by omega), (show y895.toInt + 0 + 0 + -1 ≤ 48 from by omega), (show (f 37).toInt + 0 + 0 + 0 ≤ 2 * (y895.toInt + 0 + 0 + -1) + 2 from by omega), trivial⟩, mg_cast (mg_good_ext _ _ _ _ _ _ (fun i _ => by show g'939 34 i = g 34 i; rw [show g'939 34 = g'930 34 from h943_ 34 (by decide), show g'930 34 = g'921 34 from h934_ 34 (by decide), show g'921 34 = g'870 34 from h925_ 34 (by decide), show g'870 34 = g'852 34 from h874_ 34 (by decide), show g'852 34 = g'819 34 from h857_ 34 (by decide), show g'819 34 = g 34 from h827_ 34 (by decide)]) (fun i _ => by show g'939 38 i = g 38 i; rw [show g'939 38 = g'930 38 from h943_ 38 (by decide), show g'930 38 = g'921 38 from h934_ 38 (by decide), show g'921 38 = g'870 38 from h925_ 38 (by decide), show g'870 38 = g'852 38 from h874_ 38 (by decide), show g'852 38 = g'819 38 from h857_ 38 (by decide), show g'819 38 = g 38 from h827_ 38 (by decide)]) (fun i _ => by show g'939 23 i = g 23 i; rw [show g'939 23 = g'930 23 from h943_ 23 (by decide), show g'930 23 = g'921 23 from h934_ 23 (by decide), show g'921 23 = g'870 23 from h925_ 23 (by decide), show g'870 23 = g'852 23 from h874_ 23 (by decide), show g'852 23 = g'819 23 from h857_ 23 (by decide), show g'819 23 = g 23 from h827_ 23 (by decide)]) hrest) (by show (f 15).toInt + 0 = (f 15).toInt + 1 + 0 + -1 + 0; omega) (by show (f 20).toInt = (f 20).toInt; omega) (by show (f 37).toInt + 0 = (f 37).toInt + 0 + 0 + 0 + 0; omega) (by show (f 32).toInt + 0 = (f 32).toInt + 0 + 0 + 0 + 0; omega) (by show (f 5).toInt + 0 = y895.toInt + 0 + 0 + -1 + 0; omega)⟩⟩⟩⟩ : mg_good (g'939 34) (g'939 38) (g'939 23) (((23 : Int), (0 : Int), (0 : Int), (0 : Int), []) :: (((34 : Int), (1 : Int), (0 : Int), (0 : Int), []) :: (((32 : Int), (1 : Int), z835.toInt, (0 : Int), []) :: (((28 : Int), (0 : Int), (0 : Int), (0 : Int), []) :: gs)))) ((f 15).toInt) ((f 20).toInt) ((f 37).toInt) ((f 32).toInt) (y895.toInt))
                    · exact ⟨(by show 0 ≤ z894.toInt; omega), (by show z894.toInt ≤ (f 0).toInt; omega), (by show (f 0).toInt ≤ 512; omega), (by show 0 ≤ (f 24).toInt; omega), (by show (f 24).toInt + (f 20).toInt + mg_p1 (((23 : Int), (0 : Int), (0 : Int), (0 : Int), []) :: (((34 : Int), (1 : Int), (0 : Int), (0 : Int), []) :: (((32 : Int), (1 : Int), z835.toInt, (0 : Int), []) :: (((28 : Int), (0 : Int), (0 : Int), (0 : Int), []) :: gs)))) ≤ 4 * z894.toInt; omega), (by show (f 20).toInt ≤ z894.toInt; omega), (by show (f 15).toInt + mg_p2 (((23 : Int), (0 : Int), (0 : Int), (0 : Int), []) :: (((34 : Int), (1 : Int), (0 : Int), (0 : Int), []) :: (((32 : Int), (1 : Int), z835.toInt, (0 : Int), []) :: (((28 : Int), (0 : Int), (0 : Int), (0 : Int), []) :: gs)))) ≤ z894.toInt; omega), (by show mg_p3 (((23 : Int), (0 : Int), (0 : Int), (0 : Int), []) :: (((34 : Int), (1 : Int), (0 : Int), (0 : Int), []) :: (((32 : Int), (1 : Int), z835.toInt, (0 : Int), []) :: (((28 : Int), (0 : Int), (0 : Int), (0 : Int), []) :: gs)))) ≤ 20 * z894.toInt + 20; omega), (by show 0 ≤ z850.toInt; omega), (by show z850.toInt + 3 * (f 20).toInt + mg_p4 (((23 : Int), (0 : Int), (0 : Int), (0 : Int), []) :: (((34 : Int), (1 : Int), (0 : Int), (0 : Int), []) :: (((32 : Int), (1 : Int), z835.toInt, (0 : Int), []) :: (((28 : Int), (0 : Int), (0 : Int), (0 : Int), []) :: gs)))) ≤ 60 * z894.toInt + 60; omega), (by show 0 ≤ o816.toInt; omega), (by show o816.toInt + 64 * mj_n (g'939 16) (f 15).toNatClampNeg 3 ≤ 64 * z894.toInt; rw [show g'939 16 = g'930 16 from h943_ 16 (by decide), show g'930 16 = g'921 16 from h934_ 16 (by decide), show g'921 16 = g'870 16 from h925_ 16 (by decide), show g'870 16 = g'852 16 from h874_ 16 (by decide), show g'852 16 = g'819 16 from h857_ 16 (by decide)]; omega), (by show 0 ≤ (f 44).toInt; omega), (by show (f 44).toInt ≤ z894.toInt; omega), (by show 0 ≤ (f 48).toInt; omega), (by show (f 48).toInt ≤ z894.toInt; omega), (by show 1 ≤ (f 53).toInt; omega), (by show (f 53).toInt ≤ z894.toInt + 1; omega), (by show 0 ≤ (f 19).toInt; omega), (by show (f 19).toInt ≤ 600; omega), (by show 0 ≤ (f 6).toInt; omega), (by show 0 ≤ (f 8).toInt; omega)⟩
                    · show 100 * ((f 0).toInt - z894.toInt) + mg_p3 (((23 : Int), (0 : Int), (0 : Int), (0 : Int), []) :: (((34 : Int), (1 : Int), (0 : Int), (0 : Int), []) :: (((32 : Int), (1 : Int), z835.toInt, (0 : Int), []) :: (((28 : Int), (0 : Int), (0 : Int), (0 : Int), []) :: gs)))) < 100 * ((f 0).toInt - (f 4).toInt) + (1 + mg_p3 gs); omega
                  · refine am_e13f hi_212_92 (am_cF (m := r912.toInt) (n := (61 : Int)) rfl (by decide) c917) ?_
                    refine am_e2 (v := 39) hi_212_95 rfl ?_
                    refine am_e0 hi_212_96 ?_
                    refine am_e32n (as := [.ref 39, .int 61]) (la := [some (.ref 39), some (.int 61)]) (rest := []) hi_212_98 (am_hd0 (M := 212) (by decide) 98) (Nat.le_of_ble_eq_true rfl) (Nat.le_of_ble_eq_true rfl) (show 2 ≤ am_P0.2.2.1 199 from by decide +kernel) rfl (am_recv_ok hS914.fs) rfl rfl (ct_leave (d := (d + 1)) hS914   (by show (0 : Int) ≤ z894.toInt; omega) (by show (f 0).toInt ≤ (16384 : Int); omega) (by show (0 : Int) ≤ (61 : Int); omega) (by show (0 : Int) ≤ y895.toInt; omega) (by show y895.toInt ≤ (48 : Int); omega) (by show (0 : Int) ≤ (f 6).toInt; omega)) ?_
                    rintro v945 S946 (⟨z947, y948, hv949, hS950, h951, h952, h953⟩ | ⟨a955, b956, hv957, hS958, h959⟩)
                    · subst hv949
                      have h951_ : z947.toInt = z894.toInt + 1 := h951
                      have h952_ : z894.toInt < (f 0).toInt := h952
                      have h953_ : y948.toInt = y895.toInt - 1 := h953
                      replace hS950 : MS S0 S946 (upd (upd (upd (upd (upd (upd f 4 z947) 5 y948) 10 z869) 62 o816) 68 z850) 75 m818) g'870 := hS950
                      have hR961 : RJ (upd (upd (upd (upd (upd (upd f 4 z947) 5 y948) 10 z869) 62 o816) 68 z850) 75 m818) g'870 (((28 : Int), (0 : Int), (0 : Int), (0 : Int), []) :: gs) bc [] 0 (s817.toNatClampNeg :: []) := RJ.at hR909 (by show z894.toInt ≤ z947.toInt; omega)
                      show am_E _ _ _ _ [some (.ref 39), some (.int 1), some (.int z835)] [.int 1] _ _
                      refine am_e6i hi_212_101 ?_
                      refine am_e2 (v := 39) hi_212_102 rfl ?_
                      refine am_e1 (v := 1) hi_212_103 rfl ?_
                      refine am_e0 hi_212_104 ?_
                      refine am_e1 (v := z835) hi_212_105 rfl ?_
                      refine am_e32w (as := [.ref 39, .int 1, .int 0, .int z835]) (la := [some (.ref 39), some (.int 1), some (.int 0), some (.int z835), none]) (rest := []) hi_212_106 (am_hd0 (M := 212) (by decide) 106) (Nat.le_of_ble_eq_true rfl) (Nat.le_of_ble_eq_true rfl) (show 4 ≤ am_P0.2.2.1 213 from by decide +kernel) rfl (am_recv_ok hS950.fs) rfl rfl ?_
                      refine am_e2 (v := 39) hi_213_0 rfl ?_
                      refine am_e0 hi_213_1 ?_
                      refine am_e1 (v := 1) hi_213_3 rfl ?_
                      refine am_e1 (v := 0) hi_213_4 rfl ?_
                      refine am_e0 hi_213_5 ?_
                      refine am_e10 (z := 2) hi_213_6 (by decide) ?_
                      refine am_e1 (v := z835) hi_213_7 rfl ?_
                      refine am_e32n (as := [.ref 39, .int 13, .int 1, .int 2, .int z835]) (la := [some (.ref 39), some (.int 13), some (.int 1), some (.int 2), some (.int z835)]) (rest := []) hi_213_8 (am_hd0 (M := 213) (by decide) 8) (Nat.le_of_ble_eq_true rfl) (Nat.le_of_ble_eq_true rfl) (show 5 ≤ am_P0.2.2.1 189 from by decide +kernel) rfl (am_recv_ok hS950.fs) rfl rfl (ct_put (d := (d + 3)) hS950 hR961  (by show (0 : Int) ≤ (f 32).toInt; omega) (by show (f 32).toInt ≤ (63 : Int); omega) (by show (f 53).toInt ≤ (4096 : Int); omega) (by show (0 : Int) ≤ z850.toInt; omega) (by show z850.toInt ≤ (65534 : Int); omega)) ?_
                      rintro v962 S963 (⟨z964, r965, g'966, hv967, hS968, hR972, h969, h970, h971⟩)
                      subst hv967
                      have h969_ : z964.toInt = z850.toInt + 1 := h969
                      have h970_ : r965.toInt = z850.toInt := h970
                      have h971_ : ∀ j, j ∉ [60, 69, 70, 71, 72, 73] → g'966 j = g'870 j := h971
                      replace hS968 : MS S0 S963 (upd (upd (upd (upd (upd (upd f 4 z947) 5 y948) 10 z869) 62 o816) 68 z964) 75 m818) g'966 := hS968
                      have hR972_ : RJ (upd (upd (upd (upd (upd (upd f 4 z947) 5 y948) 10 z869) 62 o816) 68 z964) 75 m818) g'966 (((28 : Int), (0 : Int), (0 : Int), (0 : Int), []) :: gs) bc [] 0 (z850.toNatClampNeg :: (s817.toNatClampNeg :: [])) := hR972
                      show am_E _ _ _ _ [some (.ref 39), some (.int 1), some (.int 0), some (.int z835), none] [.int r965] _ _
                      refine am_e3 (ls' := [some (.ref 39), some (.int 1), some (.int 0), some (.int z835), some (.int r965)]) hi_213_11 (Nat.le_of_ble_eq_true rfl) rfl ?_
                      refine am_e2 (v := 39) hi_213_13 rfl ?_
                      refine am_e7 hi_213_14 ?_
                      refine mm_20 (v := .int (f 15)) hS968 hi_213_15 rfl ?_
                      refine am_e0 hi_213_18 ?_
                      obtain ⟨z973, hz973, tz973⟩ := am_subI (x := f 15) (y := 1) (m := (f 15).toInt) (n := (1 : Int)) rfl (by decide) (by omega) (by omega)
                      refine am_e10 (z := z973) hi_213_19 hz973 ?_
                      refine mm_21 (v := z973) hS968 hi_213_20 rfl (Nat.le_of_ble_eq_true rfl) ms_15 ?_
                      intro S974 hS975
                      replace hS975 : MS S0 S974 (upd (upd (upd (upd (upd (upd (upd f 4 z947) 5 y948) 10 z869) 15 z973) 62 o816) 68 z964) 75 m818) g'966 := hS975
                      have hp976 : mj_n (g'819 16) (f 15).toNatClampNeg 3 = mj_n (g'819 16) z973.toNatClampNeg 3 + if (g'819 16 z973.toNatClampNeg).toInt = 3 then 1 else 0 := mj_pop (by rw [cl_toNat, cl_toNat]; omega)
                      have hp9761 : mj_n (g'819 16) z973.toNatClampNeg 3 ≤ mj_n (g'819 16) (f 15).toNatClampNeg 3 := by rw [hp976]; split <;> omega
                      have hp9762 : (g'819 16 z973.toNatClampNeg).toInt = 3 → mj_n (g'819 16) z973.toNatClampNeg 3 + 1 ≤ mj_n (g'819 16) (f 15).toNatClampNeg 3 := fun q => by rw [hp976, if_pos q]; exact Int.le_refl _
                      refine am_e2 (v := 39) hi_213_23 rfl ?_
                      refine am_e0 hi_213_24 ?_
                      refine am_e1 (v := r965) hi_213_25 rfl ?_
                      refine am_e1 (v := z835) hi_213_27 rfl ?_
                      refine am_e32n (as := [.ref 39, .int 1, .int r965, .int z835]) (la := [some (.ref 39), some (.int 1), some (.int r965), some (.int z835)]) (rest := []) hi_213_28 (am_hd0 (M := 213) (by decide) 28) (Nat.le_of_ble_eq_true rfl) (Nat.le_of_ble_eq_true rfl) (show 4 ≤ am_P0.2.2.1 190 from by decide +kernel) rfl (am_recv_ok hS975.fs) rfl rfl (ct_value (d := (d + 3)) hS975 hR972_ (fun h => absurd h (by decide)) (fun _ => ⟨by omega, by omega⟩) (by show (0 : Int) ≤ z973.toInt; omega) (by show z973.toInt ≤ (32767 : Int); omega)) ?_
                      rintro v977 S978 (⟨z979, g'980, hv981, hS982, hR987, h983, h984, h985, h986⟩)
                      subst hv981
                      have h983_ : z979.toInt = z973.toInt + 1 := h983
                      have h984_ : ∀ j, j ∉ [16, 17, 18] → g'980 j = g'966 j := h984
                      have h985_ : mj_n (g'980 16) z979.toNatClampNeg 3 ≤ mj_n (g'819 16) z973.toNatClampNeg 3 + 1 := by rw [show g'966 16 = g'870 16 from h971_ 16 (by decide), show g'870 16 = g'852 16 from h874_ 16 (by decide), show g'852 16 = g'819 16 from h857_ 16 (by decide)] at h985; exact h985
                      have h986_ : (1 : Int) = 3 ∨ mj_n (g'980 16) z979.toNatClampNeg 3 ≤ mj_n (g'819 16) z973.toNatClampNeg 3 := by rw [show g'966 16 = g'870 16 from h971_ 16 (by decide), show g'870 16 = g'852 16 from h874_ 16 (by decide), show g'852 16 = g'819 16 from h857_ 16 (by decide)] at h986; exact h986
                      replace hS982 : MS S0 S978 (upd (upd (upd (upd (upd (upd (upd f 4 z947) 5 y948) 10 z869) 15 z979) 62 o816) 68 z964) 75 m818) g'980 := hS982
                      have hR987_ : RJ (upd (upd (upd (upd (upd (upd (upd f 4 z947) 5 y948) 10 z869) 15 z979) 62 o816) 68 z964) 75 m818) g'980 (((28 : Int), (0 : Int), (0 : Int), (0 : Int), []) :: gs) bc [] 0 (z850.toNatClampNeg :: (s817.toNatClampNeg :: [])) := hR987
                      show am_E _ _ _ _ [some (.ref 39), some (.int 1), some (.int 0), some (.int z835), some (.int r965)] [] _ _
                      refine am_e35 hi_213_31 ?_
                      show am_E _ _ _ _ [some (.ref 39), some (.int 1), some (.int z835)] [] _ _
                      refine am_e18 hi_212_109 ?_
                      refine am_e35 hi_212_125 ?_
                      show am_E _ _ _ _ [some (.ref 39), some (.int r2), some (.int (f 4)), some (.int r861)] [] _ _
                      refine am_e18 hi_211_211 ?_
                      refine am_e35 hi_211_249 ?_
                      show am_E _ _ _ _ [some (.ref 39), some (.int 28), some (.int on), some (.int tw)] [] _ _
                      refine am_e18 hi_181_180 ?_
                      refine am_e35 hi_181_397 ?_
                      show am_E _ _ _ _ [some (.ref 39), some (.int 28), some (.int on), some (.int tw), some (.int th)] [] _ _
                      refine am_e35 hi_180_13 ?_
                      have q1 : mg_p1 (((28 : Int), (0 : Int), (0 : Int), (0 : Int), []) :: gs) = 0 + (mg_p1 gs) := rfl
                      have q2 : mg_p2 (((28 : Int), (0 : Int), (0 : Int), (0 : Int), []) :: gs) = 0 + (mg_p2 gs) := rfl
                      have q3 : mg_p3 (((28 : Int), (0 : Int), (0 : Int), (0 : Int), []) :: gs) = 1 + (mg_p3 gs) := rfl
                      have q4 : mg_p4 (((28 : Int), (0 : Int), (0 : Int), (0 : Int), []) :: gs) = 0 + (mg_p4 gs) := rfl
                      refine ⟨_, _, _, bc, rfl, hS982, Or.inl ⟨⟨(RJ.fewer (pj' := []) hR987_ (fun _ h => nomatch h)), ?_, ?_⟩, rfl, ?_⟩⟩
                      · exact (⟨⟨(show mg_k 28 from by decide), (show (1 : Int) ≤ z979.toInt from by omega), (show 0 ≤ (f 20).toInt from by omega), (show 1 ≤ (f 37).toInt from by omega), (show 0 ≤ (f 32).toInt from by omega), (show (f 32).toInt ≤ y948.toInt from by omega), (show y948.toInt ≤ 48 from by omega), (show (f 37).toInt ≤ 2 * (y948.toInt) + 2 from by omega), trivial⟩, mg_cast (mg_good_ext _ _ _ _ _ _ (fun i _ => by show g'980 34 i = g 34 i; rw [show g'980 34 = g'966 34 from h984_ 34 (by decide), show g'966 34 = g'870 34 from h971_ 34 (by decide), show g'870 34 = g'852 34 from h874_ 34 (by decide), show g'852 34 = g'819 34 from h857_ 34 (by decide), show g'819 34 = g 34 from h827_ 34 (by decide)]) (fun i _ => by show g'980 38 i = g 38 i; rw [show g'980 38 = g'966 38 from h984_ 38 (by decide), show g'966 38 = g'870 38 from h971_ 38 (by decide), show g'870 38 = g'852 38 from h874_ 38 (by decide), show g'852 38 = g'819 38 from h857_ 38 (by decide), show g'819 38 = g 38 from h827_ 38 (by decide)]) (fun i _ => by show g'980 23 i = g 23 i; rw [show g'980 23 = g'966 23 from h984_ 23 (by decide), show g'966 23 = g'870 23 from h971_ 23 (by decide), show g'870 23 = g'852 23 from h874_ 23 (by decide), show g'852 23 = g'819 23 from h857_ 23 (by decide), show g'819 23 = g 23 from h827_ 23 (by decide)]) hrest) (by show (f 15).toInt + 0 = z979.toInt + 0; omega) (by show (f 20).toInt = (f 20).toInt; omega) (by show (f 37).toInt + 0 = (f 37).toInt + 0; omega) (by show (f 32).toInt + 0 = (f 32).toInt + 0; omega) (by show (f 5).toInt + 0 = y948.toInt + 0; omega)⟩ : mg_good (g'980 34) (g'980 38) (g'980 23) (((28 : Int), (0 : Int), (0 : Int), (0 : Int), []) :: gs) (z979.toInt) ((f 20).toInt) ((f 37).toInt) ((f 32).toInt) (y948.toInt))
                      · exact ⟨(by show 0 ≤ z947.toInt; omega), (by show z947.toInt ≤ (f 0).toInt; omega), (by show (f 0).toInt ≤ 512; omega), (by show 0 ≤ (f 24).toInt; omega), (by show (f 24).toInt + (f 20).toInt + mg_p1 (((28 : Int), (0 : Int), (0 : Int), (0 : Int), []) :: gs) ≤ 4 * z947.toInt; omega), (by show (f 20).toInt ≤ z947.toInt; omega), (by show z979.toInt + mg_p2 (((28 : Int), (0 : Int), (0 : Int), (0 : Int), []) :: gs) ≤ z947.toInt; omega), (by show mg_p3 (((28 : Int), (0 : Int), (0 : Int), (0 : Int), []) :: gs) ≤ 20 * z947.toInt + 20; omega), (by show 0 ≤ z964.toInt; omega), (by show z964.toInt + 3 * (f 20).toInt + mg_p4 (((28 : Int), (0 : Int), (0 : Int), (0 : Int), []) :: gs) ≤ 60 * z947.toInt + 60; omega), (by show 0 ≤ o816.toInt; omega), (by show o816.toInt + 64 * mj_n (g'980 16) z979.toNatClampNeg 3 ≤ 64 * z947.toInt; omega), (by show 0 ≤ (f 44).toInt; omega), (by show (f 44).toInt ≤ z947.toInt; omega), (by show 0 ≤ (f 48).toInt; omega), (by show (f 48).toInt ≤ z947.toInt; omega), (by show 1 ≤ (f 53).toInt; omega), (by show (f 53).toInt ≤ z947.toInt + 1; omega), (by show 0 ≤ (f 19).toInt; omega), (by show (f 19).toInt ≤ 600; omega), (by show 0 ≤ (f 6).toInt; omega), (by show 0 ≤ (f 8).toInt; omega)⟩
                      · show 100 * ((f 0).toInt - z947.toInt) + mg_p3 (((28 : Int), (0 : Int), (0 : Int), (0 : Int), []) :: gs) < 100 * ((f 0).toInt - (f 4).toInt) + (1 + mg_p3 gs); omega
                    · subst hv957
                      have h959_ : (0 : Int) ≤ a955.toInt := h959
                      replace hS958 : MS S0 S946 (upd (upd (upd (upd (upd (upd (upd (upd f 4 z894) 5 y895) 6 a955) 7 b956) 10 0) 62 o816) 68 z850) 75 m818) g'870 := hS958
                      have hR988 := rj_clear0 hR909
                      have hR989 : RJ (upd (upd (upd (upd (upd (upd (upd (upd f 4 z894) 5 y895) 6 a955) 7 b956) 10 0) 62 o816) 68 z850) 75 m818) g'870 [] bc [] 0 [] := hR988
                      show am_E _ _ _ _ [some (.ref 39), some (.int 1), some (.int z835)] [.int 0] _ _
                      refine am_e6i hi_212_101 ?_
                      refine am_e2 (v := 39) hi_212_102 rfl ?_
                      refine am_e1 (v := 1) hi_212_103 rfl ?_
                      refine am_e0 hi_212_104 ?_
                      refine am_e1 (v := z835) hi_212_105 rfl ?_
                      refine am_e32w (as := [.ref 39, .int 1, .int 0, .int z835]) (la := [some (.ref 39), some (.int 1), some (.int 0), some (.int z835), none]) (rest := []) hi_212_106 (am_hd0 (M := 212) (by decide) 106) (Nat.le_of_ble_eq_true rfl) (Nat.le_of_ble_eq_true rfl) (show 4 ≤ am_P0.2.2.1 213 from by decide +kernel) rfl (am_recv_ok hS958.fs) rfl rfl ?_
                      refine am_e2 (v := 39) hi_213_0 rfl ?_
                      refine am_e0 hi_213_1 ?_
                      refine am_e1 (v := 1) hi_213_3 rfl ?_
                      refine am_e1 (v := 0) hi_213_4 rfl ?_
                      refine am_e0 hi_213_5 ?_
                      refine am_e10 (z := 2) hi_213_6 (by decide) ?_
                      refine am_e1 (v := z835) hi_213_7 rfl ?_
                      refine am_e32n (as := [.ref 39, .int 13, .int 1, .int 2, .int z835]) (la := [some (.ref 39), some (.int 13), some (.int 1), some (.int 2), some (.int z835)]) (rest := []) hi_213_8 (am_hd0 (M := 213) (by decide) 8) (Nat.le_of_ble_eq_true rfl) (Nat.le_of_ble_eq_true rfl) (show 5 ≤ am_P0.2.2.1 189 from by decide +kernel) rfl (am_recv_ok hS958.fs) rfl rfl (ct_put (d := (d + 3)) hS958 hR989  (by show (0 : Int) ≤ (f 32).toInt; omega) (by show (f 32).toInt ≤ (63 : Int); omega) (by show (f 53).toInt ≤ (4096 : Int); omega) (by show (0 : Int) ≤ z850.toInt; omega) (by show z850.toInt ≤ (65534 : Int); omega)) ?_
                      rintro v990 S991 (⟨z992, r993, g'994, hv995, hS996, hR1000, h997, h998, h999⟩)
                      subst hv995
                      have h997_ : z992.toInt = z850.toInt + 1 := h997
                      have h998_ : r993.toInt = z850.toInt := h998
                      have h999_ : ∀ j, j ∉ [60, 69, 70, 71, 72, 73] → g'994 j = g'870 j := h999
                      replace hS996 : MS S0 S991 (upd (upd (upd (upd (upd (upd (upd (upd f 4 z894) 5 y895) 6 a955) 7 b956) 10 0) 62 o816) 68 z992) 75 m818) g'994 := hS996
                      have hR1000_ : RJ (upd (upd (upd (upd (upd (upd (upd (upd f 4 z894) 5 y895) 6 a955) 7 b956) 10 0) 62 o816) 68 z992) 75 m818) g'994 [] bc [] 0 (z850.toNatClampNeg :: []) := hR1000
                      show am_E _ _ _ _ [some (.ref 39), some (.int 1), some (.int 0), some (.int z835), none] [.int r993] _ _
                      refine am_e3 (ls' := [some (.ref 39), some (.int 1), some (.int 0), some (.int z835), some (.int r993)]) hi_213_11 (Nat.le_of_ble_eq_true rfl) rfl ?_
                      refine am_e2 (v := 39) hi_213_13 rfl ?_
                      refine am_e7 hi_213_14 ?_
                      refine mm_20 (v := .int (f 15)) hS996 hi_213_15 rfl ?_
                      refine am_e0 hi_213_18 ?_
                      obtain ⟨z1001, hz1001, tz1001⟩ := am_subI (x := f 15) (y := 1) (m := (f 15).toInt) (n := (1 : Int)) rfl (by decide) (by omega) (by omega)
                      refine am_e10 (z := z1001) hi_213_19 hz1001 ?_
                      refine mm_21 (v := z1001) hS996 hi_213_20 rfl (Nat.le_of_ble_eq_true rfl) ms_15 ?_
                      intro S1002 hS1003
                      replace hS1003 : MS S0 S1002 (upd (upd (upd (upd (upd (upd (upd (upd (upd f 4 z894) 5 y895) 6 a955) 7 b956) 10 0) 15 z1001) 62 o816) 68 z992) 75 m818) g'994 := hS1003
                      have hp1004 : mj_n (g'819 16) (f 15).toNatClampNeg 3 = mj_n (g'819 16) z1001.toNatClampNeg 3 + if (g'819 16 z1001.toNatClampNeg).toInt = 3 then 1 else 0 := mj_pop (by rw [cl_toNat, cl_toNat]; omega)
                      have hp10041 : mj_n (g'819 16) z1001.toNatClampNeg 3 ≤ mj_n (g'819 16) (f 15).toNatClampNeg 3 := by rw [hp1004]; split <;> omega
                      have hp10042 : (g'819 16 z1001.toNatClampNeg).toInt = 3 → mj_n (g'819 16) z1001.toNatClampNeg 3 + 1 ≤ mj_n (g'819 16) (f 15).toNatClampNeg 3 := fun q => by rw [hp1004, if_pos q]; exact Int.le_refl _
                      refine am_e2 (v := 39) hi_213_23 rfl ?_
                      refine am_e0 hi_213_24 ?_
                      refine am_e1 (v := r993) hi_213_25 rfl ?_
                      refine am_e1 (v := z835) hi_213_27 rfl ?_
                      refine am_e32n (as := [.ref 39, .int 1, .int r993, .int z835]) (la := [some (.ref 39), some (.int 1), some (.int r993), some (.int z835)]) (rest := []) hi_213_28 (am_hd0 (M := 213) (by decide) 28) (Nat.le_of_ble_eq_true rfl) (Nat.le_of_ble_eq_true rfl) (show 4 ≤ am_P0.2.2.1 190 from by decide +kernel) rfl (am_recv_ok hS1003.fs) rfl rfl (ct_value (d := (d + 3)) hS1003 hR1000_ (fun h => absurd h (by decide)) (fun _ => ⟨by omega, by omega⟩) (by show (0 : Int) ≤ z1001.toInt; omega) (by show z1001.toInt ≤ (32767 : Int); omega)) ?_
                      rintro v1005 S1006 (⟨z1007, g'1008, hv1009, hS1010, hR1015, h1011, h1012, h1013, h1014⟩)
                      subst hv1009
                      have h1011_ : z1007.toInt = z1001.toInt + 1 := h1011
                      have h1012_ : ∀ j, j ∉ [16, 17, 18] → g'1008 j = g'994 j := h1012
                      have h1013_ : mj_n (g'1008 16) z1007.toNatClampNeg 3 ≤ mj_n (g'819 16) z1001.toNatClampNeg 3 + 1 := by rw [show g'994 16 = g'870 16 from h999_ 16 (by decide), show g'870 16 = g'852 16 from h874_ 16 (by decide), show g'852 16 = g'819 16 from h857_ 16 (by decide)] at h1013; exact h1013
                      have h1014_ : (1 : Int) = 3 ∨ mj_n (g'1008 16) z1007.toNatClampNeg 3 ≤ mj_n (g'819 16) z1001.toNatClampNeg 3 := by rw [show g'994 16 = g'870 16 from h999_ 16 (by decide), show g'870 16 = g'852 16 from h874_ 16 (by decide), show g'852 16 = g'819 16 from h857_ 16 (by decide)] at h1014; exact h1014
                      replace hS1010 : MS S0 S1006 (upd (upd (upd (upd (upd (upd (upd (upd (upd f 4 z894) 5 y895) 6 a955) 7 b956) 10 0) 15 z1007) 62 o816) 68 z992) 75 m818) g'1008 := hS1010
                      have hR1015_ : RJ (upd (upd (upd (upd (upd (upd (upd (upd (upd f 4 z894) 5 y895) 6 a955) 7 b956) 10 0) 15 z1007) 62 o816) 68 z992) 75 m818) g'1008 [] bc [] 0 (z850.toNatClampNeg :: []) := hR1015
                      show am_E _ _ _ _ [some (.ref 39), some (.int 1), some (.int 0), some (.int z835), some (.int r993)] [] _ _
                      refine am_e35 hi_213_31 ?_
                      show am_E _ _ _ _ [some (.ref 39), some (.int 1), some (.int z835)] [] _ _
                      refine am_e18 hi_212_109 ?_
                      refine am_e35 hi_212_125 ?_
                      show am_E _ _ _ _ [some (.ref 39), some (.int r2), some (.int (f 4)), some (.int r861)] [] _ _
                      refine am_e18 hi_211_211 ?_
                      refine am_e35 hi_211_249 ?_
                      show am_E _ _ _ _ [some (.ref 39), some (.int 28), some (.int on), some (.int tw)] [] _ _
                      refine am_e18 hi_181_180 ?_
                      refine am_e35 hi_181_397 ?_
                      show am_E _ _ _ _ [some (.ref 39), some (.int 28), some (.int on), some (.int tw), some (.int th)] [] _ _
                      refine am_e35 hi_180_13 ?_
                      have hRc := rj_clear0 hR1015_
                      refine ⟨_, _, [], _, rfl, hS1010, Or.inr ⟨hRc, rfl, (by show 0 ≤ z894.toInt; omega), (by show z894.toInt ≤ (f 0).toInt; omega), (by show 0 ≤ (f 32).toInt; omega), (by show (f 32).toInt ≤ 63; omega), (by show 1 ≤ (f 53).toInt; omega), (by show (f 53).toInt ≤ 600; omega), (by show 0 ≤ z992.toInt; omega), (by show z992.toInt ≤ 60000; omega), (by show 0 ≤ (f 48).toInt; omega), (by show (f 48).toInt ≤ 8000; omega), (by show 0 ≤ (f 37).toInt; omega), (by show (f 37).toInt ≤ 128; omega), (by show 0 ≤ o816.toInt; omega), (by show o816.toInt ≤ 65000; omega), (by show 0 ≤ (f 19).toInt; omega), (by show (f 19).toInt ≤ 600; omega), (by show 0 ≤ a955.toInt; omega), (by show 0 ≤ (f 8).toInt; omega)⟩⟩
                · subst hv905
                  have h907_ : (0 : Int) ≤ a903.toInt := h907
                  replace hS906 : MS S0 S893 (upd (upd (upd (upd (upd (upd (upd f 4 z835) 6 a903) 7 b904) 10 0) 62 o816) 68 z850) 75 m818) g'870 := hS906
                  have hR1016 := rj_clear0 hR875_
                  have hR1017 : RJ (upd (upd (upd (upd (upd (upd (upd f 4 z835) 6 a903) 7 b904) 10 0) 62 o816) 68 z850) 75 m818) g'870 [] bc [] 0 [] := hR1016
                  show am_E _ _ _ _ [some (.ref 39), some (.int 1), some (.int z835)] [.int 0] _ _
                  refine am_e12t hi_212_83 (by decide) ?_
                  refine am_e35 hi_212_125 ?_
                  show am_E _ _ _ _ [some (.ref 39), some (.int r2), some (.int (f 4)), some (.int r861)] [] _ _
                  refine am_e18 hi_211_211 ?_
                  refine am_e35 hi_211_249 ?_
                  show am_E _ _ _ _ [some (.ref 39), some (.int 28), some (.int on), some (.int tw)] [] _ _
                  refine am_e18 hi_181_180 ?_
                  refine am_e35 hi_181_397 ?_
                  show am_E _ _ _ _ [some (.ref 39), some (.int 28), some (.int on), some (.int tw), some (.int th)] [] _ _
                  refine am_e35 hi_180_13 ?_
                  have hRc := rj_clear0 hR1017
                  refine ⟨_, _, [], _, rfl, hS906, Or.inr ⟨hRc, rfl, (by show 0 ≤ z835.toInt; omega), (by show z835.toInt ≤ (f 0).toInt; omega), (by show 0 ≤ (f 32).toInt; omega), (by show (f 32).toInt ≤ 63; omega), (by show 1 ≤ (f 53).toInt; omega), (by show (f 53).toInt ≤ 600; omega), (by show 0 ≤ z850.toInt; omega), (by show z850.toInt ≤ 60000; omega), (by show 0 ≤ (f 48).toInt; omega), (by show (f 48).toInt ≤ 8000; omega), (by show 0 ≤ (f 37).toInt; omega), (by show (f 37).toInt ≤ 128; omega), (by show 0 ≤ o816.toInt; omega), (by show o816.toInt ≤ 65000; omega), (by show 0 ≤ (f 19).toInt; omega), (by show (f 19).toInt ≤ 600; omega), (by show 0 ≤ a903.toInt; omega), (by show 0 ≤ (f 8).toInt; omega)⟩⟩
              · refine am_e13f hi_212_58 (am_cF (m := r886.toInt) (n := (62 : Int)) rfl (by decide) c891) ?_
                refine am_e2 (v := 39) hi_212_61 rfl ?_
                refine am_e0 hi_212_62 ?_
                refine am_e1 (v := 1) hi_212_64 rfl ?_
                refine am_e1 (v := z835) hi_212_65 rfl ?_
                refine am_e0 hi_212_66 ?_
                refine am_e32n (as := [.ref 39, .int 33, .int 1, .int z835, .int 0]) (la := [some (.ref 39), some (.int 33), some (.int 1), some (.int z835), some (.int 0)]) (rest := []) hi_212_67 (am_hd0 (M := 212) (by decide) 67) (Nat.le_of_ble_eq_true rfl) (Nat.le_of_ble_eq_true rfl) (show 5 ≤ am_P0.2.2.1 179 from by decide +kernel) rfl (am_recv_ok hS888.fs) rfl rfl (ct_pile (d := (d + 4)) hS888 hR875_ (mj_e_plain (by decide)) (by show (0 : Int) ≤ z869.toInt; omega) (by show z869.toInt ≤ (65535 : Int); omega)) ?_
                rintro v1018 S1019 (⟨z1020, g'1021, hv1022, hS1023, hR1026, h1024, h1025⟩)
                subst hv1022
                have h1024_ : z1020.toInt = z869.toInt + 1 := h1024
                have h1025_ : ∀ j, j ∉ [11, 12, 13, 14] → g'1021 j = g'870 j := h1025
                replace hS1023 : MS S0 S1019 (upd (upd (upd (upd (upd f 4 z835) 10 z1020) 62 o816) 68 z850) 75 m818) g'1021 := hS1023
                have hR1026_ : RJ (upd (upd (upd (upd (upd f 4 z835) 10 z1020) 62 o816) 68 z850) 75 m818) g'1021 (((33 : Int), (1 : Int), z835.toInt, (0 : Int), []) :: (((28 : Int), (0 : Int), (0 : Int), (0 : Int), []) :: gs)) bc [] 0 (s817.toNatClampNeg :: []) := hR1026
                show am_E _ _ _ _ [some (.ref 39), some (.int 1), some (.int z835)] [] _ _
                refine am_e2 (v := 39) hi_212_70 rfl ?_
                refine am_e32w (as := [.ref 39]) (la := [some (.ref 39), none]) (rest := []) hi_212_71 (am_hd0 (M := 212) (by decide) 71) (Nat.le_of_ble_eq_true rfl) (Nat.le_of_ble_eq_true rfl) (show 1 ≤ am_P0.2.2.1 192 from by decide +kernel) rfl (am_recv_ok hS1023.fs) rfl rfl ?_
                refine am_e2 (v := 39) hi_192_0 rfl ?_
                refine mm_20 (v := .int z835) hS1023 hi_192_1 rfl ?_
                refine am_e3 (ls' := [some (.ref 39), some (.int z835)]) hi_192_4 (Nat.le_of_ble_eq_true rfl) rfl ?_
                refine am_e2 (v := 39) hi_192_5 rfl ?_
                refine am_e0 hi_192_6 ?_
                refine am_e32n (as := [.ref 39, .int 62]) (la := [some (.ref 39), some (.int 62)]) (rest := []) hi_192_8 (am_hd0 (M := 192) (by decide) 8) (Nat.le_of_ble_eq_true rfl) (Nat.le_of_ble_eq_true rfl) (show 2 ≤ am_P0.2.2.1 193 from by decide +kernel) rfl (am_recv_ok hS1023.fs) rfl rfl (ct_enter (d := (d + 1)) hS1023   (by show (0 : Int) ≤ z835.toInt; omega) (by show (f 0).toInt ≤ (16384 : Int); omega) (by show (0 : Int) ≤ (62 : Int); omega) (by show (0 : Int) ≤ (f 5).toInt; omega) (by show (f 5).toInt ≤ (48 : Int); omega) (by show (0 : Int) ≤ (f 6).toInt; omega)) ?_
                rintro v1027 S1028 (⟨z1029, y1030, hv1031, hS1032, h1033, h1034, h1035, h1036⟩ | ⟨a1038, b1039, hv1040, hS1041, h1042⟩)
                · subst hv1031
                  have h1033_ : z1029.toInt = z835.toInt + 1 := h1033
                  have h1034_ : z835.toInt < (f 0).toInt := h1034
                  have h1035_ : y1030.toInt = (f 5).toInt + 1 := h1035
                  have h1036_ : y1030.toInt ≤ (48 : Int) := h1036
                  replace hS1032 : MS S0 S1028 (upd (upd (upd (upd (upd (upd f 4 z1029) 5 y1030) 10 z1020) 62 o816) 68 z850) 75 m818) g'1021 := hS1032
                  have hR1044 : RJ (upd (upd (upd (upd (upd (upd f 4 z1029) 5 y1030) 10 z1020) 62 o816) 68 z850) 75 m818) g'1021 (((33 : Int), (1 : Int), z835.toInt, (0 : Int), []) :: (((28 : Int), (0 : Int), (0 : Int), (0 : Int), []) :: gs)) bc [] 0 (s817.toNatClampNeg :: []) := RJ.at hR1026_ (by show z835.toInt ≤ z1029.toInt; omega)
                  show am_E _ _ _ _ [some (.ref 39), some (.int z835)] [.int 1] _ _
                  refine am_e12t hi_192_11 (by decide) ?_
                  refine am_e2 (v := 39) hi_192_15 rfl ?_
                  refine am_e0 hi_192_16 ?_
                  refine am_e0 hi_192_18 ?_
                  refine am_e0 hi_192_19 ?_
                  refine am_e1 (v := z835) hi_192_20 rfl ?_
                  refine am_e32n (as := [.ref 39, .int 20, .int 0, .int 0, .int z835]) (la := [some (.ref 39), some (.int 20), some (.int 0), some (.int 0), some (.int z835)]) (rest := []) hi_192_21 (am_hd0 (M := 192) (by decide) 21) (Nat.le_of_ble_eq_true rfl) (Nat.le_of_ble_eq_true rfl) (show 5 ≤ am_P0.2.2.1 189 from by decide +kernel) rfl (am_recv_ok hS1032.fs) rfl rfl (ct_put (d := (d + 3)) hS1032 hR1044  (by show (0 : Int) ≤ (f 32).toInt; omega) (by show (f 32).toInt ≤ (63 : Int); omega) (by show (f 53).toInt ≤ (4096 : Int); omega) (by show (0 : Int) ≤ z850.toInt; omega) (by show z850.toInt ≤ (65534 : Int); omega)) ?_
                  rintro v1045 S1046 (⟨z1047, r1048, g'1049, hv1050, hS1051, hR1055, h1052, h1053, h1054⟩)
                  subst hv1050
                  have h1052_ : z1047.toInt = z850.toInt + 1 := h1052
                  have h1053_ : r1048.toInt = z850.toInt := h1053
                  have h1054_ : ∀ j, j ∉ [60, 69, 70, 71, 72, 73] → g'1049 j = g'1021 j := h1054
                  replace hS1051 : MS S0 S1046 (upd (upd (upd (upd (upd (upd f 4 z1029) 5 y1030) 10 z1020) 62 o816) 68 z1047) 75 m818) g'1049 := hS1051
                  have hR1055_ : RJ (upd (upd (upd (upd (upd (upd f 4 z1029) 5 y1030) 10 z1020) 62 o816) 68 z1047) 75 m818) g'1049 (((33 : Int), (1 : Int), z835.toInt, (0 : Int), []) :: (((28 : Int), (0 : Int), (0 : Int), (0 : Int), []) :: gs)) bc [] 0 (z850.toNatClampNeg :: (s817.toNatClampNeg :: [])) := hR1055
                  show am_E _ _ _ _ [some (.ref 39), some (.int z835)] [.int r1048] _ _
                  refine am_e6i hi_192_24 ?_
                  refine am_e2 (v := 39) hi_192_25 rfl ?_
                  refine am_e0 hi_192_26 ?_
                  refine am_e0 hi_192_27 ?_
                  refine am_e0 hi_192_28 ?_
                  refine am_e32n (as := [.ref 39, .int 0, .int 0, .int 0]) (la := [some (.ref 39), some (.int 0), some (.int 0), some (.int 0)]) (rest := []) hi_192_29 (am_hd0 (M := 192) (by decide) 29) (Nat.le_of_ble_eq_true rfl) (Nat.le_of_ble_eq_true rfl) (show 4 ≤ am_P0.2.2.1 190 from by decide +kernel) rfl (am_recv_ok hS1051.fs) rfl rfl (ct_value (d := (d + 3)) hS1051 hR1055_ (fun h => absurd h (by decide)) (fun h => absurd h (by decide)) (by show (0 : Int) ≤ (f 15).toInt; omega) (by show (f 15).toInt ≤ (32767 : Int); omega)) ?_
                  rintro v1056 S1057 (⟨z1058, g'1059, hv1060, hS1061, hR1066, h1062, h1063, h1064, h1065⟩)
                  subst hv1060
                  have h1062_ : z1058.toInt = (f 15).toInt + 1 := h1062
                  have h1063_ : ∀ j, j ∉ [16, 17, 18] → g'1059 j = g'1049 j := h1063
                  have h1064_ : mj_n (g'1059 16) z1058.toNatClampNeg 3 ≤ mj_n (g'819 16) (f 15).toNatClampNeg 3 + 1 := by rw [show g'1049 16 = g'1021 16 from h1054_ 16 (by decide), show g'1021 16 = g'870 16 from h1025_ 16 (by decide), show g'870 16 = g'852 16 from h874_ 16 (by decide), show g'852 16 = g'819 16 from h857_ 16 (by decide)] at h1064; exact h1064
                  have h1065_ : (0 : Int) = 3 ∨ mj_n (g'1059 16) z1058.toNatClampNeg 3 ≤ mj_n (g'819 16) (f 15).toNatClampNeg 3 := by rw [show g'1049 16 = g'1021 16 from h1054_ 16 (by decide), show g'1021 16 = g'870 16 from h1025_ 16 (by decide), show g'870 16 = g'852 16 from h874_ 16 (by decide), show g'852 16 = g'819 16 from h857_ 16 (by decide)] at h1065; exact h1065
                  replace hS1061 : MS S0 S1057 (upd (upd (upd (upd (upd (upd (upd f 4 z1029) 5 y1030) 10 z1020) 15 z1058) 62 o816) 68 z1047) 75 m818) g'1059 := hS1061
                  have hR1066_ : RJ (upd (upd (upd (upd (upd (upd (upd f 4 z1029) 5 y1030) 10 z1020) 15 z1058) 62 o816) 68 z1047) 75 m818) g'1059 (((33 : Int), (1 : Int), z835.toInt, (0 : Int), []) :: (((28 : Int), (0 : Int), (0 : Int), (0 : Int), []) :: gs)) bc [] 0 (z850.toNatClampNeg :: (s817.toNatClampNeg :: [])) := hR1066
                  show am_E _ _ _ _ [some (.ref 39), some (.int z835)] [] _ _
                  refine am_e2 (v := 39) hi_192_32 rfl ?_
                  refine am_e0 hi_192_33 ?_
                  refine am_e0 hi_192_35 ?_
                  refine am_e0 hi_192_36 ?_
                  refine am_e0 hi_192_37 ?_
                  refine am_e32n (as := [.ref 39, .int 35, .int 0, .int 0, .int 0]) (la := [some (.ref 39), some (.int 35), some (.int 0), some (.int 0), some (.int 0)]) (rest := []) hi_192_38 (am_hd0 (M := 192) (by decide) 38) (Nat.le_of_ble_eq_true rfl) (Nat.le_of_ble_eq_true rfl) (show 5 ≤ am_P0.2.2.1 179 from by decide +kernel) rfl (am_recv_ok hS1061.fs) rfl rfl (ct_pile (d := (d + 3)) hS1061 hR1066_ (mj_e_plain (by decide)) (by show (0 : Int) ≤ z1020.toInt; omega) (by show z1020.toInt ≤ (65535 : Int); omega)) ?_
                  rintro v1067 S1068 (⟨z1069, g'1070, hv1071, hS1072, hR1075, h1073, h1074⟩)
                  subst hv1071
                  have h1073_ : z1069.toInt = z1020.toInt + 1 := h1073
                  have h1074_ : ∀ j, j ∉ [11, 12, 13, 14] → g'1070 j = g'1059 j := h1074
                  replace hS1072 : MS S0 S1068 (upd (upd (upd (upd (upd (upd (upd f 4 z1029) 5 y1030) 10 z1069) 15 z1058) 62 o816) 68 z1047) 75 m818) g'1070 := hS1072
                  have hR1075_ : RJ (upd (upd (upd (upd (upd (upd (upd f 4 z1029) 5 y1030) 10 z1069) 15 z1058) 62 o816) 68 z1047) 75 m818) g'1070 (((35 : Int), (0 : Int), (0 : Int), (0 : Int), []) :: (((33 : Int), (1 : Int), z835.toInt, (0 : Int), []) :: (((28 : Int), (0 : Int), (0 : Int), (0 : Int), []) :: gs))) bc [] 0 (z850.toNatClampNeg :: (s817.toNatClampNeg :: [])) := hR1075
                  show am_E _ _ _ _ [some (.ref 39), some (.int z835)] [] _ _
                  refine am_e35 hi_192_41 ?_
                  show am_E _ _ _ _ [some (.ref 39), some (.int 1), some (.int z835)] [] _ _
                  refine am_e18 hi_212_74 ?_
                  refine am_e35 hi_212_125 ?_
                  show am_E _ _ _ _ [some (.ref 39), some (.int r2), some (.int (f 4)), some (.int r861)] [] _ _
                  refine am_e18 hi_211_211 ?_
                  refine am_e35 hi_211_249 ?_
                  show am_E _ _ _ _ [some (.ref 39), some (.int 28), some (.int on), some (.int tw)] [] _ _
                  refine am_e18 hi_181_180 ?_
                  refine am_e35 hi_181_397 ?_
                  show am_E _ _ _ _ [some (.ref 39), some (.int 28), some (.int on), some (.int tw), some (.int th)] [] _ _
                  refine am_e35 hi_180_13 ?_
                  have q1 : mg_p1 (((35 : Int), (0 : Int), (0 : Int), (0 : Int), []) :: (((33 : Int), (1 : Int), z835.toInt, (0 : Int), []) :: (((28 : Int), (0 : Int), (0 : Int), (0 : Int), []) :: gs))) = 0 + (0 + (0 + (mg_p1 gs))) := rfl
                  have q2 : mg_p2 (((35 : Int), (0 : Int), (0 : Int), (0 : Int), []) :: (((33 : Int), (1 : Int), z835.toInt, (0 : Int), []) :: (((28 : Int), (0 : Int), (0 : Int), (0 : Int), []) :: gs))) = 0 + (0 + (0 + (mg_p2 gs))) := rfl
                  have q3 : mg_p3 (((35 : Int), (0 : Int), (0 : Int), (0 : Int), []) :: (((33 : Int), (1 : Int), z835.toInt, (0 : Int), []) :: (((28 : Int), (0 : Int), (0 : Int), (0 : Int), []) :: gs))) = 3 + (1 + (1 + (mg_p3 gs))) := rfl
                  have q4 : mg_p4 (((35 : Int), (0 : Int), (0 : Int), (0 : Int), []) :: (((33 : Int), (1 : Int), z835.toInt, (0 : Int), []) :: (((28 : Int), (0 : Int), (0 : Int), (0 : Int), []) :: gs))) = 0 + (3 + (0 + (mg_p4 gs))) := rfl
                  refine ⟨_, _, _, bc, rfl, hS1072, Or.inl ⟨⟨(RJ.fewer (pj' := []) hR1075_ (fun _ h => nomatch h)), ?_, ?_⟩, rfl, ?_⟩⟩
                  · exact (⟨⟨(show mg_k 35 from by decide), (show (0 : Int) ≤ z1058.toInt from by omega), (show 0 ≤ (f 20).toInt from by omega), (show 1 ≤ (f 37).toInt from by omega), (show 0 ≤ (f 32).toInt from by omega), (show (f 32).toInt ≤ y1030.toInt from by omega), (show y1030.toInt ≤ 48 from by omega), (show (f 37).toInt ≤ 2 * (y1030.toInt) + 2 from by omega), trivial⟩, ⟨⟨(show mg_k 33 from by decide), (show (2 : Int) ≤ z1058.toInt + 0 from by omega), (show 0 ≤ (f 20).toInt from by omega), (show 1 ≤ (f 37).toInt + 0 from by omega), (show 0 ≤ (f 32).toInt + 0 from by omega), (show (f 32).toInt + 0 ≤ y1030.toInt + -1 from by omega), (show y1030.toInt + -1 ≤ 48 from by omega), (show (f 37).toInt + 0 ≤ 2 * (y1030.toInt + -1) + 2 from by omega), trivial⟩, ⟨⟨(show mg_k 28 from by decide), (show (1 : Int) ≤ z1058.toInt + 0 + -1 from by omega), (show 0 ≤ (f 20).toInt from by omega), (show 1 ≤ (f 37).toInt + 0 + 0 from by omega), (show 0 ≤ (f 32).toInt + 0 + 0 from by omega), (show (f 32).toInt + 0 + 0 ≤ y1030.toInt + -1 + 0 from by omega), (show y1030.toInt + -1 + 0 ≤ 48 from by omega), (show (f 37).toInt + 0 + 0 ≤ 2 * (y1030.toInt + -1 + 0) + 2 from by omega), trivial⟩, mg_cast (mg_good_ext _ _ _ _ _ _ (fun i _ => by show g'1070 34 i = g 34 i; rw [show g'1070 34 = g'1059 34 from h1074_ 34 (by decide), show g'1059 34 = g'1049 34 from h1063_ 34 (by decide), show g'1049 34 = g'1021 34 from h1054_ 34 (by decide), show g'1021 34 = g'870 34 from h1025_ 34 (by decide), show g'870 34 = g'852 34 from h874_ 34 (by decide), show g'852 34 = g'819 34 from h857_ 34 (by decide), show g'819 34 = g 34 from h827_ 34 (by decide)]) (fun i _ => by show g'1070 38 i = g 38 i; rw [show g'1070 38 = g'1059 38 from h1074_ 38 (by decide), show g'1059 38 = g'1049 38 from h1063_ 38 (by decide), show g'1049 38 = g'1021 38 from h1054_ 38 (by decide), show g'1021 38 = g'870 38 from h1025_ 38 (by decide), show g'870 38 = g'852 38 from h874_ 38 (by decide), show g'852 38 = g'819 38 from h857_ 38 (by decide), show g'819 38 = g 38 from h827_ 38 (by decide)]) (fun i _ => by show g'1070 23 i = g 23 i; rw [show g'1070 23 = g'1059 23 from h1074_ 23 (by decide), show g'1059 23 = g'1049 23 from h1063_ 23 (by decide), show g'1049 23 = g'1021 23 from h1054_ 23 (by decide), show g'1021 23 = g'870 23 from h1025_ 23 (by decide), show g'870 23 = g'852 23 from h874_ 23 (by decide), show g'852 23 = g'819 23 from h857_ 23 (by decide), show g'819 23 = g 23 from h827_ 23 (by decide)]) hrest) (by show (f 15).toInt + 0 = z1058.toInt + 0 + -1 + 0; omega) (by show (f 20).toInt = (f 20).toInt; omega) (by show (f 37).toInt + 0 = (f 37).toInt + 0 + 0 + 0; omega) (by show (f 32).toInt + 0 = (f 32).toInt + 0 + 0 + 0; omega) (by show (f 5).toInt + 0 = y1030.toInt + -1 + 0 + 0; omega)⟩⟩⟩ : mg_good (g'1070 34) (g'1070 38) (g'1070 23) (((35 : Int), (0 : Int), (0 : Int), (0 : Int), []) :: (((33 : Int), (1 : Int), z835.toInt, (0 : Int), []) :: (((28 : Int), (0 : Int), (0 : Int), (0 : Int), []) :: gs))) (z1058.toInt) ((f 20).toInt) ((f 37).toInt) ((f 32).toInt) (y1030.toInt))
                  · exact ⟨(by show 0 ≤ z1029.toInt; omega), (by show z1029.toInt ≤ (f 0).toInt; omega), (by show (f 0).toInt ≤ 512; omega), (by show 0 ≤ (f 24).toInt; omega), (by show (f 24).toInt + (f 20).toInt + mg_p1 (((35 : Int), (0 : Int), (0 : Int), (0 : Int), []) :: (((33 : Int), (1 : Int), z835.toInt, (0 : Int), []) :: (((28 : Int), (0 : Int), (0 : Int), (0 : Int), []) :: gs))) ≤ 4 * z1029.toInt; omega), (by show (f 20).toInt ≤ z1029.toInt; omega), (by show z1058.toInt + mg_p2 (((35 : Int), (0 : Int), (0 : Int), (0 : Int), []) :: (((33 : Int), (1 : Int), z835.toInt, (0 : Int), []) :: (((28 : Int), (0 : Int), (0 : Int), (0 : Int), []) :: gs))) ≤ z1029.toInt; omega), (by show mg_p3 (((35 : Int), (0 : Int), (0 : Int), (0 : Int), []) :: (((33 : Int), (1 : Int), z835.toInt, (0 : Int), []) :: (((28 : Int), (0 : Int), (0 : Int), (0 : Int), []) :: gs))) ≤ 20 * z1029.toInt + 20; omega), (by show 0 ≤ z1047.toInt; omega), (by show z1047.toInt + 3 * (f 20).toInt + mg_p4 (((35 : Int), (0 : Int), (0 : Int), (0 : Int), []) :: (((33 : Int), (1 : Int), z835.toInt, (0 : Int), []) :: (((28 : Int), (0 : Int), (0 : Int), (0 : Int), []) :: gs))) ≤ 60 * z1029.toInt + 60; omega), (by show 0 ≤ o816.toInt; omega), (by show o816.toInt + 64 * mj_n (g'1070 16) z1058.toNatClampNeg 3 ≤ 64 * z1029.toInt; rw [show g'1070 16 = g'1059 16 from h1074_ 16 (by decide)]; omega), (by show 0 ≤ (f 44).toInt; omega), (by show (f 44).toInt ≤ z1029.toInt; omega), (by show 0 ≤ (f 48).toInt; omega), (by show (f 48).toInt ≤ z1029.toInt; omega), (by show 1 ≤ (f 53).toInt; omega), (by show (f 53).toInt ≤ z1029.toInt + 1; omega), (by show 0 ≤ (f 19).toInt; omega), (by show (f 19).toInt ≤ 600; omega), (by show 0 ≤ (f 6).toInt; omega), (by show 0 ≤ (f 8).toInt; omega)⟩
                  · show 100 * ((f 0).toInt - z1029.toInt) + mg_p3 (((35 : Int), (0 : Int), (0 : Int), (0 : Int), []) :: (((33 : Int), (1 : Int), z835.toInt, (0 : Int), []) :: (((28 : Int), (0 : Int), (0 : Int), (0 : Int), []) :: gs))) < 100 * ((f 0).toInt - (f 4).toInt) + (1 + mg_p3 gs); omega
                · subst hv1040
                  have h1042_ : (0 : Int) ≤ a1038.toInt := h1042
                  replace hS1041 : MS S0 S1028 (upd (upd (upd (upd (upd (upd (upd f 4 z835) 6 a1038) 7 b1039) 10 0) 62 o816) 68 z850) 75 m818) g'1021 := hS1041
                  have hR1076 := rj_clear0 hR1026_
                  have hR1077 : RJ (upd (upd (upd (upd (upd (upd (upd f 4 z835) 6 a1038) 7 b1039) 10 0) 62 o816) 68 z850) 75 m818) g'1021 [] bc [] 0 [] := hR1076
                  show am_E _ _ _ _ [some (.ref 39), some (.int z835)] [.int 0] _ _
                  refine am_e12f hi_192_11 (by decide) ?_
                  refine am_e35 hi_192_14 ?_
                  show am_E _ _ _ _ [some (.ref 39), some (.int 1), some (.int z835)] [] _ _
                  refine am_e18 hi_212_74 ?_
                  refine am_e35 hi_212_125 ?_
                  show am_E _ _ _ _ [some (.ref 39), some (.int r2), some (.int (f 4)), some (.int r861)] [] _ _
                  refine am_e18 hi_211_211 ?_
                  refine am_e35 hi_211_249 ?_
                  show am_E _ _ _ _ [some (.ref 39), some (.int 28), some (.int on), some (.int tw)] [] _ _
                  refine am_e18 hi_181_180 ?_
                  refine am_e35 hi_181_397 ?_
                  show am_E _ _ _ _ [some (.ref 39), some (.int 28), some (.int on), some (.int tw), some (.int th)] [] _ _
                  refine am_e35 hi_180_13 ?_
                  have hRc := rj_clear0 hR1077
                  refine ⟨_, _, [], _, rfl, hS1041, Or.inr ⟨hRc, rfl, (by show 0 ≤ z835.toInt; omega), (by show z835.toInt ≤ (f 0).toInt; omega), (by show 0 ≤ (f 32).toInt; omega), (by show (f 32).toInt ≤ 63; omega), (by show 1 ≤ (f 53).toInt; omega), (by show (f 53).toInt ≤ 600; omega), (by show 0 ≤ z850.toInt; omega), (by show z850.toInt ≤ 60000; omega), (by show 0 ≤ (f 48).toInt; omega), (by show (f 48).toInt ≤ 8000; omega), (by show 0 ≤ (f 37).toInt; omega), (by show (f 37).toInt ≤ 128; omega), (by show 0 ≤ o816.toInt; omega), (by show o816.toInt ≤ 65000; omega), (by show 0 ≤ (f 19).toInt; omega), (by show (f 19).toInt ≤ 600; omega), (by show 0 ≤ a1038.toInt; omega), (by show 0 ≤ (f 8).toInt; omega)⟩⟩
            · refine am_e13f hi_212_10 (am_cF (m := r878.toInt) (n := (3 : Int)) rfl (by decide) c883) ?_
              refine am_e2 (v := 39) hi_212_13 rfl ?_
              refine am_e0 hi_212_14 ?_
              refine am_e2 (v := 39) hi_212_15 rfl ?_
              refine mm_20 (v := .ref 41) hS880 hi_212_16 rfl ?_
              refine am_e2 (v := 39) hi_212_19 rfl ?_
              refine mm_20 (v := .int z835) hS880 hi_212_20 rfl ?_
              refine mm_25 hS880 ma_2 hi_212_23 (by decide) (by omega) (by omega) ?_
              show am_E _ _ _ _ _ (.int (g'870 2 z835.toNatClampNeg) :: _) _ _
              rw [show g'870 2 = g'852 2 from h874_ 2 (by decide), show g'852 2 = g'819 2 from h857_ 2 (by decide), show g'819 2 = g 2 from h827_ 2 (by decide)]
              show am_E _ _ _ _ [some (.ref 39), some (.int 1), some (.int z835)] [.int (g 2 z835.toNatClampNeg), .int 5, .ref 39] _ _
              refine am_e0 hi_212_24 ?_
              refine am_e0 hi_212_25 ?_
              refine am_e32n (as := [.ref 39, .int 5, .int (g 2 z835.toNatClampNeg), .int 0, .int 0]) (la := [some (.ref 39), some (.int 5), some (.int (g 2 z835.toNatClampNeg)), some (.int 0), some (.int 0)]) (rest := []) hi_212_26 (am_hd0 (M := 212) (by decide) 26) (Nat.le_of_ble_eq_true rfl) (Nat.le_of_ble_eq_true rfl) (show 5 ≤ am_P0.2.2.1 189 from by decide +kernel) rfl (am_recv_ok hS880.fs) rfl rfl (ct_put (d := (d + 4)) hS880 hR875_  (by show (0 : Int) ≤ (f 32).toInt; omega) (by show (f 32).toInt ≤ (63 : Int); omega) (by show (f 53).toInt ≤ (4096 : Int); omega) (by show (0 : Int) ≤ z850.toInt; omega) (by show z850.toInt ≤ (65534 : Int); omega)) ?_
              rintro v1078 S1079 (⟨z1080, r1081, g'1082, hv1083, hS1084, hR1088, h1085, h1086, h1087⟩)
              subst hv1083
              have h1085_ : z1080.toInt = z850.toInt + 1 := h1085
              have h1086_ : r1081.toInt = z850.toInt := h1086
              have h1087_ : ∀ j, j ∉ [60, 69, 70, 71, 72, 73] → g'1082 j = g'870 j := h1087
              replace hS1084 : MS S0 S1079 (upd (upd (upd (upd (upd f 4 z835) 10 z869) 62 o816) 68 z1080) 75 m818) g'1082 := hS1084
              have hR1088_ : RJ (upd (upd (upd (upd (upd f 4 z835) 10 z869) 62 o816) 68 z1080) 75 m818) g'1082 (((28 : Int), (0 : Int), (0 : Int), (0 : Int), []) :: gs) bc [] 0 (z850.toNatClampNeg :: (s817.toNatClampNeg :: [])) := hR1088
              show am_E _ _ _ _ [some (.ref 39), some (.int 1), some (.int z835)] [.int r1081] _ _
              refine am_e6i hi_212_29 ?_
              refine am_e2 (v := 39) hi_212_30 rfl ?_
              refine am_e7 hi_212_31 ?_
              refine mm_20 (v := .int z835) hS1084 hi_212_32 rfl ?_
              refine am_e0 hi_212_35 ?_
              obtain ⟨z1089, hz1089, tz1089⟩ := am_addI (x := z835) (y := 1) (m := z835.toInt) (n := (1 : Int)) rfl (by decide) (by omega) (by omega)
              refine am_e10 (z := z1089) hi_212_36 hz1089 ?_
              refine mm_21 (v := z1089) hS1084 hi_212_37 rfl (Nat.le_of_ble_eq_true rfl) ms_4 ?_
              intro S1090 hS1091
              replace hS1091 : MS S0 S1090 (upd (upd (upd (upd (upd f 4 z1089) 10 z869) 62 o816) 68 z1080) 75 m818) g'1082 := hS1091
              have hR1092 : RJ (upd (upd (upd (upd (upd f 4 z1089) 10 z869) 62 o816) 68 z1080) 75 m818) g'1082 (((28 : Int), (0 : Int), (0 : Int), (0 : Int), []) :: gs) bc [] 0 (z850.toNatClampNeg :: (s817.toNatClampNeg :: [])) := RJ.at hR1088_ (by show z835.toInt ≤ z1089.toInt; omega)
              refine am_e2 (v := 39) hi_212_40 rfl ?_
              refine am_e0 hi_212_41 ?_
              refine am_e1 (v := 1) hi_212_42 rfl ?_
              refine am_e10 (z := 2) hi_212_43 (by decide) ?_
              refine am_e0 hi_212_44 ?_
              refine am_e1 (v := z835) hi_212_45 rfl ?_
              refine am_e32w (as := [.ref 39, .int 2, .int 0, .int z835]) (la := [some (.ref 39), some (.int 2), some (.int 0), some (.int z835), none]) (rest := []) hi_212_46 (am_hd0 (M := 212) (by decide) 46) (Nat.le_of_ble_eq_true rfl) (Nat.le_of_ble_eq_true rfl) (show 4 ≤ am_P0.2.2.1 213 from by decide +kernel) rfl (am_recv_ok hS1091.fs) rfl rfl ?_
              refine am_e2 (v := 39) hi_213_0 rfl ?_
              refine am_e0 hi_213_1 ?_
              refine am_e1 (v := 2) hi_213_3 rfl ?_
              refine am_e1 (v := 0) hi_213_4 rfl ?_
              refine am_e0 hi_213_5 ?_
              refine am_e10 (z := 2) hi_213_6 (by decide) ?_
              refine am_e1 (v := z835) hi_213_7 rfl ?_
              refine am_e32n (as := [.ref 39, .int 13, .int 2, .int 2, .int z835]) (la := [some (.ref 39), some (.int 13), some (.int 2), some (.int 2), some (.int z835)]) (rest := []) hi_213_8 (am_hd0 (M := 213) (by decide) 8) (Nat.le_of_ble_eq_true rfl) (Nat.le_of_ble_eq_true rfl) (show 5 ≤ am_P0.2.2.1 189 from by decide +kernel) rfl (am_recv_ok hS1091.fs) rfl rfl (ct_put (d := (d + 3)) hS1091 hR1092  (by show (0 : Int) ≤ (f 32).toInt; omega) (by show (f 32).toInt ≤ (63 : Int); omega) (by show (f 53).toInt ≤ (4096 : Int); omega) (by show (0 : Int) ≤ z1080.toInt; omega) (by show z1080.toInt ≤ (65534 : Int); omega)) ?_
              rintro v1093 S1094 (⟨z1095, r1096, g'1097, hv1098, hS1099, hR1103, h1100, h1101, h1102⟩)
              subst hv1098
              have h1100_ : z1095.toInt = z1080.toInt + 1 := h1100
              have h1101_ : r1096.toInt = z1080.toInt := h1101
              have h1102_ : ∀ j, j ∉ [60, 69, 70, 71, 72, 73] → g'1097 j = g'1082 j := h1102
              replace hS1099 : MS S0 S1094 (upd (upd (upd (upd (upd f 4 z1089) 10 z869) 62 o816) 68 z1095) 75 m818) g'1097 := hS1099
              have hR1103_ : RJ (upd (upd (upd (upd (upd f 4 z1089) 10 z869) 62 o816) 68 z1095) 75 m818) g'1097 (((28 : Int), (0 : Int), (0 : Int), (0 : Int), []) :: gs) bc [] 0 (z1080.toNatClampNeg :: (z850.toNatClampNeg :: (s817.toNatClampNeg :: []))) := hR1103
              show am_E _ _ _ _ [some (.ref 39), some (.int 2), some (.int 0), some (.int z835), none] [.int r1096] _ _
              refine am_e3 (ls' := [some (.ref 39), some (.int 2), some (.int 0), some (.int z835), some (.int r1096)]) hi_213_11 (Nat.le_of_ble_eq_true rfl) rfl ?_
              refine am_e2 (v := 39) hi_213_13 rfl ?_
              refine am_e7 hi_213_14 ?_
              refine mm_20 (v := .int (f 15)) hS1099 hi_213_15 rfl ?_
              refine am_e0 hi_213_18 ?_
              obtain ⟨z1104, hz1104, tz1104⟩ := am_subI (x := f 15) (y := 1) (m := (f 15).toInt) (n := (1 : Int)) rfl (by decide) (by omega) (by omega)
              refine am_e10 (z := z1104) hi_213_19 hz1104 ?_
              refine mm_21 (v := z1104) hS1099 hi_213_20 rfl (Nat.le_of_ble_eq_true rfl) ms_15 ?_
              intro S1105 hS1106
              replace hS1106 : MS S0 S1105 (upd (upd (upd (upd (upd (upd f 4 z1089) 10 z869) 15 z1104) 62 o816) 68 z1095) 75 m818) g'1097 := hS1106
              have hp1107 : mj_n (g'819 16) (f 15).toNatClampNeg 3 = mj_n (g'819 16) z1104.toNatClampNeg 3 + if (g'819 16 z1104.toNatClampNeg).toInt = 3 then 1 else 0 := mj_pop (by rw [cl_toNat, cl_toNat]; omega)
              have hp11071 : mj_n (g'819 16) z1104.toNatClampNeg 3 ≤ mj_n (g'819 16) (f 15).toNatClampNeg 3 := by rw [hp1107]; split <;> omega
              have hp11072 : (g'819 16 z1104.toNatClampNeg).toInt = 3 → mj_n (g'819 16) z1104.toNatClampNeg 3 + 1 ≤ mj_n (g'819 16) (f 15).toNatClampNeg 3 := fun q => by rw [hp1107, if_pos q]; exact Int.le_refl _
              refine am_e2 (v := 39) hi_213_23 rfl ?_
              refine am_e0 hi_213_24 ?_
              refine am_e1 (v := r1096) hi_213_25 rfl ?_
              refine am_e1 (v := z835) hi_213_27 rfl ?_
              refine am_e32n (as := [.ref 39, .int 1, .int r1096, .int z835]) (la := [some (.ref 39), some (.int 1), some (.int r1096), some (.int z835)]) (rest := []) hi_213_28 (am_hd0 (M := 213) (by decide) 28) (Nat.le_of_ble_eq_true rfl) (Nat.le_of_ble_eq_true rfl) (show 4 ≤ am_P0.2.2.1 190 from by decide +kernel) rfl (am_recv_ok hS1106.fs) rfl rfl (ct_value (d := (d + 3)) hS1106 hR1103_ (fun h => absurd h (by decide)) (fun _ => ⟨by omega, by omega⟩) (by show (0 : Int) ≤ z1104.toInt; omega) (by show z1104.toInt ≤ (32767 : Int); omega)) ?_
              rintro v1108 S1109 (⟨z1110, g'1111, hv1112, hS1113, hR1118, h1114, h1115, h1116, h1117⟩)
              subst hv1112
              have h1114_ : z1110.toInt = z1104.toInt + 1 := h1114
              have h1115_ : ∀ j, j ∉ [16, 17, 18] → g'1111 j = g'1097 j := h1115
              have h1116_ : mj_n (g'1111 16) z1110.toNatClampNeg 3 ≤ mj_n (g'819 16) z1104.toNatClampNeg 3 + 1 := by rw [show g'1097 16 = g'1082 16 from h1102_ 16 (by decide), show g'1082 16 = g'870 16 from h1087_ 16 (by decide), show g'870 16 = g'852 16 from h874_ 16 (by decide), show g'852 16 = g'819 16 from h857_ 16 (by decide)] at h1116; exact h1116
              have h1117_ : (1 : Int) = 3 ∨ mj_n (g'1111 16) z1110.toNatClampNeg 3 ≤ mj_n (g'819 16) z1104.toNatClampNeg 3 := by rw [show g'1097 16 = g'1082 16 from h1102_ 16 (by decide), show g'1082 16 = g'870 16 from h1087_ 16 (by decide), show g'870 16 = g'852 16 from h874_ 16 (by decide), show g'852 16 = g'819 16 from h857_ 16 (by decide)] at h1117; exact h1117
              replace hS1113 : MS S0 S1109 (upd (upd (upd (upd (upd (upd f 4 z1089) 10 z869) 15 z1110) 62 o816) 68 z1095) 75 m818) g'1111 := hS1113
              have hR1118_ : RJ (upd (upd (upd (upd (upd (upd f 4 z1089) 10 z869) 15 z1110) 62 o816) 68 z1095) 75 m818) g'1111 (((28 : Int), (0 : Int), (0 : Int), (0 : Int), []) :: gs) bc [] 0 (z1080.toNatClampNeg :: (z850.toNatClampNeg :: (s817.toNatClampNeg :: []))) := hR1118
              show am_E _ _ _ _ [some (.ref 39), some (.int 2), some (.int 0), some (.int z835), some (.int r1096)] [] _ _
              refine am_e35 hi_213_31 ?_
              show am_E _ _ _ _ [some (.ref 39), some (.int 1), some (.int z835)] [] _ _
              refine am_e18 hi_212_49 ?_
              refine am_e35 hi_212_125 ?_
              show am_E _ _ _ _ [some (.ref 39), some (.int r2), some (.int (f 4)), some (.int r861)] [] _ _
              refine am_e18 hi_211_211 ?_
              refine am_e35 hi_211_249 ?_
              show am_E _ _ _ _ [some (.ref 39), some (.int 28), some (.int on), some (.int tw)] [] _ _
              refine am_e18 hi_181_180 ?_
              refine am_e35 hi_181_397 ?_
              show am_E _ _ _ _ [some (.ref 39), some (.int 28), some (.int on), some (.int tw), some (.int th)] [] _ _
              refine am_e35 hi_180_13 ?_
              have q1 : mg_p1 (((28 : Int), (0 : Int), (0 : Int), (0 : Int), []) :: gs) = 0 + (mg_p1 gs) := rfl
              have q2 : mg_p2 (((28 : Int), (0 : Int), (0 : Int), (0 : Int), []) :: gs) = 0 + (mg_p2 gs) := rfl
              have q3 : mg_p3 (((28 : Int), (0 : Int), (0 : Int), (0 : Int), []) :: gs) = 1 + (mg_p3 gs) := rfl
              have q4 : mg_p4 (((28 : Int), (0 : Int), (0 : Int), (0 : Int), []) :: gs) = 0 + (mg_p4 gs) := rfl
              refine ⟨_, _, _, bc, rfl, hS1113, Or.inl ⟨⟨(RJ.fewer (pj' := []) hR1118_ (fun _ h => nomatch h)), ?_, ?_⟩, rfl, ?_⟩⟩
              · exact (⟨⟨(show mg_k 28 from by decide), (show (1 : Int) ≤ z1110.toInt from by omega), (show 0 ≤ (f 20).toInt from by omega), (show 1 ≤ (f 37).toInt from by omega), (show 0 ≤ (f 32).toInt from by omega), (show (f 32).toInt ≤ (f 5).toInt from by omega), (show (f 5).toInt ≤ 48 from by omega), (show (f 37).toInt ≤ 2 * ((f 5).toInt) + 2 from by omega), trivial⟩, mg_cast (mg_good_ext _ _ _ _ _ _ (fun i _ => by show g'1111 34 i = g 34 i; rw [show g'1111 34 = g'1097 34 from h1115_ 34 (by decide), show g'1097 34 = g'1082 34 from h1102_ 34 (by decide), show g'1082 34 = g'870 34 from h1087_ 34 (by decide), show g'870 34 = g'852 34 from h874_ 34 (by decide), show g'852 34 = g'819 34 from h857_ 34 (by decide), show g'819 34 = g 34 from h827_ 34 (by decide)]) (fun i _ => by show g'1111 38 i = g 38 i; rw [show g'1111 38 = g'1097 38 from h1115_ 38 (by decide), show g'1097 38 = g'1082 38 from h1102_ 38 (by decide), show g'1082 38 = g'870 38 from h1087_ 38 (by decide), show g'870 38 = g'852 38 from h874_ 38 (by decide), show g'852 38 = g'819 38 from h857_ 38 (by decide), show g'819 38 = g 38 from h827_ 38 (by decide)]) (fun i _ => by show g'1111 23 i = g 23 i; rw [show g'1111 23 = g'1097 23 from h1115_ 23 (by decide), show g'1097 23 = g'1082 23 from h1102_ 23 (by decide), show g'1082 23 = g'870 23 from h1087_ 23 (by decide), show g'870 23 = g'852 23 from h874_ 23 (by decide), show g'852 23 = g'819 23 from h857_ 23 (by decide), show g'819 23 = g 23 from h827_ 23 (by decide)]) hrest) (by show (f 15).toInt + 0 = z1110.toInt + 0; omega) (by show (f 20).toInt = (f 20).toInt; omega) (by show (f 37).toInt + 0 = (f 37).toInt + 0; omega) (by show (f 32).toInt + 0 = (f 32).toInt + 0; omega) (by show (f 5).toInt + 0 = (f 5).toInt + 0; omega)⟩ : mg_good (g'1111 34) (g'1111 38) (g'1111 23) (((28 : Int), (0 : Int), (0 : Int), (0 : Int), []) :: gs) (z1110.toInt) ((f 20).toInt) ((f 37).toInt) ((f 32).toInt) ((f 5).toInt))
              · exact ⟨(by show 0 ≤ z1089.toInt; omega), (by show z1089.toInt ≤ (f 0).toInt; omega), (by show (f 0).toInt ≤ 512; omega), (by show 0 ≤ (f 24).toInt; omega), (by show (f 24).toInt + (f 20).toInt + mg_p1 (((28 : Int), (0 : Int), (0 : Int), (0 : Int), []) :: gs) ≤ 4 * z1089.toInt; omega), (by show (f 20).toInt ≤ z1089.toInt; omega), (by show z1110.toInt + mg_p2 (((28 : Int), (0 : Int), (0 : Int), (0 : Int), []) :: gs) ≤ z1089.toInt; omega), (by show mg_p3 (((28 : Int), (0 : Int), (0 : Int), (0 : Int), []) :: gs) ≤ 20 * z1089.toInt + 20; omega), (by show 0 ≤ z1095.toInt; omega), (by show z1095.toInt + 3 * (f 20).toInt + mg_p4 (((28 : Int), (0 : Int), (0 : Int), (0 : Int), []) :: gs) ≤ 60 * z1089.toInt + 60; omega), (by show 0 ≤ o816.toInt; omega), (by show o816.toInt + 64 * mj_n (g'1111 16) z1110.toNatClampNeg 3 ≤ 64 * z1089.toInt; omega), (by show 0 ≤ (f 44).toInt; omega), (by show (f 44).toInt ≤ z1089.toInt; omega), (by show 0 ≤ (f 48).toInt; omega), (by show (f 48).toInt ≤ z1089.toInt; omega), (by show 1 ≤ (f 53).toInt; omega), (by show (f 53).toInt ≤ z1089.toInt + 1; omega), (by show 0 ≤ (f 19).toInt; omega), (by show (f 19).toInt ≤ 600; omega), (by show 0 ≤ (f 6).toInt; omega), (by show 0 ≤ (f 8).toInt; omega)⟩
              · show 100 * ((f 0).toInt - z1089.toInt) + mg_p3 (((28 : Int), (0 : Int), (0 : Int), (0 : Int), []) :: gs) < 100 * ((f 0).toInt - (f 4).toInt) + (1 + mg_p3 gs); omega
          · refine am_e13f hi_211_175 (am_cF (m := r861.toInt) (n := (60 : Int)) rfl (by decide) c866) ?_
            refine am_e1 (v := r861) hi_211_178 rfl ?_
            refine am_e0 hi_211_179 ?_
            by_cases c1119 : r861.toInt = (3 : Int)
            · refine am_e13t hi_211_180 (am_cT (m := r861.toInt) (n := (3 : Int)) rfl (by decide) c1119) ?_
              refine am_e2 (v := 39) hi_211_197 rfl ?_
              refine am_e0 hi_211_198 ?_
              refine am_e0 hi_211_200 ?_
              refine am_e0 hi_211_201 ?_
              refine am_e0 hi_211_202 ?_
              refine am_e32n (as := [.ref 39, .int 28, .int 0, .int 0, .int 0]) (la := [some (.ref 39), some (.int 28), some (.int 0), some (.int 0), some (.int 0)]) (rest := []) hi_211_203 (am_hd0 (M := 211) (by decide) 203) (Nat.le_of_ble_eq_true rfl) (Nat.le_of_ble_eq_true rfl) (show 5 ≤ am_P0.2.2.1 179 from by decide +kernel) rfl (am_recv_ok hS863.fs) rfl rfl (ct_pile (d := (d + 5)) hS863 hR858_ (mj_e_plain (by decide)) (by show (0 : Int) ≤ (f 10).toInt; omega) (by show (f 10).toInt ≤ (65535 : Int); omega)) ?_
              rintro v1120 S1121 (⟨z1122, g'1123, hv1124, hS1125, hR1128, h1126, h1127⟩)
              subst hv1124
              have h1126_ : z1122.toInt = (f 10).toInt + 1 := h1126
              have h1127_ : ∀ j, j ∉ [11, 12, 13, 14] → g'1123 j = g'852 j := h1127
              replace hS1125 : MS S0 S1121 (upd (upd (upd (upd (upd f 4 z835) 10 z1122) 62 o816) 68 z850) 75 m818) g'1123 := hS1125
              have hR1128_ : RJ (upd (upd (upd (upd (upd f 4 z835) 10 z1122) 62 o816) 68 z850) 75 m818) g'1123 (((28 : Int), (0 : Int), (0 : Int), (0 : Int), []) :: gs) bc [] 0 (s817.toNatClampNeg :: []) := hR1128
              show am_E _ _ _ _ [some (.ref 39), some (.int r2), some (.int (f 4)), some (.int r861)] [] _ _
              refine am_e2 (v := 39) hi_211_206 rfl ?_
              refine am_e0 hi_211_207 ?_
              refine am_e32w (as := [.ref 39, .int 1]) (la := [some (.ref 39), some (.int 1), none]) (rest := []) hi_211_208 (am_hd0 (M := 211) (by decide) 208) (Nat.le_of_ble_eq_true rfl) (Nat.le_of_ble_eq_true rfl) (show 2 ≤ am_P0.2.2.1 212 from by decide +kernel) rfl (am_recv_ok hS1125.fs) rfl rfl ?_
              refine am_e2 (v := 39) hi_212_0 rfl ?_
              refine mm_20 (v := .int z835) hS1125 hi_212_1 rfl ?_
              refine am_e3 (ls' := [some (.ref 39), some (.int 1), some (.int z835)]) hi_212_4 (Nat.le_of_ble_eq_true rfl) rfl ?_
              refine am_e2 (v := 39) hi_212_5 rfl ?_
              refine am_e32n (as := [.ref 39]) (la := [some (.ref 39)]) (rest := []) hi_212_6 (am_hd0 (M := 212) (by decide) 6) (Nat.le_of_ble_eq_true rfl) (Nat.le_of_ble_eq_true rfl) (show 1 ≤ am_P0.2.2.1 183 from by decide +kernel) rfl (am_recv_ok hS1125.fs) rfl rfl (ct_next (d := (d + 3)) hS1125   (by show (0 : Int) ≤ z835.toInt; omega) (by show (f 0).toInt ≤ (16384 : Int); omega)) ?_
              rintro v1129 S1130 (⟨r1131, hv1132, hS1133, h1134⟩)
              subst hv1132
              have h1134_ : z835.toInt < (f 0).toInt ∨ r1131.toInt = (-1 : Int) := h1134
              show am_E _ _ _ _ [some (.ref 39), some (.int 1), some (.int z835)] [.int r1131] _ _
              refine am_e0 hi_212_9 ?_
              by_cases c1136 : ¬ r1131.toInt = (3 : Int)
              · refine am_e13t hi_212_10 (am_cT (m := r1131.toInt) (n := (3 : Int)) rfl (by decide) c1136) ?_
                refine am_e2 (v := 39) hi_212_52 rfl ?_
                refine am_e32n (as := [.ref 39]) (la := [some (.ref 39)]) (rest := []) hi_212_53 (am_hd0 (M := 212) (by decide) 53) (Nat.le_of_ble_eq_true rfl) (Nat.le_of_ble_eq_true rfl) (show 1 ≤ am_P0.2.2.1 183 from by decide +kernel) rfl (am_recv_ok hS1133.fs) rfl rfl (ct_next (d := (d + 3)) hS1133   (by show (0 : Int) ≤ z835.toInt; omega) (by show (f 0).toInt ≤ (16384 : Int); omega)) ?_
                rintro v1137 S1138 (⟨r1139, hv1140, hS1141, h1142⟩)
                subst hv1140
                have h1142_ : z835.toInt < (f 0).toInt ∨ r1139.toInt = (-1 : Int) := h1142
                show am_E _ _ _ _ [some (.ref 39), some (.int 1), some (.int z835)] [.int r1139] _ _
                refine am_e0 hi_212_56 ?_
                by_cases c1144 : ¬ r1139.toInt = (62 : Int)
                · refine am_e13t hi_212_58 (am_cT (m := r1139.toInt) (n := (62 : Int)) rfl (by decide) c1144) ?_
                  refine am_e2 (v := 39) hi_212_77 rfl ?_
                  refine am_e0 hi_212_78 ?_
                  refine am_e32n (as := [.ref 39, .int 60]) (la := [some (.ref 39), some (.int 60)]) (rest := []) hi_212_80 (am_hd0 (M := 212) (by decide) 80) (Nat.le_of_ble_eq_true rfl) (Nat.le_of_ble_eq_true rfl) (show 2 ≤ am_P0.2.2.1 193 from by decide +kernel) rfl (am_recv_ok hS1141.fs) rfl rfl (ct_enter (d := (d + 2)) hS1141   (by show (0 : Int) ≤ z835.toInt; omega) (by show (f 0).toInt ≤ (16384 : Int); omega) (by show (0 : Int) ≤ (60 : Int); omega) (by show (0 : Int) ≤ (f 5).toInt; omega) (by show (f 5).toInt ≤ (48 : Int); omega) (by show (0 : Int) ≤ (f 6).toInt; omega)) ?_
                  rintro v1145 S1146 (⟨z1147, y1148, hv1149, hS1150, h1151, h1152, h1153, h1154⟩ | ⟨a1156, b1157, hv1158, hS1159, h1160⟩)
                  · subst hv1149
                    have h1151_ : z1147.toInt = z835.toInt + 1 := h1151
                    have h1152_ : z835.toInt < (f 0).toInt := h1152
                    have h1153_ : y1148.toInt = (f 5).toInt + 1 := h1153
                    have h1154_ : y1148.toInt ≤ (48 : Int) := h1154
                    replace hS1150 : MS S0 S1146 (upd (upd (upd (upd (upd (upd f 4 z1147) 5 y1148) 10 z1122) 62 o816) 68 z850) 75 m818) g'1123 := hS1150
                    have hR1162 : RJ (upd (upd (upd (upd (upd (upd f 4 z1147) 5 y1148) 10 z1122) 62 o816) 68 z850) 75 m818) g'1123 (((28 : Int), (0 : Int), (0 : Int), (0 : Int), []) :: gs) bc [] 0 (s817.toNatClampNeg :: []) := RJ.at hR1128_ (by show z835.toInt ≤ z1147.toInt; omega)
                    show am_E _ _ _ _ [some (.ref 39), some (.int 1), some (.int z835)] [.int 1] _ _
                    refine am_e12f hi_212_83 (by decide) ?_
                    refine am_e2 (v := 39) hi_212_86 rfl ?_
                    refine am_e32n (as := [.ref 39]) (la := [some (.ref 39)]) (rest := []) hi_212_87 (am_hd0 (M := 212) (by decide) 87) (Nat.le_of_ble_eq_true rfl) (Nat.le_of_ble_eq_true rfl) (show 1 ≤ am_P0.2.2.1 183 from by decide +kernel) rfl (am_recv_ok hS1150.fs) rfl rfl (ct_next (d := (d + 3)) hS1150   (by show (0 : Int) ≤ z1147.toInt; omega) (by show (f 0).toInt ≤ (16384 : Int); omega)) ?_
                    rintro v1163 S1164 (⟨r1165, hv1166, hS1167, h1168⟩)
                    subst hv1166
                    have h1168_ : z1147.toInt < (f 0).toInt ∨ r1165.toInt = (-1 : Int) := h1168
                    show am_E _ _ _ _ [some (.ref 39), some (.int 1), some (.int z835)] [.int r1165] _ _
                    refine am_e0 hi_212_90 ?_
                    by_cases c1170 : ¬ r1165.toInt = (61 : Int)
                    · refine am_e13t hi_212_92 (am_cT (m := r1165.toInt) (n := (61 : Int)) rfl (by decide) c1170) ?_
                      refine am_e2 (v := 39) hi_212_112 rfl ?_
                      refine am_e0 hi_212_113 ?_
                      refine am_e1 (v := 1) hi_212_115 rfl ?_
                      refine am_e1 (v := z835) hi_212_116 rfl ?_
                      refine am_e0 hi_212_117 ?_
                      refine am_e32n (as := [.ref 39, .int 32, .int 1, .int z835, .int 0]) (la := [some (.ref 39), some (.int 32), some (.int 1), some (.int z835), some (.int 0)]) (rest := []) hi_212_118 (am_hd0 (M := 212) (by decide) 118) (Nat.le_of_ble_eq_true rfl) (Nat.le_of_ble_eq_true rfl) (show 5 ≤ am_P0.2.2.1 179 from by decide +kernel) rfl (am_recv_ok hS1167.fs) rfl rfl (ct_pile (d := (d + 4)) hS1167 hR1162 (mj_e_plain (by decide)) (by show (0 : Int) ≤ z1122.toInt; omega) (by show z1122.toInt ≤ (65535 : Int); omega)) ?_
                      rintro v1171 S1172 (⟨z1173, g'1174, hv1175, hS1176, hR1179, h1177, h1178⟩)
                      subst hv1175
                      have h1177_ : z1173.toInt = z1122.toInt + 1 := h1177
                      have h1178_ : ∀ j, j ∉ [11, 12, 13, 14] → g'1174 j = g'1123 j := h1178
                      replace hS1176 : MS S0 S1172 (upd (upd (upd (upd (upd (upd f 4 z1147) 5 y1148) 10 z1173) 62 o816) 68 z850) 75 m818) g'1174 := hS1176
                      have hR1179_ : RJ (upd (upd (upd (upd (upd (upd f 4 z1147) 5 y1148) 10 z1173) 62 o816) 68 z850) 75 m818) g'1174 (((32 : Int), (1 : Int), z835.toInt, (0 : Int), []) :: (((28 : Int), (0 : Int), (0 : Int), (0 : Int), []) :: gs)) bc [] 0 (s817.toNatClampNeg :: []) := hR1179
                      show am_E _ _ _ _ [some (.ref 39), some (.int 1), some (.int z835)] [] _ _
                      refine am_e2 (v := 39) hi_212_121 rfl ?_
                      refine am_e32w (as := [.ref 39]) (la := [some (.ref 39)]) (rest := []) hi_212_122 (am_hd0 (M := 212) (by decide) 122) (Nat.le_of_ble_eq_true rfl) (Nat.le_of_ble_eq_true rfl) (show 1 ≤ am_P0.2.2.1 214 from by decide +kernel) rfl (am_recv_ok hS1176.fs) rfl rfl ?_
                      refine am_e2 (v := 39) hi_214_0 rfl ?_
                      refine am_e0 hi_214_1 ?_
                      refine am_e0 hi_214_3 ?_
                      refine am_e0 hi_214_4 ?_
                      refine am_e0 hi_214_5 ?_
                      refine am_e32n (as := [.ref 39, .int 34, .int 1, .int 0, .int 0]) (la := [some (.ref 39), some (.int 34), some (.int 1), some (.int 0), some (.int 0)]) (rest := []) hi_214_6 (am_hd0 (M := 214) (by decide) 6) (Nat.le_of_ble_eq_true rfl) (Nat.le_of_ble_eq_true rfl) (show 5 ≤ am_P0.2.2.1 179 from by decide +kernel) rfl (am_recv_ok hS1176.fs) rfl rfl (ct_pile (d := (d + 3)) hS1176 hR1179_ (mj_e_plain (by decide)) (by show (0 : Int) ≤ z1173.toInt; omega) (by show z1173.toInt ≤ (65535 : Int); omega)) ?_
                      rintro v1180 S1181 (⟨z1182, g'1183, hv1184, hS1185, hR1188, h1186, h1187⟩)
                      subst hv1184
                      have h1186_ : z1182.toInt = z1173.toInt + 1 := h1186
                      have h1187_ : ∀ j, j ∉ [11, 12, 13, 14] → g'1183 j = g'1174 j := h1187
                      replace hS1185 : MS S0 S1181 (upd (upd (upd (upd (upd (upd f 4 z1147) 5 y1148) 10 z1182) 62 o816) 68 z850) 75 m818) g'1183 := hS1185
                      have hR1188_ : RJ (upd (upd (upd (upd (upd (upd f 4 z1147) 5 y1148) 10 z1182) 62 o816) 68 z850) 75 m818) g'1183 (((34 : Int), (1 : Int), (0 : Int), (0 : Int), []) :: (((32 : Int), (1 : Int), z835.toInt, (0 : Int), []) :: (((28 : Int), (0 : Int), (0 : Int), (0 : Int), []) :: gs))) bc [] 0 (s817.toNatClampNeg :: []) := hR1188
                      show am_E _ _ _ _ [some (.ref 39)] [] _ _
                      refine am_e2 (v := 39) hi_214_9 rfl ?_
                      refine am_e0 hi_214_10 ?_
                      refine am_e32w (as := [.ref 39, .int 0]) (la := [some (.ref 39), some (.int 0)]) (rest := []) hi_214_11 (am_hd0 (M := 214) (by decide) 11) (Nat.le_of_ble_eq_true rfl) (Nat.le_of_ble_eq_true rfl) (show 2 ≤ am_P0.2.2.1 186 from by decide +kernel) rfl (am_recv_ok hS1185.fs) rfl rfl ?_
                      refine am_e2 (v := 39) hi_186_0 rfl ?_
                      refine am_e0 hi_186_1 ?_
                      refine am_e1 (v := 0) hi_186_3 rfl ?_
                      refine am_e0 hi_186_4 ?_
                      refine am_e0 hi_186_5 ?_
                      refine am_e32n (as := [.ref 39, .int 23, .int 0, .int 0, .int 0]) (la := [some (.ref 39), some (.int 23), some (.int 0), some (.int 0), some (.int 0)]) (rest := []) hi_186_6 (am_hd0 (M := 186) (by decide) 6) (Nat.le_of_ble_eq_true rfl) (Nat.le_of_ble_eq_true rfl) (show 5 ≤ am_P0.2.2.1 179 from by decide +kernel) rfl (am_recv_ok hS1185.fs) rfl rfl (ct_pile (d := (d + 2)) hS1185 hR1188_ (mj_e_plain (by decide)) (by show (0 : Int) ≤ z1182.toInt; omega) (by show z1182.toInt ≤ (65535 : Int); omega)) ?_
                      rintro v1189 S1190 (⟨z1191, g'1192, hv1193, hS1194, hR1197, h1195, h1196⟩)
                      subst hv1193
                      have h1195_ : z1191.toInt = z1182.toInt + 1 := h1195
                      have h1196_ : ∀ j, j ∉ [11, 12, 13, 14] → g'1192 j = g'1183 j := h1196
                      replace hS1194 : MS S0 S1190 (upd (upd (upd (upd (upd (upd f 4 z1147) 5 y1148) 10 z1191) 62 o816) 68 z850) 75 m818) g'1192 := hS1194
                      have hR1197_ : RJ (upd (upd (upd (upd (upd (upd f 4 z1147) 5 y1148) 10 z1191) 62 o816) 68 z850) 75 m818) g'1192 (((23 : Int), (0 : Int), (0 : Int), (0 : Int), []) :: (((34 : Int), (1 : Int), (0 : Int), (0 : Int), []) :: (((32 : Int), (1 : Int), z835.toInt, (0 : Int), []) :: (((28 : Int), (0 : Int), (0 : Int), (0 : Int), []) :: gs)))) bc [] 0 (s817.toNatClampNeg :: []) := hR1197
                      show am_E _ _ _ _ [some (.ref 39), some (.int 0)] [] _ _
                      refine am_e35 hi_186_9 ?_
                      show am_E _ _ _ _ [some (.ref 39)] [] _ _
                      refine am_e35 hi_214_14 ?_
                      show am_E _ _ _ _ [some (.ref 39), some (.int 1), some (.int z835)] [] _ _
                      refine am_e35 hi_212_125 ?_
                      show am_E _ _ _ _ [some (.ref 39), some (.int r2), some (.int (f 4)), some (.int r861)] [] _ _
                      refine am_e18 hi_211_211 ?_
                      refine am_e35 hi_211_249 ?_
                      show am_E _ _ _ _ [some (.ref 39), some (.int 28), some (.int on), some (.int tw)] [] _ _
                      refine am_e18 hi_181_180 ?_
                      refine am_e35 hi_181_397 ?_
                      show am_E _ _ _ _ [some (.ref 39), some (.int 28), some (.int on), some (.int tw), some (.int th)] [] _ _
                      refine am_e35 hi_180_13 ?_
                      have q1 : mg_p1 (((23 : Int), (0 : Int), (0 : Int), (0 : Int), []) :: (((34 : Int), (1 : Int), (0 : Int), (0 : Int), []) :: (((32 : Int), (1 : Int), z835.toInt, (0 : Int), []) :: (((28 : Int), (0 : Int), (0 : Int), (0 : Int), []) :: gs)))) = 0 + (0 + (0 + (0 + (mg_p1 gs)))) := rfl
                      have q2 : mg_p2 (((23 : Int), (0 : Int), (0 : Int), (0 : Int), []) :: (((34 : Int), (1 : Int), (0 : Int), (0 : Int), []) :: (((32 : Int), (1 : Int), z835.toInt, (0 : Int), []) :: (((28 : Int), (0 : Int), (0 : Int), (0 : Int), []) :: gs)))) = 0 + (((1 : Int) - 1) + (0 + (0 + (mg_p2 gs)))) := rfl
                      have q3 : mg_p3 (((23 : Int), (0 : Int), (0 : Int), (0 : Int), []) :: (((34 : Int), (1 : Int), (0 : Int), (0 : Int), []) :: (((32 : Int), (1 : Int), z835.toInt, (0 : Int), []) :: (((28 : Int), (0 : Int), (0 : Int), (0 : Int), []) :: gs)))) = 1 + (1 + (1 + (1 + (mg_p3 gs)))) := rfl
                      have q4 : mg_p4 (((23 : Int), (0 : Int), (0 : Int), (0 : Int), []) :: (((34 : Int), (1 : Int), (0 : Int), (0 : Int), []) :: (((32 : Int), (1 : Int), z835.toInt, (0 : Int), []) :: (((28 : Int), (0 : Int), (0 : Int), (0 : Int), []) :: gs)))) = 0 + (0 + (0 + (0 + (mg_p4 gs)))) := rfl
                      refine ⟨_, _, _, bc, rfl, hS1194, Or.inl ⟨⟨(RJ.fewer (pj' := []) hR1197_ (fun _ h => nomatch h)), ?_, ?_⟩, rfl, ?_⟩⟩
                      · exact (⟨⟨(show mg_k 23 from by decide), (show (0 : Int) ≤ (f 15).toInt from by omega), (show 0 ≤ (f 20).toInt from by omega), (show 1 ≤ (f 37).toInt from by omega), (show 0 ≤ (f 32).toInt from by omega), (show (f 32).toInt ≤ y1148.toInt from by omega), (show y1148.toInt ≤ 48 from by omega), (show (f 37).toInt ≤ 2 * (y1148.toInt) + 2 from by omega), (show 0 ≤ (0 : Int) from by omega)⟩, ⟨⟨(show mg_k 34 from by decide), (show (1 : Int) ≤ (f 15).toInt + 1 from by omega), (show 0 ≤ (f 20).toInt from by omega), (show 1 ≤ (f 37).toInt + 0 from by omega), (show 0 ≤ (f 32).toInt + 0 from by omega), (show (f 32).toInt + 0 ≤ y1148.toInt + 0 from by omega), (show y1148.toInt + 0 ≤ 48 from by omega), (show (f 37).toInt + 0 ≤ 2 * (y1148.toInt + 0) + 2 from by omega), (show 1 ≤ (1 : Int) from by omega)⟩, ⟨⟨(show mg_k 32 from by decide), (show (2 : Int) ≤ (f 15).toInt + 1 + 0 from by omega), (show 0 ≤ (f 20).toInt from by omega), (show 1 ≤ (f 37).toInt + 0 + 0 from by omega), (show 0 ≤ (f 32).toInt + 0 + 0 from by omega), (show (f 32).toInt + 0 + 0 ≤ y1148.toInt + 0 + 0 from by omega), (show y1148.toInt + 0 + 0 ≤ 48 from by omega), (show (f 37).toInt + 0 + 0 ≤ 2 * (y1148.toInt + 0 + 0) + 2 from by omega), trivial⟩, ⟨⟨(show mg_k 28 from by decide), (show (1 : Int) ≤ (f 15).toInt + 1 + 0 + -1 from by omega), (show 0 ≤ (f 20).toInt from by omega), (show 1 ≤ (f 37).toInt + 0 + 0 + 0 from by omega), (show 0 ≤ (f 32).toInt + 0 + 0 + 0 from by omega), (show (f 32).toInt + 0 + 0 + 0 ≤ y1148.toInt + 0 + 0 + -1 from by omega), (show y1148.toInt + 0 + 0 + -1 ≤ 48 from by omega), (show (f 37).toInt + 0 + 0 + 0 ≤ 2 * (y1148.toInt + 0 + 0 + -1) + 2 from by omega), trivial⟩, mg_cast (mg_good_ext _ _ _ _ _ _ (fun i _ => by show g'1192 34 i = g 34 i; rw [show g'1192 34 = g'1183 34 from h1196_ 34 (by decide), show g'1183 34 = g'1174 34 from h1187_ 34 (by decide), show g'1174 34 = g'1123 34 from h1178_ 34 (by decide), show g'1123 34 = g'852 34 from h1127_ 34 (by decide), show g'852 34 = g'819 34 from h857_ 34 (by decide), show g'819 34 = g 34 from h827_ 34 (by decide)]) (fun i _ => by show g'1192 38 i = g 38 i; rw [show g'1192 38 = g'1183 38 from h1196_ 38 (by decide), show g'1183 38 = g'1174 38 from h1187_ 38 (by decide), show g'1174 38 = g'1123 38 from h1178_ 38 (by decide), show g'1123 38 = g'852 38 from h1127_ 38 (by decide), show g'852 38 = g'819 38 from h857_ 38 (by decide), show g'819 38 = g 38 from h827_ 38 (by decide)]) (fun i _ => by show g'1192 23 i = g 23 i; rw [show g'1192 23 = g'1183 23 from h1196_ 23 (by decide), show g'1183 23 = g'1174 23 from h1187_ 23 (by decide), show g'1174 23 = g'1123 23 from h1178_ 23 (by decide), show g'1123 23 = g'852 23 from h1127_ 23 (by decide), show g'852 23 = g'819 23 from h857_ 23 (by decide), show g'819 23 = g 23 from h827_ 23 (by decide)]) hrest) (by show (f 15).toInt + 0 = (f 15).toInt + 1 + 0 + -1 + 0; omega) (by show (f 20).toInt = (f 20).toInt; omega) (by show (f 37).toInt + 0 = (f 37).toInt + 0 + 0 + 0 + 0; omega) (by show (f 32).toInt + 0 = (f 32).toInt + 0 + 0 + 0 + 0; omega) (by show (f 5).toInt + 0 = y1148.toInt + 0 + 0 + -1 + 0; omega)⟩⟩⟩⟩ : mg_good (g'1192 34) (g'1192 38) (g'1192 23) (((23 : Int), (0 : Int), (0 : Int), (0 : Int), []) :: (((34 : Int), (1 : Int), (0 : Int), (0 : Int), []) :: (((32 : Int), (1 : Int), z835.toInt, (0 : Int), []) :: (((28 : Int), (0 : Int), (0 : Int), (0 : Int), []) :: gs)))) ((f 15).toInt) ((f 20).toInt) ((f 37).toInt) ((f 32).toInt) (y1148.toInt))
                      · exact ⟨(by show 0 ≤ z1147.toInt; omega), (by show z1147.toInt ≤ (f 0).toInt; omega), (by show (f 0).toInt ≤ 512; omega), (by show 0 ≤ (f 24).toInt; omega), (by show (f 24).toInt + (f 20).toInt + mg_p1 (((23 : Int), (0 : Int), (0 : Int), (0 : Int), []) :: (((34 : Int), (1 : Int), (0 : Int), (0 : Int), []) :: (((32 : Int), (1 : Int), z835.toInt, (0 : Int), []) :: (((28 : Int), (0 : Int), (0 : Int), (0 : Int), []) :: gs)))) ≤ 4 * z1147.toInt; omega), (by show (f 20).toInt ≤ z1147.toInt; omega), (by show (f 15).toInt + mg_p2 (((23 : Int), (0 : Int), (0 : Int), (0 : Int), []) :: (((34 : Int), (1 : Int), (0 : Int), (0 : Int), []) :: (((32 : Int), (1 : Int), z835.toInt, (0 : Int), []) :: (((28 : Int), (0 : Int), (0 : Int), (0 : Int), []) :: gs)))) ≤ z1147.toInt; omega), (by show mg_p3 (((23 : Int), (0 : Int), (0 : Int), (0 : Int), []) :: (((34 : Int), (1 : Int), (0 : Int), (0 : Int), []) :: (((32 : Int), (1 : Int), z835.toInt, (0 : Int), []) :: (((28 : Int), (0 : Int), (0 : Int), (0 : Int), []) :: gs)))) ≤ 20 * z1147.toInt + 20; omega), (by show 0 ≤ z850.toInt; omega), (by show z850.toInt + 3 * (f 20).toInt + mg_p4 (((23 : Int), (0 : Int), (0 : Int), (0 : Int), []) :: (((34 : Int), (1 : Int), (0 : Int), (0 : Int), []) :: (((32 : Int), (1 : Int), z835.toInt, (0 : Int), []) :: (((28 : Int), (0 : Int), (0 : Int), (0 : Int), []) :: gs)))) ≤ 60 * z1147.toInt + 60; omega), (by show 0 ≤ o816.toInt; omega), (by show o816.toInt + 64 * mj_n (g'1192 16) (f 15).toNatClampNeg 3 ≤ 64 * z1147.toInt; rw [show g'1192 16 = g'1183 16 from h1196_ 16 (by decide), show g'1183 16 = g'1174 16 from h1187_ 16 (by decide), show g'1174 16 = g'1123 16 from h1178_ 16 (by decide), show g'1123 16 = g'852 16 from h1127_ 16 (by decide), show g'852 16 = g'819 16 from h857_ 16 (by decide)]; omega), (by show 0 ≤ (f 44).toInt; omega), (by show (f 44).toInt ≤ z1147.toInt; omega), (by show 0 ≤ (f 48).toInt; omega), (by show (f 48).toInt ≤ z1147.toInt; omega), (by show 1 ≤ (f 53).toInt; omega), (by show (f 53).toInt ≤ z1147.toInt + 1; omega), (by show 0 ≤ (f 19).toInt; omega), (by show (f 19).toInt ≤ 600; omega), (by show 0 ≤ (f 6).toInt; omega), (by show 0 ≤ (f 8).toInt; omega)⟩
                      · show 100 * ((f 0).toInt - z1147.toInt) + mg_p3 (((23 : Int), (0 : Int), (0 : Int), (0 : Int), []) :: (((34 : Int), (1 : Int), (0 : Int), (0 : Int), []) :: (((32 : Int), (1 : Int), z835.toInt, (0 : Int), []) :: (((28 : Int), (0 : Int), (0 : Int), (0 : Int), []) :: gs)))) < 100 * ((f 0).toInt - (f 4).toInt) + (1 + mg_p3 gs); omega
                    · refine am_e13f hi_212_92 (am_cF (m := r1165.toInt) (n := (61 : Int)) rfl (by decide) c1170) ?_
                      refine am_e2 (v := 39) hi_212_95 rfl ?_
                      refine am_e0 hi_212_96 ?_
                      refine am_e32n (as := [.ref 39, .int 61]) (la := [some (.ref 39), some (.int 61)]) (rest := []) hi_212_98 (am_hd0 (M := 212) (by decide) 98) (Nat.le_of_ble_eq_true rfl) (Nat.le_of_ble_eq_true rfl) (show 2 ≤ am_P0.2.2.1 199 from by decide +kernel) rfl (am_recv_ok hS1167.fs) rfl rfl (ct_leave (d := (d + 1)) hS1167   (by show (0 : Int) ≤ z1147.toInt; omega) (by show (f 0).toInt ≤ (16384 : Int); omega) (by show (0 : Int) ≤ (61 : Int); omega) (by show (0 : Int) ≤ y1148.toInt; omega) (by show y1148.toInt ≤ (48 : Int); omega) (by show (0 : Int) ≤ (f 6).toInt; omega)) ?_
                      rintro v1198 S1199 (⟨z1200, y1201, hv1202, hS1203, h1204, h1205, h1206⟩ | ⟨a1208, b1209, hv1210, hS1211, h1212⟩)
                      · subst hv1202
                        have h1204_ : z1200.toInt = z1147.toInt + 1 := h1204
                        have h1205_ : z1147.toInt < (f 0).toInt := h1205
                        have h1206_ : y1201.toInt = y1148.toInt - 1 := h1206
                        replace hS1203 : MS S0 S1199 (upd (upd (upd (upd (upd (upd f 4 z1200) 5 y1201) 10 z1122) 62 o816) 68 z850) 75 m818) g'1123 := hS1203
                        have hR1214 : RJ (upd (upd (upd (upd (upd (upd f 4 z1200) 5 y1201) 10 z1122) 62 o816) 68 z850) 75 m818) g'1123 (((28 : Int), (0 : Int), (0 : Int), (0 : Int), []) :: gs) bc [] 0 (s817.toNatClampNeg :: []) := RJ.at hR1162 (by show z1147.toInt ≤ z1200.toInt; omega)
                        show am_E _ _ _ _ [some (.ref 39), some (.int 1), some (.int z835)] [.int 1] _ _
                        refine am_e6i hi_212_101 ?_
                        refine am_e2 (v := 39) hi_212_102 rfl ?_
                        refine am_e1 (v := 1) hi_212_103 rfl ?_
                        refine am_e0 hi_212_104 ?_
                        refine am_e1 (v := z835) hi_212_105 rfl ?_
                        refine am_e32w (as := [.ref 39, .int 1, .int 0, .int z835]) (la := [some (.ref 39), some (.int 1), some (.int 0), some (.int z835), none]) (rest := []) hi_212_106 (am_hd0 (M := 212) (by decide) 106) (Nat.le_of_ble_eq_true rfl) (Nat.le_of_ble_eq_true rfl) (show 4 ≤ am_P0.2.2.1 213 from by decide +kernel) rfl (am_recv_ok hS1203.fs) rfl rfl ?_
                        refine am_e2 (v := 39) hi_213_0 rfl ?_
                        refine am_e0 hi_213_1 ?_
                        refine am_e1 (v := 1) hi_213_3 rfl ?_
                        refine am_e1 (v := 0) hi_213_4 rfl ?_
                        refine am_e0 hi_213_5 ?_
                        refine am_e10 (z := 2) hi_213_6 (by decide) ?_
                        refine am_e1 (v := z835) hi_213_7 rfl ?_
                        refine am_e32n (as := [.ref 39, .int 13, .int 1, .int 2, .int z835]) (la := [some (.ref 39), some (.int 13), some (.int 1), some (.int 2), some (.int z835)]) (rest := []) hi_213_8 (am_hd0 (M := 213) (by decide) 8) (Nat.le_of_ble_eq_true rfl) (Nat.le_of_ble_eq_true rfl) (show 5 ≤ am_P0.2.2.1 189 from by decide +kernel) rfl (am_recv_ok hS1203.fs) rfl rfl (ct_put (d := (d + 3)) hS1203 hR1214  (by show (0 : Int) ≤ (f 32).toInt; omega) (by show (f 32).toInt ≤ (63 : Int); omega) (by show (f 53).toInt ≤ (4096 : Int); omega) (by show (0 : Int) ≤ z850.toInt; omega) (by show z850.toInt ≤ (65534 : Int); omega)) ?_
                        rintro v1215 S1216 (⟨z1217, r1218, g'1219, hv1220, hS1221, hR1225, h1222, h1223, h1224⟩)
                        subst hv1220
                        have h1222_ : z1217.toInt = z850.toInt + 1 := h1222
                        have h1223_ : r1218.toInt = z850.toInt := h1223
                        have h1224_ : ∀ j, j ∉ [60, 69, 70, 71, 72, 73] → g'1219 j = g'1123 j := h1224
                        replace hS1221 : MS S0 S1216 (upd (upd (upd (upd (upd (upd f 4 z1200) 5 y1201) 10 z1122) 62 o816) 68 z1217) 75 m818) g'1219 := hS1221
                        have hR1225_ : RJ (upd (upd (upd (upd (upd (upd f 4 z1200) 5 y1201) 10 z1122) 62 o816) 68 z1217) 75 m818) g'1219 (((28 : Int), (0 : Int), (0 : Int), (0 : Int), []) :: gs) bc [] 0 (z850.toNatClampNeg :: (s817.toNatClampNeg :: [])) := hR1225
                        show am_E _ _ _ _ [some (.ref 39), some (.int 1), some (.int 0), some (.int z835), none] [.int r1218] _ _
                        refine am_e3 (ls' := [some (.ref 39), some (.int 1), some (.int 0), some (.int z835), some (.int r1218)]) hi_213_11 (Nat.le_of_ble_eq_true rfl) rfl ?_
                        refine am_e2 (v := 39) hi_213_13 rfl ?_
                        refine am_e7 hi_213_14 ?_
                        refine mm_20 (v := .int (f 15)) hS1221 hi_213_15 rfl ?_
                        refine am_e0 hi_213_18 ?_
                        obtain ⟨z1226, hz1226, tz1226⟩ := am_subI (x := f 15) (y := 1) (m := (f 15).toInt) (n := (1 : Int)) rfl (by decide) (by omega) (by omega)
                        refine am_e10 (z := z1226) hi_213_19 hz1226 ?_
                        refine mm_21 (v := z1226) hS1221 hi_213_20 rfl (Nat.le_of_ble_eq_true rfl) ms_15 ?_
                        intro S1227 hS1228
                        replace hS1228 : MS S0 S1227 (upd (upd (upd (upd (upd (upd (upd f 4 z1200) 5 y1201) 10 z1122) 15 z1226) 62 o816) 68 z1217) 75 m818) g'1219 := hS1228
                        have hp1229 : mj_n (g'819 16) (f 15).toNatClampNeg 3 = mj_n (g'819 16) z1226.toNatClampNeg 3 + if (g'819 16 z1226.toNatClampNeg).toInt = 3 then 1 else 0 := mj_pop (by rw [cl_toNat, cl_toNat]; omega)
                        have hp12291 : mj_n (g'819 16) z1226.toNatClampNeg 3 ≤ mj_n (g'819 16) (f 15).toNatClampNeg 3 := by rw [hp1229]; split <;> omega
                        have hp12292 : (g'819 16 z1226.toNatClampNeg).toInt = 3 → mj_n (g'819 16) z1226.toNatClampNeg 3 + 1 ≤ mj_n (g'819 16) (f 15).toNatClampNeg 3 := fun q => by rw [hp1229, if_pos q]; exact Int.le_refl _
                        refine am_e2 (v := 39) hi_213_23 rfl ?_
                        refine am_e0 hi_213_24 ?_
                        refine am_e1 (v := r1218) hi_213_25 rfl ?_
                        refine am_e1 (v := z835) hi_213_27 rfl ?_
                        refine am_e32n (as := [.ref 39, .int 1, .int r1218, .int z835]) (la := [some (.ref 39), some (.int 1), some (.int r1218), some (.int z835)]) (rest := []) hi_213_28 (am_hd0 (M := 213) (by decide) 28) (Nat.le_of_ble_eq_true rfl) (Nat.le_of_ble_eq_true rfl) (show 4 ≤ am_P0.2.2.1 190 from by decide +kernel) rfl (am_recv_ok hS1228.fs) rfl rfl (ct_value (d := (d + 3)) hS1228 hR1225_ (fun h => absurd h (by decide)) (fun _ => ⟨by omega, by omega⟩) (by show (0 : Int) ≤ z1226.toInt; omega) (by show z1226.toInt ≤ (32767 : Int); omega)) ?_
                        rintro v1230 S1231 (⟨z1232, g'1233, hv1234, hS1235, hR1240, h1236, h1237, h1238, h1239⟩)
                        subst hv1234
                        have h1236_ : z1232.toInt = z1226.toInt + 1 := h1236
                        have h1237_ : ∀ j, j ∉ [16, 17, 18] → g'1233 j = g'1219 j := h1237
                        have h1238_ : mj_n (g'1233 16) z1232.toNatClampNeg 3 ≤ mj_n (g'819 16) z1226.toNatClampNeg 3 + 1 := by rw [show g'1219 16 = g'1123 16 from h1224_ 16 (by decide), show g'1123 16 = g'852 16 from h1127_ 16 (by decide), show g'852 16 = g'819 16 from h857_ 16 (by decide)] at h1238; exact h1238
                        have h1239_ : (1 : Int) = 3 ∨ mj_n (g'1233 16) z1232.toNatClampNeg 3 ≤ mj_n (g'819 16) z1226.toNatClampNeg 3 := by rw [show g'1219 16 = g'1123 16 from h1224_ 16 (by decide), show g'1123 16 = g'852 16 from h1127_ 16 (by decide), show g'852 16 = g'819 16 from h857_ 16 (by decide)] at h1239; exact h1239
                        replace hS1235 : MS S0 S1231 (upd (upd (upd (upd (upd (upd (upd f 4 z1200) 5 y1201) 10 z1122) 15 z1232) 62 o816) 68 z1217) 75 m818) g'1233 := hS1235
                        have hR1240_ : RJ (upd (upd (upd (upd (upd (upd (upd f 4 z1200) 5 y1201) 10 z1122) 15 z1232) 62 o816) 68 z1217) 75 m818) g'1233 (((28 : Int), (0 : Int), (0 : Int), (0 : Int), []) :: gs) bc [] 0 (z850.toNatClampNeg :: (s817.toNatClampNeg :: [])) := hR1240
                        show am_E _ _ _ _ [some (.ref 39), some (.int 1), some (.int 0), some (.int z835), some (.int r1218)] [] _ _
                        refine am_e35 hi_213_31 ?_
                        show am_E _ _ _ _ [some (.ref 39), some (.int 1), some (.int z835)] [] _ _
                        refine am_e18 hi_212_109 ?_
                        refine am_e35 hi_212_125 ?_
                        show am_E _ _ _ _ [some (.ref 39), some (.int r2), some (.int (f 4)), some (.int r861)] [] _ _
                        refine am_e18 hi_211_211 ?_
                        refine am_e35 hi_211_249 ?_
                        show am_E _ _ _ _ [some (.ref 39), some (.int 28), some (.int on), some (.int tw)] [] _ _
                        refine am_e18 hi_181_180 ?_
                        refine am_e35 hi_181_397 ?_
                        show am_E _ _ _ _ [some (.ref 39), some (.int 28), some (.int on), some (.int tw), some (.int th)] [] _ _
                        refine am_e35 hi_180_13 ?_
                        have q1 : mg_p1 (((28 : Int), (0 : Int), (0 : Int), (0 : Int), []) :: gs) = 0 + (mg_p1 gs) := rfl
                        have q2 : mg_p2 (((28 : Int), (0 : Int), (0 : Int), (0 : Int), []) :: gs) = 0 + (mg_p2 gs) := rfl
                        have q3 : mg_p3 (((28 : Int), (0 : Int), (0 : Int), (0 : Int), []) :: gs) = 1 + (mg_p3 gs) := rfl
                        have q4 : mg_p4 (((28 : Int), (0 : Int), (0 : Int), (0 : Int), []) :: gs) = 0 + (mg_p4 gs) := rfl
                        refine ⟨_, _, _, bc, rfl, hS1235, Or.inl ⟨⟨(RJ.fewer (pj' := []) hR1240_ (fun _ h => nomatch h)), ?_, ?_⟩, rfl, ?_⟩⟩
                        · exact (⟨⟨(show mg_k 28 from by decide), (show (1 : Int) ≤ z1232.toInt from by omega), (show 0 ≤ (f 20).toInt from by omega), (show 1 ≤ (f 37).toInt from by omega), (show 0 ≤ (f 32).toInt from by omega), (show (f 32).toInt ≤ y1201.toInt from by omega), (show y1201.toInt ≤ 48 from by omega), (show (f 37).toInt ≤ 2 * (y1201.toInt) + 2 from by omega), trivial⟩, mg_cast (mg_good_ext _ _ _ _ _ _ (fun i _ => by show g'1233 34 i = g 34 i; rw [show g'1233 34 = g'1219 34 from h1237_ 34 (by decide), show g'1219 34 = g'1123 34 from h1224_ 34 (by decide), show g'1123 34 = g'852 34 from h1127_ 34 (by decide), show g'852 34 = g'819 34 from h857_ 34 (by decide), show g'819 34 = g 34 from h827_ 34 (by decide)]) (fun i _ => by show g'1233 38 i = g 38 i; rw [show g'1233 38 = g'1219 38 from h1237_ 38 (by decide), show g'1219 38 = g'1123 38 from h1224_ 38 (by decide), show g'1123 38 = g'852 38 from h1127_ 38 (by decide), show g'852 38 = g'819 38 from h857_ 38 (by decide), show g'819 38 = g 38 from h827_ 38 (by decide)]) (fun i _ => by show g'1233 23 i = g 23 i; rw [show g'1233 23 = g'1219 23 from h1237_ 23 (by decide), show g'1219 23 = g'1123 23 from h1224_ 23 (by decide), show g'1123 23 = g'852 23 from h1127_ 23 (by decide), show g'852 23 = g'819 23 from h857_ 23 (by decide), show g'819 23 = g 23 from h827_ 23 (by decide)]) hrest) (by show (f 15).toInt + 0 = z1232.toInt + 0; omega) (by show (f 20).toInt = (f 20).toInt; omega) (by show (f 37).toInt + 0 = (f 37).toInt + 0; omega) (by show (f 32).toInt + 0 = (f 32).toInt + 0; omega) (by show (f 5).toInt + 0 = y1201.toInt + 0; omega)⟩ : mg_good (g'1233 34) (g'1233 38) (g'1233 23) (((28 : Int), (0 : Int), (0 : Int), (0 : Int), []) :: gs) (z1232.toInt) ((f 20).toInt) ((f 37).toInt) ((f 32).toInt) (y1201.toInt))
                        · exact ⟨(by show 0 ≤ z1200.toInt; omega), (by show z1200.toInt ≤ (f 0).toInt; omega), (by show (f 0).toInt ≤ 512; omega), (by show 0 ≤ (f 24).toInt; omega), (by show (f 24).toInt + (f 20).toInt + mg_p1 (((28 : Int), (0 : Int), (0 : Int), (0 : Int), []) :: gs) ≤ 4 * z1200.toInt; omega), (by show (f 20).toInt ≤ z1200.toInt; omega), (by show z1232.toInt + mg_p2 (((28 : Int), (0 : Int), (0 : Int), (0 : Int), []) :: gs) ≤ z1200.toInt; omega), (by show mg_p3 (((28 : Int), (0 : Int), (0 : Int), (0 : Int), []) :: gs) ≤ 20 * z1200.toInt + 20; omega), (by show 0 ≤ z1217.toInt; omega), (by show z1217.toInt + 3 * (f 20).toInt + mg_p4 (((28 : Int), (0 : Int), (0 : Int), (0 : Int), []) :: gs) ≤ 60 * z1200.toInt + 60; omega), (by show 0 ≤ o816.toInt; omega), (by show o816.toInt + 64 * mj_n (g'1233 16) z1232.toNatClampNeg 3 ≤ 64 * z1200.toInt; omega), (by show 0 ≤ (f 44).toInt; omega), (by show (f 44).toInt ≤ z1200.toInt; omega), (by show 0 ≤ (f 48).toInt; omega), (by show (f 48).toInt ≤ z1200.toInt; omega), (by show 1 ≤ (f 53).toInt; omega), (by show (f 53).toInt ≤ z1200.toInt + 1; omega), (by show 0 ≤ (f 19).toInt; omega), (by show (f 19).toInt ≤ 600; omega), (by show 0 ≤ (f 6).toInt; omega), (by show 0 ≤ (f 8).toInt; omega)⟩
                        · show 100 * ((f 0).toInt - z1200.toInt) + mg_p3 (((28 : Int), (0 : Int), (0 : Int), (0 : Int), []) :: gs) < 100 * ((f 0).toInt - (f 4).toInt) + (1 + mg_p3 gs); omega
                      · subst hv1210
                        have h1212_ : (0 : Int) ≤ a1208.toInt := h1212
                        replace hS1211 : MS S0 S1199 (upd (upd (upd (upd (upd (upd (upd (upd f 4 z1147) 5 y1148) 6 a1208) 7 b1209) 10 0) 62 o816) 68 z850) 75 m818) g'1123 := hS1211
                        have hR1241 := rj_clear0 hR1162
                        have hR1242 : RJ (upd (upd (upd (upd (upd (upd (upd (upd f 4 z1147) 5 y1148) 6 a1208) 7 b1209) 10 0) 62 o816) 68 z850) 75 m818) g'1123 [] bc [] 0 [] := hR1241
                        show am_E _ _ _ _ [some (.ref 39), some (.int 1), some (.int z835)] [.int 0] _ _
                        refine am_e6i hi_212_101 ?_
                        refine am_e2 (v := 39) hi_212_102 rfl ?_
                        refine am_e1 (v := 1) hi_212_103 rfl ?_
                        refine am_e0 hi_212_104 ?_
                        refine am_e1 (v := z835) hi_212_105 rfl ?_
                        refine am_e32w (as := [.ref 39, .int 1, .int 0, .int z835]) (la := [some (.ref 39), some (.int 1), some (.int 0), some (.int z835), none]) (rest := []) hi_212_106 (am_hd0 (M := 212) (by decide) 106) (Nat.le_of_ble_eq_true rfl) (Nat.le_of_ble_eq_true rfl) (show 4 ≤ am_P0.2.2.1 213 from by decide +kernel) rfl (am_recv_ok hS1211.fs) rfl rfl ?_
                        refine am_e2 (v := 39) hi_213_0 rfl ?_
                        refine am_e0 hi_213_1 ?_
                        refine am_e1 (v := 1) hi_213_3 rfl ?_
                        refine am_e1 (v := 0) hi_213_4 rfl ?_
                        refine am_e0 hi_213_5 ?_
                        refine am_e10 (z := 2) hi_213_6 (by decide) ?_
                        refine am_e1 (v := z835) hi_213_7 rfl ?_
                        refine am_e32n (as := [.ref 39, .int 13, .int 1, .int 2, .int z835]) (la := [some (.ref 39), some (.int 13), some (.int 1), some (.int 2), some (.int z835)]) (rest := []) hi_213_8 (am_hd0 (M := 213) (by decide) 8) (Nat.le_of_ble_eq_true rfl) (Nat.le_of_ble_eq_true rfl) (show 5 ≤ am_P0.2.2.1 189 from by decide +kernel) rfl (am_recv_ok hS1211.fs) rfl rfl (ct_put (d := (d + 3)) hS1211 hR1242  (by show (0 : Int) ≤ (f 32).toInt; omega) (by show (f 32).toInt ≤ (63 : Int); omega) (by show (f 53).toInt ≤ (4096 : Int); omega) (by show (0 : Int) ≤ z850.toInt; omega) (by show z850.toInt ≤ (65534 : Int); omega)) ?_
                        rintro v1243 S1244 (⟨z1245, r1246, g'1247, hv1248, hS1249, hR1253, h1250, h1251, h1252⟩)
                        subst hv1248
                        have h1250_ : z1245.toInt = z850.toInt + 1 := h1250
                        have h1251_ : r1246.toInt = z850.toInt := h1251
                        have h1252_ : ∀ j, j ∉ [60, 69, 70, 71, 72, 73] → g'1247 j = g'1123 j := h1252
                        replace hS1249 : MS S0 S1244 (upd (upd (upd (upd (upd (upd (upd (upd f 4 z1147) 5 y1148) 6 a1208) 7 b1209) 10 0) 62 o816) 68 z1245) 75 m818) g'1247 := hS1249
                        have hR1253_ : RJ (upd (upd (upd (upd (upd (upd (upd (upd f 4 z1147) 5 y1148) 6 a1208) 7 b1209) 10 0) 62 o816) 68 z1245) 75 m818) g'1247 [] bc [] 0 (z850.toNatClampNeg :: []) := hR1253
                        show am_E _ _ _ _ [some (.ref 39), some (.int 1), some (.int 0), some (.int z835), none] [.int r1246] _ _
                        refine am_e3 (ls' := [some (.ref 39), some (.int 1), some (.int 0), some (.int z835), some (.int r1246)]) hi_213_11 (Nat.le_of_ble_eq_true rfl) rfl ?_
                        refine am_e2 (v := 39) hi_213_13 rfl ?_
                        refine am_e7 hi_213_14 ?_
                        refine mm_20 (v := .int (f 15)) hS1249 hi_213_15 rfl ?_
                        refine am_e0 hi_213_18 ?_
                        obtain ⟨z1254, hz1254, tz1254⟩ := am_subI (x := f 15) (y := 1) (m := (f 15).toInt) (n := (1 : Int)) rfl (by decide) (by omega) (by omega)
                        refine am_e10 (z := z1254) hi_213_19 hz1254 ?_
                        refine mm_21 (v := z1254) hS1249 hi_213_20 rfl (Nat.le_of_ble_eq_true rfl) ms_15 ?_
                        intro S1255 hS1256
                        replace hS1256 : MS S0 S1255 (upd (upd (upd (upd (upd (upd (upd (upd (upd f 4 z1147) 5 y1148) 6 a1208) 7 b1209) 10 0) 15 z1254) 62 o816) 68 z1245) 75 m818) g'1247 := hS1256
                        have hp1257 : mj_n (g'819 16) (f 15).toNatClampNeg 3 = mj_n (g'819 16) z1254.toNatClampNeg 3 + if (g'819 16 z1254.toNatClampNeg).toInt = 3 then 1 else 0 := mj_pop (by rw [cl_toNat, cl_toNat]; omega)
                        have hp12571 : mj_n (g'819 16) z1254.toNatClampNeg 3 ≤ mj_n (g'819 16) (f 15).toNatClampNeg 3 := by rw [hp1257]; split <;> omega
                        have hp12572 : (g'819 16 z1254.toNatClampNeg).toInt = 3 → mj_n (g'819 16) z1254.toNatClampNeg 3 + 1 ≤ mj_n (g'819 16) (f 15).toNatClampNeg 3 := fun q => by rw [hp1257, if_pos q]; exact Int.le_refl _
                        refine am_e2 (v := 39) hi_213_23 rfl ?_
                        refine am_e0 hi_213_24 ?_
                        refine am_e1 (v := r1246) hi_213_25 rfl ?_
                        refine am_e1 (v := z835) hi_213_27 rfl ?_
                        refine am_e32n (as := [.ref 39, .int 1, .int r1246, .int z835]) (la := [some (.ref 39), some (.int 1), some (.int r1246), some (.int z835)]) (rest := []) hi_213_28 (am_hd0 (M := 213) (by decide) 28) (Nat.le_of_ble_eq_true rfl) (Nat.le_of_ble_eq_true rfl) (show 4 ≤ am_P0.2.2.1 190 from by decide +kernel) rfl (am_recv_ok hS1256.fs) rfl rfl (ct_value (d := (d + 3)) hS1256 hR1253_ (fun h => absurd h (by decide)) (fun _ => ⟨by omega, by omega⟩) (by show (0 : Int) ≤ z1254.toInt; omega) (by show z1254.toInt ≤ (32767 : Int); omega)) ?_
                        rintro v1258 S1259 (⟨z1260, g'1261, hv1262, hS1263, hR1268, h1264, h1265, h1266, h1267⟩)
                        subst hv1262
                        have h1264_ : z1260.toInt = z1254.toInt + 1 := h1264
                        have h1265_ : ∀ j, j ∉ [16, 17, 18] → g'1261 j = g'1247 j := h1265
                        have h1266_ : mj_n (g'1261 16) z1260.toNatClampNeg 3 ≤ mj_n (g'819 16) z1254.toNatClampNeg 3 + 1 := by rw [show g'1247 16 = g'1123 16 from h1252_ 16 (by decide), show g'1123 16 = g'852 16 from h1127_ 16 (by decide), show g'852 16 = g'819 16 from h857_ 16 (by decide)] at h1266; exact h1266
                        have h1267_ : (1 : Int) = 3 ∨ mj_n (g'1261 16) z1260.toNatClampNeg 3 ≤ mj_n (g'819 16) z1254.toNatClampNeg 3 := by rw [show g'1247 16 = g'1123 16 from h1252_ 16 (by decide), show g'1123 16 = g'852 16 from h1127_ 16 (by decide), show g'852 16 = g'819 16 from h857_ 16 (by decide)] at h1267; exact h1267
                        replace hS1263 : MS S0 S1259 (upd (upd (upd (upd (upd (upd (upd (upd (upd f 4 z1147) 5 y1148) 6 a1208) 7 b1209) 10 0) 15 z1260) 62 o816) 68 z1245) 75 m818) g'1261 := hS1263
                        have hR1268_ : RJ (upd (upd (upd (upd (upd (upd (upd (upd (upd f 4 z1147) 5 y1148) 6 a1208) 7 b1209) 10 0) 15 z1260) 62 o816) 68 z1245) 75 m818) g'1261 [] bc [] 0 (z850.toNatClampNeg :: []) := hR1268
                        show am_E _ _ _ _ [some (.ref 39), some (.int 1), some (.int 0), some (.int z835), some (.int r1246)] [] _ _
                        refine am_e35 hi_213_31 ?_
                        show am_E _ _ _ _ [some (.ref 39), some (.int 1), some (.int z835)] [] _ _
                        refine am_e18 hi_212_109 ?_
                        refine am_e35 hi_212_125 ?_
                        show am_E _ _ _ _ [some (.ref 39), some (.int r2), some (.int (f 4)), some (.int r861)] [] _ _
                        refine am_e18 hi_211_211 ?_
                        refine am_e35 hi_211_249 ?_
                        show am_E _ _ _ _ [some (.ref 39), some (.int 28), some (.int on), some (.int tw)] [] _ _
                        refine am_e18 hi_181_180 ?_
                        refine am_e35 hi_181_397 ?_
                        show am_E _ _ _ _ [some (.ref 39), some (.int 28), some (.int on), some (.int tw), some (.int th)] [] _ _
                        refine am_e35 hi_180_13 ?_
                        have hRc := rj_clear0 hR1268_
                        refine ⟨_, _, [], _, rfl, hS1263, Or.inr ⟨hRc, rfl, (by show 0 ≤ z1147.toInt; omega), (by show z1147.toInt ≤ (f 0).toInt; omega), (by show 0 ≤ (f 32).toInt; omega), (by show (f 32).toInt ≤ 63; omega), (by show 1 ≤ (f 53).toInt; omega), (by show (f 53).toInt ≤ 600; omega), (by show 0 ≤ z1245.toInt; omega), (by show z1245.toInt ≤ 60000; omega), (by show 0 ≤ (f 48).toInt; omega), (by show (f 48).toInt ≤ 8000; omega), (by show 0 ≤ (f 37).toInt; omega), (by show (f 37).toInt ≤ 128; omega), (by show 0 ≤ o816.toInt; omega), (by show o816.toInt ≤ 65000; omega), (by show 0 ≤ (f 19).toInt; omega), (by show (f 19).toInt ≤ 600; omega), (by show 0 ≤ a1208.toInt; omega), (by show 0 ≤ (f 8).toInt; omega)⟩⟩
                  · subst hv1158
                    have h1160_ : (0 : Int) ≤ a1156.toInt := h1160
                    replace hS1159 : MS S0 S1146 (upd (upd (upd (upd (upd (upd (upd f 4 z835) 6 a1156) 7 b1157) 10 0) 62 o816) 68 z850) 75 m818) g'1123 := hS1159
                    have hR1269 := rj_clear0 hR1128_
                    have hR1270 : RJ (upd (upd (upd (upd (upd (upd (upd f 4 z835) 6 a1156) 7 b1157) 10 0) 62 o816) 68 z850) 75 m818) g'1123 [] bc [] 0 [] := hR1269
                    show am_E _ _ _ _ [some (.ref 39), some (.int 1), some (.int z835)] [.int 0] _ _
                    refine am_e12t hi_212_83 (by decide) ?_
                    refine am_e35 hi_212_125 ?_
                    show am_E _ _ _ _ [some (.ref 39), some (.int r2), some (.int (f 4)), some (.int r861)] [] _ _
                    refine am_e18 hi_211_211 ?_
                    refine am_e35 hi_211_249 ?_
                    show am_E _ _ _ _ [some (.ref 39), some (.int 28), some (.int on), some (.int tw)] [] _ _
                    refine am_e18 hi_181_180 ?_
                    refine am_e35 hi_181_397 ?_
                    show am_E _ _ _ _ [some (.ref 39), some (.int 28), some (.int on), some (.int tw), some (.int th)] [] _ _
                    refine am_e35 hi_180_13 ?_
                    have hRc := rj_clear0 hR1270
                    refine ⟨_, _, [], _, rfl, hS1159, Or.inr ⟨hRc, rfl, (by show 0 ≤ z835.toInt; omega), (by show z835.toInt ≤ (f 0).toInt; omega), (by show 0 ≤ (f 32).toInt; omega), (by show (f 32).toInt ≤ 63; omega), (by show 1 ≤ (f 53).toInt; omega), (by show (f 53).toInt ≤ 600; omega), (by show 0 ≤ z850.toInt; omega), (by show z850.toInt ≤ 60000; omega), (by show 0 ≤ (f 48).toInt; omega), (by show (f 48).toInt ≤ 8000; omega), (by show 0 ≤ (f 37).toInt; omega), (by show (f 37).toInt ≤ 128; omega), (by show 0 ≤ o816.toInt; omega), (by show o816.toInt ≤ 65000; omega), (by show 0 ≤ (f 19).toInt; omega), (by show (f 19).toInt ≤ 600; omega), (by show 0 ≤ a1156.toInt; omega), (by show 0 ≤ (f 8).toInt; omega)⟩⟩
                · refine am_e13f hi_212_58 (am_cF (m := r1139.toInt) (n := (62 : Int)) rfl (by decide) c1144) ?_
                  refine am_e2 (v := 39) hi_212_61 rfl ?_
                  refine am_e0 hi_212_62 ?_
                  refine am_e1 (v := 1) hi_212_64 rfl ?_
                  refine am_e1 (v := z835) hi_212_65 rfl ?_
                  refine am_e0 hi_212_66 ?_
                  refine am_e32n (as := [.ref 39, .int 33, .int 1, .int z835, .int 0]) (la := [some (.ref 39), some (.int 33), some (.int 1), some (.int z835), some (.int 0)]) (rest := []) hi_212_67 (am_hd0 (M := 212) (by decide) 67) (Nat.le_of_ble_eq_true rfl) (Nat.le_of_ble_eq_true rfl) (show 5 ≤ am_P0.2.2.1 179 from by decide +kernel) rfl (am_recv_ok hS1141.fs) rfl rfl (ct_pile (d := (d + 4)) hS1141 hR1128_ (mj_e_plain (by decide)) (by show (0 : Int) ≤ z1122.toInt; omega) (by show z1122.toInt ≤ (65535 : Int); omega)) ?_
                  rintro v1271 S1272 (⟨z1273, g'1274, hv1275, hS1276, hR1279, h1277, h1278⟩)
                  subst hv1275
                  have h1277_ : z1273.toInt = z1122.toInt + 1 := h1277
                  have h1278_ : ∀ j, j ∉ [11, 12, 13, 14] → g'1274 j = g'1123 j := h1278
                  replace hS1276 : MS S0 S1272 (upd (upd (upd (upd (upd f 4 z835) 10 z1273) 62 o816) 68 z850) 75 m818) g'1274 := hS1276
                  have hR1279_ : RJ (upd (upd (upd (upd (upd f 4 z835) 10 z1273) 62 o816) 68 z850) 75 m818) g'1274 (((33 : Int), (1 : Int), z835.toInt, (0 : Int), []) :: (((28 : Int), (0 : Int), (0 : Int), (0 : Int), []) :: gs)) bc [] 0 (s817.toNatClampNeg :: []) := hR1279
                  show am_E _ _ _ _ [some (.ref 39), some (.int 1), some (.int z835)] [] _ _
                  refine am_e2 (v := 39) hi_212_70 rfl ?_
                  refine am_e32w (as := [.ref 39]) (la := [some (.ref 39), none]) (rest := []) hi_212_71 (am_hd0 (M := 212) (by decide) 71) (Nat.le_of_ble_eq_true rfl) (Nat.le_of_ble_eq_true rfl) (show 1 ≤ am_P0.2.2.1 192 from by decide +kernel) rfl (am_recv_ok hS1276.fs) rfl rfl ?_
                  refine am_e2 (v := 39) hi_192_0 rfl ?_
                  refine mm_20 (v := .int z835) hS1276 hi_192_1 rfl ?_
                  refine am_e3 (ls' := [some (.ref 39), some (.int z835)]) hi_192_4 (Nat.le_of_ble_eq_true rfl) rfl ?_
                  refine am_e2 (v := 39) hi_192_5 rfl ?_
                  refine am_e0 hi_192_6 ?_
                  refine am_e32n (as := [.ref 39, .int 62]) (la := [some (.ref 39), some (.int 62)]) (rest := []) hi_192_8 (am_hd0 (M := 192) (by decide) 8) (Nat.le_of_ble_eq_true rfl) (Nat.le_of_ble_eq_true rfl) (show 2 ≤ am_P0.2.2.1 193 from by decide +kernel) rfl (am_recv_ok hS1276.fs) rfl rfl (ct_enter (d := (d + 1)) hS1276   (by show (0 : Int) ≤ z835.toInt; omega) (by show (f 0).toInt ≤ (16384 : Int); omega) (by show (0 : Int) ≤ (62 : Int); omega) (by show (0 : Int) ≤ (f 5).toInt; omega) (by show (f 5).toInt ≤ (48 : Int); omega) (by show (0 : Int) ≤ (f 6).toInt; omega)) ?_
                  rintro v1280 S1281 (⟨z1282, y1283, hv1284, hS1285, h1286, h1287, h1288, h1289⟩ | ⟨a1291, b1292, hv1293, hS1294, h1295⟩)
                  · subst hv1284
                    have h1286_ : z1282.toInt = z835.toInt + 1 := h1286
                    have h1287_ : z835.toInt < (f 0).toInt := h1287
                    have h1288_ : y1283.toInt = (f 5).toInt + 1 := h1288
                    have h1289_ : y1283.toInt ≤ (48 : Int) := h1289
                    replace hS1285 : MS S0 S1281 (upd (upd (upd (upd (upd (upd f 4 z1282) 5 y1283) 10 z1273) 62 o816) 68 z850) 75 m818) g'1274 := hS1285
                    have hR1297 : RJ (upd (upd (upd (upd (upd (upd f 4 z1282) 5 y1283) 10 z1273) 62 o816) 68 z850) 75 m818) g'1274 (((33 : Int), (1 : Int), z835.toInt, (0 : Int), []) :: (((28 : Int), (0 : Int), (0 : Int), (0 : Int), []) :: gs)) bc [] 0 (s817.toNatClampNeg :: []) := RJ.at hR1279_ (by show z835.toInt ≤ z1282.toInt; omega)
                    show am_E _ _ _ _ [some (.ref 39), some (.int z835)] [.int 1] _ _
                    refine am_e12t hi_192_11 (by decide) ?_
                    refine am_e2 (v := 39) hi_192_15 rfl ?_
                    refine am_e0 hi_192_16 ?_
                    refine am_e0 hi_192_18 ?_
                    refine am_e0 hi_192_19 ?_
                    refine am_e1 (v := z835) hi_192_20 rfl ?_
                    refine am_e32n (as := [.ref 39, .int 20, .int 0, .int 0, .int z835]) (la := [some (.ref 39), some (.int 20), some (.int 0), some (.int 0), some (.int z835)]) (rest := []) hi_192_21 (am_hd0 (M := 192) (by decide) 21) (Nat.le_of_ble_eq_true rfl) (Nat.le_of_ble_eq_true rfl) (show 5 ≤ am_P0.2.2.1 189 from by decide +kernel) rfl (am_recv_ok hS1285.fs) rfl rfl (ct_put (d := (d + 3)) hS1285 hR1297  (by show (0 : Int) ≤ (f 32).toInt; omega) (by show (f 32).toInt ≤ (63 : Int); omega) (by show (f 53).toInt ≤ (4096 : Int); omega) (by show (0 : Int) ≤ z850.toInt; omega) (by show z850.toInt ≤ (65534 : Int); omega)) ?_
                    rintro v1298 S1299 (⟨z1300, r1301, g'1302, hv1303, hS1304, hR1308, h1305, h1306, h1307⟩)
                    subst hv1303
                    have h1305_ : z1300.toInt = z850.toInt + 1 := h1305
                    have h1306_ : r1301.toInt = z850.toInt := h1306
                    have h1307_ : ∀ j, j ∉ [60, 69, 70, 71, 72, 73] → g'1302 j = g'1274 j := h1307
                    replace hS1304 : MS S0 S1299 (upd (upd (upd (upd (upd (upd f 4 z1282) 5 y1283) 10 z1273) 62 o816) 68 z1300) 75 m818) g'1302 := hS1304
                    have hR1308_ : RJ (upd (upd (upd (upd (upd (upd f 4 z1282) 5 y1283) 10 z1273) 62 o816) 68 z1300) 75 m818) g'1302 (((33 : Int), (1 : Int), z835.toInt, (0 : Int), []) :: (((28 : Int), (0 : Int), (0 : Int), (0 : Int), []) :: gs)) bc [] 0 (z850.toNatClampNeg :: (s817.toNatClampNeg :: [])) := hR1308
                    show am_E _ _ _ _ [some (.ref 39), some (.int z835)] [.int r1301] _ _
                    refine am_e6i hi_192_24 ?_
                    refine am_e2 (v := 39) hi_192_25 rfl ?_
                    refine am_e0 hi_192_26 ?_
                    refine am_e0 hi_192_27 ?_
                    refine am_e0 hi_192_28 ?_
                    refine am_e32n (as := [.ref 39, .int 0, .int 0, .int 0]) (la := [some (.ref 39), some (.int 0), some (.int 0), some (.int 0)]) (rest := []) hi_192_29 (am_hd0 (M := 192) (by decide) 29) (Nat.le_of_ble_eq_true rfl) (Nat.le_of_ble_eq_true rfl) (show 4 ≤ am_P0.2.2.1 190 from by decide +kernel) rfl (am_recv_ok hS1304.fs) rfl rfl (ct_value (d := (d + 3)) hS1304 hR1308_ (fun h => absurd h (by decide)) (fun h => absurd h (by decide)) (by show (0 : Int) ≤ (f 15).toInt; omega) (by show (f 15).toInt ≤ (32767 : Int); omega)) ?_
                    rintro v1309 S1310 (⟨z1311, g'1312, hv1313, hS1314, hR1319, h1315, h1316, h1317, h1318⟩)
                    subst hv1313
                    have h1315_ : z1311.toInt = (f 15).toInt + 1 := h1315
                    have h1316_ : ∀ j, j ∉ [16, 17, 18] → g'1312 j = g'1302 j := h1316
                    have h1317_ : mj_n (g'1312 16) z1311.toNatClampNeg 3 ≤ mj_n (g'819 16) (f 15).toNatClampNeg 3 + 1 := by rw [show g'1302 16 = g'1274 16 from h1307_ 16 (by decide), show g'1274 16 = g'1123 16 from h1278_ 16 (by decide), show g'1123 16 = g'852 16 from h1127_ 16 (by decide), show g'852 16 = g'819 16 from h857_ 16 (by decide)] at h1317; exact h1317
                    have h1318_ : (0 : Int) = 3 ∨ mj_n (g'1312 16) z1311.toNatClampNeg 3 ≤ mj_n (g'819 16) (f 15).toNatClampNeg 3 := by rw [show g'1302 16 = g'1274 16 from h1307_ 16 (by decide), show g'1274 16 = g'1123 16 from h1278_ 16 (by decide), show g'1123 16 = g'852 16 from h1127_ 16 (by decide), show g'852 16 = g'819 16 from h857_ 16 (by decide)] at h1318; exact h1318
                    replace hS1314 : MS S0 S1310 (upd (upd (upd (upd (upd (upd (upd f 4 z1282) 5 y1283) 10 z1273) 15 z1311) 62 o816) 68 z1300) 75 m818) g'1312 := hS1314
                    have hR1319_ : RJ (upd (upd (upd (upd (upd (upd (upd f 4 z1282) 5 y1283) 10 z1273) 15 z1311) 62 o816) 68 z1300) 75 m818) g'1312 (((33 : Int), (1 : Int), z835.toInt, (0 : Int), []) :: (((28 : Int), (0 : Int), (0 : Int), (0 : Int), []) :: gs)) bc [] 0 (z850.toNatClampNeg :: (s817.toNatClampNeg :: [])) := hR1319
                    show am_E _ _ _ _ [some (.ref 39), some (.int z835)] [] _ _
                    refine am_e2 (v := 39) hi_192_32 rfl ?_
                    refine am_e0 hi_192_33 ?_
                    refine am_e0 hi_192_35 ?_
                    refine am_e0 hi_192_36 ?_
                    refine am_e0 hi_192_37 ?_
                    refine am_e32n (as := [.ref 39, .int 35, .int 0, .int 0, .int 0]) (la := [some (.ref 39), some (.int 35), some (.int 0), some (.int 0), some (.int 0)]) (rest := []) hi_192_38 (am_hd0 (M := 192) (by decide) 38) (Nat.le_of_ble_eq_true rfl) (Nat.le_of_ble_eq_true rfl) (show 5 ≤ am_P0.2.2.1 179 from by decide +kernel) rfl (am_recv_ok hS1314.fs) rfl rfl (ct_pile (d := (d + 3)) hS1314 hR1319_ (mj_e_plain (by decide)) (by show (0 : Int) ≤ z1273.toInt; omega) (by show z1273.toInt ≤ (65535 : Int); omega)) ?_
                    rintro v1320 S1321 (⟨z1322, g'1323, hv1324, hS1325, hR1328, h1326, h1327⟩)
                    subst hv1324
                    have h1326_ : z1322.toInt = z1273.toInt + 1 := h1326
                    have h1327_ : ∀ j, j ∉ [11, 12, 13, 14] → g'1323 j = g'1312 j := h1327
                    replace hS1325 : MS S0 S1321 (upd (upd (upd (upd (upd (upd (upd f 4 z1282) 5 y1283) 10 z1322) 15 z1311) 62 o816) 68 z1300) 75 m818) g'1323 := hS1325
                    have hR1328_ : RJ (upd (upd (upd (upd (upd (upd (upd f 4 z1282) 5 y1283) 10 z1322) 15 z1311) 62 o816) 68 z1300) 75 m818) g'1323 (((35 : Int), (0 : Int), (0 : Int), (0 : Int), []) :: (((33 : Int), (1 : Int), z835.toInt, (0 : Int), []) :: (((28 : Int), (0 : Int), (0 : Int), (0 : Int), []) :: gs))) bc [] 0 (z850.toNatClampNeg :: (s817.toNatClampNeg :: [])) := hR1328
                    show am_E _ _ _ _ [some (.ref 39), some (.int z835)] [] _ _
                    refine am_e35 hi_192_41 ?_
                    show am_E _ _ _ _ [some (.ref 39), some (.int 1), some (.int z835)] [] _ _
                    refine am_e18 hi_212_74 ?_
                    refine am_e35 hi_212_125 ?_
                    show am_E _ _ _ _ [some (.ref 39), some (.int r2), some (.int (f 4)), some (.int r861)] [] _ _
                    refine am_e18 hi_211_211 ?_
                    refine am_e35 hi_211_249 ?_
                    show am_E _ _ _ _ [some (.ref 39), some (.int 28), some (.int on), some (.int tw)] [] _ _
                    refine am_e18 hi_181_180 ?_
                    refine am_e35 hi_181_397 ?_
                    show am_E _ _ _ _ [some (.ref 39), some (.int 28), some (.int on), some (.int tw), some (.int th)] [] _ _
                    refine am_e35 hi_180_13 ?_
                    have q1 : mg_p1 (((35 : Int), (0 : Int), (0 : Int), (0 : Int), []) :: (((33 : Int), (1 : Int), z835.toInt, (0 : Int), []) :: (((28 : Int), (0 : Int), (0 : Int), (0 : Int), []) :: gs))) = 0 + (0 + (0 + (mg_p1 gs))) := rfl
                    have q2 : mg_p2 (((35 : Int), (0 : Int), (0 : Int), (0 : Int), []) :: (((33 : Int), (1 : Int), z835.toInt, (0 : Int), []) :: (((28 : Int), (0 : Int), (0 : Int), (0 : Int), []) :: gs))) = 0 + (0 + (0 + (mg_p2 gs))) := rfl
                    have q3 : mg_p3 (((35 : Int), (0 : Int), (0 : Int), (0 : Int), []) :: (((33 : Int), (1 : Int), z835.toInt, (0 : Int), []) :: (((28 : Int), (0 : Int), (0 : Int), (0 : Int), []) :: gs))) = 3 + (1 + (1 + (mg_p3 gs))) := rfl
                    have q4 : mg_p4 (((35 : Int), (0 : Int), (0 : Int), (0 : Int), []) :: (((33 : Int), (1 : Int), z835.toInt, (0 : Int), []) :: (((28 : Int), (0 : Int), (0 : Int), (0 : Int), []) :: gs))) = 0 + (3 + (0 + (mg_p4 gs))) := rfl
                    refine ⟨_, _, _, bc, rfl, hS1325, Or.inl ⟨⟨(RJ.fewer (pj' := []) hR1328_ (fun _ h => nomatch h)), ?_, ?_⟩, rfl, ?_⟩⟩
                    · exact (⟨⟨(show mg_k 35 from by decide), (show (0 : Int) ≤ z1311.toInt from by omega), (show 0 ≤ (f 20).toInt from by omega), (show 1 ≤ (f 37).toInt from by omega), (show 0 ≤ (f 32).toInt from by omega), (show (f 32).toInt ≤ y1283.toInt from by omega), (show y1283.toInt ≤ 48 from by omega), (show (f 37).toInt ≤ 2 * (y1283.toInt) + 2 from by omega), trivial⟩, ⟨⟨(show mg_k 33 from by decide), (show (2 : Int) ≤ z1311.toInt + 0 from by omega), (show 0 ≤ (f 20).toInt from by omega), (show 1 ≤ (f 37).toInt + 0 from by omega), (show 0 ≤ (f 32).toInt + 0 from by omega), (show (f 32).toInt + 0 ≤ y1283.toInt + -1 from by omega), (show y1283.toInt + -1 ≤ 48 from by omega), (show (f 37).toInt + 0 ≤ 2 * (y1283.toInt + -1) + 2 from by omega), trivial⟩, ⟨⟨(show mg_k 28 from by decide), (show (1 : Int) ≤ z1311.toInt + 0 + -1 from by omega), (show 0 ≤ (f 20).toInt from by omega), (show 1 ≤ (f 37).toInt + 0 + 0 from by omega), (show 0 ≤ (f 32).toInt + 0 + 0 from by omega), (show (f 32).toInt + 0 + 0 ≤ y1283.toInt + -1 + 0 from by omega), (show y1283.toInt + -1 + 0 ≤ 48 from by omega), (show (f 37).toInt + 0 + 0 ≤ 2 * (y1283.toInt + -1 + 0) + 2 from by omega), trivial⟩, mg_cast (mg_good_ext _ _ _ _ _ _ (fun i _ => by show g'1323 34 i = g 34 i; rw [show g'1323 34 = g'1312 34 from h1327_ 34 (by decide), show g'1312 34 = g'1302 34 from h1316_ 34 (by decide), show g'1302 34 = g'1274 34 from h1307_ 34 (by decide), show g'1274 34 = g'1123 34 from h1278_ 34 (by decide), show g'1123 34 = g'852 34 from h1127_ 34 (by decide), show g'852 34 = g'819 34 from h857_ 34 (by decide), show g'819 34 = g 34 from h827_ 34 (by decide)]) (fun i _ => by show g'1323 38 i = g 38 i; rw [show g'1323 38 = g'1312 38 from h1327_ 38 (by decide), show g'1312 38 = g'1302 38 from h1316_ 38 (by decide), show g'1302 38 = g'1274 38 from h1307_ 38 (by decide), show g'1274 38 = g'1123 38 from h1278_ 38 (by decide), show g'1123 38 = g'852 38 from h1127_ 38 (by decide), show g'852 38 = g'819 38 from h857_ 38 (by decide), show g'819 38 = g 38 from h827_ 38 (by decide)]) (fun i _ => by show g'1323 23 i = g 23 i; rw [show g'1323 23 = g'1312 23 from h1327_ 23 (by decide), show g'1312 23 = g'1302 23 from h1316_ 23 (by decide), show g'1302 23 = g'1274 23 from h1307_ 23 (by decide), show g'1274 23 = g'1123 23 from h1278_ 23 (by decide), show g'1123 23 = g'852 23 from h1127_ 23 (by decide), show g'852 23 = g'819 23 from h857_ 23 (by decide), show g'819 23 = g 23 from h827_ 23 (by decide)]) hrest) (by show (f 15).toInt + 0 = z1311.toInt + 0 + -1 + 0; omega) (by show (f 20).toInt = (f 20).toInt; omega) (by show (f 37).toInt + 0 = (f 37).toInt + 0 + 0 + 0; omega) (by show (f 32).toInt + 0 = (f 32).toInt + 0 + 0 + 0; omega) (by show (f 5).toInt + 0 = y1283.toInt + -1 + 0 + 0; omega)⟩⟩⟩ : mg_good (g'1323 34) (g'1323 38) (g'1323 23) (((35 : Int), (0 : Int), (0 : Int), (0 : Int), []) :: (((33 : Int), (1 : Int), z835.toInt, (0 : Int), []) :: (((28 : Int), (0 : Int), (0 : Int), (0 : Int), []) :: gs))) (z1311.toInt) ((f 20).toInt) ((f 37).toInt) ((f 32).toInt) (y1283.toInt))
                    · exact ⟨(by show 0 ≤ z1282.toInt; omega), (by show z1282.toInt ≤ (f 0).toInt; omega), (by show (f 0).toInt ≤ 512; omega), (by show 0 ≤ (f 24).toInt; omega), (by show (f 24).toInt + (f 20).toInt + mg_p1 (((35 : Int), (0 : Int), (0 : Int), (0 : Int), []) :: (((33 : Int), (1 : Int), z835.toInt, (0 : Int), []) :: (((28 : Int), (0 : Int), (0 : Int), (0 : Int), []) :: gs))) ≤ 4 * z1282.toInt; omega), (by show (f 20).toInt ≤ z1282.toInt; omega), (by show z1311.toInt + mg_p2 (((35 : Int), (0 : Int), (0 : Int), (0 : Int), []) :: (((33 : Int), (1 : Int), z835.toInt, (0 : Int), []) :: (((28 : Int), (0 : Int), (0 : Int), (0 : Int), []) :: gs))) ≤ z1282.toInt; omega), (by show mg_p3 (((35 : Int), (0 : Int), (0 : Int), (0 : Int), []) :: (((33 : Int), (1 : Int), z835.toInt, (0 : Int), []) :: (((28 : Int), (0 : Int), (0 : Int), (0 : Int), []) :: gs))) ≤ 20 * z1282.toInt + 20; omega), (by show 0 ≤ z1300.toInt; omega), (by show z1300.toInt + 3 * (f 20).toInt + mg_p4 (((35 : Int), (0 : Int), (0 : Int), (0 : Int), []) :: (((33 : Int), (1 : Int), z835.toInt, (0 : Int), []) :: (((28 : Int), (0 : Int), (0 : Int), (0 : Int), []) :: gs))) ≤ 60 * z1282.toInt + 60; omega), (by show 0 ≤ o816.toInt; omega), (by show o816.toInt + 64 * mj_n (g'1323 16) z1311.toNatClampNeg 3 ≤ 64 * z1282.toInt; rw [show g'1323 16 = g'1312 16 from h1327_ 16 (by decide)]; omega), (by show 0 ≤ (f 44).toInt; omega), (by show (f 44).toInt ≤ z1282.toInt; omega), (by show 0 ≤ (f 48).toInt; omega), (by show (f 48).toInt ≤ z1282.toInt; omega), (by show 1 ≤ (f 53).toInt; omega), (by show (f 53).toInt ≤ z1282.toInt + 1; omega), (by show 0 ≤ (f 19).toInt; omega), (by show (f 19).toInt ≤ 600; omega), (by show 0 ≤ (f 6).toInt; omega), (by show 0 ≤ (f 8).toInt; omega)⟩
                    · show 100 * ((f 0).toInt - z1282.toInt) + mg_p3 (((35 : Int), (0 : Int), (0 : Int), (0 : Int), []) :: (((33 : Int), (1 : Int), z835.toInt, (0 : Int), []) :: (((28 : Int), (0 : Int), (0 : Int), (0 : Int), []) :: gs))) < 100 * ((f 0).toInt - (f 4).toInt) + (1 + mg_p3 gs); omega
                  · subst hv1293
                    have h1295_ : (0 : Int) ≤ a1291.toInt := h1295
                    replace hS1294 : MS S0 S1281 (upd (upd (upd (upd (upd (upd (upd f 4 z835) 6 a1291) 7 b1292) 10 0) 62 o816) 68 z850) 75 m818) g'1274 := hS1294
                    have hR1329 := rj_clear0 hR1279_
                    have hR1330 : RJ (upd (upd (upd (upd (upd (upd (upd f 4 z835) 6 a1291) 7 b1292) 10 0) 62 o816) 68 z850) 75 m818) g'1274 [] bc [] 0 [] := hR1329
                    show am_E _ _ _ _ [some (.ref 39), some (.int z835)] [.int 0] _ _
                    refine am_e12f hi_192_11 (by decide) ?_
                    refine am_e35 hi_192_14 ?_
                    show am_E _ _ _ _ [some (.ref 39), some (.int 1), some (.int z835)] [] _ _
                    refine am_e18 hi_212_74 ?_
                    refine am_e35 hi_212_125 ?_
                    show am_E _ _ _ _ [some (.ref 39), some (.int r2), some (.int (f 4)), some (.int r861)] [] _ _
                    refine am_e18 hi_211_211 ?_
                    refine am_e35 hi_211_249 ?_
                    show am_E _ _ _ _ [some (.ref 39), some (.int 28), some (.int on), some (.int tw)] [] _ _
                    refine am_e18 hi_181_180 ?_
                    refine am_e35 hi_181_397 ?_
                    show am_E _ _ _ _ [some (.ref 39), some (.int 28), some (.int on), some (.int tw), some (.int th)] [] _ _
                    refine am_e35 hi_180_13 ?_
                    have hRc := rj_clear0 hR1330
                    refine ⟨_, _, [], _, rfl, hS1294, Or.inr ⟨hRc, rfl, (by show 0 ≤ z835.toInt; omega), (by show z835.toInt ≤ (f 0).toInt; omega), (by show 0 ≤ (f 32).toInt; omega), (by show (f 32).toInt ≤ 63; omega), (by show 1 ≤ (f 53).toInt; omega), (by show (f 53).toInt ≤ 600; omega), (by show 0 ≤ z850.toInt; omega), (by show z850.toInt ≤ 60000; omega), (by show 0 ≤ (f 48).toInt; omega), (by show (f 48).toInt ≤ 8000; omega), (by show 0 ≤ (f 37).toInt; omega), (by show (f 37).toInt ≤ 128; omega), (by show 0 ≤ o816.toInt; omega), (by show o816.toInt ≤ 65000; omega), (by show 0 ≤ (f 19).toInt; omega), (by show (f 19).toInt ≤ 600; omega), (by show 0 ≤ a1291.toInt; omega), (by show 0 ≤ (f 8).toInt; omega)⟩⟩
              · refine am_e13f hi_212_10 (am_cF (m := r1131.toInt) (n := (3 : Int)) rfl (by decide) c1136) ?_
                refine am_e2 (v := 39) hi_212_13 rfl ?_
                refine am_e0 hi_212_14 ?_
                refine am_e2 (v := 39) hi_212_15 rfl ?_
                refine mm_20 (v := .ref 41) hS1133 hi_212_16 rfl ?_
                refine am_e2 (v := 39) hi_212_19 rfl ?_
                refine mm_20 (v := .int z835) hS1133 hi_212_20 rfl ?_
                refine mm_25 hS1133 ma_2 hi_212_23 (by decide) (by omega) (by omega) ?_
                show am_E _ _ _ _ _ (.int (g'1123 2 z835.toNatClampNeg) :: _) _ _
                rw [show g'1123 2 = g'852 2 from h1127_ 2 (by decide), show g'852 2 = g'819 2 from h857_ 2 (by decide), show g'819 2 = g 2 from h827_ 2 (by decide)]
                show am_E _ _ _ _ [some (.ref 39), some (.int 1), some (.int z835)] [.int (g 2 z835.toNatClampNeg), .int 5, .ref 39] _ _
                refine am_e0 hi_212_24 ?_
                refine am_e0 hi_212_25 ?_
                refine am_e32n (as := [.ref 39, .int 5, .int (g 2 z835.toNatClampNeg), .int 0, .int 0]) (la := [some (.ref 39), some (.int 5), some (.int (g 2 z835.toNatClampNeg)), some (.int 0), some (.int 0)]) (rest := []) hi_212_26 (am_hd0 (M := 212) (by decide) 26) (Nat.le_of_ble_eq_true rfl) (Nat.le_of_ble_eq_true rfl) (show 5 ≤ am_P0.2.2.1 189 from by decide +kernel) rfl (am_recv_ok hS1133.fs) rfl rfl (ct_put (d := (d + 4)) hS1133 hR1128_  (by show (0 : Int) ≤ (f 32).toInt; omega) (by show (f 32).toInt ≤ (63 : Int); omega) (by show (f 53).toInt ≤ (4096 : Int); omega) (by show (0 : Int) ≤ z850.toInt; omega) (by show z850.toInt ≤ (65534 : Int); omega)) ?_
                rintro v1331 S1332 (⟨z1333, r1334, g'1335, hv1336, hS1337, hR1341, h1338, h1339, h1340⟩)
                subst hv1336
                have h1338_ : z1333.toInt = z850.toInt + 1 := h1338
                have h1339_ : r1334.toInt = z850.toInt := h1339
                have h1340_ : ∀ j, j ∉ [60, 69, 70, 71, 72, 73] → g'1335 j = g'1123 j := h1340
                replace hS1337 : MS S0 S1332 (upd (upd (upd (upd (upd f 4 z835) 10 z1122) 62 o816) 68 z1333) 75 m818) g'1335 := hS1337
                have hR1341_ : RJ (upd (upd (upd (upd (upd f 4 z835) 10 z1122) 62 o816) 68 z1333) 75 m818) g'1335 (((28 : Int), (0 : Int), (0 : Int), (0 : Int), []) :: gs) bc [] 0 (z850.toNatClampNeg :: (s817.toNatClampNeg :: [])) := hR1341
                show am_E _ _ _ _ [some (.ref 39), some (.int 1), some (.int z835)] [.int r1334] _ _
                refine am_e6i hi_212_29 ?_
                refine am_e2 (v := 39) hi_212_30 rfl ?_
                refine am_e7 hi_212_31 ?_
                refine mm_20 (v := .int z835) hS1337 hi_212_32 rfl ?_
                refine am_e0 hi_212_35 ?_
                obtain ⟨z1342, hz1342, tz1342⟩ := am_addI (x := z835) (y := 1) (m := z835.toInt) (n := (1 : Int)) rfl (by decide) (by omega) (by omega)
                refine am_e10 (z := z1342) hi_212_36 hz1342 ?_
                refine mm_21 (v := z1342) hS1337 hi_212_37 rfl (Nat.le_of_ble_eq_true rfl) ms_4 ?_
                intro S1343 hS1344
                replace hS1344 : MS S0 S1343 (upd (upd (upd (upd (upd f 4 z1342) 10 z1122) 62 o816) 68 z1333) 75 m818) g'1335 := hS1344
                have hR1345 : RJ (upd (upd (upd (upd (upd f 4 z1342) 10 z1122) 62 o816) 68 z1333) 75 m818) g'1335 (((28 : Int), (0 : Int), (0 : Int), (0 : Int), []) :: gs) bc [] 0 (z850.toNatClampNeg :: (s817.toNatClampNeg :: [])) := RJ.at hR1341_ (by show z835.toInt ≤ z1342.toInt; omega)
                refine am_e2 (v := 39) hi_212_40 rfl ?_
                refine am_e0 hi_212_41 ?_
                refine am_e1 (v := 1) hi_212_42 rfl ?_
                refine am_e10 (z := 2) hi_212_43 (by decide) ?_
                refine am_e0 hi_212_44 ?_
                refine am_e1 (v := z835) hi_212_45 rfl ?_
                refine am_e32w (as := [.ref 39, .int 2, .int 0, .int z835]) (la := [some (.ref 39), some (.int 2), some (.int 0), some (.int z835), none]) (rest := []) hi_212_46 (am_hd0 (M := 212) (by decide) 46) (Nat.le_of_ble_eq_true rfl) (Nat.le_of_ble_eq_true rfl) (show 4 ≤ am_P0.2.2.1 213 from by decide +kernel) rfl (am_recv_ok hS1344.fs) rfl rfl ?_
                refine am_e2 (v := 39) hi_213_0 rfl ?_
                refine am_e0 hi_213_1 ?_
                refine am_e1 (v := 2) hi_213_3 rfl ?_
                refine am_e1 (v := 0) hi_213_4 rfl ?_
                refine am_e0 hi_213_5 ?_
                refine am_e10 (z := 2) hi_213_6 (by decide) ?_
                refine am_e1 (v := z835) hi_213_7 rfl ?_
                refine am_e32n (as := [.ref 39, .int 13, .int 2, .int 2, .int z835]) (la := [some (.ref 39), some (.int 13), some (.int 2), some (.int 2), some (.int z835)]) (rest := []) hi_213_8 (am_hd0 (M := 213) (by decide) 8) (Nat.le_of_ble_eq_true rfl) (Nat.le_of_ble_eq_true rfl) (show 5 ≤ am_P0.2.2.1 189 from by decide +kernel) rfl (am_recv_ok hS1344.fs) rfl rfl (ct_put (d := (d + 3)) hS1344 hR1345  (by show (0 : Int) ≤ (f 32).toInt; omega) (by show (f 32).toInt ≤ (63 : Int); omega) (by show (f 53).toInt ≤ (4096 : Int); omega) (by show (0 : Int) ≤ z1333.toInt; omega) (by show z1333.toInt ≤ (65534 : Int); omega)) ?_
                rintro v1346 S1347 (⟨z1348, r1349, g'1350, hv1351, hS1352, hR1356, h1353, h1354, h1355⟩)
                subst hv1351
                have h1353_ : z1348.toInt = z1333.toInt + 1 := h1353
                have h1354_ : r1349.toInt = z1333.toInt := h1354
                have h1355_ : ∀ j, j ∉ [60, 69, 70, 71, 72, 73] → g'1350 j = g'1335 j := h1355
                replace hS1352 : MS S0 S1347 (upd (upd (upd (upd (upd f 4 z1342) 10 z1122) 62 o816) 68 z1348) 75 m818) g'1350 := hS1352
                have hR1356_ : RJ (upd (upd (upd (upd (upd f 4 z1342) 10 z1122) 62 o816) 68 z1348) 75 m818) g'1350 (((28 : Int), (0 : Int), (0 : Int), (0 : Int), []) :: gs) bc [] 0 (z1333.toNatClampNeg :: (z850.toNatClampNeg :: (s817.toNatClampNeg :: []))) := hR1356
                show am_E _ _ _ _ [some (.ref 39), some (.int 2), some (.int 0), some (.int z835), none] [.int r1349] _ _
                refine am_e3 (ls' := [some (.ref 39), some (.int 2), some (.int 0), some (.int z835), some (.int r1349)]) hi_213_11 (Nat.le_of_ble_eq_true rfl) rfl ?_
                refine am_e2 (v := 39) hi_213_13 rfl ?_
                refine am_e7 hi_213_14 ?_
                refine mm_20 (v := .int (f 15)) hS1352 hi_213_15 rfl ?_
                refine am_e0 hi_213_18 ?_
                obtain ⟨z1357, hz1357, tz1357⟩ := am_subI (x := f 15) (y := 1) (m := (f 15).toInt) (n := (1 : Int)) rfl (by decide) (by omega) (by omega)
                refine am_e10 (z := z1357) hi_213_19 hz1357 ?_
                refine mm_21 (v := z1357) hS1352 hi_213_20 rfl (Nat.le_of_ble_eq_true rfl) ms_15 ?_
                intro S1358 hS1359
                replace hS1359 : MS S0 S1358 (upd (upd (upd (upd (upd (upd f 4 z1342) 10 z1122) 15 z1357) 62 o816) 68 z1348) 75 m818) g'1350 := hS1359
                have hp1360 : mj_n (g'819 16) (f 15).toNatClampNeg 3 = mj_n (g'819 16) z1357.toNatClampNeg 3 + if (g'819 16 z1357.toNatClampNeg).toInt = 3 then 1 else 0 := mj_pop (by rw [cl_toNat, cl_toNat]; omega)
                have hp13601 : mj_n (g'819 16) z1357.toNatClampNeg 3 ≤ mj_n (g'819 16) (f 15).toNatClampNeg 3 := by rw [hp1360]; split <;> omega
                have hp13602 : (g'819 16 z1357.toNatClampNeg).toInt = 3 → mj_n (g'819 16) z1357.toNatClampNeg 3 + 1 ≤ mj_n (g'819 16) (f 15).toNatClampNeg 3 := fun q => by rw [hp1360, if_pos q]; exact Int.le_refl _
                refine am_e2 (v := 39) hi_213_23 rfl ?_
                refine am_e0 hi_213_24 ?_
                refine am_e1 (v := r1349) hi_213_25 rfl ?_
                refine am_e1 (v := z835) hi_213_27 rfl ?_
                refine am_e32n (as := [.ref 39, .int 1, .int r1349, .int z835]) (la := [some (.ref 39), some (.int 1), some (.int r1349), some (.int z835)]) (rest := []) hi_213_28 (am_hd0 (M := 213) (by decide) 28) (Nat.le_of_ble_eq_true rfl) (Nat.le_of_ble_eq_true rfl) (show 4 ≤ am_P0.2.2.1 190 from by decide +kernel) rfl (am_recv_ok hS1359.fs) rfl rfl (ct_value (d := (d + 3)) hS1359 hR1356_ (fun h => absurd h (by decide)) (fun _ => ⟨by omega, by omega⟩) (by show (0 : Int) ≤ z1357.toInt; omega) (by show z1357.toInt ≤ (32767 : Int); omega)) ?_
                rintro v1361 S1362 (⟨z1363, g'1364, hv1365, hS1366, hR1371, h1367, h1368, h1369, h1370⟩)
                subst hv1365
                have h1367_ : z1363.toInt = z1357.toInt + 1 := h1367
                have h1368_ : ∀ j, j ∉ [16, 17, 18] → g'1364 j = g'1350 j := h1368
                have h1369_ : mj_n (g'1364 16) z1363.toNatClampNeg 3 ≤ mj_n (g'819 16) z1357.toNatClampNeg 3 + 1 := by rw [show g'1350 16 = g'1335 16 from h1355_ 16 (by decide), show g'1335 16 = g'1123 16 from h1340_ 16 (by decide), show g'1123 16 = g'852 16 from h1127_ 16 (by decide), show g'852 16 = g'819 16 from h857_ 16 (by decide)] at h1369; exact h1369
                have h1370_ : (1 : Int) = 3 ∨ mj_n (g'1364 16) z1363.toNatClampNeg 3 ≤ mj_n (g'819 16) z1357.toNatClampNeg 3 := by rw [show g'1350 16 = g'1335 16 from h1355_ 16 (by decide), show g'1335 16 = g'1123 16 from h1340_ 16 (by decide), show g'1123 16 = g'852 16 from h1127_ 16 (by decide), show g'852 16 = g'819 16 from h857_ 16 (by decide)] at h1370; exact h1370
                replace hS1366 : MS S0 S1362 (upd (upd (upd (upd (upd (upd f 4 z1342) 10 z1122) 15 z1363) 62 o816) 68 z1348) 75 m818) g'1364 := hS1366
                have hR1371_ : RJ (upd (upd (upd (upd (upd (upd f 4 z1342) 10 z1122) 15 z1363) 62 o816) 68 z1348) 75 m818) g'1364 (((28 : Int), (0 : Int), (0 : Int), (0 : Int), []) :: gs) bc [] 0 (z1333.toNatClampNeg :: (z850.toNatClampNeg :: (s817.toNatClampNeg :: []))) := hR1371
                show am_E _ _ _ _ [some (.ref 39), some (.int 2), some (.int 0), some (.int z835), some (.int r1349)] [] _ _
                refine am_e35 hi_213_31 ?_
                show am_E _ _ _ _ [some (.ref 39), some (.int 1), some (.int z835)] [] _ _
                refine am_e18 hi_212_49 ?_
                refine am_e35 hi_212_125 ?_
                show am_E _ _ _ _ [some (.ref 39), some (.int r2), some (.int (f 4)), some (.int r861)] [] _ _
                refine am_e18 hi_211_211 ?_
                refine am_e35 hi_211_249 ?_
                show am_E _ _ _ _ [some (.ref 39), some (.int 28), some (.int on), some (.int tw)] [] _ _
                refine am_e18 hi_181_180 ?_
                refine am_e35 hi_181_397 ?_
                show am_E _ _ _ _ [some (.ref 39), some (.int 28), some (.int on), some (.int tw), some (.int th)] [] _ _
                refine am_e35 hi_180_13 ?_
                have q1 : mg_p1 (((28 : Int), (0 : Int), (0 : Int), (0 : Int), []) :: gs) = 0 + (mg_p1 gs) := rfl
                have q2 : mg_p2 (((28 : Int), (0 : Int), (0 : Int), (0 : Int), []) :: gs) = 0 + (mg_p2 gs) := rfl
                have q3 : mg_p3 (((28 : Int), (0 : Int), (0 : Int), (0 : Int), []) :: gs) = 1 + (mg_p3 gs) := rfl
                have q4 : mg_p4 (((28 : Int), (0 : Int), (0 : Int), (0 : Int), []) :: gs) = 0 + (mg_p4 gs) := rfl
                refine ⟨_, _, _, bc, rfl, hS1366, Or.inl ⟨⟨(RJ.fewer (pj' := []) hR1371_ (fun _ h => nomatch h)), ?_, ?_⟩, rfl, ?_⟩⟩
                · exact (⟨⟨(show mg_k 28 from by decide), (show (1 : Int) ≤ z1363.toInt from by omega), (show 0 ≤ (f 20).toInt from by omega), (show 1 ≤ (f 37).toInt from by omega), (show 0 ≤ (f 32).toInt from by omega), (show (f 32).toInt ≤ (f 5).toInt from by omega), (show (f 5).toInt ≤ 48 from by omega), (show (f 37).toInt ≤ 2 * ((f 5).toInt) + 2 from by omega), trivial⟩, mg_cast (mg_good_ext _ _ _ _ _ _ (fun i _ => by show g'1364 34 i = g 34 i; rw [show g'1364 34 = g'1350 34 from h1368_ 34 (by decide), show g'1350 34 = g'1335 34 from h1355_ 34 (by decide), show g'1335 34 = g'1123 34 from h1340_ 34 (by decide), show g'1123 34 = g'852 34 from h1127_ 34 (by decide), show g'852 34 = g'819 34 from h857_ 34 (by decide), show g'819 34 = g 34 from h827_ 34 (by decide)]) (fun i _ => by show g'1364 38 i = g 38 i; rw [show g'1364 38 = g'1350 38 from h1368_ 38 (by decide), show g'1350 38 = g'1335 38 from h1355_ 38 (by decide), show g'1335 38 = g'1123 38 from h1340_ 38 (by decide), show g'1123 38 = g'852 38 from h1127_ 38 (by decide), show g'852 38 = g'819 38 from h857_ 38 (by decide), show g'819 38 = g 38 from h827_ 38 (by decide)]) (fun i _ => by show g'1364 23 i = g 23 i; rw [show g'1364 23 = g'1350 23 from h1368_ 23 (by decide), show g'1350 23 = g'1335 23 from h1355_ 23 (by decide), show g'1335 23 = g'1123 23 from h1340_ 23 (by decide), show g'1123 23 = g'852 23 from h1127_ 23 (by decide), show g'852 23 = g'819 23 from h857_ 23 (by decide), show g'819 23 = g 23 from h827_ 23 (by decide)]) hrest) (by show (f 15).toInt + 0 = z1363.toInt + 0; omega) (by show (f 20).toInt = (f 20).toInt; omega) (by show (f 37).toInt + 0 = (f 37).toInt + 0; omega) (by show (f 32).toInt + 0 = (f 32).toInt + 0; omega) (by show (f 5).toInt + 0 = (f 5).toInt + 0; omega)⟩ : mg_good (g'1364 34) (g'1364 38) (g'1364 23) (((28 : Int), (0 : Int), (0 : Int), (0 : Int), []) :: gs) (z1363.toInt) ((f 20).toInt) ((f 37).toInt) ((f 32).toInt) ((f 5).toInt))
                · exact ⟨(by show 0 ≤ z1342.toInt; omega), (by show z1342.toInt ≤ (f 0).toInt; omega), (by show (f 0).toInt ≤ 512; omega), (by show 0 ≤ (f 24).toInt; omega), (by show (f 24).toInt + (f 20).toInt + mg_p1 (((28 : Int), (0 : Int), (0 : Int), (0 : Int), []) :: gs) ≤ 4 * z1342.toInt; omega), (by show (f 20).toInt ≤ z1342.toInt; omega), (by show z1363.toInt + mg_p2 (((28 : Int), (0 : Int), (0 : Int), (0 : Int), []) :: gs) ≤ z1342.toInt; omega), (by show mg_p3 (((28 : Int), (0 : Int), (0 : Int), (0 : Int), []) :: gs) ≤ 20 * z1342.toInt + 20; omega), (by show 0 ≤ z1348.toInt; omega), (by show z1348.toInt + 3 * (f 20).toInt + mg_p4 (((28 : Int), (0 : Int), (0 : Int), (0 : Int), []) :: gs) ≤ 60 * z1342.toInt + 60; omega), (by show 0 ≤ o816.toInt; omega), (by show o816.toInt + 64 * mj_n (g'1364 16) z1363.toNatClampNeg 3 ≤ 64 * z1342.toInt; omega), (by show 0 ≤ (f 44).toInt; omega), (by show (f 44).toInt ≤ z1342.toInt; omega), (by show 0 ≤ (f 48).toInt; omega), (by show (f 48).toInt ≤ z1342.toInt; omega), (by show 1 ≤ (f 53).toInt; omega), (by show (f 53).toInt ≤ z1342.toInt + 1; omega), (by show 0 ≤ (f 19).toInt; omega), (by show (f 19).toInt ≤ 600; omega), (by show 0 ≤ (f 6).toInt; omega), (by show 0 ≤ (f 8).toInt; omega)⟩
                · show 100 * ((f 0).toInt - z1342.toInt) + mg_p3 (((28 : Int), (0 : Int), (0 : Int), (0 : Int), []) :: gs) < 100 * ((f 0).toInt - (f 4).toInt) + (1 + mg_p3 gs); omega
            · refine am_e13f hi_211_180 (am_cF (m := r861.toInt) (n := (3 : Int)) rfl (by decide) c1119) ?_
              refine am_e1 (v := r861) hi_211_183 rfl ?_
              refine am_e0 hi_211_184 ?_
              by_cases c1372 : r861.toInt = (62 : Int)
              · refine am_e13t hi_211_186 (am_cT (m := r861.toInt) (n := (62 : Int)) rfl (by decide) c1372) ?_
                refine am_e2 (v := 39) hi_211_197 rfl ?_
                refine am_e0 hi_211_198 ?_
                refine am_e0 hi_211_200 ?_
                refine am_e0 hi_211_201 ?_
                refine am_e0 hi_211_202 ?_
                refine am_e32n (as := [.ref 39, .int 28, .int 0, .int 0, .int 0]) (la := [some (.ref 39), some (.int 28), some (.int 0), some (.int 0), some (.int 0)]) (rest := []) hi_211_203 (am_hd0 (M := 211) (by decide) 203) (Nat.le_of_ble_eq_true rfl) (Nat.le_of_ble_eq_true rfl) (show 5 ≤ am_P0.2.2.1 179 from by decide +kernel) rfl (am_recv_ok hS863.fs) rfl rfl (ct_pile (d := (d + 5)) hS863 hR858_ (mj_e_plain (by decide)) (by show (0 : Int) ≤ (f 10).toInt; omega) (by show (f 10).toInt ≤ (65535 : Int); omega)) ?_
                rintro v1373 S1374 (⟨z1375, g'1376, hv1377, hS1378, hR1381, h1379, h1380⟩)
                subst hv1377
                have h1379_ : z1375.toInt = (f 10).toInt + 1 := h1379
                have h1380_ : ∀ j, j ∉ [11, 12, 13, 14] → g'1376 j = g'852 j := h1380
                replace hS1378 : MS S0 S1374 (upd (upd (upd (upd (upd f 4 z835) 10 z1375) 62 o816) 68 z850) 75 m818) g'1376 := hS1378
                have hR1381_ : RJ (upd (upd (upd (upd (upd f 4 z835) 10 z1375) 62 o816) 68 z850) 75 m818) g'1376 (((28 : Int), (0 : Int), (0 : Int), (0 : Int), []) :: gs) bc [] 0 (s817.toNatClampNeg :: []) := hR1381
                show am_E _ _ _ _ [some (.ref 39), some (.int r2), some (.int (f 4)), some (.int r861)] [] _ _
                refine am_e2 (v := 39) hi_211_206 rfl ?_
                refine am_e0 hi_211_207 ?_
                refine am_e32w (as := [.ref 39, .int 1]) (la := [some (.ref 39), some (.int 1), none]) (rest := []) hi_211_208 (am_hd0 (M := 211) (by decide) 208) (Nat.le_of_ble_eq_true rfl) (Nat.le_of_ble_eq_true rfl) (show 2 ≤ am_P0.2.2.1 212 from by decide +kernel) rfl (am_recv_ok hS1378.fs) rfl rfl ?_
                refine am_e2 (v := 39) hi_212_0 rfl ?_
                refine mm_20 (v := .int z835) hS1378 hi_212_1 rfl ?_
                refine am_e3 (ls' := [some (.ref 39), some (.int 1), some (.int z835)]) hi_212_4 (Nat.le_of_ble_eq_true rfl) rfl ?_
                refine am_e2 (v := 39) hi_212_5 rfl ?_
                refine am_e32n (as := [.ref 39]) (la := [some (.ref 39)]) (rest := []) hi_212_6 (am_hd0 (M := 212) (by decide) 6) (Nat.le_of_ble_eq_true rfl) (Nat.le_of_ble_eq_true rfl) (show 1 ≤ am_P0.2.2.1 183 from by decide +kernel) rfl (am_recv_ok hS1378.fs) rfl rfl (ct_next (d := (d + 3)) hS1378   (by show (0 : Int) ≤ z835.toInt; omega) (by show (f 0).toInt ≤ (16384 : Int); omega)) ?_
                rintro v1382 S1383 (⟨r1384, hv1385, hS1386, h1387⟩)
                subst hv1385
                have h1387_ : z835.toInt < (f 0).toInt ∨ r1384.toInt = (-1 : Int) := h1387
                show am_E _ _ _ _ [some (.ref 39), some (.int 1), some (.int z835)] [.int r1384] _ _
                refine am_e0 hi_212_9 ?_
                by_cases c1389 : ¬ r1384.toInt = (3 : Int)
                · refine am_e13t hi_212_10 (am_cT (m := r1384.toInt) (n := (3 : Int)) rfl (by decide) c1389) ?_
                  refine am_e2 (v := 39) hi_212_52 rfl ?_
                  refine am_e32n (as := [.ref 39]) (la := [some (.ref 39)]) (rest := []) hi_212_53 (am_hd0 (M := 212) (by decide) 53) (Nat.le_of_ble_eq_true rfl) (Nat.le_of_ble_eq_true rfl) (show 1 ≤ am_P0.2.2.1 183 from by decide +kernel) rfl (am_recv_ok hS1386.fs) rfl rfl (ct_next (d := (d + 3)) hS1386   (by show (0 : Int) ≤ z835.toInt; omega) (by show (f 0).toInt ≤ (16384 : Int); omega)) ?_
                  rintro v1390 S1391 (⟨r1392, hv1393, hS1394, h1395⟩)
                  subst hv1393
                  have h1395_ : z835.toInt < (f 0).toInt ∨ r1392.toInt = (-1 : Int) := h1395
                  show am_E _ _ _ _ [some (.ref 39), some (.int 1), some (.int z835)] [.int r1392] _ _
                  refine am_e0 hi_212_56 ?_
                  by_cases c1397 : ¬ r1392.toInt = (62 : Int)
                  · refine am_e13t hi_212_58 (am_cT (m := r1392.toInt) (n := (62 : Int)) rfl (by decide) c1397) ?_
                    refine am_e2 (v := 39) hi_212_77 rfl ?_
                    refine am_e0 hi_212_78 ?_
                    refine am_e32n (as := [.ref 39, .int 60]) (la := [some (.ref 39), some (.int 60)]) (rest := []) hi_212_80 (am_hd0 (M := 212) (by decide) 80) (Nat.le_of_ble_eq_true rfl) (Nat.le_of_ble_eq_true rfl) (show 2 ≤ am_P0.2.2.1 193 from by decide +kernel) rfl (am_recv_ok hS1394.fs) rfl rfl (ct_enter (d := (d + 2)) hS1394   (by show (0 : Int) ≤ z835.toInt; omega) (by show (f 0).toInt ≤ (16384 : Int); omega) (by show (0 : Int) ≤ (60 : Int); omega) (by show (0 : Int) ≤ (f 5).toInt; omega) (by show (f 5).toInt ≤ (48 : Int); omega) (by show (0 : Int) ≤ (f 6).toInt; omega)) ?_
                    rintro v1398 S1399 (⟨z1400, y1401, hv1402, hS1403, h1404, h1405, h1406, h1407⟩ | ⟨a1409, b1410, hv1411, hS1412, h1413⟩)
                    · subst hv1402
                      have h1404_ : z1400.toInt = z835.toInt + 1 := h1404
                      have h1405_ : z835.toInt < (f 0).toInt := h1405
                      have h1406_ : y1401.toInt = (f 5).toInt + 1 := h1406
                      have h1407_ : y1401.toInt ≤ (48 : Int) := h1407
                      replace hS1403 : MS S0 S1399 (upd (upd (upd (upd (upd (upd f 4 z1400) 5 y1401) 10 z1375) 62 o816) 68 z850) 75 m818) g'1376 := hS1403
                      have hR1415 : RJ (upd (upd (upd (upd (upd (upd f 4 z1400) 5 y1401) 10 z1375) 62 o816) 68 z850) 75 m818) g'1376 (((28 : Int), (0 : Int), (0 : Int), (0 : Int), []) :: gs) bc [] 0 (s817.toNatClampNeg :: []) := RJ.at hR1381_ (by show z835.toInt ≤ z1400.toInt; omega)
                      show am_E _ _ _ _ [some (.ref 39), some (.int 1), some (.int z835)] [.int 1] _ _
                      refine am_e12f hi_212_83 (by decide) ?_
                      refine am_e2 (v := 39) hi_212_86 rfl ?_
                      refine am_e32n (as := [.ref 39]) (la := [some (.ref 39)]) (rest := []) hi_212_87 (am_hd0 (M := 212) (by decide) 87) (Nat.le_of_ble_eq_true rfl) (Nat.le_of_ble_eq_true rfl) (show 1 ≤ am_P0.2.2.1 183 from by decide +kernel) rfl (am_recv_ok hS1403.fs) rfl rfl (ct_next (d := (d + 3)) hS1403   (by show (0 : Int) ≤ z1400.toInt; omega) (by show (f 0).toInt ≤ (16384 : Int); omega)) ?_
                      rintro v1416 S1417 (⟨r1418, hv1419, hS1420, h1421⟩)
                      subst hv1419
                      have h1421_ : z1400.toInt < (f 0).toInt ∨ r1418.toInt = (-1 : Int) := h1421
                      show am_E _ _ _ _ [some (.ref 39), some (.int 1), some (.int z835)] [.int r1418] _ _
                      refine am_e0 hi_212_90 ?_
                      by_cases c1423 : ¬ r1418.toInt = (61 : Int)
                      · refine am_e13t hi_212_92 (am_cT (m := r1418.toInt) (n := (61 : Int)) rfl (by decide) c1423) ?_
                        refine am_e2 (v := 39) hi_212_112 rfl ?_
                        refine am_e0 hi_212_113 ?_
                        refine am_e1 (v := 1) hi_212_115 rfl ?_
                        refine am_e1 (v := z835) hi_212_116 rfl ?_
                        refine am_e0 hi_212_117 ?_
                        refine am_e32n (as := [.ref 39, .int 32, .int 1, .int z835, .int 0]) (la := [some (.ref 39), some (.int 32), some (.int 1), some (.int z835), some (.int 0)]) (rest := []) hi_212_118 (am_hd0 (M := 212) (by decide) 118) (Nat.le_of_ble_eq_true rfl) (Nat.le_of_ble_eq_true rfl) (show 5 ≤ am_P0.2.2.1 179 from by decide +kernel) rfl (am_recv_ok hS1420.fs) rfl rfl (ct_pile (d := (d + 4)) hS1420 hR1415 (mj_e_plain (by decide)) (by show (0 : Int) ≤ z1375.toInt; omega) (by show z1375.toInt ≤ (65535 : Int); omega)) ?_
                        rintro v1424 S1425 (⟨z1426, g'1427, hv1428, hS1429, hR1432, h1430, h1431⟩)
                        subst hv1428
                        have h1430_ : z1426.toInt = z1375.toInt + 1 := h1430
                        have h1431_ : ∀ j, j ∉ [11, 12, 13, 14] → g'1427 j = g'1376 j := h1431
                        replace hS1429 : MS S0 S1425 (upd (upd (upd (upd (upd (upd f 4 z1400) 5 y1401) 10 z1426) 62 o816) 68 z850) 75 m818) g'1427 := hS1429
                        have hR1432_ : RJ (upd (upd (upd (upd (upd (upd f 4 z1400) 5 y1401) 10 z1426) 62 o816) 68 z850) 75 m818) g'1427 (((32 : Int), (1 : Int), z835.toInt, (0 : Int), []) :: (((28 : Int), (0 : Int), (0 : Int), (0 : Int), []) :: gs)) bc [] 0 (s817.toNatClampNeg :: []) := hR1432
                        show am_E _ _ _ _ [some (.ref 39), some (.int 1), some (.int z835)] [] _ _
                        refine am_e2 (v := 39) hi_212_121 rfl ?_
                        refine am_e32w (as := [.ref 39]) (la := [some (.ref 39)]) (rest := []) hi_212_122 (am_hd0 (M := 212) (by decide) 122) (Nat.le_of_ble_eq_true rfl) (Nat.le_of_ble_eq_true rfl) (show 1 ≤ am_P0.2.2.1 214 from by decide +kernel) rfl (am_recv_ok hS1429.fs) rfl rfl ?_
                        refine am_e2 (v := 39) hi_214_0 rfl ?_
                        refine am_e0 hi_214_1 ?_
                        refine am_e0 hi_214_3 ?_
                        refine am_e0 hi_214_4 ?_
                        refine am_e0 hi_214_5 ?_
                        refine am_e32n (as := [.ref 39, .int 34, .int 1, .int 0, .int 0]) (la := [some (.ref 39), some (.int 34), some (.int 1), some (.int 0), some (.int 0)]) (rest := []) hi_214_6 (am_hd0 (M := 214) (by decide) 6) (Nat.le_of_ble_eq_true rfl) (Nat.le_of_ble_eq_true rfl) (show 5 ≤ am_P0.2.2.1 179 from by decide +kernel) rfl (am_recv_ok hS1429.fs) rfl rfl (ct_pile (d := (d + 3)) hS1429 hR1432_ (mj_e_plain (by decide)) (by show (0 : Int) ≤ z1426.toInt; omega) (by show z1426.toInt ≤ (65535 : Int); omega)) ?_
                        rintro v1433 S1434 (⟨z1435, g'1436, hv1437, hS1438, hR1441, h1439, h1440⟩)
                        subst hv1437
                        have h1439_ : z1435.toInt = z1426.toInt + 1 := h1439
                        have h1440_ : ∀ j, j ∉ [11, 12, 13, 14] → g'1436 j = g'1427 j := h1440
                        replace hS1438 : MS S0 S1434 (upd (upd (upd (upd (upd (upd f 4 z1400) 5 y1401) 10 z1435) 62 o816) 68 z850) 75 m818) g'1436 := hS1438
                        have hR1441_ : RJ (upd (upd (upd (upd (upd (upd f 4 z1400) 5 y1401) 10 z1435) 62 o816) 68 z850) 75 m818) g'1436 (((34 : Int), (1 : Int), (0 : Int), (0 : Int), []) :: (((32 : Int), (1 : Int), z835.toInt, (0 : Int), []) :: (((28 : Int), (0 : Int), (0 : Int), (0 : Int), []) :: gs))) bc [] 0 (s817.toNatClampNeg :: []) := hR1441
                        show am_E _ _ _ _ [some (.ref 39)] [] _ _
                        refine am_e2 (v := 39) hi_214_9 rfl ?_
                        refine am_e0 hi_214_10 ?_
                        refine am_e32w (as := [.ref 39, .int 0]) (la := [some (.ref 39), some (.int 0)]) (rest := []) hi_214_11 (am_hd0 (M := 214) (by decide) 11) (Nat.le_of_ble_eq_true rfl) (Nat.le_of_ble_eq_true rfl) (show 2 ≤ am_P0.2.2.1 186 from by decide +kernel) rfl (am_recv_ok hS1438.fs) rfl rfl ?_
                        refine am_e2 (v := 39) hi_186_0 rfl ?_
                        refine am_e0 hi_186_1 ?_
                        refine am_e1 (v := 0) hi_186_3 rfl ?_
                        refine am_e0 hi_186_4 ?_
                        refine am_e0 hi_186_5 ?_
                        refine am_e32n (as := [.ref 39, .int 23, .int 0, .int 0, .int 0]) (la := [some (.ref 39), some (.int 23), some (.int 0), some (.int 0), some (.int 0)]) (rest := []) hi_186_6 (am_hd0 (M := 186) (by decide) 6) (Nat.le_of_ble_eq_true rfl) (Nat.le_of_ble_eq_true rfl) (show 5 ≤ am_P0.2.2.1 179 from by decide +kernel) rfl (am_recv_ok hS1438.fs) rfl rfl (ct_pile (d := (d + 2)) hS1438 hR1441_ (mj_e_plain (by decide)) (by show (0 : Int) ≤ z1435.toInt; omega) (by show z1435.toInt ≤ (65535 : Int); omega)) ?_
                        rintro v1442 S1443 (⟨z1444, g'1445, hv1446, hS1447, hR1450, h1448, h1449⟩)
                        subst hv1446
                        have h1448_ : z1444.toInt = z1435.toInt + 1 := h1448
                        have h1449_ : ∀ j, j ∉ [11, 12, 13, 14] → g'1445 j = g'1436 j := h1449
                        replace hS1447 : MS S0 S1443 (upd (upd (upd (upd (upd (upd f 4 z1400) 5 y1401) 10 z1444) 62 o816) 68 z850) 75 m818) g'1445 := hS1447
                        have hR1450_ : RJ (upd (upd (upd (upd (upd (upd f 4 z1400) 5 y1401) 10 z1444) 62 o816) 68 z850) 75 m818) g'1445 (((23 : Int), (0 : Int), (0 : Int), (0 : Int), []) :: (((34 : Int), (1 : Int), (0 : Int), (0 : Int), []) :: (((32 : Int), (1 : Int), z835.toInt, (0 : Int), []) :: (((28 : Int), (0 : Int), (0 : Int), (0 : Int), []) :: gs)))) bc [] 0 (s817.toNatClampNeg :: []) := hR1450
                        show am_E _ _ _ _ [some (.ref 39), some (.int 0)] [] _ _
                        refine am_e35 hi_186_9 ?_
                        show am_E _ _ _ _ [some (.ref 39)] [] _ _
                        refine am_e35 hi_214_14 ?_
                        show am_E _ _ _ _ [some (.ref 39), some (.int 1), some (.int z835)] [] _ _
                        refine am_e35 hi_212_125 ?_
                        show am_E _ _ _ _ [some (.ref 39), some (.int r2), some (.int (f 4)), some (.int r861)] [] _ _
                        refine am_e18 hi_211_211 ?_
                        refine am_e35 hi_211_249 ?_
                        show am_E _ _ _ _ [some (.ref 39), some (.int 28), some (.int on), some (.int tw)] [] _ _
                        refine am_e18 hi_181_180 ?_
                        refine am_e35 hi_181_397 ?_
                        show am_E _ _ _ _ [some (.ref 39), some (.int 28), some (.int on), some (.int tw), some (.int th)] [] _ _
                        refine am_e35 hi_180_13 ?_
                        have q1 : mg_p1 (((23 : Int), (0 : Int), (0 : Int), (0 : Int), []) :: (((34 : Int), (1 : Int), (0 : Int), (0 : Int), []) :: (((32 : Int), (1 : Int), z835.toInt, (0 : Int), []) :: (((28 : Int), (0 : Int), (0 : Int), (0 : Int), []) :: gs)))) = 0 + (0 + (0 + (0 + (mg_p1 gs)))) := rfl
                        have q2 : mg_p2 (((23 : Int), (0 : Int), (0 : Int), (0 : Int), []) :: (((34 : Int), (1 : Int), (0 : Int), (0 : Int), []) :: (((32 : Int), (1 : Int), z835.toInt, (0 : Int), []) :: (((28 : Int), (0 : Int), (0 : Int), (0 : Int), []) :: gs)))) = 0 + (((1 : Int) - 1) + (0 + (0 + (mg_p2 gs)))) := rfl
                        have q3 : mg_p3 (((23 : Int), (0 : Int), (0 : Int), (0 : Int), []) :: (((34 : Int), (1 : Int), (0 : Int), (0 : Int), []) :: (((32 : Int), (1 : Int), z835.toInt, (0 : Int), []) :: (((28 : Int), (0 : Int), (0 : Int), (0 : Int), []) :: gs)))) = 1 + (1 + (1 + (1 + (mg_p3 gs)))) := rfl
                        have q4 : mg_p4 (((23 : Int), (0 : Int), (0 : Int), (0 : Int), []) :: (((34 : Int), (1 : Int), (0 : Int), (0 : Int), []) :: (((32 : Int), (1 : Int), z835.toInt, (0 : Int), []) :: (((28 : Int), (0 : Int), (0 : Int), (0 : Int), []) :: gs)))) = 0 + (0 + (0 + (0 + (mg_p4 gs)))) := rfl
                        refine ⟨_, _, _, bc, rfl, hS1447, Or.inl ⟨⟨(RJ.fewer (pj' := []) hR1450_ (fun _ h => nomatch h)), ?_, ?_⟩, rfl, ?_⟩⟩
                        · exact (⟨⟨(show mg_k 23 from by decide), (show (0 : Int) ≤ (f 15).toInt from by omega), (show 0 ≤ (f 20).toInt from by omega), (show 1 ≤ (f 37).toInt from by omega), (show 0 ≤ (f 32).toInt from by omega), (show (f 32).toInt ≤ y1401.toInt from by omega), (show y1401.toInt ≤ 48 from by omega), (show (f 37).toInt ≤ 2 * (y1401.toInt) + 2 from by omega), (show 0 ≤ (0 : Int) from by omega)⟩, ⟨⟨(show mg_k 34 from by decide), (show (1 : Int) ≤ (f 15).toInt + 1 from by omega), (show 0 ≤ (f 20).toInt from by omega), (show 1 ≤ (f 37).toInt + 0 from by omega), (show 0 ≤ (f 32).toInt + 0 from by omega), (show (f 32).toInt + 0 ≤ y1401.toInt + 0 from by omega), (show y1401.toInt + 0 ≤ 48 from by omega), (show (f 37).toInt + 0 ≤ 2 * (y1401.toInt + 0) + 2 from by omega), (show 1 ≤ (1 : Int) from by omega)⟩, ⟨⟨(show mg_k 32 from by decide), (show (2 : Int) ≤ (f 15).toInt + 1 + 0 from by omega), (show 0 ≤ (f 20).toInt from by omega), (show 1 ≤ (f 37).toInt + 0 + 0 from by omega), (show 0 ≤ (f 32).toInt + 0 + 0 from by omega), (show (f 32).toInt + 0 + 0 ≤ y1401.toInt + 0 + 0 from by omega), (show y1401.toInt + 0 + 0 ≤ 48 from by omega), (show (f 37).toInt + 0 + 0 ≤ 2 * (y1401.toInt + 0 + 0) + 2 from by omega), trivial⟩, ⟨⟨(show mg_k 28 from by decide), (show (1 : Int) ≤ (f 15).toInt + 1 + 0 + -1 from by omega), (show 0 ≤ (f 20).toInt from by omega), (show 1 ≤ (f 37).toInt + 0 + 0 + 0 from by omega), (show 0 ≤ (f 32).toInt + 0 + 0 + 0 from by omega), (show (f 32).toInt + 0 + 0 + 0 ≤ y1401.toInt + 0 + 0 + -1 from by omega), (show y1401.toInt + 0 + 0 + -1 ≤ 48 from by omega), (show (f 37).toInt + 0 + 0 + 0 ≤ 2 * (y1401.toInt + 0 + 0 + -1) + 2 from by omega), trivial⟩, mg_cast (mg_good_ext _ _ _ _ _ _ (fun i _ => by show g'1445 34 i = g 34 i; rw [show g'1445 34 = g'1436 34 from h1449_ 34 (by decide), show g'1436 34 = g'1427 34 from h1440_ 34 (by decide), show g'1427 34 = g'1376 34 from h1431_ 34 (by decide), show g'1376 34 = g'852 34 from h1380_ 34 (by decide), show g'852 34 = g'819 34 from h857_ 34 (by decide), show g'819 34 = g 34 from h827_ 34 (by decide)]) (fun i _ => by show g'1445 38 i = g 38 i; rw [show g'1445 38 = g'1436 38 from h1449_ 38 (by decide), show g'1436 38 = g'1427 38 from h1440_ 38 (by decide), show g'1427 38 = g'1376 38 from h1431_ 38 (by decide), show g'1376 38 = g'852 38 from h1380_ 38 (by decide), show g'852 38 = g'819 38 from h857_ 38 (by decide), show g'819 38 = g 38 from h827_ 38 (by decide)]) (fun i _ => by show g'1445 23 i = g 23 i; rw [show g'1445 23 = g'1436 23 from h1449_ 23 (by decide), show g'1436 23 = g'1427 23 from h1440_ 23 (by decide), show g'1427 23 = g'1376 23 from h1431_ 23 (by decide), show g'1376 23 = g'852 23 from h1380_ 23 (by decide), show g'852 23 = g'819 23 from h857_ 23 (by decide), show g'819 23 = g 23 from h827_ 23 (by decide)]) hrest) (by show (f 15).toInt + 0 = (f 15).toInt + 1 + 0 + -1 + 0; omega) (by show (f 20).toInt = (f 20).toInt; omega) (by show (f 37).toInt + 0 = (f 37).toInt + 0 + 0 + 0 + 0; omega) (by show (f 32).toInt + 0 = (f 32).toInt + 0 + 0 + 0 + 0; omega) (by show (f 5).toInt + 0 = y1401.toInt + 0 + 0 + -1 + 0; omega)⟩⟩⟩⟩ : mg_good (g'1445 34) (g'1445 38) (g'1445 23) (((23 : Int), (0 : Int), (0 : Int), (0 : Int), []) :: (((34 : Int), (1 : Int), (0 : Int), (0 : Int), []) :: (((32 : Int), (1 : Int), z835.toInt, (0 : Int), []) :: (((28 : Int), (0 : Int), (0 : Int), (0 : Int), []) :: gs)))) ((f 15).toInt) ((f 20).toInt) ((f 37).toInt) ((f 32).toInt) (y1401.toInt))
                        · exact ⟨(by show 0 ≤ z1400.toInt; omega), (by show z1400.toInt ≤ (f 0).toInt; omega), (by show (f 0).toInt ≤ 512; omega), (by show 0 ≤ (f 24).toInt; omega), (by show (f 24).toInt + (f 20).toInt + mg_p1 (((23 : Int), (0 : Int), (0 : Int), (0 : Int), []) :: (((34 : Int), (1 : Int), (0 : Int), (0 : Int), []) :: (((32 : Int), (1 : Int), z835.toInt, (0 : Int), []) :: (((28 : Int), (0 : Int), (0 : Int), (0 : Int), []) :: gs)))) ≤ 4 * z1400.toInt; omega), (by show (f 20).toInt ≤ z1400.toInt; omega), (by show (f 15).toInt + mg_p2 (((23 : Int), (0 : Int), (0 : Int), (0 : Int), []) :: (((34 : Int), (1 : Int), (0 : Int), (0 : Int), []) :: (((32 : Int), (1 : Int), z835.toInt, (0 : Int), []) :: (((28 : Int), (0 : Int), (0 : Int), (0 : Int), []) :: gs)))) ≤ z1400.toInt; omega), (by show mg_p3 (((23 : Int), (0 : Int), (0 : Int), (0 : Int), []) :: (((34 : Int), (1 : Int), (0 : Int), (0 : Int), []) :: (((32 : Int), (1 : Int), z835.toInt, (0 : Int), []) :: (((28 : Int), (0 : Int), (0 : Int), (0 : Int), []) :: gs)))) ≤ 20 * z1400.toInt + 20; omega), (by show 0 ≤ z850.toInt; omega), (by show z850.toInt + 3 * (f 20).toInt + mg_p4 (((23 : Int), (0 : Int), (0 : Int), (0 : Int), []) :: (((34 : Int), (1 : Int), (0 : Int), (0 : Int), []) :: (((32 : Int), (1 : Int), z835.toInt, (0 : Int), []) :: (((28 : Int), (0 : Int), (0 : Int), (0 : Int), []) :: gs)))) ≤ 60 * z1400.toInt + 60; omega), (by show 0 ≤ o816.toInt; omega), (by show o816.toInt + 64 * mj_n (g'1445 16) (f 15).toNatClampNeg 3 ≤ 64 * z1400.toInt; rw [show g'1445 16 = g'1436 16 from h1449_ 16 (by decide), show g'1436 16 = g'1427 16 from h1440_ 16 (by decide), show g'1427 16 = g'1376 16 from h1431_ 16 (by decide), show g'1376 16 = g'852 16 from h1380_ 16 (by decide), show g'852 16 = g'819 16 from h857_ 16 (by decide)]; omega), (by show 0 ≤ (f 44).toInt; omega), (by show (f 44).toInt ≤ z1400.toInt; omega), (by show 0 ≤ (f 48).toInt; omega), (by show (f 48).toInt ≤ z1400.toInt; omega), (by show 1 ≤ (f 53).toInt; omega), (by show (f 53).toInt ≤ z1400.toInt + 1; omega), (by show 0 ≤ (f 19).toInt; omega), (by show (f 19).toInt ≤ 600; omega), (by show 0 ≤ (f 6).toInt; omega), (by show 0 ≤ (f 8).toInt; omega)⟩
                        · show 100 * ((f 0).toInt - z1400.toInt) + mg_p3 (((23 : Int), (0 : Int), (0 : Int), (0 : Int), []) :: (((34 : Int), (1 : Int), (0 : Int), (0 : Int), []) :: (((32 : Int), (1 : Int), z835.toInt, (0 : Int), []) :: (((28 : Int), (0 : Int), (0 : Int), (0 : Int), []) :: gs)))) < 100 * ((f 0).toInt - (f 4).toInt) + (1 + mg_p3 gs); omega
                      · refine am_e13f hi_212_92 (am_cF (m := r1418.toInt) (n := (61 : Int)) rfl (by decide) c1423) ?_
                        refine am_e2 (v := 39) hi_212_95 rfl ?_
                        refine am_e0 hi_212_96 ?_
                        refine am_e32n (as := [.ref 39, .int 61]) (la := [some (.ref 39), some (.int 61)]) (rest := []) hi_212_98 (am_hd0 (M := 212) (by decide) 98) (Nat.le_of_ble_eq_true rfl) (Nat.le_of_ble_eq_true rfl) (show 2 ≤ am_P0.2.2.1 199 from by decide +kernel) rfl (am_recv_ok hS1420.fs) rfl rfl (ct_leave (d := (d + 1)) hS1420   (by show (0 : Int) ≤ z1400.toInt; omega) (by show (f 0).toInt ≤ (16384 : Int); omega) (by show (0 : Int) ≤ (61 : Int); omega) (by show (0 : Int) ≤ y1401.toInt; omega) (by show y1401.toInt ≤ (48 : Int); omega) (by show (0 : Int) ≤ (f 6).toInt; omega)) ?_
                        rintro v1451 S1452 (⟨z1453, y1454, hv1455, hS1456, h1457, h1458, h1459⟩ | ⟨a1461, b1462, hv1463, hS1464, h1465⟩)
                        · subst hv1455
                          have h1457_ : z1453.toInt = z1400.toInt + 1 := h1457
                          have h1458_ : z1400.toInt < (f 0).toInt := h1458
                          have h1459_ : y1454.toInt = y1401.toInt - 1 := h1459
                          replace hS1456 : MS S0 S1452 (upd (upd (upd (upd (upd (upd f 4 z1453) 5 y1454) 10 z1375) 62 o816) 68 z850) 75 m818) g'1376 := hS1456
                          have hR1467 : RJ (upd (upd (upd (upd (upd (upd f 4 z1453) 5 y1454) 10 z1375) 62 o816) 68 z850) 75 m818) g'1376 (((28 : Int), (0 : Int), (0 : Int), (0 : Int), []) :: gs) bc [] 0 (s817.toNatClampNeg :: []) := RJ.at hR1415 (by show z1400.toInt ≤ z1453.toInt; omega)
                          show am_E _ _ _ _ [some (.ref 39), some (.int 1), some (.int z835)] [.int 1] _ _
                          refine am_e6i hi_212_101 ?_
                          refine am_e2 (v := 39) hi_212_102 rfl ?_
                          refine am_e1 (v := 1) hi_212_103 rfl ?_
                          refine am_e0 hi_212_104 ?_
                          refine am_e1 (v := z835) hi_212_105 rfl ?_
                          refine am_e32w (as := [.ref 39, .int 1, .int 0, .int z835]) (la := [some (.ref 39), some (.int 1), some (.int 0), some (.int z835), none]) (rest := []) hi_212_106 (am_hd0 (M := 212) (by decide) 106) (Nat.le_of_ble_eq_true rfl) (Nat.le_of_ble_eq_true rfl) (show 4 ≤ am_P0.2.2.1 213 from by decide +kernel) rfl (am_recv_ok hS1456.fs) rfl rfl ?_
                          refine am_e2 (v := 39) hi_213_0 rfl ?_
                          refine am_e0 hi_213_1 ?_
                          refine am_e1 (v := 1) hi_213_3 rfl ?_
                          refine am_e1 (v := 0) hi_213_4 rfl ?_
                          refine am_e0 hi_213_5 ?_
                          refine am_e10 (z := 2) hi_213_6 (by decide) ?_
                          refine am_e1 (v := z835) hi_213_7 rfl ?_
                          refine am_e32n (as := [.ref 39, .int 13, .int 1, .int 2, .int z835]) (la := [some (.ref 39), some (.int 13), some (.int 1), some (.int 2), some (.int z835)]) (rest := []) hi_213_8 (am_hd0 (M := 213) (by decide) 8) (Nat.le_of_ble_eq_true rfl) (Nat.le_of_ble_eq_true rfl) (show 5 ≤ am_P0.2.2.1 189 from by decide +kernel) rfl (am_recv_ok hS1456.fs) rfl rfl (ct_put (d := (d + 3)) hS1456 hR1467  (by show (0 : Int) ≤ (f 32).toInt; omega) (by show (f 32).toInt ≤ (63 : Int); omega) (by show (f 53).toInt ≤ (4096 : Int); omega) (by show (0 : Int) ≤ z850.toInt; omega) (by show z850.toInt ≤ (65534 : Int); omega)) ?_
                          rintro v1468 S1469 (⟨z1470, r1471, g'1472, hv1473, hS1474, hR1478, h1475, h1476, h1477⟩)
                          subst hv1473
                          have h1475_ : z1470.toInt = z850.toInt + 1 := h1475
                          have h1476_ : r1471.toInt = z850.toInt := h1476
                          have h1477_ : ∀ j, j ∉ [60, 69, 70, 71, 72, 73] → g'1472 j = g'1376 j := h1477
                          replace hS1474 : MS S0 S1469 (upd (upd (upd (upd (upd (upd f 4 z1453) 5 y1454) 10 z1375) 62 o816) 68 z1470) 75 m818) g'1472 := hS1474
                          have hR1478_ : RJ (upd (upd (upd (upd (upd (upd f 4 z1453) 5 y1454) 10 z1375) 62 o816) 68 z1470) 75 m818) g'1472 (((28 : Int), (0 : Int), (0 : Int), (0 : Int), []) :: gs) bc [] 0 (z850.toNatClampNeg :: (s817.toNatClampNeg :: [])) := hR1478
                          show am_E _ _ _ _ [some (.ref 39), some (.int 1), some (.int 0), some (.int z835), none] [.int r1471] _ _
                          refine am_e3 (ls' := [some (.ref 39), some (.int 1), some (.int 0), some (.int z835), some (.int r1471)]) hi_213_11 (Nat.le_of_ble_eq_true rfl) rfl ?_
                          refine am_e2 (v := 39) hi_213_13 rfl ?_
                          refine am_e7 hi_213_14 ?_
                          refine mm_20 (v := .int (f 15)) hS1474 hi_213_15 rfl ?_
                          refine am_e0 hi_213_18 ?_
                          obtain ⟨z1479, hz1479, tz1479⟩ := am_subI (x := f 15) (y := 1) (m := (f 15).toInt) (n := (1 : Int)) rfl (by decide) (by omega) (by omega)
                          refine am_e10 (z := z1479) hi_213_19 hz1479 ?_
                          refine mm_21 (v := z1479) hS1474 hi_213_20 rfl (Nat.le_of_ble_eq_true rfl) ms_15 ?_
                          intro S1480 hS1481
                          replace hS1481 : MS S0 S1480 (upd (upd (upd (upd (upd (upd (upd f 4 z1453) 5 y1454) 10 z1375) 15 z1479) 62 o816) 68 z1470) 75 m818) g'1472 := hS1481
                          have hp1482 : mj_n (g'819 16) (f 15).toNatClampNeg 3 = mj_n (g'819 16) z1479.toNatClampNeg 3 + if (g'819 16 z1479.toNatClampNeg).toInt = 3 then 1 else 0 := mj_pop (by rw [cl_toNat, cl_toNat]; omega)
                          have hp14821 : mj_n (g'819 16) z1479.toNatClampNeg 3 ≤ mj_n (g'819 16) (f 15).toNatClampNeg 3 := by rw [hp1482]; split <;> omega
                          have hp14822 : (g'819 16 z1479.toNatClampNeg).toInt = 3 → mj_n (g'819 16) z1479.toNatClampNeg 3 + 1 ≤ mj_n (g'819 16) (f 15).toNatClampNeg 3 := fun q => by rw [hp1482, if_pos q]; exact Int.le_refl _
                          refine am_e2 (v := 39) hi_213_23 rfl ?_
                          refine am_e0 hi_213_24 ?_
                          refine am_e1 (v := r1471) hi_213_25 rfl ?_
                          refine am_e1 (v := z835) hi_213_27 rfl ?_
                          refine am_e32n (as := [.ref 39, .int 1, .int r1471, .int z835]) (la := [some (.ref 39), some (.int 1), some (.int r1471), some (.int z835)]) (rest := []) hi_213_28 (am_hd0 (M := 213) (by decide) 28) (Nat.le_of_ble_eq_true rfl) (Nat.le_of_ble_eq_true rfl) (show 4 ≤ am_P0.2.2.1 190 from by decide +kernel) rfl (am_recv_ok hS1481.fs) rfl rfl (ct_value (d := (d + 3)) hS1481 hR1478_ (fun h => absurd h (by decide)) (fun _ => ⟨by omega, by omega⟩) (by show (0 : Int) ≤ z1479.toInt; omega) (by show z1479.toInt ≤ (32767 : Int); omega)) ?_
                          rintro v1483 S1484 (⟨z1485, g'1486, hv1487, hS1488, hR1493, h1489, h1490, h1491, h1492⟩)
                          subst hv1487
                          have h1489_ : z1485.toInt = z1479.toInt + 1 := h1489
                          have h1490_ : ∀ j, j ∉ [16, 17, 18] → g'1486 j = g'1472 j := h1490
                          have h1491_ : mj_n (g'1486 16) z1485.toNatClampNeg 3 ≤ mj_n (g'819 16) z1479.toNatClampNeg 3 + 1 := by rw [show g'1472 16 = g'1376 16 from h1477_ 16 (by decide), show g'1376 16 = g'852 16 from h1380_ 16 (by decide), show g'852 16 = g'819 16 from h857_ 16 (by decide)] at h1491; exact h1491
                          have h1492_ : (1 : Int) = 3 ∨ mj_n (g'1486 16) z1485.toNatClampNeg 3 ≤ mj_n (g'819 16) z1479.toNatClampNeg 3 := by rw [show g'1472 16 = g'1376 16 from h1477_ 16 (by decide), show g'1376 16 = g'852 16 from h1380_ 16 (by decide), show g'852 16 = g'819 16 from h857_ 16 (by decide)] at h1492; exact h1492
                          replace hS1488 : MS S0 S1484 (upd (upd (upd (upd (upd (upd (upd f 4 z1453) 5 y1454) 10 z1375) 15 z1485) 62 o816) 68 z1470) 75 m818) g'1486 := hS1488
                          have hR1493_ : RJ (upd (upd (upd (upd (upd (upd (upd f 4 z1453) 5 y1454) 10 z1375) 15 z1485) 62 o816) 68 z1470) 75 m818) g'1486 (((28 : Int), (0 : Int), (0 : Int), (0 : Int), []) :: gs) bc [] 0 (z850.toNatClampNeg :: (s817.toNatClampNeg :: [])) := hR1493
                          show am_E _ _ _ _ [some (.ref 39), some (.int 1), some (.int 0), some (.int z835), some (.int r1471)] [] _ _
                          refine am_e35 hi_213_31 ?_
                          show am_E _ _ _ _ [some (.ref 39), some (.int 1), some (.int z835)] [] _ _
                          refine am_e18 hi_212_109 ?_
                          refine am_e35 hi_212_125 ?_
                          show am_E _ _ _ _ [some (.ref 39), some (.int r2), some (.int (f 4)), some (.int r861)] [] _ _
                          refine am_e18 hi_211_211 ?_
                          refine am_e35 hi_211_249 ?_
                          show am_E _ _ _ _ [some (.ref 39), some (.int 28), some (.int on), some (.int tw)] [] _ _
                          refine am_e18 hi_181_180 ?_
                          refine am_e35 hi_181_397 ?_
                          show am_E _ _ _ _ [some (.ref 39), some (.int 28), some (.int on), some (.int tw), some (.int th)] [] _ _
                          refine am_e35 hi_180_13 ?_
                          have q1 : mg_p1 (((28 : Int), (0 : Int), (0 : Int), (0 : Int), []) :: gs) = 0 + (mg_p1 gs) := rfl
                          have q2 : mg_p2 (((28 : Int), (0 : Int), (0 : Int), (0 : Int), []) :: gs) = 0 + (mg_p2 gs) := rfl
                          have q3 : mg_p3 (((28 : Int), (0 : Int), (0 : Int), (0 : Int), []) :: gs) = 1 + (mg_p3 gs) := rfl
                          have q4 : mg_p4 (((28 : Int), (0 : Int), (0 : Int), (0 : Int), []) :: gs) = 0 + (mg_p4 gs) := rfl
                          refine ⟨_, _, _, bc, rfl, hS1488, Or.inl ⟨⟨(RJ.fewer (pj' := []) hR1493_ (fun _ h => nomatch h)), ?_, ?_⟩, rfl, ?_⟩⟩
                          · exact (⟨⟨(show mg_k 28 from by decide), (show (1 : Int) ≤ z1485.toInt from by omega), (show 0 ≤ (f 20).toInt from by omega), (show 1 ≤ (f 37).toInt from by omega), (show 0 ≤ (f 32).toInt from by omega), (show (f 32).toInt ≤ y1454.toInt from by omega), (show y1454.toInt ≤ 48 from by omega), (show (f 37).toInt ≤ 2 * (y1454.toInt) + 2 from by omega), trivial⟩, mg_cast (mg_good_ext _ _ _ _ _ _ (fun i _ => by show g'1486 34 i = g 34 i; rw [show g'1486 34 = g'1472 34 from h1490_ 34 (by decide), show g'1472 34 = g'1376 34 from h1477_ 34 (by decide), show g'1376 34 = g'852 34 from h1380_ 34 (by decide), show g'852 34 = g'819 34 from h857_ 34 (by decide), show g'819 34 = g 34 from h827_ 34 (by decide)]) (fun i _ => by show g'1486 38 i = g 38 i; rw [show g'1486 38 = g'1472 38 from h1490_ 38 (by decide), show g'1472 38 = g'1376 38 from h1477_ 38 (by decide), show g'1376 38 = g'852 38 from h1380_ 38 (by decide), show g'852 38 = g'819 38 from h857_ 38 (by decide), show g'819 38 = g 38 from h827_ 38 (by decide)]) (fun i _ => by show g'1486 23 i = g 23 i; rw [show g'1486 23 = g'1472 23 from h1490_ 23 (by decide), show g'1472 23 = g'1376 23 from h1477_ 23 (by decide), show g'1376 23 = g'852 23 from h1380_ 23 (by decide), show g'852 23 = g'819 23 from h857_ 23 (by decide), show g'819 23 = g 23 from h827_ 23 (by decide)]) hrest) (by show (f 15).toInt + 0 = z1485.toInt + 0; omega) (by show (f 20).toInt = (f 20).toInt; omega) (by show (f 37).toInt + 0 = (f 37).toInt + 0; omega) (by show (f 32).toInt + 0 = (f 32).toInt + 0; omega) (by show (f 5).toInt + 0 = y1454.toInt + 0; omega)⟩ : mg_good (g'1486 34) (g'1486 38) (g'1486 23) (((28 : Int), (0 : Int), (0 : Int), (0 : Int), []) :: gs) (z1485.toInt) ((f 20).toInt) ((f 37).toInt) ((f 32).toInt) (y1454.toInt))
                          · exact ⟨(by show 0 ≤ z1453.toInt; omega), (by show z1453.toInt ≤ (f 0).toInt; omega), (by show (f 0).toInt ≤ 512; omega), (by show 0 ≤ (f 24).toInt; omega), (by show (f 24).toInt + (f 20).toInt + mg_p1 (((28 : Int), (0 : Int), (0 : Int), (0 : Int), []) :: gs) ≤ 4 * z1453.toInt; omega), (by show (f 20).toInt ≤ z1453.toInt; omega), (by show z1485.toInt + mg_p2 (((28 : Int), (0 : Int), (0 : Int), (0 : Int), []) :: gs) ≤ z1453.toInt; omega), (by show mg_p3 (((28 : Int), (0 : Int), (0 : Int), (0 : Int), []) :: gs) ≤ 20 * z1453.toInt + 20; omega), (by show 0 ≤ z1470.toInt; omega), (by show z1470.toInt + 3 * (f 20).toInt + mg_p4 (((28 : Int), (0 : Int), (0 : Int), (0 : Int), []) :: gs) ≤ 60 * z1453.toInt + 60; omega), (by show 0 ≤ o816.toInt; omega), (by show o816.toInt + 64 * mj_n (g'1486 16) z1485.toNatClampNeg 3 ≤ 64 * z1453.toInt; omega), (by show 0 ≤ (f 44).toInt; omega), (by show (f 44).toInt ≤ z1453.toInt; omega), (by show 0 ≤ (f 48).toInt; omega), (by show (f 48).toInt ≤ z1453.toInt; omega), (by show 1 ≤ (f 53).toInt; omega), (by show (f 53).toInt ≤ z1453.toInt + 1; omega), (by show 0 ≤ (f 19).toInt; omega), (by show (f 19).toInt ≤ 600; omega), (by show 0 ≤ (f 6).toInt; omega), (by show 0 ≤ (f 8).toInt; omega)⟩
                          · show 100 * ((f 0).toInt - z1453.toInt) + mg_p3 (((28 : Int), (0 : Int), (0 : Int), (0 : Int), []) :: gs) < 100 * ((f 0).toInt - (f 4).toInt) + (1 + mg_p3 gs); omega
                        · subst hv1463
                          have h1465_ : (0 : Int) ≤ a1461.toInt := h1465
                          replace hS1464 : MS S0 S1452 (upd (upd (upd (upd (upd (upd (upd (upd f 4 z1400) 5 y1401) 6 a1461) 7 b1462) 10 0) 62 o816) 68 z850) 75 m818) g'1376 := hS1464
                          have hR1494 := rj_clear0 hR1415
                          have hR1495 : RJ (upd (upd (upd (upd (upd (upd (upd (upd f 4 z1400) 5 y1401) 6 a1461) 7 b1462) 10 0) 62 o816) 68 z850) 75 m818) g'1376 [] bc [] 0 [] := hR1494
                          show am_E _ _ _ _ [some (.ref 39), some (.int 1), some (.int z835)] [.int 0] _ _
                          refine am_e6i hi_212_101 ?_
                          refine am_e2 (v := 39) hi_212_102 rfl ?_
                          refine am_e1 (v := 1) hi_212_103 rfl ?_
                          refine am_e0 hi_212_104 ?_
                          refine am_e1 (v := z835) hi_212_105 rfl ?_
                          refine am_e32w (as := [.ref 39, .int 1, .int 0, .int z835]) (la := [some (.ref 39), some (.int 1), some (.int 0), some (.int z835), none]) (rest := []) hi_212_106 (am_hd0 (M := 212) (by decide) 106) (Nat.le_of_ble_eq_true rfl) (Nat.le_of_ble_eq_true rfl) (show 4 ≤ am_P0.2.2.1 213 from by decide +kernel) rfl (am_recv_ok hS1464.fs) rfl rfl ?_
                          refine am_e2 (v := 39) hi_213_0 rfl ?_
                          refine am_e0 hi_213_1 ?_
                          refine am_e1 (v := 1) hi_213_3 rfl ?_
                          refine am_e1 (v := 0) hi_213_4 rfl ?_
                          refine am_e0 hi_213_5 ?_
                          refine am_e10 (z := 2) hi_213_6 (by decide) ?_
                          refine am_e1 (v := z835) hi_213_7 rfl ?_
                          refine am_e32n (as := [.ref 39, .int 13, .int 1, .int 2, .int z835]) (la := [some (.ref 39), some (.int 13), some (.int 1), some (.int 2), some (.int z835)]) (rest := []) hi_213_8 (am_hd0 (M := 213) (by decide) 8) (Nat.le_of_ble_eq_true rfl) (Nat.le_of_ble_eq_true rfl) (show 5 ≤ am_P0.2.2.1 189 from by decide +kernel) rfl (am_recv_ok hS1464.fs) rfl rfl (ct_put (d := (d + 3)) hS1464 hR1495  (by show (0 : Int) ≤ (f 32).toInt; omega) (by show (f 32).toInt ≤ (63 : Int); omega) (by show (f 53).toInt ≤ (4096 : Int); omega) (by show (0 : Int) ≤ z850.toInt; omega) (by show z850.toInt ≤ (65534 : Int); omega)) ?_
                          rintro v1496 S1497 (⟨z1498, r1499, g'1500, hv1501, hS1502, hR1506, h1503, h1504, h1505⟩)
                          subst hv1501
                          have h1503_ : z1498.toInt = z850.toInt + 1 := h1503
                          have h1504_ : r1499.toInt = z850.toInt := h1504
                          have h1505_ : ∀ j, j ∉ [60, 69, 70, 71, 72, 73] → g'1500 j = g'1376 j := h1505
                          replace hS1502 : MS S0 S1497 (upd (upd (upd (upd (upd (upd (upd (upd f 4 z1400) 5 y1401) 6 a1461) 7 b1462) 10 0) 62 o816) 68 z1498) 75 m818) g'1500 := hS1502
                          have hR1506_ : RJ (upd (upd (upd (upd (upd (upd (upd (upd f 4 z1400) 5 y1401) 6 a1461) 7 b1462) 10 0) 62 o816) 68 z1498) 75 m818) g'1500 [] bc [] 0 (z850.toNatClampNeg :: []) := hR1506
                          show am_E _ _ _ _ [some (.ref 39), some (.int 1), some (.int 0), some (.int z835), none] [.int r1499] _ _
                          refine am_e3 (ls' := [some (.ref 39), some (.int 1), some (.int 0), some (.int z835), some (.int r1499)]) hi_213_11 (Nat.le_of_ble_eq_true rfl) rfl ?_
                          refine am_e2 (v := 39) hi_213_13 rfl ?_
                          refine am_e7 hi_213_14 ?_
                          refine mm_20 (v := .int (f 15)) hS1502 hi_213_15 rfl ?_
                          refine am_e0 hi_213_18 ?_
                          obtain ⟨z1507, hz1507, tz1507⟩ := am_subI (x := f 15) (y := 1) (m := (f 15).toInt) (n := (1 : Int)) rfl (by decide) (by omega) (by omega)
                          refine am_e10 (z := z1507) hi_213_19 hz1507 ?_
                          refine mm_21 (v := z1507) hS1502 hi_213_20 rfl (Nat.le_of_ble_eq_true rfl) ms_15 ?_
                          intro S1508 hS1509
                          replace hS1509 : MS S0 S1508 (upd (upd (upd (upd (upd (upd (upd (upd (upd f 4 z1400) 5 y1401) 6 a1461) 7 b1462) 10 0) 15 z1507) 62 o816) 68 z1498) 75 m818) g'1500 := hS1509
                          have hp1510 : mj_n (g'819 16) (f 15).toNatClampNeg 3 = mj_n (g'819 16) z1507.toNatClampNeg 3 + if (g'819 16 z1507.toNatClampNeg).toInt = 3 then 1 else 0 := mj_pop (by rw [cl_toNat, cl_toNat]; omega)
                          have hp15101 : mj_n (g'819 16) z1507.toNatClampNeg 3 ≤ mj_n (g'819 16) (f 15).toNatClampNeg 3 := by rw [hp1510]; split <;> omega
                          have hp15102 : (g'819 16 z1507.toNatClampNeg).toInt = 3 → mj_n (g'819 16) z1507.toNatClampNeg 3 + 1 ≤ mj_n (g'819 16) (f 15).toNatClampNeg 3 := fun q => by rw [hp1510, if_pos q]; exact Int.le_refl _
                          refine am_e2 (v := 39) hi_213_23 rfl ?_
                          refine am_e0 hi_213_24 ?_
                          refine am_e1 (v := r1499) hi_213_25 rfl ?_
                          refine am_e1 (v := z835) hi_213_27 rfl ?_
                          refine am_e32n (as := [.ref 39, .int 1, .int r1499, .int z835]) (la := [some (.ref 39), some (.int 1), some (.int r1499), some (.int z835)]) (rest := []) hi_213_28 (am_hd0 (M := 213) (by decide) 28) (Nat.le_of_ble_eq_true rfl) (Nat.le_of_ble_eq_true rfl) (show 4 ≤ am_P0.2.2.1 190 from by decide +kernel) rfl (am_recv_ok hS1509.fs) rfl rfl (ct_value (d := (d + 3)) hS1509 hR1506_ (fun h => absurd h (by decide)) (fun _ => ⟨by omega, by omega⟩) (by show (0 : Int) ≤ z1507.toInt; omega) (by show z1507.toInt ≤ (32767 : Int); omega)) ?_
                          rintro v1511 S1512 (⟨z1513, g'1514, hv1515, hS1516, hR1521, h1517, h1518, h1519, h1520⟩)
                          subst hv1515
                          have h1517_ : z1513.toInt = z1507.toInt + 1 := h1517
                          have h1518_ : ∀ j, j ∉ [16, 17, 18] → g'1514 j = g'1500 j := h1518
                          have h1519_ : mj_n (g'1514 16) z1513.toNatClampNeg 3 ≤ mj_n (g'819 16) z1507.toNatClampNeg 3 + 1 := by rw [show g'1500 16 = g'1376 16 from h1505_ 16 (by decide), show g'1376 16 = g'852 16 from h1380_ 16 (by decide), show g'852 16 = g'819 16 from h857_ 16 (by decide)] at h1519; exact h1519
                          have h1520_ : (1 : Int) = 3 ∨ mj_n (g'1514 16) z1513.toNatClampNeg 3 ≤ mj_n (g'819 16) z1507.toNatClampNeg 3 := by rw [show g'1500 16 = g'1376 16 from h1505_ 16 (by decide), show g'1376 16 = g'852 16 from h1380_ 16 (by decide), show g'852 16 = g'819 16 from h857_ 16 (by decide)] at h1520; exact h1520
                          replace hS1516 : MS S0 S1512 (upd (upd (upd (upd (upd (upd (upd (upd (upd f 4 z1400) 5 y1401) 6 a1461) 7 b1462) 10 0) 15 z1513) 62 o816) 68 z1498) 75 m818) g'1514 := hS1516
                          have hR1521_ : RJ (upd (upd (upd (upd (upd (upd (upd (upd (upd f 4 z1400) 5 y1401) 6 a1461) 7 b1462) 10 0) 15 z1513) 62 o816) 68 z1498) 75 m818) g'1514 [] bc [] 0 (z850.toNatClampNeg :: []) := hR1521
                          show am_E _ _ _ _ [some (.ref 39), some (.int 1), some (.int 0), some (.int z835), some (.int r1499)] [] _ _
                          refine am_e35 hi_213_31 ?_
                          show am_E _ _ _ _ [some (.ref 39), some (.int 1), some (.int z835)] [] _ _
                          refine am_e18 hi_212_109 ?_
                          refine am_e35 hi_212_125 ?_
                          show am_E _ _ _ _ [some (.ref 39), some (.int r2), some (.int (f 4)), some (.int r861)] [] _ _
                          refine am_e18 hi_211_211 ?_
                          refine am_e35 hi_211_249 ?_
                          show am_E _ _ _ _ [some (.ref 39), some (.int 28), some (.int on), some (.int tw)] [] _ _
                          refine am_e18 hi_181_180 ?_
                          refine am_e35 hi_181_397 ?_
                          show am_E _ _ _ _ [some (.ref 39), some (.int 28), some (.int on), some (.int tw), some (.int th)] [] _ _
                          refine am_e35 hi_180_13 ?_
                          have hRc := rj_clear0 hR1521_
                          refine ⟨_, _, [], _, rfl, hS1516, Or.inr ⟨hRc, rfl, (by show 0 ≤ z1400.toInt; omega), (by show z1400.toInt ≤ (f 0).toInt; omega), (by show 0 ≤ (f 32).toInt; omega), (by show (f 32).toInt ≤ 63; omega), (by show 1 ≤ (f 53).toInt; omega), (by show (f 53).toInt ≤ 600; omega), (by show 0 ≤ z1498.toInt; omega), (by show z1498.toInt ≤ 60000; omega), (by show 0 ≤ (f 48).toInt; omega), (by show (f 48).toInt ≤ 8000; omega), (by show 0 ≤ (f 37).toInt; omega), (by show (f 37).toInt ≤ 128; omega), (by show 0 ≤ o816.toInt; omega), (by show o816.toInt ≤ 65000; omega), (by show 0 ≤ (f 19).toInt; omega), (by show (f 19).toInt ≤ 600; omega), (by show 0 ≤ a1461.toInt; omega), (by show 0 ≤ (f 8).toInt; omega)⟩⟩
                    · subst hv1411
                      have h1413_ : (0 : Int) ≤ a1409.toInt := h1413
                      replace hS1412 : MS S0 S1399 (upd (upd (upd (upd (upd (upd (upd f 4 z835) 6 a1409) 7 b1410) 10 0) 62 o816) 68 z850) 75 m818) g'1376 := hS1412
                      have hR1522 := rj_clear0 hR1381_
                      have hR1523 : RJ (upd (upd (upd (upd (upd (upd (upd f 4 z835) 6 a1409) 7 b1410) 10 0) 62 o816) 68 z850) 75 m818) g'1376 [] bc [] 0 [] := hR1522
                      show am_E _ _ _ _ [some (.ref 39), some (.int 1), some (.int z835)] [.int 0] _ _
                      refine am_e12t hi_212_83 (by decide) ?_
                      refine am_e35 hi_212_125 ?_
                      show am_E _ _ _ _ [some (.ref 39), some (.int r2), some (.int (f 4)), some (.int r861)] [] _ _
                      refine am_e18 hi_211_211 ?_
                      refine am_e35 hi_211_249 ?_
                      show am_E _ _ _ _ [some (.ref 39), some (.int 28), some (.int on), some (.int tw)] [] _ _
                      refine am_e18 hi_181_180 ?_
                      refine am_e35 hi_181_397 ?_
                      show am_E _ _ _ _ [some (.ref 39), some (.int 28), some (.int on), some (.int tw), some (.int th)] [] _ _
                      refine am_e35 hi_180_13 ?_
                      have hRc := rj_clear0 hR1523
                      refine ⟨_, _, [], _, rfl, hS1412, Or.inr ⟨hRc, rfl, (by show 0 ≤ z835.toInt; omega), (by show z835.toInt ≤ (f 0).toInt; omega), (by show 0 ≤ (f 32).toInt; omega), (by show (f 32).toInt ≤ 63; omega), (by show 1 ≤ (f 53).toInt; omega), (by show (f 53).toInt ≤ 600; omega), (by show 0 ≤ z850.toInt; omega), (by show z850.toInt ≤ 60000; omega), (by show 0 ≤ (f 48).toInt; omega), (by show (f 48).toInt ≤ 8000; omega), (by show 0 ≤ (f 37).toInt; omega), (by show (f 37).toInt ≤ 128; omega), (by show 0 ≤ o816.toInt; omega), (by show o816.toInt ≤ 65000; omega), (by show 0 ≤ (f 19).toInt; omega), (by show (f 19).toInt ≤ 600; omega), (by show 0 ≤ a1409.toInt; omega), (by show 0 ≤ (f 8).toInt; omega)⟩⟩
                  · refine am_e13f hi_212_58 (am_cF (m := r1392.toInt) (n := (62 : Int)) rfl (by decide) c1397) ?_
                    refine am_e2 (v := 39) hi_212_61 rfl ?_
                    refine am_e0 hi_212_62 ?_
                    refine am_e1 (v := 1) hi_212_64 rfl ?_
                    refine am_e1 (v := z835) hi_212_65 rfl ?_
                    refine am_e0 hi_212_66 ?_
                    refine am_e32n (as := [.ref 39, .int 33, .int 1, .int z835, .int 0]) (la := [some (.ref 39), some (.int 33), some (.int 1), some (.int z835), some (.int 0)]) (rest := []) hi_212_67 (am_hd0 (M := 212) (by decide) 67) (Nat.le_of_ble_eq_true rfl) (Nat.le_of_ble_eq_true rfl) (show 5 ≤ am_P0.2.2.1 179 from by decide +kernel) rfl (am_recv_ok hS1394.fs) rfl rfl (ct_pile (d := (d + 4)) hS1394 hR1381_ (mj_e_plain (by decide)) (by show (0 : Int) ≤ z1375.toInt; omega) (by show z1375.toInt ≤ (65535 : Int); omega)) ?_
                    rintro v1524 S1525 (⟨z1526, g'1527, hv1528, hS1529, hR1532, h1530, h1531⟩)
                    subst hv1528
                    have h1530_ : z1526.toInt = z1375.toInt + 1 := h1530
                    have h1531_ : ∀ j, j ∉ [11, 12, 13, 14] → g'1527 j = g'1376 j := h1531
                    replace hS1529 : MS S0 S1525 (upd (upd (upd (upd (upd f 4 z835) 10 z1526) 62 o816) 68 z850) 75 m818) g'1527 := hS1529
                    have hR1532_ : RJ (upd (upd (upd (upd (upd f 4 z835) 10 z1526) 62 o816) 68 z850) 75 m818) g'1527 (((33 : Int), (1 : Int), z835.toInt, (0 : Int), []) :: (((28 : Int), (0 : Int), (0 : Int), (0 : Int), []) :: gs)) bc [] 0 (s817.toNatClampNeg :: []) := hR1532
                    show am_E _ _ _ _ [some (.ref 39), some (.int 1), some (.int z835)] [] _ _
                    refine am_e2 (v := 39) hi_212_70 rfl ?_
                    refine am_e32w (as := [.ref 39]) (la := [some (.ref 39), none]) (rest := []) hi_212_71 (am_hd0 (M := 212) (by decide) 71) (Nat.le_of_ble_eq_true rfl) (Nat.le_of_ble_eq_true rfl) (show 1 ≤ am_P0.2.2.1 192 from by decide +kernel) rfl (am_recv_ok hS1529.fs) rfl rfl ?_
                    refine am_e2 (v := 39) hi_192_0 rfl ?_
                    refine mm_20 (v := .int z835) hS1529 hi_192_1 rfl ?_
                    refine am_e3 (ls' := [some (.ref 39), some (.int z835)]) hi_192_4 (Nat.le_of_ble_eq_true rfl) rfl ?_
                    refine am_e2 (v := 39) hi_192_5 rfl ?_
                    refine am_e0 hi_192_6 ?_
                    refine am_e32n (as := [.ref 39, .int 62]) (la := [some (.ref 39), some (.int 62)]) (rest := []) hi_192_8 (am_hd0 (M := 192) (by decide) 8) (Nat.le_of_ble_eq_true rfl) (Nat.le_of_ble_eq_true rfl) (show 2 ≤ am_P0.2.2.1 193 from by decide +kernel) rfl (am_recv_ok hS1529.fs) rfl rfl (ct_enter (d := (d + 1)) hS1529   (by show (0 : Int) ≤ z835.toInt; omega) (by show (f 0).toInt ≤ (16384 : Int); omega) (by show (0 : Int) ≤ (62 : Int); omega) (by show (0 : Int) ≤ (f 5).toInt; omega) (by show (f 5).toInt ≤ (48 : Int); omega) (by show (0 : Int) ≤ (f 6).toInt; omega)) ?_
                    rintro v1533 S1534 (⟨z1535, y1536, hv1537, hS1538, h1539, h1540, h1541, h1542⟩ | ⟨a1544, b1545, hv1546, hS1547, h1548⟩)
                    · subst hv1537
                      have h1539_ : z1535.toInt = z835.toInt + 1 := h1539
                      have h1540_ : z835.toInt < (f 0).toInt := h1540
                      have h1541_ : y1536.toInt = (f 5).toInt + 1 := h1541
                      have h1542_ : y1536.toInt ≤ (48 : Int) := h1542
                      replace hS1538 : MS S0 S1534 (upd (upd (upd (upd (upd (upd f 4 z1535) 5 y1536) 10 z1526) 62 o816) 68 z850) 75 m818) g'1527 := hS1538
                      have hR1550 : RJ (upd (upd (upd (upd (upd (upd f 4 z1535) 5 y1536) 10 z1526) 62 o816) 68 z850) 75 m818) g'1527 (((33 : Int), (1 : Int), z835.toInt, (0 : Int), []) :: (((28 : Int), (0 : Int), (0 : Int), (0 : Int), []) :: gs)) bc [] 0 (s817.toNatClampNeg :: []) := RJ.at hR1532_ (by show z835.toInt ≤ z1535.toInt; omega)
                      show am_E _ _ _ _ [some (.ref 39), some (.int z835)] [.int 1] _ _
                      refine am_e12t hi_192_11 (by decide) ?_
                      refine am_e2 (v := 39) hi_192_15 rfl ?_
                      refine am_e0 hi_192_16 ?_
                      refine am_e0 hi_192_18 ?_
                      refine am_e0 hi_192_19 ?_
                      refine am_e1 (v := z835) hi_192_20 rfl ?_
                      refine am_e32n (as := [.ref 39, .int 20, .int 0, .int 0, .int z835]) (la := [some (.ref 39), some (.int 20), some (.int 0), some (.int 0), some (.int z835)]) (rest := []) hi_192_21 (am_hd0 (M := 192) (by decide) 21) (Nat.le_of_ble_eq_true rfl) (Nat.le_of_ble_eq_true rfl) (show 5 ≤ am_P0.2.2.1 189 from by decide +kernel) rfl (am_recv_ok hS1538.fs) rfl rfl (ct_put (d := (d + 3)) hS1538 hR1550  (by show (0 : Int) ≤ (f 32).toInt; omega) (by show (f 32).toInt ≤ (63 : Int); omega) (by show (f 53).toInt ≤ (4096 : Int); omega) (by show (0 : Int) ≤ z850.toInt; omega) (by show z850.toInt ≤ (65534 : Int); omega)) ?_
                      rintro v1551 S1552 (⟨z1553, r1554, g'1555, hv1556, hS1557, hR1561, h1558, h1559, h1560⟩)
                      subst hv1556
                      have h1558_ : z1553.toInt = z850.toInt + 1 := h1558
                      have h1559_ : r1554.toInt = z850.toInt := h1559
                      have h1560_ : ∀ j, j ∉ [60, 69, 70, 71, 72, 73] → g'1555 j = g'1527 j := h1560
                      replace hS1557 : MS S0 S1552 (upd (upd (upd (upd (upd (upd f 4 z1535) 5 y1536) 10 z1526) 62 o816) 68 z1553) 75 m818) g'1555 := hS1557
                      have hR1561_ : RJ (upd (upd (upd (upd (upd (upd f 4 z1535) 5 y1536) 10 z1526) 62 o816) 68 z1553) 75 m818) g'1555 (((33 : Int), (1 : Int), z835.toInt, (0 : Int), []) :: (((28 : Int), (0 : Int), (0 : Int), (0 : Int), []) :: gs)) bc [] 0 (z850.toNatClampNeg :: (s817.toNatClampNeg :: [])) := hR1561
                      show am_E _ _ _ _ [some (.ref 39), some (.int z835)] [.int r1554] _ _
                      refine am_e6i hi_192_24 ?_
                      refine am_e2 (v := 39) hi_192_25 rfl ?_
                      refine am_e0 hi_192_26 ?_
                      refine am_e0 hi_192_27 ?_
                      refine am_e0 hi_192_28 ?_
                      refine am_e32n (as := [.ref 39, .int 0, .int 0, .int 0]) (la := [some (.ref 39), some (.int 0), some (.int 0), some (.int 0)]) (rest := []) hi_192_29 (am_hd0 (M := 192) (by decide) 29) (Nat.le_of_ble_eq_true rfl) (Nat.le_of_ble_eq_true rfl) (show 4 ≤ am_P0.2.2.1 190 from by decide +kernel) rfl (am_recv_ok hS1557.fs) rfl rfl (ct_value (d := (d + 3)) hS1557 hR1561_ (fun h => absurd h (by decide)) (fun h => absurd h (by decide)) (by show (0 : Int) ≤ (f 15).toInt; omega) (by show (f 15).toInt ≤ (32767 : Int); omega)) ?_
                      rintro v1562 S1563 (⟨z1564, g'1565, hv1566, hS1567, hR1572, h1568, h1569, h1570, h1571⟩)
                      subst hv1566
                      have h1568_ : z1564.toInt = (f 15).toInt + 1 := h1568
                      have h1569_ : ∀ j, j ∉ [16, 17, 18] → g'1565 j = g'1555 j := h1569
                      have h1570_ : mj_n (g'1565 16) z1564.toNatClampNeg 3 ≤ mj_n (g'819 16) (f 15).toNatClampNeg 3 + 1 := by rw [show g'1555 16 = g'1527 16 from h1560_ 16 (by decide), show g'1527 16 = g'1376 16 from h1531_ 16 (by decide), show g'1376 16 = g'852 16 from h1380_ 16 (by decide), show g'852 16 = g'819 16 from h857_ 16 (by decide)] at h1570; exact h1570
                      have h1571_ : (0 : Int) = 3 ∨ mj_n (g'1565 16) z1564.toNatClampNeg 3 ≤ mj_n (g'819 16) (f 15).toNatClampNeg 3 := by rw [show g'1555 16 = g'1527 16 from h1560_ 16 (by decide), show g'1527 16 = g'1376 16 from h1531_ 16 (by decide), show g'1376 16 = g'852 16 from h1380_ 16 (by decide), show g'852 16 = g'819 16 from h857_ 16 (by decide)] at h1571; exact h1571
                      replace hS1567 : MS S0 S1563 (upd (upd (upd (upd (upd (upd (upd f 4 z1535) 5 y1536) 10 z1526) 15 z1564) 62 o816) 68 z1553) 75 m818) g'1565 := hS1567
                      have hR1572_ : RJ (upd (upd (upd (upd (upd (upd (upd f 4 z1535) 5 y1536) 10 z1526) 15 z1564) 62 o816) 68 z1553) 75 m818) g'1565 (((33 : Int), (1 : Int), z835.toInt, (0 : Int), []) :: (((28 : Int), (0 : Int), (0 : Int), (0 : Int), []) :: gs)) bc [] 0 (z850.toNatClampNeg :: (s817.toNatClampNeg :: [])) := hR1572
                      show am_E _ _ _ _ [some (.ref 39), some (.int z835)] [] _ _
                      refine am_e2 (v := 39) hi_192_32 rfl ?_
                      refine am_e0 hi_192_33 ?_
                      refine am_e0 hi_192_35 ?_
                      refine am_e0 hi_192_36 ?_
                      refine am_e0 hi_192_37 ?_
                      refine am_e32n (as := [.ref 39, .int 35, .int 0, .int 0, .int 0]) (la := [some (.ref 39), some (.int 35), some (.int 0), some (.int 0), some (.int 0)]) (rest := []) hi_192_38 (am_hd0 (M := 192) (by decide) 38) (Nat.le_of_ble_eq_true rfl) (Nat.le_of_ble_eq_true rfl) (show 5 ≤ am_P0.2.2.1 179 from by decide +kernel) rfl (am_recv_ok hS1567.fs) rfl rfl (ct_pile (d := (d + 3)) hS1567 hR1572_ (mj_e_plain (by decide)) (by show (0 : Int) ≤ z1526.toInt; omega) (by show z1526.toInt ≤ (65535 : Int); omega)) ?_
                      rintro v1573 S1574 (⟨z1575, g'1576, hv1577, hS1578, hR1581, h1579, h1580⟩)
                      subst hv1577
                      have h1579_ : z1575.toInt = z1526.toInt + 1 := h1579
                      have h1580_ : ∀ j, j ∉ [11, 12, 13, 14] → g'1576 j = g'1565 j := h1580
                      replace hS1578 : MS S0 S1574 (upd (upd (upd (upd (upd (upd (upd f 4 z1535) 5 y1536) 10 z1575) 15 z1564) 62 o816) 68 z1553) 75 m818) g'1576 := hS1578
                      have hR1581_ : RJ (upd (upd (upd (upd (upd (upd (upd f 4 z1535) 5 y1536) 10 z1575) 15 z1564) 62 o816) 68 z1553) 75 m818) g'1576 (((35 : Int), (0 : Int), (0 : Int), (0 : Int), []) :: (((33 : Int), (1 : Int), z835.toInt, (0 : Int), []) :: (((28 : Int), (0 : Int), (0 : Int), (0 : Int), []) :: gs))) bc [] 0 (z850.toNatClampNeg :: (s817.toNatClampNeg :: [])) := hR1581
                      show am_E _ _ _ _ [some (.ref 39), some (.int z835)] [] _ _
                      refine am_e35 hi_192_41 ?_
                      show am_E _ _ _ _ [some (.ref 39), some (.int 1), some (.int z835)] [] _ _
                      refine am_e18 hi_212_74 ?_
                      refine am_e35 hi_212_125 ?_
                      show am_E _ _ _ _ [some (.ref 39), some (.int r2), some (.int (f 4)), some (.int r861)] [] _ _
                      refine am_e18 hi_211_211 ?_
                      refine am_e35 hi_211_249 ?_
                      show am_E _ _ _ _ [some (.ref 39), some (.int 28), some (.int on), some (.int tw)] [] _ _
                      refine am_e18 hi_181_180 ?_
                      refine am_e35 hi_181_397 ?_
                      show am_E _ _ _ _ [some (.ref 39), some (.int 28), some (.int on), some (.int tw), some (.int th)] [] _ _
                      refine am_e35 hi_180_13 ?_
                      have q1 : mg_p1 (((35 : Int), (0 : Int), (0 : Int), (0 : Int), []) :: (((33 : Int), (1 : Int), z835.toInt, (0 : Int), []) :: (((28 : Int), (0 : Int), (0 : Int), (0 : Int), []) :: gs))) = 0 + (0 + (0 + (mg_p1 gs))) := rfl
                      have q2 : mg_p2 (((35 : Int), (0 : Int), (0 : Int), (0 : Int), []) :: (((33 : Int), (1 : Int), z835.toInt, (0 : Int), []) :: (((28 : Int), (0 : Int), (0 : Int), (0 : Int), []) :: gs))) = 0 + (0 + (0 + (mg_p2 gs))) := rfl
                      have q3 : mg_p3 (((35 : Int), (0 : Int), (0 : Int), (0 : Int), []) :: (((33 : Int), (1 : Int), z835.toInt, (0 : Int), []) :: (((28 : Int), (0 : Int), (0 : Int), (0 : Int), []) :: gs))) = 3 + (1 + (1 + (mg_p3 gs))) := rfl
                      have q4 : mg_p4 (((35 : Int), (0 : Int), (0 : Int), (0 : Int), []) :: (((33 : Int), (1 : Int), z835.toInt, (0 : Int), []) :: (((28 : Int), (0 : Int), (0 : Int), (0 : Int), []) :: gs))) = 0 + (3 + (0 + (mg_p4 gs))) := rfl
                      refine ⟨_, _, _, bc, rfl, hS1578, Or.inl ⟨⟨(RJ.fewer (pj' := []) hR1581_ (fun _ h => nomatch h)), ?_, ?_⟩, rfl, ?_⟩⟩
                      · exact (⟨⟨(show mg_k 35 from by decide), (show (0 : Int) ≤ z1564.toInt from by omega), (show 0 ≤ (f 20).toInt from by omega), (show 1 ≤ (f 37).toInt from by omega), (show 0 ≤ (f 32).toInt from by omega), (show (f 32).toInt ≤ y1536.toInt from by omega), (show y1536.toInt ≤ 48 from by omega), (show (f 37).toInt ≤ 2 * (y1536.toInt) + 2 from by omega), trivial⟩, ⟨⟨(show mg_k 33 from by decide), (show (2 : Int) ≤ z1564.toInt + 0 from by omega), (show 0 ≤ (f 20).toInt from by omega), (show 1 ≤ (f 37).toInt + 0 from by omega), (show 0 ≤ (f 32).toInt + 0 from by omega), (show (f 32).toInt + 0 ≤ y1536.toInt + -1 from by omega), (show y1536.toInt + -1 ≤ 48 from by omega), (show (f 37).toInt + 0 ≤ 2 * (y1536.toInt + -1) + 2 from by omega), trivial⟩, ⟨⟨(show mg_k 28 from by decide), (show (1 : Int) ≤ z1564.toInt + 0 + -1 from by omega), (show 0 ≤ (f 20).toInt from by omega), (show 1 ≤ (f 37).toInt + 0 + 0 from by omega), (show 0 ≤ (f 32).toInt + 0 + 0 from by omega), (show (f 32).toInt + 0 + 0 ≤ y1536.toInt + -1 + 0 from by omega), (show y1536.toInt + -1 + 0 ≤ 48 from by omega), (show (f 37).toInt + 0 + 0 ≤ 2 * (y1536.toInt + -1 + 0) + 2 from by omega), trivial⟩, mg_cast (mg_good_ext _ _ _ _ _ _ (fun i _ => by show g'1576 34 i = g 34 i; rw [show g'1576 34 = g'1565 34 from h1580_ 34 (by decide), show g'1565 34 = g'1555 34 from h1569_ 34 (by decide), show g'1555 34 = g'1527 34 from h1560_ 34 (by decide), show g'1527 34 = g'1376 34 from h1531_ 34 (by decide), show g'1376 34 = g'852 34 from h1380_ 34 (by decide), show g'852 34 = g'819 34 from h857_ 34 (by decide), show g'819 34 = g 34 from h827_ 34 (by decide)]) (fun i _ => by show g'1576 38 i = g 38 i; rw [show g'1576 38 = g'1565 38 from h1580_ 38 (by decide), show g'1565 38 = g'1555 38 from h1569_ 38 (by decide), show g'1555 38 = g'1527 38 from h1560_ 38 (by decide), show g'1527 38 = g'1376 38 from h1531_ 38 (by decide), show g'1376 38 = g'852 38 from h1380_ 38 (by decide), show g'852 38 = g'819 38 from h857_ 38 (by decide), show g'819 38 = g 38 from h827_ 38 (by decide)]) (fun i _ => by show g'1576 23 i = g 23 i; rw [show g'1576 23 = g'1565 23 from h1580_ 23 (by decide), show g'1565 23 = g'1555 23 from h1569_ 23 (by decide), show g'1555 23 = g'1527 23 from h1560_ 23 (by decide), show g'1527 23 = g'1376 23 from h1531_ 23 (by decide), show g'1376 23 = g'852 23 from h1380_ 23 (by decide), show g'852 23 = g'819 23 from h857_ 23 (by decide), show g'819 23 = g 23 from h827_ 23 (by decide)]) hrest) (by show (f 15).toInt + 0 = z1564.toInt + 0 + -1 + 0; omega) (by show (f 20).toInt = (f 20).toInt; omega) (by show (f 37).toInt + 0 = (f 37).toInt + 0 + 0 + 0; omega) (by show (f 32).toInt + 0 = (f 32).toInt + 0 + 0 + 0; omega) (by show (f 5).toInt + 0 = y1536.toInt + -1 + 0 + 0; omega)⟩⟩⟩ : mg_good (g'1576 34) (g'1576 38) (g'1576 23) (((35 : Int), (0 : Int), (0 : Int), (0 : Int), []) :: (((33 : Int), (1 : Int), z835.toInt, (0 : Int), []) :: (((28 : Int), (0 : Int), (0 : Int), (0 : Int), []) :: gs))) (z1564.toInt) ((f 20).toInt) ((f 37).toInt) ((f 32).toInt) (y1536.toInt))
                      · exact ⟨(by show 0 ≤ z1535.toInt; omega), (by show z1535.toInt ≤ (f 0).toInt; omega), (by show (f 0).toInt ≤ 512; omega), (by show 0 ≤ (f 24).toInt; omega), (by show (f 24).toInt + (f 20).toInt + mg_p1 (((35 : Int), (0 : Int), (0 : Int), (0 : Int), []) :: (((33 : Int), (1 : Int), z835.toInt, (0 : Int), []) :: (((28 : Int), (0 : Int), (0 : Int), (0 : Int), []) :: gs))) ≤ 4 * z1535.toInt; omega), (by show (f 20).toInt ≤ z1535.toInt; omega), (by show z1564.toInt + mg_p2 (((35 : Int), (0 : Int), (0 : Int), (0 : Int), []) :: (((33 : Int), (1 : Int), z835.toInt, (0 : Int), []) :: (((28 : Int), (0 : Int), (0 : Int), (0 : Int), []) :: gs))) ≤ z1535.toInt; omega), (by show mg_p3 (((35 : Int), (0 : Int), (0 : Int), (0 : Int), []) :: (((33 : Int), (1 : Int), z835.toInt, (0 : Int), []) :: (((28 : Int), (0 : Int), (0 : Int), (0 : Int), []) :: gs))) ≤ 20 * z1535.toInt + 20; omega), (by show 0 ≤ z1553.toInt; omega), (by show z1553.toInt + 3 * (f 20).toInt + mg_p4 (((35 : Int), (0 : Int), (0 : Int), (0 : Int), []) :: (((33 : Int), (1 : Int), z835.toInt, (0 : Int), []) :: (((28 : Int), (0 : Int), (0 : Int), (0 : Int), []) :: gs))) ≤ 60 * z1535.toInt + 60; omega), (by show 0 ≤ o816.toInt; omega), (by show o816.toInt + 64 * mj_n (g'1576 16) z1564.toNatClampNeg 3 ≤ 64 * z1535.toInt; rw [show g'1576 16 = g'1565 16 from h1580_ 16 (by decide)]; omega), (by show 0 ≤ (f 44).toInt; omega), (by show (f 44).toInt ≤ z1535.toInt; omega), (by show 0 ≤ (f 48).toInt; omega), (by show (f 48).toInt ≤ z1535.toInt; omega), (by show 1 ≤ (f 53).toInt; omega), (by show (f 53).toInt ≤ z1535.toInt + 1; omega), (by show 0 ≤ (f 19).toInt; omega), (by show (f 19).toInt ≤ 600; omega), (by show 0 ≤ (f 6).toInt; omega), (by show 0 ≤ (f 8).toInt; omega)⟩
                      · show 100 * ((f 0).toInt - z1535.toInt) + mg_p3 (((35 : Int), (0 : Int), (0 : Int), (0 : Int), []) :: (((33 : Int), (1 : Int), z835.toInt, (0 : Int), []) :: (((28 : Int), (0 : Int), (0 : Int), (0 : Int), []) :: gs))) < 100 * ((f 0).toInt - (f 4).toInt) + (1 + mg_p3 gs); omega
                    · subst hv1546
                      have h1548_ : (0 : Int) ≤ a1544.toInt := h1548
                      replace hS1547 : MS S0 S1534 (upd (upd (upd (upd (upd (upd (upd f 4 z835) 6 a1544) 7 b1545) 10 0) 62 o816) 68 z850) 75 m818) g'1527 := hS1547
                      have hR1582 := rj_clear0 hR1532_
                      have hR1583 : RJ (upd (upd (upd (upd (upd (upd (upd f 4 z835) 6 a1544) 7 b1545) 10 0) 62 o816) 68 z850) 75 m818) g'1527 [] bc [] 0 [] := hR1582
                      show am_E _ _ _ _ [some (.ref 39), some (.int z835)] [.int 0] _ _
                      refine am_e12f hi_192_11 (by decide) ?_
                      refine am_e35 hi_192_14 ?_
                      show am_E _ _ _ _ [some (.ref 39), some (.int 1), some (.int z835)] [] _ _
                      refine am_e18 hi_212_74 ?_
                      refine am_e35 hi_212_125 ?_
                      show am_E _ _ _ _ [some (.ref 39), some (.int r2), some (.int (f 4)), some (.int r861)] [] _ _
                      refine am_e18 hi_211_211 ?_
                      refine am_e35 hi_211_249 ?_
                      show am_E _ _ _ _ [some (.ref 39), some (.int 28), some (.int on), some (.int tw)] [] _ _
                      refine am_e18 hi_181_180 ?_
                      refine am_e35 hi_181_397 ?_
                      show am_E _ _ _ _ [some (.ref 39), some (.int 28), some (.int on), some (.int tw), some (.int th)] [] _ _
                      refine am_e35 hi_180_13 ?_
                      have hRc := rj_clear0 hR1583
                      refine ⟨_, _, [], _, rfl, hS1547, Or.inr ⟨hRc, rfl, (by show 0 ≤ z835.toInt; omega), (by show z835.toInt ≤ (f 0).toInt; omega), (by show 0 ≤ (f 32).toInt; omega), (by show (f 32).toInt ≤ 63; omega), (by show 1 ≤ (f 53).toInt; omega), (by show (f 53).toInt ≤ 600; omega), (by show 0 ≤ z850.toInt; omega), (by show z850.toInt ≤ 60000; omega), (by show 0 ≤ (f 48).toInt; omega), (by show (f 48).toInt ≤ 8000; omega), (by show 0 ≤ (f 37).toInt; omega), (by show (f 37).toInt ≤ 128; omega), (by show 0 ≤ o816.toInt; omega), (by show o816.toInt ≤ 65000; omega), (by show 0 ≤ (f 19).toInt; omega), (by show (f 19).toInt ≤ 600; omega), (by show 0 ≤ a1544.toInt; omega), (by show 0 ≤ (f 8).toInt; omega)⟩⟩
                · refine am_e13f hi_212_10 (am_cF (m := r1384.toInt) (n := (3 : Int)) rfl (by decide) c1389) ?_
                  refine am_e2 (v := 39) hi_212_13 rfl ?_
                  refine am_e0 hi_212_14 ?_
                  refine am_e2 (v := 39) hi_212_15 rfl ?_
                  refine mm_20 (v := .ref 41) hS1386 hi_212_16 rfl ?_
                  refine am_e2 (v := 39) hi_212_19 rfl ?_
                  refine mm_20 (v := .int z835) hS1386 hi_212_20 rfl ?_
                  refine mm_25 hS1386 ma_2 hi_212_23 (by decide) (by omega) (by omega) ?_
                  show am_E _ _ _ _ _ (.int (g'1376 2 z835.toNatClampNeg) :: _) _ _
                  rw [show g'1376 2 = g'852 2 from h1380_ 2 (by decide), show g'852 2 = g'819 2 from h857_ 2 (by decide), show g'819 2 = g 2 from h827_ 2 (by decide)]
                  show am_E _ _ _ _ [some (.ref 39), some (.int 1), some (.int z835)] [.int (g 2 z835.toNatClampNeg), .int 5, .ref 39] _ _
                  refine am_e0 hi_212_24 ?_
                  refine am_e0 hi_212_25 ?_
                  refine am_e32n (as := [.ref 39, .int 5, .int (g 2 z835.toNatClampNeg), .int 0, .int 0]) (la := [some (.ref 39), some (.int 5), some (.int (g 2 z835.toNatClampNeg)), some (.int 0), some (.int 0)]) (rest := []) hi_212_26 (am_hd0 (M := 212) (by decide) 26) (Nat.le_of_ble_eq_true rfl) (Nat.le_of_ble_eq_true rfl) (show 5 ≤ am_P0.2.2.1 189 from by decide +kernel) rfl (am_recv_ok hS1386.fs) rfl rfl (ct_put (d := (d + 4)) hS1386 hR1381_  (by show (0 : Int) ≤ (f 32).toInt; omega) (by show (f 32).toInt ≤ (63 : Int); omega) (by show (f 53).toInt ≤ (4096 : Int); omega) (by show (0 : Int) ≤ z850.toInt; omega) (by show z850.toInt ≤ (65534 : Int); omega)) ?_
                  rintro v1584 S1585 (⟨z1586, r1587, g'1588, hv1589, hS1590, hR1594, h1591, h1592, h1593⟩)
                  subst hv1589
                  have h1591_ : z1586.toInt = z850.toInt + 1 := h1591
                  have h1592_ : r1587.toInt = z850.toInt := h1592
                  have h1593_ : ∀ j, j ∉ [60, 69, 70, 71, 72, 73] → g'1588 j = g'1376 j := h1593
                  replace hS1590 : MS S0 S1585 (upd (upd (upd (upd (upd f 4 z835) 10 z1375) 62 o816) 68 z1586) 75 m818) g'1588 := hS1590
                  have hR1594_ : RJ (upd (upd (upd (upd (upd f 4 z835) 10 z1375) 62 o816) 68 z1586) 75 m818) g'1588 (((28 : Int), (0 : Int), (0 : Int), (0 : Int), []) :: gs) bc [] 0 (z850.toNatClampNeg :: (s817.toNatClampNeg :: [])) := hR1594
                  show am_E _ _ _ _ [some (.ref 39), some (.int 1), some (.int z835)] [.int r1587] _ _
                  refine am_e6i hi_212_29 ?_
                  refine am_e2 (v := 39) hi_212_30 rfl ?_
                  refine am_e7 hi_212_31 ?_
                  refine mm_20 (v := .int z835) hS1590 hi_212_32 rfl ?_
                  refine am_e0 hi_212_35 ?_
                  obtain ⟨z1595, hz1595, tz1595⟩ := am_addI (x := z835) (y := 1) (m := z835.toInt) (n := (1 : Int)) rfl (by decide) (by omega) (by omega)
                  refine am_e10 (z := z1595) hi_212_36 hz1595 ?_
                  refine mm_21 (v := z1595) hS1590 hi_212_37 rfl (Nat.le_of_ble_eq_true rfl) ms_4 ?_
                  intro S1596 hS1597
                  replace hS1597 : MS S0 S1596 (upd (upd (upd (upd (upd f 4 z1595) 10 z1375) 62 o816) 68 z1586) 75 m818) g'1588 := hS1597
                  have hR1598 : RJ (upd (upd (upd (upd (upd f 4 z1595) 10 z1375) 62 o816) 68 z1586) 75 m818) g'1588 (((28 : Int), (0 : Int), (0 : Int), (0 : Int), []) :: gs) bc [] 0 (z850.toNatClampNeg :: (s817.toNatClampNeg :: [])) := RJ.at hR1594_ (by show z835.toInt ≤ z1595.toInt; omega)
                  refine am_e2 (v := 39) hi_212_40 rfl ?_
                  refine am_e0 hi_212_41 ?_
                  refine am_e1 (v := 1) hi_212_42 rfl ?_
                  refine am_e10 (z := 2) hi_212_43 (by decide) ?_
                  refine am_e0 hi_212_44 ?_
                  refine am_e1 (v := z835) hi_212_45 rfl ?_
                  refine am_e32w (as := [.ref 39, .int 2, .int 0, .int z835]) (la := [some (.ref 39), some (.int 2), some (.int 0), some (.int z835), none]) (rest := []) hi_212_46 (am_hd0 (M := 212) (by decide) 46) (Nat.le_of_ble_eq_true rfl) (Nat.le_of_ble_eq_true rfl) (show 4 ≤ am_P0.2.2.1 213 from by decide +kernel) rfl (am_recv_ok hS1597.fs) rfl rfl ?_
                  refine am_e2 (v := 39) hi_213_0 rfl ?_
                  refine am_e0 hi_213_1 ?_
                  refine am_e1 (v := 2) hi_213_3 rfl ?_
                  refine am_e1 (v := 0) hi_213_4 rfl ?_
                  refine am_e0 hi_213_5 ?_
                  refine am_e10 (z := 2) hi_213_6 (by decide) ?_
                  refine am_e1 (v := z835) hi_213_7 rfl ?_
                  refine am_e32n (as := [.ref 39, .int 13, .int 2, .int 2, .int z835]) (la := [some (.ref 39), some (.int 13), some (.int 2), some (.int 2), some (.int z835)]) (rest := []) hi_213_8 (am_hd0 (M := 213) (by decide) 8) (Nat.le_of_ble_eq_true rfl) (Nat.le_of_ble_eq_true rfl) (show 5 ≤ am_P0.2.2.1 189 from by decide +kernel) rfl (am_recv_ok hS1597.fs) rfl rfl (ct_put (d := (d + 3)) hS1597 hR1598  (by show (0 : Int) ≤ (f 32).toInt; omega) (by show (f 32).toInt ≤ (63 : Int); omega) (by show (f 53).toInt ≤ (4096 : Int); omega) (by show (0 : Int) ≤ z1586.toInt; omega) (by show z1586.toInt ≤ (65534 : Int); omega)) ?_
                  rintro v1599 S1600 (⟨z1601, r1602, g'1603, hv1604, hS1605, hR1609, h1606, h1607, h1608⟩)
                  subst hv1604
                  have h1606_ : z1601.toInt = z1586.toInt + 1 := h1606
                  have h1607_ : r1602.toInt = z1586.toInt := h1607
                  have h1608_ : ∀ j, j ∉ [60, 69, 70, 71, 72, 73] → g'1603 j = g'1588 j := h1608
                  replace hS1605 : MS S0 S1600 (upd (upd (upd (upd (upd f 4 z1595) 10 z1375) 62 o816) 68 z1601) 75 m818) g'1603 := hS1605
                  have hR1609_ : RJ (upd (upd (upd (upd (upd f 4 z1595) 10 z1375) 62 o816) 68 z1601) 75 m818) g'1603 (((28 : Int), (0 : Int), (0 : Int), (0 : Int), []) :: gs) bc [] 0 (z1586.toNatClampNeg :: (z850.toNatClampNeg :: (s817.toNatClampNeg :: []))) := hR1609
                  show am_E _ _ _ _ [some (.ref 39), some (.int 2), some (.int 0), some (.int z835), none] [.int r1602] _ _
                  refine am_e3 (ls' := [some (.ref 39), some (.int 2), some (.int 0), some (.int z835), some (.int r1602)]) hi_213_11 (Nat.le_of_ble_eq_true rfl) rfl ?_
                  refine am_e2 (v := 39) hi_213_13 rfl ?_
                  refine am_e7 hi_213_14 ?_
                  refine mm_20 (v := .int (f 15)) hS1605 hi_213_15 rfl ?_
                  refine am_e0 hi_213_18 ?_
                  obtain ⟨z1610, hz1610, tz1610⟩ := am_subI (x := f 15) (y := 1) (m := (f 15).toInt) (n := (1 : Int)) rfl (by decide) (by omega) (by omega)
                  refine am_e10 (z := z1610) hi_213_19 hz1610 ?_
                  refine mm_21 (v := z1610) hS1605 hi_213_20 rfl (Nat.le_of_ble_eq_true rfl) ms_15 ?_
                  intro S1611 hS1612
                  replace hS1612 : MS S0 S1611 (upd (upd (upd (upd (upd (upd f 4 z1595) 10 z1375) 15 z1610) 62 o816) 68 z1601) 75 m818) g'1603 := hS1612
                  have hp1613 : mj_n (g'819 16) (f 15).toNatClampNeg 3 = mj_n (g'819 16) z1610.toNatClampNeg 3 + if (g'819 16 z1610.toNatClampNeg).toInt = 3 then 1 else 0 := mj_pop (by rw [cl_toNat, cl_toNat]; omega)
                  have hp16131 : mj_n (g'819 16) z1610.toNatClampNeg 3 ≤ mj_n (g'819 16) (f 15).toNatClampNeg 3 := by rw [hp1613]; split <;> omega
                  have hp16132 : (g'819 16 z1610.toNatClampNeg).toInt = 3 → mj_n (g'819 16) z1610.toNatClampNeg 3 + 1 ≤ mj_n (g'819 16) (f 15).toNatClampNeg 3 := fun q => by rw [hp1613, if_pos q]; exact Int.le_refl _
                  refine am_e2 (v := 39) hi_213_23 rfl ?_
                  refine am_e0 hi_213_24 ?_
                  refine am_e1 (v := r1602) hi_213_25 rfl ?_
                  refine am_e1 (v := z835) hi_213_27 rfl ?_
                  refine am_e32n (as := [.ref 39, .int 1, .int r1602, .int z835]) (la := [some (.ref 39), some (.int 1), some (.int r1602), some (.int z835)]) (rest := []) hi_213_28 (am_hd0 (M := 213) (by decide) 28) (Nat.le_of_ble_eq_true rfl) (Nat.le_of_ble_eq_true rfl) (show 4 ≤ am_P0.2.2.1 190 from by decide +kernel) rfl (am_recv_ok hS1612.fs) rfl rfl (ct_value (d := (d + 3)) hS1612 hR1609_ (fun h => absurd h (by decide)) (fun _ => ⟨by omega, by omega⟩) (by show (0 : Int) ≤ z1610.toInt; omega) (by show z1610.toInt ≤ (32767 : Int); omega)) ?_
                  rintro v1614 S1615 (⟨z1616, g'1617, hv1618, hS1619, hR1624, h1620, h1621, h1622, h1623⟩)
                  subst hv1618
                  have h1620_ : z1616.toInt = z1610.toInt + 1 := h1620
                  have h1621_ : ∀ j, j ∉ [16, 17, 18] → g'1617 j = g'1603 j := h1621
                  have h1622_ : mj_n (g'1617 16) z1616.toNatClampNeg 3 ≤ mj_n (g'819 16) z1610.toNatClampNeg 3 + 1 := by rw [show g'1603 16 = g'1588 16 from h1608_ 16 (by decide), show g'1588 16 = g'1376 16 from h1593_ 16 (by decide), show g'1376 16 = g'852 16 from h1380_ 16 (by decide), show g'852 16 = g'819 16 from h857_ 16 (by decide)] at h1622; exact h1622
                  have h1623_ : (1 : Int) = 3 ∨ mj_n (g'1617 16) z1616.toNatClampNeg 3 ≤ mj_n (g'819 16) z1610.toNatClampNeg 3 := by rw [show g'1603 16 = g'1588 16 from h1608_ 16 (by decide), show g'1588 16 = g'1376 16 from h1593_ 16 (by decide), show g'1376 16 = g'852 16 from h1380_ 16 (by decide), show g'852 16 = g'819 16 from h857_ 16 (by decide)] at h1623; exact h1623
                  replace hS1619 : MS S0 S1615 (upd (upd (upd (upd (upd (upd f 4 z1595) 10 z1375) 15 z1616) 62 o816) 68 z1601) 75 m818) g'1617 := hS1619
                  have hR1624_ : RJ (upd (upd (upd (upd (upd (upd f 4 z1595) 10 z1375) 15 z1616) 62 o816) 68 z1601) 75 m818) g'1617 (((28 : Int), (0 : Int), (0 : Int), (0 : Int), []) :: gs) bc [] 0 (z1586.toNatClampNeg :: (z850.toNatClampNeg :: (s817.toNatClampNeg :: []))) := hR1624
                  show am_E _ _ _ _ [some (.ref 39), some (.int 2), some (.int 0), some (.int z835), some (.int r1602)] [] _ _
                  refine am_e35 hi_213_31 ?_
                  show am_E _ _ _ _ [some (.ref 39), some (.int 1), some (.int z835)] [] _ _
                  refine am_e18 hi_212_49 ?_
                  refine am_e35 hi_212_125 ?_
                  show am_E _ _ _ _ [some (.ref 39), some (.int r2), some (.int (f 4)), some (.int r861)] [] _ _
                  refine am_e18 hi_211_211 ?_
                  refine am_e35 hi_211_249 ?_
                  show am_E _ _ _ _ [some (.ref 39), some (.int 28), some (.int on), some (.int tw)] [] _ _
                  refine am_e18 hi_181_180 ?_
                  refine am_e35 hi_181_397 ?_
                  show am_E _ _ _ _ [some (.ref 39), some (.int 28), some (.int on), some (.int tw), some (.int th)] [] _ _
                  refine am_e35 hi_180_13 ?_
                  have q1 : mg_p1 (((28 : Int), (0 : Int), (0 : Int), (0 : Int), []) :: gs) = 0 + (mg_p1 gs) := rfl
                  have q2 : mg_p2 (((28 : Int), (0 : Int), (0 : Int), (0 : Int), []) :: gs) = 0 + (mg_p2 gs) := rfl
                  have q3 : mg_p3 (((28 : Int), (0 : Int), (0 : Int), (0 : Int), []) :: gs) = 1 + (mg_p3 gs) := rfl
                  have q4 : mg_p4 (((28 : Int), (0 : Int), (0 : Int), (0 : Int), []) :: gs) = 0 + (mg_p4 gs) := rfl
                  refine ⟨_, _, _, bc, rfl, hS1619, Or.inl ⟨⟨(RJ.fewer (pj' := []) hR1624_ (fun _ h => nomatch h)), ?_, ?_⟩, rfl, ?_⟩⟩
                  · exact (⟨⟨(show mg_k 28 from by decide), (show (1 : Int) ≤ z1616.toInt from by omega), (show 0 ≤ (f 20).toInt from by omega), (show 1 ≤ (f 37).toInt from by omega), (show 0 ≤ (f 32).toInt from by omega), (show (f 32).toInt ≤ (f 5).toInt from by omega), (show (f 5).toInt ≤ 48 from by omega), (show (f 37).toInt ≤ 2 * ((f 5).toInt) + 2 from by omega), trivial⟩, mg_cast (mg_good_ext _ _ _ _ _ _ (fun i _ => by show g'1617 34 i = g 34 i; rw [show g'1617 34 = g'1603 34 from h1621_ 34 (by decide), show g'1603 34 = g'1588 34 from h1608_ 34 (by decide), show g'1588 34 = g'1376 34 from h1593_ 34 (by decide), show g'1376 34 = g'852 34 from h1380_ 34 (by decide), show g'852 34 = g'819 34 from h857_ 34 (by decide), show g'819 34 = g 34 from h827_ 34 (by decide)]) (fun i _ => by show g'1617 38 i = g 38 i; rw [show g'1617 38 = g'1603 38 from h1621_ 38 (by decide), show g'1603 38 = g'1588 38 from h1608_ 38 (by decide), show g'1588 38 = g'1376 38 from h1593_ 38 (by decide), show g'1376 38 = g'852 38 from h1380_ 38 (by decide), show g'852 38 = g'819 38 from h857_ 38 (by decide), show g'819 38 = g 38 from h827_ 38 (by decide)]) (fun i _ => by show g'1617 23 i = g 23 i; rw [show g'1617 23 = g'1603 23 from h1621_ 23 (by decide), show g'1603 23 = g'1588 23 from h1608_ 23 (by decide), show g'1588 23 = g'1376 23 from h1593_ 23 (by decide), show g'1376 23 = g'852 23 from h1380_ 23 (by decide), show g'852 23 = g'819 23 from h857_ 23 (by decide), show g'819 23 = g 23 from h827_ 23 (by decide)]) hrest) (by show (f 15).toInt + 0 = z1616.toInt + 0; omega) (by show (f 20).toInt = (f 20).toInt; omega) (by show (f 37).toInt + 0 = (f 37).toInt + 0; omega) (by show (f 32).toInt + 0 = (f 32).toInt + 0; omega) (by show (f 5).toInt + 0 = (f 5).toInt + 0; omega)⟩ : mg_good (g'1617 34) (g'1617 38) (g'1617 23) (((28 : Int), (0 : Int), (0 : Int), (0 : Int), []) :: gs) (z1616.toInt) ((f 20).toInt) ((f 37).toInt) ((f 32).toInt) ((f 5).toInt))
                  · exact ⟨(by show 0 ≤ z1595.toInt; omega), (by show z1595.toInt ≤ (f 0).toInt; omega), (by show (f 0).toInt ≤ 512; omega), (by show 0 ≤ (f 24).toInt; omega), (by show (f 24).toInt + (f 20).toInt + mg_p1 (((28 : Int), (0 : Int), (0 : Int), (0 : Int), []) :: gs) ≤ 4 * z1595.toInt; omega), (by show (f 20).toInt ≤ z1595.toInt; omega), (by show z1616.toInt + mg_p2 (((28 : Int), (0 : Int), (0 : Int), (0 : Int), []) :: gs) ≤ z1595.toInt; omega), (by show mg_p3 (((28 : Int), (0 : Int), (0 : Int), (0 : Int), []) :: gs) ≤ 20 * z1595.toInt + 20; omega), (by show 0 ≤ z1601.toInt; omega), (by show z1601.toInt + 3 * (f 20).toInt + mg_p4 (((28 : Int), (0 : Int), (0 : Int), (0 : Int), []) :: gs) ≤ 60 * z1595.toInt + 60; omega), (by show 0 ≤ o816.toInt; omega), (by show o816.toInt + 64 * mj_n (g'1617 16) z1616.toNatClampNeg 3 ≤ 64 * z1595.toInt; omega), (by show 0 ≤ (f 44).toInt; omega), (by show (f 44).toInt ≤ z1595.toInt; omega), (by show 0 ≤ (f 48).toInt; omega), (by show (f 48).toInt ≤ z1595.toInt; omega), (by show 1 ≤ (f 53).toInt; omega), (by show (f 53).toInt ≤ z1595.toInt + 1; omega), (by show 0 ≤ (f 19).toInt; omega), (by show (f 19).toInt ≤ 600; omega), (by show 0 ≤ (f 6).toInt; omega), (by show 0 ≤ (f 8).toInt; omega)⟩
                  · show 100 * ((f 0).toInt - z1595.toInt) + mg_p3 (((28 : Int), (0 : Int), (0 : Int), (0 : Int), []) :: gs) < 100 * ((f 0).toInt - (f 4).toInt) + (1 + mg_p3 gs); omega
              · refine am_e13f hi_211_186 (am_cF (m := r861.toInt) (n := (62 : Int)) rfl (by decide) c1372) ?_
                refine am_e2 (v := 39) hi_211_189 rfl ?_
                refine am_e0 hi_211_190 ?_
                refine am_e32n (as := [.ref 39, .int 7]) (la := [some (.ref 39), some (.int 7)]) (rest := []) hi_211_192 (am_hd0 (M := 211) (by decide) 192) (Nat.le_of_ble_eq_true rfl) (Nat.le_of_ble_eq_true rfl) (show 2 ≤ am_P0.2.2.1 194 from by decide +kernel) rfl (am_recv_ok hS863.fs) rfl rfl (ct_fail (d := (d + 5)) hS863   (by show (0 : Int) ≤ (7 : Int); omega) (by show (0 : Int) ≤ (f 6).toInt; omega)) ?_
                rintro v1625 S1626 (⟨a1627, b1628, hv1629, hS1630, h1631⟩)
                subst hv1629
                have h1631_ : (0 : Int) ≤ a1627.toInt := h1631
                replace hS1630 : MS S0 S1626 (upd (upd (upd (upd (upd (upd (upd f 4 z835) 6 a1627) 7 b1628) 10 0) 62 o816) 68 z850) 75 m818) g'852 := hS1630
                have hR1633 := rj_clear0 hR858_
                have hR1634 : RJ (upd (upd (upd (upd (upd (upd (upd f 4 z835) 6 a1627) 7 b1628) 10 0) 62 o816) 68 z850) 75 m818) g'852 [] bc [] 0 [] := hR1633
                show am_E _ _ _ _ [some (.ref 39), some (.int r2), some (.int (f 4)), some (.int r861)] [.int 0] _ _
                refine am_e6i hi_211_195 ?_
                refine am_e35 hi_211_196 ?_
                show am_E _ _ _ _ [some (.ref 39), some (.int 28), some (.int on), some (.int tw)] [] _ _
                refine am_e18 hi_181_180 ?_
                refine am_e35 hi_181_397 ?_
                show am_E _ _ _ _ [some (.ref 39), some (.int 28), some (.int on), some (.int tw), some (.int th)] [] _ _
                refine am_e35 hi_180_13 ?_
                have hRc := rj_clear0 hR1634
                refine ⟨_, _, [], _, rfl, hS1630, Or.inr ⟨hRc, rfl, (by show 0 ≤ z835.toInt; omega), (by show z835.toInt ≤ (f 0).toInt; omega), (by show 0 ≤ (f 32).toInt; omega), (by show (f 32).toInt ≤ 63; omega), (by show 1 ≤ (f 53).toInt; omega), (by show (f 53).toInt ≤ 600; omega), (by show 0 ≤ z850.toInt; omega), (by show z850.toInt ≤ 60000; omega), (by show 0 ≤ (f 48).toInt; omega), (by show (f 48).toInt ≤ 8000; omega), (by show 0 ≤ (f 37).toInt; omega), (by show (f 37).toInt ≤ 128; omega), (by show 0 ≤ o816.toInt; omega), (by show o816.toInt ≤ 65000; omega), (by show 0 ≤ (f 19).toInt; omega), (by show (f 19).toInt ≤ 600; omega), (by show 0 ≤ a1627.toInt; omega), (by show 0 ≤ (f 8).toInt; omega)⟩⟩
        · subst hv843
          have h845_ : (0 : Int) ≤ a841.toInt := h845
          replace hS844 : MS S0 S834 (upd (upd (upd (upd (upd (upd (upd f 4 z829) 6 a841) 7 b842) 10 0) 62 o816) 68 s817) 75 m818) g'819 := hS844
          have hR1635 := rj_clear0 hR832
          have hR1636 : RJ (upd (upd (upd (upd (upd (upd (upd f 4 z829) 6 a841) 7 b842) 10 0) 62 o816) 68 s817) 75 m818) g'819 [] bc [] 0 [] := hR1635
          show am_E _ _ _ _ [some (.ref 39), some (.int r2), some (.int (f 4)), none] [.int 0] _ _
          refine am_e12f hi_211_146 (by decide) ?_
          refine am_e35 hi_211_149 ?_
          show am_E _ _ _ _ [some (.ref 39), some (.int 28), some (.int on), some (.int tw)] [] _ _
          refine am_e18 hi_181_180 ?_
          refine am_e35 hi_181_397 ?_
          show am_E _ _ _ _ [some (.ref 39), some (.int 28), some (.int on), some (.int tw), some (.int th)] [] _ _
          refine am_e35 hi_180_13 ?_
          have hRc := rj_clear0 hR1636
          refine ⟨_, _, [], _, rfl, hS844, Or.inr ⟨hRc, rfl, (by show 0 ≤ z829.toInt; omega), (by show z829.toInt ≤ (f 0).toInt; omega), (by show 0 ≤ (f 32).toInt; omega), (by show (f 32).toInt ≤ 63; omega), (by show 1 ≤ (f 53).toInt; omega), (by show (f 53).toInt ≤ 600; omega), (by show 0 ≤ s817.toInt; omega), (by show s817.toInt ≤ 60000; omega), (by show 0 ≤ (f 48).toInt; omega), (by show (f 48).toInt ≤ 8000; omega), (by show 0 ≤ (f 37).toInt; omega), (by show (f 37).toInt ≤ 128; omega), (by show 0 ≤ o816.toInt; omega), (by show o816.toInt ≤ 65000; omega), (by show 0 ≤ (f 19).toInt; omega), (by show (f 19).toInt ≤ 600; omega), (by show 0 ≤ a841.toInt; omega), (by show 0 ≤ (f 8).toInt; omega)⟩⟩
    · refine am_e13f hi_211_78 (am_cF (m := r2.toInt) (n := (64 : Int)) rfl (by decide) c8) ?_
      refine am_e2 (v := 39) hi_211_81 rfl ?_
      refine am_e32n (as := [.ref 39]) (la := [some (.ref 39), none, none, none]) (rest := []) hi_211_82 (am_hd0 (M := 211) (by decide) 82) (Nat.le_of_ble_eq_true rfl) (Nat.le_of_ble_eq_true rfl) (show 1 ≤ am_P0.2.2.1 204 from by decide +kernel) rfl (am_recv_ok hS4.fs) rfl rfl (ct_load (d := (d + 3)) hS4 hR  (by show (0 : Int) ≤ (f 32).toInt; omega) (by show (f 32).toInt ≤ (63 : Int); omega) (by show (f 53).toInt ≤ (4096 : Int); omega) (by show (0 : Int) ≤ (f 68).toInt; omega) (by show (f 68).toInt ≤ (65534 : Int); omega) (by show (1 : Int) ≤ (f 15).toInt; omega) (by show (f 15).toInt ≤ (32767 : Int); omega) (by show (0 : Int) ≤ (f 24).toInt; omega) (by show (f 24).toInt ≤ (16384 : Int); omega) (by show (0 : Int) ≤ (f 62).toInt; omega) (by show (f 62).toInt ≤ (65000 : Int); omega)) ?_
      rintro v1637 S1638 (⟨o1639, s1640, m1641, g'1642, hv1643, hS1644, hR1651, h1645, h1646, h1647, h1648, h1649, h1650⟩)
      subst hv1643
      have h1645_ : (f 62).toInt ≤ o1639.toInt := h1645
      have h1646_ : o1639.toInt ≤ (f 62).toInt + 64 := h1646
      have h1647_ : (f 68).toInt ≤ s1640.toInt := h1647
      have h1648_ : s1640.toInt ≤ (f 68).toInt + 1 := h1648
      have h1649_ : o1639.toInt + 64 * mj_n (g'1642 16) (f 15).toNatClampNeg 3 ≤ (f 62).toInt + 64 * mj_n (g 16) (f 15).toNatClampNeg 3 := h1649
      have h1650_ : ∀ j, j ∉ [16, 60, 63, 64, 65, 66, 67, 69, 70, 71, 72, 73] → g'1642 j = g j := h1650
      have hR1651_ : RJ (upd (upd (upd f 62 o1639) 68 s1640) 75 m1641) g'1642 gs bc [] 0 [] := hR1651
      show am_E _ _ _ _ [some (.ref 39), some (.int r2), some (.int (f 4)), none] [] _ _
      refine am_e2 (v := 39) hi_211_85 rfl ?_
      refine am_e0 hi_211_86 ?_
      refine am_e32n (as := [.ref 39, .int 64]) (la := [some (.ref 39), some (.int 64)]) (rest := []) hi_211_88 (am_hd0 (M := 211) (by decide) 88) (Nat.le_of_ble_eq_true rfl) (Nat.le_of_ble_eq_true rfl) (show 2 ≤ am_P0.2.2.1 193 from by decide +kernel) rfl (am_recv_ok hS1644.fs) rfl rfl (ct_enter (d := (d + 3)) hS1644   (by show (0 : Int) ≤ (f 4).toInt; omega) (by show (f 0).toInt ≤ (16384 : Int); omega) (by show (0 : Int) ≤ (64 : Int); omega) (by show (0 : Int) ≤ (f 5).toInt; omega) (by show (f 5).toInt ≤ (48 : Int); omega) (by show (0 : Int) ≤ (f 6).toInt; omega)) ?_
      rintro v1652 S1653 (⟨z1654, y1655, hv1656, hS1657, h1658, h1659, h1660, h1661⟩ | ⟨a1663, b1664, hv1665, hS1666, h1667⟩)
      · subst hv1656
        have h1658_ : z1654.toInt = (f 4).toInt + 1 := h1658
        have h1659_ : (f 4).toInt < (f 0).toInt := h1659
        have h1660_ : y1655.toInt = (f 5).toInt + 1 := h1660
        have h1661_ : y1655.toInt ≤ (48 : Int) := h1661
        replace hS1657 : MS S0 S1653 (upd (upd (upd (upd (upd f 4 z1654) 5 y1655) 62 o1639) 68 s1640) 75 m1641) g'1642 := hS1657
        have hR1669 : RJ (upd (upd (upd (upd (upd f 4 z1654) 5 y1655) 62 o1639) 68 s1640) 75 m1641) g'1642 gs bc [] 0 [] := RJ.at hR1651_ (by show (f 4).toInt ≤ z1654.toInt; omega)
        show am_E _ _ _ _ [some (.ref 39), some (.int r2), some (.int (f 4)), none] [.int 1] _ _
        refine am_e12t hi_211_91 (by decide) ?_
        refine am_e2 (v := 39) hi_211_95 rfl ?_
        refine am_e0 hi_211_96 ?_
        refine am_e0 hi_211_98 ?_
        refine am_e0 hi_211_99 ?_
        refine am_e0 hi_211_100 ?_
        refine am_e32n (as := [.ref 39, .int 28, .int 0, .int 0, .int 0]) (la := [some (.ref 39), some (.int 28), some (.int 0), some (.int 0), some (.int 0)]) (rest := []) hi_211_101 (am_hd0 (M := 211) (by decide) 101) (Nat.le_of_ble_eq_true rfl) (Nat.le_of_ble_eq_true rfl) (show 5 ≤ am_P0.2.2.1 179 from by decide +kernel) rfl (am_recv_ok hS1657.fs) rfl rfl (ct_pile (d := (d + 5)) hS1657 hR1669 (mj_e_plain (by decide)) (by show (0 : Int) ≤ (f 10).toInt; omega) (by show (f 10).toInt ≤ (65535 : Int); omega)) ?_
        rintro v1670 S1671 (⟨z1672, g'1673, hv1674, hS1675, hR1678, h1676, h1677⟩)
        subst hv1674
        have h1676_ : z1672.toInt = (f 10).toInt + 1 := h1676
        have h1677_ : ∀ j, j ∉ [11, 12, 13, 14] → g'1673 j = g'1642 j := h1677
        replace hS1675 : MS S0 S1671 (upd (upd (upd (upd (upd (upd f 4 z1654) 5 y1655) 10 z1672) 62 o1639) 68 s1640) 75 m1641) g'1673 := hS1675
        have hR1678_ : RJ (upd (upd (upd (upd (upd (upd f 4 z1654) 5 y1655) 10 z1672) 62 o1639) 68 s1640) 75 m1641) g'1673 (((28 : Int), (0 : Int), (0 : Int), (0 : Int), []) :: gs) bc [] 0 [] := hR1678
        show am_E _ _ _ _ [some (.ref 39), some (.int r2), some (.int (f 4)), none] [] _ _
        refine am_e2 (v := 39) hi_211_104 rfl ?_
        refine am_e0 hi_211_105 ?_
        refine am_e1 (v := f 4) hi_211_107 rfl ?_
        refine am_e0 hi_211_108 ?_
        refine am_e0 hi_211_109 ?_
        refine am_e32n (as := [.ref 39, .int 30, .int (f 4), .int 0, .int 0]) (la := [some (.ref 39), some (.int 30), some (.int (f 4)), some (.int 0), some (.int 0)]) (rest := []) hi_211_110 (am_hd0 (M := 211) (by decide) 110) (Nat.le_of_ble_eq_true rfl) (Nat.le_of_ble_eq_true rfl) (show 5 ≤ am_P0.2.2.1 179 from by decide +kernel) rfl (am_recv_ok hS1675.fs) rfl rfl (ct_pile (d := (d + 5)) hS1675 hR1678_ (mj_e_plain (by decide)) (by show (0 : Int) ≤ z1672.toInt; omega) (by show z1672.toInt ≤ (65535 : Int); omega)) ?_
        rintro v1679 S1680 (⟨z1681, g'1682, hv1683, hS1684, hR1687, h1685, h1686⟩)
        subst hv1683
        have h1685_ : z1681.toInt = z1672.toInt + 1 := h1685
        have h1686_ : ∀ j, j ∉ [11, 12, 13, 14] → g'1682 j = g'1673 j := h1686
        replace hS1684 : MS S0 S1680 (upd (upd (upd (upd (upd (upd f 4 z1654) 5 y1655) 10 z1681) 62 o1639) 68 s1640) 75 m1641) g'1682 := hS1684
        have hR1687_ : RJ (upd (upd (upd (upd (upd (upd f 4 z1654) 5 y1655) 10 z1681) 62 o1639) 68 s1640) 75 m1641) g'1682 (((30 : Int), (f 4).toInt, (0 : Int), (0 : Int), []) :: (((28 : Int), (0 : Int), (0 : Int), (0 : Int), []) :: gs)) bc [] 0 [] := hR1687
        show am_E _ _ _ _ [some (.ref 39), some (.int r2), some (.int (f 4)), none] [] _ _
        refine am_e2 (v := 39) hi_211_113 rfl ?_
        refine am_e0 hi_211_114 ?_
        refine am_e32w (as := [.ref 39, .int 0]) (la := [some (.ref 39), some (.int 0)]) (rest := []) hi_211_115 (am_hd0 (M := 211) (by decide) 115) (Nat.le_of_ble_eq_true rfl) (Nat.le_of_ble_eq_true rfl) (show 2 ≤ am_P0.2.2.1 186 from by decide +kernel) rfl (am_recv_ok hS1684.fs) rfl rfl ?_
        refine am_e2 (v := 39) hi_186_0 rfl ?_
        refine am_e0 hi_186_1 ?_
        refine am_e1 (v := 0) hi_186_3 rfl ?_
        refine am_e0 hi_186_4 ?_
        refine am_e0 hi_186_5 ?_
        refine am_e32n (as := [.ref 39, .int 23, .int 0, .int 0, .int 0]) (la := [some (.ref 39), some (.int 23), some (.int 0), some (.int 0), some (.int 0)]) (rest := []) hi_186_6 (am_hd0 (M := 186) (by decide) 6) (Nat.le_of_ble_eq_true rfl) (Nat.le_of_ble_eq_true rfl) (show 5 ≤ am_P0.2.2.1 179 from by decide +kernel) rfl (am_recv_ok hS1684.fs) rfl rfl (ct_pile (d := (d + 4)) hS1684 hR1687_ (mj_e_plain (by decide)) (by show (0 : Int) ≤ z1681.toInt; omega) (by show z1681.toInt ≤ (65535 : Int); omega)) ?_
        rintro v1688 S1689 (⟨z1690, g'1691, hv1692, hS1693, hR1696, h1694, h1695⟩)
        subst hv1692
        have h1694_ : z1690.toInt = z1681.toInt + 1 := h1694
        have h1695_ : ∀ j, j ∉ [11, 12, 13, 14] → g'1691 j = g'1682 j := h1695
        replace hS1693 : MS S0 S1689 (upd (upd (upd (upd (upd (upd f 4 z1654) 5 y1655) 10 z1690) 62 o1639) 68 s1640) 75 m1641) g'1691 := hS1693
        have hR1696_ : RJ (upd (upd (upd (upd (upd (upd f 4 z1654) 5 y1655) 10 z1690) 62 o1639) 68 s1640) 75 m1641) g'1691 (((23 : Int), (0 : Int), (0 : Int), (0 : Int), []) :: (((30 : Int), (f 4).toInt, (0 : Int), (0 : Int), []) :: (((28 : Int), (0 : Int), (0 : Int), (0 : Int), []) :: gs))) bc [] 0 [] := hR1696
        show am_E _ _ _ _ [some (.ref 39), some (.int 0)] [] _ _
        refine am_e35 hi_186_9 ?_
        show am_E _ _ _ _ [some (.ref 39), some (.int r2), some (.int (f 4)), none] [] _ _
        refine am_e18 hi_211_118 ?_
        refine am_e35 hi_211_249 ?_
        show am_E _ _ _ _ [some (.ref 39), some (.int 28), some (.int on), some (.int tw)] [] _ _
        refine am_e18 hi_181_180 ?_
        refine am_e35 hi_181_397 ?_
        show am_E _ _ _ _ [some (.ref 39), some (.int 28), some (.int on), some (.int tw), some (.int th)] [] _ _
        refine am_e35 hi_180_13 ?_
        have q1 : mg_p1 (((23 : Int), (0 : Int), (0 : Int), (0 : Int), []) :: (((30 : Int), (f 4).toInt, (0 : Int), (0 : Int), []) :: (((28 : Int), (0 : Int), (0 : Int), (0 : Int), []) :: gs))) = 0 + (0 + (0 + (mg_p1 gs))) := rfl
        have q2 : mg_p2 (((23 : Int), (0 : Int), (0 : Int), (0 : Int), []) :: (((30 : Int), (f 4).toInt, (0 : Int), (0 : Int), []) :: (((28 : Int), (0 : Int), (0 : Int), (0 : Int), []) :: gs))) = 0 + (0 + (0 + (mg_p2 gs))) := rfl
        have q3 : mg_p3 (((23 : Int), (0 : Int), (0 : Int), (0 : Int), []) :: (((30 : Int), (f 4).toInt, (0 : Int), (0 : Int), []) :: (((28 : Int), (0 : Int), (0 : Int), (0 : Int), []) :: gs))) = 1 + (1 + (1 + (mg_p3 gs))) := rfl
        have q4 : mg_p4 (((23 : Int), (0 : Int), (0 : Int), (0 : Int), []) :: (((30 : Int), (f 4).toInt, (0 : Int), (0 : Int), []) :: (((28 : Int), (0 : Int), (0 : Int), (0 : Int), []) :: gs))) = 0 + (0 + (0 + (mg_p4 gs))) := rfl
        refine ⟨_, _, _, bc, rfl, hS1693, Or.inl ⟨⟨hR1696_, ?_, ?_⟩, rfl, ?_⟩⟩
        · exact (⟨⟨(show mg_k 23 from by decide), (show (0 : Int) ≤ (f 15).toInt from by omega), (show 0 ≤ (f 20).toInt from by omega), (show 1 ≤ (f 37).toInt from by omega), (show 0 ≤ (f 32).toInt from by omega), (show (f 32).toInt ≤ y1655.toInt from by omega), (show y1655.toInt ≤ 48 from by omega), (show (f 37).toInt ≤ 2 * (y1655.toInt) + 2 from by omega), (show 0 ≤ (0 : Int) from by omega)⟩, ⟨⟨(show mg_k 30 from by decide), (show (2 : Int) ≤ (f 15).toInt + 1 from by omega), (show 0 ≤ (f 20).toInt from by omega), (show 1 ≤ (f 37).toInt + 0 from by omega), (show 0 ≤ (f 32).toInt + 0 from by omega), (show (f 32).toInt + 0 ≤ y1655.toInt + 0 from by omega), (show y1655.toInt + 0 ≤ 48 from by omega), (show (f 37).toInt + 0 ≤ 2 * (y1655.toInt + 0) + 2 from by omega), trivial⟩, ⟨⟨(show mg_k 28 from by decide), (show (1 : Int) ≤ (f 15).toInt + 1 + -1 from by omega), (show 0 ≤ (f 20).toInt from by omega), (show 1 ≤ (f 37).toInt + 0 + 0 from by omega), (show 0 ≤ (f 32).toInt + 0 + 0 from by omega), (show (f 32).toInt + 0 + 0 ≤ y1655.toInt + 0 + -1 from by omega), (show y1655.toInt + 0 + -1 ≤ 48 from by omega), (show (f 37).toInt + 0 + 0 ≤ 2 * (y1655.toInt + 0 + -1) + 2 from by omega), trivial⟩, mg_cast (mg_good_ext _ _ _ _ _ _ (fun i _ => by show g'1691 34 i = g 34 i; rw [show g'1691 34 = g'1682 34 from h1695_ 34 (by decide), show g'1682 34 = g'1673 34 from h1686_ 34 (by decide), show g'1673 34 = g'1642 34 from h1677_ 34 (by decide), show g'1642 34 = g 34 from h1650_ 34 (by decide)]) (fun i _ => by show g'1691 38 i = g 38 i; rw [show g'1691 38 = g'1682 38 from h1695_ 38 (by decide), show g'1682 38 = g'1673 38 from h1686_ 38 (by decide), show g'1673 38 = g'1642 38 from h1677_ 38 (by decide), show g'1642 38 = g 38 from h1650_ 38 (by decide)]) (fun i _ => by show g'1691 23 i = g 23 i; rw [show g'1691 23 = g'1682 23 from h1695_ 23 (by decide), show g'1682 23 = g'1673 23 from h1686_ 23 (by decide), show g'1673 23 = g'1642 23 from h1677_ 23 (by decide), show g'1642 23 = g 23 from h1650_ 23 (by decide)]) hrest) (by show (f 15).toInt + 0 = (f 15).toInt + 1 + -1 + 0; omega) (by show (f 20).toInt = (f 20).toInt; omega) (by show (f 37).toInt + 0 = (f 37).toInt + 0 + 0 + 0; omega) (by show (f 32).toInt + 0 = (f 32).toInt + 0 + 0 + 0; omega) (by show (f 5).toInt + 0 = y1655.toInt + 0 + -1 + 0; omega)⟩⟩⟩ : mg_good (g'1691 34) (g'1691 38) (g'1691 23) (((23 : Int), (0 : Int), (0 : Int), (0 : Int), []) :: (((30 : Int), (f 4).toInt, (0 : Int), (0 : Int), []) :: (((28 : Int), (0 : Int), (0 : Int), (0 : Int), []) :: gs))) ((f 15).toInt) ((f 20).toInt) ((f 37).toInt) ((f 32).toInt) (y1655.toInt))
        · exact ⟨(by show 0 ≤ z1654.toInt; omega), (by show z1654.toInt ≤ (f 0).toInt; omega), (by show (f 0).toInt ≤ 512; omega), (by show 0 ≤ (f 24).toInt; omega), (by show (f 24).toInt + (f 20).toInt + mg_p1 (((23 : Int), (0 : Int), (0 : Int), (0 : Int), []) :: (((30 : Int), (f 4).toInt, (0 : Int), (0 : Int), []) :: (((28 : Int), (0 : Int), (0 : Int), (0 : Int), []) :: gs))) ≤ 4 * z1654.toInt; omega), (by show (f 20).toInt ≤ z1654.toInt; omega), (by show (f 15).toInt + mg_p2 (((23 : Int), (0 : Int), (0 : Int), (0 : Int), []) :: (((30 : Int), (f 4).toInt, (0 : Int), (0 : Int), []) :: (((28 : Int), (0 : Int), (0 : Int), (0 : Int), []) :: gs))) ≤ z1654.toInt; omega), (by show mg_p3 (((23 : Int), (0 : Int), (0 : Int), (0 : Int), []) :: (((30 : Int), (f 4).toInt, (0 : Int), (0 : Int), []) :: (((28 : Int), (0 : Int), (0 : Int), (0 : Int), []) :: gs))) ≤ 20 * z1654.toInt + 20; omega), (by show 0 ≤ s1640.toInt; omega), (by show s1640.toInt + 3 * (f 20).toInt + mg_p4 (((23 : Int), (0 : Int), (0 : Int), (0 : Int), []) :: (((30 : Int), (f 4).toInt, (0 : Int), (0 : Int), []) :: (((28 : Int), (0 : Int), (0 : Int), (0 : Int), []) :: gs))) ≤ 60 * z1654.toInt + 60; omega), (by show 0 ≤ o1639.toInt; omega), (by show o1639.toInt + 64 * mj_n (g'1691 16) (f 15).toNatClampNeg 3 ≤ 64 * z1654.toInt; rw [show g'1691 16 = g'1682 16 from h1695_ 16 (by decide), show g'1682 16 = g'1673 16 from h1686_ 16 (by decide), show g'1673 16 = g'1642 16 from h1677_ 16 (by decide)]; omega), (by show 0 ≤ (f 44).toInt; omega), (by show (f 44).toInt ≤ z1654.toInt; omega), (by show 0 ≤ (f 48).toInt; omega), (by show (f 48).toInt ≤ z1654.toInt; omega), (by show 1 ≤ (f 53).toInt; omega), (by show (f 53).toInt ≤ z1654.toInt + 1; omega), (by show 0 ≤ (f 19).toInt; omega), (by show (f 19).toInt ≤ 600; omega), (by show 0 ≤ (f 6).toInt; omega), (by show 0 ≤ (f 8).toInt; omega)⟩
        · show 100 * ((f 0).toInt - z1654.toInt) + mg_p3 (((23 : Int), (0 : Int), (0 : Int), (0 : Int), []) :: (((30 : Int), (f 4).toInt, (0 : Int), (0 : Int), []) :: (((28 : Int), (0 : Int), (0 : Int), (0 : Int), []) :: gs))) < 100 * ((f 0).toInt - (f 4).toInt) + (1 + mg_p3 gs); omega
      · subst hv1665
        have h1667_ : (0 : Int) ≤ a1663.toInt := h1667
        replace hS1666 : MS S0 S1653 (upd (upd (upd (upd (upd (upd f 6 a1663) 7 b1664) 10 0) 62 o1639) 68 s1640) 75 m1641) g'1642 := hS1666
        have hR1697 := rj_clear0 hR1651_
        have hR1698 : RJ (upd (upd (upd (upd (upd (upd f 6 a1663) 7 b1664) 10 0) 62 o1639) 68 s1640) 75 m1641) g'1642 [] bc [] 0 [] := hR1697
        show am_E _ _ _ _ [some (.ref 39), some (.int r2), some (.int (f 4)), none] [.int 0] _ _
        refine am_e12f hi_211_91 (by decide) ?_
        refine am_e35 hi_211_94 ?_
        show am_E _ _ _ _ [some (.ref 39), some (.int 28), some (.int on), some (.int tw)] [] _ _
        refine am_e18 hi_181_180 ?_
        refine am_e35 hi_181_397 ?_
        show am_E _ _ _ _ [some (.ref 39), some (.int 28), some (.int on), some (.int tw), some (.int th)] [] _ _
        refine am_e35 hi_180_13 ?_
        have hRc := rj_clear0 hR1698
        refine ⟨_, _, [], _, rfl, hS1666, Or.inr ⟨hRc, rfl, (by show 0 ≤ (f 4).toInt; omega), (by show (f 4).toInt ≤ (f 0).toInt; omega), (by show 0 ≤ (f 32).toInt; omega), (by show (f 32).toInt ≤ 63; omega), (by show 1 ≤ (f 53).toInt; omega), (by show (f 53).toInt ≤ 600; omega), (by show 0 ≤ s1640.toInt; omega), (by show s1640.toInt ≤ 60000; omega), (by show 0 ≤ (f 48).toInt; omega), (by show (f 48).toInt ≤ 8000; omega), (by show 0 ≤ (f 37).toInt; omega), (by show (f 37).toInt ≤ 128; omega), (by show 0 ≤ o1639.toInt; omega), (by show o1639.toInt ≤ 65000; omega), (by show 0 ≤ (f 19).toInt; omega), (by show (f 19).toInt ≤ 600; omega), (by show 0 ≤ a1663.toInt; omega), (by show 0 ≤ (f 8).toInt; omega)⟩⟩
  · refine am_e13f hi_211_13 (am_cF (m := r2.toInt) (n := (70 : Int)) rfl (by decide) c7) ?_
    refine am_e2 (v := 39) hi_211_16 rfl ?_
    refine am_e32n (as := [.ref 39]) (la := [some (.ref 39), none, none, none]) (rest := []) hi_211_17 (am_hd0 (M := 211) (by decide) 17) (Nat.le_of_ble_eq_true rfl) (Nat.le_of_ble_eq_true rfl) (show 1 ≤ am_P0.2.2.1 204 from by decide +kernel) rfl (am_recv_ok hS4.fs) rfl rfl (ct_load (d := (d + 3)) hS4 hR  (by show (0 : Int) ≤ (f 32).toInt; omega) (by show (f 32).toInt ≤ (63 : Int); omega) (by show (f 53).toInt ≤ (4096 : Int); omega) (by show (0 : Int) ≤ (f 68).toInt; omega) (by show (f 68).toInt ≤ (65534 : Int); omega) (by show (1 : Int) ≤ (f 15).toInt; omega) (by show (f 15).toInt ≤ (32767 : Int); omega) (by show (0 : Int) ≤ (f 24).toInt; omega) (by show (f 24).toInt ≤ (16384 : Int); omega) (by show (0 : Int) ≤ (f 62).toInt; omega) (by show (f 62).toInt ≤ (65000 : Int); omega)) ?_
    rintro v1699 S1700 (⟨o1701, s1702, m1703, g'1704, hv1705, hS1706, hR1713, h1707, h1708, h1709, h1710, h1711, h1712⟩)
    subst hv1705
    have h1707_ : (f 62).toInt ≤ o1701.toInt := h1707
    have h1708_ : o1701.toInt ≤ (f 62).toInt + 64 := h1708
    have h1709_ : (f 68).toInt ≤ s1702.toInt := h1709
    have h1710_ : s1702.toInt ≤ (f 68).toInt + 1 := h1710
    have h1711_ : o1701.toInt + 64 * mj_n (g'1704 16) (f 15).toNatClampNeg 3 ≤ (f 62).toInt + 64 * mj_n (g 16) (f 15).toNatClampNeg 3 := h1711
    have h1712_ : ∀ j, j ∉ [16, 60, 63, 64, 65, 66, 67, 69, 70, 71, 72, 73] → g'1704 j = g j := h1712
    have hR1713_ : RJ (upd (upd (upd f 62 o1701) 68 s1702) 75 m1703) g'1704 gs bc [] 0 [] := hR1713
    show am_E _ _ _ _ [some (.ref 39), some (.int r2), some (.int (f 4)), none] [] _ _
    refine am_e2 (v := 39) hi_211_20 rfl ?_
    refine am_e7 hi_211_21 ?_
    refine mm_20 (v := .int (f 4)) hS1706 hi_211_22 rfl ?_
    refine am_e0 hi_211_25 ?_
    obtain ⟨z1714, hz1714, tz1714⟩ := am_addI (x := f 4) (y := 1) (m := (f 4).toInt) (n := (1 : Int)) rfl (by decide) (by omega) (by omega)
    refine am_e10 (z := z1714) hi_211_26 hz1714 ?_
    refine mm_21 (v := z1714) hS1706 hi_211_27 rfl (Nat.le_of_ble_eq_true rfl) ms_4 ?_
    intro S1715 hS1716
    replace hS1716 : MS S0 S1715 (upd (upd (upd (upd f 4 z1714) 62 o1701) 68 s1702) 75 m1703) g'1704 := hS1716
    have hR1717 : RJ (upd (upd (upd (upd f 4 z1714) 62 o1701) 68 s1702) 75 m1703) g'1704 gs bc [] 0 [] := RJ.at hR1713_ (by show (f 4).toInt ≤ z1714.toInt; omega)
    refine am_e2 (v := 39) hi_211_30 rfl ?_
    refine am_e0 hi_211_31 ?_
    refine am_e32n (as := [.ref 39, .int 1]) (la := [some (.ref 39), some (.int 1)]) (rest := []) hi_211_32 (am_hd0 (M := 211) (by decide) 32) (Nat.le_of_ble_eq_true rfl) (Nat.le_of_ble_eq_true rfl) (show 2 ≤ am_P0.2.2.1 200 from by decide +kernel) rfl (am_recv_ok hS1716.fs) rfl rfl (ct_take (d := (d + 3)) hS1716   (by show (0 : Int) ≤ z1714.toInt; omega) (by show (f 0).toInt ≤ (16384 : Int); omega) (by show (0 : Int) ≤ (1 : Int); omega) (by show (0 : Int) ≤ (f 6).toInt; omega)) ?_
    rintro v1718 S1719 (⟨z1720, hv1721, hS1722, h1723, h1724⟩ | ⟨a1726, b1727, hv1728, hS1729, h1730⟩)
    · subst hv1721
      have h1723_ : z1720.toInt = z1714.toInt + 1 := h1723
      have h1724_ : z1714.toInt < (f 0).toInt := h1724
      replace hS1722 : MS S0 S1719 (upd (upd (upd (upd f 4 z1720) 62 o1701) 68 s1702) 75 m1703) g'1704 := hS1722
      have hR1732 : RJ (upd (upd (upd (upd f 4 z1720) 62 o1701) 68 s1702) 75 m1703) g'1704 gs bc [] 0 [] := RJ.at hR1717 (by show z1714.toInt ≤ z1720.toInt; omega)
      show am_E _ _ _ _ [some (.ref 39), some (.int r2), some (.int (f 4)), none] [.int 1] _ _
      refine am_e12t hi_211_35 (by decide) ?_
      refine am_e2 (v := 39) hi_211_39 rfl ?_
      refine am_e7 hi_211_40 ?_
      refine mm_20 (v := .int (f 15)) hS1722 hi_211_41 rfl ?_
      refine am_e0 hi_211_44 ?_
      obtain ⟨z1733, hz1733, tz1733⟩ := am_subI (x := f 15) (y := 1) (m := (f 15).toInt) (n := (1 : Int)) rfl (by decide) (by omega) (by omega)
      refine am_e10 (z := z1733) hi_211_45 hz1733 ?_
      refine mm_21 (v := z1733) hS1722 hi_211_46 rfl (Nat.le_of_ble_eq_true rfl) ms_15 ?_
      intro S1734 hS1735
      replace hS1735 : MS S0 S1734 (upd (upd (upd (upd (upd f 4 z1720) 15 z1733) 62 o1701) 68 s1702) 75 m1703) g'1704 := hS1735
      have hp1736 : mj_n (g'1704 16) (f 15).toNatClampNeg 3 = mj_n (g'1704 16) z1733.toNatClampNeg 3 + if (g'1704 16 z1733.toNatClampNeg).toInt = 3 then 1 else 0 := mj_pop (by rw [cl_toNat, cl_toNat]; omega)
      have hp17361 : mj_n (g'1704 16) z1733.toNatClampNeg 3 ≤ mj_n (g'1704 16) (f 15).toNatClampNeg 3 := by rw [hp1736]; split <;> omega
      have hp17362 : (g'1704 16 z1733.toNatClampNeg).toInt = 3 → mj_n (g'1704 16) z1733.toNatClampNeg 3 + 1 ≤ mj_n (g'1704 16) (f 15).toNatClampNeg 3 := fun q => by rw [hp1736, if_pos q]; exact Int.le_refl _
      refine am_e2 (v := 39) hi_211_49 rfl ?_
      refine am_e0 hi_211_50 ?_
      refine am_e2 (v := 39) hi_211_51 rfl ?_
      refine mm_20 (v := .ref 41) hS1735 hi_211_52 rfl ?_
      refine am_e1 (v := f 4) hi_211_55 rfl ?_
      refine am_e0 hi_211_56 ?_
      refine am_e10 (z := z1714) hi_211_57 hz1714 ?_
      refine mm_25 hS1735 ma_2 hi_211_58 (by decide) (by omega) (by omega) ?_
      show am_E _ _ _ _ _ (.int (g'1704 2 z1714.toNatClampNeg) :: _) _ _
      rw [show g'1704 2 = g 2 from h1712_ 2 (by decide)]
      show am_E _ _ _ _ [some (.ref 39), some (.int r2), some (.int (f 4)), none] [.int (g 2 z1714.toNatClampNeg), .int 5, .ref 39] _ _
      refine am_e1 (v := f 4) hi_211_59 rfl ?_
      refine am_e32n (as := [.ref 39, .int 5, .int (g 2 z1714.toNatClampNeg), .int (f 4)]) (la := [some (.ref 39), some (.int 5), some (.int (g 2 z1714.toNatClampNeg)), some (.int (f 4))]) (rest := []) hi_211_60 (am_hd0 (M := 211) (by decide) 60) (Nat.le_of_ble_eq_true rfl) (Nat.le_of_ble_eq_true rfl) (show 4 ≤ am_P0.2.2.1 190 from by decide +kernel) rfl (am_recv_ok hS1735.fs) rfl rfl (ct_value (d := (d + 5)) hS1735 hR1732 (fun h => absurd h (by decide)) (fun h => absurd h (by decide)) (by show (0 : Int) ≤ z1733.toInt; omega) (by show z1733.toInt ≤ (32767 : Int); omega)) ?_
      rintro v1737 S1738 (⟨z1739, g'1740, hv1741, hS1742, hR1747, h1743, h1744, h1745, h1746⟩)
      subst hv1741
      have h1743_ : z1739.toInt = z1733.toInt + 1 := h1743
      have h1744_ : ∀ j, j ∉ [16, 17, 18] → g'1740 j = g'1704 j := h1744
      have h1745_ : mj_n (g'1740 16) z1739.toNatClampNeg 3 ≤ mj_n (g'1704 16) z1733.toNatClampNeg 3 + 1 := h1745
      have h1746_ : (5 : Int) = 3 ∨ mj_n (g'1740 16) z1739.toNatClampNeg 3 ≤ mj_n (g'1704 16) z1733.toNatClampNeg 3 := h1746
      replace hS1742 : MS S0 S1738 (upd (upd (upd (upd (upd f 4 z1720) 15 z1739) 62 o1701) 68 s1702) 75 m1703) g'1740 := hS1742
      have hR1747_ : RJ (upd (upd (upd (upd (upd f 4 z1720) 15 z1739) 62 o1701) 68 s1702) 75 m1703) g'1740 gs bc [] 0 [] := hR1747
      show am_E _ _ _ _ [some (.ref 39), some (.int r2), some (.int (f 4)), none] [] _ _
      refine am_e2 (v := 39) hi_211_63 rfl ?_
      refine am_e0 hi_211_64 ?_
      refine am_e0 hi_211_66 ?_
      refine am_e0 hi_211_67 ?_
      refine am_e0 hi_211_68 ?_
      refine am_e32n (as := [.ref 39, .int 28, .int 0, .int 0, .int 0]) (la := [some (.ref 39), some (.int 28), some (.int 0), some (.int 0), some (.int 0)]) (rest := []) hi_211_69 (am_hd0 (M := 211) (by decide) 69) (Nat.le_of_ble_eq_true rfl) (Nat.le_of_ble_eq_true rfl) (show 5 ≤ am_P0.2.2.1 179 from by decide +kernel) rfl (am_recv_ok hS1742.fs) rfl rfl (ct_pile (d := (d + 5)) hS1742 hR1747_ (mj_e_plain (by decide)) (by show (0 : Int) ≤ (f 10).toInt; omega) (by show (f 10).toInt ≤ (65535 : Int); omega)) ?_
      rintro v1748 S1749 (⟨z1750, g'1751, hv1752, hS1753, hR1756, h1754, h1755⟩)
      subst hv1752
      have h1754_ : z1750.toInt = (f 10).toInt + 1 := h1754
      have h1755_ : ∀ j, j ∉ [11, 12, 13, 14] → g'1751 j = g'1740 j := h1755
      replace hS1753 : MS S0 S1749 (upd (upd (upd (upd (upd (upd f 4 z1720) 10 z1750) 15 z1739) 62 o1701) 68 s1702) 75 m1703) g'1751 := hS1753
      have hR1756_ : RJ (upd (upd (upd (upd (upd (upd f 4 z1720) 10 z1750) 15 z1739) 62 o1701) 68 s1702) 75 m1703) g'1751 (((28 : Int), (0 : Int), (0 : Int), (0 : Int), []) :: gs) bc [] 0 [] := hR1756
      show am_E _ _ _ _ [some (.ref 39), some (.int r2), some (.int (f 4)), none] [] _ _
      refine am_e18 hi_211_72 ?_
      refine am_e35 hi_211_249 ?_
      show am_E _ _ _ _ [some (.ref 39), some (.int 28), some (.int on), some (.int tw)] [] _ _
      refine am_e18 hi_181_180 ?_
      refine am_e35 hi_181_397 ?_
      show am_E _ _ _ _ [some (.ref 39), some (.int 28), some (.int on), some (.int tw), some (.int th)] [] _ _
      refine am_e35 hi_180_13 ?_
      have q1 : mg_p1 (((28 : Int), (0 : Int), (0 : Int), (0 : Int), []) :: gs) = 0 + (mg_p1 gs) := rfl
      have q2 : mg_p2 (((28 : Int), (0 : Int), (0 : Int), (0 : Int), []) :: gs) = 0 + (mg_p2 gs) := rfl
      have q3 : mg_p3 (((28 : Int), (0 : Int), (0 : Int), (0 : Int), []) :: gs) = 1 + (mg_p3 gs) := rfl
      have q4 : mg_p4 (((28 : Int), (0 : Int), (0 : Int), (0 : Int), []) :: gs) = 0 + (mg_p4 gs) := rfl
      refine ⟨_, _, _, bc, rfl, hS1753, Or.inl ⟨⟨hR1756_, ?_, ?_⟩, rfl, ?_⟩⟩
      · exact (⟨⟨(show mg_k 28 from by decide), (show (1 : Int) ≤ z1739.toInt from by omega), (show 0 ≤ (f 20).toInt from by omega), (show 1 ≤ (f 37).toInt from by omega), (show 0 ≤ (f 32).toInt from by omega), (show (f 32).toInt ≤ (f 5).toInt from by omega), (show (f 5).toInt ≤ 48 from by omega), (show (f 37).toInt ≤ 2 * ((f 5).toInt) + 2 from by omega), trivial⟩, mg_cast (mg_good_ext _ _ _ _ _ _ (fun i _ => by show g'1751 34 i = g 34 i; rw [show g'1751 34 = g'1740 34 from h1755_ 34 (by decide), show g'1740 34 = g'1704 34 from h1744_ 34 (by decide), show g'1704 34 = g 34 from h1712_ 34 (by decide)]) (fun i _ => by show g'1751 38 i = g 38 i; rw [show g'1751 38 = g'1740 38 from h1755_ 38 (by decide), show g'1740 38 = g'1704 38 from h1744_ 38 (by decide), show g'1704 38 = g 38 from h1712_ 38 (by decide)]) (fun i _ => by show g'1751 23 i = g 23 i; rw [show g'1751 23 = g'1740 23 from h1755_ 23 (by decide), show g'1740 23 = g'1704 23 from h1744_ 23 (by decide), show g'1704 23 = g 23 from h1712_ 23 (by decide)]) hrest) (by show (f 15).toInt + 0 = z1739.toInt + 0; omega) (by show (f 20).toInt = (f 20).toInt; omega) (by show (f 37).toInt + 0 = (f 37).toInt + 0; omega) (by show (f 32).toInt + 0 = (f 32).toInt + 0; omega) (by show (f 5).toInt + 0 = (f 5).toInt + 0; omega)⟩ : mg_good (g'1751 34) (g'1751 38) (g'1751 23) (((28 : Int), (0 : Int), (0 : Int), (0 : Int), []) :: gs) (z1739.toInt) ((f 20).toInt) ((f 37).toInt) ((f 32).toInt) ((f 5).toInt))
      · exact ⟨(by show 0 ≤ z1720.toInt; omega), (by show z1720.toInt ≤ (f 0).toInt; omega), (by show (f 0).toInt ≤ 512; omega), (by show 0 ≤ (f 24).toInt; omega), (by show (f 24).toInt + (f 20).toInt + mg_p1 (((28 : Int), (0 : Int), (0 : Int), (0 : Int), []) :: gs) ≤ 4 * z1720.toInt; omega), (by show (f 20).toInt ≤ z1720.toInt; omega), (by show z1739.toInt + mg_p2 (((28 : Int), (0 : Int), (0 : Int), (0 : Int), []) :: gs) ≤ z1720.toInt; omega), (by show mg_p3 (((28 : Int), (0 : Int), (0 : Int), (0 : Int), []) :: gs) ≤ 20 * z1720.toInt + 20; omega), (by show 0 ≤ s1702.toInt; omega), (by show s1702.toInt + 3 * (f 20).toInt + mg_p4 (((28 : Int), (0 : Int), (0 : Int), (0 : Int), []) :: gs) ≤ 60 * z1720.toInt + 60; omega), (by show 0 ≤ o1701.toInt; omega), (by show o1701.toInt + 64 * mj_n (g'1751 16) z1739.toNatClampNeg 3 ≤ 64 * z1720.toInt; rw [show g'1751 16 = g'1740 16 from h1755_ 16 (by decide)]; omega), (by show 0 ≤ (f 44).toInt; omega), (by show (f 44).toInt ≤ z1720.toInt; omega), (by show 0 ≤ (f 48).toInt; omega), (by show (f 48).toInt ≤ z1720.toInt; omega), (by show 1 ≤ (f 53).toInt; omega), (by show (f 53).toInt ≤ z1720.toInt + 1; omega), (by show 0 ≤ (f 19).toInt; omega), (by show (f 19).toInt ≤ 600; omega), (by show 0 ≤ (f 6).toInt; omega), (by show 0 ≤ (f 8).toInt; omega)⟩
      · show 100 * ((f 0).toInt - z1720.toInt) + mg_p3 (((28 : Int), (0 : Int), (0 : Int), (0 : Int), []) :: gs) < 100 * ((f 0).toInt - (f 4).toInt) + (1 + mg_p3 gs); omega
    · subst hv1728
      have h1730_ : (0 : Int) ≤ a1726.toInt := h1730
      replace hS1729 : MS S0 S1719 (upd (upd (upd (upd (upd (upd (upd f 4 z1714) 6 a1726) 7 b1727) 10 0) 62 o1701) 68 s1702) 75 m1703) g'1704 := hS1729
      have hR1757 := rj_clear0 hR1717
      have hR1758 : RJ (upd (upd (upd (upd (upd (upd (upd f 4 z1714) 6 a1726) 7 b1727) 10 0) 62 o1701) 68 s1702) 75 m1703) g'1704 [] bc [] 0 [] := hR1757
      show am_E _ _ _ _ [some (.ref 39), some (.int r2), some (.int (f 4)), none] [.int 0] _ _
      refine am_e12f hi_211_35 (by decide) ?_
      refine am_e35 hi_211_38 ?_
      show am_E _ _ _ _ [some (.ref 39), some (.int 28), some (.int on), some (.int tw)] [] _ _
      refine am_e18 hi_181_180 ?_
      refine am_e35 hi_181_397 ?_
      show am_E _ _ _ _ [some (.ref 39), some (.int 28), some (.int on), some (.int tw), some (.int th)] [] _ _
      refine am_e35 hi_180_13 ?_
      have hRc := rj_clear0 hR1758
      refine ⟨_, _, [], _, rfl, hS1729, Or.inr ⟨hRc, rfl, (by show 0 ≤ z1714.toInt; omega), (by show z1714.toInt ≤ (f 0).toInt; omega), (by show 0 ≤ (f 32).toInt; omega), (by show (f 32).toInt ≤ 63; omega), (by show 1 ≤ (f 53).toInt; omega), (by show (f 53).toInt ≤ 600; omega), (by show 0 ≤ s1702.toInt; omega), (by show s1702.toInt ≤ 60000; omega), (by show 0 ≤ (f 48).toInt; omega), (by show (f 48).toInt ≤ 8000; omega), (by show 0 ≤ (f 37).toInt; omega), (by show (f 37).toInt ≤ 128; omega), (by show 0 ≤ o1701.toInt; omega), (by show o1701.toInt ≤ 65000; omega), (by show 0 ≤ (f 19).toInt; omega), (by show (f 19).toInt ≤ 600; omega), (by show 0 ≤ a1726.toInt; omega), (by show 0 ≤ (f 8).toInt; omega)⟩⟩
